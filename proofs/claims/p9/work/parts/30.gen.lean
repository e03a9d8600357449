def g_Cg_due (p0 : Int32) (w_nl : Int32) (G_ : Nat → Nat → Int32) : Int32 :=
  if hIn p0 w_nl G_ then
    G_ 4 (nN (p0 - 1))
  else
    (-1)
set_option maxHeartbeats 4000000 in
set_option maxRecDepth 100000 in
theorem c_Cg_due (l : Launch) (dC : Nat → ClassId) (dI : Nat → Nat → Nat) (adK adV : Nat → Nat) (a_h : Nat) (a_clo : Nat) (k_clo : ClassId) (p0 : Int32) (a_tx : Nat) (a_cru : Nat) (w_nr : Int32) (a_cd : Nat) (a_td : Nat) (a_cki : Nat) (a_cca : Nat) (a_cty : Nat) (a_cio : Nat) (a_cex : Nat) (w_nl : Int32) (a_cfi : Nat) (w_nf : Int32) (a_ccl : Nat) (w_nc : Int32) (aR : Nat → Nat) (F_ : Nat → Nat → Int32) (aL : Nat → Nat) (G_ : Nat → Nat → Int32) (rho : Nat → Nat) (hnl : 0 ≤ w_nl.toInt ∧ w_nl.toInt ≤ 200) : Met l y_C_due ws_C_due ({ frames := 1, cells := 0, slots := 0, locals := 22 }) (va_Pc [.ref a_h, .int p0] (fun U => zz adK adV (fun _ => False) U ∧ va_P (dC, dI) vwCl (([(a_h, .inr (0, [.ref a_tx, .ref a_cru, .int w_nr, .ref a_cd, .ref a_td, .ref a_cki, .ref a_cca, .ref a_cty, .ref a_cio, .ref a_cex, .ref a_clo, .int w_nl, .ref a_cfi, .int w_nf, .ref a_ccl, .int w_nc])), (a_clo, .inl (k_clo, 200, .inr (.inr (.inr (.inr (ruA (nN w_nl) aL))))))] : va_W) ++ plz (nN w_nr) aR F_ (nN w_nl) aL G_ rho) U.heap ∧ va_K (dC, dI) vwCl [(k_clo, .object "LoanRules$Loan")] U)) (vp_Si (fun r => r = g_Cg_due p0 w_nl G_)) 0 0 (fun _ => False) := by
  refine Met.ofW (cc := c_C_due) (maxL := 3) (ret := (some .int)) (by decide) rfl ?_
  intro p e s m args below meth c s₁ B hml hv
  obtain ⟨rfl, hZ, hP, hK⟩ := hv
  have hx := B.exec
  have hb := B.bytes
  have hr := B.returns
  have hts0 := atoms_spec (ws := ws_C_due) B.pre
  have hts : ∀ w ∈ TT, w.before _ s = true := fun w h => hts0 w (List.mem_cons_of_mem _ h)
  have hown : s.vm.findClass "LoanRules" = some m.cls := findClass_of_methodNamed B.named
  have hlocks := B.notSynchronized
  have hS : va_S (fun _ => False) s.heap s.heap [] := va_S.rf
  replace hP : va_P (dC, dI) vwCl (([(a_h, .inr (0, [.ref a_tx, .ref a_cru, .int w_nr, .ref a_cd, .ref a_td, .ref a_cki, .ref a_cca, .ref a_cty, .ref a_cio, .ref a_cex, .ref a_clo, .int w_nl, .ref a_cfi, .int w_nf, .ref a_ccl, .int w_nc])), (a_clo, .inl (k_clo, 200, .inr (.inr (.inr (.inr (ruA (nN w_nl) aL))))))] : va_W) ++ plz (nN w_nr) aR F_ (nN w_nl) aL G_ rho) s.heap := hP
  have hl := lv_entry ([.ref a_h, .int p0]) (n := 3) (Nat.le_of_ble_eq_true rfl)
  rw [lg_entry_eq]
  generalize (lg_sl ([.ref a_h, .int p0]) ++ List.replicate (3 - (lg_sl ([.ref a_h, .int p0])).length) Slot.unset).toArray = ls at hl ⊢
  replace hl : lv_has ls 3 [(0, .ref a_h), (1, .int p0)] := hl
  obtain ⟨z, hz⟩ : ∃ z, z = g_Cg_due p0 w_nl G_ := ⟨_, rfl⟩
  have hE := hz
  rw [g_Cg_due] at hE
  refine lv_aload_n hx hb d_C_due_0 rfl (lv_at hl 0 rfl) ?_
  refine lv_iload_n hx hb d_C_due_1 rfl (lv_at hl 1 rfl) ?_
  have hPc := va_P.part (cx := [(a_h, .inr (0, [.ref a_tx, .ref a_cru, .int w_nr, .ref a_cd, .ref a_td, .ref a_cki, .ref a_cca, .ref a_cty, .ref a_cio, .ref a_cex, .ref a_clo, .int w_nl, .ref a_cfi, .int w_nf, .ref a_ccl, .int w_nc])), (a_clo, .inl (k_clo, 200, .inr (.inr (.inr (.inr (ruA (nN w_nl) aL))))))]) hP [0, 1] rfl
  have hKc := hK.sub (tys' := [(k_clo, .object "LoanRules$Loan")]) [0] rfl
  refine va_csq (va_Run.run (va_runV (As := [.int p0]) (rest := []) ⟨hx, hb, hml, hown, hts⟩ (c_Cg_heldLoan l dC dI adK adV (a_h := a_h) (p0 := p0) (a_tx := a_tx) (a_cru := a_cru) (w_nr := w_nr) (a_cd := a_cd) (a_td := a_td) (a_cki := a_cki) (a_cca := a_cca) (a_cty := a_cty) (a_cio := a_cio) (a_cex := a_cex) (a_clo := a_clo) (w_nl := w_nl) (a_cfi := a_cfi) (w_nf := w_nf) (a_ccl := a_ccl) (w_nc := w_nc) (k_clo := k_clo) (aR := aR) (F_ := F_) (aL := aL) (G_ := G_) (rho := rho) hnl) (cwV 1 hts (gV tw_383 tw_385 tw_11 tw_42 tw_386) rfl rfl rfl (by decide +kernel) ⟨(Nat.le_of_ble_eq_true rfl), (Nat.le_of_ble_eq_true rfl)⟩) ⟨fun a U g mk q => by obtain ⟨q0, qZ, qP, qK⟩ := q; exact ⟨q0, zz_call qZ, qP, va_K.moved (u := U) (U := U.calling g mk a) (Vm.Alike.refl U.vm) qK⟩, va_recv hKc hPc (ci := 0) (q0 := 0) rfl rfl, fun U hU hW => ⟨rfl, zz_rr hU hW hZ, by rw [hU]; exact hPc, va_K.moved hW.alike hKc⟩⟩ rfl rfl hl.1 rfl (lv_room (Nat.le_of_ble_eq_true rfl)) d_C_due_2 ⟨(Nat.le_of_ble_eq_true rfl), (Nat.le_of_ble_eq_true rfl)⟩)) (fun r_1 hw_2 => ?_)
  clear hPc hKc
  subst hw_2
  by_cases c_3 : hIn p0 w_nl G_
  · rw [if_pos c_3] at hE
    refine W.eq (g2 := F0 m 5 ls [.ref (aL (nN (p0 - 1)))]) (by rw [held_some hnl.2 c_3]; rfl) ?_
    refine lv_astore_n (lv' := [(2, .ref (aL (nN (p0 - 1)))), (0, .ref a_h), (1, .int p0)]) hx hb d_C_due_5 rfl hl (by decide) rfl (fun ls hl => ?_)
    refine lv_aload_n hx hb d_C_due_6 rfl (lv_at hl 0 rfl) ?_
    refine lv_ifnonnull (tgt := 14) hx hb d_C_due_7 (by decide) ?_
    refine lv_aload_n hx hb d_C_due_14 rfl (lv_at hl 0 rfl) ?_
    refine va_get (D := (dC, dI)) (ci := 2) (v := .int (G_ 4 (nN (p0 - 1)))) (C := "LoanRules$Loan") (T := Fz_N) (N := 8) hx hb hts it_N hown hK hP _ (plz_l (hIn_lt c_3)) rfl 4 (by decide) (hts _ tw_567) (fun _ h9 => h9) rfl d_C_due_15 ?_
    exact W.iret (v := G_ 4 (nN (p0 - 1))) hx hb hr (fun t ht hW => ⟨G_ 4 (nN (p0 - 1)), rfl, hE.symm.trans hz, ht⟩) (fun _ h => by cases h) d_C_due_18
  · rw [if_neg c_3] at hE
    refine W.eq (g2 := F0 m 5 ls [.null]) (by rw [held_none c_3]; rfl) ?_
    refine lv_astore_nN (lv' := [(2, .null), (0, .ref a_h), (1, .int p0)]) hx hb d_C_due_5 rfl hl (by decide) rfl (fun ls hl => ?_)
    refine lv_aload_nN hx hb d_C_due_6 rfl (lv_at hl 0 rfl) ?_
    refine lv_ifnonnullN hx hb d_C_due_7 ?_
    refine lv_iconst (v := (-1)) hx hb d_C_due_10 (by decide) ?_
    refine lv_goto (tgt := 18) hx hb d_C_due_11 (by decide) ?_
    exact W.iret (v := (-1)) hx hb hr (fun t ht hW => ⟨(-1), rfl, hE.symm.trans hz, ht⟩) (fun _ h => by cases h) d_C_due_18
def g_Cg_renew (p0 : Int32) (p1 : Int32) (w_nl : Int32) (f_cca : Nat → Int32) (f_cw : Nat → Int64) (f_tw : Nat → Int64) (F_ : Nat → Nat → Int32) (G_ : Nat → Nat → Int32) (rho : Nat → Nat) : Int32 × (Nat → Nat → Int32) :=
  if hIn p0 w_nl G_ then
    if (g_Cg_isDay p1) = 0 then
      (0, G_)
    else
      if (g_Cg_causeOf (G_ 0 (nN (p0 - 1))) f_cca) = 0 then
        if (G_ 5 (nN (p0 - 1))) < (F_ 5 (rho (nN (p0 - 1)))) then
          if (F_ 6 (rho (nN (p0 - 1)))) ≤ (p1 - (G_ 3 (nN (p0 - 1)))) then
            if (G_ 6 (nN (p0 - 1))) = 0 then
              if (g_Cg_dueDayByRule p1 f_cw f_tw (F_ 3 (rho (nN (p0 - 1)))) (F_ 4 (rho (nN (p0 - 1))))) = (-1) then
                ((-4), G_)
              else
                (1, up2 (up2 (up2 G_ 5 (nN (p0 - 1)) ((G_ 5 (nN (p0 - 1))) + 1)) 3 (nN (p0 - 1)) p1) 4 (nN (p0 - 1)) (if ((up2 (up2 G_ 5 (nN (p0 - 1)) ((G_ 5 (nN (p0 - 1))) + 1)) 3 (nN (p0 - 1)) p1) 4 (nN (p0 - 1))) < (g_Cg_dueDayByRule p1 f_cw f_tw (F_ 3 (rho (nN (p0 - 1)))) (F_ 4 (rho (nN (p0 - 1))))) then (g_Cg_dueDayByRule p1 f_cw f_tw (F_ 3 (rho (nN (p0 - 1)))) (F_ 4 (rho (nN (p0 - 1))))) else ((up2 (up2 G_ 5 (nN (p0 - 1)) ((G_ 5 (nN (p0 - 1))) + 1)) 3 (nN (p0 - 1)) p1) 4 (nN (p0 - 1)))))
            else
              ((-3), G_)
          else
            ((-2), G_)
        else
          ((-1), G_)
      else
        ((-102) - (g_Cg_causeOf (G_ 0 (nN (p0 - 1))) f_cca), G_)
  else
    (0, G_)
set_option maxHeartbeats 4000000 in
set_option maxRecDepth 100000 in
theorem c_Cg_renew (l : Launch) (dC : Nat → ClassId) (dI : Nat → Nat → Nat) (adK adV : Nat → Nat) (a_h : Nat) (a_cca : Nat) (a_clo : Nat) (a_cd : Nat) (a_cw : Nat) (a_td : Nat) (a_tw : Nat) (k_cca : ClassId) (k_clo : ClassId) (k_cw : ClassId) (k_tw : ClassId) (p0 : Int32) (p1 : Int32) (a_tx : Nat) (a_cru : Nat) (w_nr : Int32) (a_cki : Nat) (a_cty : Nat) (a_cio : Nat) (a_cex : Nat) (w_nl : Int32) (a_cfi : Nat) (w_nf : Int32) (a_ccl : Nat) (w_nc : Int32) (f_cca : Nat → Int32) (f_cw : Nat → Int64) (f_tw : Nat → Int64) (aR : Nat → Nat) (F_ : Nat → Nat → Int32) (aL : Nat → Nat) (G_ : Nat → Nat → Int32) (rho : Nat → Nat) (sz : Nat) (hnl : 0 ≤ w_nl.toInt ∧ w_nl.toInt ≤ 200) (hrho : ∀ i, i < nN w_nl → rho i < nN w_nr) (hf4 : ∀ i, i < nN w_nr → 0 ≤ (F_ 4 i).toInt ∧ (F_ 4 i).toInt ≤ 999) : Met l y_C_renew ws_C_renew ({ frames := 5, cells := 0, slots := 0, locals := 110 }) (va_Pc [.ref a_h, .int p0, .int p1] (fun U => U.heap.size = sz ∧ zz adK adV (va_A (([(a_h, .inr (0, [.ref a_tx, .ref a_cru, .int w_nr, .ref a_cd, .ref a_td, .ref a_cki, .ref a_cca, .ref a_cty, .ref a_cio, .ref a_cex, .ref a_clo, .int w_nl, .ref a_cfi, .int w_nf, .ref a_ccl, .int w_nc])), (a_cca, .inl (k_cca, 50, .inl f_cca)), (a_clo, .inl (k_clo, 200, .inr (.inr (.inr (.inr (ruA (nN w_nl) aL)))))), (a_cd, .inr (1, [.ref a_cw])), (a_cw, .inl (k_cw, 157, .inr (.inl f_cw))), (a_td, .inr (1, [.ref a_tw])), (a_tw, .inl (k_tw, 157, .inr (.inl f_tw)))] : va_W) ++ plz (nN w_nr) aR F_ (nN w_nl) aL G_ rho) sz) U ∧ va_P (dC, dI) vwCl (([(a_h, .inr (0, [.ref a_tx, .ref a_cru, .int w_nr, .ref a_cd, .ref a_td, .ref a_cki, .ref a_cca, .ref a_cty, .ref a_cio, .ref a_cex, .ref a_clo, .int w_nl, .ref a_cfi, .int w_nf, .ref a_ccl, .int w_nc])), (a_cca, .inl (k_cca, 50, .inl f_cca)), (a_clo, .inl (k_clo, 200, .inr (.inr (.inr (.inr (ruA (nN w_nl) aL)))))), (a_cd, .inr (1, [.ref a_cw])), (a_cw, .inl (k_cw, 157, .inr (.inl f_cw))), (a_td, .inr (1, [.ref a_tw])), (a_tw, .inl (k_tw, 157, .inr (.inl f_tw)))] : va_W) ++ plz (nN w_nr) aR F_ (nN w_nl) aL G_ rho) U.heap ∧ va_K (dC, dI) vwCl [(k_cca, .int), (k_clo, .object "LoanRules$Loan"), (k_cw, .long), (k_tw, .long)] U ∧ va_D (fun _ => True) (([(a_h, .inr (0, [.ref a_tx, .ref a_cru, .int w_nr, .ref a_cd, .ref a_td, .ref a_cki, .ref a_cca, .ref a_cty, .ref a_cio, .ref a_cex, .ref a_clo, .int w_nl, .ref a_cfi, .int w_nf, .ref a_ccl, .int w_nc])), (a_cca, .inl (k_cca, 50, .inl f_cca)), (a_clo, .inl (k_clo, 200, .inr (.inr (.inr (.inr (ruA (nN w_nl) aL)))))), (a_cd, .inr (1, [.ref a_cw])), (a_cw, .inl (k_cw, 157, .inr (.inl f_cw))), (a_td, .inr (1, [.ref a_tw])), (a_tw, .inl (k_tw, 157, .inr (.inl f_tw)))] : va_W) ++ plz (nN w_nr) aR F_ (nN w_nl) aL G_ rho))) (va_Qi (fun (r : Int32) (_ : Unit) => r = (g_Cg_renew p0 p1 w_nl f_cca f_cw f_tw F_ G_ rho).1) (fun (_ : Unit) (t : State) => va_P (dC, dI) vwCl (([(a_h, .inr (0, [.ref a_tx, .ref a_cru, .int w_nr, .ref a_cd, .ref a_td, .ref a_cki, .ref a_cca, .ref a_cty, .ref a_cio, .ref a_cex, .ref a_clo, .int w_nl, .ref a_cfi, .int w_nf, .ref a_ccl, .int w_nc])), (a_cca, .inl (k_cca, 50, .inl f_cca)), (a_clo, .inl (k_clo, 200, .inr (.inr (.inr (.inr (ruA (nN w_nl) aL)))))), (a_cd, .inr (1, [.ref a_cw])), (a_cw, .inl (k_cw, 157, .inr (.inl f_cw))), (a_td, .inr (1, [.ref a_tw])), (a_tw, .inl (k_tw, 157, .inr (.inl f_tw)))] : va_W) ++ plz (nN w_nr) aR F_ (nN w_nl) aL ((g_Cg_renew p0 p1 w_nl f_cca f_cw f_tw F_ G_ rho).2) rho) t.heap ∧ va_K (dC, dI) vwCl [(k_cca, .int), (k_clo, .object "LoanRules$Loan"), (k_cw, .long), (k_tw, .long)] t ∧ va_D (va_A (([(a_h, .inr (0, [.ref a_tx, .ref a_cru, .int w_nr, .ref a_cd, .ref a_td, .ref a_cki, .ref a_cca, .ref a_cty, .ref a_cio, .ref a_cex, .ref a_clo, .int w_nl, .ref a_cfi, .int w_nf, .ref a_ccl, .int w_nc])), (a_cca, .inl (k_cca, 50, .inl f_cca)), (a_clo, .inl (k_clo, 200, .inr (.inr (.inr (.inr (ruA (nN w_nl) aL)))))), (a_cd, .inr (1, [.ref a_cw])), (a_cw, .inl (k_cw, 157, .inr (.inl f_cw))), (a_td, .inr (1, [.ref a_tw])), (a_tw, .inl (k_tw, 157, .inr (.inl f_tw)))] : va_W) ++ plz (nN w_nr) aR F_ (nN w_nl) aL G_ rho) sz) (([(a_h, .inr (0, [.ref a_tx, .ref a_cru, .int w_nr, .ref a_cd, .ref a_td, .ref a_cki, .ref a_cca, .ref a_cty, .ref a_cio, .ref a_cex, .ref a_clo, .int w_nl, .ref a_cfi, .int w_nf, .ref a_ccl, .int w_nc])), (a_cca, .inl (k_cca, 50, .inl f_cca)), (a_clo, .inl (k_clo, 200, .inr (.inr (.inr (.inr (ruA (nN w_nl) aL)))))), (a_cd, .inr (1, [.ref a_cw])), (a_cw, .inl (k_cw, 157, .inr (.inl f_cw))), (a_td, .inr (1, [.ref a_tw])), (a_tw, .inl (k_tw, 157, .inr (.inl f_tw)))] : va_W) ++ plz (nN w_nr) aR F_ (nN w_nl) aL ((g_Cg_renew p0 p1 w_nl f_cca f_cw f_tw F_ G_ rho).2) rho)) (va_A (([(a_h, .inr (0, [.ref a_tx, .ref a_cru, .int w_nr, .ref a_cd, .ref a_td, .ref a_cki, .ref a_cca, .ref a_cty, .ref a_cio, .ref a_cex, .ref a_clo, .int w_nl, .ref a_cfi, .int w_nf, .ref a_ccl, .int w_nc])), (a_cca, .inl (k_cca, 50, .inl f_cca)), (a_clo, .inl (k_clo, 200, .inr (.inr (.inr (.inr (ruA (nN w_nl) aL)))))), (a_cd, .inr (1, [.ref a_cw])), (a_cw, .inl (k_cw, 157, .inr (.inl f_cw))), (a_td, .inr (1, [.ref a_tw])), (a_tw, .inl (k_tw, 157, .inr (.inl f_tw)))] : va_W) ++ plz (nN w_nr) aR F_ (nN w_nl) aL G_ rho) sz)) 0 0 (va_A (([(a_h, .inr (0, [.ref a_tx, .ref a_cru, .int w_nr, .ref a_cd, .ref a_td, .ref a_cki, .ref a_cca, .ref a_cty, .ref a_cio, .ref a_cex, .ref a_clo, .int w_nl, .ref a_cfi, .int w_nf, .ref a_ccl, .int w_nc])), (a_cca, .inl (k_cca, 50, .inl f_cca)), (a_clo, .inl (k_clo, 200, .inr (.inr (.inr (.inr (ruA (nN w_nl) aL)))))), (a_cd, .inr (1, [.ref a_cw])), (a_cw, .inl (k_cw, 157, .inr (.inl f_cw))), (a_td, .inr (1, [.ref a_tw])), (a_tw, .inl (k_tw, 157, .inr (.inl f_tw)))] : va_W) ++ plz (nN w_nr) aR F_ (nN w_nl) aL G_ rho) sz) := by
  refine Met.ofW (cc := c_C_renew) (maxL := 6) (ret := (some .int)) (by decide) rfl ?_
  intro p e s m args below meth c s₁ B hml hv
  obtain ⟨rfl, hsz, hZ, hP, hK, hD0⟩ := hv
  have hx := B.exec
  have hb := B.bytes
  have hr := B.returns
  have hts0 := atoms_spec (ws := ws_C_renew) B.pre
  have hts : ∀ w ∈ TT, w.before _ s = true := fun w h => hts0 w (List.mem_cons_of_mem _ h)
  have hown : s.vm.findClass "LoanRules" = some m.cls := findClass_of_methodNamed B.named
  have hlocks := B.notSynchronized
  subst hsz
  have hD := hD0.self (sz := s.heap.size)
  generalize hAe : va_A (([(a_h, .inr (0, [.ref a_tx, .ref a_cru, .int w_nr, .ref a_cd, .ref a_td, .ref a_cki, .ref a_cca, .ref a_cty, .ref a_cio, .ref a_cex, .ref a_clo, .int w_nl, .ref a_cfi, .int w_nf, .ref a_ccl, .int w_nc])), (a_cca, .inl (k_cca, 50, .inl f_cca)), (a_clo, .inl (k_clo, 200, .inr (.inr (.inr (.inr (ruA (nN w_nl) aL)))))), (a_cd, .inr (1, [.ref a_cw])), (a_cw, .inl (k_cw, 157, .inr (.inl f_cw))), (a_td, .inr (1, [.ref a_tw])), (a_tw, .inl (k_tw, 157, .inr (.inl f_tw)))] : va_W) ++ plz (nN w_nr) aR F_ (nN w_nl) aL G_ rho) s.heap.size = A at hD hZ ⊢
  have hA : ∀ q : Nat, s.heap.size ≤ q → A q := fun q h => by rw [← hAe]; exact Or.inr h
  clear hAe hD0
  have hS : va_S A s.heap s.heap [] := va_S.rf
  replace hP : va_P (dC, dI) vwCl (([(a_h, .inr (0, [.ref a_tx, .ref a_cru, .int w_nr, .ref a_cd, .ref a_td, .ref a_cki, .ref a_cca, .ref a_cty, .ref a_cio, .ref a_cex, .ref a_clo, .int w_nl, .ref a_cfi, .int w_nf, .ref a_ccl, .int w_nc])), (a_cca, .inl (k_cca, 50, .inl f_cca)), (a_clo, .inl (k_clo, 200, .inr (.inr (.inr (.inr (ruA (nN w_nl) aL)))))), (a_cd, .inr (1, [.ref a_cw])), (a_cw, .inl (k_cw, 157, .inr (.inl f_cw))), (a_td, .inr (1, [.ref a_tw])), (a_tw, .inl (k_tw, 157, .inr (.inl f_tw)))] : va_W) ++ plz (nN w_nr) aR F_ (nN w_nl) aL G_ rho) s.heap := hP
  have hl := lv_entry ([.ref a_h, .int p0, .int p1]) (n := 6) (Nat.le_of_ble_eq_true rfl)
  rw [lg_entry_eq]
  generalize (lg_sl ([.ref a_h, .int p0, .int p1]) ++ List.replicate (6 - (lg_sl ([.ref a_h, .int p0, .int p1])).length) Slot.unset).toArray = ls at hl ⊢
  replace hl : lv_has ls 6 [(0, .ref a_h), (1, .int p0), (2, .int p1)] := hl
  obtain ⟨z, hz⟩ : ∃ z, z = g_Cg_renew p0 p1 w_nl f_cca f_cw f_tw F_ G_ rho := ⟨_, rfl⟩
  have hE := hz
  rw [g_Cg_renew] at hE
  refine lv_aload_n hx hb d_C_renew_0 rfl (lv_at hl 0 rfl) ?_
  refine lv_iload_n hx hb d_C_renew_1 rfl (lv_at hl 1 rfl) ?_
  have hPc := va_P.part (cx := [(a_h, .inr (0, [.ref a_tx, .ref a_cru, .int w_nr, .ref a_cd, .ref a_td, .ref a_cki, .ref a_cca, .ref a_cty, .ref a_cio, .ref a_cex, .ref a_clo, .int w_nl, .ref a_cfi, .int w_nf, .ref a_ccl, .int w_nc])), (a_clo, .inl (k_clo, 200, .inr (.inr (.inr (.inr (ruA (nN w_nl) aL))))))]) hP [0, 2] rfl
  have hKc := hK.sub (tys' := [(k_clo, .object "LoanRules$Loan")]) [1] rfl
  refine va_csq (va_Run.run (va_runV (As := [.int p0]) (rest := []) ⟨hx, hb, hml, hown, hts⟩ (c_Cg_heldLoan l dC dI adK adV (a_h := a_h) (p0 := p0) (a_tx := a_tx) (a_cru := a_cru) (w_nr := w_nr) (a_cd := a_cd) (a_td := a_td) (a_cki := a_cki) (a_cca := a_cca) (a_cty := a_cty) (a_cio := a_cio) (a_cex := a_cex) (a_clo := a_clo) (w_nl := w_nl) (a_cfi := a_cfi) (w_nf := w_nf) (a_ccl := a_ccl) (w_nc := w_nc) (k_clo := k_clo) (aR := aR) (F_ := F_) (aL := aL) (G_ := G_) (rho := rho) hnl) (cwV 1 hts (gV tw_383 tw_385 tw_11 tw_42 tw_386) rfl rfl rfl (by decide +kernel) ⟨(Nat.le_of_ble_eq_true rfl), (Nat.le_of_ble_eq_true rfl)⟩) ⟨fun a U g mk q => by obtain ⟨q0, qZ, qP, qK⟩ := q; exact ⟨q0, zz_call qZ, qP, va_K.moved (u := U) (U := U.calling g mk a) (Vm.Alike.refl U.vm) qK⟩, va_recv hKc hPc (ci := 0) (q0 := 0) rfl rfl, fun U hU hW => ⟨rfl, zz_ro hS hU hW hZ, by rw [hU]; exact hPc, va_K.moved hW.alike hKc⟩⟩ rfl rfl hl.1 rfl (lv_room (Nat.le_of_ble_eq_true rfl)) d_C_renew_2 ⟨(Nat.le_of_ble_eq_true rfl), (Nat.le_of_ble_eq_true rfl)⟩)) (fun r_1 hw_2 => ?_)
  clear hPc hKc
  subst hw_2
  by_cases c_3 : hIn p0 w_nl G_
  · rw [if_pos c_3] at hE
    refine W.eq (g2 := F0 m 5 ls [.ref (aL (nN (p0 - 1)))]) (by rw [held_some hnl.2 c_3]; rfl) ?_
    refine lv_astore_n (lv' := [(3, .ref (aL (nN (p0 - 1)))), (0, .ref a_h), (1, .int p0), (2, .int p1)]) hx hb d_C_renew_5 rfl hl (by decide) rfl (fun ls hl => ?_)
    refine lv_aload_n hx hb d_C_renew_6 rfl (lv_at hl 0 rfl) ?_
    refine lv_ifnull hx hb d_C_renew_7 ?_
    refine lv_iload_n hx hb d_C_renew_10 rfl (lv_at hl 3 rfl) ?_
    have hPc := hP.sub (ws' := []) [] rfl
    have hKc := hK.sub (tys' := []) [] rfl
    refine vp_callSi (va_Run.run (va_runS (As := [.int p1]) (rest := []) ⟨hx, hb, hml, hown, hts⟩ (c_Cg_isDay l dC dI adK adV (p0 := p1)) (va_cwS 1 hts (gS tw_352 tw_353 tw_42 tw_354) rfl rfl rfl (by decide +kernel) ⟨(Nat.le_of_ble_eq_true rfl), (Nat.le_of_ble_eq_true rfl)⟩) ⟨fun a U g mk q => by obtain ⟨q0, qZ, qP, qK⟩ := q; exact ⟨q0, zz_call qZ, qP, va_K.moved (u := U) (U := U.calling g mk a) (Vm.Alike.refl U.vm) qK⟩, fun U hU hW => ⟨rfl, zz_ro hS hU hW hZ, by rw [hU]; exact hPc, va_K.moved hW.alike hKc⟩⟩ rfl rfl hl.1 rfl (lv_room (Nat.le_of_ble_eq_true rfl)) d_C_renew_11 ⟨(Nat.le_of_ble_eq_true rfl), (Nat.le_of_ble_eq_true rfl)⟩)) (fun r_4 hw_5 => ?_)
    clear hPc hKc
    subst hw_5
    refine lv_if_ne (tgt := 19) hx hb d_C_renew_14 (by decide) (fun c_6 => ?_) (fun c_6 => ?_)
    · rw [if_neg c_6] at hE
      refine lv_aload_n hx hb d_C_renew_19 rfl (lv_at hl 1 rfl) ?_
      refine lv_aload_n hx hb d_C_renew_20 rfl (lv_at hl 0 rfl) ?_
      refine va_get (D := (dC, dI)) (ci := 2) (v := .int (G_ 0 (nN (p0 - 1)))) (C := "LoanRules$Loan") (T := Fz_N) (N := 8) hx hb hts it_N hown hK hP _ (plz_l (hIn_lt c_3)) rfl 0 (by decide) (hts _ tw_559) (fun _ h9 => h9) rfl d_C_renew_21 ?_
      have hPc := hP.sub (ws' := [(a_h, .inr (0, [.ref a_tx, .ref a_cru, .int w_nr, .ref a_cd, .ref a_td, .ref a_cki, .ref a_cca, .ref a_cty, .ref a_cio, .ref a_cex, .ref a_clo, .int w_nl, .ref a_cfi, .int w_nf, .ref a_ccl, .int w_nc])), (a_cca, .inl (k_cca, 50, .inl f_cca))]) [0, 1] rfl
      have hKc := hK.sub (tys' := [(k_cca, .int)]) [0] rfl
      refine vp_callSi (va_Run.run (va_runV (As := [.int (G_ 0 (nN (p0 - 1)))]) (rest := []) ⟨hx, hb, hml, hown, hts⟩ (c_Cg_causeOf l dC dI adK adV (a_h := a_h) (p0 := G_ 0 (nN (p0 - 1))) (a_tx := a_tx) (a_cru := a_cru) (w_nr := w_nr) (a_cd := a_cd) (a_td := a_td) (a_cki := a_cki) (a_cca := a_cca) (a_cty := a_cty) (a_cio := a_cio) (a_cex := a_cex) (a_clo := a_clo) (w_nl := w_nl) (a_cfi := a_cfi) (w_nf := w_nf) (a_ccl := a_ccl) (w_nc := w_nc) (k_cca := k_cca) (f_cca := f_cca)) (cwV 1 hts (gV tw_391 tw_393 tw_12 tw_42 tw_394) rfl rfl rfl (by decide +kernel) ⟨(Nat.le_of_ble_eq_true rfl), (Nat.le_of_ble_eq_true rfl)⟩) ⟨fun a U g mk q => by obtain ⟨q0, qZ, qP, qK⟩ := q; exact ⟨q0, zz_call qZ, qP, va_K.moved (u := U) (U := U.calling g mk a) (Vm.Alike.refl U.vm) qK⟩, va_recv hKc hPc (ci := 0) (q0 := 0) rfl rfl, fun U hU hW => ⟨rfl, zz_ro hS hU hW hZ, by rw [hU]; exact hPc, va_K.moved hW.alike hKc⟩⟩ rfl rfl hl.1 rfl (lv_room (Nat.le_of_ble_eq_true rfl)) d_C_renew_24 ⟨(Nat.le_of_ble_eq_true rfl), (Nat.le_of_ble_eq_true rfl)⟩)) (fun r_7 hw_8 => ?_)
      clear hPc hKc
      subst hw_8
      refine lv_istore (lv' := [(4, .int (g_Cg_causeOf (G_ 0 (nN (p0 - 1))) f_cca)), (3, .ref (aL (nN (p0 - 1)))), (0, .ref a_h), (1, .int p0), (2, .int p1)]) hx hb d_C_renew_27 hl (by decide) rfl (fun ls hl => ?_)
      refine lv_iload hx hb d_C_renew_29 (lv_at hl 0 rfl) ?_
      refine lv_if_eq (tgt := 40) hx hb d_C_renew_31 (by decide) (fun c_9 => ?_) (fun c_9 => ?_)
      · rw [if_pos c_9] at hE
        refine lv_aload_n hx hb d_C_renew_40 rfl (lv_at hl 1 rfl) ?_
        refine va_get (D := (dC, dI)) (ci := 2) (v := .int (G_ 5 (nN (p0 - 1)))) (C := "LoanRules$Loan") (T := Fz_N) (N := 8) hx hb hts it_N hown hK hP _ (plz_l (hIn_lt c_3)) rfl 5 (by decide) (hts _ tw_569) (fun _ h9 => h9) rfl d_C_renew_41 ?_
        refine lv_aload_n hx hb d_C_renew_44 rfl (lv_at hl 1 rfl) ?_
        refine va_get (D := (dC, dI)) (ci := 2) (v := .ref (aR (rho (nN (p0 - 1))))) (C := "LoanRules$Loan") (T := Fz_N) (N := 8) hx hb hts it_N hown hK hP _ (plz_l (hIn_lt c_3)) rfl 2 (by decide) (hts _ tw_563) (fun _ h9 => h9) rfl d_C_renew_45 ?_
        refine va_get (D := (dC, dI)) (ci := 3) (v := .int (F_ 5 (rho (nN (p0 - 1))))) (C := "LoanRules$Rule") (T := Fz_R) (N := 11) hx hb hts it_R hown hK hP _ (plz_r (hrho _ (hIn_lt c_3))) rfl 5 (by decide) (hts _ tw_189) (fun _ h9 => h9) rfl d_C_renew_48 ?_
        refine lv_icmp_lt (tgt := 56) hx hb d_C_renew_51 (by decide) (fun c_10 => ?_) (fun c_10 => ?_)
        · rw [if_pos c_10] at hE
          refine lv_iload_n hx hb d_C_renew_56 rfl (lv_at hl 4 rfl) ?_
          refine lv_aload_n hx hb d_C_renew_57 rfl (lv_at hl 1 rfl) ?_
          refine va_get (D := (dC, dI)) (ci := 2) (v := .int (G_ 3 (nN (p0 - 1)))) (C := "LoanRules$Loan") (T := Fz_N) (N := 8) hx hb hts it_N hown hK hP _ (plz_l (hIn_lt c_3)) rfl 3 (by decide) (hts _ tw_565) (fun _ h9 => h9) rfl d_C_renew_58 ?_
          refine lv_isub hx hb d_C_renew_61 ?_
          refine lv_aload_n hx hb d_C_renew_62 rfl (lv_at hl 1 rfl) ?_
          refine va_get (D := (dC, dI)) (ci := 2) (v := .ref (aR (rho (nN (p0 - 1))))) (C := "LoanRules$Loan") (T := Fz_N) (N := 8) hx hb hts it_N hown hK hP _ (plz_l (hIn_lt c_3)) rfl 2 (by decide) (hts _ tw_563) (fun _ h9 => h9) rfl d_C_renew_63 ?_
          refine va_get (D := (dC, dI)) (ci := 3) (v := .int (F_ 6 (rho (nN (p0 - 1))))) (C := "LoanRules$Rule") (T := Fz_R) (N := 11) hx hb hts it_R hown hK hP _ (plz_r (hrho _ (hIn_lt c_3))) rfl 6 (by decide) (hts _ tw_192) (fun _ h9 => h9) rfl d_C_renew_66 ?_
          refine lv_icmp_ge (tgt := 75) hx hb d_C_renew_69 (by decide) (fun c_11 => ?_) (fun c_11 => ?_)
          · rw [if_pos c_11] at hE
            refine lv_aload_n hx hb d_C_renew_75 rfl (lv_at hl 1 rfl) ?_
            refine va_get (D := (dC, dI)) (ci := 2) (v := .int (G_ 6 (nN (p0 - 1)))) (C := "LoanRules$Loan") (T := Fz_N) (N := 8) hx hb hts it_N hown hK hP _ (plz_l (hIn_lt c_3)) rfl 6 (by decide) (hts _ tw_571) (fun _ h9 => h9) rfl d_C_renew_76 ?_
            refine lv_if_eq (tgt := 85) hx hb d_C_renew_79 (by decide) (fun c_12 => ?_) (fun c_12 => ?_)
            · rw [if_pos c_12] at hE
              refine lv_aload_n hx hb d_C_renew_85 rfl (lv_at hl 2 rfl) ?_
              refine lv_aload_n hx hb d_C_renew_86 rfl (lv_at hl 1 rfl) ?_
              refine va_get (D := (dC, dI)) (ci := 2) (v := .ref (aR (rho (nN (p0 - 1))))) (C := "LoanRules$Loan") (T := Fz_N) (N := 8) hx hb hts it_N hown hK hP _ (plz_l (hIn_lt c_3)) rfl 2 (by decide) (hts _ tw_563) (fun _ h9 => h9) rfl d_C_renew_87 ?_
              refine lv_iload_n hx hb d_C_renew_90 rfl (lv_at hl 4 rfl) ?_
              have hP1 := vP_one hP (plz_r (hrho _ (hIn_lt c_3)))
              have hPc := hP1.sub (ws' := [(a_h, .inr (0, [.ref a_tx, .ref a_cru, .int w_nr, .ref a_cd, .ref a_td, .ref a_cki, .ref a_cca, .ref a_cty, .ref a_cio, .ref a_cex, .ref a_clo, .int w_nl, .ref a_cfi, .int w_nf, .ref a_ccl, .int w_nc])), (a_cd, .inr (1, [.ref a_cw])), (a_cw, .inl (k_cw, 157, .inr (.inl f_cw))), (a_td, .inr (1, [.ref a_tw])), (a_tw, .inl (k_tw, 157, .inr (.inl f_tw))), ((aR (rho (nN (p0 - 1)))), .inr (3, [.int (F_ 0 (rho (nN (p0 - 1)))), .int (F_ 1 (rho (nN (p0 - 1)))), .int (F_ 2 (rho (nN (p0 - 1)))), .int (F_ 3 (rho (nN (p0 - 1)))), .int (F_ 4 (rho (nN (p0 - 1)))), .int (F_ 5 (rho (nN (p0 - 1)))), .int (F_ 6 (rho (nN (p0 - 1)))), .int (F_ 7 (rho (nN (p0 - 1)))), .int (F_ 8 (rho (nN (p0 - 1)))), .int (F_ 9 (rho (nN (p0 - 1)))), .int (F_ 10 (rho (nN (p0 - 1))))]))]) [0, 3, 4, 5, 6, 7] rfl
              clear hP1
              have hKc := hK.sub (tys' := [(k_cw, .long), (k_tw, .long)]) [2, 3] rfl
              refine vp_callSi (va_Run.run (va_runV (As := [.ref (aR (rho (nN (p0 - 1)))), .int p1]) (rest := []) ⟨hx, hb, hml, hown, hts⟩ (c_Cg_dueDayByRule l dC dI adK adV (a_h := a_h) (a_to := (aR (rho (nN (p0 - 1))))) (p0 := p1) (a_tx := a_tx) (a_cru := a_cru) (w_nr := w_nr) (a_cd := a_cd) (a_td := a_td) (a_cki := a_cki) (a_cca := a_cca) (a_cty := a_cty) (a_cio := a_cio) (a_cex := a_cex) (a_clo := a_clo) (w_nl := w_nl) (a_cfi := a_cfi) (w_nf := w_nf) (a_ccl := a_ccl) (w_nc := w_nc) (a_cw := a_cw) (k_cw := k_cw) (f_cw := f_cw) (a_tw := a_tw) (k_tw := k_tw) (f_tw := f_tw) (r_ki := F_ 0 (rho (nN (p0 - 1)))) (r_ty := F_ 1 (rho (nN (p0 - 1)))) (r_pe := F_ 2 (rho (nN (p0 - 1)))) (r_de := F_ 3 (rho (nN (p0 - 1)))) (r_da := F_ 4 (rho (nN (p0 - 1)))) (r_re := F_ 5 (rho (nN (p0 - 1)))) (r_ga := F_ 6 (rho (nN (p0 - 1)))) (r_rc := F_ 7 (rho (nN (p0 - 1)))) (r_rk := F_ 8 (rho (nN (p0 - 1)))) (r_me := F_ 9 (rho (nN (p0 - 1)))) (r_le := F_ 10 (rho (nN (p0 - 1)))) (dayC c_6) (hf4 _ (hrho _ (hIn_lt c_3)))) (cwV 2 hts (gV tw_395 tw_397 tw_13 tw_42 tw_398) rfl rfl rfl (by decide +kernel) ⟨(Nat.le_of_ble_eq_true rfl), (Nat.le_of_ble_eq_true rfl)⟩) ⟨fun a U g mk q => by obtain ⟨q0, qZ, qP, qK⟩ := q; exact ⟨q0, zz_call qZ, qP, va_K.moved (u := U) (U := U.calling g mk a) (Vm.Alike.refl U.vm) qK⟩, va_recv hKc hPc (ci := 0) (q0 := 0) rfl rfl, fun U hU hW => ⟨rfl, zz_ro hS hU hW hZ, by rw [hU]; exact hPc, va_K.moved hW.alike hKc⟩⟩ rfl rfl hl.1 rfl (lv_room (Nat.le_of_ble_eq_true rfl)) d_C_renew_91 ⟨(Nat.le_of_ble_eq_true rfl), (Nat.le_of_ble_eq_true rfl)⟩)) (fun r_13 hw_14 => ?_)
              clear hPc hKc
              subst hw_14
              refine lv_istore (lv' := [(5, .int (g_Cg_dueDayByRule p1 f_cw f_tw (F_ 3 (rho (nN (p0 - 1)))) (F_ 4 (rho (nN (p0 - 1)))))), (4, .int (g_Cg_causeOf (G_ 0 (nN (p0 - 1))) f_cca)), (3, .ref (aL (nN (p0 - 1)))), (0, .ref a_h), (1, .int p0), (2, .int p1)]) hx hb d_C_renew_94 hl (by decide) rfl (fun ls hl => ?_)
              refine lv_iload hx hb d_C_renew_96 (lv_at hl 0 rfl) ?_
              refine lv_iconst (v := (-1)) hx hb d_C_renew_98 (by decide) ?_
              refine lv_icmp_ne (tgt := 105) hx hb d_C_renew_99 (by decide) (fun c_15 => ?_) (fun c_15 => ?_)
              · rw [if_neg c_15] at hE
                refine lv_aload_n hx hb d_C_renew_105 rfl (lv_at hl 2 rfl) ?_
                refine lv_dup hx hb d_C_renew_106 rfl ?_
                refine va_get (D := (dC, dI)) (ci := 2) (v := .int (G_ 5 (nN (p0 - 1)))) (C := "LoanRules$Loan") (T := Fz_N) (N := 8) hx hb hts it_N hown hK hP _ (plz_l (hIn_lt c_3)) rfl 5 (by decide) (hts _ tw_569) (fun _ h9 => h9) rfl d_C_renew_107 ?_
                refine lv_iconst (v := 1) hx hb d_C_renew_110 (by decide) ?_
                refine lv_iadd hx hb d_C_renew_111 ?_
                refine va_put (D := (dC, dI)) (ci := 2) (v := .int ((G_ 5 (nN (p0 - 1))) + 1)) (ty := .int) (C := "LoanRules$Loan") (T := Fz_N) (N := 8) hx hb hts it_N tz_N tz_N_ok nz_N hown hK hP hD hS _ (plz_l (hIn_lt c_3)) rfl 5 (by decide) (hts _ tw_569) (fun _ h9 => h9) rfl (by decide +kernel) rfl rfl (Nat.le_of_ble_eq_true rfl) d_C_renew_112 (fun H locs hP hD hS => ?_)
                replace hP := vP_lput 5 ((G_ 5 (nN (p0 - 1))) + 1) (hIn_lt c_3) (by simp [up2]) hP
                replace hD := vD_lput 5 ((G_ 5 (nN (p0 - 1))) + 1) (hIn_lt c_3) (by simp [up2]) hD
                replace hP : va_P (dC, dI) vwCl (([(a_h, .inr (0, [.ref a_tx, .ref a_cru, .int w_nr, .ref a_cd, .ref a_td, .ref a_cki, .ref a_cca, .ref a_cty, .ref a_cio, .ref a_cex, .ref a_clo, .int w_nl, .ref a_cfi, .int w_nf, .ref a_ccl, .int w_nc])), (a_cca, .inl (k_cca, 50, .inl f_cca)), (a_clo, .inl (k_clo, 200, .inr (.inr (.inr (.inr (ruA (nN w_nl) aL)))))), (a_cd, .inr (1, [.ref a_cw])), (a_cw, .inl (k_cw, 157, .inr (.inl f_cw))), (a_td, .inr (1, [.ref a_tw])), (a_tw, .inl (k_tw, 157, .inr (.inl f_tw)))] : va_W) ++ plz (nN w_nr) aR F_ (nN w_nl) aL (up2 G_ 5 (nN (p0 - 1)) ((G_ 5 (nN (p0 - 1))) + 1)) rho) H := hP
                replace hD : va_D A (([(a_h, .inr (0, [.ref a_tx, .ref a_cru, .int w_nr, .ref a_cd, .ref a_td, .ref a_cki, .ref a_cca, .ref a_cty, .ref a_cio, .ref a_cex, .ref a_clo, .int w_nl, .ref a_cfi, .int w_nf, .ref a_ccl, .int w_nc])), (a_cca, .inl (k_cca, 50, .inl f_cca)), (a_clo, .inl (k_clo, 200, .inr (.inr (.inr (.inr (ruA (nN w_nl) aL)))))), (a_cd, .inr (1, [.ref a_cw])), (a_cw, .inl (k_cw, 157, .inr (.inl f_cw))), (a_td, .inr (1, [.ref a_tw])), (a_tw, .inl (k_tw, 157, .inr (.inl f_tw)))] : va_W) ++ plz (nN w_nr) aR F_ (nN w_nl) aL (up2 G_ 5 (nN (p0 - 1)) ((G_ 5 (nN (p0 - 1))) + 1)) rho) := hD
                refine lv_aload_n hx hb d_C_renew_115 rfl (lv_at hl 2 rfl) ?_
                refine lv_iload_n hx hb d_C_renew_116 rfl (lv_at hl 5 rfl) ?_
                refine va_put (D := (dC, dI)) (ci := 2) (v := .int p1) (ty := .int) (C := "LoanRules$Loan") (T := Fz_N) (N := 8) hx hb hts it_N tz_N tz_N_ok nz_N hown hK hP hD hS _ (plz_l (hIn_lt c_3)) rfl 3 (by decide) (hts _ tw_565) (fun _ h9 => h9) rfl (by decide +kernel) rfl rfl (Nat.le_of_ble_eq_true rfl) d_C_renew_117 (fun H locs hP hD hS => ?_)
                replace hP := vP_lput 3 p1 (hIn_lt c_3) (by simp [up2]) hP
                replace hD := vD_lput 3 p1 (hIn_lt c_3) (by simp [up2]) hD
                replace hP : va_P (dC, dI) vwCl (([(a_h, .inr (0, [.ref a_tx, .ref a_cru, .int w_nr, .ref a_cd, .ref a_td, .ref a_cki, .ref a_cca, .ref a_cty, .ref a_cio, .ref a_cex, .ref a_clo, .int w_nl, .ref a_cfi, .int w_nf, .ref a_ccl, .int w_nc])), (a_cca, .inl (k_cca, 50, .inl f_cca)), (a_clo, .inl (k_clo, 200, .inr (.inr (.inr (.inr (ruA (nN w_nl) aL)))))), (a_cd, .inr (1, [.ref a_cw])), (a_cw, .inl (k_cw, 157, .inr (.inl f_cw))), (a_td, .inr (1, [.ref a_tw])), (a_tw, .inl (k_tw, 157, .inr (.inl f_tw)))] : va_W) ++ plz (nN w_nr) aR F_ (nN w_nl) aL (up2 (up2 G_ 5 (nN (p0 - 1)) ((G_ 5 (nN (p0 - 1))) + 1)) 3 (nN (p0 - 1)) p1) rho) H := hP
                replace hD : va_D A (([(a_h, .inr (0, [.ref a_tx, .ref a_cru, .int w_nr, .ref a_cd, .ref a_td, .ref a_cki, .ref a_cca, .ref a_cty, .ref a_cio, .ref a_cex, .ref a_clo, .int w_nl, .ref a_cfi, .int w_nf, .ref a_ccl, .int w_nc])), (a_cca, .inl (k_cca, 50, .inl f_cca)), (a_clo, .inl (k_clo, 200, .inr (.inr (.inr (.inr (ruA (nN w_nl) aL)))))), (a_cd, .inr (1, [.ref a_cw])), (a_cw, .inl (k_cw, 157, .inr (.inl f_cw))), (a_td, .inr (1, [.ref a_tw])), (a_tw, .inl (k_tw, 157, .inr (.inl f_tw)))] : va_W) ++ plz (nN w_nr) aR F_ (nN w_nl) aL (up2 (up2 G_ 5 (nN (p0 - 1)) ((G_ 5 (nN (p0 - 1))) + 1)) 3 (nN (p0 - 1)) p1) rho) := hD
                refine lv_aload_n hx hb d_C_renew_120 rfl (lv_at hl 2 rfl) ?_
                refine lv_aload_n hx hb d_C_renew_121 rfl (lv_at hl 2 rfl) ?_
                refine va_get (D := (dC, dI)) (ci := 2) (v := .int ((up2 (up2 G_ 5 (nN (p0 - 1)) ((G_ 5 (nN (p0 - 1))) + 1)) 3 (nN (p0 - 1)) p1) 4 (nN (p0 - 1)))) (C := "LoanRules$Loan") (T := Fz_N) (N := 8) hx hb hts it_N hown hK hP _ (plz_l (hIn_lt c_3)) rfl 4 (by decide) (hts _ tw_567) (fun _ h9 => h9) rfl d_C_renew_122 ?_
                refine lv_iload hx hb d_C_renew_125 (lv_at hl 0 rfl) ?_
                refine va_mmax hx hb (by rw [hml]; exact hl.1.symm) hown (hts _ tw_411) (hts _ tw_408) (hts _ tw_56) (hts _ tw_409) (Nat.le_of_ble_eq_true rfl) (Nat.le_of_ble_eq_true rfl) (Nat.le_of_ble_eq_true rfl) (Nat.le_of_ble_eq_true rfl) d_C_renew_127 ?_
                refine va_put (D := (dC, dI)) (ci := 2) (v := .int (if ((up2 (up2 G_ 5 (nN (p0 - 1)) ((G_ 5 (nN (p0 - 1))) + 1)) 3 (nN (p0 - 1)) p1) 4 (nN (p0 - 1))) < (g_Cg_dueDayByRule p1 f_cw f_tw (F_ 3 (rho (nN (p0 - 1)))) (F_ 4 (rho (nN (p0 - 1))))) then (g_Cg_dueDayByRule p1 f_cw f_tw (F_ 3 (rho (nN (p0 - 1)))) (F_ 4 (rho (nN (p0 - 1))))) else ((up2 (up2 G_ 5 (nN (p0 - 1)) ((G_ 5 (nN (p0 - 1))) + 1)) 3 (nN (p0 - 1)) p1) 4 (nN (p0 - 1))))) (ty := .int) (C := "LoanRules$Loan") (T := Fz_N) (N := 8) hx hb hts it_N tz_N tz_N_ok nz_N hown hK hP hD hS _ (plz_l (hIn_lt c_3)) rfl 4 (by decide) (hts _ tw_567) (fun _ h9 => h9) rfl (by decide +kernel) rfl rfl (Nat.le_of_ble_eq_true rfl) d_C_renew_130 (fun H locs hP hD hS => ?_)
                replace hP := vP_lput 4 (if ((up2 (up2 G_ 5 (nN (p0 - 1)) ((G_ 5 (nN (p0 - 1))) + 1)) 3 (nN (p0 - 1)) p1) 4 (nN (p0 - 1))) < (g_Cg_dueDayByRule p1 f_cw f_tw (F_ 3 (rho (nN (p0 - 1)))) (F_ 4 (rho (nN (p0 - 1))))) then (g_Cg_dueDayByRule p1 f_cw f_tw (F_ 3 (rho (nN (p0 - 1)))) (F_ 4 (rho (nN (p0 - 1))))) else ((up2 (up2 G_ 5 (nN (p0 - 1)) ((G_ 5 (nN (p0 - 1))) + 1)) 3 (nN (p0 - 1)) p1) 4 (nN (p0 - 1)))) (hIn_lt c_3) (by simp [up2]) hP
                replace hD := vD_lput 4 (if ((up2 (up2 G_ 5 (nN (p0 - 1)) ((G_ 5 (nN (p0 - 1))) + 1)) 3 (nN (p0 - 1)) p1) 4 (nN (p0 - 1))) < (g_Cg_dueDayByRule p1 f_cw f_tw (F_ 3 (rho (nN (p0 - 1)))) (F_ 4 (rho (nN (p0 - 1))))) then (g_Cg_dueDayByRule p1 f_cw f_tw (F_ 3 (rho (nN (p0 - 1)))) (F_ 4 (rho (nN (p0 - 1))))) else ((up2 (up2 G_ 5 (nN (p0 - 1)) ((G_ 5 (nN (p0 - 1))) + 1)) 3 (nN (p0 - 1)) p1) 4 (nN (p0 - 1)))) (hIn_lt c_3) (by simp [up2]) hD
                replace hP : va_P (dC, dI) vwCl (([(a_h, .inr (0, [.ref a_tx, .ref a_cru, .int w_nr, .ref a_cd, .ref a_td, .ref a_cki, .ref a_cca, .ref a_cty, .ref a_cio, .ref a_cex, .ref a_clo, .int w_nl, .ref a_cfi, .int w_nf, .ref a_ccl, .int w_nc])), (a_cca, .inl (k_cca, 50, .inl f_cca)), (a_clo, .inl (k_clo, 200, .inr (.inr (.inr (.inr (ruA (nN w_nl) aL)))))), (a_cd, .inr (1, [.ref a_cw])), (a_cw, .inl (k_cw, 157, .inr (.inl f_cw))), (a_td, .inr (1, [.ref a_tw])), (a_tw, .inl (k_tw, 157, .inr (.inl f_tw)))] : va_W) ++ plz (nN w_nr) aR F_ (nN w_nl) aL (up2 (up2 (up2 G_ 5 (nN (p0 - 1)) ((G_ 5 (nN (p0 - 1))) + 1)) 3 (nN (p0 - 1)) p1) 4 (nN (p0 - 1)) (if ((up2 (up2 G_ 5 (nN (p0 - 1)) ((G_ 5 (nN (p0 - 1))) + 1)) 3 (nN (p0 - 1)) p1) 4 (nN (p0 - 1))) < (g_Cg_dueDayByRule p1 f_cw f_tw (F_ 3 (rho (nN (p0 - 1)))) (F_ 4 (rho (nN (p0 - 1))))) then (g_Cg_dueDayByRule p1 f_cw f_tw (F_ 3 (rho (nN (p0 - 1)))) (F_ 4 (rho (nN (p0 - 1))))) else ((up2 (up2 G_ 5 (nN (p0 - 1)) ((G_ 5 (nN (p0 - 1))) + 1)) 3 (nN (p0 - 1)) p1) 4 (nN (p0 - 1))))) rho) H := hP
                replace hD : va_D A (([(a_h, .inr (0, [.ref a_tx, .ref a_cru, .int w_nr, .ref a_cd, .ref a_td, .ref a_cki, .ref a_cca, .ref a_cty, .ref a_cio, .ref a_cex, .ref a_clo, .int w_nl, .ref a_cfi, .int w_nf, .ref a_ccl, .int w_nc])), (a_cca, .inl (k_cca, 50, .inl f_cca)), (a_clo, .inl (k_clo, 200, .inr (.inr (.inr (.inr (ruA (nN w_nl) aL)))))), (a_cd, .inr (1, [.ref a_cw])), (a_cw, .inl (k_cw, 157, .inr (.inl f_cw))), (a_td, .inr (1, [.ref a_tw])), (a_tw, .inl (k_tw, 157, .inr (.inl f_tw)))] : va_W) ++ plz (nN w_nr) aR F_ (nN w_nl) aL (up2 (up2 (up2 G_ 5 (nN (p0 - 1)) ((G_ 5 (nN (p0 - 1))) + 1)) 3 (nN (p0 - 1)) p1) 4 (nN (p0 - 1)) (if ((up2 (up2 G_ 5 (nN (p0 - 1)) ((G_ 5 (nN (p0 - 1))) + 1)) 3 (nN (p0 - 1)) p1) 4 (nN (p0 - 1))) < (g_Cg_dueDayByRule p1 f_cw f_tw (F_ 3 (rho (nN (p0 - 1)))) (F_ 4 (rho (nN (p0 - 1))))) then (g_Cg_dueDayByRule p1 f_cw f_tw (F_ 3 (rho (nN (p0 - 1)))) (F_ 4 (rho (nN (p0 - 1))))) else ((up2 (up2 G_ 5 (nN (p0 - 1)) ((G_ 5 (nN (p0 - 1))) + 1)) 3 (nN (p0 - 1)) p1) 4 (nN (p0 - 1))))) rho) := hD
                refine lv_iconst (v := 1) hx hb d_C_renew_133 (by decide) ?_
                have hP9 := va_P.part (cx := [(a_h, .inr (0, [.ref a_tx, .ref a_cru, .int w_nr, .ref a_cd, .ref a_td, .ref a_cki, .ref a_cca, .ref a_cty, .ref a_cio, .ref a_cex, .ref a_clo, .int w_nl, .ref a_cfi, .int w_nf, .ref a_ccl, .int w_nc])), (a_cca, .inl (k_cca, 50, .inl f_cca)), (a_clo, .inl (k_clo, 200, .inr (.inr (.inr (.inr (ruA (nN w_nl) aL)))))), (a_cd, .inr (1, [.ref a_cw])), (a_cw, .inl (k_cw, 157, .inr (.inl f_cw))), (a_td, .inr (1, [.ref a_tw])), (a_tw, .inl (k_tw, 157, .inr (.inl f_tw)))]) hP [0, 1, 2, 3, 4, 5, 6] rfl
                have hD9 := va_D.part (cx := [(a_h, .inr (0, [.ref a_tx, .ref a_cru, .int w_nr, .ref a_cd, .ref a_td, .ref a_cki, .ref a_cca, .ref a_cty, .ref a_cio, .ref a_cex, .ref a_clo, .int w_nl, .ref a_cfi, .int w_nf, .ref a_ccl, .int w_nc])), (a_cca, .inl (k_cca, 50, .inl f_cca)), (a_clo, .inl (k_clo, 200, .inr (.inr (.inr (.inr (ruA (nN w_nl) aL)))))), (a_cd, .inr (1, [.ref a_cw])), (a_cw, .inl (k_cw, 157, .inr (.inl f_cw))), (a_td, .inr (1, [.ref a_tw])), (a_tw, .inl (k_tw, 157, .inr (.inl f_tw)))]) hD [0, 1, 2, 3, 4, 5, 6] (by decide) rfl
                have hK9 := hK.sub (tys' := [(k_cca, .int), (k_clo, .object "LoanRules$Loan"), (k_cw, .long), (k_tw, .long)]) [0, 1, 2, 3] rfl
                exact W.iret (v := 1) hx hb hr (fun t ht hW => ⟨⟨1, (), rfl, by rw [← hz, hE], by rw [ht, ← hz, hE]; exact hP9, va_K.moved hW.alike hK9, by rw [← hz, hE]; exact hD9⟩, hS.F ht⟩) hS.2.2 d_C_renew_134
              · rw [if_pos c_15] at hE
                refine lv_bipush (v := (-4)) hx hb d_C_renew_102 (by decide) ?_
                have hP9 := va_P.part (cx := [(a_h, .inr (0, [.ref a_tx, .ref a_cru, .int w_nr, .ref a_cd, .ref a_td, .ref a_cki, .ref a_cca, .ref a_cty, .ref a_cio, .ref a_cex, .ref a_clo, .int w_nl, .ref a_cfi, .int w_nf, .ref a_ccl, .int w_nc])), (a_cca, .inl (k_cca, 50, .inl f_cca)), (a_clo, .inl (k_clo, 200, .inr (.inr (.inr (.inr (ruA (nN w_nl) aL)))))), (a_cd, .inr (1, [.ref a_cw])), (a_cw, .inl (k_cw, 157, .inr (.inl f_cw))), (a_td, .inr (1, [.ref a_tw])), (a_tw, .inl (k_tw, 157, .inr (.inl f_tw)))]) hP [0, 1, 2, 3, 4, 5, 6] rfl
                have hD9 := va_D.part (cx := [(a_h, .inr (0, [.ref a_tx, .ref a_cru, .int w_nr, .ref a_cd, .ref a_td, .ref a_cki, .ref a_cca, .ref a_cty, .ref a_cio, .ref a_cex, .ref a_clo, .int w_nl, .ref a_cfi, .int w_nf, .ref a_ccl, .int w_nc])), (a_cca, .inl (k_cca, 50, .inl f_cca)), (a_clo, .inl (k_clo, 200, .inr (.inr (.inr (.inr (ruA (nN w_nl) aL)))))), (a_cd, .inr (1, [.ref a_cw])), (a_cw, .inl (k_cw, 157, .inr (.inl f_cw))), (a_td, .inr (1, [.ref a_tw])), (a_tw, .inl (k_tw, 157, .inr (.inl f_tw)))]) hD [0, 1, 2, 3, 4, 5, 6] (by decide) rfl
                have hK9 := hK.sub (tys' := [(k_cca, .int), (k_clo, .object "LoanRules$Loan"), (k_cw, .long), (k_tw, .long)]) [0, 1, 2, 3] rfl
                exact W.iret (v := (-4)) hx hb hr (fun t ht hW => ⟨⟨(-4), (), rfl, by rw [← hz, hE], by rw [ht, ← hz, hE]; exact hP9, va_K.moved hW.alike hK9, by rw [← hz, hE]; exact hD9⟩, hS.F ht⟩) hS.2.2 d_C_renew_104
            · rw [if_neg c_12] at hE
              refine lv_bipush (v := (-3)) hx hb d_C_renew_82 (by decide) ?_
              have hP9 := va_P.part (cx := [(a_h, .inr (0, [.ref a_tx, .ref a_cru, .int w_nr, .ref a_cd, .ref a_td, .ref a_cki, .ref a_cca, .ref a_cty, .ref a_cio, .ref a_cex, .ref a_clo, .int w_nl, .ref a_cfi, .int w_nf, .ref a_ccl, .int w_nc])), (a_cca, .inl (k_cca, 50, .inl f_cca)), (a_clo, .inl (k_clo, 200, .inr (.inr (.inr (.inr (ruA (nN w_nl) aL)))))), (a_cd, .inr (1, [.ref a_cw])), (a_cw, .inl (k_cw, 157, .inr (.inl f_cw))), (a_td, .inr (1, [.ref a_tw])), (a_tw, .inl (k_tw, 157, .inr (.inl f_tw)))]) hP [0, 1, 2, 3, 4, 5, 6] rfl
              have hD9 := va_D.part (cx := [(a_h, .inr (0, [.ref a_tx, .ref a_cru, .int w_nr, .ref a_cd, .ref a_td, .ref a_cki, .ref a_cca, .ref a_cty, .ref a_cio, .ref a_cex, .ref a_clo, .int w_nl, .ref a_cfi, .int w_nf, .ref a_ccl, .int w_nc])), (a_cca, .inl (k_cca, 50, .inl f_cca)), (a_clo, .inl (k_clo, 200, .inr (.inr (.inr (.inr (ruA (nN w_nl) aL)))))), (a_cd, .inr (1, [.ref a_cw])), (a_cw, .inl (k_cw, 157, .inr (.inl f_cw))), (a_td, .inr (1, [.ref a_tw])), (a_tw, .inl (k_tw, 157, .inr (.inl f_tw)))]) hD [0, 1, 2, 3, 4, 5, 6] (by decide) rfl
              have hK9 := hK.sub (tys' := [(k_cca, .int), (k_clo, .object "LoanRules$Loan"), (k_cw, .long), (k_tw, .long)]) [0, 1, 2, 3] rfl
              exact W.iret (v := (-3)) hx hb hr (fun t ht hW => ⟨⟨(-3), (), rfl, by rw [← hz, hE], by rw [ht, ← hz, hE]; exact hP9, va_K.moved hW.alike hK9, by rw [← hz, hE]; exact hD9⟩, hS.F ht⟩) hS.2.2 d_C_renew_84
          · rw [if_neg c_11] at hE
            refine lv_bipush (v := (-2)) hx hb d_C_renew_72 (by decide) ?_
            have hP9 := va_P.part (cx := [(a_h, .inr (0, [.ref a_tx, .ref a_cru, .int w_nr, .ref a_cd, .ref a_td, .ref a_cki, .ref a_cca, .ref a_cty, .ref a_cio, .ref a_cex, .ref a_clo, .int w_nl, .ref a_cfi, .int w_nf, .ref a_ccl, .int w_nc])), (a_cca, .inl (k_cca, 50, .inl f_cca)), (a_clo, .inl (k_clo, 200, .inr (.inr (.inr (.inr (ruA (nN w_nl) aL)))))), (a_cd, .inr (1, [.ref a_cw])), (a_cw, .inl (k_cw, 157, .inr (.inl f_cw))), (a_td, .inr (1, [.ref a_tw])), (a_tw, .inl (k_tw, 157, .inr (.inl f_tw)))]) hP [0, 1, 2, 3, 4, 5, 6] rfl
            have hD9 := va_D.part (cx := [(a_h, .inr (0, [.ref a_tx, .ref a_cru, .int w_nr, .ref a_cd, .ref a_td, .ref a_cki, .ref a_cca, .ref a_cty, .ref a_cio, .ref a_cex, .ref a_clo, .int w_nl, .ref a_cfi, .int w_nf, .ref a_ccl, .int w_nc])), (a_cca, .inl (k_cca, 50, .inl f_cca)), (a_clo, .inl (k_clo, 200, .inr (.inr (.inr (.inr (ruA (nN w_nl) aL)))))), (a_cd, .inr (1, [.ref a_cw])), (a_cw, .inl (k_cw, 157, .inr (.inl f_cw))), (a_td, .inr (1, [.ref a_tw])), (a_tw, .inl (k_tw, 157, .inr (.inl f_tw)))]) hD [0, 1, 2, 3, 4, 5, 6] (by decide) rfl
            have hK9 := hK.sub (tys' := [(k_cca, .int), (k_clo, .object "LoanRules$Loan"), (k_cw, .long), (k_tw, .long)]) [0, 1, 2, 3] rfl
            exact W.iret (v := (-2)) hx hb hr (fun t ht hW => ⟨⟨(-2), (), rfl, by rw [← hz, hE], by rw [ht, ← hz, hE]; exact hP9, va_K.moved hW.alike hK9, by rw [← hz, hE]; exact hD9⟩, hS.F ht⟩) hS.2.2 d_C_renew_74
        · rw [if_neg c_10] at hE
          refine lv_iconst (v := (-1)) hx hb d_C_renew_54 (by decide) ?_
          have hP9 := va_P.part (cx := [(a_h, .inr (0, [.ref a_tx, .ref a_cru, .int w_nr, .ref a_cd, .ref a_td, .ref a_cki, .ref a_cca, .ref a_cty, .ref a_cio, .ref a_cex, .ref a_clo, .int w_nl, .ref a_cfi, .int w_nf, .ref a_ccl, .int w_nc])), (a_cca, .inl (k_cca, 50, .inl f_cca)), (a_clo, .inl (k_clo, 200, .inr (.inr (.inr (.inr (ruA (nN w_nl) aL)))))), (a_cd, .inr (1, [.ref a_cw])), (a_cw, .inl (k_cw, 157, .inr (.inl f_cw))), (a_td, .inr (1, [.ref a_tw])), (a_tw, .inl (k_tw, 157, .inr (.inl f_tw)))]) hP [0, 1, 2, 3, 4, 5, 6] rfl
          have hD9 := va_D.part (cx := [(a_h, .inr (0, [.ref a_tx, .ref a_cru, .int w_nr, .ref a_cd, .ref a_td, .ref a_cki, .ref a_cca, .ref a_cty, .ref a_cio, .ref a_cex, .ref a_clo, .int w_nl, .ref a_cfi, .int w_nf, .ref a_ccl, .int w_nc])), (a_cca, .inl (k_cca, 50, .inl f_cca)), (a_clo, .inl (k_clo, 200, .inr (.inr (.inr (.inr (ruA (nN w_nl) aL)))))), (a_cd, .inr (1, [.ref a_cw])), (a_cw, .inl (k_cw, 157, .inr (.inl f_cw))), (a_td, .inr (1, [.ref a_tw])), (a_tw, .inl (k_tw, 157, .inr (.inl f_tw)))]) hD [0, 1, 2, 3, 4, 5, 6] (by decide) rfl
          have hK9 := hK.sub (tys' := [(k_cca, .int), (k_clo, .object "LoanRules$Loan"), (k_cw, .long), (k_tw, .long)]) [0, 1, 2, 3] rfl
          exact W.iret (v := (-1)) hx hb hr (fun t ht hW => ⟨⟨(-1), (), rfl, by rw [← hz, hE], by rw [ht, ← hz, hE]; exact hP9, va_K.moved hW.alike hK9, by rw [← hz, hE]; exact hD9⟩, hS.F ht⟩) hS.2.2 d_C_renew_55
      · rw [if_neg c_9] at hE
        refine lv_bipush (v := (-102)) hx hb d_C_renew_34 (by decide) ?_
        refine lv_iload hx hb d_C_renew_36 (lv_at hl 0 rfl) ?_
        refine lv_isub hx hb d_C_renew_38 ?_
        have hP9 := va_P.part (cx := [(a_h, .inr (0, [.ref a_tx, .ref a_cru, .int w_nr, .ref a_cd, .ref a_td, .ref a_cki, .ref a_cca, .ref a_cty, .ref a_cio, .ref a_cex, .ref a_clo, .int w_nl, .ref a_cfi, .int w_nf, .ref a_ccl, .int w_nc])), (a_cca, .inl (k_cca, 50, .inl f_cca)), (a_clo, .inl (k_clo, 200, .inr (.inr (.inr (.inr (ruA (nN w_nl) aL)))))), (a_cd, .inr (1, [.ref a_cw])), (a_cw, .inl (k_cw, 157, .inr (.inl f_cw))), (a_td, .inr (1, [.ref a_tw])), (a_tw, .inl (k_tw, 157, .inr (.inl f_tw)))]) hP [0, 1, 2, 3, 4, 5, 6] rfl
        have hD9 := va_D.part (cx := [(a_h, .inr (0, [.ref a_tx, .ref a_cru, .int w_nr, .ref a_cd, .ref a_td, .ref a_cki, .ref a_cca, .ref a_cty, .ref a_cio, .ref a_cex, .ref a_clo, .int w_nl, .ref a_cfi, .int w_nf, .ref a_ccl, .int w_nc])), (a_cca, .inl (k_cca, 50, .inl f_cca)), (a_clo, .inl (k_clo, 200, .inr (.inr (.inr (.inr (ruA (nN w_nl) aL)))))), (a_cd, .inr (1, [.ref a_cw])), (a_cw, .inl (k_cw, 157, .inr (.inl f_cw))), (a_td, .inr (1, [.ref a_tw])), (a_tw, .inl (k_tw, 157, .inr (.inl f_tw)))]) hD [0, 1, 2, 3, 4, 5, 6] (by decide) rfl
        have hK9 := hK.sub (tys' := [(k_cca, .int), (k_clo, .object "LoanRules$Loan"), (k_cw, .long), (k_tw, .long)]) [0, 1, 2, 3] rfl
        exact W.iret (v := (-102) - (g_Cg_causeOf (G_ 0 (nN (p0 - 1))) f_cca)) hx hb hr (fun t ht hW => ⟨⟨(-102) - (g_Cg_causeOf (G_ 0 (nN (p0 - 1))) f_cca), (), rfl, by rw [← hz, hE], by rw [ht, ← hz, hE]; exact hP9, va_K.moved hW.alike hK9, by rw [← hz, hE]; exact hD9⟩, hS.F ht⟩) hS.2.2 d_C_renew_39
    · rw [if_pos c_6] at hE
      refine lv_iconst (v := 0) hx hb d_C_renew_17 (by decide) ?_
      have hP9 := va_P.part (cx := [(a_h, .inr (0, [.ref a_tx, .ref a_cru, .int w_nr, .ref a_cd, .ref a_td, .ref a_cki, .ref a_cca, .ref a_cty, .ref a_cio, .ref a_cex, .ref a_clo, .int w_nl, .ref a_cfi, .int w_nf, .ref a_ccl, .int w_nc])), (a_cca, .inl (k_cca, 50, .inl f_cca)), (a_clo, .inl (k_clo, 200, .inr (.inr (.inr (.inr (ruA (nN w_nl) aL)))))), (a_cd, .inr (1, [.ref a_cw])), (a_cw, .inl (k_cw, 157, .inr (.inl f_cw))), (a_td, .inr (1, [.ref a_tw])), (a_tw, .inl (k_tw, 157, .inr (.inl f_tw)))]) hP [0, 1, 2, 3, 4, 5, 6] rfl
      have hD9 := va_D.part (cx := [(a_h, .inr (0, [.ref a_tx, .ref a_cru, .int w_nr, .ref a_cd, .ref a_td, .ref a_cki, .ref a_cca, .ref a_cty, .ref a_cio, .ref a_cex, .ref a_clo, .int w_nl, .ref a_cfi, .int w_nf, .ref a_ccl, .int w_nc])), (a_cca, .inl (k_cca, 50, .inl f_cca)), (a_clo, .inl (k_clo, 200, .inr (.inr (.inr (.inr (ruA (nN w_nl) aL)))))), (a_cd, .inr (1, [.ref a_cw])), (a_cw, .inl (k_cw, 157, .inr (.inl f_cw))), (a_td, .inr (1, [.ref a_tw])), (a_tw, .inl (k_tw, 157, .inr (.inl f_tw)))]) hD [0, 1, 2, 3, 4, 5, 6] (by decide) rfl
      have hK9 := hK.sub (tys' := [(k_cca, .int), (k_clo, .object "LoanRules$Loan"), (k_cw, .long), (k_tw, .long)]) [0, 1, 2, 3] rfl
      exact W.iret (v := 0) hx hb hr (fun t ht hW => ⟨⟨0, (), rfl, by rw [← hz, hE], by rw [ht, ← hz, hE]; exact hP9, va_K.moved hW.alike hK9, by rw [← hz, hE]; exact hD9⟩, hS.F ht⟩) hS.2.2 d_C_renew_18
  · rw [if_neg c_3] at hE
    refine W.eq (g2 := F0 m 5 ls [.null]) (by rw [held_none c_3]; rfl) ?_
    refine lv_astore_nN (lv' := [(3, .null), (0, .ref a_h), (1, .int p0), (2, .int p1)]) hx hb d_C_renew_5 rfl hl (by decide) rfl (fun ls hl => ?_)
    refine lv_aload_nN hx hb d_C_renew_6 rfl (lv_at hl 0 rfl) ?_
    refine lv_ifnullN (tgt := 17) hx hb d_C_renew_7 (by decide) ?_
    refine lv_iconst (v := 0) hx hb d_C_renew_17 (by decide) ?_
    have hP9 := va_P.part (cx := [(a_h, .inr (0, [.ref a_tx, .ref a_cru, .int w_nr, .ref a_cd, .ref a_td, .ref a_cki, .ref a_cca, .ref a_cty, .ref a_cio, .ref a_cex, .ref a_clo, .int w_nl, .ref a_cfi, .int w_nf, .ref a_ccl, .int w_nc])), (a_cca, .inl (k_cca, 50, .inl f_cca)), (a_clo, .inl (k_clo, 200, .inr (.inr (.inr (.inr (ruA (nN w_nl) aL)))))), (a_cd, .inr (1, [.ref a_cw])), (a_cw, .inl (k_cw, 157, .inr (.inl f_cw))), (a_td, .inr (1, [.ref a_tw])), (a_tw, .inl (k_tw, 157, .inr (.inl f_tw)))]) hP [0, 1, 2, 3, 4, 5, 6] rfl
    have hD9 := va_D.part (cx := [(a_h, .inr (0, [.ref a_tx, .ref a_cru, .int w_nr, .ref a_cd, .ref a_td, .ref a_cki, .ref a_cca, .ref a_cty, .ref a_cio, .ref a_cex, .ref a_clo, .int w_nl, .ref a_cfi, .int w_nf, .ref a_ccl, .int w_nc])), (a_cca, .inl (k_cca, 50, .inl f_cca)), (a_clo, .inl (k_clo, 200, .inr (.inr (.inr (.inr (ruA (nN w_nl) aL)))))), (a_cd, .inr (1, [.ref a_cw])), (a_cw, .inl (k_cw, 157, .inr (.inl f_cw))), (a_td, .inr (1, [.ref a_tw])), (a_tw, .inl (k_tw, 157, .inr (.inl f_tw)))]) hD [0, 1, 2, 3, 4, 5, 6] (by decide) rfl
    have hK9 := hK.sub (tys' := [(k_cca, .int), (k_clo, .object "LoanRules$Loan"), (k_cw, .long), (k_tw, .long)]) [0, 1, 2, 3] rfl
    exact W.iret (v := 0) hx hb hr (fun t ht hW => ⟨⟨0, (), rfl, by rw [← hz, hE], by rw [ht, ← hz, hE]; exact hP9, va_K.moved hW.alike hK9, by rw [← hz, hE]; exact hD9⟩, hS.F ht⟩) hS.2.2 d_C_renew_18
def g_Cg_recall (p0 : Int32) (p1 : Int32) (w_nl : Int32) (f_cw : Nat → Int64) (F_ : Nat → Nat → Int32) (G_ : Nat → Nat → Int32) (rho : Nat → Nat) : Int32 × (Nat → Nat → Int32) :=
  if hIn p0 w_nl G_ then
    if (g_Cg_isDay p1) = 0 then
      (0, G_)
    else
      if (G_ 6 (nN (p0 - 1))) = 0 then
        if (g_Cg_firstFrom (p1 + (F_ 7 (rho (nN (p0 - 1))))) 0 f_cw) = (-1) then
          ((-4), G_)
        else
          ((up2 (up2 G_ 6 (nN (p0 - 1)) 1) 4 (nN (p0 - 1)) (if (g_Cg_firstFrom (p1 + (F_ 7 (rho (nN (p0 - 1))))) 0 f_cw) < ((up2 G_ 6 (nN (p0 - 1)) 1) 4 (nN (p0 - 1))) then (g_Cg_firstFrom (p1 + (F_ 7 (rho (nN (p0 - 1))))) 0 f_cw) else ((up2 G_ 6 (nN (p0 - 1)) 1) 4 (nN (p0 - 1))))) 4 (nN (p0 - 1)), up2 (up2 G_ 6 (nN (p0 - 1)) 1) 4 (nN (p0 - 1)) (if (g_Cg_firstFrom (p1 + (F_ 7 (rho (nN (p0 - 1))))) 0 f_cw) < ((up2 G_ 6 (nN (p0 - 1)) 1) 4 (nN (p0 - 1))) then (g_Cg_firstFrom (p1 + (F_ 7 (rho (nN (p0 - 1))))) 0 f_cw) else ((up2 G_ 6 (nN (p0 - 1)) 1) 4 (nN (p0 - 1)))))
      else
        ((-1), G_)
  else
    (0, G_)
set_option maxHeartbeats 4000000 in
set_option maxRecDepth 100000 in
theorem c_Cg_recall (l : Launch) (dC : Nat → ClassId) (dI : Nat → Nat → Nat) (adK adV : Nat → Nat) (a_h : Nat) (a_clo : Nat) (a_cd : Nat) (a_cw : Nat) (k_clo : ClassId) (k_cw : ClassId) (p0 : Int32) (p1 : Int32) (a_tx : Nat) (a_cru : Nat) (w_nr : Int32) (a_td : Nat) (a_cki : Nat) (a_cca : Nat) (a_cty : Nat) (a_cio : Nat) (a_cex : Nat) (w_nl : Int32) (a_cfi : Nat) (w_nf : Int32) (a_ccl : Nat) (w_nc : Int32) (f_cw : Nat → Int64) (aR : Nat → Nat) (F_ : Nat → Nat → Int32) (aL : Nat → Nat) (G_ : Nat → Nat → Int32) (rho : Nat → Nat) (sz : Nat) (hnl : 0 ≤ w_nl.toInt ∧ w_nl.toInt ≤ 200) (hrho : ∀ i, i < nN w_nl → rho i < nN w_nr) (hf7 : ∀ i, i < nN w_nr → 0 ≤ (F_ 7 i).toInt ∧ (F_ 7 i).toInt ≤ 999) : Met l y_C_recall ws_C_recall ({ frames := 4, cells := 0, slots := 0, locals := 87 }) (va_Pc [.ref a_h, .int p0, .int p1] (fun U => U.heap.size = sz ∧ zz adK adV (va_A (([(a_h, .inr (0, [.ref a_tx, .ref a_cru, .int w_nr, .ref a_cd, .ref a_td, .ref a_cki, .ref a_cca, .ref a_cty, .ref a_cio, .ref a_cex, .ref a_clo, .int w_nl, .ref a_cfi, .int w_nf, .ref a_ccl, .int w_nc])), (a_clo, .inl (k_clo, 200, .inr (.inr (.inr (.inr (ruA (nN w_nl) aL)))))), (a_cd, .inr (1, [.ref a_cw])), (a_cw, .inl (k_cw, 157, .inr (.inl f_cw)))] : va_W) ++ plz (nN w_nr) aR F_ (nN w_nl) aL G_ rho) sz) U ∧ va_P (dC, dI) vwCl (([(a_h, .inr (0, [.ref a_tx, .ref a_cru, .int w_nr, .ref a_cd, .ref a_td, .ref a_cki, .ref a_cca, .ref a_cty, .ref a_cio, .ref a_cex, .ref a_clo, .int w_nl, .ref a_cfi, .int w_nf, .ref a_ccl, .int w_nc])), (a_clo, .inl (k_clo, 200, .inr (.inr (.inr (.inr (ruA (nN w_nl) aL)))))), (a_cd, .inr (1, [.ref a_cw])), (a_cw, .inl (k_cw, 157, .inr (.inl f_cw)))] : va_W) ++ plz (nN w_nr) aR F_ (nN w_nl) aL G_ rho) U.heap ∧ va_K (dC, dI) vwCl [(k_clo, .object "LoanRules$Loan"), (k_cw, .long)] U ∧ va_D (fun _ => True) (([(a_h, .inr (0, [.ref a_tx, .ref a_cru, .int w_nr, .ref a_cd, .ref a_td, .ref a_cki, .ref a_cca, .ref a_cty, .ref a_cio, .ref a_cex, .ref a_clo, .int w_nl, .ref a_cfi, .int w_nf, .ref a_ccl, .int w_nc])), (a_clo, .inl (k_clo, 200, .inr (.inr (.inr (.inr (ruA (nN w_nl) aL)))))), (a_cd, .inr (1, [.ref a_cw])), (a_cw, .inl (k_cw, 157, .inr (.inl f_cw)))] : va_W) ++ plz (nN w_nr) aR F_ (nN w_nl) aL G_ rho))) (va_Qi (fun (r : Int32) (_ : Unit) => r = (g_Cg_recall p0 p1 w_nl f_cw F_ G_ rho).1) (fun (_ : Unit) (t : State) => va_P (dC, dI) vwCl (([(a_h, .inr (0, [.ref a_tx, .ref a_cru, .int w_nr, .ref a_cd, .ref a_td, .ref a_cki, .ref a_cca, .ref a_cty, .ref a_cio, .ref a_cex, .ref a_clo, .int w_nl, .ref a_cfi, .int w_nf, .ref a_ccl, .int w_nc])), (a_clo, .inl (k_clo, 200, .inr (.inr (.inr (.inr (ruA (nN w_nl) aL)))))), (a_cd, .inr (1, [.ref a_cw])), (a_cw, .inl (k_cw, 157, .inr (.inl f_cw)))] : va_W) ++ plz (nN w_nr) aR F_ (nN w_nl) aL ((g_Cg_recall p0 p1 w_nl f_cw F_ G_ rho).2) rho) t.heap ∧ va_K (dC, dI) vwCl [(k_clo, .object "LoanRules$Loan"), (k_cw, .long)] t ∧ va_D (va_A (([(a_h, .inr (0, [.ref a_tx, .ref a_cru, .int w_nr, .ref a_cd, .ref a_td, .ref a_cki, .ref a_cca, .ref a_cty, .ref a_cio, .ref a_cex, .ref a_clo, .int w_nl, .ref a_cfi, .int w_nf, .ref a_ccl, .int w_nc])), (a_clo, .inl (k_clo, 200, .inr (.inr (.inr (.inr (ruA (nN w_nl) aL)))))), (a_cd, .inr (1, [.ref a_cw])), (a_cw, .inl (k_cw, 157, .inr (.inl f_cw)))] : va_W) ++ plz (nN w_nr) aR F_ (nN w_nl) aL G_ rho) sz) (([(a_h, .inr (0, [.ref a_tx, .ref a_cru, .int w_nr, .ref a_cd, .ref a_td, .ref a_cki, .ref a_cca, .ref a_cty, .ref a_cio, .ref a_cex, .ref a_clo, .int w_nl, .ref a_cfi, .int w_nf, .ref a_ccl, .int w_nc])), (a_clo, .inl (k_clo, 200, .inr (.inr (.inr (.inr (ruA (nN w_nl) aL)))))), (a_cd, .inr (1, [.ref a_cw])), (a_cw, .inl (k_cw, 157, .inr (.inl f_cw)))] : va_W) ++ plz (nN w_nr) aR F_ (nN w_nl) aL ((g_Cg_recall p0 p1 w_nl f_cw F_ G_ rho).2) rho)) (va_A (([(a_h, .inr (0, [.ref a_tx, .ref a_cru, .int w_nr, .ref a_cd, .ref a_td, .ref a_cki, .ref a_cca, .ref a_cty, .ref a_cio, .ref a_cex, .ref a_clo, .int w_nl, .ref a_cfi, .int w_nf, .ref a_ccl, .int w_nc])), (a_clo, .inl (k_clo, 200, .inr (.inr (.inr (.inr (ruA (nN w_nl) aL)))))), (a_cd, .inr (1, [.ref a_cw])), (a_cw, .inl (k_cw, 157, .inr (.inl f_cw)))] : va_W) ++ plz (nN w_nr) aR F_ (nN w_nl) aL G_ rho) sz)) 0 0 (va_A (([(a_h, .inr (0, [.ref a_tx, .ref a_cru, .int w_nr, .ref a_cd, .ref a_td, .ref a_cki, .ref a_cca, .ref a_cty, .ref a_cio, .ref a_cex, .ref a_clo, .int w_nl, .ref a_cfi, .int w_nf, .ref a_ccl, .int w_nc])), (a_clo, .inl (k_clo, 200, .inr (.inr (.inr (.inr (ruA (nN w_nl) aL)))))), (a_cd, .inr (1, [.ref a_cw])), (a_cw, .inl (k_cw, 157, .inr (.inl f_cw)))] : va_W) ++ plz (nN w_nr) aR F_ (nN w_nl) aL G_ rho) sz) := by
  refine Met.ofW (cc := c_C_recall) (maxL := 5) (ret := (some .int)) (by decide) rfl ?_
  intro p e s m args below meth c s₁ B hml hv
  obtain ⟨rfl, hsz, hZ, hP, hK, hD0⟩ := hv
  have hx := B.exec
  have hb := B.bytes
  have hr := B.returns
  have hts0 := atoms_spec (ws := ws_C_recall) B.pre
  have hts : ∀ w ∈ TT, w.before _ s = true := fun w h => hts0 w (List.mem_cons_of_mem _ h)
  have hown : s.vm.findClass "LoanRules" = some m.cls := findClass_of_methodNamed B.named
  have hlocks := B.notSynchronized
  subst hsz
  have hD := hD0.self (sz := s.heap.size)
  generalize hAe : va_A (([(a_h, .inr (0, [.ref a_tx, .ref a_cru, .int w_nr, .ref a_cd, .ref a_td, .ref a_cki, .ref a_cca, .ref a_cty, .ref a_cio, .ref a_cex, .ref a_clo, .int w_nl, .ref a_cfi, .int w_nf, .ref a_ccl, .int w_nc])), (a_clo, .inl (k_clo, 200, .inr (.inr (.inr (.inr (ruA (nN w_nl) aL)))))), (a_cd, .inr (1, [.ref a_cw])), (a_cw, .inl (k_cw, 157, .inr (.inl f_cw)))] : va_W) ++ plz (nN w_nr) aR F_ (nN w_nl) aL G_ rho) s.heap.size = A at hD hZ ⊢
  have hA : ∀ q : Nat, s.heap.size ≤ q → A q := fun q h => by rw [← hAe]; exact Or.inr h
  clear hAe hD0
  have hS : va_S A s.heap s.heap [] := va_S.rf
  replace hP : va_P (dC, dI) vwCl (([(a_h, .inr (0, [.ref a_tx, .ref a_cru, .int w_nr, .ref a_cd, .ref a_td, .ref a_cki, .ref a_cca, .ref a_cty, .ref a_cio, .ref a_cex, .ref a_clo, .int w_nl, .ref a_cfi, .int w_nf, .ref a_ccl, .int w_nc])), (a_clo, .inl (k_clo, 200, .inr (.inr (.inr (.inr (ruA (nN w_nl) aL)))))), (a_cd, .inr (1, [.ref a_cw])), (a_cw, .inl (k_cw, 157, .inr (.inl f_cw)))] : va_W) ++ plz (nN w_nr) aR F_ (nN w_nl) aL G_ rho) s.heap := hP
  have hl := lv_entry ([.ref a_h, .int p0, .int p1]) (n := 5) (Nat.le_of_ble_eq_true rfl)
  rw [lg_entry_eq]
  generalize (lg_sl ([.ref a_h, .int p0, .int p1]) ++ List.replicate (5 - (lg_sl ([.ref a_h, .int p0, .int p1])).length) Slot.unset).toArray = ls at hl ⊢
  replace hl : lv_has ls 5 [(0, .ref a_h), (1, .int p0), (2, .int p1)] := hl
  obtain ⟨z, hz⟩ : ∃ z, z = g_Cg_recall p0 p1 w_nl f_cw F_ G_ rho := ⟨_, rfl⟩
  have hE := hz
  rw [g_Cg_recall] at hE
  refine lv_aload_n hx hb d_C_recall_0 rfl (lv_at hl 0 rfl) ?_
  refine lv_iload_n hx hb d_C_recall_1 rfl (lv_at hl 1 rfl) ?_
  have hPc := va_P.part (cx := [(a_h, .inr (0, [.ref a_tx, .ref a_cru, .int w_nr, .ref a_cd, .ref a_td, .ref a_cki, .ref a_cca, .ref a_cty, .ref a_cio, .ref a_cex, .ref a_clo, .int w_nl, .ref a_cfi, .int w_nf, .ref a_ccl, .int w_nc])), (a_clo, .inl (k_clo, 200, .inr (.inr (.inr (.inr (ruA (nN w_nl) aL))))))]) hP [0, 1] rfl
  have hKc := hK.sub (tys' := [(k_clo, .object "LoanRules$Loan")]) [0] rfl
  refine va_csq (va_Run.run (va_runV (As := [.int p0]) (rest := []) ⟨hx, hb, hml, hown, hts⟩ (c_Cg_heldLoan l dC dI adK adV (a_h := a_h) (p0 := p0) (a_tx := a_tx) (a_cru := a_cru) (w_nr := w_nr) (a_cd := a_cd) (a_td := a_td) (a_cki := a_cki) (a_cca := a_cca) (a_cty := a_cty) (a_cio := a_cio) (a_cex := a_cex) (a_clo := a_clo) (w_nl := w_nl) (a_cfi := a_cfi) (w_nf := w_nf) (a_ccl := a_ccl) (w_nc := w_nc) (k_clo := k_clo) (aR := aR) (F_ := F_) (aL := aL) (G_ := G_) (rho := rho) hnl) (cwV 1 hts (gV tw_383 tw_385 tw_11 tw_42 tw_386) rfl rfl rfl (by decide +kernel) ⟨(Nat.le_of_ble_eq_true rfl), (Nat.le_of_ble_eq_true rfl)⟩) ⟨fun a U g mk q => by obtain ⟨q0, qZ, qP, qK⟩ := q; exact ⟨q0, zz_call qZ, qP, va_K.moved (u := U) (U := U.calling g mk a) (Vm.Alike.refl U.vm) qK⟩, va_recv hKc hPc (ci := 0) (q0 := 0) rfl rfl, fun U hU hW => ⟨rfl, zz_ro hS hU hW hZ, by rw [hU]; exact hPc, va_K.moved hW.alike hKc⟩⟩ rfl rfl hl.1 rfl (lv_room (Nat.le_of_ble_eq_true rfl)) d_C_recall_2 ⟨(Nat.le_of_ble_eq_true rfl), (Nat.le_of_ble_eq_true rfl)⟩)) (fun r_1 hw_2 => ?_)
  clear hPc hKc
  subst hw_2
  by_cases c_3 : hIn p0 w_nl G_
  · rw [if_pos c_3] at hE
    refine W.eq (g2 := F0 m 5 ls [.ref (aL (nN (p0 - 1)))]) (by rw [held_some hnl.2 c_3]; rfl) ?_
    refine lv_astore_n (lv' := [(3, .ref (aL (nN (p0 - 1)))), (0, .ref a_h), (1, .int p0), (2, .int p1)]) hx hb d_C_recall_5 rfl hl (by decide) rfl (fun ls hl => ?_)
    refine lv_aload_n hx hb d_C_recall_6 rfl (lv_at hl 0 rfl) ?_
    refine lv_ifnull hx hb d_C_recall_7 ?_
    refine lv_iload_n hx hb d_C_recall_10 rfl (lv_at hl 3 rfl) ?_
    have hPc := hP.sub (ws' := []) [] rfl
    have hKc := hK.sub (tys' := []) [] rfl
    refine vp_callSi (va_Run.run (va_runS (As := [.int p1]) (rest := []) ⟨hx, hb, hml, hown, hts⟩ (c_Cg_isDay l dC dI adK adV (p0 := p1)) (va_cwS 1 hts (gS tw_352 tw_353 tw_42 tw_354) rfl rfl rfl (by decide +kernel) ⟨(Nat.le_of_ble_eq_true rfl), (Nat.le_of_ble_eq_true rfl)⟩) ⟨fun a U g mk q => by obtain ⟨q0, qZ, qP, qK⟩ := q; exact ⟨q0, zz_call qZ, qP, va_K.moved (u := U) (U := U.calling g mk a) (Vm.Alike.refl U.vm) qK⟩, fun U hU hW => ⟨rfl, zz_ro hS hU hW hZ, by rw [hU]; exact hPc, va_K.moved hW.alike hKc⟩⟩ rfl rfl hl.1 rfl (lv_room (Nat.le_of_ble_eq_true rfl)) d_C_recall_11 ⟨(Nat.le_of_ble_eq_true rfl), (Nat.le_of_ble_eq_true rfl)⟩)) (fun r_4 hw_5 => ?_)
    clear hPc hKc
    subst hw_5
    refine lv_if_ne (tgt := 19) hx hb d_C_recall_14 (by decide) (fun c_6 => ?_) (fun c_6 => ?_)
    · rw [if_neg c_6] at hE
      refine lv_aload_n hx hb d_C_recall_19 rfl (lv_at hl 0 rfl) ?_
      refine va_get (D := (dC, dI)) (ci := 2) (v := .int (G_ 6 (nN (p0 - 1)))) (C := "LoanRules$Loan") (T := Fz_N) (N := 8) hx hb hts it_N hown hK hP _ (plz_l (hIn_lt c_3)) rfl 6 (by decide) (hts _ tw_571) (fun _ h9 => h9) rfl d_C_recall_20 ?_
      refine lv_if_eq (tgt := 28) hx hb d_C_recall_23 (by decide) (fun c_7 => ?_) (fun c_7 => ?_)
      · rw [if_pos c_7] at hE
        refine lv_aload_n hx hb d_C_recall_28 rfl (lv_at hl 1 rfl) ?_
        refine lv_iload_n hx hb d_C_recall_29 rfl (lv_at hl 3 rfl) ?_
        refine lv_aload_n hx hb d_C_recall_30 rfl (lv_at hl 0 rfl) ?_
        refine va_get (D := (dC, dI)) (ci := 2) (v := .ref (aR (rho (nN (p0 - 1))))) (C := "LoanRules$Loan") (T := Fz_N) (N := 8) hx hb hts it_N hown hK hP _ (plz_l (hIn_lt c_3)) rfl 2 (by decide) (hts _ tw_563) (fun _ h9 => h9) rfl d_C_recall_31 ?_
        refine va_get (D := (dC, dI)) (ci := 3) (v := .int (F_ 7 (rho (nN (p0 - 1))))) (C := "LoanRules$Rule") (T := Fz_R) (N := 11) hx hb hts it_R hown hK hP _ (plz_r (hrho _ (hIn_lt c_3))) rfl 7 (by decide) (hts _ tw_195) (fun _ h9 => h9) rfl d_C_recall_34 ?_
        refine lv_iadd hx hb d_C_recall_37 ?_
        have hPc := hP.sub (ws' := [(a_h, .inr (0, [.ref a_tx, .ref a_cru, .int w_nr, .ref a_cd, .ref a_td, .ref a_cki, .ref a_cca, .ref a_cty, .ref a_cio, .ref a_cex, .ref a_clo, .int w_nl, .ref a_cfi, .int w_nf, .ref a_ccl, .int w_nc])), (a_cd, .inr (1, [.ref a_cw])), (a_cw, .inl (k_cw, 157, .inr (.inl f_cw)))]) [0, 2, 3] rfl
        have hKc := hK.sub (tys' := [(k_cw, .long)]) [1] rfl
        refine vp_callSi (va_Run.run (va_runV (As := [.int (p1 + (F_ 7 (rho (nN (p0 - 1)))))]) (rest := []) ⟨hx, hb, hml, hown, hts⟩ (c_Cg_openDayFrom l dC dI adK adV (a_h := a_h) (p0 := p1 + (F_ 7 (rho (nN (p0 - 1))))) (a_tx := a_tx) (a_cru := a_cru) (w_nr := w_nr) (a_cd := a_cd) (a_td := a_td) (a_cki := a_cki) (a_cca := a_cca) (a_cty := a_cty) (a_cio := a_cio) (a_cex := a_cex) (a_clo := a_clo) (w_nl := w_nl) (a_cfi := a_cfi) (w_nf := w_nf) (a_ccl := a_ccl) (w_nc := w_nc) (a_cw := a_cw) (k_cw := k_cw) (f_cw := f_cw) (li_dayB (dayC c_6) (hf7 _ (hrho _ (hIn_lt c_3))))) (cwV 1 hts (gV tw_399 tw_401 tw_14 tw_42 tw_402) rfl rfl rfl (by decide +kernel) ⟨(Nat.le_of_ble_eq_true rfl), (Nat.le_of_ble_eq_true rfl)⟩) ⟨fun a U g mk q => by obtain ⟨q0, qZ, qP, qK⟩ := q; exact ⟨q0, zz_call qZ, qP, va_K.moved (u := U) (U := U.calling g mk a) (Vm.Alike.refl U.vm) qK⟩, va_recv hKc hPc (ci := 0) (q0 := 0) rfl rfl, fun U hU hW => ⟨rfl, zz_ro hS hU hW hZ, by rw [hU]; exact hPc, va_K.moved hW.alike hKc⟩⟩ rfl rfl hl.1 rfl (lv_room (Nat.le_of_ble_eq_true rfl)) d_C_recall_38 ⟨(Nat.le_of_ble_eq_true rfl), (Nat.le_of_ble_eq_true rfl)⟩)) (fun r_8 hw_9 => ?_)
        clear hPc hKc
        subst hw_9
        refine lv_istore (lv' := [(4, .int (g_Cg_firstFrom (p1 + (F_ 7 (rho (nN (p0 - 1))))) 0 f_cw)), (3, .ref (aL (nN (p0 - 1)))), (0, .ref a_h), (1, .int p0), (2, .int p1)]) hx hb d_C_recall_41 hl (by decide) rfl (fun ls hl => ?_)
        refine lv_iload hx hb d_C_recall_43 (lv_at hl 0 rfl) ?_
        refine lv_iconst (v := (-1)) hx hb d_C_recall_45 (by decide) ?_
        refine lv_icmp_ne (tgt := 52) hx hb d_C_recall_46 (by decide) (fun c_10 => ?_) (fun c_10 => ?_)
        · rw [if_neg c_10] at hE
          refine lv_aload_n hx hb d_C_recall_52 rfl (lv_at hl 1 rfl) ?_
          refine lv_iconst (v := 1) hx hb d_C_recall_53 (by decide) ?_
          refine va_put (D := (dC, dI)) (ci := 2) (v := .int 1) (ty := .boolean) (C := "LoanRules$Loan") (T := Fz_N) (N := 8) hx hb hts it_N tz_N tz_N_ok nz_N hown hK hP hD hS _ (plz_l (hIn_lt c_3)) rfl 6 (by decide) (hts _ tw_571) (fun _ h9 => h9) rfl (by decide +kernel) rfl rfl (Nat.le_of_ble_eq_true rfl) d_C_recall_54 (fun H locs hP hD hS => ?_)
          replace hP := vP_lput 6 1 (hIn_lt c_3) (by simp [up2]) hP
          replace hD := vD_lput 6 1 (hIn_lt c_3) (by simp [up2]) hD
          replace hP : va_P (dC, dI) vwCl (([(a_h, .inr (0, [.ref a_tx, .ref a_cru, .int w_nr, .ref a_cd, .ref a_td, .ref a_cki, .ref a_cca, .ref a_cty, .ref a_cio, .ref a_cex, .ref a_clo, .int w_nl, .ref a_cfi, .int w_nf, .ref a_ccl, .int w_nc])), (a_clo, .inl (k_clo, 200, .inr (.inr (.inr (.inr (ruA (nN w_nl) aL)))))), (a_cd, .inr (1, [.ref a_cw])), (a_cw, .inl (k_cw, 157, .inr (.inl f_cw)))] : va_W) ++ plz (nN w_nr) aR F_ (nN w_nl) aL (up2 G_ 6 (nN (p0 - 1)) 1) rho) H := hP
          replace hD : va_D A (([(a_h, .inr (0, [.ref a_tx, .ref a_cru, .int w_nr, .ref a_cd, .ref a_td, .ref a_cki, .ref a_cca, .ref a_cty, .ref a_cio, .ref a_cex, .ref a_clo, .int w_nl, .ref a_cfi, .int w_nf, .ref a_ccl, .int w_nc])), (a_clo, .inl (k_clo, 200, .inr (.inr (.inr (.inr (ruA (nN w_nl) aL)))))), (a_cd, .inr (1, [.ref a_cw])), (a_cw, .inl (k_cw, 157, .inr (.inl f_cw)))] : va_W) ++ plz (nN w_nr) aR F_ (nN w_nl) aL (up2 G_ 6 (nN (p0 - 1)) 1) rho) := hD
          refine lv_aload_n hx hb d_C_recall_57 rfl (lv_at hl 1 rfl) ?_
          refine lv_aload_n hx hb d_C_recall_58 rfl (lv_at hl 1 rfl) ?_
          refine va_get (D := (dC, dI)) (ci := 2) (v := .int ((up2 G_ 6 (nN (p0 - 1)) 1) 4 (nN (p0 - 1)))) (C := "LoanRules$Loan") (T := Fz_N) (N := 8) hx hb hts it_N hown hK hP _ (plz_l (hIn_lt c_3)) rfl 4 (by decide) (hts _ tw_567) (fun _ h9 => h9) rfl d_C_recall_59 ?_
          refine lv_iload hx hb d_C_recall_62 (lv_at hl 0 rfl) ?_
          refine va_mmin hx hb (by rw [hml]; exact hl.1.symm) hown (hts _ tw_416) (hts _ tw_417) (hts _ tw_56) (hts _ tw_418) (Nat.le_of_ble_eq_true rfl) (Nat.le_of_ble_eq_true rfl) (Nat.le_of_ble_eq_true rfl) (Nat.le_of_ble_eq_true rfl) d_C_recall_64 ?_
          refine va_put (D := (dC, dI)) (ci := 2) (v := .int (if (g_Cg_firstFrom (p1 + (F_ 7 (rho (nN (p0 - 1))))) 0 f_cw) < ((up2 G_ 6 (nN (p0 - 1)) 1) 4 (nN (p0 - 1))) then (g_Cg_firstFrom (p1 + (F_ 7 (rho (nN (p0 - 1))))) 0 f_cw) else ((up2 G_ 6 (nN (p0 - 1)) 1) 4 (nN (p0 - 1))))) (ty := .int) (C := "LoanRules$Loan") (T := Fz_N) (N := 8) hx hb hts it_N tz_N tz_N_ok nz_N hown hK hP hD hS _ (plz_l (hIn_lt c_3)) rfl 4 (by decide) (hts _ tw_567) (fun _ h9 => h9) rfl (by decide +kernel) rfl rfl (Nat.le_of_ble_eq_true rfl) d_C_recall_67 (fun H locs hP hD hS => ?_)
          replace hP := vP_lput 4 (if (g_Cg_firstFrom (p1 + (F_ 7 (rho (nN (p0 - 1))))) 0 f_cw) < ((up2 G_ 6 (nN (p0 - 1)) 1) 4 (nN (p0 - 1))) then (g_Cg_firstFrom (p1 + (F_ 7 (rho (nN (p0 - 1))))) 0 f_cw) else ((up2 G_ 6 (nN (p0 - 1)) 1) 4 (nN (p0 - 1)))) (hIn_lt c_3) (by simp [up2]) hP
          replace hD := vD_lput 4 (if (g_Cg_firstFrom (p1 + (F_ 7 (rho (nN (p0 - 1))))) 0 f_cw) < ((up2 G_ 6 (nN (p0 - 1)) 1) 4 (nN (p0 - 1))) then (g_Cg_firstFrom (p1 + (F_ 7 (rho (nN (p0 - 1))))) 0 f_cw) else ((up2 G_ 6 (nN (p0 - 1)) 1) 4 (nN (p0 - 1)))) (hIn_lt c_3) (by simp [up2]) hD
          replace hP : va_P (dC, dI) vwCl (([(a_h, .inr (0, [.ref a_tx, .ref a_cru, .int w_nr, .ref a_cd, .ref a_td, .ref a_cki, .ref a_cca, .ref a_cty, .ref a_cio, .ref a_cex, .ref a_clo, .int w_nl, .ref a_cfi, .int w_nf, .ref a_ccl, .int w_nc])), (a_clo, .inl (k_clo, 200, .inr (.inr (.inr (.inr (ruA (nN w_nl) aL)))))), (a_cd, .inr (1, [.ref a_cw])), (a_cw, .inl (k_cw, 157, .inr (.inl f_cw)))] : va_W) ++ plz (nN w_nr) aR F_ (nN w_nl) aL (up2 (up2 G_ 6 (nN (p0 - 1)) 1) 4 (nN (p0 - 1)) (if (g_Cg_firstFrom (p1 + (F_ 7 (rho (nN (p0 - 1))))) 0 f_cw) < ((up2 G_ 6 (nN (p0 - 1)) 1) 4 (nN (p0 - 1))) then (g_Cg_firstFrom (p1 + (F_ 7 (rho (nN (p0 - 1))))) 0 f_cw) else ((up2 G_ 6 (nN (p0 - 1)) 1) 4 (nN (p0 - 1))))) rho) H := hP
          replace hD : va_D A (([(a_h, .inr (0, [.ref a_tx, .ref a_cru, .int w_nr, .ref a_cd, .ref a_td, .ref a_cki, .ref a_cca, .ref a_cty, .ref a_cio, .ref a_cex, .ref a_clo, .int w_nl, .ref a_cfi, .int w_nf, .ref a_ccl, .int w_nc])), (a_clo, .inl (k_clo, 200, .inr (.inr (.inr (.inr (ruA (nN w_nl) aL)))))), (a_cd, .inr (1, [.ref a_cw])), (a_cw, .inl (k_cw, 157, .inr (.inl f_cw)))] : va_W) ++ plz (nN w_nr) aR F_ (nN w_nl) aL (up2 (up2 G_ 6 (nN (p0 - 1)) 1) 4 (nN (p0 - 1)) (if (g_Cg_firstFrom (p1 + (F_ 7 (rho (nN (p0 - 1))))) 0 f_cw) < ((up2 G_ 6 (nN (p0 - 1)) 1) 4 (nN (p0 - 1))) then (g_Cg_firstFrom (p1 + (F_ 7 (rho (nN (p0 - 1))))) 0 f_cw) else ((up2 G_ 6 (nN (p0 - 1)) 1) 4 (nN (p0 - 1))))) rho) := hD
          refine lv_aload_n hx hb d_C_recall_70 rfl (lv_at hl 1 rfl) ?_
          refine va_get (D := (dC, dI)) (ci := 2) (v := .int ((up2 (up2 G_ 6 (nN (p0 - 1)) 1) 4 (nN (p0 - 1)) (if (g_Cg_firstFrom (p1 + (F_ 7 (rho (nN (p0 - 1))))) 0 f_cw) < ((up2 G_ 6 (nN (p0 - 1)) 1) 4 (nN (p0 - 1))) then (g_Cg_firstFrom (p1 + (F_ 7 (rho (nN (p0 - 1))))) 0 f_cw) else ((up2 G_ 6 (nN (p0 - 1)) 1) 4 (nN (p0 - 1))))) 4 (nN (p0 - 1)))) (C := "LoanRules$Loan") (T := Fz_N) (N := 8) hx hb hts it_N hown hK hP _ (plz_l (hIn_lt c_3)) rfl 4 (by decide) (hts _ tw_567) (fun _ h9 => h9) rfl d_C_recall_71 ?_
          have hP9 := va_P.part (cx := [(a_h, .inr (0, [.ref a_tx, .ref a_cru, .int w_nr, .ref a_cd, .ref a_td, .ref a_cki, .ref a_cca, .ref a_cty, .ref a_cio, .ref a_cex, .ref a_clo, .int w_nl, .ref a_cfi, .int w_nf, .ref a_ccl, .int w_nc])), (a_clo, .inl (k_clo, 200, .inr (.inr (.inr (.inr (ruA (nN w_nl) aL)))))), (a_cd, .inr (1, [.ref a_cw])), (a_cw, .inl (k_cw, 157, .inr (.inl f_cw)))]) hP [0, 1, 2, 3] rfl
          have hD9 := va_D.part (cx := [(a_h, .inr (0, [.ref a_tx, .ref a_cru, .int w_nr, .ref a_cd, .ref a_td, .ref a_cki, .ref a_cca, .ref a_cty, .ref a_cio, .ref a_cex, .ref a_clo, .int w_nl, .ref a_cfi, .int w_nf, .ref a_ccl, .int w_nc])), (a_clo, .inl (k_clo, 200, .inr (.inr (.inr (.inr (ruA (nN w_nl) aL)))))), (a_cd, .inr (1, [.ref a_cw])), (a_cw, .inl (k_cw, 157, .inr (.inl f_cw)))]) hD [0, 1, 2, 3] (by decide) rfl
          have hK9 := hK.sub (tys' := [(k_clo, .object "LoanRules$Loan"), (k_cw, .long)]) [0, 1] rfl
          exact W.iret (v := (up2 (up2 G_ 6 (nN (p0 - 1)) 1) 4 (nN (p0 - 1)) (if (g_Cg_firstFrom (p1 + (F_ 7 (rho (nN (p0 - 1))))) 0 f_cw) < ((up2 G_ 6 (nN (p0 - 1)) 1) 4 (nN (p0 - 1))) then (g_Cg_firstFrom (p1 + (F_ 7 (rho (nN (p0 - 1))))) 0 f_cw) else ((up2 G_ 6 (nN (p0 - 1)) 1) 4 (nN (p0 - 1))))) 4 (nN (p0 - 1))) hx hb hr (fun t ht hW => ⟨⟨(up2 (up2 G_ 6 (nN (p0 - 1)) 1) 4 (nN (p0 - 1)) (if (g_Cg_firstFrom (p1 + (F_ 7 (rho (nN (p0 - 1))))) 0 f_cw) < ((up2 G_ 6 (nN (p0 - 1)) 1) 4 (nN (p0 - 1))) then (g_Cg_firstFrom (p1 + (F_ 7 (rho (nN (p0 - 1))))) 0 f_cw) else ((up2 G_ 6 (nN (p0 - 1)) 1) 4 (nN (p0 - 1))))) 4 (nN (p0 - 1)), (), rfl, by rw [← hz, hE], by rw [ht, ← hz, hE]; exact hP9, va_K.moved hW.alike hK9, by rw [← hz, hE]; exact hD9⟩, hS.F ht⟩) hS.2.2 d_C_recall_74
        · rw [if_pos c_10] at hE
          refine lv_bipush (v := (-4)) hx hb d_C_recall_49 (by decide) ?_
          have hP9 := va_P.part (cx := [(a_h, .inr (0, [.ref a_tx, .ref a_cru, .int w_nr, .ref a_cd, .ref a_td, .ref a_cki, .ref a_cca, .ref a_cty, .ref a_cio, .ref a_cex, .ref a_clo, .int w_nl, .ref a_cfi, .int w_nf, .ref a_ccl, .int w_nc])), (a_clo, .inl (k_clo, 200, .inr (.inr (.inr (.inr (ruA (nN w_nl) aL)))))), (a_cd, .inr (1, [.ref a_cw])), (a_cw, .inl (k_cw, 157, .inr (.inl f_cw)))]) hP [0, 1, 2, 3] rfl
          have hD9 := va_D.part (cx := [(a_h, .inr (0, [.ref a_tx, .ref a_cru, .int w_nr, .ref a_cd, .ref a_td, .ref a_cki, .ref a_cca, .ref a_cty, .ref a_cio, .ref a_cex, .ref a_clo, .int w_nl, .ref a_cfi, .int w_nf, .ref a_ccl, .int w_nc])), (a_clo, .inl (k_clo, 200, .inr (.inr (.inr (.inr (ruA (nN w_nl) aL)))))), (a_cd, .inr (1, [.ref a_cw])), (a_cw, .inl (k_cw, 157, .inr (.inl f_cw)))]) hD [0, 1, 2, 3] (by decide) rfl
          have hK9 := hK.sub (tys' := [(k_clo, .object "LoanRules$Loan"), (k_cw, .long)]) [0, 1] rfl
          exact W.iret (v := (-4)) hx hb hr (fun t ht hW => ⟨⟨(-4), (), rfl, by rw [← hz, hE], by rw [ht, ← hz, hE]; exact hP9, va_K.moved hW.alike hK9, by rw [← hz, hE]; exact hD9⟩, hS.F ht⟩) hS.2.2 d_C_recall_51
      · rw [if_neg c_7] at hE
        refine lv_iconst (v := (-1)) hx hb d_C_recall_26 (by decide) ?_
        have hP9 := va_P.part (cx := [(a_h, .inr (0, [.ref a_tx, .ref a_cru, .int w_nr, .ref a_cd, .ref a_td, .ref a_cki, .ref a_cca, .ref a_cty, .ref a_cio, .ref a_cex, .ref a_clo, .int w_nl, .ref a_cfi, .int w_nf, .ref a_ccl, .int w_nc])), (a_clo, .inl (k_clo, 200, .inr (.inr (.inr (.inr (ruA (nN w_nl) aL)))))), (a_cd, .inr (1, [.ref a_cw])), (a_cw, .inl (k_cw, 157, .inr (.inl f_cw)))]) hP [0, 1, 2, 3] rfl
        have hD9 := va_D.part (cx := [(a_h, .inr (0, [.ref a_tx, .ref a_cru, .int w_nr, .ref a_cd, .ref a_td, .ref a_cki, .ref a_cca, .ref a_cty, .ref a_cio, .ref a_cex, .ref a_clo, .int w_nl, .ref a_cfi, .int w_nf, .ref a_ccl, .int w_nc])), (a_clo, .inl (k_clo, 200, .inr (.inr (.inr (.inr (ruA (nN w_nl) aL)))))), (a_cd, .inr (1, [.ref a_cw])), (a_cw, .inl (k_cw, 157, .inr (.inl f_cw)))]) hD [0, 1, 2, 3] (by decide) rfl
        have hK9 := hK.sub (tys' := [(k_clo, .object "LoanRules$Loan"), (k_cw, .long)]) [0, 1] rfl
        exact W.iret (v := (-1)) hx hb hr (fun t ht hW => ⟨⟨(-1), (), rfl, by rw [← hz, hE], by rw [ht, ← hz, hE]; exact hP9, va_K.moved hW.alike hK9, by rw [← hz, hE]; exact hD9⟩, hS.F ht⟩) hS.2.2 d_C_recall_27
    · rw [if_pos c_6] at hE
      refine lv_iconst (v := 0) hx hb d_C_recall_17 (by decide) ?_
      have hP9 := va_P.part (cx := [(a_h, .inr (0, [.ref a_tx, .ref a_cru, .int w_nr, .ref a_cd, .ref a_td, .ref a_cki, .ref a_cca, .ref a_cty, .ref a_cio, .ref a_cex, .ref a_clo, .int w_nl, .ref a_cfi, .int w_nf, .ref a_ccl, .int w_nc])), (a_clo, .inl (k_clo, 200, .inr (.inr (.inr (.inr (ruA (nN w_nl) aL)))))), (a_cd, .inr (1, [.ref a_cw])), (a_cw, .inl (k_cw, 157, .inr (.inl f_cw)))]) hP [0, 1, 2, 3] rfl
      have hD9 := va_D.part (cx := [(a_h, .inr (0, [.ref a_tx, .ref a_cru, .int w_nr, .ref a_cd, .ref a_td, .ref a_cki, .ref a_cca, .ref a_cty, .ref a_cio, .ref a_cex, .ref a_clo, .int w_nl, .ref a_cfi, .int w_nf, .ref a_ccl, .int w_nc])), (a_clo, .inl (k_clo, 200, .inr (.inr (.inr (.inr (ruA (nN w_nl) aL)))))), (a_cd, .inr (1, [.ref a_cw])), (a_cw, .inl (k_cw, 157, .inr (.inl f_cw)))]) hD [0, 1, 2, 3] (by decide) rfl
      have hK9 := hK.sub (tys' := [(k_clo, .object "LoanRules$Loan"), (k_cw, .long)]) [0, 1] rfl
      exact W.iret (v := 0) hx hb hr (fun t ht hW => ⟨⟨0, (), rfl, by rw [← hz, hE], by rw [ht, ← hz, hE]; exact hP9, va_K.moved hW.alike hK9, by rw [← hz, hE]; exact hD9⟩, hS.F ht⟩) hS.2.2 d_C_recall_18
  · rw [if_neg c_3] at hE
    refine W.eq (g2 := F0 m 5 ls [.null]) (by rw [held_none c_3]; rfl) ?_
    refine lv_astore_nN (lv' := [(3, .null), (0, .ref a_h), (1, .int p0), (2, .int p1)]) hx hb d_C_recall_5 rfl hl (by decide) rfl (fun ls hl => ?_)
    refine lv_aload_nN hx hb d_C_recall_6 rfl (lv_at hl 0 rfl) ?_
    refine lv_ifnullN (tgt := 17) hx hb d_C_recall_7 (by decide) ?_
    refine lv_iconst (v := 0) hx hb d_C_recall_17 (by decide) ?_
    have hP9 := va_P.part (cx := [(a_h, .inr (0, [.ref a_tx, .ref a_cru, .int w_nr, .ref a_cd, .ref a_td, .ref a_cki, .ref a_cca, .ref a_cty, .ref a_cio, .ref a_cex, .ref a_clo, .int w_nl, .ref a_cfi, .int w_nf, .ref a_ccl, .int w_nc])), (a_clo, .inl (k_clo, 200, .inr (.inr (.inr (.inr (ruA (nN w_nl) aL)))))), (a_cd, .inr (1, [.ref a_cw])), (a_cw, .inl (k_cw, 157, .inr (.inl f_cw)))]) hP [0, 1, 2, 3] rfl
    have hD9 := va_D.part (cx := [(a_h, .inr (0, [.ref a_tx, .ref a_cru, .int w_nr, .ref a_cd, .ref a_td, .ref a_cki, .ref a_cca, .ref a_cty, .ref a_cio, .ref a_cex, .ref a_clo, .int w_nl, .ref a_cfi, .int w_nf, .ref a_ccl, .int w_nc])), (a_clo, .inl (k_clo, 200, .inr (.inr (.inr (.inr (ruA (nN w_nl) aL)))))), (a_cd, .inr (1, [.ref a_cw])), (a_cw, .inl (k_cw, 157, .inr (.inl f_cw)))]) hD [0, 1, 2, 3] (by decide) rfl
    have hK9 := hK.sub (tys' := [(k_clo, .object "LoanRules$Loan"), (k_cw, .long)]) [0, 1] rfl
    exact W.iret (v := 0) hx hb hr (fun t ht hW => ⟨⟨0, (), rfl, by rw [← hz, hE], by rw [ht, ← hz, hE]; exact hP9, va_K.moved hW.alike hK9, by rw [← hz, hE]; exact hD9⟩, hS.F ht⟩) hS.2.2 d_C_recall_18
