def g_Cg_back (p0 : Int32) (w_nl : Int32) (f_cio : Nat → Int32) (G_ : Nat → Nat → Int32) : Int32 × (Nat → Int32) × (Nat → Nat → Int32) :=
  if hIn p0 w_nl G_ then
    if (g_Cg_isItem ((up2 G_ 7 (nN (p0 - 1)) 1) 1 (nN (p0 - 1)))) = 0 then
      (1, f_cio, up2 G_ 7 (nN (p0 - 1)) 1)
    else
      (1, upd f_cio ((up2 G_ 7 (nN (p0 - 1)) 1) 1 (nN (p0 - 1))).toNatClampNeg (vp_nar .boolean 0), up2 G_ 7 (nN (p0 - 1)) 1)
  else
    (0, f_cio, G_)
set_option maxHeartbeats 4000000 in
set_option maxRecDepth 100000 in
theorem c_Cg_back (l : Launch) (dC : Nat → ClassId) (dI : Nat → Nat → Nat) (adK adV : Nat → Nat) (a_h : Nat) (a_clo : Nat) (a_cio : Nat) (k_clo : ClassId) (k_cio : ClassId) (p0 : Int32) (a_tx : Nat) (a_cru : Nat) (w_nr : Int32) (a_cd : Nat) (a_td : Nat) (a_cki : Nat) (a_cca : Nat) (a_cty : Nat) (a_cex : Nat) (w_nl : Int32) (a_cfi : Nat) (w_nf : Int32) (a_ccl : Nat) (w_nc : Int32) (f_cio : Nat → Int32) (aR : Nat → Nat) (F_ : Nat → Nat → Int32) (aL : Nat → Nat) (G_ : Nat → Nat → Int32) (rho : Nat → Nat) (sz : Nat) (hnl : 0 ≤ w_nl.toInt ∧ w_nl.toInt ≤ 200) : Met l y_C_back ws_C_back ({ frames := 1, cells := 0, slots := 0, locals := 22 }) (va_Pc [.ref a_h, .int p0] (fun U => U.heap.size = sz ∧ zz adK adV (va_A (([(a_h, .inr (0, [.ref a_tx, .ref a_cru, .int w_nr, .ref a_cd, .ref a_td, .ref a_cki, .ref a_cca, .ref a_cty, .ref a_cio, .ref a_cex, .ref a_clo, .int w_nl, .ref a_cfi, .int w_nf, .ref a_ccl, .int w_nc])), (a_clo, .inl (k_clo, 200, .inr (.inr (.inr (.inr (ruA (nN w_nl) aL)))))), (a_cio, .inl (k_cio, 50, .inl f_cio))] : va_W) ++ plz (nN w_nr) aR F_ (nN w_nl) aL G_ rho) sz) U ∧ va_P (dC, dI) vwCl (([(a_h, .inr (0, [.ref a_tx, .ref a_cru, .int w_nr, .ref a_cd, .ref a_td, .ref a_cki, .ref a_cca, .ref a_cty, .ref a_cio, .ref a_cex, .ref a_clo, .int w_nl, .ref a_cfi, .int w_nf, .ref a_ccl, .int w_nc])), (a_clo, .inl (k_clo, 200, .inr (.inr (.inr (.inr (ruA (nN w_nl) aL)))))), (a_cio, .inl (k_cio, 50, .inl f_cio))] : va_W) ++ plz (nN w_nr) aR F_ (nN w_nl) aL G_ rho) U.heap ∧ va_K (dC, dI) vwCl [(k_clo, .object "LoanRules$Loan"), (k_cio, .boolean)] U ∧ va_D (fun _ => True) (([(a_h, .inr (0, [.ref a_tx, .ref a_cru, .int w_nr, .ref a_cd, .ref a_td, .ref a_cki, .ref a_cca, .ref a_cty, .ref a_cio, .ref a_cex, .ref a_clo, .int w_nl, .ref a_cfi, .int w_nf, .ref a_ccl, .int w_nc])), (a_clo, .inl (k_clo, 200, .inr (.inr (.inr (.inr (ruA (nN w_nl) aL)))))), (a_cio, .inl (k_cio, 50, .inl f_cio))] : va_W) ++ plz (nN w_nr) aR F_ (nN w_nl) aL G_ rho))) (va_Qi (fun (r : Int32) (_ : Unit) => r = (g_Cg_back p0 w_nl f_cio G_).1) (fun (_ : Unit) (t : State) => va_P (dC, dI) vwCl (([(a_h, .inr (0, [.ref a_tx, .ref a_cru, .int w_nr, .ref a_cd, .ref a_td, .ref a_cki, .ref a_cca, .ref a_cty, .ref a_cio, .ref a_cex, .ref a_clo, .int w_nl, .ref a_cfi, .int w_nf, .ref a_ccl, .int w_nc])), (a_clo, .inl (k_clo, 200, .inr (.inr (.inr (.inr (ruA (nN w_nl) aL)))))), (a_cio, .inl (k_cio, 50, .inl ((g_Cg_back p0 w_nl f_cio G_).2.1)))] : va_W) ++ plz (nN w_nr) aR F_ (nN w_nl) aL ((g_Cg_back p0 w_nl f_cio G_).2.2) rho) t.heap ∧ va_K (dC, dI) vwCl [(k_clo, .object "LoanRules$Loan"), (k_cio, .boolean)] t ∧ va_D (va_A (([(a_h, .inr (0, [.ref a_tx, .ref a_cru, .int w_nr, .ref a_cd, .ref a_td, .ref a_cki, .ref a_cca, .ref a_cty, .ref a_cio, .ref a_cex, .ref a_clo, .int w_nl, .ref a_cfi, .int w_nf, .ref a_ccl, .int w_nc])), (a_clo, .inl (k_clo, 200, .inr (.inr (.inr (.inr (ruA (nN w_nl) aL)))))), (a_cio, .inl (k_cio, 50, .inl f_cio))] : va_W) ++ plz (nN w_nr) aR F_ (nN w_nl) aL G_ rho) sz) (([(a_h, .inr (0, [.ref a_tx, .ref a_cru, .int w_nr, .ref a_cd, .ref a_td, .ref a_cki, .ref a_cca, .ref a_cty, .ref a_cio, .ref a_cex, .ref a_clo, .int w_nl, .ref a_cfi, .int w_nf, .ref a_ccl, .int w_nc])), (a_clo, .inl (k_clo, 200, .inr (.inr (.inr (.inr (ruA (nN w_nl) aL)))))), (a_cio, .inl (k_cio, 50, .inl ((g_Cg_back p0 w_nl f_cio G_).2.1)))] : va_W) ++ plz (nN w_nr) aR F_ (nN w_nl) aL ((g_Cg_back p0 w_nl f_cio G_).2.2) rho)) (va_A (([(a_h, .inr (0, [.ref a_tx, .ref a_cru, .int w_nr, .ref a_cd, .ref a_td, .ref a_cki, .ref a_cca, .ref a_cty, .ref a_cio, .ref a_cex, .ref a_clo, .int w_nl, .ref a_cfi, .int w_nf, .ref a_ccl, .int w_nc])), (a_clo, .inl (k_clo, 200, .inr (.inr (.inr (.inr (ruA (nN w_nl) aL)))))), (a_cio, .inl (k_cio, 50, .inl f_cio))] : va_W) ++ plz (nN w_nr) aR F_ (nN w_nl) aL G_ rho) sz)) 0 0 (va_A (([(a_h, .inr (0, [.ref a_tx, .ref a_cru, .int w_nr, .ref a_cd, .ref a_td, .ref a_cki, .ref a_cca, .ref a_cty, .ref a_cio, .ref a_cex, .ref a_clo, .int w_nl, .ref a_cfi, .int w_nf, .ref a_ccl, .int w_nc])), (a_clo, .inl (k_clo, 200, .inr (.inr (.inr (.inr (ruA (nN w_nl) aL)))))), (a_cio, .inl (k_cio, 50, .inl f_cio))] : va_W) ++ plz (nN w_nr) aR F_ (nN w_nl) aL G_ rho) sz) := by
  refine Met.ofW (cc := c_C_back) (maxL := 3) (ret := (some .int)) (by decide) rfl ?_
  intro p e s m args below meth c s₁ B hml hv
  obtain ⟨rfl, hsz, hZ, hP, hK, hD0⟩ := hv
  have hx := B.exec
  have hb := B.bytes
  have hr := B.returns
  have hts0 := atoms_spec (ws := ws_C_back) B.pre
  have hts : ∀ w ∈ TT, w.before _ s = true := fun w h => hts0 w (List.mem_cons_of_mem _ h)
  have hown : s.vm.findClass "LoanRules" = some m.cls := findClass_of_methodNamed B.named
  have hlocks := B.notSynchronized
  subst hsz
  have hD := hD0.self (sz := s.heap.size)
  generalize hAe : va_A (([(a_h, .inr (0, [.ref a_tx, .ref a_cru, .int w_nr, .ref a_cd, .ref a_td, .ref a_cki, .ref a_cca, .ref a_cty, .ref a_cio, .ref a_cex, .ref a_clo, .int w_nl, .ref a_cfi, .int w_nf, .ref a_ccl, .int w_nc])), (a_clo, .inl (k_clo, 200, .inr (.inr (.inr (.inr (ruA (nN w_nl) aL)))))), (a_cio, .inl (k_cio, 50, .inl f_cio))] : va_W) ++ plz (nN w_nr) aR F_ (nN w_nl) aL G_ rho) s.heap.size = A at hD hZ ⊢
  have hA : ∀ q : Nat, s.heap.size ≤ q → A q := fun q h => by rw [← hAe]; exact Or.inr h
  clear hAe hD0
  have hS : va_S A s.heap s.heap [] := va_S.rf
  replace hP : va_P (dC, dI) vwCl (([(a_h, .inr (0, [.ref a_tx, .ref a_cru, .int w_nr, .ref a_cd, .ref a_td, .ref a_cki, .ref a_cca, .ref a_cty, .ref a_cio, .ref a_cex, .ref a_clo, .int w_nl, .ref a_cfi, .int w_nf, .ref a_ccl, .int w_nc])), (a_clo, .inl (k_clo, 200, .inr (.inr (.inr (.inr (ruA (nN w_nl) aL)))))), (a_cio, .inl (k_cio, 50, .inl f_cio))] : va_W) ++ plz (nN w_nr) aR F_ (nN w_nl) aL G_ rho) s.heap := hP
  have hl := lv_entry ([.ref a_h, .int p0]) (n := 3) (Nat.le_of_ble_eq_true rfl)
  rw [lg_entry_eq]
  generalize (lg_sl ([.ref a_h, .int p0]) ++ List.replicate (3 - (lg_sl ([.ref a_h, .int p0])).length) Slot.unset).toArray = ls at hl ⊢
  replace hl : lv_has ls 3 [(0, .ref a_h), (1, .int p0)] := hl
  obtain ⟨z, hz⟩ : ∃ z, z = g_Cg_back p0 w_nl f_cio G_ := ⟨_, rfl⟩
  have hE := hz
  rw [g_Cg_back] at hE
  refine lv_aload_n hx hb d_C_back_0 rfl (lv_at hl 0 rfl) ?_
  refine lv_iload_n hx hb d_C_back_1 rfl (lv_at hl 1 rfl) ?_
  have hPc := va_P.part (cx := [(a_h, .inr (0, [.ref a_tx, .ref a_cru, .int w_nr, .ref a_cd, .ref a_td, .ref a_cki, .ref a_cca, .ref a_cty, .ref a_cio, .ref a_cex, .ref a_clo, .int w_nl, .ref a_cfi, .int w_nf, .ref a_ccl, .int w_nc])), (a_clo, .inl (k_clo, 200, .inr (.inr (.inr (.inr (ruA (nN w_nl) aL))))))]) hP [0, 1] rfl
  have hKc := hK.sub (tys' := [(k_clo, .object "LoanRules$Loan")]) [0] rfl
  refine va_csq (va_Run.run (va_runV (As := [.int p0]) (rest := []) ⟨hx, hb, hml, hown, hts⟩ (c_Cg_heldLoan l dC dI adK adV (a_h := a_h) (p0 := p0) (a_tx := a_tx) (a_cru := a_cru) (w_nr := w_nr) (a_cd := a_cd) (a_td := a_td) (a_cki := a_cki) (a_cca := a_cca) (a_cty := a_cty) (a_cio := a_cio) (a_cex := a_cex) (a_clo := a_clo) (w_nl := w_nl) (a_cfi := a_cfi) (w_nf := w_nf) (a_ccl := a_ccl) (w_nc := w_nc) (k_clo := k_clo) (aR := aR) (F_ := F_) (aL := aL) (G_ := G_) (rho := rho) hnl) (cwV 1 hts (gV tw_383 tw_385 tw_11 tw_42 tw_386) rfl rfl rfl (by decide +kernel) ⟨(Nat.le_of_ble_eq_true rfl), (Nat.le_of_ble_eq_true rfl)⟩) ⟨fun a U g mk q => by obtain ⟨q0, qZ, qP, qK⟩ := q; exact ⟨q0, zz_call qZ, qP, va_K.moved (u := U) (U := U.calling g mk a) (Vm.Alike.refl U.vm) qK⟩, va_recv hKc hPc (ci := 0) (q0 := 0) rfl rfl, fun U hU hW => ⟨rfl, zz_ro hS hU hW hZ, by rw [hU]; exact hPc, va_K.moved hW.alike hKc⟩⟩ rfl rfl hl.1 rfl (lv_room (Nat.le_of_ble_eq_true rfl)) d_C_back_2 ⟨(Nat.le_of_ble_eq_true rfl), (Nat.le_of_ble_eq_true rfl)⟩)) (fun r_1 hw_2 => ?_)
  clear hPc hKc
  subst hw_2
  by_cases c_3 : hIn p0 w_nl G_
  · rw [if_pos c_3] at hE
    refine W.eq (g2 := F0 m 5 ls [.ref (aL (nN (p0 - 1)))]) (by rw [held_some hnl.2 c_3]; rfl) ?_
    refine lv_astore_n (lv' := [(2, .ref (aL (nN (p0 - 1)))), (0, .ref a_h), (1, .int p0)]) hx hb d_C_back_5 rfl hl (by decide) rfl (fun ls hl => ?_)
    refine lv_aload_n hx hb d_C_back_6 rfl (lv_at hl 0 rfl) ?_
    refine lv_ifnonnull (tgt := 12) hx hb d_C_back_7 (by decide) ?_
    refine lv_aload_n hx hb d_C_back_12 rfl (lv_at hl 0 rfl) ?_
    refine lv_iconst (v := 1) hx hb d_C_back_13 (by decide) ?_
    refine va_put (D := (dC, dI)) (ci := 2) (v := .int 1) (ty := .boolean) (C := "LoanRules$Loan") (T := Fz_N) (N := 8) hx hb hts it_N tz_N tz_N_ok nz_N hown hK hP hD hS _ (plz_l (hIn_lt c_3)) rfl 7 (by decide) (hts _ tw_573) (fun _ h9 => h9) rfl (by decide +kernel) rfl rfl (Nat.le_of_ble_eq_true rfl) d_C_back_14 (fun H locs hP hD hS => ?_)
    replace hP := vP_lput 7 1 (hIn_lt c_3) (by simp [up2]) hP
    replace hD := vD_lput 7 1 (hIn_lt c_3) (by simp [up2]) hD
    replace hP : va_P (dC, dI) vwCl (([(a_h, .inr (0, [.ref a_tx, .ref a_cru, .int w_nr, .ref a_cd, .ref a_td, .ref a_cki, .ref a_cca, .ref a_cty, .ref a_cio, .ref a_cex, .ref a_clo, .int w_nl, .ref a_cfi, .int w_nf, .ref a_ccl, .int w_nc])), (a_clo, .inl (k_clo, 200, .inr (.inr (.inr (.inr (ruA (nN w_nl) aL)))))), (a_cio, .inl (k_cio, 50, .inl f_cio))] : va_W) ++ plz (nN w_nr) aR F_ (nN w_nl) aL (up2 G_ 7 (nN (p0 - 1)) 1) rho) H := hP
    replace hD : va_D A (([(a_h, .inr (0, [.ref a_tx, .ref a_cru, .int w_nr, .ref a_cd, .ref a_td, .ref a_cki, .ref a_cca, .ref a_cty, .ref a_cio, .ref a_cex, .ref a_clo, .int w_nl, .ref a_cfi, .int w_nf, .ref a_ccl, .int w_nc])), (a_clo, .inl (k_clo, 200, .inr (.inr (.inr (.inr (ruA (nN w_nl) aL)))))), (a_cio, .inl (k_cio, 50, .inl f_cio))] : va_W) ++ plz (nN w_nr) aR F_ (nN w_nl) aL (up2 G_ 7 (nN (p0 - 1)) 1) rho) := hD
    refine lv_aload_n hx hb d_C_back_17 rfl (lv_at hl 0 rfl) ?_
    refine va_get (D := (dC, dI)) (ci := 2) (v := .int ((up2 G_ 7 (nN (p0 - 1)) 1) 1 (nN (p0 - 1)))) (C := "LoanRules$Loan") (T := Fz_N) (N := 8) hx hb hts it_N hown hK hP _ (plz_l (hIn_lt c_3)) rfl 1 (by decide) (hts _ tw_561) (fun _ h9 => h9) rfl d_C_back_18 ?_
    have hPc := hP.sub (ws' := []) [] rfl
    have hKc := hK.sub (tys' := []) [] rfl
    refine vp_callSi (va_Run.run (va_runS (As := [.int ((up2 G_ 7 (nN (p0 - 1)) 1) 1 (nN (p0 - 1)))]) (rest := []) ⟨hx, hb, hml, hown, hts⟩ (c_Cg_isItem l dC dI adK adV (p0 := (up2 G_ 7 (nN (p0 - 1)) 1) 1 (nN (p0 - 1)))) (va_cwS 1 hts (gS tw_376 tw_377 tw_42 tw_378) rfl rfl rfl (by decide +kernel) ⟨(Nat.le_of_ble_eq_true rfl), (Nat.le_of_ble_eq_true rfl)⟩) ⟨fun a U g mk q => by obtain ⟨q0, qZ, qP, qK⟩ := q; exact ⟨q0, zz_call qZ, qP, va_K.moved (u := U) (U := U.calling g mk a) (Vm.Alike.refl U.vm) qK⟩, fun U hU hW => ⟨rfl, zz_ro hS hU hW hZ, by rw [hU]; exact hPc, va_K.moved hW.alike hKc⟩⟩ rfl rfl hl.1 rfl (lv_room (Nat.le_of_ble_eq_true rfl)) d_C_back_21 ⟨(Nat.le_of_ble_eq_true rfl), (Nat.le_of_ble_eq_true rfl)⟩)) (fun r_4 hw_5 => ?_)
    clear hPc hKc
    subst hw_5
    refine lv_if_eq (tgt := 37) hx hb d_C_back_24 (by decide) (fun c_6 => ?_) (fun c_6 => ?_)
    · rw [if_pos c_6] at hE
      refine lv_iconst (v := 1) hx hb d_C_back_37 (by decide) ?_
      have hP9 := va_P.part (cx := [(a_h, .inr (0, [.ref a_tx, .ref a_cru, .int w_nr, .ref a_cd, .ref a_td, .ref a_cki, .ref a_cca, .ref a_cty, .ref a_cio, .ref a_cex, .ref a_clo, .int w_nl, .ref a_cfi, .int w_nf, .ref a_ccl, .int w_nc])), (a_clo, .inl (k_clo, 200, .inr (.inr (.inr (.inr (ruA (nN w_nl) aL)))))), (a_cio, .inl (k_cio, 50, .inl f_cio))]) hP [0, 1, 2] rfl
      have hD9 := va_D.part (cx := [(a_h, .inr (0, [.ref a_tx, .ref a_cru, .int w_nr, .ref a_cd, .ref a_td, .ref a_cki, .ref a_cca, .ref a_cty, .ref a_cio, .ref a_cex, .ref a_clo, .int w_nl, .ref a_cfi, .int w_nf, .ref a_ccl, .int w_nc])), (a_clo, .inl (k_clo, 200, .inr (.inr (.inr (.inr (ruA (nN w_nl) aL)))))), (a_cio, .inl (k_cio, 50, .inl f_cio))]) hD [0, 1, 2] (by decide) rfl
      have hK9 := hK.sub (tys' := [(k_clo, .object "LoanRules$Loan"), (k_cio, .boolean)]) [0, 1] rfl
      exact W.iret (v := 1) hx hb hr (fun t ht hW => ⟨⟨1, (), rfl, by rw [← hz, hE], by rw [ht, ← hz, hE]; exact hP9, va_K.moved hW.alike hK9, by rw [← hz, hE]; exact hD9⟩, hS.F ht⟩) hS.2.2 d_C_back_38
    · rw [if_neg c_6] at hE
      refine lv_aload_n hx hb d_C_back_27 rfl (lv_at hl 1 rfl) ?_
      refine va_get (D := (dC, dI)) (ci := 0) (v := .ref a_cio) (C := "LoanRules") (T := Fz_C) (N := 16) hx hb hts it_C hown hK hP 0 rfl rfl 8 (by decide) (hts _ tw_112) (fun _ h9 => h9) rfl d_C_back_28 ?_
      refine lv_aload_n hx hb d_C_back_31 rfl (lv_at hl 0 rfl) ?_
      refine va_get (D := (dC, dI)) (ci := 2) (v := .int ((up2 G_ 7 (nN (p0 - 1)) 1) 1 (nN (p0 - 1)))) (C := "LoanRules$Loan") (T := Fz_N) (N := 8) hx hb hts it_N hown hK hP _ (plz_l (hIn_lt c_3)) rfl 1 (by decide) (hts _ tw_561) (fun _ h9 => h9) rfl d_C_back_32 ?_
      refine lv_iconst (v := 0) hx hb d_C_back_35 (by decide) ?_
      have i_7 : vp_in ((up2 G_ 7 (nN (p0 - 1)) 1) 1 (nN (p0 - 1))) 50 := ix50 (itemC c_6)
      refine va_zast (D := (dC, dI)) hx hb hK hP hD hS 2 1 rfl rfl i_7 d_C_back_36 (fun H locs hP hD hS => ?_)
      replace hP : va_P (dC, dI) vwCl (([(a_h, .inr (0, [.ref a_tx, .ref a_cru, .int w_nr, .ref a_cd, .ref a_td, .ref a_cki, .ref a_cca, .ref a_cty, .ref a_cio, .ref a_cex, .ref a_clo, .int w_nl, .ref a_cfi, .int w_nf, .ref a_ccl, .int w_nc])), (a_clo, .inl (k_clo, 200, .inr (.inr (.inr (.inr (ruA (nN w_nl) aL)))))), (a_cio, .inl (k_cio, 50, .inl (upd f_cio ((up2 G_ 7 (nN (p0 - 1)) 1) 1 (nN (p0 - 1))).toNatClampNeg (vp_nar .boolean 0))))] : va_W) ++ plz (nN w_nr) aR F_ (nN w_nl) aL (up2 G_ 7 (nN (p0 - 1)) 1) rho) H := hP
      replace hD : va_D A (([(a_h, .inr (0, [.ref a_tx, .ref a_cru, .int w_nr, .ref a_cd, .ref a_td, .ref a_cki, .ref a_cca, .ref a_cty, .ref a_cio, .ref a_cex, .ref a_clo, .int w_nl, .ref a_cfi, .int w_nf, .ref a_ccl, .int w_nc])), (a_clo, .inl (k_clo, 200, .inr (.inr (.inr (.inr (ruA (nN w_nl) aL)))))), (a_cio, .inl (k_cio, 50, .inl (upd f_cio ((up2 G_ 7 (nN (p0 - 1)) 1) 1 (nN (p0 - 1))).toNatClampNeg (vp_nar .boolean 0))))] : va_W) ++ plz (nN w_nr) aR F_ (nN w_nl) aL (up2 G_ 7 (nN (p0 - 1)) 1) rho) := hD
      refine lv_iconst (v := 1) hx hb d_C_back_37 (by decide) ?_
      have hP9 := va_P.part (cx := [(a_h, .inr (0, [.ref a_tx, .ref a_cru, .int w_nr, .ref a_cd, .ref a_td, .ref a_cki, .ref a_cca, .ref a_cty, .ref a_cio, .ref a_cex, .ref a_clo, .int w_nl, .ref a_cfi, .int w_nf, .ref a_ccl, .int w_nc])), (a_clo, .inl (k_clo, 200, .inr (.inr (.inr (.inr (ruA (nN w_nl) aL)))))), (a_cio, .inl (k_cio, 50, .inl (upd f_cio ((up2 G_ 7 (nN (p0 - 1)) 1) 1 (nN (p0 - 1))).toNatClampNeg (vp_nar .boolean 0))))]) hP [0, 1, 2] rfl
      have hD9 := va_D.part (cx := [(a_h, .inr (0, [.ref a_tx, .ref a_cru, .int w_nr, .ref a_cd, .ref a_td, .ref a_cki, .ref a_cca, .ref a_cty, .ref a_cio, .ref a_cex, .ref a_clo, .int w_nl, .ref a_cfi, .int w_nf, .ref a_ccl, .int w_nc])), (a_clo, .inl (k_clo, 200, .inr (.inr (.inr (.inr (ruA (nN w_nl) aL)))))), (a_cio, .inl (k_cio, 50, .inl (upd f_cio ((up2 G_ 7 (nN (p0 - 1)) 1) 1 (nN (p0 - 1))).toNatClampNeg (vp_nar .boolean 0))))]) hD [0, 1, 2] (by decide) rfl
      have hK9 := hK.sub (tys' := [(k_clo, .object "LoanRules$Loan"), (k_cio, .boolean)]) [0, 1] rfl
      exact W.iret (v := 1) hx hb hr (fun t ht hW => ⟨⟨1, (), rfl, by rw [← hz, hE], by rw [ht, ← hz, hE]; exact hP9, va_K.moved hW.alike hK9, by rw [← hz, hE]; exact hD9⟩, hS.F ht⟩) hS.2.2 d_C_back_38
  · rw [if_neg c_3] at hE
    refine W.eq (g2 := F0 m 5 ls [.null]) (by rw [held_none c_3]; rfl) ?_
    refine lv_astore_nN (lv' := [(2, .null), (0, .ref a_h), (1, .int p0)]) hx hb d_C_back_5 rfl hl (by decide) rfl (fun ls hl => ?_)
    refine lv_aload_nN hx hb d_C_back_6 rfl (lv_at hl 0 rfl) ?_
    refine lv_ifnonnullN hx hb d_C_back_7 ?_
    refine lv_iconst (v := 0) hx hb d_C_back_10 (by decide) ?_
    have hP9 := va_P.part (cx := [(a_h, .inr (0, [.ref a_tx, .ref a_cru, .int w_nr, .ref a_cd, .ref a_td, .ref a_cki, .ref a_cca, .ref a_cty, .ref a_cio, .ref a_cex, .ref a_clo, .int w_nl, .ref a_cfi, .int w_nf, .ref a_ccl, .int w_nc])), (a_clo, .inl (k_clo, 200, .inr (.inr (.inr (.inr (ruA (nN w_nl) aL)))))), (a_cio, .inl (k_cio, 50, .inl f_cio))]) hP [0, 1, 2] rfl
    have hD9 := va_D.part (cx := [(a_h, .inr (0, [.ref a_tx, .ref a_cru, .int w_nr, .ref a_cd, .ref a_td, .ref a_cki, .ref a_cca, .ref a_cty, .ref a_cio, .ref a_cex, .ref a_clo, .int w_nl, .ref a_cfi, .int w_nf, .ref a_ccl, .int w_nc])), (a_clo, .inl (k_clo, 200, .inr (.inr (.inr (.inr (ruA (nN w_nl) aL)))))), (a_cio, .inl (k_cio, 50, .inl f_cio))]) hD [0, 1, 2] (by decide) rfl
    have hK9 := hK.sub (tys' := [(k_clo, .object "LoanRules$Loan"), (k_cio, .boolean)]) [0, 1] rfl
    exact W.iret (v := 0) hx hb hr (fun t ht hW => ⟨⟨0, (), rfl, by rw [← hz, hE], by rw [ht, ← hz, hE]; exact hP9, va_K.moved hW.alike hK9, by rw [← hz, hE]; exact hD9⟩, hS.F ht⟩) hS.2.2 d_C_back_11
