def g_Cg_except (p0 : Int32) (p1 : Int32) (p2 : Int32) (w_nr : Int32) (f_cex : Nat → Int32) : Int32 × (Nat → Int32) :=
  if (g_Cg_isPerson p0) = 0 then
    (0, f_cex)
  else
    if rIn p1 w_nr then
      (1, upd f_cex ((p0 * 40) + p1).toNatClampNeg p2)
    else
      (0, f_cex)
set_option maxHeartbeats 4000000 in
set_option maxRecDepth 100000 in
theorem c_Cg_except (l : Launch) (dC : Nat → ClassId) (dI : Nat → Nat → Nat) (adK adV : Nat → Nat) (a_h : Nat) (a_cru : Nat) (a_cex : Nat) (k_cru : ClassId) (k_cex : ClassId) (p0 : Int32) (p1 : Int32) (p2 : Int32) (a_tx : Nat) (w_nr : Int32) (a_cd : Nat) (a_td : Nat) (a_cki : Nat) (a_cca : Nat) (a_cty : Nat) (a_cio : Nat) (a_clo : Nat) (w_nl : Int32) (a_cfi : Nat) (w_nf : Int32) (a_ccl : Nat) (w_nc : Int32) (f_cex : Nat → Int32) (aR : Nat → Nat) (sz : Nat) (hnr : 0 ≤ w_nr.toInt ∧ w_nr.toInt ≤ 40) : Met l y_C_except ws_C_except ({ frames := 1, cells := 0, slots := 0, locals := 21 }) (va_Pc [.ref a_h, .int p0, .int p1, .int p2] (fun U => U.heap.size = sz ∧ zz adK adV (va_A [(a_h, .inr (0, [.ref a_tx, .ref a_cru, .int w_nr, .ref a_cd, .ref a_td, .ref a_cki, .ref a_cca, .ref a_cty, .ref a_cio, .ref a_cex, .ref a_clo, .int w_nl, .ref a_cfi, .int w_nf, .ref a_ccl, .int w_nc])), (a_cru, .inl (k_cru, 40, .inr (.inr (.inr (.inr (ruA (nN w_nr) aR)))))), (a_cex, .inl (k_cex, 2000, .inl f_cex))] sz) U ∧ va_P (dC, dI) vwCl [(a_h, .inr (0, [.ref a_tx, .ref a_cru, .int w_nr, .ref a_cd, .ref a_td, .ref a_cki, .ref a_cca, .ref a_cty, .ref a_cio, .ref a_cex, .ref a_clo, .int w_nl, .ref a_cfi, .int w_nf, .ref a_ccl, .int w_nc])), (a_cru, .inl (k_cru, 40, .inr (.inr (.inr (.inr (ruA (nN w_nr) aR)))))), (a_cex, .inl (k_cex, 2000, .inl f_cex))] U.heap ∧ va_K (dC, dI) vwCl [(k_cru, .object "LoanRules$Rule"), (k_cex, .int)] U ∧ va_D (fun _ => True) [(a_h, .inr (0, [.ref a_tx, .ref a_cru, .int w_nr, .ref a_cd, .ref a_td, .ref a_cki, .ref a_cca, .ref a_cty, .ref a_cio, .ref a_cex, .ref a_clo, .int w_nl, .ref a_cfi, .int w_nf, .ref a_ccl, .int w_nc])), (a_cru, .inl (k_cru, 40, .inr (.inr (.inr (.inr (ruA (nN w_nr) aR)))))), (a_cex, .inl (k_cex, 2000, .inl f_cex))])) (va_Qi (fun (r : Int32) (_ : Unit) => r = (g_Cg_except p0 p1 p2 w_nr f_cex).1) (fun (_ : Unit) (t : State) => va_P (dC, dI) vwCl [(a_h, .inr (0, [.ref a_tx, .ref a_cru, .int w_nr, .ref a_cd, .ref a_td, .ref a_cki, .ref a_cca, .ref a_cty, .ref a_cio, .ref a_cex, .ref a_clo, .int w_nl, .ref a_cfi, .int w_nf, .ref a_ccl, .int w_nc])), (a_cru, .inl (k_cru, 40, .inr (.inr (.inr (.inr (ruA (nN w_nr) aR)))))), (a_cex, .inl (k_cex, 2000, .inl ((g_Cg_except p0 p1 p2 w_nr f_cex).2)))] t.heap ∧ va_K (dC, dI) vwCl [(k_cru, .object "LoanRules$Rule"), (k_cex, .int)] t ∧ va_D (va_A [(a_h, .inr (0, [.ref a_tx, .ref a_cru, .int w_nr, .ref a_cd, .ref a_td, .ref a_cki, .ref a_cca, .ref a_cty, .ref a_cio, .ref a_cex, .ref a_clo, .int w_nl, .ref a_cfi, .int w_nf, .ref a_ccl, .int w_nc])), (a_cru, .inl (k_cru, 40, .inr (.inr (.inr (.inr (ruA (nN w_nr) aR)))))), (a_cex, .inl (k_cex, 2000, .inl f_cex))] sz) [(a_h, .inr (0, [.ref a_tx, .ref a_cru, .int w_nr, .ref a_cd, .ref a_td, .ref a_cki, .ref a_cca, .ref a_cty, .ref a_cio, .ref a_cex, .ref a_clo, .int w_nl, .ref a_cfi, .int w_nf, .ref a_ccl, .int w_nc])), (a_cru, .inl (k_cru, 40, .inr (.inr (.inr (.inr (ruA (nN w_nr) aR)))))), (a_cex, .inl (k_cex, 2000, .inl ((g_Cg_except p0 p1 p2 w_nr f_cex).2)))]) (va_A [(a_h, .inr (0, [.ref a_tx, .ref a_cru, .int w_nr, .ref a_cd, .ref a_td, .ref a_cki, .ref a_cca, .ref a_cty, .ref a_cio, .ref a_cex, .ref a_clo, .int w_nl, .ref a_cfi, .int w_nf, .ref a_ccl, .int w_nc])), (a_cru, .inl (k_cru, 40, .inr (.inr (.inr (.inr (ruA (nN w_nr) aR)))))), (a_cex, .inl (k_cex, 2000, .inl f_cex))] sz)) 0 0 (va_A [(a_h, .inr (0, [.ref a_tx, .ref a_cru, .int w_nr, .ref a_cd, .ref a_td, .ref a_cki, .ref a_cca, .ref a_cty, .ref a_cio, .ref a_cex, .ref a_clo, .int w_nl, .ref a_cfi, .int w_nf, .ref a_ccl, .int w_nc])), (a_cru, .inl (k_cru, 40, .inr (.inr (.inr (.inr (ruA (nN w_nr) aR)))))), (a_cex, .inl (k_cex, 2000, .inl f_cex))] sz) := by
  refine Met.ofW (cc := c_C_except) (maxL := 4) (ret := (some .int)) (by decide) rfl ?_
  intro p e s m args below meth c s₁ B hml hv
  obtain ⟨rfl, hsz, hZ, hP, hK, hD0⟩ := hv
  have hx := B.exec
  have hb := B.bytes
  have hr := B.returns
  have hts0 := atoms_spec (ws := ws_C_except) B.pre
  have hts : ∀ w ∈ TT, w.before _ s = true := fun w h => hts0 w (List.mem_cons_of_mem _ h)
  have hown : s.vm.findClass "LoanRules" = some m.cls := findClass_of_methodNamed B.named
  have hlocks := B.notSynchronized
  subst hsz
  have hD := hD0.self (sz := s.heap.size)
  generalize hAe : va_A [(a_h, .inr (0, [.ref a_tx, .ref a_cru, .int w_nr, .ref a_cd, .ref a_td, .ref a_cki, .ref a_cca, .ref a_cty, .ref a_cio, .ref a_cex, .ref a_clo, .int w_nl, .ref a_cfi, .int w_nf, .ref a_ccl, .int w_nc])), (a_cru, .inl (k_cru, 40, .inr (.inr (.inr (.inr (ruA (nN w_nr) aR)))))), (a_cex, .inl (k_cex, 2000, .inl f_cex))] s.heap.size = A at hD hZ ⊢
  have hA : ∀ q : Nat, s.heap.size ≤ q → A q := fun q h => by rw [← hAe]; exact Or.inr h
  clear hAe hD0
  have hS : va_S A s.heap s.heap [] := va_S.rf
  replace hP : va_P (dC, dI) vwCl [(a_h, .inr (0, [.ref a_tx, .ref a_cru, .int w_nr, .ref a_cd, .ref a_td, .ref a_cki, .ref a_cca, .ref a_cty, .ref a_cio, .ref a_cex, .ref a_clo, .int w_nl, .ref a_cfi, .int w_nf, .ref a_ccl, .int w_nc])), (a_cru, .inl (k_cru, 40, .inr (.inr (.inr (.inr (ruA (nN w_nr) aR)))))), (a_cex, .inl (k_cex, 2000, .inl f_cex))] s.heap := hP
  have hl := lv_entry ([.ref a_h, .int p0, .int p1, .int p2]) (n := 4) (Nat.le_of_ble_eq_true rfl)
  rw [lg_entry_eq]
  generalize (lg_sl ([.ref a_h, .int p0, .int p1, .int p2]) ++ List.replicate (4 - (lg_sl ([.ref a_h, .int p0, .int p1, .int p2])).length) Slot.unset).toArray = ls at hl ⊢
  replace hl : lv_has ls 4 [(0, .ref a_h), (1, .int p0), (2, .int p1), (3, .int p2)] := hl
  obtain ⟨z, hz⟩ : ∃ z, z = g_Cg_except p0 p1 p2 w_nr f_cex := ⟨_, rfl⟩
  have hE := hz
  rw [g_Cg_except] at hE
  refine lv_iload_n hx hb d_C_except_0 rfl (lv_at hl 1 rfl) ?_
  have hPc := hP.sub (ws' := []) [] rfl
  have hKc := hK.sub (tys' := []) [] rfl
  refine vp_callSi (va_Run.run (va_runS (As := [.int p0]) (rest := []) ⟨hx, hb, hml, hown, hts⟩ (c_Cg_isPerson l dC dI adK adV (p0 := p0)) (va_cwS 1 hts (gS tw_373 tw_374 tw_42 tw_375) rfl rfl rfl (by decide +kernel) ⟨(Nat.le_of_ble_eq_true rfl), (Nat.le_of_ble_eq_true rfl)⟩) ⟨fun a U g mk q => by obtain ⟨q0, qZ, qP, qK⟩ := q; exact ⟨q0, zz_call qZ, qP, va_K.moved (u := U) (U := U.calling g mk a) (Vm.Alike.refl U.vm) qK⟩, fun U hU hW => ⟨rfl, zz_ro hS hU hW hZ, by rw [hU]; exact hPc, va_K.moved hW.alike hKc⟩⟩ rfl rfl hl.1 rfl (lv_room (Nat.le_of_ble_eq_true rfl)) d_C_except_1 ⟨(Nat.le_of_ble_eq_true rfl), (Nat.le_of_ble_eq_true rfl)⟩)) (fun r_1 hw_2 => ?_)
  clear hPc hKc
  subst hw_2
  refine lv_if_eq (tgt := 15) hx hb d_C_except_4 (by decide) (fun c_3 => ?_) (fun c_3 => ?_)
  · rw [if_pos c_3] at hE
    refine lv_iconst (v := 0) hx hb d_C_except_15 (by decide) ?_
    have hP9 := hP.sub (ws' := [(a_h, .inr (0, [.ref a_tx, .ref a_cru, .int w_nr, .ref a_cd, .ref a_td, .ref a_cki, .ref a_cca, .ref a_cty, .ref a_cio, .ref a_cex, .ref a_clo, .int w_nl, .ref a_cfi, .int w_nf, .ref a_ccl, .int w_nc])), (a_cru, .inl (k_cru, 40, .inr (.inr (.inr (.inr (ruA (nN w_nr) aR)))))), (a_cex, .inl (k_cex, 2000, .inl f_cex))]) [0, 1, 2] rfl
    have hD9 := hD.sub (ws' := [(a_h, .inr (0, [.ref a_tx, .ref a_cru, .int w_nr, .ref a_cd, .ref a_td, .ref a_cki, .ref a_cca, .ref a_cty, .ref a_cio, .ref a_cex, .ref a_clo, .int w_nl, .ref a_cfi, .int w_nf, .ref a_ccl, .int w_nc])), (a_cru, .inl (k_cru, 40, .inr (.inr (.inr (.inr (ruA (nN w_nr) aR)))))), (a_cex, .inl (k_cex, 2000, .inl f_cex))]) [0, 1, 2] (by decide) rfl
    have hK9 := hK.sub (tys' := [(k_cru, .object "LoanRules$Rule"), (k_cex, .int)]) [0, 1] rfl
    exact W.iret (v := 0) hx hb hr (fun t ht hW => ⟨⟨0, (), rfl, by rw [← hz, hE], by rw [ht, ← hz, hE]; exact hP9, va_K.moved hW.alike hK9, by rw [← hz, hE]; exact hD9⟩, hS.F ht⟩) hS.2.2 d_C_except_16
  · rw [if_neg c_3] at hE
    refine lv_aload_n hx hb d_C_except_7 rfl (lv_at hl 0 rfl) ?_
    refine lv_iload_n hx hb d_C_except_8 rfl (lv_at hl 2 rfl) ?_
    have hPc := hP.sub (ws' := [(a_h, .inr (0, [.ref a_tx, .ref a_cru, .int w_nr, .ref a_cd, .ref a_td, .ref a_cki, .ref a_cca, .ref a_cty, .ref a_cio, .ref a_cex, .ref a_clo, .int w_nl, .ref a_cfi, .int w_nf, .ref a_ccl, .int w_nc])), (a_cru, .inl (k_cru, 40, .inr (.inr (.inr (.inr (ruA (nN w_nr) aR))))))]) [0, 1] rfl
    have hKc := hK.sub (tys' := [(k_cru, .object "LoanRules$Rule")]) [0] rfl
    refine va_csq (va_Run.run (va_runV (As := [.int p1]) (rest := []) ⟨hx, hb, hml, hown, hts⟩ (c_Cg_ruleAt l dC dI adK adV (a_h := a_h) (p0 := p1) (a_tx := a_tx) (a_cru := a_cru) (w_nr := w_nr) (a_cd := a_cd) (a_td := a_td) (a_cki := a_cki) (a_cca := a_cca) (a_cty := a_cty) (a_cio := a_cio) (a_cex := a_cex) (a_clo := a_clo) (w_nl := w_nl) (a_cfi := a_cfi) (w_nf := w_nf) (a_ccl := a_ccl) (w_nc := w_nc) (k_cru := k_cru) (f_cru := (ruA (nN w_nr) aR))) (cwV 1 hts (gV tw_431 tw_433 tw_15 tw_42 tw_434) rfl rfl rfl (by decide +kernel) ⟨(Nat.le_of_ble_eq_true rfl), (Nat.le_of_ble_eq_true rfl)⟩) ⟨fun a U g mk q => by obtain ⟨q0, qZ, qP, qK⟩ := q; exact ⟨q0, zz_call qZ, qP, va_K.moved (u := U) (U := U.calling g mk a) (Vm.Alike.refl U.vm) qK⟩, va_recv hKc hPc (ci := 0) (q0 := 0) rfl rfl, fun U hU hW => ⟨rfl, zz_ro hS hU hW hZ, by rw [hU]; exact hPc, va_K.moved hW.alike hKc⟩⟩ rfl rfl hl.1 rfl (lv_room (Nat.le_of_ble_eq_true rfl)) d_C_except_9 ⟨(Nat.le_of_ble_eq_true rfl), (Nat.le_of_ble_eq_true rfl)⟩)) (fun r_4 hw_5 => ?_)
    clear hPc hKc
    subst hw_5
    by_cases c_6 : rIn p1 w_nr
    · rw [if_pos c_6] at hE
      refine W.eq (g2 := F0 m 12 ls [.ref (aR (nN p1))]) (by rw [rul_some hnr.2 c_6]; rfl) ?_
      refine lv_ifnonnull (tgt := 17) hx hb d_C_except_12 (by decide) ?_
      refine lv_aload_n hx hb d_C_except_17 rfl (lv_at hl 0 rfl) ?_
      refine va_get (D := (dC, dI)) (ci := 0) (v := .ref a_cex) (C := "LoanRules") (T := Fz_C) (N := 16) hx hb hts it_C hown hK hP 0 rfl rfl 9 (by decide) (hts _ tw_113) (fun _ h9 => h9) rfl d_C_except_18 ?_
      refine lv_iload_n hx hb d_C_except_21 rfl (lv_at hl 1 rfl) ?_
      refine lv_bipush (v := 40) hx hb d_C_except_22 (by decide) ?_
      refine lv_imul hx hb d_C_except_24 ?_
      refine lv_iload_n hx hb d_C_except_25 rfl (lv_at hl 2 rfl) ?_
      refine lv_iadd hx hb d_C_except_26 ?_
      refine lv_iload_n hx hb d_C_except_27 rfl (lv_at hl 3 rfl) ?_
      have i_7 : vp_in ((p0 * 40) + p1) 2000 := ixex (persC c_3) c_6 hnr
      refine va_iast (D := (dC, dI)) hx hb hK hP hD hS 2 1 rfl rfl i_7 d_C_except_28 (fun H locs hP hD hS => ?_)
      replace hP : va_P (dC, dI) vwCl [(a_h, .inr (0, [.ref a_tx, .ref a_cru, .int w_nr, .ref a_cd, .ref a_td, .ref a_cki, .ref a_cca, .ref a_cty, .ref a_cio, .ref a_cex, .ref a_clo, .int w_nl, .ref a_cfi, .int w_nf, .ref a_ccl, .int w_nc])), (a_cru, .inl (k_cru, 40, .inr (.inr (.inr (.inr (ruA (nN w_nr) aR)))))), (a_cex, .inl (k_cex, 2000, .inl (upd f_cex ((p0 * 40) + p1).toNatClampNeg p2)))] H := hP
      replace hD : va_D A [(a_h, .inr (0, [.ref a_tx, .ref a_cru, .int w_nr, .ref a_cd, .ref a_td, .ref a_cki, .ref a_cca, .ref a_cty, .ref a_cio, .ref a_cex, .ref a_clo, .int w_nl, .ref a_cfi, .int w_nf, .ref a_ccl, .int w_nc])), (a_cru, .inl (k_cru, 40, .inr (.inr (.inr (.inr (ruA (nN w_nr) aR)))))), (a_cex, .inl (k_cex, 2000, .inl (upd f_cex ((p0 * 40) + p1).toNatClampNeg p2)))] := hD
      refine lv_iconst (v := 1) hx hb d_C_except_29 (by decide) ?_
      have hP9 := hP.sub (ws' := [(a_h, .inr (0, [.ref a_tx, .ref a_cru, .int w_nr, .ref a_cd, .ref a_td, .ref a_cki, .ref a_cca, .ref a_cty, .ref a_cio, .ref a_cex, .ref a_clo, .int w_nl, .ref a_cfi, .int w_nf, .ref a_ccl, .int w_nc])), (a_cru, .inl (k_cru, 40, .inr (.inr (.inr (.inr (ruA (nN w_nr) aR)))))), (a_cex, .inl (k_cex, 2000, .inl (upd f_cex ((p0 * 40) + p1).toNatClampNeg p2)))]) [0, 1, 2] rfl
      have hD9 := hD.sub (ws' := [(a_h, .inr (0, [.ref a_tx, .ref a_cru, .int w_nr, .ref a_cd, .ref a_td, .ref a_cki, .ref a_cca, .ref a_cty, .ref a_cio, .ref a_cex, .ref a_clo, .int w_nl, .ref a_cfi, .int w_nf, .ref a_ccl, .int w_nc])), (a_cru, .inl (k_cru, 40, .inr (.inr (.inr (.inr (ruA (nN w_nr) aR)))))), (a_cex, .inl (k_cex, 2000, .inl (upd f_cex ((p0 * 40) + p1).toNatClampNeg p2)))]) [0, 1, 2] (by decide) rfl
      have hK9 := hK.sub (tys' := [(k_cru, .object "LoanRules$Rule"), (k_cex, .int)]) [0, 1] rfl
      exact W.iret (v := 1) hx hb hr (fun t ht hW => ⟨⟨1, (), rfl, by rw [← hz, hE], by rw [ht, ← hz, hE]; exact hP9, va_K.moved hW.alike hK9, by rw [← hz, hE]; exact hD9⟩, hS.F ht⟩) hS.2.2 d_C_except_30
    · rw [if_neg c_6] at hE
      refine W.eq (g2 := F0 m 12 ls [.null]) (by rw [rul_none c_6]; rfl) ?_
      refine lv_ifnonnullN hx hb d_C_except_12 ?_
      refine lv_iconst (v := 0) hx hb d_C_except_15 (by decide) ?_
      have hP9 := hP.sub (ws' := [(a_h, .inr (0, [.ref a_tx, .ref a_cru, .int w_nr, .ref a_cd, .ref a_td, .ref a_cki, .ref a_cca, .ref a_cty, .ref a_cio, .ref a_cex, .ref a_clo, .int w_nl, .ref a_cfi, .int w_nf, .ref a_ccl, .int w_nc])), (a_cru, .inl (k_cru, 40, .inr (.inr (.inr (.inr (ruA (nN w_nr) aR)))))), (a_cex, .inl (k_cex, 2000, .inl f_cex))]) [0, 1, 2] rfl
      have hD9 := hD.sub (ws' := [(a_h, .inr (0, [.ref a_tx, .ref a_cru, .int w_nr, .ref a_cd, .ref a_td, .ref a_cki, .ref a_cca, .ref a_cty, .ref a_cio, .ref a_cex, .ref a_clo, .int w_nl, .ref a_cfi, .int w_nf, .ref a_ccl, .int w_nc])), (a_cru, .inl (k_cru, 40, .inr (.inr (.inr (.inr (ruA (nN w_nr) aR)))))), (a_cex, .inl (k_cex, 2000, .inl f_cex))]) [0, 1, 2] (by decide) rfl
      have hK9 := hK.sub (tys' := [(k_cru, .object "LoanRules$Rule"), (k_cex, .int)]) [0, 1] rfl
      exact W.iret (v := 0) hx hb hr (fun t ht hW => ⟨⟨0, (), rfl, by rw [← hz, hE], by rw [ht, ← hz, hE]; exact hP9, va_K.moved hW.alike hK9, by rw [← hz, hE]; exact hD9⟩, hS.F ht⟩) hS.2.2 d_C_except_16
theorem li_ge1 {x : Int32} (c : ¬ x < 1) : 1 ≤ x.toInt := by
  rw [li_lt, li_1] at c; omega
theorem li_nlt {x y : Int32} (c : ¬ y < x) : x.toInt ≤ y.toInt := by
  rw [li_lt] at c; omega
theorem inlo {x : Int32} (c1 : ¬ x < 1) (c2 : x ≤ (200 : Int32)) : vp_in (x - 1) 200 := by
  have h1 := li_ge1 c1
  have e : (200 : Int32).toInt = 200 := by decide
  rw [li_le, e] at c2
  rw [vp_in_iff, li_dec (by omega) (by omega)]; omega
theorem loa_at {n j : Nat} {a : Nat → Nat} (h : j < n) : ruA n a j = some (a j) := by
  unfold ruA; rw [if_pos h]

def g_Cg_rankOf (p0 : Int32) (w_nr : Int32) (F_ : Nat → Nat → Int32) : Int32 :=
  if rIn p0 w_nr then
    F_ 8 (nN p0)
  else
    (-1)
set_option maxHeartbeats 4000000 in
set_option maxRecDepth 100000 in
theorem c_Cg_rankOf (l : Launch) (dC : Nat → ClassId) (dI : Nat → Nat → Nat) (adK adV : Nat → Nat) (a_h : Nat) (a_cru : Nat) (k_cru : ClassId) (p0 : Int32) (a_tx : Nat) (w_nr : Int32) (a_cd : Nat) (a_td : Nat) (a_cki : Nat) (a_cca : Nat) (a_cty : Nat) (a_cio : Nat) (a_cex : Nat) (a_clo : Nat) (w_nl : Int32) (a_cfi : Nat) (w_nf : Int32) (a_ccl : Nat) (w_nc : Int32) (aR : Nat → Nat) (F_ : Nat → Nat → Int32) (aL : Nat → Nat) (G_ : Nat → Nat → Int32) (rho : Nat → Nat) (hnr : 0 ≤ w_nr.toInt ∧ w_nr.toInt ≤ 40) : Met l y_C_rankOf ws_C_rankOf ({ frames := 1, cells := 0, slots := 0, locals := 21 }) (va_Pc [.ref a_h, .int p0] (fun U => zz adK adV (fun _ => False) U ∧ va_P (dC, dI) vwCl (([(a_h, .inr (0, [.ref a_tx, .ref a_cru, .int w_nr, .ref a_cd, .ref a_td, .ref a_cki, .ref a_cca, .ref a_cty, .ref a_cio, .ref a_cex, .ref a_clo, .int w_nl, .ref a_cfi, .int w_nf, .ref a_ccl, .int w_nc])), (a_cru, .inl (k_cru, 40, .inr (.inr (.inr (.inr (ruA (nN w_nr) aR))))))] : va_W) ++ plz (nN w_nr) aR F_ (nN w_nl) aL G_ rho) U.heap ∧ va_K (dC, dI) vwCl [(k_cru, .object "LoanRules$Rule")] U)) (vp_Si (fun r => r = g_Cg_rankOf p0 w_nr F_)) 0 0 (fun _ => False) := by
  refine Met.ofW (cc := c_C_rankOf) (maxL := 3) (ret := (some .int)) (by decide) rfl ?_
  intro p e s m args below meth c s₁ B hml hv
  obtain ⟨rfl, hZ, hP, hK⟩ := hv
  have hx := B.exec
  have hb := B.bytes
  have hr := B.returns
  have hts0 := atoms_spec (ws := ws_C_rankOf) B.pre
  have hts : ∀ w ∈ TT, w.before _ s = true := fun w h => hts0 w (List.mem_cons_of_mem _ h)
  have hown : s.vm.findClass "LoanRules" = some m.cls := findClass_of_methodNamed B.named
  have hlocks := B.notSynchronized
  have hS : va_S (fun _ => False) s.heap s.heap [] := va_S.rf
  replace hP : va_P (dC, dI) vwCl (([(a_h, .inr (0, [.ref a_tx, .ref a_cru, .int w_nr, .ref a_cd, .ref a_td, .ref a_cki, .ref a_cca, .ref a_cty, .ref a_cio, .ref a_cex, .ref a_clo, .int w_nl, .ref a_cfi, .int w_nf, .ref a_ccl, .int w_nc])), (a_cru, .inl (k_cru, 40, .inr (.inr (.inr (.inr (ruA (nN w_nr) aR))))))] : va_W) ++ plz (nN w_nr) aR F_ (nN w_nl) aL G_ rho) s.heap := hP
  have hl := lv_entry ([.ref a_h, .int p0]) (n := 3) (Nat.le_of_ble_eq_true rfl)
  rw [lg_entry_eq]
  generalize (lg_sl ([.ref a_h, .int p0]) ++ List.replicate (3 - (lg_sl ([.ref a_h, .int p0])).length) Slot.unset).toArray = ls at hl ⊢
  replace hl : lv_has ls 3 [(0, .ref a_h), (1, .int p0)] := hl
  obtain ⟨z, hz⟩ : ∃ z, z = g_Cg_rankOf p0 w_nr F_ := ⟨_, rfl⟩
  have hE := hz
  rw [g_Cg_rankOf] at hE
  refine lv_aload_n hx hb d_C_rankOf_0 rfl (lv_at hl 0 rfl) ?_
  refine lv_iload_n hx hb d_C_rankOf_1 rfl (lv_at hl 1 rfl) ?_
  have hPc := hP.sub (ws' := [(a_h, .inr (0, [.ref a_tx, .ref a_cru, .int w_nr, .ref a_cd, .ref a_td, .ref a_cki, .ref a_cca, .ref a_cty, .ref a_cio, .ref a_cex, .ref a_clo, .int w_nl, .ref a_cfi, .int w_nf, .ref a_ccl, .int w_nc])), (a_cru, .inl (k_cru, 40, .inr (.inr (.inr (.inr (ruA (nN w_nr) aR))))))]) [0, 1] rfl
  have hKc := hK.sub (tys' := [(k_cru, .object "LoanRules$Rule")]) [0] rfl
  refine va_csq (va_Run.run (va_runV (As := [.int p0]) (rest := []) ⟨hx, hb, hml, hown, hts⟩ (c_Cg_ruleAt l dC dI adK adV (a_h := a_h) (p0 := p0) (a_tx := a_tx) (a_cru := a_cru) (w_nr := w_nr) (a_cd := a_cd) (a_td := a_td) (a_cki := a_cki) (a_cca := a_cca) (a_cty := a_cty) (a_cio := a_cio) (a_cex := a_cex) (a_clo := a_clo) (w_nl := w_nl) (a_cfi := a_cfi) (w_nf := w_nf) (a_ccl := a_ccl) (w_nc := w_nc) (k_cru := k_cru) (f_cru := (ruA (nN w_nr) aR))) (cwV 1 hts (gV tw_431 tw_433 tw_15 tw_42 tw_434) rfl rfl rfl (by decide +kernel) ⟨(Nat.le_of_ble_eq_true rfl), (Nat.le_of_ble_eq_true rfl)⟩) ⟨fun a U g mk q => by obtain ⟨q0, qZ, qP, qK⟩ := q; exact ⟨q0, zz_call qZ, qP, va_K.moved (u := U) (U := U.calling g mk a) (Vm.Alike.refl U.vm) qK⟩, va_recv hKc hPc (ci := 0) (q0 := 0) rfl rfl, fun U hU hW => ⟨rfl, zz_rr hU hW hZ, by rw [hU]; exact hPc, va_K.moved hW.alike hKc⟩⟩ rfl rfl hl.1 rfl (lv_room (Nat.le_of_ble_eq_true rfl)) d_C_rankOf_2 ⟨(Nat.le_of_ble_eq_true rfl), (Nat.le_of_ble_eq_true rfl)⟩)) (fun r_1 hw_2 => ?_)
  clear hPc hKc
  subst hw_2
  by_cases c_3 : rIn p0 w_nr
  · rw [if_pos c_3] at hE
    refine W.eq (g2 := F0 m 5 ls [.ref (aR (nN p0))]) (by rw [rul_some hnr.2 c_3]; rfl) ?_
    refine lv_astore_n (lv' := [(2, .ref (aR (nN p0))), (0, .ref a_h), (1, .int p0)]) hx hb d_C_rankOf_5 rfl hl (by decide) rfl (fun ls hl => ?_)
    refine lv_aload_n hx hb d_C_rankOf_6 rfl (lv_at hl 0 rfl) ?_
    refine lv_ifnonnull (tgt := 14) hx hb d_C_rankOf_7 (by decide) ?_
    refine lv_aload_n hx hb d_C_rankOf_14 rfl (lv_at hl 0 rfl) ?_
    refine va_get (D := (dC, dI)) (ci := 3) (v := .int (F_ 8 (nN p0))) (C := "LoanRules$Rule") (T := Fz_R) (N := 11) hx hb hts it_R hown hK hP _ (plz_r (rIn_lt c_3)) rfl 8 (by decide) (hts _ tw_198) (fun _ h9 => h9) rfl d_C_rankOf_15 ?_
    exact W.iret (v := F_ 8 (nN p0)) hx hb hr (fun t ht hW => ⟨F_ 8 (nN p0), rfl, hE.symm.trans hz, ht⟩) (fun _ h => by cases h) d_C_rankOf_18
  · rw [if_neg c_3] at hE
    refine W.eq (g2 := F0 m 5 ls [.null]) (by rw [rul_none c_3]; rfl) ?_
    refine lv_astore_nN (lv' := [(2, .null), (0, .ref a_h), (1, .int p0)]) hx hb d_C_rankOf_5 rfl hl (by decide) rfl (fun ls hl => ?_)
    refine lv_aload_nN hx hb d_C_rankOf_6 rfl (lv_at hl 0 rfl) ?_
    refine lv_ifnonnullN hx hb d_C_rankOf_7 ?_
    refine lv_iconst (v := (-1)) hx hb d_C_rankOf_10 (by decide) ?_
    refine lv_goto (tgt := 18) hx hb d_C_rankOf_11 (by decide) ?_
    exact W.iret (v := (-1)) hx hb hr (fun t ht hW => ⟨(-1), rfl, hE.symm.trans hz, ht⟩) (fun _ h => by cases h) d_C_rankOf_18
def g_Cg_throwsUp (p0 : Int32) (p1 : Int32) (w_nr : Int32) (F_ : Nat → Nat → Int32) : Int32 × (Nat → Nat → Int32) :=
  if rIn p0 w_nr then
    if (F_ 3 (nN p0)) = 3 then
      (F_ 10 (nN p0), up2 F_ 10 (nN p0) p1)
    else
      (0, F_)
  else
    (0, F_)
set_option maxHeartbeats 4000000 in
set_option maxRecDepth 100000 in
theorem c_Cg_throwsUp (l : Launch) (dC : Nat → ClassId) (dI : Nat → Nat → Nat) (adK adV : Nat → Nat) (a_h : Nat) (a_cru : Nat) (k_cru : ClassId) (p0 : Int32) (p1 : Int32) (a_tx : Nat) (w_nr : Int32) (a_cd : Nat) (a_td : Nat) (a_cki : Nat) (a_cca : Nat) (a_cty : Nat) (a_cio : Nat) (a_cex : Nat) (a_clo : Nat) (w_nl : Int32) (a_cfi : Nat) (w_nf : Int32) (a_ccl : Nat) (w_nc : Int32) (aR : Nat → Nat) (F_ : Nat → Nat → Int32) (aL : Nat → Nat) (G_ : Nat → Nat → Int32) (rho : Nat → Nat) (sz : Nat) (hnr : 0 ≤ w_nr.toInt ∧ w_nr.toInt ≤ 40) (hb1 : b01 p1) (hf10 : ∀ j, b01 (F_ 10 j)) : Met l y_C_throwsUp ws_C_throwsUp ({ frames := 1, cells := 0, slots := 0, locals := 21 }) (va_Pc [.ref a_h, .int p0, .int p1] (fun U => U.heap.size = sz ∧ zz adK adV (va_A (([(a_h, .inr (0, [.ref a_tx, .ref a_cru, .int w_nr, .ref a_cd, .ref a_td, .ref a_cki, .ref a_cca, .ref a_cty, .ref a_cio, .ref a_cex, .ref a_clo, .int w_nl, .ref a_cfi, .int w_nf, .ref a_ccl, .int w_nc])), (a_cru, .inl (k_cru, 40, .inr (.inr (.inr (.inr (ruA (nN w_nr) aR))))))] : va_W) ++ plz (nN w_nr) aR F_ (nN w_nl) aL G_ rho) sz) U ∧ va_P (dC, dI) vwCl (([(a_h, .inr (0, [.ref a_tx, .ref a_cru, .int w_nr, .ref a_cd, .ref a_td, .ref a_cki, .ref a_cca, .ref a_cty, .ref a_cio, .ref a_cex, .ref a_clo, .int w_nl, .ref a_cfi, .int w_nf, .ref a_ccl, .int w_nc])), (a_cru, .inl (k_cru, 40, .inr (.inr (.inr (.inr (ruA (nN w_nr) aR))))))] : va_W) ++ plz (nN w_nr) aR F_ (nN w_nl) aL G_ rho) U.heap ∧ va_K (dC, dI) vwCl [(k_cru, .object "LoanRules$Rule")] U ∧ va_D (fun _ => True) (([(a_h, .inr (0, [.ref a_tx, .ref a_cru, .int w_nr, .ref a_cd, .ref a_td, .ref a_cki, .ref a_cca, .ref a_cty, .ref a_cio, .ref a_cex, .ref a_clo, .int w_nl, .ref a_cfi, .int w_nf, .ref a_ccl, .int w_nc])), (a_cru, .inl (k_cru, 40, .inr (.inr (.inr (.inr (ruA (nN w_nr) aR))))))] : va_W) ++ plz (nN w_nr) aR F_ (nN w_nl) aL G_ rho))) (va_Qi (fun (r : Int32) (_ : Unit) => r = (g_Cg_throwsUp p0 p1 w_nr F_).1) (fun (_ : Unit) (t : State) => va_P (dC, dI) vwCl (([(a_h, .inr (0, [.ref a_tx, .ref a_cru, .int w_nr, .ref a_cd, .ref a_td, .ref a_cki, .ref a_cca, .ref a_cty, .ref a_cio, .ref a_cex, .ref a_clo, .int w_nl, .ref a_cfi, .int w_nf, .ref a_ccl, .int w_nc])), (a_cru, .inl (k_cru, 40, .inr (.inr (.inr (.inr (ruA (nN w_nr) aR))))))] : va_W) ++ plz (nN w_nr) aR ((g_Cg_throwsUp p0 p1 w_nr F_).2) (nN w_nl) aL G_ rho) t.heap ∧ va_K (dC, dI) vwCl [(k_cru, .object "LoanRules$Rule")] t ∧ va_D (va_A (([(a_h, .inr (0, [.ref a_tx, .ref a_cru, .int w_nr, .ref a_cd, .ref a_td, .ref a_cki, .ref a_cca, .ref a_cty, .ref a_cio, .ref a_cex, .ref a_clo, .int w_nl, .ref a_cfi, .int w_nf, .ref a_ccl, .int w_nc])), (a_cru, .inl (k_cru, 40, .inr (.inr (.inr (.inr (ruA (nN w_nr) aR))))))] : va_W) ++ plz (nN w_nr) aR F_ (nN w_nl) aL G_ rho) sz) (([(a_h, .inr (0, [.ref a_tx, .ref a_cru, .int w_nr, .ref a_cd, .ref a_td, .ref a_cki, .ref a_cca, .ref a_cty, .ref a_cio, .ref a_cex, .ref a_clo, .int w_nl, .ref a_cfi, .int w_nf, .ref a_ccl, .int w_nc])), (a_cru, .inl (k_cru, 40, .inr (.inr (.inr (.inr (ruA (nN w_nr) aR))))))] : va_W) ++ plz (nN w_nr) aR ((g_Cg_throwsUp p0 p1 w_nr F_).2) (nN w_nl) aL G_ rho)) (va_A (([(a_h, .inr (0, [.ref a_tx, .ref a_cru, .int w_nr, .ref a_cd, .ref a_td, .ref a_cki, .ref a_cca, .ref a_cty, .ref a_cio, .ref a_cex, .ref a_clo, .int w_nl, .ref a_cfi, .int w_nf, .ref a_ccl, .int w_nc])), (a_cru, .inl (k_cru, 40, .inr (.inr (.inr (.inr (ruA (nN w_nr) aR))))))] : va_W) ++ plz (nN w_nr) aR F_ (nN w_nl) aL G_ rho) sz)) 0 0 (va_A (([(a_h, .inr (0, [.ref a_tx, .ref a_cru, .int w_nr, .ref a_cd, .ref a_td, .ref a_cki, .ref a_cca, .ref a_cty, .ref a_cio, .ref a_cex, .ref a_clo, .int w_nl, .ref a_cfi, .int w_nf, .ref a_ccl, .int w_nc])), (a_cru, .inl (k_cru, 40, .inr (.inr (.inr (.inr (ruA (nN w_nr) aR))))))] : va_W) ++ plz (nN w_nr) aR F_ (nN w_nl) aL G_ rho) sz) := by
  refine Met.ofW (cc := c_C_throwsUp) (maxL := 5) (ret := (some .boolean)) (by decide) rfl ?_
  intro p e s m args below meth c s₁ B hml hv
  obtain ⟨rfl, hsz, hZ, hP, hK, hD0⟩ := hv
  have hx := B.exec
  have hb := B.bytes
  have hr := B.returns
  have hts0 := atoms_spec (ws := ws_C_throwsUp) B.pre
  have hts : ∀ w ∈ TT, w.before _ s = true := fun w h => hts0 w (List.mem_cons_of_mem _ h)
  have hown : s.vm.findClass "LoanRules" = some m.cls := findClass_of_methodNamed B.named
  have hlocks := B.notSynchronized
  subst hsz
  have hD := hD0.self (sz := s.heap.size)
  generalize hAe : va_A (([(a_h, .inr (0, [.ref a_tx, .ref a_cru, .int w_nr, .ref a_cd, .ref a_td, .ref a_cki, .ref a_cca, .ref a_cty, .ref a_cio, .ref a_cex, .ref a_clo, .int w_nl, .ref a_cfi, .int w_nf, .ref a_ccl, .int w_nc])), (a_cru, .inl (k_cru, 40, .inr (.inr (.inr (.inr (ruA (nN w_nr) aR))))))] : va_W) ++ plz (nN w_nr) aR F_ (nN w_nl) aL G_ rho) s.heap.size = A at hD hZ ⊢
  have hA : ∀ q : Nat, s.heap.size ≤ q → A q := fun q h => by rw [← hAe]; exact Or.inr h
  clear hAe hD0
  have hS : va_S A s.heap s.heap [] := va_S.rf
  replace hP : va_P (dC, dI) vwCl (([(a_h, .inr (0, [.ref a_tx, .ref a_cru, .int w_nr, .ref a_cd, .ref a_td, .ref a_cki, .ref a_cca, .ref a_cty, .ref a_cio, .ref a_cex, .ref a_clo, .int w_nl, .ref a_cfi, .int w_nf, .ref a_ccl, .int w_nc])), (a_cru, .inl (k_cru, 40, .inr (.inr (.inr (.inr (ruA (nN w_nr) aR))))))] : va_W) ++ plz (nN w_nr) aR F_ (nN w_nl) aL G_ rho) s.heap := hP
  have hl := lv_entry ([.ref a_h, .int p0, .int p1]) (n := 5) (Nat.le_of_ble_eq_true rfl)
  rw [lg_entry_eq]
  generalize (lg_sl ([.ref a_h, .int p0, .int p1]) ++ List.replicate (5 - (lg_sl ([.ref a_h, .int p0, .int p1])).length) Slot.unset).toArray = ls at hl ⊢
  replace hl : lv_has ls 5 [(0, .ref a_h), (1, .int p0), (2, .int p1)] := hl
  obtain ⟨z, hz⟩ : ∃ z, z = g_Cg_throwsUp p0 p1 w_nr F_ := ⟨_, rfl⟩
  have hE := hz
  rw [g_Cg_throwsUp] at hE
  refine lv_aload_n hx hb d_C_throwsUp_0 rfl (lv_at hl 0 rfl) ?_
  refine lv_iload_n hx hb d_C_throwsUp_1 rfl (lv_at hl 1 rfl) ?_
  have hPc := hP.sub (ws' := [(a_h, .inr (0, [.ref a_tx, .ref a_cru, .int w_nr, .ref a_cd, .ref a_td, .ref a_cki, .ref a_cca, .ref a_cty, .ref a_cio, .ref a_cex, .ref a_clo, .int w_nl, .ref a_cfi, .int w_nf, .ref a_ccl, .int w_nc])), (a_cru, .inl (k_cru, 40, .inr (.inr (.inr (.inr (ruA (nN w_nr) aR))))))]) [0, 1] rfl
  have hKc := hK.sub (tys' := [(k_cru, .object "LoanRules$Rule")]) [0] rfl
  refine va_csq (va_Run.run (va_runV (As := [.int p0]) (rest := []) ⟨hx, hb, hml, hown, hts⟩ (c_Cg_ruleAt l dC dI adK adV (a_h := a_h) (p0 := p0) (a_tx := a_tx) (a_cru := a_cru) (w_nr := w_nr) (a_cd := a_cd) (a_td := a_td) (a_cki := a_cki) (a_cca := a_cca) (a_cty := a_cty) (a_cio := a_cio) (a_cex := a_cex) (a_clo := a_clo) (w_nl := w_nl) (a_cfi := a_cfi) (w_nf := w_nf) (a_ccl := a_ccl) (w_nc := w_nc) (k_cru := k_cru) (f_cru := (ruA (nN w_nr) aR))) (cwV 1 hts (gV tw_431 tw_433 tw_15 tw_42 tw_434) rfl rfl rfl (by decide +kernel) ⟨(Nat.le_of_ble_eq_true rfl), (Nat.le_of_ble_eq_true rfl)⟩) ⟨fun a U g mk q => by obtain ⟨q0, qZ, qP, qK⟩ := q; exact ⟨q0, zz_call qZ, qP, va_K.moved (u := U) (U := U.calling g mk a) (Vm.Alike.refl U.vm) qK⟩, va_recv hKc hPc (ci := 0) (q0 := 0) rfl rfl, fun U hU hW => ⟨rfl, zz_ro hS hU hW hZ, by rw [hU]; exact hPc, va_K.moved hW.alike hKc⟩⟩ rfl rfl hl.1 rfl (lv_room (Nat.le_of_ble_eq_true rfl)) d_C_throwsUp_2 ⟨(Nat.le_of_ble_eq_true rfl), (Nat.le_of_ble_eq_true rfl)⟩)) (fun r_1 hw_2 => ?_)
  clear hPc hKc
  subst hw_2
  by_cases c_3 : rIn p0 w_nr
  · rw [if_pos c_3] at hE
    refine W.eq (g2 := F0 m 5 ls [.ref (aR (nN p0))]) (by rw [rul_some hnr.2 c_3]; rfl) ?_
    refine lv_astore_n (lv' := [(3, .ref (aR (nN p0))), (0, .ref a_h), (1, .int p0), (2, .int p1)]) hx hb d_C_throwsUp_5 rfl hl (by decide) rfl (fun ls hl => ?_)
    refine lv_aload_n hx hb d_C_throwsUp_6 rfl (lv_at hl 0 rfl) ?_
    refine lv_ifnull hx hb d_C_throwsUp_7 ?_
    refine lv_aload_n hx hb d_C_throwsUp_10 rfl (lv_at hl 0 rfl) ?_
    refine va_get (D := (dC, dI)) (ci := 3) (v := .int (F_ 3 (nN p0))) (C := "LoanRules$Rule") (T := Fz_R) (N := 11) hx hb hts it_R hown hK hP _ (plz_r (rIn_lt c_3)) rfl 3 (by decide) (hts _ tw_183) (fun _ h9 => h9) rfl d_C_throwsUp_11 ?_
    refine lv_iconst (v := 3) hx hb d_C_throwsUp_14 (by decide) ?_
    refine lv_icmp_eq (tgt := 20) hx hb d_C_throwsUp_15 (by decide) (fun c_4 => ?_) (fun c_4 => ?_)
    · rw [if_pos c_4] at hE
      refine lv_aload_n hx hb d_C_throwsUp_20 rfl (lv_at hl 0 rfl) ?_
      refine va_get (D := (dC, dI)) (ci := 3) (v := .int (F_ 10 (nN p0))) (C := "LoanRules$Rule") (T := Fz_R) (N := 11) hx hb hts it_R hown hK hP _ (plz_r (rIn_lt c_3)) rfl 10 (by decide) (hts _ tw_202) (fun _ h9 => h9) rfl d_C_throwsUp_21 ?_
      refine lv_istore (lv' := [(4, .int (F_ 10 (nN p0))), (3, .ref (aR (nN p0))), (0, .ref a_h), (1, .int p0), (2, .int p1)]) hx hb d_C_throwsUp_24 hl (by decide) rfl (fun ls hl => ?_)
      refine lv_aload_n hx hb d_C_throwsUp_26 rfl (lv_at hl 1 rfl) ?_
      refine lv_iload_n hx hb d_C_throwsUp_27 rfl (lv_at hl 4 rfl) ?_
      refine va_put (D := (dC, dI)) (ci := 3) (v := .int p1) (ty := .boolean) (C := "LoanRules$Rule") (T := Fz_R) (N := 11) hx hb hts it_R tz_R tz_R_ok nz_R hown hK hP hD hS _ (plz_r (rIn_lt c_3)) rfl 10 (by decide) (hts _ tw_202) (fun _ h9 => h9) rfl (by decide +kernel) (narrow_b hb1) (fits_b hb1) (Nat.le_of_ble_eq_true rfl) d_C_throwsUp_28 (fun H locs hP hD hS => ?_)
      replace hP := vP_rput 10 p1 (rIn_lt c_3) (by simp [up2]) hP
      replace hD := vD_rput 10 p1 (rIn_lt c_3) (by simp [up2]) hD
      replace hP : va_P (dC, dI) vwCl (([(a_h, .inr (0, [.ref a_tx, .ref a_cru, .int w_nr, .ref a_cd, .ref a_td, .ref a_cki, .ref a_cca, .ref a_cty, .ref a_cio, .ref a_cex, .ref a_clo, .int w_nl, .ref a_cfi, .int w_nf, .ref a_ccl, .int w_nc])), (a_cru, .inl (k_cru, 40, .inr (.inr (.inr (.inr (ruA (nN w_nr) aR))))))] : va_W) ++ plz (nN w_nr) aR (up2 F_ 10 (nN p0) p1) (nN w_nl) aL G_ rho) H := hP
      replace hD : va_D A (([(a_h, .inr (0, [.ref a_tx, .ref a_cru, .int w_nr, .ref a_cd, .ref a_td, .ref a_cki, .ref a_cca, .ref a_cty, .ref a_cio, .ref a_cex, .ref a_clo, .int w_nl, .ref a_cfi, .int w_nf, .ref a_ccl, .int w_nc])), (a_cru, .inl (k_cru, 40, .inr (.inr (.inr (.inr (ruA (nN w_nr) aR))))))] : va_W) ++ plz (nN w_nr) aR (up2 F_ 10 (nN p0) p1) (nN w_nl) aL G_ rho) := hD
      refine lv_iload hx hb d_C_throwsUp_31 (lv_at hl 0 rfl) ?_
      have hP9 := va_P.part (cx := [(a_h, .inr (0, [.ref a_tx, .ref a_cru, .int w_nr, .ref a_cd, .ref a_td, .ref a_cki, .ref a_cca, .ref a_cty, .ref a_cio, .ref a_cex, .ref a_clo, .int w_nl, .ref a_cfi, .int w_nf, .ref a_ccl, .int w_nc])), (a_cru, .inl (k_cru, 40, .inr (.inr (.inr (.inr (ruA (nN w_nr) aR))))))]) hP [0, 1] rfl
      have hD9 := va_D.part (cx := [(a_h, .inr (0, [.ref a_tx, .ref a_cru, .int w_nr, .ref a_cd, .ref a_td, .ref a_cki, .ref a_cca, .ref a_cty, .ref a_cio, .ref a_cex, .ref a_clo, .int w_nl, .ref a_cfi, .int w_nf, .ref a_ccl, .int w_nc])), (a_cru, .inl (k_cru, 40, .inr (.inr (.inr (.inr (ruA (nN w_nr) aR))))))]) hD [0, 1] (by decide) rfl
      have hK9 := hK.sub (tys' := [(k_cru, .object "LoanRules$Rule")]) [0] rfl
      exact W.zret (v := F_ 10 (nN p0)) hx hb hr (narrow_b (hf10 _)) (fun t ht hW => ⟨⟨F_ 10 (nN p0), (), rfl, by rw [← hz, hE], by rw [ht, ← hz, hE]; exact hP9, va_K.moved hW.alike hK9, by rw [← hz, hE]; exact hD9⟩, hS.F ht⟩) hS.2.2 d_C_throwsUp_33
    · rw [if_neg c_4] at hE
      refine lv_iconst (v := 0) hx hb d_C_throwsUp_18 (by decide) ?_
      have hP9 := va_P.part (cx := [(a_h, .inr (0, [.ref a_tx, .ref a_cru, .int w_nr, .ref a_cd, .ref a_td, .ref a_cki, .ref a_cca, .ref a_cty, .ref a_cio, .ref a_cex, .ref a_clo, .int w_nl, .ref a_cfi, .int w_nf, .ref a_ccl, .int w_nc])), (a_cru, .inl (k_cru, 40, .inr (.inr (.inr (.inr (ruA (nN w_nr) aR))))))]) hP [0, 1] rfl
      have hD9 := va_D.part (cx := [(a_h, .inr (0, [.ref a_tx, .ref a_cru, .int w_nr, .ref a_cd, .ref a_td, .ref a_cki, .ref a_cca, .ref a_cty, .ref a_cio, .ref a_cex, .ref a_clo, .int w_nl, .ref a_cfi, .int w_nf, .ref a_ccl, .int w_nc])), (a_cru, .inl (k_cru, 40, .inr (.inr (.inr (.inr (ruA (nN w_nr) aR))))))]) hD [0, 1] (by decide) rfl
      have hK9 := hK.sub (tys' := [(k_cru, .object "LoanRules$Rule")]) [0] rfl
      exact W.zret (v := 0) hx hb hr rfl (fun t ht hW => ⟨⟨0, (), rfl, by rw [← hz, hE], by rw [ht, ← hz, hE]; exact hP9, va_K.moved hW.alike hK9, by rw [← hz, hE]; exact hD9⟩, hS.F ht⟩) hS.2.2 d_C_throwsUp_19
  · rw [if_neg c_3] at hE
    refine W.eq (g2 := F0 m 5 ls [.null]) (by rw [rul_none c_3]; rfl) ?_
    refine lv_astore_nN (lv' := [(3, .null), (0, .ref a_h), (1, .int p0), (2, .int p1)]) hx hb d_C_throwsUp_5 rfl hl (by decide) rfl (fun ls hl => ?_)
    refine lv_aload_nN hx hb d_C_throwsUp_6 rfl (lv_at hl 0 rfl) ?_
    refine lv_ifnullN (tgt := 18) hx hb d_C_throwsUp_7 (by decide) ?_
    refine lv_iconst (v := 0) hx hb d_C_throwsUp_18 (by decide) ?_
    have hP9 := va_P.part (cx := [(a_h, .inr (0, [.ref a_tx, .ref a_cru, .int w_nr, .ref a_cd, .ref a_td, .ref a_cki, .ref a_cca, .ref a_cty, .ref a_cio, .ref a_cex, .ref a_clo, .int w_nl, .ref a_cfi, .int w_nf, .ref a_ccl, .int w_nc])), (a_cru, .inl (k_cru, 40, .inr (.inr (.inr (.inr (ruA (nN w_nr) aR))))))]) hP [0, 1] rfl
    have hD9 := va_D.part (cx := [(a_h, .inr (0, [.ref a_tx, .ref a_cru, .int w_nr, .ref a_cd, .ref a_td, .ref a_cki, .ref a_cca, .ref a_cty, .ref a_cio, .ref a_cex, .ref a_clo, .int w_nl, .ref a_cfi, .int w_nf, .ref a_ccl, .int w_nc])), (a_cru, .inl (k_cru, 40, .inr (.inr (.inr (.inr (ruA (nN w_nr) aR))))))]) hD [0, 1] (by decide) rfl
    have hK9 := hK.sub (tys' := [(k_cru, .object "LoanRules$Rule")]) [0] rfl
    exact W.zret (v := 0) hx hb hr rfl (fun t ht hW => ⟨⟨0, (), rfl, by rw [← hz, hE], by rw [ht, ← hz, hE]; exact hP9, va_K.moved hW.alike hK9, by rw [← hz, hE]; exact hD9⟩, hS.F ht⟩) hS.2.2 d_C_throwsUp_19
def gl_cnever : Nat → (Int32) → (Int32) → (Nat → Nat → Int32) → (Int32) → (Int32) → Nat × Int32 × Int32
  | 0, p0, w_nr, F_, ub, nu => (0, ub, nu)
  | n + 1, p0, w_nr, F_, ub, nu =>
    if 40 ≤ nu then
      (0, ub, nu)
    else
      if rIn nu w_nr then
        if (F_ 9 (nN nu)) = 0 then
          if ub = p0 then
            (1, ub, nu)
          else
            gl_cnever n p0 w_nr F_ (ub + 1) (nu + 1)
        else
          gl_cnever n p0 w_nr F_ ub (nu + 1)
      else
        gl_cnever n p0 w_nr F_ ub (nu + 1)
def g_Cg_never (p0 : Int32) (w_nr : Int32) (F_ : Nat → Nat → Int32) : Int32 :=
  bv (gl_cnever 41 p0 w_nr F_ 0 0) (fun x_1 =>
    if x_1.1 = 0 then
      (-1)
    else
      x_1.2.2)
set_option maxHeartbeats 4000000 in
set_option maxRecDepth 100000 in
theorem c_Cg_never (l : Launch) (dC : Nat → ClassId) (dI : Nat → Nat → Nat) (adK adV : Nat → Nat) (a_h : Nat) (a_cru : Nat) (k_cru : ClassId) (p0 : Int32) (a_tx : Nat) (w_nr : Int32) (a_cd : Nat) (a_td : Nat) (a_cki : Nat) (a_cca : Nat) (a_cty : Nat) (a_cio : Nat) (a_cex : Nat) (a_clo : Nat) (w_nl : Int32) (a_cfi : Nat) (w_nf : Int32) (a_ccl : Nat) (w_nc : Int32) (aR : Nat → Nat) (F_ : Nat → Nat → Int32) (aL : Nat → Nat) (G_ : Nat → Nat → Int32) (rho : Nat → Nat) (hnr : 0 ≤ w_nr.toInt ∧ w_nr.toInt ≤ 40) : Met l y_C_never ws_C_never ({ frames := 1, cells := 0, slots := 0, locals := 21 }) (va_Pc [.ref a_h, .int p0] (fun U => zz adK adV (fun _ => False) U ∧ va_P (dC, dI) vwCl (([(a_h, .inr (0, [.ref a_tx, .ref a_cru, .int w_nr, .ref a_cd, .ref a_td, .ref a_cki, .ref a_cca, .ref a_cty, .ref a_cio, .ref a_cex, .ref a_clo, .int w_nl, .ref a_cfi, .int w_nf, .ref a_ccl, .int w_nc])), (a_cru, .inl (k_cru, 40, .inr (.inr (.inr (.inr (ruA (nN w_nr) aR))))))] : va_W) ++ plz (nN w_nr) aR F_ (nN w_nl) aL G_ rho) U.heap ∧ va_K (dC, dI) vwCl [(k_cru, .object "LoanRules$Rule")] U)) (vp_Si (fun r => r = g_Cg_never p0 w_nr F_)) 0 0 (fun _ => False) := by
  refine Met.ofW (cc := c_C_never) (maxL := 5) (ret := (some .int)) (by decide) rfl ?_
  intro p e s m args below meth c s₁ B hml hv
  obtain ⟨rfl, hZ, hP, hK⟩ := hv
  have hx := B.exec
  have hb := B.bytes
  have hr := B.returns
  have hts0 := atoms_spec (ws := ws_C_never) B.pre
  have hts : ∀ w ∈ TT, w.before _ s = true := fun w h => hts0 w (List.mem_cons_of_mem _ h)
  have hown : s.vm.findClass "LoanRules" = some m.cls := findClass_of_methodNamed B.named
  have hlocks := B.notSynchronized
  have hS : va_S (fun _ => False) s.heap s.heap [] := va_S.rf
  replace hP : va_P (dC, dI) vwCl (([(a_h, .inr (0, [.ref a_tx, .ref a_cru, .int w_nr, .ref a_cd, .ref a_td, .ref a_cki, .ref a_cca, .ref a_cty, .ref a_cio, .ref a_cex, .ref a_clo, .int w_nl, .ref a_cfi, .int w_nf, .ref a_ccl, .int w_nc])), (a_cru, .inl (k_cru, 40, .inr (.inr (.inr (.inr (ruA (nN w_nr) aR))))))] : va_W) ++ plz (nN w_nr) aR F_ (nN w_nl) aL G_ rho) s.heap := hP
  have hl := lv_entry ([.ref a_h, .int p0]) (n := 5) (Nat.le_of_ble_eq_true rfl)
  rw [lg_entry_eq]
  generalize (lg_sl ([.ref a_h, .int p0]) ++ List.replicate (5 - (lg_sl ([.ref a_h, .int p0])).length) Slot.unset).toArray = ls at hl ⊢
  replace hl : lv_has ls 5 [(0, .ref a_h), (1, .int p0)] := hl
  obtain ⟨z, hz⟩ : ∃ z, z = g_Cg_never p0 w_nr F_ := ⟨_, rfl⟩
  have hE := hz
  rw [g_Cg_never] at hE
  refine lv_iconst (v := 0) hx hb d_C_never_0 (by decide) ?_
  refine lv_istore_n (lv' := [(2, .int 0), (0, .ref a_h), (1, .int p0)]) hx hb d_C_never_1 rfl hl (by decide) rfl (fun ls hl => ?_)
  refine lv_iconst (v := 0) hx hb d_C_never_2 (by decide) ?_
  refine lv_istore_n (lv' := [(3, .int 0), (2, .int 0), (0, .ref a_h), (1, .int p0)]) hx hb d_C_never_3 rfl hl (by decide) rfl (fun ls hl => ?_)
  generalize hg_x_1 : gl_cnever 41 p0 w_nr F_ 0 0 = x_1 at hE
  rw [bv_eq] at hE
  obtain ⟨ub, e_ub⟩ : ∃ q9 : Int32, q9 = 0 := ⟨_, rfl⟩
  obtain ⟨nu, e_nu⟩ : ∃ q9 : Int32, q9 = 0 := ⟨_, rfl⟩
  obtain ⟨n, e_n⟩ : ∃ q9 : Nat, q9 = 41 := ⟨_, rfl⟩
  have hAll : va_P (dC, dI) vwCl (([(a_h, .inr (0, [.ref a_tx, .ref a_cru, .int w_nr, .ref a_cd, .ref a_td, .ref a_cki, .ref a_cca, .ref a_cty, .ref a_cio, .ref a_cex, .ref a_clo, .int w_nl, .ref a_cfi, .int w_nf, .ref a_ccl, .int w_nc])), (a_cru, .inl (k_cru, 40, .inr (.inr (.inr (.inr (ruA (nN w_nr) aR))))))] : va_W) ++ plz (nN w_nr) aR F_ (nN w_nl) aL G_ rho) s.heap ∧ lv_has ls 5 [(3, .int nu), (2, .int ub), (0, .ref a_h), (1, .int p0)] ∧ (0 ≤ nu.toInt ∧ nu.toInt ≤ 40) ∧ 41 - nu.toInt.toNat ≤ n ∧ gl_cnever n p0 w_nr F_ ub nu = x_1 := by
    subst e_ub e_nu e_n
    exact ⟨hP, hl, by decide, by decide, hg_x_1⟩
  clear hP hl e_ub e_nu e_n hg_x_1
  induction n generalizing ub nu ls with
  | zero =>
    obtain ⟨hP, hl, hnu, hm_cnever, hg_cnever⟩ := hAll
    exfalso; omega
  | succ n ih_cnever =>
    obtain ⟨hP, hl, hnu, hm_cnever, hg_cnever⟩ := hAll
    rw [gl_cnever] at hg_cnever
    refine lv_iload_n hx hb d_C_never_4 rfl (lv_at hl 0 rfl) ?_
    refine lv_bipush (v := 40) hx hb d_C_never_5 (by decide) ?_
    refine lv_icmp_ge (tgt := 46) hx hb d_C_never_7 (by decide) (fun c_2 => ?_) (fun c_2 => ?_)
    · rw [if_pos c_2] at hg_cnever
      subst hg_cnever
      dsimp only at hE
      rw [if_pos rfl] at hE
      refine lv_iconst (v := (-1)) hx hb d_C_never_46 (by decide) ?_
      exact W.iret (v := (-1)) hx hb hr (fun t ht hW => ⟨(-1), rfl, hE.symm.trans hz, ht⟩) (fun _ h => by cases h) d_C_never_47
    · rw [if_neg c_2] at hg_cnever
      refine lv_aload_n hx hb d_C_never_10 rfl (lv_at hl 2 rfl) ?_
      refine lv_iload_n hx hb d_C_never_11 rfl (lv_at hl 0 rfl) ?_
      have hPc := hP.sub (ws' := [(a_h, .inr (0, [.ref a_tx, .ref a_cru, .int w_nr, .ref a_cd, .ref a_td, .ref a_cki, .ref a_cca, .ref a_cty, .ref a_cio, .ref a_cex, .ref a_clo, .int w_nl, .ref a_cfi, .int w_nf, .ref a_ccl, .int w_nc])), (a_cru, .inl (k_cru, 40, .inr (.inr (.inr (.inr (ruA (nN w_nr) aR))))))]) [0, 1] rfl
      have hKc := hK.sub (tys' := [(k_cru, .object "LoanRules$Rule")]) [0] rfl
      refine va_csq (va_Run.run (va_runV (As := [.int nu]) (rest := []) ⟨hx, hb, hml, hown, hts⟩ (c_Cg_ruleAt l dC dI adK adV (a_h := a_h) (p0 := nu) (a_tx := a_tx) (a_cru := a_cru) (w_nr := w_nr) (a_cd := a_cd) (a_td := a_td) (a_cki := a_cki) (a_cca := a_cca) (a_cty := a_cty) (a_cio := a_cio) (a_cex := a_cex) (a_clo := a_clo) (w_nl := w_nl) (a_cfi := a_cfi) (w_nf := w_nf) (a_ccl := a_ccl) (w_nc := w_nc) (k_cru := k_cru) (f_cru := (ruA (nN w_nr) aR))) (cwV 1 hts (gV tw_431 tw_433 tw_15 tw_42 tw_434) rfl rfl rfl (by decide +kernel) ⟨(Nat.le_of_ble_eq_true rfl), (Nat.le_of_ble_eq_true rfl)⟩) ⟨fun a U g mk q => by obtain ⟨q0, qZ, qP, qK⟩ := q; exact ⟨q0, zz_call qZ, qP, va_K.moved (u := U) (U := U.calling g mk a) (Vm.Alike.refl U.vm) qK⟩, va_recv hKc hPc (ci := 0) (q0 := 0) rfl rfl, fun U hU hW => ⟨rfl, zz_rr hU hW hZ, by rw [hU]; exact hPc, va_K.moved hW.alike hKc⟩⟩ rfl rfl hl.1 rfl (lv_room (Nat.le_of_ble_eq_true rfl)) d_C_never_12 ⟨(Nat.le_of_ble_eq_true rfl), (Nat.le_of_ble_eq_true rfl)⟩)) (fun r_3 hw_4 => ?_)
      clear hPc hKc
      subst hw_4
      by_cases c_5 : rIn nu w_nr
      · rw [if_pos c_5] at hg_cnever
        refine W.eq (g2 := F0 m 15 ls [.ref (aR (nN nu))]) (by rw [rul_some hnr.2 c_5]; rfl) ?_
        refine lv_astore (lv' := [(4, .ref (aR (nN nu))), (3, .int nu), (2, .int ub), (0, .ref a_h), (1, .int p0)]) hx hb d_C_never_15 hl (by decide) rfl (fun ls hl => ?_)
        refine lv_aload hx hb d_C_never_17 (lv_at hl 0 rfl) ?_
        refine lv_ifnull hx hb d_C_never_19 ?_
        refine lv_aload hx hb d_C_never_22 (lv_at hl 0 rfl) ?_
        refine va_get (D := (dC, dI)) (ci := 3) (v := .int (F_ 9 (nN nu))) (C := "LoanRules$Rule") (T := Fz_R) (N := 11) hx hb hts it_R hown hK hP _ (plz_r (rIn_lt c_5)) rfl 9 (by decide) (hts _ tw_200) (fun _ h9 => h9) rfl d_C_never_24 ?_
        refine lv_if_ne (tgt := 40) hx hb d_C_never_27 (by decide) (fun c_6 => ?_) (fun c_6 => ?_)
        · rw [if_neg c_6] at hg_cnever
          refine lv_iinc (v := nu + 1) (lv' := [(3, .int (nu + 1)), (4, .ref (aR (nN nu))), (2, .int ub), (0, .ref a_h), (1, .int p0)]) hx hb d_C_never_40 hl (k := 1) rfl rfl (by decide) rfl (fun ls hl => ?_)
          refine lv_goto (tgt := 4) hx hb d_C_never_43 (by decide) ?_
          exact ih_cnever _ _ _ ⟨hP, lv_sub hl [0, 2, 3, 4] rfl, (li_s40 hnu (li_ltn0 hnu c_2 (by decide))), (li_m40 hnu (li_ltn0 hnu c_2 (by decide)) hm_cnever), hg_cnever⟩
        · rw [if_pos c_6] at hg_cnever
          refine lv_iload_n hx hb d_C_never_30 rfl (lv_at hl 2 rfl) ?_
          refine lv_iload_n hx hb d_C_never_31 rfl (lv_at hl 4 rfl) ?_
          refine lv_icmp_ne (tgt := 37) hx hb d_C_never_32 (by decide) (fun c_7 => ?_) (fun c_7 => ?_)
          · rw [if_neg c_7] at hg_cnever
            refine lv_iinc (v := ub + 1) (lv' := [(2, .int (ub + 1)), (4, .ref (aR (nN nu))), (3, .int nu), (0, .ref a_h), (1, .int p0)]) hx hb d_C_never_37 hl (k := 2) rfl rfl (by decide) rfl (fun ls hl => ?_)
            refine lv_iinc (v := nu + 1) (lv' := [(3, .int (nu + 1)), (2, .int (ub + 1)), (4, .ref (aR (nN nu))), (0, .ref a_h), (1, .int p0)]) hx hb d_C_never_40 hl (k := 2) rfl rfl (by decide) rfl (fun ls hl => ?_)
            refine lv_goto (tgt := 4) hx hb d_C_never_43 (by decide) ?_
            exact ih_cnever _ _ _ ⟨hP, lv_sub hl [0, 1, 3, 4] rfl, (li_s40 hnu (li_ltn0 hnu c_2 (by decide))), (li_m40 hnu (li_ltn0 hnu c_2 (by decide)) hm_cnever), hg_cnever⟩
          · rw [if_pos c_7] at hg_cnever
            subst hg_cnever
            dsimp only at hE
            rw [if_neg (by decide)] at hE
            refine lv_iload_n hx hb d_C_never_35 rfl (lv_at hl 1 rfl) ?_
            exact W.iret (v := nu) hx hb hr (fun t ht hW => ⟨nu, rfl, hE.symm.trans hz, ht⟩) (fun _ h => by cases h) d_C_never_36
      · rw [if_neg c_5] at hg_cnever
        refine W.eq (g2 := F0 m 15 ls [.null]) (by rw [rul_none c_5]; rfl) ?_
        refine lv_astoreN (lv' := [(4, .null), (3, .int nu), (2, .int ub), (0, .ref a_h), (1, .int p0)]) hx hb d_C_never_15 hl (by decide) rfl (fun ls hl => ?_)
        refine lv_aloadN hx hb d_C_never_17 (lv_at hl 0 rfl) ?_
        refine lv_ifnullN (tgt := 40) hx hb d_C_never_19 (by decide) ?_
        refine lv_iinc (v := nu + 1) (lv' := [(3, .int (nu + 1)), (4, .null), (2, .int ub), (0, .ref a_h), (1, .int p0)]) hx hb d_C_never_40 hl (k := 1) rfl rfl (by decide) rfl (fun ls hl => ?_)
        refine lv_goto (tgt := 4) hx hb d_C_never_43 (by decide) ?_
        exact ih_cnever _ _ _ ⟨hP, lv_sub hl [0, 2, 3, 4] rfl, (li_s40 hnu (li_ltn0 hnu c_2 (by decide))), (li_m40 hnu (li_ltn0 hnu c_2 (by decide)) hm_cnever), hg_cnever⟩
def g_Cg_heldLoan (p0 : Int32) (w_nl : Int32) (aL : Nat → Nat) (G_ : Nat → Nat → Int32) : Option Nat :=
  if p0 < 1 then
    none
  else
    if w_nl < p0 then
      none
    else
      if p0 ≤ 200 then
        if (G_ 7 (nN (p0 - 1))) = 0 then
          some (aL (nN (p0 - 1)))
        else
          none
      else
        none
set_option maxHeartbeats 4000000 in
set_option maxRecDepth 100000 in
theorem c_Cg_heldLoan (l : Launch) (dC : Nat → ClassId) (dI : Nat → Nat → Nat) (adK adV : Nat → Nat) (a_h : Nat) (a_clo : Nat) (k_clo : ClassId) (p0 : Int32) (a_tx : Nat) (a_cru : Nat) (w_nr : Int32) (a_cd : Nat) (a_td : Nat) (a_cki : Nat) (a_cca : Nat) (a_cty : Nat) (a_cio : Nat) (a_cex : Nat) (w_nl : Int32) (a_cfi : Nat) (w_nf : Int32) (a_ccl : Nat) (w_nc : Int32) (aR : Nat → Nat) (F_ : Nat → Nat → Int32) (aL : Nat → Nat) (G_ : Nat → Nat → Int32) (rho : Nat → Nat) (hnl : 0 ≤ w_nl.toInt ∧ w_nl.toInt ≤ 200) : Met l y_C_heldLoan ws_C_heldLoan ({ frames := 0, cells := 0, slots := 0, locals := 0 }) (va_Pc [.ref a_h, .int p0] (fun U => zz adK adV (fun _ => False) U ∧ va_P (dC, dI) vwCl (([(a_h, .inr (0, [.ref a_tx, .ref a_cru, .int w_nr, .ref a_cd, .ref a_td, .ref a_cki, .ref a_cca, .ref a_cty, .ref a_cio, .ref a_cex, .ref a_clo, .int w_nl, .ref a_cfi, .int w_nf, .ref a_ccl, .int w_nc])), (a_clo, .inl (k_clo, 200, .inr (.inr (.inr (.inr (ruA (nN w_nl) aL))))))] : va_W) ++ plz (nN w_nr) aR F_ (nN w_nl) aL G_ rho) U.heap ∧ va_K (dC, dI) vwCl [(k_clo, .object "LoanRules$Loan")] U)) (va_Sq (fun r => r = g_Cg_heldLoan p0 w_nl aL G_)) 0 0 (fun _ => False) := by
  refine Met.ofW (cc := c_C_heldLoan) (maxL := 3) (ret := (some (.object "LoanRules$Loan"))) (by decide) rfl ?_
  intro p e s m args below meth c s₁ B hml hv
  obtain ⟨rfl, hZ, hP, hK⟩ := hv
  have hx := B.exec
  have hb := B.bytes
  have hr := B.returns
  have hts0 := atoms_spec (ws := ws_C_heldLoan) B.pre
  have hts : ∀ w ∈ TT, w.before _ s = true := fun w h => hts0 w (List.mem_cons_of_mem _ h)
  have hown : s.vm.findClass "LoanRules" = some m.cls := findClass_of_methodNamed B.named
  have hlocks := B.notSynchronized
  have hS : va_S (fun _ => False) s.heap s.heap [] := va_S.rf
  replace hP : va_P (dC, dI) vwCl (([(a_h, .inr (0, [.ref a_tx, .ref a_cru, .int w_nr, .ref a_cd, .ref a_td, .ref a_cki, .ref a_cca, .ref a_cty, .ref a_cio, .ref a_cex, .ref a_clo, .int w_nl, .ref a_cfi, .int w_nf, .ref a_ccl, .int w_nc])), (a_clo, .inl (k_clo, 200, .inr (.inr (.inr (.inr (ruA (nN w_nl) aL))))))] : va_W) ++ plz (nN w_nr) aR F_ (nN w_nl) aL G_ rho) s.heap := hP
  have hl := lv_entry ([.ref a_h, .int p0]) (n := 3) (Nat.le_of_ble_eq_true rfl)
  rw [lg_entry_eq]
  generalize (lg_sl ([.ref a_h, .int p0]) ++ List.replicate (3 - (lg_sl ([.ref a_h, .int p0])).length) Slot.unset).toArray = ls at hl ⊢
  replace hl : lv_has ls 3 [(0, .ref a_h), (1, .int p0)] := hl
  obtain ⟨z, hz⟩ : ∃ z, z = g_Cg_heldLoan p0 w_nl aL G_ := ⟨_, rfl⟩
  have hE := hz
  rw [g_Cg_heldLoan] at hE
  refine lv_iload_n hx hb d_C_heldLoan_0 rfl (lv_at hl 1 rfl) ?_
  refine lv_iconst (v := 1) hx hb d_C_heldLoan_1 (by decide) ?_
  refine lv_icmp_lt (tgt := 22) hx hb d_C_heldLoan_2 (by decide) (fun c_1 => ?_) (fun c_1 => ?_)
  · rw [if_pos c_1] at hE
    refine lv_null hx hb d_C_heldLoan_22 ?_
    exact W.aret (v := va_rf none) hx hb hr (Or.inl ⟨_, rfl⟩) (va_rf_or _) (fun t ht hW => ⟨none, rfl, hE.symm.trans hz, ht⟩) (fun _ h => by cases h) d_C_heldLoan_23
  · rw [if_neg c_1] at hE
    refine lv_iload_n hx hb d_C_heldLoan_5 rfl (lv_at hl 1 rfl) ?_
    refine lv_aload_n hx hb d_C_heldLoan_6 rfl (lv_at hl 0 rfl) ?_
    refine va_get (D := (dC, dI)) (ci := 0) (v := .int w_nl) (C := "LoanRules") (T := Fz_C) (N := 16) hx hb hts it_C hown hK hP 0 rfl rfl 11 (by decide) (hts _ tw_115) (fun _ h9 => h9) rfl d_C_heldLoan_7 ?_
    refine lv_icmp_gt (tgt := 22) hx hb d_C_heldLoan_10 (by decide) (fun c_2 => ?_) (fun c_2 => ?_)
    · rw [if_pos c_2] at hE
      refine lv_null hx hb d_C_heldLoan_22 ?_
      exact W.aret (v := va_rf none) hx hb hr (Or.inl ⟨_, rfl⟩) (va_rf_or _) (fun t ht hW => ⟨none, rfl, hE.symm.trans hz, ht⟩) (fun _ h => by cases h) d_C_heldLoan_23
    · rw [if_neg c_2] at hE
      refine lv_iload_n hx hb d_C_heldLoan_13 rfl (lv_at hl 1 rfl) ?_
      refine lv_aload_n hx hb d_C_heldLoan_14 rfl (lv_at hl 0 rfl) ?_
      refine va_get (D := (dC, dI)) (ci := 0) (v := .ref a_clo) (C := "LoanRules") (T := Fz_C) (N := 16) hx hb hts it_C hown hK hP 0 rfl rfl 10 (by decide) (hts _ tw_114) (fun _ h9 => h9) rfl d_C_heldLoan_15 ?_
      refine va_alen (D := (dC, dI)) (v := 200) hx hb hK hP 1 0 rfl rfl rfl d_C_heldLoan_18 ?_
      refine lv_icmp_le (tgt := 24) hx hb d_C_heldLoan_19 (by decide) (fun c_3 => ?_) (fun c_3 => ?_)
      · rw [if_pos c_3] at hE
        refine lv_aload_n hx hb d_C_heldLoan_24 rfl (lv_at hl 0 rfl) ?_
        refine va_get (D := (dC, dI)) (ci := 0) (v := .ref a_clo) (C := "LoanRules") (T := Fz_C) (N := 16) hx hb hts it_C hown hK hP 0 rfl rfl 10 (by decide) (hts _ tw_114) (fun _ h9 => h9) rfl d_C_heldLoan_25 ?_
        refine lv_iload_n hx hb d_C_heldLoan_28 rfl (lv_at hl 1 rfl) ?_
        refine lv_iconst (v := 1) hx hb d_C_heldLoan_29 (by decide) ?_
        refine lv_isub hx hb d_C_heldLoan_30 ?_
        have i_4 : vp_in (p0 - 1) 200 := inlo c_1 c_3
        refine va_aldq (D := (dC, dI)) hx hb hK hP 1 0 rfl rfl i_4 d_C_heldLoan_31 ?_
        refine W.eq (g2 := F0 m 32 ls [.ref (aL (nN (p0 - 1)))]) (by rw [loa_at (h1_lt (li_ge1 c_1) (li_nlt c_2))]; rfl) ?_
        refine lv_astore_n (lv' := [(2, .ref (aL (nN (p0 - 1)))), (0, .ref a_h), (1, .int p0)]) hx hb d_C_heldLoan_32 rfl hl (by decide) rfl (fun ls hl => ?_)
        refine lv_aload_n hx hb d_C_heldLoan_33 rfl (lv_at hl 0 rfl) ?_
        refine lv_ifnull hx hb d_C_heldLoan_34 ?_
        refine lv_aload_n hx hb d_C_heldLoan_37 rfl (lv_at hl 0 rfl) ?_
        refine va_get (D := (dC, dI)) (ci := 2) (v := .int (G_ 7 (nN (p0 - 1)))) (C := "LoanRules$Loan") (T := Fz_N) (N := 8) hx hb hts it_N hown hK hP _ (plz_l (h1_lt (li_ge1 c_1) (li_nlt c_2))) rfl 7 (by decide) (hts _ tw_573) (fun _ h9 => h9) rfl d_C_heldLoan_38 ?_
        refine lv_if_eq (tgt := 48) hx hb d_C_heldLoan_41 (by decide) (fun c_5 => ?_) (fun c_5 => ?_)
        · rw [if_pos c_5] at hE
          refine lv_aload_n hx hb d_C_heldLoan_48 rfl (lv_at hl 0 rfl) ?_
          exact W.aret (v := va_rf (some (aL (nN (p0 - 1))))) hx hb hr (Or.inl ⟨_, rfl⟩) (va_rf_or _) (fun t ht hW => ⟨some (aL (nN (p0 - 1))), rfl, hE.symm.trans hz, ht⟩) (fun _ h => by cases h) d_C_heldLoan_49
        · rw [if_neg c_5] at hE
          refine lv_null hx hb d_C_heldLoan_44 ?_
          refine lv_goto (tgt := 49) hx hb d_C_heldLoan_45 (by decide) ?_
          exact W.aret (v := va_rf none) hx hb hr (Or.inl ⟨_, rfl⟩) (va_rf_or _) (fun t ht hW => ⟨none, rfl, hE.symm.trans hz, ht⟩) (fun _ h => by cases h) d_C_heldLoan_49
      · rw [if_neg c_3] at hE
        refine lv_null hx hb d_C_heldLoan_22 ?_
        exact W.aret (v := va_rf none) hx hb hr (Or.inl ⟨_, rfl⟩) (va_rf_or _) (fun t ht hW => ⟨none, rfl, hE.symm.trans hz, ht⟩) (fun _ h => by cases h) d_C_heldLoan_23
theorem held_some {x n : Int32} {a : Nat → Nat} {G : Nat → Nat → Int32} (hn : n.toInt ≤ 200) (h : hIn x n G) : g_Cg_heldLoan x n a G = some (a (nN (x - 1))) := by
  unfold g_Cg_heldLoan
  obtain ⟨h0, h1, h2⟩ := h
  have e : (200 : Int32).toInt = 200 := by decide
  rw [if_neg (by rw [li_lt, li_1]; omega), if_neg (by rw [li_lt]; omega), if_pos (by rw [li_le, e]; omega), if_pos h2]
theorem held_none {x n : Int32} {a : Nat → Nat} {G : Nat → Nat → Int32} (h : ¬ hIn x n G) : g_Cg_heldLoan x n a G = none := by
  unfold g_Cg_heldLoan
  split
  · rfl
  · rename_i h1
    split
    · rfl
    · rename_i h2
      split
      · split
        · rename_i h3
          exact absurd ⟨li_ge1 h1, li_nlt h2, h3⟩ h
        · rfl
      · rfl

def g_Cg_dueDayByRule (p0 : Int32) (f_cw : Nat → Int64) (f_tw : Nat → Int64) (r_de : Int32) (r_da : Int32) : Int32 :=
  if r_de = 0 then
    g_Cg_firstFrom (p0 + r_da) 0 f_cw
  else
    if (g_Cg_firstFrom p0 1 f_tw) = (-1) then
      (-1)
    else
      g_Cg_firstFrom (g_Cg_firstFrom p0 1 f_tw) 0 f_cw
set_option maxHeartbeats 4000000 in
set_option maxRecDepth 100000 in
theorem c_Cg_dueDayByRule (l : Launch) (dC : Nat → ClassId) (dI : Nat → Nat → Nat) (adK adV : Nat → Nat) (a_h : Nat) (a_cd : Nat) (a_cw : Nat) (a_td : Nat) (a_tw : Nat) (a_to : Nat) (k_cw : ClassId) (k_tw : ClassId) (p0 : Int32) (a_tx : Nat) (a_cru : Nat) (w_nr : Int32) (a_cki : Nat) (a_cca : Nat) (a_cty : Nat) (a_cio : Nat) (a_cex : Nat) (a_clo : Nat) (w_nl : Int32) (a_cfi : Nat) (w_nf : Int32) (a_ccl : Nat) (w_nc : Int32) (f_cw : Nat → Int64) (f_tw : Nat → Int64) (r_ki : Int32) (r_ty : Int32) (r_pe : Int32) (r_de : Int32) (r_da : Int32) (r_re : Int32) (r_ga : Int32) (r_rc : Int32) (r_rk : Int32) (r_me : Int32) (r_le : Int32) (hp0 : 0 ≤ p0.toInt ∧ p0.toInt < 10000) (hda : 0 ≤ r_da.toInt ∧ r_da.toInt ≤ 999) : Met l y_C_dueDayByRule ws_C_dueDayByRule ({ frames := 4, cells := 0, slots := 0, locals := 87 }) (va_Pc [.ref a_h, .ref a_to, .int p0] (fun U => zz adK adV (fun _ => False) U ∧ va_P (dC, dI) vwCl [(a_h, .inr (0, [.ref a_tx, .ref a_cru, .int w_nr, .ref a_cd, .ref a_td, .ref a_cki, .ref a_cca, .ref a_cty, .ref a_cio, .ref a_cex, .ref a_clo, .int w_nl, .ref a_cfi, .int w_nf, .ref a_ccl, .int w_nc])), (a_cd, .inr (1, [.ref a_cw])), (a_cw, .inl (k_cw, 157, .inr (.inl f_cw))), (a_td, .inr (1, [.ref a_tw])), (a_tw, .inl (k_tw, 157, .inr (.inl f_tw))), (a_to, .inr (3, [.int r_ki, .int r_ty, .int r_pe, .int r_de, .int r_da, .int r_re, .int r_ga, .int r_rc, .int r_rk, .int r_me, .int r_le]))] U.heap ∧ va_K (dC, dI) vwCl [(k_cw, .long), (k_tw, .long)] U)) (vp_Si (fun r => r = g_Cg_dueDayByRule p0 f_cw f_tw r_de r_da)) 0 0 (fun _ => False) := by
  refine Met.ofW (cc := c_C_dueDayByRule) (maxL := 4) (ret := (some .int)) (by decide) rfl ?_
  intro p e s m args below meth c s₁ B hml hv
  obtain ⟨rfl, hZ, hP, hK⟩ := hv
  have hx := B.exec
  have hb := B.bytes
  have hr := B.returns
  have hts0 := atoms_spec (ws := ws_C_dueDayByRule) B.pre
  have hts : ∀ w ∈ TT, w.before _ s = true := fun w h => hts0 w (List.mem_cons_of_mem _ h)
  have hown : s.vm.findClass "LoanRules" = some m.cls := findClass_of_methodNamed B.named
  have hlocks := B.notSynchronized
  have hS : va_S (fun _ => False) s.heap s.heap [] := va_S.rf
  replace hP : va_P (dC, dI) vwCl [(a_h, .inr (0, [.ref a_tx, .ref a_cru, .int w_nr, .ref a_cd, .ref a_td, .ref a_cki, .ref a_cca, .ref a_cty, .ref a_cio, .ref a_cex, .ref a_clo, .int w_nl, .ref a_cfi, .int w_nf, .ref a_ccl, .int w_nc])), (a_cd, .inr (1, [.ref a_cw])), (a_cw, .inl (k_cw, 157, .inr (.inl f_cw))), (a_td, .inr (1, [.ref a_tw])), (a_tw, .inl (k_tw, 157, .inr (.inl f_tw))), (a_to, .inr (3, [.int r_ki, .int r_ty, .int r_pe, .int r_de, .int r_da, .int r_re, .int r_ga, .int r_rc, .int r_rk, .int r_me, .int r_le]))] s.heap := hP
  have hl := lv_entry ([.ref a_h, .ref a_to, .int p0]) (n := 4) (Nat.le_of_ble_eq_true rfl)
  rw [lg_entry_eq]
  generalize (lg_sl ([.ref a_h, .ref a_to, .int p0]) ++ List.replicate (4 - (lg_sl ([.ref a_h, .ref a_to, .int p0])).length) Slot.unset).toArray = ls at hl ⊢
  replace hl : lv_has ls 4 [(0, .ref a_h), (1, .ref a_to), (2, .int p0)] := hl
  obtain ⟨z, hz⟩ : ∃ z, z = g_Cg_dueDayByRule p0 f_cw f_tw r_de r_da := ⟨_, rfl⟩
  have hE := hz
  rw [g_Cg_dueDayByRule] at hE
  refine lv_aload_n hx hb d_C_dueDayByRule_0 rfl (lv_at hl 1 rfl) ?_
  refine va_get (D := (dC, dI)) (ci := 3) (v := .int r_de) (C := "LoanRules$Rule") (T := Fz_R) (N := 11) hx hb hts it_R hown hK hP 5 rfl rfl 3 (by decide) (hts _ tw_183) (fun _ h9 => h9) rfl d_C_dueDayByRule_1 ?_
  refine lv_if_ne (tgt := 18) hx hb d_C_dueDayByRule_4 (by decide) (fun c_1 => ?_) (fun c_1 => ?_)
  · rw [if_neg c_1] at hE
    refine lv_aload_n hx hb d_C_dueDayByRule_18 rfl (lv_at hl 0 rfl) ?_
    refine va_get (D := (dC, dI)) (ci := 0) (v := .ref a_td) (C := "LoanRules") (T := Fz_C) (N := 16) hx hb hts it_C hown hK hP 0 rfl rfl 4 (by decide) (hts _ tw_108) (fun _ h9 => h9) rfl d_C_dueDayByRule_19 ?_
    refine lv_iload_n hx hb d_C_dueDayByRule_22 rfl (lv_at hl 2 rfl) ?_
    refine lv_iconst (v := 1) hx hb d_C_dueDayByRule_23 (by decide) ?_
    have hPc := hP.sub (ws' := [(a_td, .inr (1, [.ref a_tw])), (a_tw, .inl (k_tw, 157, .inr (.inl f_tw)))]) [3, 4] rfl
    have hKc := hK.sub (tys' := [(k_tw, .long)]) [1] rfl
    refine vp_callSi (va_Run.run (va_runV (As := [.int p0, .int 1]) (rest := []) ⟨hx, hb, hml, hown, hts⟩ (c_Cg_firstFrom l dC dI adK adV (a_cd := a_td) (p0 := p0) (p1 := 1) (a_cw := a_tw) (k_cw := k_tw) (f_cw := f_tw) (by omega)) (cwV 2 hts (gV tw_403 tw_404 tw_405 tw_44 tw_406) rfl rfl rfl (by decide +kernel) ⟨(Nat.le_of_ble_eq_true rfl), (Nat.le_of_ble_eq_true rfl)⟩) ⟨fun a U g mk q => by obtain ⟨q0, qZ, qP, qK⟩ := q; exact ⟨q0, zz_call qZ, qP, va_K.moved (u := U) (U := U.calling g mk a) (Vm.Alike.refl U.vm) qK⟩, va_recv hKc hPc (ci := 1) (q0 := 0) rfl rfl, fun U hU hW => ⟨rfl, zz_rr hU hW hZ, by rw [hU]; exact hPc, va_K.moved hW.alike hKc⟩⟩ rfl rfl hl.1 rfl (lv_room (Nat.le_of_ble_eq_true rfl)) d_C_dueDayByRule_24 ⟨(Nat.le_of_ble_eq_true rfl), (Nat.le_of_ble_eq_true rfl)⟩)) (fun r_2 hw_3 => ?_)
    clear hPc hKc
    subst hw_3
    refine lv_istore_n (lv' := [(3, .int (g_Cg_firstFrom p0 1 f_tw)), (0, .ref a_h), (1, .ref a_to), (2, .int p0)]) hx hb d_C_dueDayByRule_27 rfl hl (by decide) rfl (fun ls hl => ?_)
    refine lv_iload_n hx hb d_C_dueDayByRule_28 rfl (lv_at hl 0 rfl) ?_
    refine lv_iconst (v := (-1)) hx hb d_C_dueDayByRule_29 (by decide) ?_
    refine lv_icmp_ne (tgt := 37) hx hb d_C_dueDayByRule_30 (by decide) (fun c_4 => ?_) (fun c_4 => ?_)
    · rw [if_neg c_4] at hE
      refine lv_aload_n hx hb d_C_dueDayByRule_37 rfl (lv_at hl 1 rfl) ?_
      refine lv_iload_n hx hb d_C_dueDayByRule_38 rfl (lv_at hl 0 rfl) ?_
      have hPc := hP.sub (ws' := [(a_h, .inr (0, [.ref a_tx, .ref a_cru, .int w_nr, .ref a_cd, .ref a_td, .ref a_cki, .ref a_cca, .ref a_cty, .ref a_cio, .ref a_cex, .ref a_clo, .int w_nl, .ref a_cfi, .int w_nf, .ref a_ccl, .int w_nc])), (a_cd, .inr (1, [.ref a_cw])), (a_cw, .inl (k_cw, 157, .inr (.inl f_cw)))]) [0, 1, 2] rfl
      have hKc := hK.sub (tys' := [(k_cw, .long)]) [0] rfl
      refine vp_callSi (va_Run.run (va_runV (As := [.int (g_Cg_firstFrom p0 1 f_tw)]) (rest := []) ⟨hx, hb, hml, hown, hts⟩ (c_Cg_openDayFrom l dC dI adK adV (a_h := a_h) (p0 := g_Cg_firstFrom p0 1 f_tw) (a_tx := a_tx) (a_cru := a_cru) (w_nr := w_nr) (a_cd := a_cd) (a_td := a_td) (a_cki := a_cki) (a_cca := a_cca) (a_cty := a_cty) (a_cio := a_cio) (a_cex := a_cex) (a_clo := a_clo) (w_nl := w_nl) (a_cfi := a_cfi) (w_nf := w_nf) (a_ccl := a_ccl) (w_nc := w_nc) (a_cw := a_cw) (k_cw := k_cw) (f_cw := f_cw) (ff_lt (by omega)).2) (cwV 1 hts (gV tw_399 tw_401 tw_14 tw_42 tw_402) rfl rfl rfl (by decide +kernel) ⟨(Nat.le_of_ble_eq_true rfl), (Nat.le_of_ble_eq_true rfl)⟩) ⟨fun a U g mk q => by obtain ⟨q0, qZ, qP, qK⟩ := q; exact ⟨q0, zz_call qZ, qP, va_K.moved (u := U) (U := U.calling g mk a) (Vm.Alike.refl U.vm) qK⟩, va_recv hKc hPc (ci := 0) (q0 := 0) rfl rfl, fun U hU hW => ⟨rfl, zz_rr hU hW hZ, by rw [hU]; exact hPc, va_K.moved hW.alike hKc⟩⟩ rfl rfl hl.1 rfl (lv_room (Nat.le_of_ble_eq_true rfl)) d_C_dueDayByRule_39 ⟨(Nat.le_of_ble_eq_true rfl), (Nat.le_of_ble_eq_true rfl)⟩)) (fun r_5 hw_6 => ?_)
      clear hPc hKc
      subst hw_6
      exact W.iret (v := g_Cg_firstFrom (g_Cg_firstFrom p0 1 f_tw) 0 f_cw) hx hb hr (fun t ht hW => ⟨g_Cg_firstFrom (g_Cg_firstFrom p0 1 f_tw) 0 f_cw, rfl, hE.symm.trans hz, ht⟩) (fun _ h => by cases h) d_C_dueDayByRule_42
    · rw [if_pos c_4] at hE
      refine lv_iconst (v := (-1)) hx hb d_C_dueDayByRule_33 (by decide) ?_
      refine lv_goto (tgt := 42) hx hb d_C_dueDayByRule_34 (by decide) ?_
      exact W.iret (v := (-1)) hx hb hr (fun t ht hW => ⟨(-1), rfl, hE.symm.trans hz, ht⟩) (fun _ h => by cases h) d_C_dueDayByRule_42
  · rw [if_pos c_1] at hE
    refine lv_aload_n hx hb d_C_dueDayByRule_7 rfl (lv_at hl 0 rfl) ?_
    refine lv_iload_n hx hb d_C_dueDayByRule_8 rfl (lv_at hl 2 rfl) ?_
    refine lv_aload_n hx hb d_C_dueDayByRule_9 rfl (lv_at hl 1 rfl) ?_
    refine va_get (D := (dC, dI)) (ci := 3) (v := .int r_da) (C := "LoanRules$Rule") (T := Fz_R) (N := 11) hx hb hts it_R hown hK hP 5 rfl rfl 4 (by decide) (hts _ tw_186) (fun _ h9 => h9) rfl d_C_dueDayByRule_10 ?_
    refine lv_iadd hx hb d_C_dueDayByRule_13 ?_
    have hPc := hP.sub (ws' := [(a_h, .inr (0, [.ref a_tx, .ref a_cru, .int w_nr, .ref a_cd, .ref a_td, .ref a_cki, .ref a_cca, .ref a_cty, .ref a_cio, .ref a_cex, .ref a_clo, .int w_nl, .ref a_cfi, .int w_nf, .ref a_ccl, .int w_nc])), (a_cd, .inr (1, [.ref a_cw])), (a_cw, .inl (k_cw, 157, .inr (.inl f_cw)))]) [0, 1, 2] rfl
    have hKc := hK.sub (tys' := [(k_cw, .long)]) [0] rfl
    refine vp_callSi (va_Run.run (va_runV (As := [.int (p0 + r_da)]) (rest := []) ⟨hx, hb, hml, hown, hts⟩ (c_Cg_openDayFrom l dC dI adK adV (a_h := a_h) (p0 := p0 + r_da) (a_tx := a_tx) (a_cru := a_cru) (w_nr := w_nr) (a_cd := a_cd) (a_td := a_td) (a_cki := a_cki) (a_cca := a_cca) (a_cty := a_cty) (a_cio := a_cio) (a_cex := a_cex) (a_clo := a_clo) (w_nl := w_nl) (a_cfi := a_cfi) (w_nf := w_nf) (a_ccl := a_ccl) (w_nc := w_nc) (a_cw := a_cw) (k_cw := k_cw) (f_cw := f_cw) (li_dayB hp0 hda)) (cwV 1 hts (gV tw_399 tw_401 tw_14 tw_42 tw_402) rfl rfl rfl (by decide +kernel) ⟨(Nat.le_of_ble_eq_true rfl), (Nat.le_of_ble_eq_true rfl)⟩) ⟨fun a U g mk q => by obtain ⟨q0, qZ, qP, qK⟩ := q; exact ⟨q0, zz_call qZ, qP, va_K.moved (u := U) (U := U.calling g mk a) (Vm.Alike.refl U.vm) qK⟩, va_recv hKc hPc (ci := 0) (q0 := 0) rfl rfl, fun U hU hW => ⟨rfl, zz_rr hU hW hZ, by rw [hU]; exact hPc, va_K.moved hW.alike hKc⟩⟩ rfl rfl hl.1 rfl (lv_room (Nat.le_of_ble_eq_true rfl)) d_C_dueDayByRule_14 ⟨(Nat.le_of_ble_eq_true rfl), (Nat.le_of_ble_eq_true rfl)⟩)) (fun r_7 hw_8 => ?_)
    clear hPc hKc
    subst hw_8
    exact W.iret (v := g_Cg_firstFrom (p0 + r_da) 0 f_cw) hx hb hr (fun t ht hW => ⟨g_Cg_firstFrom (p0 + r_da) 0 f_cw, rfl, hE.symm.trans hz, ht⟩) (fun _ h => by cases h) d_C_dueDayByRule_17
