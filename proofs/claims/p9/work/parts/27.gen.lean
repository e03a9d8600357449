def g_Cg_ruleAt (p0 : Int32) (w_nr : Int32) (f_cru : Nat → Option Nat) : Option Nat :=
  if p0 < 0 then
    none
  else
    if w_nr ≤ p0 then
      none
    else
      if 40 ≤ p0 then
        none
      else
        f_cru p0.toNatClampNeg
set_option maxHeartbeats 4000000 in
set_option maxRecDepth 100000 in
theorem c_Cg_ruleAt (l : Launch) (dC : Nat → ClassId) (dI : Nat → Nat → Nat) (adK adV : Nat → Nat) (a_h : Nat) (a_cru : Nat) (k_cru : ClassId) (p0 : Int32) (a_tx : Nat) (w_nr : Int32) (a_cd : Nat) (a_td : Nat) (a_cki : Nat) (a_cca : Nat) (a_cty : Nat) (a_cio : Nat) (a_cex : Nat) (a_clo : Nat) (w_nl : Int32) (a_cfi : Nat) (w_nf : Int32) (a_ccl : Nat) (w_nc : Int32) (f_cru : Nat → Option Nat) : Met l y_C_ruleAt ws_C_ruleAt ({ frames := 0, cells := 0, slots := 0, locals := 0 }) (va_Pc [.ref a_h, .int p0] (fun U => zz adK adV (fun _ => False) U ∧ va_P (dC, dI) vwCl [(a_h, .inr (0, [.ref a_tx, .ref a_cru, .int w_nr, .ref a_cd, .ref a_td, .ref a_cki, .ref a_cca, .ref a_cty, .ref a_cio, .ref a_cex, .ref a_clo, .int w_nl, .ref a_cfi, .int w_nf, .ref a_ccl, .int w_nc])), (a_cru, .inl (k_cru, 40, .inr (.inr (.inr (.inr f_cru)))))] U.heap ∧ va_K (dC, dI) vwCl [(k_cru, .object "LoanRules$Rule")] U)) (va_Sq (fun r => r = g_Cg_ruleAt p0 w_nr f_cru)) 0 0 (fun _ => False) := by
  refine Met.ofW (cc := c_C_ruleAt) (maxL := 2) (ret := (some (.object "LoanRules$Rule"))) (by decide) rfl ?_
  intro p e s m args below meth c s₁ B hml hv
  obtain ⟨rfl, hZ, hP, hK⟩ := hv
  have hx := B.exec
  have hb := B.bytes
  have hr := B.returns
  have hts0 := atoms_spec (ws := ws_C_ruleAt) B.pre
  have hts : ∀ w ∈ TT, w.before _ s = true := fun w h => hts0 w (List.mem_cons_of_mem _ h)
  have hown : s.vm.findClass "LoanRules" = some m.cls := findClass_of_methodNamed B.named
  have hlocks := B.notSynchronized
  have hS : va_S (fun _ => False) s.heap s.heap [] := va_S.rf
  replace hP : va_P (dC, dI) vwCl [(a_h, .inr (0, [.ref a_tx, .ref a_cru, .int w_nr, .ref a_cd, .ref a_td, .ref a_cki, .ref a_cca, .ref a_cty, .ref a_cio, .ref a_cex, .ref a_clo, .int w_nl, .ref a_cfi, .int w_nf, .ref a_ccl, .int w_nc])), (a_cru, .inl (k_cru, 40, .inr (.inr (.inr (.inr f_cru)))))] s.heap := hP
  have hl := lv_entry ([.ref a_h, .int p0]) (n := 2) (Nat.le_of_ble_eq_true rfl)
  rw [lg_entry_eq]
  generalize (lg_sl ([.ref a_h, .int p0]) ++ List.replicate (2 - (lg_sl ([.ref a_h, .int p0])).length) Slot.unset).toArray = ls at hl ⊢
  replace hl : lv_has ls 2 [(0, .ref a_h), (1, .int p0)] := hl
  obtain ⟨z, hz⟩ : ∃ z, z = g_Cg_ruleAt p0 w_nr f_cru := ⟨_, rfl⟩
  have hE := hz
  rw [g_Cg_ruleAt] at hE
  refine lv_iload_n hx hb d_C_ruleAt_0 rfl (lv_at hl 1 rfl) ?_
  refine lv_if_lt (tgt := 30) hx hb d_C_ruleAt_1 (by decide) (fun c_1 => ?_) (fun c_1 => ?_)
  · rw [if_pos c_1] at hE
    refine lv_null hx hb d_C_ruleAt_30 ?_
    exact W.aret (v := va_rf none) hx hb hr (Or.inl ⟨_, rfl⟩) (va_rf_or _) (fun t ht hW => ⟨none, rfl, hE.symm.trans hz, ht⟩) (fun _ h => by cases h) d_C_ruleAt_31
  · rw [if_neg c_1] at hE
    refine lv_iload_n hx hb d_C_ruleAt_4 rfl (lv_at hl 1 rfl) ?_
    refine lv_aload_n hx hb d_C_ruleAt_5 rfl (lv_at hl 0 rfl) ?_
    refine va_get (D := (dC, dI)) (ci := 0) (v := .int w_nr) (C := "LoanRules") (T := Fz_C) (N := 16) hx hb hts it_C hown hK hP 0 rfl rfl 2 (by decide) (hts _ tw_106) (fun _ h9 => h9) rfl d_C_ruleAt_6 ?_
    refine lv_icmp_ge (tgt := 30) hx hb d_C_ruleAt_9 (by decide) (fun c_2 => ?_) (fun c_2 => ?_)
    · rw [if_pos c_2] at hE
      refine lv_null hx hb d_C_ruleAt_30 ?_
      exact W.aret (v := va_rf none) hx hb hr (Or.inl ⟨_, rfl⟩) (va_rf_or _) (fun t ht hW => ⟨none, rfl, hE.symm.trans hz, ht⟩) (fun _ h => by cases h) d_C_ruleAt_31
    · rw [if_neg c_2] at hE
      refine lv_iload_n hx hb d_C_ruleAt_12 rfl (lv_at hl 1 rfl) ?_
      refine lv_aload_n hx hb d_C_ruleAt_13 rfl (lv_at hl 0 rfl) ?_
      refine va_get (D := (dC, dI)) (ci := 0) (v := .ref a_cru) (C := "LoanRules") (T := Fz_C) (N := 16) hx hb hts it_C hown hK hP 0 rfl rfl 1 (by decide) (hts _ tw_105) (fun _ h9 => h9) rfl d_C_ruleAt_14 ?_
      refine va_alen (D := (dC, dI)) (v := 40) hx hb hK hP 1 0 rfl rfl rfl d_C_ruleAt_17 ?_
      refine lv_icmp_ge (tgt := 30) hx hb d_C_ruleAt_18 (by decide) (fun c_3 => ?_) (fun c_3 => ?_)
      · rw [if_pos c_3] at hE
        refine lv_null hx hb d_C_ruleAt_30 ?_
        exact W.aret (v := va_rf none) hx hb hr (Or.inl ⟨_, rfl⟩) (va_rf_or _) (fun t ht hW => ⟨none, rfl, hE.symm.trans hz, ht⟩) (fun _ h => by cases h) d_C_ruleAt_31
      · rw [if_neg c_3] at hE
        refine lv_aload_n hx hb d_C_ruleAt_21 rfl (lv_at hl 0 rfl) ?_
        refine va_get (D := (dC, dI)) (ci := 0) (v := .ref a_cru) (C := "LoanRules") (T := Fz_C) (N := 16) hx hb hts it_C hown hK hP 0 rfl rfl 1 (by decide) (hts _ tw_105) (fun _ h9 => h9) rfl d_C_ruleAt_22 ?_
        refine lv_iload_n hx hb d_C_ruleAt_25 rfl (lv_at hl 1 rfl) ?_
        have i_4 : vp_in p0 40 := li_in (li_n0 c_1) c_3
        refine va_aldq (D := (dC, dI)) hx hb hK hP 1 0 rfl rfl i_4 d_C_ruleAt_26 ?_
        refine lv_goto (tgt := 31) hx hb d_C_ruleAt_27 (by decide) ?_
        exact W.aret (v := va_rf (f_cru p0.toNatClampNeg)) hx hb hr (Or.inl ⟨_, rfl⟩) (va_rf_or _) (fun t ht hW => ⟨f_cru p0.toNatClampNeg, rfl, hE.symm.trans hz, ht⟩) (fun _ h => by cases h) d_C_ruleAt_31
