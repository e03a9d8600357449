def g_Cg_isExcepted (p0 : Int32) (p1 : Int32) (p2 : Int32) (f_cex : Nat → Int32) : Int32 :=
  if ((p0 * 40) + p1) < 0 then
    0
  else
    if 2000 ≤ ((p0 * 40) + p1) then
      0
    else
      if (f_cex ((p0 * 40) + p1).toNatClampNeg) < p2 then
        0
      else
        1
set_option maxHeartbeats 4000000 in
set_option maxRecDepth 100000 in
theorem c_Cg_isExcepted (l : Launch) (dC : Nat → ClassId) (dI : Nat → Nat → Nat) (adK adV : Nat → Nat) (a_h : Nat) (a_cex : Nat) (k_cex : ClassId) (p0 : Int32) (p1 : Int32) (p2 : Int32) (a_tx : Nat) (a_cru : Nat) (w_nr : Int32) (a_cd : Nat) (a_td : Nat) (a_cki : Nat) (a_cca : Nat) (a_cty : Nat) (a_cio : Nat) (a_clo : Nat) (w_nl : Int32) (a_cfi : Nat) (w_nf : Int32) (a_ccl : Nat) (w_nc : Int32) (f_cex : Nat → Int32) : Met l y_C_isExcepted ws_C_isExcepted ({ frames := 0, cells := 0, slots := 0, locals := 0 }) (va_Pc [.ref a_h, .int p0, .int p1, .int p2] (fun U => zz adK adV (fun _ => False) U ∧ va_P (dC, dI) vwCl [(a_h, .inr (0, [.ref a_tx, .ref a_cru, .int w_nr, .ref a_cd, .ref a_td, .ref a_cki, .ref a_cca, .ref a_cty, .ref a_cio, .ref a_cex, .ref a_clo, .int w_nl, .ref a_cfi, .int w_nf, .ref a_ccl, .int w_nc])), (a_cex, .inl (k_cex, 2000, .inl f_cex))] U.heap ∧ va_K (dC, dI) vwCl [(k_cex, .int)] U)) (vp_Si (fun r => r = g_Cg_isExcepted p0 p1 p2 f_cex)) 0 0 (fun _ => False) := by
  refine Met.ofW (cc := c_C_isExcepted) (maxL := 5) (ret := (some .boolean)) (by decide) rfl ?_
  intro p e s m args below meth c s₁ B hml hv
  obtain ⟨rfl, hZ, hP, hK⟩ := hv
  have hx := B.exec
  have hb := B.bytes
  have hr := B.returns
  have hts0 := atoms_spec (ws := ws_C_isExcepted) B.pre
  have hts : ∀ w ∈ TT, w.before _ s = true := fun w h => hts0 w (List.mem_cons_of_mem _ h)
  have hown : s.vm.findClass "LoanRules" = some m.cls := findClass_of_methodNamed B.named
  have hlocks := B.notSynchronized
  have hS : va_S (fun _ => False) s.heap s.heap [] := va_S.rf
  replace hP : va_P (dC, dI) vwCl [(a_h, .inr (0, [.ref a_tx, .ref a_cru, .int w_nr, .ref a_cd, .ref a_td, .ref a_cki, .ref a_cca, .ref a_cty, .ref a_cio, .ref a_cex, .ref a_clo, .int w_nl, .ref a_cfi, .int w_nf, .ref a_ccl, .int w_nc])), (a_cex, .inl (k_cex, 2000, .inl f_cex))] s.heap := hP
  have hl := lv_entry ([.ref a_h, .int p0, .int p1, .int p2]) (n := 5) (Nat.le_of_ble_eq_true rfl)
  rw [lg_entry_eq]
  generalize (lg_sl ([.ref a_h, .int p0, .int p1, .int p2]) ++ List.replicate (5 - (lg_sl ([.ref a_h, .int p0, .int p1, .int p2])).length) Slot.unset).toArray = ls at hl ⊢
  replace hl : lv_has ls 5 [(0, .ref a_h), (1, .int p0), (2, .int p1), (3, .int p2)] := hl
  obtain ⟨z, hz⟩ : ∃ z, z = g_Cg_isExcepted p0 p1 p2 f_cex := ⟨_, rfl⟩
  have hE := hz
  rw [g_Cg_isExcepted] at hE
  refine lv_iload_n hx hb d_C_isExcepted_0 rfl (lv_at hl 1 rfl) ?_
  refine lv_bipush (v := 40) hx hb d_C_isExcepted_1 (by decide) ?_
  refine lv_imul hx hb d_C_isExcepted_3 ?_
  refine lv_iload_n hx hb d_C_isExcepted_4 rfl (lv_at hl 2 rfl) ?_
  refine lv_iadd hx hb d_C_isExcepted_5 ?_
  refine lv_istore (lv' := [(4, .int ((p0 * 40) + p1)), (0, .ref a_h), (1, .int p0), (2, .int p1), (3, .int p2)]) hx hb d_C_isExcepted_6 hl (by decide) rfl (fun ls hl => ?_)
  refine lv_iload hx hb d_C_isExcepted_8 (lv_at hl 0 rfl) ?_
  refine lv_if_lt (tgt := 38) hx hb d_C_isExcepted_10 (by decide) (fun c_1 => ?_) (fun c_1 => ?_)
  · rw [if_pos c_1] at hE
    refine lv_iconst (v := 0) hx hb d_C_isExcepted_38 (by decide) ?_
    exact W.zret (v := 0) hx hb hr rfl (fun t ht hW => ⟨0, rfl, hE.symm.trans hz, ht⟩) (fun _ h => by cases h) d_C_isExcepted_39
  · rw [if_neg c_1] at hE
    refine lv_iload hx hb d_C_isExcepted_13 (lv_at hl 0 rfl) ?_
    refine lv_aload_n hx hb d_C_isExcepted_15 rfl (lv_at hl 1 rfl) ?_
    refine va_get (D := (dC, dI)) (ci := 0) (v := .ref a_cex) (C := "LoanRules") (T := Fz_C) (N := 16) hx hb hts it_C hown hK hP 0 rfl rfl 9 (by decide) (hts _ tw_113) (fun _ h9 => h9) rfl d_C_isExcepted_16 ?_
    refine va_alen (D := (dC, dI)) (v := 2000) hx hb hK hP 1 0 rfl rfl rfl d_C_isExcepted_19 ?_
    refine lv_icmp_ge (tgt := 38) hx hb d_C_isExcepted_20 (by decide) (fun c_2 => ?_) (fun c_2 => ?_)
    · rw [if_pos c_2] at hE
      refine lv_iconst (v := 0) hx hb d_C_isExcepted_38 (by decide) ?_
      exact W.zret (v := 0) hx hb hr rfl (fun t ht hW => ⟨0, rfl, hE.symm.trans hz, ht⟩) (fun _ h => by cases h) d_C_isExcepted_39
    · rw [if_neg c_2] at hE
      refine lv_iload_n hx hb d_C_isExcepted_23 rfl (lv_at hl 4 rfl) ?_
      refine lv_aload_n hx hb d_C_isExcepted_24 rfl (lv_at hl 1 rfl) ?_
      refine va_get (D := (dC, dI)) (ci := 0) (v := .ref a_cex) (C := "LoanRules") (T := Fz_C) (N := 16) hx hb hts it_C hown hK hP 0 rfl rfl 9 (by decide) (hts _ tw_113) (fun _ h9 => h9) rfl d_C_isExcepted_25 ?_
      refine lv_iload hx hb d_C_isExcepted_28 (lv_at hl 0 rfl) ?_
      have i_3 : vp_in ((p0 * 40) + p1) 2000 := li_in (li_n0 c_1) c_2
      refine va_iald (D := (dC, dI)) hx hb hK hP 1 0 rfl rfl i_3 d_C_isExcepted_30 ?_
      refine lv_icmp_gt (tgt := 38) hx hb d_C_isExcepted_31 (by decide) (fun c_4 => ?_) (fun c_4 => ?_)
      · rw [if_pos c_4] at hE
        refine lv_iconst (v := 0) hx hb d_C_isExcepted_38 (by decide) ?_
        exact W.zret (v := 0) hx hb hr rfl (fun t ht hW => ⟨0, rfl, hE.symm.trans hz, ht⟩) (fun _ h => by cases h) d_C_isExcepted_39
      · rw [if_neg c_4] at hE
        refine lv_iconst (v := 1) hx hb d_C_isExcepted_34 (by decide) ?_
        refine lv_goto (tgt := 39) hx hb d_C_isExcepted_35 (by decide) ?_
        exact W.zret (v := 1) hx hb hr rfl (fun t ht hW => ⟨1, rfl, hE.symm.trans hz, ht⟩) (fun _ h => by cases h) d_C_isExcepted_39
set_option maxHeartbeats 4000000 in
set_option maxRecDepth 100000 in
theorem c_Cg_openDayFrom (l : Launch) (dC : Nat → ClassId) (dI : Nat → Nat → Nat) (adK adV : Nat → Nat) (a_h : Nat) (a_cd : Nat) (a_cw : Nat) (k_cw : ClassId) (p0 : Int32) (a_tx : Nat) (a_cru : Nat) (w_nr : Int32) (a_td : Nat) (a_cki : Nat) (a_cca : Nat) (a_cty : Nat) (a_cio : Nat) (a_cex : Nat) (a_clo : Nat) (w_nl : Int32) (a_cfi : Nat) (w_nf : Int32) (a_ccl : Nat) (w_nc : Int32) (f_cw : Nat → Int64) (hp0 : p0.toInt < 20000) : Met l y_C_openDayFrom ws_C_openDayFrom ({ frames := 3, cells := 0, slots := 0, locals := 66 }) (va_Pc [.ref a_h, .int p0] (fun U => zz adK adV (fun _ => False) U ∧ va_P (dC, dI) vwCl [(a_h, .inr (0, [.ref a_tx, .ref a_cru, .int w_nr, .ref a_cd, .ref a_td, .ref a_cki, .ref a_cca, .ref a_cty, .ref a_cio, .ref a_cex, .ref a_clo, .int w_nl, .ref a_cfi, .int w_nf, .ref a_ccl, .int w_nc])), (a_cd, .inr (1, [.ref a_cw])), (a_cw, .inl (k_cw, 157, .inr (.inl f_cw)))] U.heap ∧ va_K (dC, dI) vwCl [(k_cw, .long)] U)) (vp_Si (fun r => r = g_Cg_firstFrom p0 0 f_cw)) 0 0 (fun _ => False) := by
  refine Met.ofW (cc := c_C_openDayFrom) (maxL := 2) (ret := (some .int)) (by decide) rfl ?_
  intro p e s m args below meth c s₁ B hml hv
  obtain ⟨rfl, hZ, hP, hK⟩ := hv
  have hx := B.exec
  have hb := B.bytes
  have hr := B.returns
  have hts0 := atoms_spec (ws := ws_C_openDayFrom) B.pre
  have hts : ∀ w ∈ TT, w.before _ s = true := fun w h => hts0 w (List.mem_cons_of_mem _ h)
  have hown : s.vm.findClass "LoanRules" = some m.cls := findClass_of_methodNamed B.named
  have hlocks := B.notSynchronized
  have hS : va_S (fun _ => False) s.heap s.heap [] := va_S.rf
  replace hP : va_P (dC, dI) vwCl [(a_h, .inr (0, [.ref a_tx, .ref a_cru, .int w_nr, .ref a_cd, .ref a_td, .ref a_cki, .ref a_cca, .ref a_cty, .ref a_cio, .ref a_cex, .ref a_clo, .int w_nl, .ref a_cfi, .int w_nf, .ref a_ccl, .int w_nc])), (a_cd, .inr (1, [.ref a_cw])), (a_cw, .inl (k_cw, 157, .inr (.inl f_cw)))] s.heap := hP
  have hl := lv_entry ([.ref a_h, .int p0]) (n := 2) (Nat.le_of_ble_eq_true rfl)
  rw [lg_entry_eq]
  generalize (lg_sl ([.ref a_h, .int p0]) ++ List.replicate (2 - (lg_sl ([.ref a_h, .int p0])).length) Slot.unset).toArray = ls at hl ⊢
  replace hl : lv_has ls 2 [(0, .ref a_h), (1, .int p0)] := hl
  refine lv_aload_n hx hb d_C_openDayFrom_0 rfl (lv_at hl 0 rfl) ?_
  refine va_get (D := (dC, dI)) (ci := 0) (v := .ref a_cd) (C := "LoanRules") (T := Fz_C) (N := 16) hx hb hts it_C hown hK hP 0 rfl rfl 3 (by decide) (hts _ tw_107) (fun _ h9 => h9) rfl d_C_openDayFrom_1 ?_
  refine lv_iload_n hx hb d_C_openDayFrom_4 rfl (lv_at hl 1 rfl) ?_
  refine lv_iconst (v := 0) hx hb d_C_openDayFrom_5 (by decide) ?_
  have hPc := hP.sub (ws' := [(a_cd, .inr (1, [.ref a_cw])), (a_cw, .inl (k_cw, 157, .inr (.inl f_cw)))]) [1, 2] rfl
  have hKc := hK.sub (tys' := [(k_cw, .long)]) [0] rfl
  refine vp_callSi (va_Run.run (va_runV (As := [.int p0, .int 0]) (rest := []) ⟨hx, hb, hml, hown, hts⟩ (c_Cg_firstFrom l dC dI adK adV (a_cd := a_cd) (p0 := p0) (p1 := 0) (a_cw := a_cw) (k_cw := k_cw) (f_cw := f_cw) hp0) (cwV 2 hts (gV tw_403 tw_404 tw_405 tw_44 tw_406) rfl rfl rfl (by decide +kernel) ⟨(Nat.le_of_ble_eq_true rfl), (Nat.le_of_ble_eq_true rfl)⟩) ⟨fun a U g mk q => by obtain ⟨q0, qZ, qP, qK⟩ := q; exact ⟨q0, zz_call qZ, qP, va_K.moved (u := U) (U := U.calling g mk a) (Vm.Alike.refl U.vm) qK⟩, va_recv hKc hPc (ci := 1) (q0 := 0) rfl rfl, fun U hU hW => ⟨rfl, zz_rr hU hW hZ, by rw [hU]; exact hPc, va_K.moved hW.alike hKc⟩⟩ rfl rfl hl.1 rfl (lv_room (Nat.le_of_ble_eq_true rfl)) d_C_openDayFrom_6 ⟨(Nat.le_of_ble_eq_true rfl), (Nat.le_of_ble_eq_true rfl)⟩)) (fun r_1 hw_2 => ?_)
  clear hPc hKc
  subst hw_2
  exact W.iret (v := g_Cg_firstFrom p0 0 f_cw) hx hb hr (fun t ht hW => ⟨g_Cg_firstFrom p0 0 f_cw, rfl, rfl, ht⟩) (fun _ h => by cases h) d_C_openDayFrom_9
def g_Cg_ruleAt (p0 : Int32) (w_nr : Int32) (f_cru : Nat → Option Nat) : Option Nat :=
  if p0 < 0 then
    none
  else
    if w_nr ≤ p0 then
      none
    else
      if 40 ≤ p0 then
        none
      else
        f_cru p0.toNatClampNeg
set_option maxHeartbeats 4000000 in
set_option maxRecDepth 100000 in
theorem c_Cg_ruleAt (l : Launch) (dC : Nat → ClassId) (dI : Nat → Nat → Nat) (adK adV : Nat → Nat) (a_h : Nat) (a_cru : Nat) (k_cru : ClassId) (p0 : Int32) (a_tx : Nat) (w_nr : Int32) (a_cd : Nat) (a_td : Nat) (a_cki : Nat) (a_cca : Nat) (a_cty : Nat) (a_cio : Nat) (a_cex : Nat) (a_clo : Nat) (w_nl : Int32) (a_cfi : Nat) (w_nf : Int32) (a_ccl : Nat) (w_nc : Int32) (f_cru : Nat → Option Nat) : Met l y_C_ruleAt ws_C_ruleAt ({ frames := 0, cells := 0, slots := 0, locals := 0 }) (va_Pc [.ref a_h, .int p0] (fun U => zz adK adV (fun _ => False) U ∧ va_P (dC, dI) vwCl [(a_h, .inr (0, [.ref a_tx, .ref a_cru, .int w_nr, .ref a_cd, .ref a_td, .ref a_cki, .ref a_cca, .ref a_cty, .ref a_cio, .ref a_cex, .ref a_clo, .int w_nl, .ref a_cfi, .int w_nf, .ref a_ccl, .int w_nc])), (a_cru, .inl (k_cru, 40, .inr (.inr (.inr (.inr f_cru)))))] U.heap ∧ va_K (dC, dI) vwCl [(k_cru, .object "LoanRules$Rule")] U)) (va_Sq (fun r => r = g_Cg_ruleAt p0 w_nr f_cru)) 0 0 (fun _ => False) := by
  refine Met.ofW (cc := c_C_ruleAt) (maxL := 2) (ret := (some (.object "LoanRules$Rule"))) (by decide) rfl ?_
  intro p e s m args below meth c s₁ B hml hv
  obtain ⟨rfl, hZ, hP, hK⟩ := hv
  have hx := B.exec
  have hb := B.bytes
  have hr := B.returns
  have hts0 := atoms_spec (ws := ws_C_ruleAt) B.pre
  have hts : ∀ w ∈ TT, w.before _ s = true := fun w h => hts0 w (List.mem_cons_of_mem _ h)
  have hown : s.vm.findClass "LoanRules" = some m.cls := findClass_of_methodNamed B.named
  have hlocks := B.notSynchronized
  have hS : va_S (fun _ => False) s.heap s.heap [] := va_S.rf
  replace hP : va_P (dC, dI) vwCl [(a_h, .inr (0, [.ref a_tx, .ref a_cru, .int w_nr, .ref a_cd, .ref a_td, .ref a_cki, .ref a_cca, .ref a_cty, .ref a_cio, .ref a_cex, .ref a_clo, .int w_nl, .ref a_cfi, .int w_nf, .ref a_ccl, .int w_nc])), (a_cru, .inl (k_cru, 40, .inr (.inr (.inr (.inr f_cru)))))] s.heap := hP
  have hl := lv_entry ([.ref a_h, .int p0]) (n := 2) (Nat.le_of_ble_eq_true rfl)
  rw [lg_entry_eq]
  generalize (lg_sl ([.ref a_h, .int p0]) ++ List.replicate (2 - (lg_sl ([.ref a_h, .int p0])).length) Slot.unset).toArray = ls at hl ⊢
  replace hl : lv_has ls 2 [(0, .ref a_h), (1, .int p0)] := hl
  obtain ⟨z, hz⟩ : ∃ z, z = g_Cg_ruleAt p0 w_nr f_cru := ⟨_, rfl⟩
  have hE := hz
  rw [g_Cg_ruleAt] at hE
  refine lv_iload_n hx hb d_C_ruleAt_0 rfl (lv_at hl 1 rfl) ?_
  refine lv_if_lt (tgt := 30) hx hb d_C_ruleAt_1 (by decide) (fun c_1 => ?_) (fun c_1 => ?_)
  · rw [if_pos c_1] at hE
    refine lv_null hx hb d_C_ruleAt_30 ?_
    exact W.aret (v := va_rf none) hx hb hr (Or.inl ⟨_, rfl⟩) (va_rf_or _) (fun t ht hW => ⟨none, rfl, hE.symm.trans hz, ht⟩) (fun _ h => by cases h) d_C_ruleAt_31
  · rw [if_neg c_1] at hE
    refine lv_iload_n hx hb d_C_ruleAt_4 rfl (lv_at hl 1 rfl) ?_
    refine lv_aload_n hx hb d_C_ruleAt_5 rfl (lv_at hl 0 rfl) ?_
    refine va_get (D := (dC, dI)) (ci := 0) (v := .int w_nr) (C := "LoanRules") (T := Fz_C) (N := 16) hx hb hts it_C hown hK hP 0 rfl rfl 2 (by decide) (hts _ tw_106) (fun _ h9 => h9) rfl d_C_ruleAt_6 ?_
    refine lv_icmp_ge (tgt := 30) hx hb d_C_ruleAt_9 (by decide) (fun c_2 => ?_) (fun c_2 => ?_)
    · rw [if_pos c_2] at hE
      refine lv_null hx hb d_C_ruleAt_30 ?_
      exact W.aret (v := va_rf none) hx hb hr (Or.inl ⟨_, rfl⟩) (va_rf_or _) (fun t ht hW => ⟨none, rfl, hE.symm.trans hz, ht⟩) (fun _ h => by cases h) d_C_ruleAt_31
    · rw [if_neg c_2] at hE
      refine lv_iload_n hx hb d_C_ruleAt_12 rfl (lv_at hl 1 rfl) ?_
      refine lv_aload_n hx hb d_C_ruleAt_13 rfl (lv_at hl 0 rfl) ?_
      refine va_get (D := (dC, dI)) (ci := 0) (v := .ref a_cru) (C := "LoanRules") (T := Fz_C) (N := 16) hx hb hts it_C hown hK hP 0 rfl rfl 1 (by decide) (hts _ tw_105) (fun _ h9 => h9) rfl d_C_ruleAt_14 ?_
      refine va_alen (D := (dC, dI)) (v := 40) hx hb hK hP 1 0 rfl rfl rfl d_C_ruleAt_17 ?_
      refine lv_icmp_ge (tgt := 30) hx hb d_C_ruleAt_18 (by decide) (fun c_3 => ?_) (fun c_3 => ?_)
      · rw [if_pos c_3] at hE
        refine lv_null hx hb d_C_ruleAt_30 ?_
        exact W.aret (v := va_rf none) hx hb hr (Or.inl ⟨_, rfl⟩) (va_rf_or _) (fun t ht hW => ⟨none, rfl, hE.symm.trans hz, ht⟩) (fun _ h => by cases h) d_C_ruleAt_31
      · rw [if_neg c_3] at hE
        refine lv_aload_n hx hb d_C_ruleAt_21 rfl (lv_at hl 0 rfl) ?_
        refine va_get (D := (dC, dI)) (ci := 0) (v := .ref a_cru) (C := "LoanRules") (T := Fz_C) (N := 16) hx hb hts it_C hown hK hP 0 rfl rfl 1 (by decide) (hts _ tw_105) (fun _ h9 => h9) rfl d_C_ruleAt_22 ?_
        refine lv_iload_n hx hb d_C_ruleAt_25 rfl (lv_at hl 1 rfl) ?_
        have i_4 : vp_in p0 40 := li_in (li_n0 c_1) c_3
        refine va_aldq (D := (dC, dI)) hx hb hK hP 1 0 rfl rfl i_4 d_C_ruleAt_26 ?_
        refine lv_goto (tgt := 31) hx hb d_C_ruleAt_27 (by decide) ?_
        exact W.aret (v := va_rf (f_cru p0.toNatClampNeg)) hx hb hr (Or.inl ⟨_, rfl⟩) (va_rf_or _) (fun t ht hW => ⟨f_cru p0.toNatClampNeg, rfl, hE.symm.trans hz, ht⟩) (fun _ h => by cases h) d_C_ruleAt_31
