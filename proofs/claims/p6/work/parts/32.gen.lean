theorem held_some {x n : Int32} {a : Nat → Nat} {G : Nat → Nat → Int32} (hn : n.toInt ≤ 200) (h : hIn x n G) : g_Cg_heldLoan x n a G = some (a (nN (x - 1))) := by
  unfold g_Cg_heldLoan
  obtain ⟨h0, h1, h2⟩ := h
  have e : (200 : Int32).toInt = 200 := by decide
  rw [if_neg (by rw [li_lt, li_1]; omega), if_neg (by rw [li_lt]; omega), if_pos (by rw [li_le, e]; omega), if_pos h2]
theorem held_none {x n : Int32} {a : Nat → Nat} {G : Nat → Nat → Int32} (h : ¬ hIn x n G) : g_Cg_heldLoan x n a G = none := by
  unfold g_Cg_heldLoan
  split
  · rfl
  · rename_i h1
    split
    · rfl
    · rename_i h2
      split
      · split
        · rename_i h3
          exact absurd ⟨li_ge1 h1, li_nlt h2, h3⟩ h
        · rfl
      · rfl

def g_Cg_dueDayByRule (p0 : Int32) (f_cw : Nat → Int64) (f_tw : Nat → Int64) (r_de : Int32) (r_da : Int32) : Int32 :=
  if r_de = 0 then
    g_Cg_firstFrom (p0 + r_da) 0 f_cw
  else
    if (g_Cg_firstFrom p0 1 f_tw) = (-1) then
      (-1)
    else
      g_Cg_firstFrom (g_Cg_firstFrom p0 1 f_tw) 0 f_cw
set_option maxHeartbeats 4000000 in
set_option maxRecDepth 100000 in
theorem c_Cg_dueDayByRule (l : Launch) (dC : Nat → ClassId) (dI : Nat → Nat → Nat) (adK adV : Nat → Nat) (a_h : Nat) (a_cd : Nat) (a_cw : Nat) (a_td : Nat) (a_tw : Nat) (a_to : Nat) (k_cw : ClassId) (k_tw : ClassId) (p0 : Int32) (a_tx : Nat) (a_cru : Nat) (w_nr : Int32) (a_cki : Nat) (a_cca : Nat) (a_cty : Nat) (a_cio : Nat) (a_cex : Nat) (a_clo : Nat) (w_nl : Int32) (a_cfi : Nat) (w_nf : Int32) (a_ccl : Nat) (w_nc : Int32) (f_cw : Nat → Int64) (f_tw : Nat → Int64) (r_ki : Int32) (r_ty : Int32) (r_pe : Int32) (r_de : Int32) (r_da : Int32) (r_re : Int32) (r_ga : Int32) (r_rc : Int32) (r_rk : Int32) (r_me : Int32) (r_le : Int32) (hp0 : 0 ≤ p0.toInt ∧ p0.toInt < 10000) (hda : 0 ≤ r_da.toInt ∧ r_da.toInt ≤ 999) : Met l y_C_dueDayByRule ws_C_dueDayByRule ({ frames := 4, cells := 0, slots := 0, locals := 87 }) (va_Pc [.ref a_h, .ref a_to, .int p0] (fun U => zz adK adV (fun _ => False) U ∧ va_P (dC, dI) vwCl [(a_h, .inr (0, [.ref a_tx, .ref a_cru, .int w_nr, .ref a_cd, .ref a_td, .ref a_cki, .ref a_cca, .ref a_cty, .ref a_cio, .ref a_cex, .ref a_clo, .int w_nl, .ref a_cfi, .int w_nf, .ref a_ccl, .int w_nc])), (a_cd, .inr (1, [.ref a_cw])), (a_cw, .inl (k_cw, 157, .inr (.inl f_cw))), (a_td, .inr (1, [.ref a_tw])), (a_tw, .inl (k_tw, 157, .inr (.inl f_tw))), (a_to, .inr (3, [.int r_ki, .int r_ty, .int r_pe, .int r_de, .int r_da, .int r_re, .int r_ga, .int r_rc, .int r_rk, .int r_me, .int r_le]))] U.heap ∧ va_K (dC, dI) vwCl [(k_cw, .long), (k_tw, .long)] U)) (vp_Si (fun r => r = g_Cg_dueDayByRule p0 f_cw f_tw r_de r_da)) 0 0 (fun _ => False) := by
  refine Met.ofW (cc := c_C_dueDayByRule) (maxL := 4) (ret := (some .int)) (by decide) rfl ?_
  intro p e s m args below meth c s₁ B hml hv
  obtain ⟨rfl, hZ, hP, hK⟩ := hv
  have hx := B.exec
  have hb := B.bytes
  have hr := B.returns
  have hts0 := atoms_spec (ws := ws_C_dueDayByRule) B.pre
  have hts : ∀ w ∈ TT, w.before _ s = true := fun w h => hts0 w (List.mem_cons_of_mem _ h)
  have hown : s.vm.findClass "LoanRules" = some m.cls := findClass_of_methodNamed B.named
  have hlocks := B.notSynchronized
  have hS : va_S (fun _ => False) s.heap s.heap [] := va_S.rf
  replace hP : va_P (dC, dI) vwCl [(a_h, .inr (0, [.ref a_tx, .ref a_cru, .int w_nr, .ref a_cd, .ref a_td, .ref a_cki, .ref a_cca, .ref a_cty, .ref a_cio, .ref a_cex, .ref a_clo, .int w_nl, .ref a_cfi, .int w_nf, .ref a_ccl, .int w_nc])), (a_cd, .inr (1, [.ref a_cw])), (a_cw, .inl (k_cw, 157, .inr (.inl f_cw))), (a_td, .inr (1, [.ref a_tw])), (a_tw, .inl (k_tw, 157, .inr (.inl f_tw))), (a_to, .inr (3, [.int r_ki, .int r_ty, .int r_pe, .int r_de, .int r_da, .int r_re, .int r_ga, .int r_rc, .int r_rk, .int r_me, .int r_le]))] s.heap := hP
  have hl := lv_entry ([.ref a_h, .ref a_to, .int p0]) (n := 4) (Nat.le_of_ble_eq_true rfl)
  rw [lg_entry_eq]
  generalize (lg_sl ([.ref a_h, .ref a_to, .int p0]) ++ List.replicate (4 - (lg_sl ([.ref a_h, .ref a_to, .int p0])).length) Slot.unset).toArray = ls at hl ⊢
  replace hl : lv_has ls 4 [(0, .ref a_h), (1, .ref a_to), (2, .int p0)] := hl
  obtain ⟨z, hz⟩ : ∃ z, z = g_Cg_dueDayByRule p0 f_cw f_tw r_de r_da := ⟨_, rfl⟩
  have hE := hz
  rw [g_Cg_dueDayByRule] at hE
  refine lv_aload_n hx hb d_C_dueDayByRule_0 rfl (lv_at hl 1 rfl) ?_
  refine va_get (D := (dC, dI)) (ci := 3) (v := .int r_de) (C := "LoanRules$Rule") (T := Fz_R) (N := 11) hx hb hts it_R hown hK hP 5 rfl rfl 3 (by decide) (hts _ tw_183) (fun _ h9 => h9) rfl d_C_dueDayByRule_1 ?_
  refine lv_if_ne (tgt := 18) hx hb d_C_dueDayByRule_4 (by decide) (fun c_1 => ?_) (fun c_1 => ?_)
  · rw [if_neg c_1] at hE
    refine lv_aload_n hx hb d_C_dueDayByRule_18 rfl (lv_at hl 0 rfl) ?_
    refine va_get (D := (dC, dI)) (ci := 0) (v := .ref a_td) (C := "LoanRules") (T := Fz_C) (N := 16) hx hb hts it_C hown hK hP 0 rfl rfl 4 (by decide) (hts _ tw_108) (fun _ h9 => h9) rfl d_C_dueDayByRule_19 ?_
    refine lv_iload_n hx hb d_C_dueDayByRule_22 rfl (lv_at hl 2 rfl) ?_
    refine lv_iconst (v := 1) hx hb d_C_dueDayByRule_23 (by decide) ?_
    have hPc := hP.sub (ws' := [(a_td, .inr (1, [.ref a_tw])), (a_tw, .inl (k_tw, 157, .inr (.inl f_tw)))]) [3, 4] rfl
    have hKc := hK.sub (tys' := [(k_tw, .long)]) [1] rfl
    refine vp_callSi (va_Run.run (va_runV (As := [.int p0, .int 1]) (rest := []) ⟨hx, hb, hml, hown, hts⟩ (c_Cg_firstFrom l dC dI adK adV (a_cd := a_td) (p0 := p0) (p1 := 1) (a_cw := a_tw) (k_cw := k_tw) (f_cw := f_tw) (by omega)) (cwV 2 hts (gV tw_403 tw_404 tw_405 tw_44 tw_406) rfl rfl rfl (by decide +kernel) ⟨(Nat.le_of_ble_eq_true rfl), (Nat.le_of_ble_eq_true rfl)⟩) ⟨fun a U g mk q => by obtain ⟨q0, qZ, qP, qK⟩ := q; exact ⟨q0, zz_call qZ, qP, va_K.moved (u := U) (U := U.calling g mk a) (Vm.Alike.refl U.vm) qK⟩, va_recv hKc hPc (ci := 1) (q0 := 0) rfl rfl, fun U hU hW => ⟨rfl, zz_rr hU hW hZ, by rw [hU]; exact hPc, va_K.moved hW.alike hKc⟩⟩ rfl rfl hl.1 rfl (lv_room (Nat.le_of_ble_eq_true rfl)) d_C_dueDayByRule_24 ⟨(Nat.le_of_ble_eq_true rfl), (Nat.le_of_ble_eq_true rfl)⟩)) (fun r_2 hw_3 => ?_)
    clear hPc hKc
    subst hw_3
    refine lv_istore_n (lv' := [(3, .int (g_Cg_firstFrom p0 1 f_tw)), (0, .ref a_h), (1, .ref a_to), (2, .int p0)]) hx hb d_C_dueDayByRule_27 rfl hl (by decide) rfl (fun ls hl => ?_)
    refine lv_iload_n hx hb d_C_dueDayByRule_28 rfl (lv_at hl 0 rfl) ?_
    refine lv_iconst (v := (-1)) hx hb d_C_dueDayByRule_29 (by decide) ?_
    refine lv_icmp_ne (tgt := 37) hx hb d_C_dueDayByRule_30 (by decide) (fun c_4 => ?_) (fun c_4 => ?_)
    · rw [if_neg c_4] at hE
      refine lv_aload_n hx hb d_C_dueDayByRule_37 rfl (lv_at hl 1 rfl) ?_
      refine lv_iload_n hx hb d_C_dueDayByRule_38 rfl (lv_at hl 0 rfl) ?_
      have hPc := hP.sub (ws' := [(a_h, .inr (0, [.ref a_tx, .ref a_cru, .int w_nr, .ref a_cd, .ref a_td, .ref a_cki, .ref a_cca, .ref a_cty, .ref a_cio, .ref a_cex, .ref a_clo, .int w_nl, .ref a_cfi, .int w_nf, .ref a_ccl, .int w_nc])), (a_cd, .inr (1, [.ref a_cw])), (a_cw, .inl (k_cw, 157, .inr (.inl f_cw)))]) [0, 1, 2] rfl
      have hKc := hK.sub (tys' := [(k_cw, .long)]) [0] rfl
      refine vp_callSi (va_Run.run (va_runV (As := [.int (g_Cg_firstFrom p0 1 f_tw)]) (rest := []) ⟨hx, hb, hml, hown, hts⟩ (c_Cg_openDayFrom l dC dI adK adV (a_h := a_h) (p0 := g_Cg_firstFrom p0 1 f_tw) (a_tx := a_tx) (a_cru := a_cru) (w_nr := w_nr) (a_cd := a_cd) (a_td := a_td) (a_cki := a_cki) (a_cca := a_cca) (a_cty := a_cty) (a_cio := a_cio) (a_cex := a_cex) (a_clo := a_clo) (w_nl := w_nl) (a_cfi := a_cfi) (w_nf := w_nf) (a_ccl := a_ccl) (w_nc := w_nc) (a_cw := a_cw) (k_cw := k_cw) (f_cw := f_cw) (ff_lt (by omega)).2) (cwV 1 hts (gV tw_399 tw_401 tw_14 tw_42 tw_402) rfl rfl rfl (by decide +kernel) ⟨(Nat.le_of_ble_eq_true rfl), (Nat.le_of_ble_eq_true rfl)⟩) ⟨fun a U g mk q => by obtain ⟨q0, qZ, qP, qK⟩ := q; exact ⟨q0, zz_call qZ, qP, va_K.moved (u := U) (U := U.calling g mk a) (Vm.Alike.refl U.vm) qK⟩, va_recv hKc hPc (ci := 0) (q0 := 0) rfl rfl, fun U hU hW => ⟨rfl, zz_rr hU hW hZ, by rw [hU]; exact hPc, va_K.moved hW.alike hKc⟩⟩ rfl rfl hl.1 rfl (lv_room (Nat.le_of_ble_eq_true rfl)) d_C_dueDayByRule_39 ⟨(Nat.le_of_ble_eq_true rfl), (Nat.le_of_ble_eq_true rfl)⟩)) (fun r_5 hw_6 => ?_)
      clear hPc hKc
      subst hw_6
      exact W.iret (v := g_Cg_firstFrom (g_Cg_firstFrom p0 1 f_tw) 0 f_cw) hx hb hr (fun t ht hW => ⟨g_Cg_firstFrom (g_Cg_firstFrom p0 1 f_tw) 0 f_cw, rfl, hE.symm.trans hz, ht⟩) (fun _ h => by cases h) d_C_dueDayByRule_42
    · rw [if_pos c_4] at hE
      refine lv_iconst (v := (-1)) hx hb d_C_dueDayByRule_33 (by decide) ?_
      refine lv_goto (tgt := 42) hx hb d_C_dueDayByRule_34 (by decide) ?_
      exact W.iret (v := (-1)) hx hb hr (fun t ht hW => ⟨(-1), rfl, hE.symm.trans hz, ht⟩) (fun _ h => by cases h) d_C_dueDayByRule_42
  · rw [if_pos c_1] at hE
    refine lv_aload_n hx hb d_C_dueDayByRule_7 rfl (lv_at hl 0 rfl) ?_
    refine lv_iload_n hx hb d_C_dueDayByRule_8 rfl (lv_at hl 2 rfl) ?_
    refine lv_aload_n hx hb d_C_dueDayByRule_9 rfl (lv_at hl 1 rfl) ?_
    refine va_get (D := (dC, dI)) (ci := 3) (v := .int r_da) (C := "LoanRules$Rule") (T := Fz_R) (N := 11) hx hb hts it_R hown hK hP 5 rfl rfl 4 (by decide) (hts _ tw_186) (fun _ h9 => h9) rfl d_C_dueDayByRule_10 ?_
    refine lv_iadd hx hb d_C_dueDayByRule_13 ?_
    have hPc := hP.sub (ws' := [(a_h, .inr (0, [.ref a_tx, .ref a_cru, .int w_nr, .ref a_cd, .ref a_td, .ref a_cki, .ref a_cca, .ref a_cty, .ref a_cio, .ref a_cex, .ref a_clo, .int w_nl, .ref a_cfi, .int w_nf, .ref a_ccl, .int w_nc])), (a_cd, .inr (1, [.ref a_cw])), (a_cw, .inl (k_cw, 157, .inr (.inl f_cw)))]) [0, 1, 2] rfl
    have hKc := hK.sub (tys' := [(k_cw, .long)]) [0] rfl
    refine vp_callSi (va_Run.run (va_runV (As := [.int (p0 + r_da)]) (rest := []) ⟨hx, hb, hml, hown, hts⟩ (c_Cg_openDayFrom l dC dI adK adV (a_h := a_h) (p0 := p0 + r_da) (a_tx := a_tx) (a_cru := a_cru) (w_nr := w_nr) (a_cd := a_cd) (a_td := a_td) (a_cki := a_cki) (a_cca := a_cca) (a_cty := a_cty) (a_cio := a_cio) (a_cex := a_cex) (a_clo := a_clo) (w_nl := w_nl) (a_cfi := a_cfi) (w_nf := w_nf) (a_ccl := a_ccl) (w_nc := w_nc) (a_cw := a_cw) (k_cw := k_cw) (f_cw := f_cw) (li_dayB hp0 hda)) (cwV 1 hts (gV tw_399 tw_401 tw_14 tw_42 tw_402) rfl rfl rfl (by decide +kernel) ⟨(Nat.le_of_ble_eq_true rfl), (Nat.le_of_ble_eq_true rfl)⟩) ⟨fun a U g mk q => by obtain ⟨q0, qZ, qP, qK⟩ := q; exact ⟨q0, zz_call qZ, qP, va_K.moved (u := U) (U := U.calling g mk a) (Vm.Alike.refl U.vm) qK⟩, va_recv hKc hPc (ci := 0) (q0 := 0) rfl rfl, fun U hU hW => ⟨rfl, zz_rr hU hW hZ, by rw [hU]; exact hPc, va_K.moved hW.alike hKc⟩⟩ rfl rfl hl.1 rfl (lv_room (Nat.le_of_ble_eq_true rfl)) d_C_dueDayByRule_14 ⟨(Nat.le_of_ble_eq_true rfl), (Nat.le_of_ble_eq_true rfl)⟩)) (fun r_7 hw_8 => ?_)
    clear hPc hKc
    subst hw_8
    exact W.iret (v := g_Cg_firstFrom (p0 + r_da) 0 f_cw) hx hb hr (fun t ht hW => ⟨g_Cg_firstFrom (p0 + r_da) 0 f_cw, rfl, hE.symm.trans hz, ht⟩) (fun _ h => by cases h) d_C_dueDayByRule_17
