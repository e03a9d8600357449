def g_Mg_clash (p0 : Int32) (p1 : Int32) (v_nc : Int32) (f_cz : Nat → Int32) : Int32 × Int32 :=
  if p0 < 0 then
    ((-1), 0)
  else
    if v_nc ≤ p0 then
      ((-1), 0)
    else
      if p1 < 0 then
        ((-1), 0)
      else
        if p1 ≤ 1 then
          (f_cz ((2 * p0) + p1).toNatClampNeg, 0)
        else
          ((-1), 0)
set_option maxHeartbeats 4000000 in
set_option maxRecDepth 100000 in
theorem c_Mg_clash (l : Launch) (dC : Nat → ClassId) (dI : Nat → Nat → Nat) (adK adV : Nat → Nat) (a_m : Nat) (a_cz : Nat) (k_cz : ClassId) (p0 : Int32) (p1 : Int32) (v_th : Int32) (a_sa : Nat) (v_sz : Int32) (v_at : Int32) (v_wr : Int32) (a_ru : Nat) (a_me : Nat) (a_le : Nat) (v_n : Int32) (a_cl : Nat) (a_te : Nat) (a_ki : Nat) (a_ty : Nat) (a_bl : Nat) (a_ex : Nat) (a_lo : Nat) (v_nl : Int32) (a_ho : Nat) (a_fi : Nat) (v_nf : Int32) (v_nc : Int32) (f_cz : Nat → Int32) (sz : Nat) (hnc : 0 ≤ v_nc.toInt ∧ v_nc.toInt ≤ 799) : Met l y_M_clash ws_M_clash ({ frames := 0, cells := 0, slots := 0, locals := 0 }) (va_Pc [.ref a_m, .int p0, .int p1] (fun U => U.heap.size = sz ∧ zz adK adV (va_A [(a_m, .inr (5, [.int v_th, .ref a_sa, .int v_sz, .int v_at, .int v_wr, .ref a_ru, .ref a_me, .ref a_le, .int v_n, .ref a_cl, .ref a_te, .ref a_ki, .ref a_ty, .ref a_bl, .ref a_ex, .ref a_lo, .int v_nl, .ref a_ho, .ref a_fi, .int v_nf, .ref a_cz, .int v_nc])), (a_cz, .inl (k_cz, 1600, .inl f_cz))] sz) U ∧ va_P (dC, dI) vwCl [(a_m, .inr (5, [.int v_th, .ref a_sa, .int v_sz, .int v_at, .int v_wr, .ref a_ru, .ref a_me, .ref a_le, .int v_n, .ref a_cl, .ref a_te, .ref a_ki, .ref a_ty, .ref a_bl, .ref a_ex, .ref a_lo, .int v_nl, .ref a_ho, .ref a_fi, .int v_nf, .ref a_cz, .int v_nc])), (a_cz, .inl (k_cz, 1600, .inl f_cz))] U.heap ∧ va_K (dC, dI) vwCl [(k_cz, .int)] U ∧ va_D (fun _ => True) [(a_m, .inr (5, [.int v_th, .ref a_sa, .int v_sz, .int v_at, .int v_wr, .ref a_ru, .ref a_me, .ref a_le, .int v_n, .ref a_cl, .ref a_te, .ref a_ki, .ref a_ty, .ref a_bl, .ref a_ex, .ref a_lo, .int v_nl, .ref a_ho, .ref a_fi, .int v_nf, .ref a_cz, .int v_nc])), (a_cz, .inl (k_cz, 1600, .inl f_cz))])) (va_Qi (fun (r : Int32) (_ : Unit) => r = (g_Mg_clash p0 p1 v_nc f_cz).1) (fun (_ : Unit) (t : State) => va_P (dC, dI) vwCl [(a_m, .inr (5, [.int ((g_Mg_clash p0 p1 v_nc f_cz).2), .ref a_sa, .int v_sz, .int v_at, .int v_wr, .ref a_ru, .ref a_me, .ref a_le, .int v_n, .ref a_cl, .ref a_te, .ref a_ki, .ref a_ty, .ref a_bl, .ref a_ex, .ref a_lo, .int v_nl, .ref a_ho, .ref a_fi, .int v_nf, .ref a_cz, .int v_nc])), (a_cz, .inl (k_cz, 1600, .inl f_cz))] t.heap ∧ va_K (dC, dI) vwCl [(k_cz, .int)] t ∧ va_D (va_A [(a_m, .inr (5, [.int v_th, .ref a_sa, .int v_sz, .int v_at, .int v_wr, .ref a_ru, .ref a_me, .ref a_le, .int v_n, .ref a_cl, .ref a_te, .ref a_ki, .ref a_ty, .ref a_bl, .ref a_ex, .ref a_lo, .int v_nl, .ref a_ho, .ref a_fi, .int v_nf, .ref a_cz, .int v_nc])), (a_cz, .inl (k_cz, 1600, .inl f_cz))] sz) [(a_m, .inr (5, [.int ((g_Mg_clash p0 p1 v_nc f_cz).2), .ref a_sa, .int v_sz, .int v_at, .int v_wr, .ref a_ru, .ref a_me, .ref a_le, .int v_n, .ref a_cl, .ref a_te, .ref a_ki, .ref a_ty, .ref a_bl, .ref a_ex, .ref a_lo, .int v_nl, .ref a_ho, .ref a_fi, .int v_nf, .ref a_cz, .int v_nc])), (a_cz, .inl (k_cz, 1600, .inl f_cz))]) (va_A [(a_m, .inr (5, [.int v_th, .ref a_sa, .int v_sz, .int v_at, .int v_wr, .ref a_ru, .ref a_me, .ref a_le, .int v_n, .ref a_cl, .ref a_te, .ref a_ki, .ref a_ty, .ref a_bl, .ref a_ex, .ref a_lo, .int v_nl, .ref a_ho, .ref a_fi, .int v_nf, .ref a_cz, .int v_nc])), (a_cz, .inl (k_cz, 1600, .inl f_cz))] sz)) 0 0 (va_A [(a_m, .inr (5, [.int v_th, .ref a_sa, .int v_sz, .int v_at, .int v_wr, .ref a_ru, .ref a_me, .ref a_le, .int v_n, .ref a_cl, .ref a_te, .ref a_ki, .ref a_ty, .ref a_bl, .ref a_ex, .ref a_lo, .int v_nl, .ref a_ho, .ref a_fi, .int v_nf, .ref a_cz, .int v_nc])), (a_cz, .inl (k_cz, 1600, .inl f_cz))] sz) := by
  refine Met.ofW (cc := c_M_clash) (maxL := 3) (ret := (some .int)) (by decide) rfl ?_
  intro p e s m args below meth c s₁ B hml hv
  obtain ⟨rfl, hsz, hZ, hP, hK, hD0⟩ := hv
  have hx := B.exec
  have hb := B.bytes
  have hr := B.returns
  have hts0 := atoms_spec (ws := ws_M_clash) B.pre
  have hts : ∀ w ∈ TT, w.before _ s = true := fun w h => hts0 w (List.mem_cons_of_mem _ h)
  have hown : s.vm.findClass "LoanRulesModel" = some m.cls := findClass_of_methodNamed B.named
  have hlocks := B.notSynchronized
  subst hsz
  have hD := hD0.self (sz := s.heap.size)
  generalize hAe : va_A [(a_m, .inr (5, [.int v_th, .ref a_sa, .int v_sz, .int v_at, .int v_wr, .ref a_ru, .ref a_me, .ref a_le, .int v_n, .ref a_cl, .ref a_te, .ref a_ki, .ref a_ty, .ref a_bl, .ref a_ex, .ref a_lo, .int v_nl, .ref a_ho, .ref a_fi, .int v_nf, .ref a_cz, .int v_nc])), (a_cz, .inl (k_cz, 1600, .inl f_cz))] s.heap.size = A at hD hZ ⊢
  have hA : ∀ q : Nat, s.heap.size ≤ q → A q := fun q h => by rw [← hAe]; exact Or.inr h
  clear hAe hD0
  have hS : va_S A s.heap s.heap [] := va_S.rf
  replace hP : va_P (dC, dI) vwCl [(a_m, .inr (5, [.int v_th, .ref a_sa, .int v_sz, .int v_at, .int v_wr, .ref a_ru, .ref a_me, .ref a_le, .int v_n, .ref a_cl, .ref a_te, .ref a_ki, .ref a_ty, .ref a_bl, .ref a_ex, .ref a_lo, .int v_nl, .ref a_ho, .ref a_fi, .int v_nf, .ref a_cz, .int v_nc])), (a_cz, .inl (k_cz, 1600, .inl f_cz))] s.heap := hP
  have hl := lv_entry ([.ref a_m, .int p0, .int p1]) (n := 3) (Nat.le_of_ble_eq_true rfl)
  rw [lg_entry_eq]
  generalize (lg_sl ([.ref a_m, .int p0, .int p1]) ++ List.replicate (3 - (lg_sl ([.ref a_m, .int p0, .int p1])).length) Slot.unset).toArray = ls at hl ⊢
  replace hl : lv_has ls 3 [(0, .ref a_m), (1, .int p0), (2, .int p1)] := hl
  obtain ⟨z, hz⟩ : ∃ z, z = g_Mg_clash p0 p1 v_nc f_cz := ⟨_, rfl⟩
  have hE := hz
  rw [g_Mg_clash] at hE
  refine lv_aload_n hx hb d_M_clash_0 rfl (lv_at hl 0 rfl) ?_
  refine lv_iconst (v := 0) hx hb d_M_clash_1 (by decide) ?_
  refine va_put (D := (dC, dI)) (ci := 5) (v := .int 0) (ty := .int) (C := "LoanRulesModel") (T := Fz_M) (N := 22) hx hb hts it_M tz_M tz_M_ok nz_M hown hK hP hD hS 0 rfl rfl 0 (by decide) (hts _ tw_601) (fun _ h9 => h9) rfl (by decide +kernel) rfl rfl (Nat.le_of_ble_eq_true rfl) d_M_clash_2 (fun H locs hP hD hS => ?_)
  replace hP : va_P (dC, dI) vwCl [(a_m, .inr (5, [.int 0, .ref a_sa, .int v_sz, .int v_at, .int v_wr, .ref a_ru, .ref a_me, .ref a_le, .int v_n, .ref a_cl, .ref a_te, .ref a_ki, .ref a_ty, .ref a_bl, .ref a_ex, .ref a_lo, .int v_nl, .ref a_ho, .ref a_fi, .int v_nf, .ref a_cz, .int v_nc])), (a_cz, .inl (k_cz, 1600, .inl f_cz))] H := hP
  replace hD : va_D A [(a_m, .inr (5, [.int 0, .ref a_sa, .int v_sz, .int v_at, .int v_wr, .ref a_ru, .ref a_me, .ref a_le, .int v_n, .ref a_cl, .ref a_te, .ref a_ki, .ref a_ty, .ref a_bl, .ref a_ex, .ref a_lo, .int v_nl, .ref a_ho, .ref a_fi, .int v_nf, .ref a_cz, .int v_nc])), (a_cz, .inl (k_cz, 1600, .inl f_cz))] := hD
  refine lv_iload_n hx hb d_M_clash_5 rfl (lv_at hl 1 rfl) ?_
  refine lv_if_lt (tgt := 26) hx hb d_M_clash_6 (by decide) (fun c_1 => ?_) (fun c_1 => ?_)
  · rw [if_pos c_1] at hE
    refine lv_iconst (v := (-1)) hx hb d_M_clash_26 (by decide) ?_
    refine lv_goto (tgt := 40) hx hb d_M_clash_27 (by decide) ?_
    have hP9 := hP.sub (ws' := [(a_m, .inr (5, [.int 0, .ref a_sa, .int v_sz, .int v_at, .int v_wr, .ref a_ru, .ref a_me, .ref a_le, .int v_n, .ref a_cl, .ref a_te, .ref a_ki, .ref a_ty, .ref a_bl, .ref a_ex, .ref a_lo, .int v_nl, .ref a_ho, .ref a_fi, .int v_nf, .ref a_cz, .int v_nc])), (a_cz, .inl (k_cz, 1600, .inl f_cz))]) [0, 1] rfl
    have hD9 := hD.sub (ws' := [(a_m, .inr (5, [.int 0, .ref a_sa, .int v_sz, .int v_at, .int v_wr, .ref a_ru, .ref a_me, .ref a_le, .int v_n, .ref a_cl, .ref a_te, .ref a_ki, .ref a_ty, .ref a_bl, .ref a_ex, .ref a_lo, .int v_nl, .ref a_ho, .ref a_fi, .int v_nf, .ref a_cz, .int v_nc])), (a_cz, .inl (k_cz, 1600, .inl f_cz))]) [0, 1] (by decide) rfl
    have hK9 := hK.sub (tys' := [(k_cz, .int)]) [0] rfl
    exact W.iret (v := (-1)) hx hb hr (fun t ht hW => ⟨⟨(-1), (), rfl, by rw [← hz, hE], by rw [ht, ← hz, hE]; exact hP9, va_K.moved hW.alike hK9, by rw [← hz, hE]; exact hD9⟩, hS.F ht⟩) hS.2.2 d_M_clash_40
  · rw [if_neg c_1] at hE
    refine lv_iload_n hx hb d_M_clash_9 rfl (lv_at hl 1 rfl) ?_
    refine lv_aload_n hx hb d_M_clash_10 rfl (lv_at hl 0 rfl) ?_
    refine va_get (D := (dC, dI)) (ci := 5) (v := .int v_nc) (C := "LoanRulesModel") (T := Fz_M) (N := 22) hx hb hts it_M hown hK hP 0 rfl rfl 21 (by decide) (hts _ tw_622) (fun _ h9 => h9) rfl d_M_clash_11 ?_
    refine lv_icmp_ge (tgt := 26) hx hb d_M_clash_14 (by decide) (fun c_2 => ?_) (fun c_2 => ?_)
    · rw [if_pos c_2] at hE
      refine lv_iconst (v := (-1)) hx hb d_M_clash_26 (by decide) ?_
      refine lv_goto (tgt := 40) hx hb d_M_clash_27 (by decide) ?_
      have hP9 := hP.sub (ws' := [(a_m, .inr (5, [.int 0, .ref a_sa, .int v_sz, .int v_at, .int v_wr, .ref a_ru, .ref a_me, .ref a_le, .int v_n, .ref a_cl, .ref a_te, .ref a_ki, .ref a_ty, .ref a_bl, .ref a_ex, .ref a_lo, .int v_nl, .ref a_ho, .ref a_fi, .int v_nf, .ref a_cz, .int v_nc])), (a_cz, .inl (k_cz, 1600, .inl f_cz))]) [0, 1] rfl
      have hD9 := hD.sub (ws' := [(a_m, .inr (5, [.int 0, .ref a_sa, .int v_sz, .int v_at, .int v_wr, .ref a_ru, .ref a_me, .ref a_le, .int v_n, .ref a_cl, .ref a_te, .ref a_ki, .ref a_ty, .ref a_bl, .ref a_ex, .ref a_lo, .int v_nl, .ref a_ho, .ref a_fi, .int v_nf, .ref a_cz, .int v_nc])), (a_cz, .inl (k_cz, 1600, .inl f_cz))]) [0, 1] (by decide) rfl
      have hK9 := hK.sub (tys' := [(k_cz, .int)]) [0] rfl
      exact W.iret (v := (-1)) hx hb hr (fun t ht hW => ⟨⟨(-1), (), rfl, by rw [← hz, hE], by rw [ht, ← hz, hE]; exact hP9, va_K.moved hW.alike hK9, by rw [← hz, hE]; exact hD9⟩, hS.F ht⟩) hS.2.2 d_M_clash_40
    · rw [if_neg c_2] at hE
      refine lv_iload_n hx hb d_M_clash_17 rfl (lv_at hl 2 rfl) ?_
      refine lv_if_lt (tgt := 26) hx hb d_M_clash_18 (by decide) (fun c_3 => ?_) (fun c_3 => ?_)
      · rw [if_pos c_3] at hE
        refine lv_iconst (v := (-1)) hx hb d_M_clash_26 (by decide) ?_
        refine lv_goto (tgt := 40) hx hb d_M_clash_27 (by decide) ?_
        have hP9 := hP.sub (ws' := [(a_m, .inr (5, [.int 0, .ref a_sa, .int v_sz, .int v_at, .int v_wr, .ref a_ru, .ref a_me, .ref a_le, .int v_n, .ref a_cl, .ref a_te, .ref a_ki, .ref a_ty, .ref a_bl, .ref a_ex, .ref a_lo, .int v_nl, .ref a_ho, .ref a_fi, .int v_nf, .ref a_cz, .int v_nc])), (a_cz, .inl (k_cz, 1600, .inl f_cz))]) [0, 1] rfl
        have hD9 := hD.sub (ws' := [(a_m, .inr (5, [.int 0, .ref a_sa, .int v_sz, .int v_at, .int v_wr, .ref a_ru, .ref a_me, .ref a_le, .int v_n, .ref a_cl, .ref a_te, .ref a_ki, .ref a_ty, .ref a_bl, .ref a_ex, .ref a_lo, .int v_nl, .ref a_ho, .ref a_fi, .int v_nf, .ref a_cz, .int v_nc])), (a_cz, .inl (k_cz, 1600, .inl f_cz))]) [0, 1] (by decide) rfl
        have hK9 := hK.sub (tys' := [(k_cz, .int)]) [0] rfl
        exact W.iret (v := (-1)) hx hb hr (fun t ht hW => ⟨⟨(-1), (), rfl, by rw [← hz, hE], by rw [ht, ← hz, hE]; exact hP9, va_K.moved hW.alike hK9, by rw [← hz, hE]; exact hD9⟩, hS.F ht⟩) hS.2.2 d_M_clash_40
      · rw [if_neg c_3] at hE
        refine lv_iload_n hx hb d_M_clash_21 rfl (lv_at hl 2 rfl) ?_
        refine lv_iconst (v := 1) hx hb d_M_clash_22 (by decide) ?_
        refine lv_icmp_le (tgt := 30) hx hb d_M_clash_23 (by decide) (fun c_4 => ?_) (fun c_4 => ?_)
        · rw [if_pos c_4] at hE
          refine lv_aload_n hx hb d_M_clash_30 rfl (lv_at hl 0 rfl) ?_
          refine va_get (D := (dC, dI)) (ci := 5) (v := .ref a_cz) (C := "LoanRulesModel") (T := Fz_M) (N := 22) hx hb hts it_M hown hK hP 0 rfl rfl 20 (by decide) (hts _ tw_621) (fun _ h9 => h9) rfl d_M_clash_31 ?_
          refine lv_iconst (v := 2) hx hb d_M_clash_34 (by decide) ?_
          refine lv_iload_n hx hb d_M_clash_35 rfl (lv_at hl 1 rfl) ?_
          refine lv_imul hx hb d_M_clash_36 ?_
          refine lv_iload_n hx hb d_M_clash_37 rfl (lv_at hl 2 rfl) ?_
          refine lv_iadd hx hb d_M_clash_38 ?_
          have i_5 : vp_in ((2 * p0) + p1) 1600 := ix2 (li_c2 c_1 c_2 hnc) (li_01 c_3 c_4)
          refine va_iald (D := (dC, dI)) hx hb hK hP 1 0 rfl rfl i_5 d_M_clash_39 ?_
          have hP9 := hP.sub (ws' := [(a_m, .inr (5, [.int 0, .ref a_sa, .int v_sz, .int v_at, .int v_wr, .ref a_ru, .ref a_me, .ref a_le, .int v_n, .ref a_cl, .ref a_te, .ref a_ki, .ref a_ty, .ref a_bl, .ref a_ex, .ref a_lo, .int v_nl, .ref a_ho, .ref a_fi, .int v_nf, .ref a_cz, .int v_nc])), (a_cz, .inl (k_cz, 1600, .inl f_cz))]) [0, 1] rfl
          have hD9 := hD.sub (ws' := [(a_m, .inr (5, [.int 0, .ref a_sa, .int v_sz, .int v_at, .int v_wr, .ref a_ru, .ref a_me, .ref a_le, .int v_n, .ref a_cl, .ref a_te, .ref a_ki, .ref a_ty, .ref a_bl, .ref a_ex, .ref a_lo, .int v_nl, .ref a_ho, .ref a_fi, .int v_nf, .ref a_cz, .int v_nc])), (a_cz, .inl (k_cz, 1600, .inl f_cz))]) [0, 1] (by decide) rfl
          have hK9 := hK.sub (tys' := [(k_cz, .int)]) [0] rfl
          exact W.iret (v := f_cz ((2 * p0) + p1).toNatClampNeg) hx hb hr (fun t ht hW => ⟨⟨f_cz ((2 * p0) + p1).toNatClampNeg, (), rfl, by rw [← hz, hE], by rw [ht, ← hz, hE]; exact hP9, va_K.moved hW.alike hK9, by rw [← hz, hE]; exact hD9⟩, hS.F ht⟩) hS.2.2 d_M_clash_40
        · rw [if_neg c_4] at hE
          refine lv_iconst (v := (-1)) hx hb d_M_clash_26 (by decide) ?_
          refine lv_goto (tgt := 40) hx hb d_M_clash_27 (by decide) ?_
          have hP9 := hP.sub (ws' := [(a_m, .inr (5, [.int 0, .ref a_sa, .int v_sz, .int v_at, .int v_wr, .ref a_ru, .ref a_me, .ref a_le, .int v_n, .ref a_cl, .ref a_te, .ref a_ki, .ref a_ty, .ref a_bl, .ref a_ex, .ref a_lo, .int v_nl, .ref a_ho, .ref a_fi, .int v_nf, .ref a_cz, .int v_nc])), (a_cz, .inl (k_cz, 1600, .inl f_cz))]) [0, 1] rfl
          have hD9 := hD.sub (ws' := [(a_m, .inr (5, [.int 0, .ref a_sa, .int v_sz, .int v_at, .int v_wr, .ref a_ru, .ref a_me, .ref a_le, .int v_n, .ref a_cl, .ref a_te, .ref a_ki, .ref a_ty, .ref a_bl, .ref a_ex, .ref a_lo, .int v_nl, .ref a_ho, .ref a_fi, .int v_nf, .ref a_cz, .int v_nc])), (a_cz, .inl (k_cz, 1600, .inl f_cz))]) [0, 1] (by decide) rfl
          have hK9 := hK.sub (tys' := [(k_cz, .int)]) [0] rfl
          exact W.iret (v := (-1)) hx hb hr (fun t ht hW => ⟨⟨(-1), (), rfl, by rw [← hz, hE], by rw [ht, ← hz, hE]; exact hP9, va_K.moved hW.alike hK9, by rw [← hz, hE]; exact hD9⟩, hS.F ht⟩) hS.2.2 d_M_clash_40
def g_Mg_isOut (p0 : Int32) (v_nl : Int32) (f_lo : Nat → Int32) : Int32 :=
  if p0 ≤ 0 then
    0
  else
    if v_nl < p0 then
      0
    else
      if 0 ≤ (f_lo ((7 * p0) + 6).toNatClampNeg) then
        0
      else
        1
set_option maxHeartbeats 4000000 in
set_option maxRecDepth 100000 in
theorem c_Mg_isOut (l : Launch) (dC : Nat → ClassId) (dI : Nat → Nat → Nat) (adK adV : Nat → Nat) (a_m : Nat) (a_lo : Nat) (k_lo : ClassId) (p0 : Int32) (v_th : Int32) (a_sa : Nat) (v_sz : Int32) (v_at : Int32) (v_wr : Int32) (a_ru : Nat) (a_me : Nat) (a_le : Nat) (v_n : Int32) (a_cl : Nat) (a_te : Nat) (a_ki : Nat) (a_ty : Nat) (a_bl : Nat) (a_ex : Nat) (v_nl : Int32) (a_ho : Nat) (a_fi : Nat) (v_nf : Int32) (a_cz : Nat) (v_nc : Int32) (f_lo : Nat → Int32) (hnl : 0 ≤ v_nl.toInt ∧ v_nl.toInt ≤ 200) : Met l y_M_isOut ws_M_isOut ({ frames := 0, cells := 0, slots := 0, locals := 0 }) (va_Pc [.ref a_m, .int p0] (fun U => zz adK adV (fun _ => False) U ∧ va_P (dC, dI) vwCl [(a_m, .inr (5, [.int v_th, .ref a_sa, .int v_sz, .int v_at, .int v_wr, .ref a_ru, .ref a_me, .ref a_le, .int v_n, .ref a_cl, .ref a_te, .ref a_ki, .ref a_ty, .ref a_bl, .ref a_ex, .ref a_lo, .int v_nl, .ref a_ho, .ref a_fi, .int v_nf, .ref a_cz, .int v_nc])), (a_lo, .inl (k_lo, 1407, .inl f_lo))] U.heap ∧ va_K (dC, dI) vwCl [(k_lo, .int)] U)) (vp_Si (fun r => r = g_Mg_isOut p0 v_nl f_lo)) 0 0 (fun _ => False) := by
  refine Met.ofW (cc := c_M_isOut) (maxL := 2) (ret := (some .boolean)) (by decide) rfl ?_
  intro p e s m args below meth c s₁ B hml hv
  obtain ⟨rfl, hZ, hP, hK⟩ := hv
  have hx := B.exec
  have hb := B.bytes
  have hr := B.returns
  have hts0 := atoms_spec (ws := ws_M_isOut) B.pre
  have hts : ∀ w ∈ TT, w.before _ s = true := fun w h => hts0 w (List.mem_cons_of_mem _ h)
  have hown : s.vm.findClass "LoanRulesModel" = some m.cls := findClass_of_methodNamed B.named
  have hlocks := B.notSynchronized
  have hS : va_S (fun _ => False) s.heap s.heap [] := va_S.rf
  replace hP : va_P (dC, dI) vwCl [(a_m, .inr (5, [.int v_th, .ref a_sa, .int v_sz, .int v_at, .int v_wr, .ref a_ru, .ref a_me, .ref a_le, .int v_n, .ref a_cl, .ref a_te, .ref a_ki, .ref a_ty, .ref a_bl, .ref a_ex, .ref a_lo, .int v_nl, .ref a_ho, .ref a_fi, .int v_nf, .ref a_cz, .int v_nc])), (a_lo, .inl (k_lo, 1407, .inl f_lo))] s.heap := hP
  have hl := lv_entry ([.ref a_m, .int p0]) (n := 2) (Nat.le_of_ble_eq_true rfl)
  rw [lg_entry_eq]
  generalize (lg_sl ([.ref a_m, .int p0]) ++ List.replicate (2 - (lg_sl ([.ref a_m, .int p0])).length) Slot.unset).toArray = ls at hl ⊢
  replace hl : lv_has ls 2 [(0, .ref a_m), (1, .int p0)] := hl
  obtain ⟨z, hz⟩ : ∃ z, z = g_Mg_isOut p0 v_nl f_lo := ⟨_, rfl⟩
  have hE := hz
  rw [g_Mg_isOut] at hE
  refine lv_iload_n hx hb d_M_isOut_0 rfl (lv_at hl 1 rfl) ?_
  refine lv_if_le (tgt := 31) hx hb d_M_isOut_1 (by decide) (fun c_1 => ?_) (fun c_1 => ?_)
  · rw [if_pos c_1] at hE
    refine lv_iconst (v := 0) hx hb d_M_isOut_31 (by decide) ?_
    exact W.zret (v := 0) hx hb hr rfl (fun t ht hW => ⟨0, rfl, hE.symm.trans hz, ht⟩) (fun _ h => by cases h) d_M_isOut_32
  · rw [if_neg c_1] at hE
    refine lv_iload_n hx hb d_M_isOut_4 rfl (lv_at hl 1 rfl) ?_
    refine lv_aload_n hx hb d_M_isOut_5 rfl (lv_at hl 0 rfl) ?_
    refine va_get (D := (dC, dI)) (ci := 5) (v := .int v_nl) (C := "LoanRulesModel") (T := Fz_M) (N := 22) hx hb hts it_M hown hK hP 0 rfl rfl 16 (by decide) (hts _ tw_617) (fun _ h9 => h9) rfl d_M_isOut_6 ?_
    refine lv_icmp_gt (tgt := 31) hx hb d_M_isOut_9 (by decide) (fun c_2 => ?_) (fun c_2 => ?_)
    · rw [if_pos c_2] at hE
      refine lv_iconst (v := 0) hx hb d_M_isOut_31 (by decide) ?_
      exact W.zret (v := 0) hx hb hr rfl (fun t ht hW => ⟨0, rfl, hE.symm.trans hz, ht⟩) (fun _ h => by cases h) d_M_isOut_32
    · rw [if_neg c_2] at hE
      refine lv_aload_n hx hb d_M_isOut_12 rfl (lv_at hl 0 rfl) ?_
      refine va_get (D := (dC, dI)) (ci := 5) (v := .ref a_lo) (C := "LoanRulesModel") (T := Fz_M) (N := 22) hx hb hts it_M hown hK hP 0 rfl rfl 15 (by decide) (hts _ tw_616) (fun _ h9 => h9) rfl d_M_isOut_13 ?_
      refine lv_bipush (v := 7) hx hb d_M_isOut_16 (by decide) ?_
      refine lv_iload_n hx hb d_M_isOut_18 rfl (lv_at hl 1 rfl) ?_
      refine lv_imul hx hb d_M_isOut_19 ?_
      refine lv_bipush (v := 6) hx hb d_M_isOut_20 (by decide) ?_
      refine lv_iadd hx hb d_M_isOut_22 ?_
      have i_3 : vp_in ((7 * p0) + 6) 1407 := ix7 (li_nl c_1 c_2 hnl) (by decide)
      refine va_iald (D := (dC, dI)) hx hb hK hP 1 0 rfl rfl i_3 d_M_isOut_23 ?_
      refine lv_if_ge (tgt := 31) hx hb d_M_isOut_24 (by decide) (fun c_4 => ?_) (fun c_4 => ?_)
      · rw [if_pos c_4] at hE
        refine lv_iconst (v := 0) hx hb d_M_isOut_31 (by decide) ?_
        exact W.zret (v := 0) hx hb hr rfl (fun t ht hW => ⟨0, rfl, hE.symm.trans hz, ht⟩) (fun _ h => by cases h) d_M_isOut_32
      · rw [if_neg c_4] at hE
        refine lv_iconst (v := 1) hx hb d_M_isOut_27 (by decide) ?_
        refine lv_goto (tgt := 32) hx hb d_M_isOut_28 (by decide) ?_
        exact W.zret (v := 1) hx hb hr rfl (fun t ht hW => ⟨1, rfl, hE.symm.trans hz, ht⟩) (fun _ h => by cases h) d_M_isOut_32
theorem outM {x nl : Int32} {f : Nat → Int32} (c : ¬ g_Mg_isOut x nl f = 0) (h : 0 ≤ nl.toInt ∧ nl.toInt ≤ 200) : (0 < x.toInt ∧ x.toInt ≤ 200) ∧ x.toInt ≤ nl.toInt ∧ (f ((7 * x) + 6).toNatClampNeg).toInt < 0 := by
  unfold g_Mg_isOut at c
  split at c
  · exact absurd rfl c
  · rename_i h1
    split at c
    · exact absurd rfl c
    · rename_i h2
      split at c
      · exact absurd rfl c
      · rename_i h3
        rw [li_le, li_0] at h3
        refine ⟨li_nl h1 h2 h, ?_, by omega⟩
        rw [li_lt] at h2; omega
def g_Mg_due (p0 : Int32) (v_nl : Int32) (f_lo : Nat → Int32) : Int32 × Int32 :=
  if (g_Mg_isOut p0 v_nl f_lo) = 0 then
    ((-1), 0)
  else
    (f_lo ((7 * p0) + 2).toNatClampNeg, 0)
set_option maxHeartbeats 4000000 in
set_option maxRecDepth 100000 in
theorem c_Mg_due (l : Launch) (dC : Nat → ClassId) (dI : Nat → Nat → Nat) (adK adV : Nat → Nat) (a_m : Nat) (a_lo : Nat) (k_lo : ClassId) (p0 : Int32) (v_th : Int32) (a_sa : Nat) (v_sz : Int32) (v_at : Int32) (v_wr : Int32) (a_ru : Nat) (a_me : Nat) (a_le : Nat) (v_n : Int32) (a_cl : Nat) (a_te : Nat) (a_ki : Nat) (a_ty : Nat) (a_bl : Nat) (a_ex : Nat) (v_nl : Int32) (a_ho : Nat) (a_fi : Nat) (v_nf : Int32) (a_cz : Nat) (v_nc : Int32) (f_lo : Nat → Int32) (sz : Nat) (hnl : 0 ≤ v_nl.toInt ∧ v_nl.toInt ≤ 200) : Met l y_M_due ws_M_due ({ frames := 1, cells := 0, slots := 0, locals := 21 }) (va_Pc [.ref a_m, .int p0] (fun U => U.heap.size = sz ∧ zz adK adV (va_A [(a_m, .inr (5, [.int v_th, .ref a_sa, .int v_sz, .int v_at, .int v_wr, .ref a_ru, .ref a_me, .ref a_le, .int v_n, .ref a_cl, .ref a_te, .ref a_ki, .ref a_ty, .ref a_bl, .ref a_ex, .ref a_lo, .int v_nl, .ref a_ho, .ref a_fi, .int v_nf, .ref a_cz, .int v_nc])), (a_lo, .inl (k_lo, 1407, .inl f_lo))] sz) U ∧ va_P (dC, dI) vwCl [(a_m, .inr (5, [.int v_th, .ref a_sa, .int v_sz, .int v_at, .int v_wr, .ref a_ru, .ref a_me, .ref a_le, .int v_n, .ref a_cl, .ref a_te, .ref a_ki, .ref a_ty, .ref a_bl, .ref a_ex, .ref a_lo, .int v_nl, .ref a_ho, .ref a_fi, .int v_nf, .ref a_cz, .int v_nc])), (a_lo, .inl (k_lo, 1407, .inl f_lo))] U.heap ∧ va_K (dC, dI) vwCl [(k_lo, .int)] U ∧ va_D (fun _ => True) [(a_m, .inr (5, [.int v_th, .ref a_sa, .int v_sz, .int v_at, .int v_wr, .ref a_ru, .ref a_me, .ref a_le, .int v_n, .ref a_cl, .ref a_te, .ref a_ki, .ref a_ty, .ref a_bl, .ref a_ex, .ref a_lo, .int v_nl, .ref a_ho, .ref a_fi, .int v_nf, .ref a_cz, .int v_nc])), (a_lo, .inl (k_lo, 1407, .inl f_lo))])) (va_Qi (fun (r : Int32) (_ : Unit) => r = (g_Mg_due p0 v_nl f_lo).1) (fun (_ : Unit) (t : State) => va_P (dC, dI) vwCl [(a_m, .inr (5, [.int ((g_Mg_due p0 v_nl f_lo).2), .ref a_sa, .int v_sz, .int v_at, .int v_wr, .ref a_ru, .ref a_me, .ref a_le, .int v_n, .ref a_cl, .ref a_te, .ref a_ki, .ref a_ty, .ref a_bl, .ref a_ex, .ref a_lo, .int v_nl, .ref a_ho, .ref a_fi, .int v_nf, .ref a_cz, .int v_nc])), (a_lo, .inl (k_lo, 1407, .inl f_lo))] t.heap ∧ va_K (dC, dI) vwCl [(k_lo, .int)] t ∧ va_D (va_A [(a_m, .inr (5, [.int v_th, .ref a_sa, .int v_sz, .int v_at, .int v_wr, .ref a_ru, .ref a_me, .ref a_le, .int v_n, .ref a_cl, .ref a_te, .ref a_ki, .ref a_ty, .ref a_bl, .ref a_ex, .ref a_lo, .int v_nl, .ref a_ho, .ref a_fi, .int v_nf, .ref a_cz, .int v_nc])), (a_lo, .inl (k_lo, 1407, .inl f_lo))] sz) [(a_m, .inr (5, [.int ((g_Mg_due p0 v_nl f_lo).2), .ref a_sa, .int v_sz, .int v_at, .int v_wr, .ref a_ru, .ref a_me, .ref a_le, .int v_n, .ref a_cl, .ref a_te, .ref a_ki, .ref a_ty, .ref a_bl, .ref a_ex, .ref a_lo, .int v_nl, .ref a_ho, .ref a_fi, .int v_nf, .ref a_cz, .int v_nc])), (a_lo, .inl (k_lo, 1407, .inl f_lo))]) (va_A [(a_m, .inr (5, [.int v_th, .ref a_sa, .int v_sz, .int v_at, .int v_wr, .ref a_ru, .ref a_me, .ref a_le, .int v_n, .ref a_cl, .ref a_te, .ref a_ki, .ref a_ty, .ref a_bl, .ref a_ex, .ref a_lo, .int v_nl, .ref a_ho, .ref a_fi, .int v_nf, .ref a_cz, .int v_nc])), (a_lo, .inl (k_lo, 1407, .inl f_lo))] sz)) 0 0 (va_A [(a_m, .inr (5, [.int v_th, .ref a_sa, .int v_sz, .int v_at, .int v_wr, .ref a_ru, .ref a_me, .ref a_le, .int v_n, .ref a_cl, .ref a_te, .ref a_ki, .ref a_ty, .ref a_bl, .ref a_ex, .ref a_lo, .int v_nl, .ref a_ho, .ref a_fi, .int v_nf, .ref a_cz, .int v_nc])), (a_lo, .inl (k_lo, 1407, .inl f_lo))] sz) := by
  refine Met.ofW (cc := c_M_due) (maxL := 2) (ret := (some .int)) (by decide) rfl ?_
  intro p e s m args below meth c s₁ B hml hv
  obtain ⟨rfl, hsz, hZ, hP, hK, hD0⟩ := hv
  have hx := B.exec
  have hb := B.bytes
  have hr := B.returns
  have hts0 := atoms_spec (ws := ws_M_due) B.pre
  have hts : ∀ w ∈ TT, w.before _ s = true := fun w h => hts0 w (List.mem_cons_of_mem _ h)
  have hown : s.vm.findClass "LoanRulesModel" = some m.cls := findClass_of_methodNamed B.named
  have hlocks := B.notSynchronized
  subst hsz
  have hD := hD0.self (sz := s.heap.size)
  generalize hAe : va_A [(a_m, .inr (5, [.int v_th, .ref a_sa, .int v_sz, .int v_at, .int v_wr, .ref a_ru, .ref a_me, .ref a_le, .int v_n, .ref a_cl, .ref a_te, .ref a_ki, .ref a_ty, .ref a_bl, .ref a_ex, .ref a_lo, .int v_nl, .ref a_ho, .ref a_fi, .int v_nf, .ref a_cz, .int v_nc])), (a_lo, .inl (k_lo, 1407, .inl f_lo))] s.heap.size = A at hD hZ ⊢
  have hA : ∀ q : Nat, s.heap.size ≤ q → A q := fun q h => by rw [← hAe]; exact Or.inr h
  clear hAe hD0
  have hS : va_S A s.heap s.heap [] := va_S.rf
  replace hP : va_P (dC, dI) vwCl [(a_m, .inr (5, [.int v_th, .ref a_sa, .int v_sz, .int v_at, .int v_wr, .ref a_ru, .ref a_me, .ref a_le, .int v_n, .ref a_cl, .ref a_te, .ref a_ki, .ref a_ty, .ref a_bl, .ref a_ex, .ref a_lo, .int v_nl, .ref a_ho, .ref a_fi, .int v_nf, .ref a_cz, .int v_nc])), (a_lo, .inl (k_lo, 1407, .inl f_lo))] s.heap := hP
  have hl := lv_entry ([.ref a_m, .int p0]) (n := 2) (Nat.le_of_ble_eq_true rfl)
  rw [lg_entry_eq]
  generalize (lg_sl ([.ref a_m, .int p0]) ++ List.replicate (2 - (lg_sl ([.ref a_m, .int p0])).length) Slot.unset).toArray = ls at hl ⊢
  replace hl : lv_has ls 2 [(0, .ref a_m), (1, .int p0)] := hl
  obtain ⟨z, hz⟩ : ∃ z, z = g_Mg_due p0 v_nl f_lo := ⟨_, rfl⟩
  have hE := hz
  rw [g_Mg_due] at hE
  refine lv_aload_n hx hb d_M_due_0 rfl (lv_at hl 0 rfl) ?_
  refine lv_iconst (v := 0) hx hb d_M_due_1 (by decide) ?_
  refine va_put (D := (dC, dI)) (ci := 5) (v := .int 0) (ty := .int) (C := "LoanRulesModel") (T := Fz_M) (N := 22) hx hb hts it_M tz_M tz_M_ok nz_M hown hK hP hD hS 0 rfl rfl 0 (by decide) (hts _ tw_601) (fun _ h9 => h9) rfl (by decide +kernel) rfl rfl (Nat.le_of_ble_eq_true rfl) d_M_due_2 (fun H locs hP hD hS => ?_)
  replace hP : va_P (dC, dI) vwCl [(a_m, .inr (5, [.int 0, .ref a_sa, .int v_sz, .int v_at, .int v_wr, .ref a_ru, .ref a_me, .ref a_le, .int v_n, .ref a_cl, .ref a_te, .ref a_ki, .ref a_ty, .ref a_bl, .ref a_ex, .ref a_lo, .int v_nl, .ref a_ho, .ref a_fi, .int v_nf, .ref a_cz, .int v_nc])), (a_lo, .inl (k_lo, 1407, .inl f_lo))] H := hP
  replace hD : va_D A [(a_m, .inr (5, [.int 0, .ref a_sa, .int v_sz, .int v_at, .int v_wr, .ref a_ru, .ref a_me, .ref a_le, .int v_n, .ref a_cl, .ref a_te, .ref a_ki, .ref a_ty, .ref a_bl, .ref a_ex, .ref a_lo, .int v_nl, .ref a_ho, .ref a_fi, .int v_nf, .ref a_cz, .int v_nc])), (a_lo, .inl (k_lo, 1407, .inl f_lo))] := hD
  refine lv_aload_n hx hb d_M_due_5 rfl (lv_at hl 0 rfl) ?_
  refine lv_iload_n hx hb d_M_due_6 rfl (lv_at hl 1 rfl) ?_
  have hPc := hP.sub (ws' := [(a_m, .inr (5, [.int 0, .ref a_sa, .int v_sz, .int v_at, .int v_wr, .ref a_ru, .ref a_me, .ref a_le, .int v_n, .ref a_cl, .ref a_te, .ref a_ki, .ref a_ty, .ref a_bl, .ref a_ex, .ref a_lo, .int v_nl, .ref a_ho, .ref a_fi, .int v_nf, .ref a_cz, .int v_nc])), (a_lo, .inl (k_lo, 1407, .inl f_lo))]) [0, 1] rfl
  have hKc := hK.sub (tys' := [(k_lo, .int)]) [0] rfl
  refine vp_callSi (va_Run.run (va_runV (As := [.int p0]) (rest := []) ⟨hx, hb, hml, hown, hts⟩ (c_Mg_isOut l dC dI adK adV (a_m := a_m) (p0 := p0) (v_th := 0) (a_sa := a_sa) (v_sz := v_sz) (v_at := v_at) (v_wr := v_wr) (a_ru := a_ru) (a_me := a_me) (a_le := a_le) (v_n := v_n) (a_cl := a_cl) (a_te := a_te) (a_ki := a_ki) (a_ty := a_ty) (a_bl := a_bl) (a_ex := a_ex) (a_lo := a_lo) (v_nl := v_nl) (a_ho := a_ho) (a_fi := a_fi) (v_nf := v_nf) (a_cz := a_cz) (v_nc := v_nc) (k_lo := k_lo) (f_lo := f_lo) hnl) (cwV 1 hts (gV tw_794 tw_796 tw_40 tw_46 tw_797) rfl rfl rfl (by decide +kernel) ⟨(Nat.le_of_ble_eq_true rfl), (Nat.le_of_ble_eq_true rfl)⟩) ⟨fun a U g mk q => by obtain ⟨q0, qZ, qP, qK⟩ := q; exact ⟨q0, zz_call qZ, qP, va_K.moved (u := U) (U := U.calling g mk a) (Vm.Alike.refl U.vm) qK⟩, va_recv hKc hPc (ci := 5) (q0 := 0) rfl rfl, fun U hU hW => ⟨rfl, zz_ro hS hU hW hZ, by rw [hU]; exact hPc, va_K.moved hW.alike hKc⟩⟩ rfl rfl hl.1 rfl (lv_room (Nat.le_of_ble_eq_true rfl)) d_M_due_7 ⟨(Nat.le_of_ble_eq_true rfl), (Nat.le_of_ble_eq_true rfl)⟩)) (fun r_1 hw_2 => ?_)
  clear hPc hKc
  subst hw_2
  refine lv_if_eq (tgt := 27) hx hb d_M_due_10 (by decide) (fun c_3 => ?_) (fun c_3 => ?_)
  · rw [if_pos c_3] at hE
    refine lv_iconst (v := (-1)) hx hb d_M_due_27 (by decide) ?_
    have hP9 := hP.sub (ws' := [(a_m, .inr (5, [.int 0, .ref a_sa, .int v_sz, .int v_at, .int v_wr, .ref a_ru, .ref a_me, .ref a_le, .int v_n, .ref a_cl, .ref a_te, .ref a_ki, .ref a_ty, .ref a_bl, .ref a_ex, .ref a_lo, .int v_nl, .ref a_ho, .ref a_fi, .int v_nf, .ref a_cz, .int v_nc])), (a_lo, .inl (k_lo, 1407, .inl f_lo))]) [0, 1] rfl
    have hD9 := hD.sub (ws' := [(a_m, .inr (5, [.int 0, .ref a_sa, .int v_sz, .int v_at, .int v_wr, .ref a_ru, .ref a_me, .ref a_le, .int v_n, .ref a_cl, .ref a_te, .ref a_ki, .ref a_ty, .ref a_bl, .ref a_ex, .ref a_lo, .int v_nl, .ref a_ho, .ref a_fi, .int v_nf, .ref a_cz, .int v_nc])), (a_lo, .inl (k_lo, 1407, .inl f_lo))]) [0, 1] (by decide) rfl
    have hK9 := hK.sub (tys' := [(k_lo, .int)]) [0] rfl
    exact W.iret (v := (-1)) hx hb hr (fun t ht hW => ⟨⟨(-1), (), rfl, by rw [← hz, hE], by rw [ht, ← hz, hE]; exact hP9, va_K.moved hW.alike hK9, by rw [← hz, hE]; exact hD9⟩, hS.F ht⟩) hS.2.2 d_M_due_28
  · rw [if_neg c_3] at hE
    refine lv_aload_n hx hb d_M_due_13 rfl (lv_at hl 0 rfl) ?_
    refine va_get (D := (dC, dI)) (ci := 5) (v := .ref a_lo) (C := "LoanRulesModel") (T := Fz_M) (N := 22) hx hb hts it_M hown hK hP 0 rfl rfl 15 (by decide) (hts _ tw_616) (fun _ h9 => h9) rfl d_M_due_14 ?_
    refine lv_bipush (v := 7) hx hb d_M_due_17 (by decide) ?_
    refine lv_iload_n hx hb d_M_due_19 rfl (lv_at hl 1 rfl) ?_
    refine lv_imul hx hb d_M_due_20 ?_
    refine lv_iconst (v := 2) hx hb d_M_due_21 (by decide) ?_
    refine lv_iadd hx hb d_M_due_22 ?_
    have i_4 : vp_in ((7 * p0) + 2) 1407 := ix7 (outM c_3 hnl).1 (by decide)
    refine va_iald (D := (dC, dI)) hx hb hK hP 1 0 rfl rfl i_4 d_M_due_23 ?_
    refine lv_goto (tgt := 28) hx hb d_M_due_24 (by decide) ?_
    have hP9 := hP.sub (ws' := [(a_m, .inr (5, [.int 0, .ref a_sa, .int v_sz, .int v_at, .int v_wr, .ref a_ru, .ref a_me, .ref a_le, .int v_n, .ref a_cl, .ref a_te, .ref a_ki, .ref a_ty, .ref a_bl, .ref a_ex, .ref a_lo, .int v_nl, .ref a_ho, .ref a_fi, .int v_nf, .ref a_cz, .int v_nc])), (a_lo, .inl (k_lo, 1407, .inl f_lo))]) [0, 1] rfl
    have hD9 := hD.sub (ws' := [(a_m, .inr (5, [.int 0, .ref a_sa, .int v_sz, .int v_at, .int v_wr, .ref a_ru, .ref a_me, .ref a_le, .int v_n, .ref a_cl, .ref a_te, .ref a_ki, .ref a_ty, .ref a_bl, .ref a_ex, .ref a_lo, .int v_nl, .ref a_ho, .ref a_fi, .int v_nf, .ref a_cz, .int v_nc])), (a_lo, .inl (k_lo, 1407, .inl f_lo))]) [0, 1] (by decide) rfl
    have hK9 := hK.sub (tys' := [(k_lo, .int)]) [0] rfl
    exact W.iret (v := f_lo ((7 * p0) + 2).toNatClampNeg) hx hb hr (fun t ht hW => ⟨⟨f_lo ((7 * p0) + 2).toNatClampNeg, (), rfl, by rw [← hz, hE], by rw [ht, ← hz, hE]; exact hP9, va_K.moved hW.alike hK9, by rw [← hz, hE]; exact hD9⟩, hS.F ht⟩) hS.2.2 d_M_due_28
def g_Mg_back (p0 : Int32) (v_nl : Int32) (f_lo : Nat → Int32) (f_ho : Nat → Int32) : Int32 × Int32 × (Nat → Int32) × (Nat → Int32) :=
  if (g_Mg_isOut p0 v_nl f_lo) = 0 then
    (0, 0, f_lo, f_ho)
  else
    (1, 0, upd f_lo ((7 * p0) + 6).toNatClampNeg 0, upd f_ho ((upd f_lo ((7 * p0) + 6).toNatClampNeg 0) (7 * p0).toNatClampNeg).toNatClampNeg 0)
set_option maxHeartbeats 4000000 in
set_option maxRecDepth 100000 in
theorem c_Mg_back (l : Launch) (dC : Nat → ClassId) (dI : Nat → Nat → Nat) (adK adV : Nat → Nat) (a_m : Nat) (a_lo : Nat) (a_ho : Nat) (k_lo : ClassId) (k_ho : ClassId) (p0 : Int32) (v_th : Int32) (a_sa : Nat) (v_sz : Int32) (v_at : Int32) (v_wr : Int32) (a_ru : Nat) (a_me : Nat) (a_le : Nat) (v_n : Int32) (a_cl : Nat) (a_te : Nat) (a_ki : Nat) (a_ty : Nat) (a_bl : Nat) (a_ex : Nat) (v_nl : Int32) (a_fi : Nat) (v_nf : Int32) (a_cz : Nat) (v_nc : Int32) (f_lo : Nat → Int32) (f_ho : Nat → Int32) (sz : Nat) (hnl : 0 ≤ v_nl.toInt ∧ v_nl.toInt ≤ 200) (hl0 : ∀ x : Int32, 0 < x.toInt → x.toInt ≤ v_nl.toInt → 0 ≤ (f_lo (7 * x).toNatClampNeg).toInt ∧ (f_lo (7 * x).toNatClampNeg).toInt < 50) : Met l y_M_back ws_M_back ({ frames := 1, cells := 0, slots := 0, locals := 21 }) (va_Pc [.ref a_m, .int p0] (fun U => U.heap.size = sz ∧ zz adK adV (va_A [(a_m, .inr (5, [.int v_th, .ref a_sa, .int v_sz, .int v_at, .int v_wr, .ref a_ru, .ref a_me, .ref a_le, .int v_n, .ref a_cl, .ref a_te, .ref a_ki, .ref a_ty, .ref a_bl, .ref a_ex, .ref a_lo, .int v_nl, .ref a_ho, .ref a_fi, .int v_nf, .ref a_cz, .int v_nc])), (a_lo, .inl (k_lo, 1407, .inl f_lo)), (a_ho, .inl (k_ho, 50, .inl f_ho))] sz) U ∧ va_P (dC, dI) vwCl [(a_m, .inr (5, [.int v_th, .ref a_sa, .int v_sz, .int v_at, .int v_wr, .ref a_ru, .ref a_me, .ref a_le, .int v_n, .ref a_cl, .ref a_te, .ref a_ki, .ref a_ty, .ref a_bl, .ref a_ex, .ref a_lo, .int v_nl, .ref a_ho, .ref a_fi, .int v_nf, .ref a_cz, .int v_nc])), (a_lo, .inl (k_lo, 1407, .inl f_lo)), (a_ho, .inl (k_ho, 50, .inl f_ho))] U.heap ∧ va_K (dC, dI) vwCl [(k_lo, .int), (k_ho, .int)] U ∧ va_D (fun _ => True) [(a_m, .inr (5, [.int v_th, .ref a_sa, .int v_sz, .int v_at, .int v_wr, .ref a_ru, .ref a_me, .ref a_le, .int v_n, .ref a_cl, .ref a_te, .ref a_ki, .ref a_ty, .ref a_bl, .ref a_ex, .ref a_lo, .int v_nl, .ref a_ho, .ref a_fi, .int v_nf, .ref a_cz, .int v_nc])), (a_lo, .inl (k_lo, 1407, .inl f_lo)), (a_ho, .inl (k_ho, 50, .inl f_ho))])) (va_Qi (fun (r : Int32) (_ : Unit) => r = (g_Mg_back p0 v_nl f_lo f_ho).1) (fun (_ : Unit) (t : State) => va_P (dC, dI) vwCl [(a_m, .inr (5, [.int ((g_Mg_back p0 v_nl f_lo f_ho).2.1), .ref a_sa, .int v_sz, .int v_at, .int v_wr, .ref a_ru, .ref a_me, .ref a_le, .int v_n, .ref a_cl, .ref a_te, .ref a_ki, .ref a_ty, .ref a_bl, .ref a_ex, .ref a_lo, .int v_nl, .ref a_ho, .ref a_fi, .int v_nf, .ref a_cz, .int v_nc])), (a_lo, .inl (k_lo, 1407, .inl ((g_Mg_back p0 v_nl f_lo f_ho).2.2.1))), (a_ho, .inl (k_ho, 50, .inl ((g_Mg_back p0 v_nl f_lo f_ho).2.2.2)))] t.heap ∧ va_K (dC, dI) vwCl [(k_lo, .int), (k_ho, .int)] t ∧ va_D (va_A [(a_m, .inr (5, [.int v_th, .ref a_sa, .int v_sz, .int v_at, .int v_wr, .ref a_ru, .ref a_me, .ref a_le, .int v_n, .ref a_cl, .ref a_te, .ref a_ki, .ref a_ty, .ref a_bl, .ref a_ex, .ref a_lo, .int v_nl, .ref a_ho, .ref a_fi, .int v_nf, .ref a_cz, .int v_nc])), (a_lo, .inl (k_lo, 1407, .inl f_lo)), (a_ho, .inl (k_ho, 50, .inl f_ho))] sz) [(a_m, .inr (5, [.int ((g_Mg_back p0 v_nl f_lo f_ho).2.1), .ref a_sa, .int v_sz, .int v_at, .int v_wr, .ref a_ru, .ref a_me, .ref a_le, .int v_n, .ref a_cl, .ref a_te, .ref a_ki, .ref a_ty, .ref a_bl, .ref a_ex, .ref a_lo, .int v_nl, .ref a_ho, .ref a_fi, .int v_nf, .ref a_cz, .int v_nc])), (a_lo, .inl (k_lo, 1407, .inl ((g_Mg_back p0 v_nl f_lo f_ho).2.2.1))), (a_ho, .inl (k_ho, 50, .inl ((g_Mg_back p0 v_nl f_lo f_ho).2.2.2)))]) (va_A [(a_m, .inr (5, [.int v_th, .ref a_sa, .int v_sz, .int v_at, .int v_wr, .ref a_ru, .ref a_me, .ref a_le, .int v_n, .ref a_cl, .ref a_te, .ref a_ki, .ref a_ty, .ref a_bl, .ref a_ex, .ref a_lo, .int v_nl, .ref a_ho, .ref a_fi, .int v_nf, .ref a_cz, .int v_nc])), (a_lo, .inl (k_lo, 1407, .inl f_lo)), (a_ho, .inl (k_ho, 50, .inl f_ho))] sz)) 0 0 (va_A [(a_m, .inr (5, [.int v_th, .ref a_sa, .int v_sz, .int v_at, .int v_wr, .ref a_ru, .ref a_me, .ref a_le, .int v_n, .ref a_cl, .ref a_te, .ref a_ki, .ref a_ty, .ref a_bl, .ref a_ex, .ref a_lo, .int v_nl, .ref a_ho, .ref a_fi, .int v_nf, .ref a_cz, .int v_nc])), (a_lo, .inl (k_lo, 1407, .inl f_lo)), (a_ho, .inl (k_ho, 50, .inl f_ho))] sz) := by
  refine Met.ofW (cc := c_M_back) (maxL := 2) (ret := (some .int)) (by decide) rfl ?_
  intro p e s m args below meth c s₁ B hml hv
  obtain ⟨rfl, hsz, hZ, hP, hK, hD0⟩ := hv
  have hx := B.exec
  have hb := B.bytes
  have hr := B.returns
  have hts0 := atoms_spec (ws := ws_M_back) B.pre
  have hts : ∀ w ∈ TT, w.before _ s = true := fun w h => hts0 w (List.mem_cons_of_mem _ h)
  have hown : s.vm.findClass "LoanRulesModel" = some m.cls := findClass_of_methodNamed B.named
  have hlocks := B.notSynchronized
  subst hsz
  have hD := hD0.self (sz := s.heap.size)
  generalize hAe : va_A [(a_m, .inr (5, [.int v_th, .ref a_sa, .int v_sz, .int v_at, .int v_wr, .ref a_ru, .ref a_me, .ref a_le, .int v_n, .ref a_cl, .ref a_te, .ref a_ki, .ref a_ty, .ref a_bl, .ref a_ex, .ref a_lo, .int v_nl, .ref a_ho, .ref a_fi, .int v_nf, .ref a_cz, .int v_nc])), (a_lo, .inl (k_lo, 1407, .inl f_lo)), (a_ho, .inl (k_ho, 50, .inl f_ho))] s.heap.size = A at hD hZ ⊢
  have hA : ∀ q : Nat, s.heap.size ≤ q → A q := fun q h => by rw [← hAe]; exact Or.inr h
  clear hAe hD0
  have hS : va_S A s.heap s.heap [] := va_S.rf
  replace hP : va_P (dC, dI) vwCl [(a_m, .inr (5, [.int v_th, .ref a_sa, .int v_sz, .int v_at, .int v_wr, .ref a_ru, .ref a_me, .ref a_le, .int v_n, .ref a_cl, .ref a_te, .ref a_ki, .ref a_ty, .ref a_bl, .ref a_ex, .ref a_lo, .int v_nl, .ref a_ho, .ref a_fi, .int v_nf, .ref a_cz, .int v_nc])), (a_lo, .inl (k_lo, 1407, .inl f_lo)), (a_ho, .inl (k_ho, 50, .inl f_ho))] s.heap := hP
  have hl := lv_entry ([.ref a_m, .int p0]) (n := 2) (Nat.le_of_ble_eq_true rfl)
  rw [lg_entry_eq]
  generalize (lg_sl ([.ref a_m, .int p0]) ++ List.replicate (2 - (lg_sl ([.ref a_m, .int p0])).length) Slot.unset).toArray = ls at hl ⊢
  replace hl : lv_has ls 2 [(0, .ref a_m), (1, .int p0)] := hl
  obtain ⟨z, hz⟩ : ∃ z, z = g_Mg_back p0 v_nl f_lo f_ho := ⟨_, rfl⟩
  have hE := hz
  rw [g_Mg_back] at hE
  refine lv_aload_n hx hb d_M_back_0 rfl (lv_at hl 0 rfl) ?_
  refine lv_iconst (v := 0) hx hb d_M_back_1 (by decide) ?_
  refine va_put (D := (dC, dI)) (ci := 5) (v := .int 0) (ty := .int) (C := "LoanRulesModel") (T := Fz_M) (N := 22) hx hb hts it_M tz_M tz_M_ok nz_M hown hK hP hD hS 0 rfl rfl 0 (by decide) (hts _ tw_601) (fun _ h9 => h9) rfl (by decide +kernel) rfl rfl (Nat.le_of_ble_eq_true rfl) d_M_back_2 (fun H locs hP hD hS => ?_)
  replace hP : va_P (dC, dI) vwCl [(a_m, .inr (5, [.int 0, .ref a_sa, .int v_sz, .int v_at, .int v_wr, .ref a_ru, .ref a_me, .ref a_le, .int v_n, .ref a_cl, .ref a_te, .ref a_ki, .ref a_ty, .ref a_bl, .ref a_ex, .ref a_lo, .int v_nl, .ref a_ho, .ref a_fi, .int v_nf, .ref a_cz, .int v_nc])), (a_lo, .inl (k_lo, 1407, .inl f_lo)), (a_ho, .inl (k_ho, 50, .inl f_ho))] H := hP
  replace hD : va_D A [(a_m, .inr (5, [.int 0, .ref a_sa, .int v_sz, .int v_at, .int v_wr, .ref a_ru, .ref a_me, .ref a_le, .int v_n, .ref a_cl, .ref a_te, .ref a_ki, .ref a_ty, .ref a_bl, .ref a_ex, .ref a_lo, .int v_nl, .ref a_ho, .ref a_fi, .int v_nf, .ref a_cz, .int v_nc])), (a_lo, .inl (k_lo, 1407, .inl f_lo)), (a_ho, .inl (k_ho, 50, .inl f_ho))] := hD
  refine lv_aload_n hx hb d_M_back_5 rfl (lv_at hl 0 rfl) ?_
  refine lv_iload_n hx hb d_M_back_6 rfl (lv_at hl 1 rfl) ?_
  have hPc := hP.sub (ws' := [(a_m, .inr (5, [.int 0, .ref a_sa, .int v_sz, .int v_at, .int v_wr, .ref a_ru, .ref a_me, .ref a_le, .int v_n, .ref a_cl, .ref a_te, .ref a_ki, .ref a_ty, .ref a_bl, .ref a_ex, .ref a_lo, .int v_nl, .ref a_ho, .ref a_fi, .int v_nf, .ref a_cz, .int v_nc])), (a_lo, .inl (k_lo, 1407, .inl f_lo))]) [0, 1] rfl
  have hKc := hK.sub (tys' := [(k_lo, .int)]) [0] rfl
  refine vp_callSi (va_Run.run (va_runV (As := [.int p0]) (rest := []) ⟨hx, hb, hml, hown, hts⟩ (c_Mg_isOut l dC dI adK adV (a_m := a_m) (p0 := p0) (v_th := 0) (a_sa := a_sa) (v_sz := v_sz) (v_at := v_at) (v_wr := v_wr) (a_ru := a_ru) (a_me := a_me) (a_le := a_le) (v_n := v_n) (a_cl := a_cl) (a_te := a_te) (a_ki := a_ki) (a_ty := a_ty) (a_bl := a_bl) (a_ex := a_ex) (a_lo := a_lo) (v_nl := v_nl) (a_ho := a_ho) (a_fi := a_fi) (v_nf := v_nf) (a_cz := a_cz) (v_nc := v_nc) (k_lo := k_lo) (f_lo := f_lo) hnl) (cwV 1 hts (gV tw_794 tw_796 tw_40 tw_46 tw_797) rfl rfl rfl (by decide +kernel) ⟨(Nat.le_of_ble_eq_true rfl), (Nat.le_of_ble_eq_true rfl)⟩) ⟨fun a U g mk q => by obtain ⟨q0, qZ, qP, qK⟩ := q; exact ⟨q0, zz_call qZ, qP, va_K.moved (u := U) (U := U.calling g mk a) (Vm.Alike.refl U.vm) qK⟩, va_recv hKc hPc (ci := 5) (q0 := 0) rfl rfl, fun U hU hW => ⟨rfl, zz_ro hS hU hW hZ, by rw [hU]; exact hPc, va_K.moved hW.alike hKc⟩⟩ rfl rfl hl.1 rfl (lv_room (Nat.le_of_ble_eq_true rfl)) d_M_back_7 ⟨(Nat.le_of_ble_eq_true rfl), (Nat.le_of_ble_eq_true rfl)⟩)) (fun r_1 hw_2 => ?_)
  clear hPc hKc
  subst hw_2
  refine lv_if_ne (tgt := 15) hx hb d_M_back_10 (by decide) (fun c_3 => ?_) (fun c_3 => ?_)
  · rw [if_neg c_3] at hE
    refine lv_aload_n hx hb d_M_back_15 rfl (lv_at hl 0 rfl) ?_
    refine va_get (D := (dC, dI)) (ci := 5) (v := .ref a_lo) (C := "LoanRulesModel") (T := Fz_M) (N := 22) hx hb hts it_M hown hK hP 0 rfl rfl 15 (by decide) (hts _ tw_616) (fun _ h9 => h9) rfl d_M_back_16 ?_
    refine lv_bipush (v := 7) hx hb d_M_back_19 (by decide) ?_
    refine lv_iload_n hx hb d_M_back_21 rfl (lv_at hl 1 rfl) ?_
    refine lv_imul hx hb d_M_back_22 ?_
    refine lv_bipush (v := 6) hx hb d_M_back_23 (by decide) ?_
    refine lv_iadd hx hb d_M_back_25 ?_
    refine lv_iconst (v := 0) hx hb d_M_back_26 (by decide) ?_
    have i_4 : vp_in ((7 * p0) + 6) 1407 := ix7 (outM c_3 hnl).1 (by decide)
    refine va_iast (D := (dC, dI)) hx hb hK hP hD hS 1 0 rfl rfl i_4 d_M_back_27 (fun H locs hP hD hS => ?_)
    replace hP : va_P (dC, dI) vwCl [(a_m, .inr (5, [.int 0, .ref a_sa, .int v_sz, .int v_at, .int v_wr, .ref a_ru, .ref a_me, .ref a_le, .int v_n, .ref a_cl, .ref a_te, .ref a_ki, .ref a_ty, .ref a_bl, .ref a_ex, .ref a_lo, .int v_nl, .ref a_ho, .ref a_fi, .int v_nf, .ref a_cz, .int v_nc])), (a_lo, .inl (k_lo, 1407, .inl (upd f_lo ((7 * p0) + 6).toNatClampNeg 0))), (a_ho, .inl (k_ho, 50, .inl f_ho))] H := hP
    replace hD : va_D A [(a_m, .inr (5, [.int 0, .ref a_sa, .int v_sz, .int v_at, .int v_wr, .ref a_ru, .ref a_me, .ref a_le, .int v_n, .ref a_cl, .ref a_te, .ref a_ki, .ref a_ty, .ref a_bl, .ref a_ex, .ref a_lo, .int v_nl, .ref a_ho, .ref a_fi, .int v_nf, .ref a_cz, .int v_nc])), (a_lo, .inl (k_lo, 1407, .inl (upd f_lo ((7 * p0) + 6).toNatClampNeg 0))), (a_ho, .inl (k_ho, 50, .inl f_ho))] := hD
    refine lv_aload_n hx hb d_M_back_28 rfl (lv_at hl 0 rfl) ?_
    refine va_get (D := (dC, dI)) (ci := 5) (v := .ref a_ho) (C := "LoanRulesModel") (T := Fz_M) (N := 22) hx hb hts it_M hown hK hP 0 rfl rfl 17 (by decide) (hts _ tw_618) (fun _ h9 => h9) rfl d_M_back_29 ?_
    refine lv_aload_n hx hb d_M_back_32 rfl (lv_at hl 0 rfl) ?_
    refine va_get (D := (dC, dI)) (ci := 5) (v := .ref a_lo) (C := "LoanRulesModel") (T := Fz_M) (N := 22) hx hb hts it_M hown hK hP 0 rfl rfl 15 (by decide) (hts _ tw_616) (fun _ h9 => h9) rfl d_M_back_33 ?_
    refine lv_bipush (v := 7) hx hb d_M_back_36 (by decide) ?_
    refine lv_iload_n hx hb d_M_back_38 rfl (lv_at hl 1 rfl) ?_
    refine lv_imul hx hb d_M_back_39 ?_
    have i_5 : vp_in (7 * p0) 1407 := ix7z (outM c_3 hnl).1
    refine va_iald (D := (dC, dI)) hx hb hK hP 1 0 rfl rfl i_5 d_M_back_40 ?_
    refine lv_iconst (v := 0) hx hb d_M_back_41 (by decide) ?_
    have i_6 : vp_in ((upd f_lo ((7 * p0) + 6).toNatClampNeg 0) (7 * p0).toNatClampNeg) 50 := ix_back (outM c_3 hnl) hl0
    refine va_iast (D := (dC, dI)) hx hb hK hP hD hS 2 1 rfl rfl i_6 d_M_back_42 (fun H locs hP hD hS => ?_)
    replace hP : va_P (dC, dI) vwCl [(a_m, .inr (5, [.int 0, .ref a_sa, .int v_sz, .int v_at, .int v_wr, .ref a_ru, .ref a_me, .ref a_le, .int v_n, .ref a_cl, .ref a_te, .ref a_ki, .ref a_ty, .ref a_bl, .ref a_ex, .ref a_lo, .int v_nl, .ref a_ho, .ref a_fi, .int v_nf, .ref a_cz, .int v_nc])), (a_lo, .inl (k_lo, 1407, .inl (upd f_lo ((7 * p0) + 6).toNatClampNeg 0))), (a_ho, .inl (k_ho, 50, .inl (upd f_ho ((upd f_lo ((7 * p0) + 6).toNatClampNeg 0) (7 * p0).toNatClampNeg).toNatClampNeg 0)))] H := hP
    replace hD : va_D A [(a_m, .inr (5, [.int 0, .ref a_sa, .int v_sz, .int v_at, .int v_wr, .ref a_ru, .ref a_me, .ref a_le, .int v_n, .ref a_cl, .ref a_te, .ref a_ki, .ref a_ty, .ref a_bl, .ref a_ex, .ref a_lo, .int v_nl, .ref a_ho, .ref a_fi, .int v_nf, .ref a_cz, .int v_nc])), (a_lo, .inl (k_lo, 1407, .inl (upd f_lo ((7 * p0) + 6).toNatClampNeg 0))), (a_ho, .inl (k_ho, 50, .inl (upd f_ho ((upd f_lo ((7 * p0) + 6).toNatClampNeg 0) (7 * p0).toNatClampNeg).toNatClampNeg 0)))] := hD
    refine lv_iconst (v := 1) hx hb d_M_back_43 (by decide) ?_
    have hP9 := hP.sub (ws' := [(a_m, .inr (5, [.int 0, .ref a_sa, .int v_sz, .int v_at, .int v_wr, .ref a_ru, .ref a_me, .ref a_le, .int v_n, .ref a_cl, .ref a_te, .ref a_ki, .ref a_ty, .ref a_bl, .ref a_ex, .ref a_lo, .int v_nl, .ref a_ho, .ref a_fi, .int v_nf, .ref a_cz, .int v_nc])), (a_lo, .inl (k_lo, 1407, .inl (upd f_lo ((7 * p0) + 6).toNatClampNeg 0))), (a_ho, .inl (k_ho, 50, .inl (upd f_ho ((upd f_lo ((7 * p0) + 6).toNatClampNeg 0) (7 * p0).toNatClampNeg).toNatClampNeg 0)))]) [0, 1, 2] rfl
    have hD9 := hD.sub (ws' := [(a_m, .inr (5, [.int 0, .ref a_sa, .int v_sz, .int v_at, .int v_wr, .ref a_ru, .ref a_me, .ref a_le, .int v_n, .ref a_cl, .ref a_te, .ref a_ki, .ref a_ty, .ref a_bl, .ref a_ex, .ref a_lo, .int v_nl, .ref a_ho, .ref a_fi, .int v_nf, .ref a_cz, .int v_nc])), (a_lo, .inl (k_lo, 1407, .inl (upd f_lo ((7 * p0) + 6).toNatClampNeg 0))), (a_ho, .inl (k_ho, 50, .inl (upd f_ho ((upd f_lo ((7 * p0) + 6).toNatClampNeg 0) (7 * p0).toNatClampNeg).toNatClampNeg 0)))]) [0, 1, 2] (by decide) rfl
    have hK9 := hK.sub (tys' := [(k_lo, .int), (k_ho, .int)]) [0, 1] rfl
    exact W.iret (v := 1) hx hb hr (fun t ht hW => ⟨⟨1, (), rfl, by rw [← hz, hE], by rw [ht, ← hz, hE]; exact hP9, va_K.moved hW.alike hK9, by rw [← hz, hE]; exact hD9⟩, hS.F ht⟩) hS.2.2 d_M_back_44
  · rw [if_pos c_3] at hE
    refine lv_iconst (v := 0) hx hb d_M_back_13 (by decide) ?_
    have hP9 := hP.sub (ws' := [(a_m, .inr (5, [.int 0, .ref a_sa, .int v_sz, .int v_at, .int v_wr, .ref a_ru, .ref a_me, .ref a_le, .int v_n, .ref a_cl, .ref a_te, .ref a_ki, .ref a_ty, .ref a_bl, .ref a_ex, .ref a_lo, .int v_nl, .ref a_ho, .ref a_fi, .int v_nf, .ref a_cz, .int v_nc])), (a_lo, .inl (k_lo, 1407, .inl f_lo)), (a_ho, .inl (k_ho, 50, .inl f_ho))]) [0, 1, 2] rfl
    have hD9 := hD.sub (ws' := [(a_m, .inr (5, [.int 0, .ref a_sa, .int v_sz, .int v_at, .int v_wr, .ref a_ru, .ref a_me, .ref a_le, .int v_n, .ref a_cl, .ref a_te, .ref a_ki, .ref a_ty, .ref a_bl, .ref a_ex, .ref a_lo, .int v_nl, .ref a_ho, .ref a_fi, .int v_nf, .ref a_cz, .int v_nc])), (a_lo, .inl (k_lo, 1407, .inl f_lo)), (a_ho, .inl (k_ho, 50, .inl f_ho))]) [0, 1, 2] (by decide) rfl
    have hK9 := hK.sub (tys' := [(k_lo, .int), (k_ho, .int)]) [0, 1] rfl
    exact W.iret (v := 0) hx hb hr (fun t ht hW => ⟨⟨0, (), rfl, by rw [← hz, hE], by rw [ht, ← hz, hE]; exact hP9, va_K.moved hW.alike hK9, by rw [← hz, hE]; exact hD9⟩, hS.F ht⟩) hS.2.2 d_M_back_14
def gl_dueOf : Nat → (Nat → Int32) → (Int32) → Int32
  | 0, f_te, x => x
  | n + 1, f_te, x =>
    if 10000 ≤ x then
      x
    else
      if (f_te x.toNatClampNeg) = 0 then
        gl_dueOf n f_te (x + 1)
      else
        x
def g_Mg_dueOf (p0 : Int32) (p1 : Int32) (f_ru : Nat → Int32) (f_cl : Nat → Int32) (f_te : Nat → Int32) : Int32 :=
  if (f_ru ((10 * p0) + 3).toNatClampNeg) = 0 then
    g_Mg_open (p1 + (f_ru ((10 * p0) + 4).toNatClampNeg)) f_cl
  else
    bv (gl_dueOf 20001 f_te p1) (fun x_3 =>
      g_Mg_open x_3 f_cl)
set_option maxHeartbeats 4000000 in
set_option maxRecDepth 100000 in
theorem c_Mg_dueOf (l : Launch) (dC : Nat → ClassId) (dI : Nat → Nat → Nat) (adK adV : Nat → Nat) (a_m : Nat) (a_ru : Nat) (a_cl : Nat) (a_te : Nat) (k_ru : ClassId) (k_cl : ClassId) (k_te : ClassId) (p0 : Int32) (p1 : Int32) (v_th : Int32) (a_sa : Nat) (v_sz : Int32) (v_at : Int32) (v_wr : Int32) (a_me : Nat) (a_le : Nat) (v_n : Int32) (a_ki : Nat) (a_ty : Nat) (a_bl : Nat) (a_ex : Nat) (a_lo : Nat) (v_nl : Int32) (a_ho : Nat) (a_fi : Nat) (v_nf : Int32) (a_cz : Nat) (v_nc : Int32) (f_ru : Nat → Int32) (f_cl : Nat → Int32) (f_te : Nat → Int32) (hp0 : 0 ≤ p0.toInt ∧ p0.toInt < 40) (hp1 : 0 ≤ p1.toInt ∧ p1.toInt < 10000) (hr4 : ∀ r : Int32, 0 ≤ r.toInt → r.toInt < 40 → 0 ≤ (f_ru ((10 * r) + 4).toNatClampNeg).toInt ∧ (f_ru ((10 * r) + 4).toNatClampNeg).toInt ≤ 999) : Met l y_M_dueOf ws_M_dueOf ({ frames := 1, cells := 0, slots := 0, locals := 22 }) (va_Pc [.ref a_m, .int p0, .int p1] (fun U => zz adK adV (fun _ => False) U ∧ va_P (dC, dI) vwCl [(a_m, .inr (5, [.int v_th, .ref a_sa, .int v_sz, .int v_at, .int v_wr, .ref a_ru, .ref a_me, .ref a_le, .int v_n, .ref a_cl, .ref a_te, .ref a_ki, .ref a_ty, .ref a_bl, .ref a_ex, .ref a_lo, .int v_nl, .ref a_ho, .ref a_fi, .int v_nf, .ref a_cz, .int v_nc])), (a_ru, .inl (k_ru, 410, .inl f_ru)), (a_cl, .inl (k_cl, 10000, .inl f_cl)), (a_te, .inl (k_te, 10000, .inl f_te))] U.heap ∧ va_K (dC, dI) vwCl [(k_ru, .int), (k_cl, .boolean), (k_te, .boolean)] U)) (vp_Si (fun r => r = g_Mg_dueOf p0 p1 f_ru f_cl f_te)) 0 0 (fun _ => False) := by
  refine Met.ofW (cc := c_M_dueOf) (maxL := 4) (ret := (some .int)) (by decide) rfl ?_
  intro p e s m args below meth c s₁ B hml hv
  obtain ⟨rfl, hZ, hP, hK⟩ := hv
  have hx := B.exec
  have hb := B.bytes
  have hr := B.returns
  have hts0 := atoms_spec (ws := ws_M_dueOf) B.pre
  have hts : ∀ w ∈ TT, w.before _ s = true := fun w h => hts0 w (List.mem_cons_of_mem _ h)
  have hown : s.vm.findClass "LoanRulesModel" = some m.cls := findClass_of_methodNamed B.named
  have hlocks := B.notSynchronized
  have hS : va_S (fun _ => False) s.heap s.heap [] := va_S.rf
  replace hP : va_P (dC, dI) vwCl [(a_m, .inr (5, [.int v_th, .ref a_sa, .int v_sz, .int v_at, .int v_wr, .ref a_ru, .ref a_me, .ref a_le, .int v_n, .ref a_cl, .ref a_te, .ref a_ki, .ref a_ty, .ref a_bl, .ref a_ex, .ref a_lo, .int v_nl, .ref a_ho, .ref a_fi, .int v_nf, .ref a_cz, .int v_nc])), (a_ru, .inl (k_ru, 410, .inl f_ru)), (a_cl, .inl (k_cl, 10000, .inl f_cl)), (a_te, .inl (k_te, 10000, .inl f_te))] s.heap := hP
  have hl := lv_entry ([.ref a_m, .int p0, .int p1]) (n := 4) (Nat.le_of_ble_eq_true rfl)
  rw [lg_entry_eq]
  generalize (lg_sl ([.ref a_m, .int p0, .int p1]) ++ List.replicate (4 - (lg_sl ([.ref a_m, .int p0, .int p1])).length) Slot.unset).toArray = ls at hl ⊢
  replace hl : lv_has ls 4 [(0, .ref a_m), (1, .int p0), (2, .int p1)] := hl
  obtain ⟨z, hz⟩ : ∃ z, z = g_Mg_dueOf p0 p1 f_ru f_cl f_te := ⟨_, rfl⟩
  have hE := hz
  rw [g_Mg_dueOf] at hE
  refine lv_aload_n hx hb d_M_dueOf_0 rfl (lv_at hl 0 rfl) ?_
  refine va_get (D := (dC, dI)) (ci := 5) (v := .ref a_ru) (C := "LoanRulesModel") (T := Fz_M) (N := 22) hx hb hts it_M hown hK hP 0 rfl rfl 5 (by decide) (hts _ tw_606) (fun _ h9 => h9) rfl d_M_dueOf_1 ?_
  refine lv_bipush (v := 10) hx hb d_M_dueOf_4 (by decide) ?_
  refine lv_iload_n hx hb d_M_dueOf_6 rfl (lv_at hl 1 rfl) ?_
  refine lv_imul hx hb d_M_dueOf_7 ?_
  refine lv_iconst (v := 3) hx hb d_M_dueOf_8 (by decide) ?_
  refine lv_iadd hx hb d_M_dueOf_9 ?_
  have i_1 : vp_in ((10 * p0) + 3) 410 := ix10 (r40 hp0) (by decide)
  refine va_iald (D := (dC, dI)) hx hb hK hP 1 0 rfl rfl i_1 d_M_dueOf_10 ?_
  refine lv_if_ne (tgt := 32) hx hb d_M_dueOf_11 (by decide) (fun c_2 => ?_) (fun c_2 => ?_)
  · rw [if_neg c_2] at hE
    refine lv_iload_n hx hb d_M_dueOf_32 rfl (lv_at hl 2 rfl) ?_
    refine lv_istore_n (lv' := [(3, .int p1), (0, .ref a_m), (1, .int p0), (2, .int p1)]) hx hb d_M_dueOf_33 rfl hl (by decide) rfl (fun ls hl => ?_)
    generalize hg_x_3 : gl_dueOf 20001 f_te p1 = x_3 at hE
    rw [bv_eq] at hE
    obtain ⟨x, e_x⟩ : ∃ q9 : Int32, q9 = p1 := ⟨_, rfl⟩
    obtain ⟨n, e_n⟩ : ∃ q9 : Nat, q9 = 20001 := ⟨_, rfl⟩
    have hAll : va_P (dC, dI) vwCl [(a_m, .inr (5, [.int v_th, .ref a_sa, .int v_sz, .int v_at, .int v_wr, .ref a_ru, .ref a_me, .ref a_le, .int v_n, .ref a_cl, .ref a_te, .ref a_ki, .ref a_ty, .ref a_bl, .ref a_ex, .ref a_lo, .int v_nl, .ref a_ho, .ref a_fi, .int v_nf, .ref a_cz, .int v_nc])), (a_ru, .inl (k_ru, 410, .inl f_ru)), (a_cl, .inl (k_cl, 10000, .inl f_cl)), (a_te, .inl (k_te, 10000, .inl f_te))] s.heap ∧ lv_has ls 4 [(3, .int x), (0, .ref a_m), (1, .int p0), (2, .int p1)] ∧ (0 ≤ x.toInt ∧ x.toInt < 20000) ∧ 20001 - x.toInt.toNat ≤ n ∧ gl_dueOf n f_te x = x_3 := by
      subst e_x e_n
      exact ⟨hP, hl, (by omega), by omega, hg_x_3⟩
    clear hP hl e_x e_n hg_x_3
    induction n generalizing x ls with
    | zero =>
      obtain ⟨hP, hl, hx0, hm_dueOf, hg_dueOf⟩ := hAll
      exfalso; omega
    | succ n ih_dueOf =>
      obtain ⟨hP, hl, hx0, hm_dueOf, hg_dueOf⟩ := hAll
      rw [gl_dueOf] at hg_dueOf
      refine lv_iload_n hx hb d_M_dueOf_34 rfl (lv_at hl 0 rfl) ?_
      refine lv_sipush (v := 10000) hx hb d_M_dueOf_35 (by decide) ?_
      refine lv_icmp_ge (tgt := 56) hx hb d_M_dueOf_38 (by decide) (fun c_4 => ?_) (fun c_4 => ?_)
      · rw [if_pos c_4] at hg_dueOf
        subst hg_dueOf
        refine lv_aload_n hx hb d_M_dueOf_56 rfl (lv_at hl 1 rfl) ?_
        refine lv_iload_n hx hb d_M_dueOf_57 rfl (lv_at hl 0 rfl) ?_
        have hPc := hP.sub (ws' := [(a_m, .inr (5, [.int v_th, .ref a_sa, .int v_sz, .int v_at, .int v_wr, .ref a_ru, .ref a_me, .ref a_le, .int v_n, .ref a_cl, .ref a_te, .ref a_ki, .ref a_ty, .ref a_bl, .ref a_ex, .ref a_lo, .int v_nl, .ref a_ho, .ref a_fi, .int v_nf, .ref a_cz, .int v_nc])), (a_cl, .inl (k_cl, 10000, .inl f_cl))]) [0, 2] rfl
        have hKc := hK.sub (tys' := [(k_cl, .boolean)]) [1] rfl
        refine vp_callSi (va_Run.run (va_runV (As := [.int x]) (rest := []) ⟨hx, hb, hml, hown, hts⟩ (c_Mg_open l dC dI adK adV (a_m := a_m) (p0 := x) (v_th := v_th) (a_sa := a_sa) (v_sz := v_sz) (v_at := v_at) (v_wr := v_wr) (a_ru := a_ru) (a_me := a_me) (a_le := a_le) (v_n := v_n) (a_cl := a_cl) (a_te := a_te) (a_ki := a_ki) (a_ty := a_ty) (a_bl := a_bl) (a_ex := a_ex) (a_lo := a_lo) (v_nl := v_nl) (a_ho := a_ho) (a_fi := a_fi) (v_nf := v_nf) (a_cz := a_cz) (v_nc := v_nc) (k_cl := k_cl) (f_cl := f_cl) hx0) (cwV 1 hts (gV tw_786 tw_788 tw_39 tw_46 tw_789) rfl rfl rfl (by decide +kernel) ⟨(Nat.le_of_ble_eq_true rfl), (Nat.le_of_ble_eq_true rfl)⟩) ⟨fun a U g mk q => by obtain ⟨q0, qZ, qP, qK⟩ := q; exact ⟨q0, zz_call qZ, qP, va_K.moved (u := U) (U := U.calling g mk a) (Vm.Alike.refl U.vm) qK⟩, va_recv hKc hPc (ci := 5) (q0 := 0) rfl rfl, fun U hU hW => ⟨rfl, zz_rr hU hW hZ, by rw [hU]; exact hPc, va_K.moved hW.alike hKc⟩⟩ rfl rfl hl.1 rfl (lv_room (Nat.le_of_ble_eq_true rfl)) d_M_dueOf_58 ⟨(Nat.le_of_ble_eq_true rfl), (Nat.le_of_ble_eq_true rfl)⟩)) (fun r_5 hw_6 => ?_)
        clear hPc hKc
        subst hw_6
        exact W.iret (v := g_Mg_open x f_cl) hx hb hr (fun t ht hW => ⟨g_Mg_open x f_cl, rfl, hE.symm.trans hz, ht⟩) (fun _ h => by cases h) d_M_dueOf_61
      · rw [if_neg c_4] at hg_dueOf
        refine lv_aload_n hx hb d_M_dueOf_41 rfl (lv_at hl 1 rfl) ?_
        refine va_get (D := (dC, dI)) (ci := 5) (v := .ref a_te) (C := "LoanRulesModel") (T := Fz_M) (N := 22) hx hb hts it_M hown hK hP 0 rfl rfl 10 (by decide) (hts _ tw_611) (fun _ h9 => h9) rfl d_M_dueOf_42 ?_
        refine lv_iload_n hx hb d_M_dueOf_45 rfl (lv_at hl 0 rfl) ?_
        have i_7 : vp_in x 10000 := li_in hx0.1 c_4
        refine va_zald (D := (dC, dI)) hx hb hK hP 3 2 rfl rfl i_7 d_M_dueOf_46 ?_
        refine lv_if_ne (tgt := 56) hx hb d_M_dueOf_47 (by decide) (fun c_8 => ?_) (fun c_8 => ?_)
        · rw [if_neg c_8] at hg_dueOf
          subst hg_dueOf
          refine lv_aload_n hx hb d_M_dueOf_56 rfl (lv_at hl 1 rfl) ?_
          refine lv_iload_n hx hb d_M_dueOf_57 rfl (lv_at hl 0 rfl) ?_
          have hPc := hP.sub (ws' := [(a_m, .inr (5, [.int v_th, .ref a_sa, .int v_sz, .int v_at, .int v_wr, .ref a_ru, .ref a_me, .ref a_le, .int v_n, .ref a_cl, .ref a_te, .ref a_ki, .ref a_ty, .ref a_bl, .ref a_ex, .ref a_lo, .int v_nl, .ref a_ho, .ref a_fi, .int v_nf, .ref a_cz, .int v_nc])), (a_cl, .inl (k_cl, 10000, .inl f_cl))]) [0, 2] rfl
          have hKc := hK.sub (tys' := [(k_cl, .boolean)]) [1] rfl
          refine vp_callSi (va_Run.run (va_runV (As := [.int x]) (rest := []) ⟨hx, hb, hml, hown, hts⟩ (c_Mg_open l dC dI adK adV (a_m := a_m) (p0 := x) (v_th := v_th) (a_sa := a_sa) (v_sz := v_sz) (v_at := v_at) (v_wr := v_wr) (a_ru := a_ru) (a_me := a_me) (a_le := a_le) (v_n := v_n) (a_cl := a_cl) (a_te := a_te) (a_ki := a_ki) (a_ty := a_ty) (a_bl := a_bl) (a_ex := a_ex) (a_lo := a_lo) (v_nl := v_nl) (a_ho := a_ho) (a_fi := a_fi) (v_nf := v_nf) (a_cz := a_cz) (v_nc := v_nc) (k_cl := k_cl) (f_cl := f_cl) hx0) (cwV 1 hts (gV tw_786 tw_788 tw_39 tw_46 tw_789) rfl rfl rfl (by decide +kernel) ⟨(Nat.le_of_ble_eq_true rfl), (Nat.le_of_ble_eq_true rfl)⟩) ⟨fun a U g mk q => by obtain ⟨q0, qZ, qP, qK⟩ := q; exact ⟨q0, zz_call qZ, qP, va_K.moved (u := U) (U := U.calling g mk a) (Vm.Alike.refl U.vm) qK⟩, va_recv hKc hPc (ci := 5) (q0 := 0) rfl rfl, fun U hU hW => ⟨rfl, zz_rr hU hW hZ, by rw [hU]; exact hPc, va_K.moved hW.alike hKc⟩⟩ rfl rfl hl.1 rfl (lv_room (Nat.le_of_ble_eq_true rfl)) d_M_dueOf_58 ⟨(Nat.le_of_ble_eq_true rfl), (Nat.le_of_ble_eq_true rfl)⟩)) (fun r_9 hw_10 => ?_)
          clear hPc hKc
          subst hw_10
          exact W.iret (v := g_Mg_open x f_cl) hx hb hr (fun t ht hW => ⟨g_Mg_open x f_cl, rfl, hE.symm.trans hz, ht⟩) (fun _ h => by cases h) d_M_dueOf_61
        · rw [if_pos c_8] at hg_dueOf
          refine lv_iinc (v := x + 1) (lv' := [(3, .int (x + 1)), (0, .ref a_m), (1, .int p0), (2, .int p1)]) hx hb d_M_dueOf_50 hl (k := 0) rfl rfl (by decide) rfl (fun ls hl => ?_)
          refine lv_goto (tgt := 34) hx hb d_M_dueOf_53 (by decide) ?_
          exact ih_dueOf _ _ ⟨hP, lv_sub hl [0, 1, 2, 3] rfl, (li_s0 hx0 c_4), (li_m0 hx0 c_4 hm_dueOf), hg_dueOf⟩
  · rw [if_pos c_2] at hE
    refine lv_aload_n hx hb d_M_dueOf_14 rfl (lv_at hl 0 rfl) ?_
    refine lv_iload_n hx hb d_M_dueOf_15 rfl (lv_at hl 2 rfl) ?_
    refine lv_aload_n hx hb d_M_dueOf_16 rfl (lv_at hl 0 rfl) ?_
    refine va_get (D := (dC, dI)) (ci := 5) (v := .ref a_ru) (C := "LoanRulesModel") (T := Fz_M) (N := 22) hx hb hts it_M hown hK hP 0 rfl rfl 5 (by decide) (hts _ tw_606) (fun _ h9 => h9) rfl d_M_dueOf_17 ?_
    refine lv_bipush (v := 10) hx hb d_M_dueOf_20 (by decide) ?_
    refine lv_iload_n hx hb d_M_dueOf_22 rfl (lv_at hl 1 rfl) ?_
    refine lv_imul hx hb d_M_dueOf_23 ?_
    refine lv_iconst (v := 4) hx hb d_M_dueOf_24 (by decide) ?_
    refine lv_iadd hx hb d_M_dueOf_25 ?_
    have i_11 : vp_in ((10 * p0) + 4) 410 := ix10 (r40 hp0) (by decide)
    refine va_iald (D := (dC, dI)) hx hb hK hP 1 0 rfl rfl i_11 d_M_dueOf_26 ?_
    refine lv_iadd hx hb d_M_dueOf_27 ?_
    have hPc := hP.sub (ws' := [(a_m, .inr (5, [.int v_th, .ref a_sa, .int v_sz, .int v_at, .int v_wr, .ref a_ru, .ref a_me, .ref a_le, .int v_n, .ref a_cl, .ref a_te, .ref a_ki, .ref a_ty, .ref a_bl, .ref a_ex, .ref a_lo, .int v_nl, .ref a_ho, .ref a_fi, .int v_nf, .ref a_cz, .int v_nc])), (a_cl, .inl (k_cl, 10000, .inl f_cl))]) [0, 2] rfl
    have hKc := hK.sub (tys' := [(k_cl, .boolean)]) [1] rfl
    refine vp_callSi (va_Run.run (va_runV (As := [.int (p1 + (f_ru ((10 * p0) + 4).toNatClampNeg))]) (rest := []) ⟨hx, hb, hml, hown, hts⟩ (c_Mg_open l dC dI adK adV (a_m := a_m) (p0 := p1 + (f_ru ((10 * p0) + 4).toNatClampNeg)) (v_th := v_th) (a_sa := a_sa) (v_sz := v_sz) (v_at := v_at) (v_wr := v_wr) (a_ru := a_ru) (a_me := a_me) (a_le := a_le) (v_n := v_n) (a_cl := a_cl) (a_te := a_te) (a_ki := a_ki) (a_ty := a_ty) (a_bl := a_bl) (a_ex := a_ex) (a_lo := a_lo) (v_nl := v_nl) (a_ho := a_ho) (a_fi := a_fi) (v_nf := v_nf) (a_cz := a_cz) (v_nc := v_nc) (k_cl := k_cl) (f_cl := f_cl) (li_day hp1 (hr4 _ hp0.1 hp0.2))) (cwV 1 hts (gV tw_786 tw_788 tw_39 tw_46 tw_789) rfl rfl rfl (by decide +kernel) ⟨(Nat.le_of_ble_eq_true rfl), (Nat.le_of_ble_eq_true rfl)⟩) ⟨fun a U g mk q => by obtain ⟨q0, qZ, qP, qK⟩ := q; exact ⟨q0, zz_call qZ, qP, va_K.moved (u := U) (U := U.calling g mk a) (Vm.Alike.refl U.vm) qK⟩, va_recv hKc hPc (ci := 5) (q0 := 0) rfl rfl, fun U hU hW => ⟨rfl, zz_rr hU hW hZ, by rw [hU]; exact hPc, va_K.moved hW.alike hKc⟩⟩ rfl rfl hl.1 rfl (lv_room (Nat.le_of_ble_eq_true rfl)) d_M_dueOf_28 ⟨(Nat.le_of_ble_eq_true rfl), (Nat.le_of_ble_eq_true rfl)⟩)) (fun r_12 hw_13 => ?_)
    clear hPc hKc
    subst hw_13
    exact W.iret (v := g_Mg_open (p1 + (f_ru ((10 * p0) + 4).toNatClampNeg)) f_cl) hx hb hr (fun t ht hW => ⟨g_Mg_open (p1 + (f_ru ((10 * p0) + 4).toNatClampNeg)) f_cl, rfl, hE.symm.trans hz, ht⟩) (fun _ h => by cases h) d_M_dueOf_31
