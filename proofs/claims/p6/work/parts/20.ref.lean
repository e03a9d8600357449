def g_Mg_recall (p0 : Int32) (p1 : Int32) (v_nl : Int32) (f_ru : Nat → Int32) (f_lo : Nat → Int32) (f_cl : Nat → Int32) : Int32 × Int32 × (Nat → Int32) :=
  if (g_Mg_isOut p0 v_nl f_lo) = 0 then
    (0, 0, f_lo)
  else
    if (g_Mg_isDay p1) = 0 then
      (0, 0, f_lo)
    else
      if (f_lo ((7 * p0) + 5).toNatClampNeg) = 1 then
        ((-1), 0, f_lo)
      else
        if (g_Mg_open (p1 + (f_ru ((10 * (f_lo ((7 * p0) + 1).toNatClampNeg)) + 7).toNatClampNeg)) f_cl) = (-1) then
          ((-4), 0, f_lo)
        else
          if ((upd f_lo ((7 * p0) + 5).toNatClampNeg 1) ((7 * p0) + 2).toNatClampNeg) ≤ (g_Mg_open (p1 + (f_ru ((10 * (f_lo ((7 * p0) + 1).toNatClampNeg)) + 7).toNatClampNeg)) f_cl) then
            ((upd (upd f_lo ((7 * p0) + 5).toNatClampNeg 1) ((7 * p0) + 2).toNatClampNeg ((upd f_lo ((7 * p0) + 5).toNatClampNeg 1) ((7 * p0) + 2).toNatClampNeg)) ((7 * p0) + 2).toNatClampNeg, 0, upd (upd f_lo ((7 * p0) + 5).toNatClampNeg 1) ((7 * p0) + 2).toNatClampNeg ((upd f_lo ((7 * p0) + 5).toNatClampNeg 1) ((7 * p0) + 2).toNatClampNeg))
          else
            ((upd (upd f_lo ((7 * p0) + 5).toNatClampNeg 1) ((7 * p0) + 2).toNatClampNeg (g_Mg_open (p1 + (f_ru ((10 * (f_lo ((7 * p0) + 1).toNatClampNeg)) + 7).toNatClampNeg)) f_cl)) ((7 * p0) + 2).toNatClampNeg, 0, upd (upd f_lo ((7 * p0) + 5).toNatClampNeg 1) ((7 * p0) + 2).toNatClampNeg (g_Mg_open (p1 + (f_ru ((10 * (f_lo ((7 * p0) + 1).toNatClampNeg)) + 7).toNatClampNeg)) f_cl))
set_option maxHeartbeats 4000000 in
set_option maxRecDepth 100000 in
theorem c_Mg_recall (l : Launch) (dC : Nat → ClassId) (dI : Nat → Nat → Nat) (adK adV : Nat → Nat) (a_m : Nat) (a_ru : Nat) (a_lo : Nat) (a_cl : Nat) (k_ru : ClassId) (k_lo : ClassId) (k_cl : ClassId) (p0 : Int32) (p1 : Int32) (v_th : Int32) (a_sa : Nat) (v_sz : Int32) (v_at : Int32) (v_wr : Int32) (a_me : Nat) (a_le : Nat) (v_n : Int32) (a_te : Nat) (a_ki : Nat) (a_ty : Nat) (a_bl : Nat) (a_ex : Nat) (v_nl : Int32) (a_ho : Nat) (a_fi : Nat) (v_nf : Int32) (a_cz : Nat) (v_nc : Int32) (f_ru : Nat → Int32) (f_lo : Nat → Int32) (f_cl : Nat → Int32) (sz : Nat) (hnl : 0 ≤ v_nl.toInt ∧ v_nl.toInt ≤ 200) (hl1 : ∀ x : Int32, 0 < x.toInt → x.toInt ≤ v_nl.toInt → 0 ≤ (f_lo ((7 * x) + 1).toNatClampNeg).toInt ∧ (f_lo ((7 * x) + 1).toNatClampNeg).toInt < 40) (hr7 : ∀ r : Int32, 0 ≤ r.toInt → r.toInt < 40 → 0 ≤ (f_ru ((10 * r) + 7).toNatClampNeg).toInt ∧ (f_ru ((10 * r) + 7).toNatClampNeg).toInt ≤ 999) : Met l y_M_recall ws_M_recall ({ frames := 1, cells := 0, slots := 0, locals := 22 }) (va_Pc [.ref a_m, .int p0, .int p1] (fun U => U.heap.size = sz ∧ zz adK adV (va_A [(a_m, .inr (5, [.int v_th, .ref a_sa, .int v_sz, .int v_at, .int v_wr, .ref a_ru, .ref a_me, .ref a_le, .int v_n, .ref a_cl, .ref a_te, .ref a_ki, .ref a_ty, .ref a_bl, .ref a_ex, .ref a_lo, .int v_nl, .ref a_ho, .ref a_fi, .int v_nf, .ref a_cz, .int v_nc])), (a_ru, .inl (k_ru, 410, .inl f_ru)), (a_lo, .inl (k_lo, 1407, .inl f_lo)), (a_cl, .inl (k_cl, 10000, .inl f_cl))] sz) U ∧ va_P (dC, dI) vwCl [(a_m, .inr (5, [.int v_th, .ref a_sa, .int v_sz, .int v_at, .int v_wr, .ref a_ru, .ref a_me, .ref a_le, .int v_n, .ref a_cl, .ref a_te, .ref a_ki, .ref a_ty, .ref a_bl, .ref a_ex, .ref a_lo, .int v_nl, .ref a_ho, .ref a_fi, .int v_nf, .ref a_cz, .int v_nc])), (a_ru, .inl (k_ru, 410, .inl f_ru)), (a_lo, .inl (k_lo, 1407, .inl f_lo)), (a_cl, .inl (k_cl, 10000, .inl f_cl))] U.heap ∧ va_K (dC, dI) vwCl [(k_ru, .int), (k_lo, .int), (k_cl, .boolean)] U ∧ va_D (fun _ => True) [(a_m, .inr (5, [.int v_th, .ref a_sa, .int v_sz, .int v_at, .int v_wr, .ref a_ru, .ref a_me, .ref a_le, .int v_n, .ref a_cl, .ref a_te, .ref a_ki, .ref a_ty, .ref a_bl, .ref a_ex, .ref a_lo, .int v_nl, .ref a_ho, .ref a_fi, .int v_nf, .ref a_cz, .int v_nc])), (a_ru, .inl (k_ru, 410, .inl f_ru)), (a_lo, .inl (k_lo, 1407, .inl f_lo)), (a_cl, .inl (k_cl, 10000, .inl f_cl))])) (va_Qi (fun (r : Int32) (_ : Unit) => r = (g_Mg_recall p0 p1 v_nl f_ru f_lo f_cl).1) (fun (_ : Unit) (t : State) => va_P (dC, dI) vwCl [(a_m, .inr (5, [.int ((g_Mg_recall p0 p1 v_nl f_ru f_lo f_cl).2.1), .ref a_sa, .int v_sz, .int v_at, .int v_wr, .ref a_ru, .ref a_me, .ref a_le, .int v_n, .ref a_cl, .ref a_te, .ref a_ki, .ref a_ty, .ref a_bl, .ref a_ex, .ref a_lo, .int v_nl, .ref a_ho, .ref a_fi, .int v_nf, .ref a_cz, .int v_nc])), (a_ru, .inl (k_ru, 410, .inl f_ru)), (a_lo, .inl (k_lo, 1407, .inl ((g_Mg_recall p0 p1 v_nl f_ru f_lo f_cl).2.2))), (a_cl, .inl (k_cl, 10000, .inl f_cl))] t.heap ∧ va_K (dC, dI) vwCl [(k_ru, .int), (k_lo, .int), (k_cl, .boolean)] t ∧ va_D (va_A [(a_m, .inr (5, [.int v_th, .ref a_sa, .int v_sz, .int v_at, .int v_wr, .ref a_ru, .ref a_me, .ref a_le, .int v_n, .ref a_cl, .ref a_te, .ref a_ki, .ref a_ty, .ref a_bl, .ref a_ex, .ref a_lo, .int v_nl, .ref a_ho, .ref a_fi, .int v_nf, .ref a_cz, .int v_nc])), (a_ru, .inl (k_ru, 410, .inl f_ru)), (a_lo, .inl (k_lo, 1407, .inl f_lo)), (a_cl, .inl (k_cl, 10000, .inl f_cl))] sz) [(a_m, .inr (5, [.int ((g_Mg_recall p0 p1 v_nl f_ru f_lo f_cl).2.1), .ref a_sa, .int v_sz, .int v_at, .int v_wr, .ref a_ru, .ref a_me, .ref a_le, .int v_n, .ref a_cl, .ref a_te, .ref a_ki, .ref a_ty, .ref a_bl, .ref a_ex, .ref a_lo, .int v_nl, .ref a_ho, .ref a_fi, .int v_nf, .ref a_cz, .int v_nc])), (a_ru, .inl (k_ru, 410, .inl f_ru)), (a_lo, .inl (k_lo, 1407, .inl ((g_Mg_recall p0 p1 v_nl f_ru f_lo f_cl).2.2))), (a_cl, .inl (k_cl, 10000, .inl f_cl))]) (va_A [(a_m, .inr (5, [.int v_th, .ref a_sa, .int v_sz, .int v_at, .int v_wr, .ref a_ru, .ref a_me, .ref a_le, .int v_n, .ref a_cl, .ref a_te, .ref a_ki, .ref a_ty, .ref a_bl, .ref a_ex, .ref a_lo, .int v_nl, .ref a_ho, .ref a_fi, .int v_nf, .ref a_cz, .int v_nc])), (a_ru, .inl (k_ru, 410, .inl f_ru)), (a_lo, .inl (k_lo, 1407, .inl f_lo)), (a_cl, .inl (k_cl, 10000, .inl f_cl))] sz)) 0 0 (va_A [(a_m, .inr (5, [.int v_th, .ref a_sa, .int v_sz, .int v_at, .int v_wr, .ref a_ru, .ref a_me, .ref a_le, .int v_n, .ref a_cl, .ref a_te, .ref a_ki, .ref a_ty, .ref a_bl, .ref a_ex, .ref a_lo, .int v_nl, .ref a_ho, .ref a_fi, .int v_nf, .ref a_cz, .int v_nc])), (a_ru, .inl (k_ru, 410, .inl f_ru)), (a_lo, .inl (k_lo, 1407, .inl f_lo)), (a_cl, .inl (k_cl, 10000, .inl f_cl))] sz) := by
  refine Met.ofW (cc := c_M_recall) (maxL := 5) (ret := (some .int)) (by decide) rfl ?_
  intro p e s m args below meth c s₁ B hml hv
  obtain ⟨rfl, hsz, hZ, hP, hK, hD0⟩ := hv
  have hx := B.exec
  have hb := B.bytes
  have hr := B.returns
  have hts0 := atoms_spec (ws := ws_M_recall) B.pre
  have hts : ∀ w ∈ TT, w.before _ s = true := fun w h => hts0 w (List.mem_cons_of_mem _ h)
  have hown : s.vm.findClass "LoanRulesModel" = some m.cls := findClass_of_methodNamed B.named
  have hlocks := B.notSynchronized
  subst hsz
  have hD := hD0.self (sz := s.heap.size)
  generalize hAe : va_A [(a_m, .inr (5, [.int v_th, .ref a_sa, .int v_sz, .int v_at, .int v_wr, .ref a_ru, .ref a_me, .ref a_le, .int v_n, .ref a_cl, .ref a_te, .ref a_ki, .ref a_ty, .ref a_bl, .ref a_ex, .ref a_lo, .int v_nl, .ref a_ho, .ref a_fi, .int v_nf, .ref a_cz, .int v_nc])), (a_ru, .inl (k_ru, 410, .inl f_ru)), (a_lo, .inl (k_lo, 1407, .inl f_lo)), (a_cl, .inl (k_cl, 10000, .inl f_cl))] s.heap.size = A at hD hZ ⊢
  have hA : ∀ q : Nat, s.heap.size ≤ q → A q := fun q h => by rw [← hAe]; exact Or.inr h
  clear hAe hD0
  have hS : va_S A s.heap s.heap [] := va_S.rf
  replace hP : va_P (dC, dI) vwCl [(a_m, .inr (5, [.int v_th, .ref a_sa, .int v_sz, .int v_at, .int v_wr, .ref a_ru, .ref a_me, .ref a_le, .int v_n, .ref a_cl, .ref a_te, .ref a_ki, .ref a_ty, .ref a_bl, .ref a_ex, .ref a_lo, .int v_nl, .ref a_ho, .ref a_fi, .int v_nf, .ref a_cz, .int v_nc])), (a_ru, .inl (k_ru, 410, .inl f_ru)), (a_lo, .inl (k_lo, 1407, .inl f_lo)), (a_cl, .inl (k_cl, 10000, .inl f_cl))] s.heap := hP
  have hl := lv_entry ([.ref a_m, .int p0, .int p1]) (n := 5) (Nat.le_of_ble_eq_true rfl)
  rw [lg_entry_eq]
  generalize (lg_sl ([.ref a_m, .int p0, .int p1]) ++ List.replicate (5 - (lg_sl ([.ref a_m, .int p0, .int p1])).length) Slot.unset).toArray = ls at hl ⊢
  replace hl : lv_has ls 5 [(0, .ref a_m), (1, .int p0), (2, .int p1)] := hl
  obtain ⟨z, hz⟩ : ∃ z, z = g_Mg_recall p0 p1 v_nl f_ru f_lo f_cl := ⟨_, rfl⟩
  have hE := hz
  rw [g_Mg_recall] at hE
  refine lv_aload_n hx hb d_M_recall_0 rfl (lv_at hl 0 rfl) ?_
  refine lv_iconst (v := 0) hx hb d_M_recall_1 (by decide) ?_
  refine va_put (D := (dC, dI)) (ci := 5) (v := .int 0) (ty := .int) (C := "LoanRulesModel") (T := Fz_M) (N := 22) hx hb hts it_M tz_M tz_M_ok nz_M hown hK hP hD hS 0 rfl rfl 0 (by decide) (hts _ tw_601) (fun _ h9 => h9) rfl (by decide +kernel) rfl rfl (Nat.le_of_ble_eq_true rfl) d_M_recall_2 (fun H locs hP hD hS => ?_)
  replace hP : va_P (dC, dI) vwCl [(a_m, .inr (5, [.int 0, .ref a_sa, .int v_sz, .int v_at, .int v_wr, .ref a_ru, .ref a_me, .ref a_le, .int v_n, .ref a_cl, .ref a_te, .ref a_ki, .ref a_ty, .ref a_bl, .ref a_ex, .ref a_lo, .int v_nl, .ref a_ho, .ref a_fi, .int v_nf, .ref a_cz, .int v_nc])), (a_ru, .inl (k_ru, 410, .inl f_ru)), (a_lo, .inl (k_lo, 1407, .inl f_lo)), (a_cl, .inl (k_cl, 10000, .inl f_cl))] H := hP
  replace hD : va_D A [(a_m, .inr (5, [.int 0, .ref a_sa, .int v_sz, .int v_at, .int v_wr, .ref a_ru, .ref a_me, .ref a_le, .int v_n, .ref a_cl, .ref a_te, .ref a_ki, .ref a_ty, .ref a_bl, .ref a_ex, .ref a_lo, .int v_nl, .ref a_ho, .ref a_fi, .int v_nf, .ref a_cz, .int v_nc])), (a_ru, .inl (k_ru, 410, .inl f_ru)), (a_lo, .inl (k_lo, 1407, .inl f_lo)), (a_cl, .inl (k_cl, 10000, .inl f_cl))] := hD
  refine lv_aload_n hx hb d_M_recall_5 rfl (lv_at hl 0 rfl) ?_
  refine lv_iload_n hx hb d_M_recall_6 rfl (lv_at hl 1 rfl) ?_
  have hPc := hP.sub (ws' := [(a_m, .inr (5, [.int 0, .ref a_sa, .int v_sz, .int v_at, .int v_wr, .ref a_ru, .ref a_me, .ref a_le, .int v_n, .ref a_cl, .ref a_te, .ref a_ki, .ref a_ty, .ref a_bl, .ref a_ex, .ref a_lo, .int v_nl, .ref a_ho, .ref a_fi, .int v_nf, .ref a_cz, .int v_nc])), (a_lo, .inl (k_lo, 1407, .inl f_lo))]) [0, 2] rfl
  have hKc := hK.sub (tys' := [(k_lo, .int)]) [1] rfl
  refine vp_callSi (va_Run.run (va_runV (As := [.int p0]) (rest := []) ⟨hx, hb, hml, hown, hts⟩ (c_Mg_isOut l dC dI adK adV (a_m := a_m) (p0 := p0) (v_th := 0) (a_sa := a_sa) (v_sz := v_sz) (v_at := v_at) (v_wr := v_wr) (a_ru := a_ru) (a_me := a_me) (a_le := a_le) (v_n := v_n) (a_cl := a_cl) (a_te := a_te) (a_ki := a_ki) (a_ty := a_ty) (a_bl := a_bl) (a_ex := a_ex) (a_lo := a_lo) (v_nl := v_nl) (a_ho := a_ho) (a_fi := a_fi) (v_nf := v_nf) (a_cz := a_cz) (v_nc := v_nc) (k_lo := k_lo) (f_lo := f_lo) hnl) (cwV 1 hts (gV tw_794 tw_796 tw_40 tw_46 tw_797) rfl rfl rfl (by decide +kernel) ⟨(Nat.le_of_ble_eq_true rfl), (Nat.le_of_ble_eq_true rfl)⟩) ⟨fun a U g mk q => by obtain ⟨q0, qZ, qP, qK⟩ := q; exact ⟨q0, zz_call qZ, qP, va_K.moved (u := U) (U := U.calling g mk a) (Vm.Alike.refl U.vm) qK⟩, va_recv hKc hPc (ci := 5) (q0 := 0) rfl rfl, fun U hU hW => ⟨rfl, zz_ro hS hU hW hZ, by rw [hU]; exact hPc, va_K.moved hW.alike hKc⟩⟩ rfl rfl hl.1 rfl (lv_room (Nat.le_of_ble_eq_true rfl)) d_M_recall_7 ⟨(Nat.le_of_ble_eq_true rfl), (Nat.le_of_ble_eq_true rfl)⟩)) (fun r_1 hw_2 => ?_)
  clear hPc hKc
  subst hw_2
  refine lv_if_eq (tgt := 20) hx hb d_M_recall_10 (by decide) (fun c_3 => ?_) (fun c_3 => ?_)
  · rw [if_pos c_3] at hE
    refine lv_iconst (v := 0) hx hb d_M_recall_20 (by decide) ?_
    have hP9 := hP.sub (ws' := [(a_m, .inr (5, [.int 0, .ref a_sa, .int v_sz, .int v_at, .int v_wr, .ref a_ru, .ref a_me, .ref a_le, .int v_n, .ref a_cl, .ref a_te, .ref a_ki, .ref a_ty, .ref a_bl, .ref a_ex, .ref a_lo, .int v_nl, .ref a_ho, .ref a_fi, .int v_nf, .ref a_cz, .int v_nc])), (a_ru, .inl (k_ru, 410, .inl f_ru)), (a_lo, .inl (k_lo, 1407, .inl f_lo)), (a_cl, .inl (k_cl, 10000, .inl f_cl))]) [0, 1, 2, 3] rfl
    have hD9 := hD.sub (ws' := [(a_m, .inr (5, [.int 0, .ref a_sa, .int v_sz, .int v_at, .int v_wr, .ref a_ru, .ref a_me, .ref a_le, .int v_n, .ref a_cl, .ref a_te, .ref a_ki, .ref a_ty, .ref a_bl, .ref a_ex, .ref a_lo, .int v_nl, .ref a_ho, .ref a_fi, .int v_nf, .ref a_cz, .int v_nc])), (a_ru, .inl (k_ru, 410, .inl f_ru)), (a_lo, .inl (k_lo, 1407, .inl f_lo)), (a_cl, .inl (k_cl, 10000, .inl f_cl))]) [0, 1, 2, 3] (by decide) rfl
    have hK9 := hK.sub (tys' := [(k_ru, .int), (k_lo, .int), (k_cl, .boolean)]) [0, 1, 2] rfl
    exact W.iret (v := 0) hx hb hr (fun t ht hW => ⟨⟨0, (), rfl, by rw [← hz, hE], by rw [ht, ← hz, hE]; exact hP9, va_K.moved hW.alike hK9, by rw [← hz, hE]; exact hD9⟩, hS.F ht⟩) hS.2.2 d_M_recall_21
  · rw [if_neg c_3] at hE
    refine lv_iload_n hx hb d_M_recall_13 rfl (lv_at hl 2 rfl) ?_
    have hPc := hP.sub (ws' := []) [] rfl
    have hKc := hK.sub (tys' := []) [] rfl
    refine vp_callSi (va_Run.run (va_runS (As := [.int p1]) (rest := []) ⟨hx, hb, hml, hown, hts⟩ (c_Mg_isDay l dC dI adK adV (p0 := p1)) (va_cwS 1 hts (gS tw_736 tw_737 tw_46 tw_738) rfl rfl rfl (by decide +kernel) ⟨(Nat.le_of_ble_eq_true rfl), (Nat.le_of_ble_eq_true rfl)⟩) ⟨fun a U g mk q => by obtain ⟨q0, qZ, qP, qK⟩ := q; exact ⟨q0, zz_call qZ, qP, va_K.moved (u := U) (U := U.calling g mk a) (Vm.Alike.refl U.vm) qK⟩, fun U hU hW => ⟨rfl, zz_ro hS hU hW hZ, by rw [hU]; exact hPc, va_K.moved hW.alike hKc⟩⟩ rfl rfl hl.1 rfl (lv_room (Nat.le_of_ble_eq_true rfl)) d_M_recall_14 ⟨(Nat.le_of_ble_eq_true rfl), (Nat.le_of_ble_eq_true rfl)⟩)) (fun r_4 hw_5 => ?_)
    clear hPc hKc
    subst hw_5
    refine lv_if_ne (tgt := 22) hx hb d_M_recall_17 (by decide) (fun c_6 => ?_) (fun c_6 => ?_)
    · rw [if_neg c_6] at hE
      refine lv_bipush (v := 7) hx hb d_M_recall_22 (by decide) ?_
      refine lv_iload_n hx hb d_M_recall_24 rfl (lv_at hl 1 rfl) ?_
      refine lv_imul hx hb d_M_recall_25 ?_
      refine lv_istore_n (lv' := [(3, .int (7 * p0)), (0, .ref a_m), (1, .int p0), (2, .int p1)]) hx hb d_M_recall_26 rfl hl (by decide) rfl (fun ls hl => ?_)
      refine lv_aload_n hx hb d_M_recall_27 rfl (lv_at hl 1 rfl) ?_
      refine va_get (D := (dC, dI)) (ci := 5) (v := .ref a_lo) (C := "LoanRulesModel") (T := Fz_M) (N := 22) hx hb hts it_M hown hK hP 0 rfl rfl 15 (by decide) (hts _ tw_616) (fun _ h9 => h9) rfl d_M_recall_28 ?_
      refine lv_iload_n hx hb d_M_recall_31 rfl (lv_at hl 0 rfl) ?_
      refine lv_iconst (v := 5) hx hb d_M_recall_32 (by decide) ?_
      refine lv_iadd hx hb d_M_recall_33 ?_
      have i_7 : vp_in ((7 * p0) + 5) 1407 := ix7 (outM c_3 hnl).1 (by decide)
      refine va_iald (D := (dC, dI)) hx hb hK hP 2 1 rfl rfl i_7 d_M_recall_34 ?_
      refine lv_iconst (v := 1) hx hb d_M_recall_35 (by decide) ?_
      refine lv_icmp_ne (tgt := 41) hx hb d_M_recall_36 (by decide) (fun c_8 => ?_) (fun c_8 => ?_)
      · rw [if_neg c_8] at hE
        refine lv_aload_n hx hb d_M_recall_41 rfl (lv_at hl 1 rfl) ?_
        refine lv_iload_n hx hb d_M_recall_42 rfl (lv_at hl 3 rfl) ?_
        refine lv_aload_n hx hb d_M_recall_43 rfl (lv_at hl 1 rfl) ?_
        refine va_get (D := (dC, dI)) (ci := 5) (v := .ref a_ru) (C := "LoanRulesModel") (T := Fz_M) (N := 22) hx hb hts it_M hown hK hP 0 rfl rfl 5 (by decide) (hts _ tw_606) (fun _ h9 => h9) rfl d_M_recall_44 ?_
        refine lv_bipush (v := 10) hx hb d_M_recall_47 (by decide) ?_
        refine lv_aload_n hx hb d_M_recall_49 rfl (lv_at hl 1 rfl) ?_
        refine va_get (D := (dC, dI)) (ci := 5) (v := .ref a_lo) (C := "LoanRulesModel") (T := Fz_M) (N := 22) hx hb hts it_M hown hK hP 0 rfl rfl 15 (by decide) (hts _ tw_616) (fun _ h9 => h9) rfl d_M_recall_50 ?_
        refine lv_iload_n hx hb d_M_recall_53 rfl (lv_at hl 0 rfl) ?_
        refine lv_iconst (v := 1) hx hb d_M_recall_54 (by decide) ?_
        refine lv_iadd hx hb d_M_recall_55 ?_
        have i_9 : vp_in ((7 * p0) + 1) 1407 := ix7 (outM c_3 hnl).1 (by decide)
        refine va_iald (D := (dC, dI)) hx hb hK hP 2 1 rfl rfl i_9 d_M_recall_56 ?_
        refine lv_imul hx hb d_M_recall_57 ?_
        refine lv_bipush (v := 7) hx hb d_M_recall_58 (by decide) ?_
        refine lv_iadd hx hb d_M_recall_60 ?_
        have i_10 : vp_in ((10 * (f_lo ((7 * p0) + 1).toNatClampNeg)) + 7) 410 := ix10 (r40 (hl1 _ (outM c_3 hnl).1.1 (outM c_3 hnl).2.1)) (by decide)
        refine va_iald (D := (dC, dI)) hx hb hK hP 1 0 rfl rfl i_10 d_M_recall_61 ?_
        refine lv_iadd hx hb d_M_recall_62 ?_
        have hPc := hP.sub (ws' := [(a_m, .inr (5, [.int 0, .ref a_sa, .int v_sz, .int v_at, .int v_wr, .ref a_ru, .ref a_me, .ref a_le, .int v_n, .ref a_cl, .ref a_te, .ref a_ki, .ref a_ty, .ref a_bl, .ref a_ex, .ref a_lo, .int v_nl, .ref a_ho, .ref a_fi, .int v_nf, .ref a_cz, .int v_nc])), (a_cl, .inl (k_cl, 10000, .inl f_cl))]) [0, 3] rfl
        have hKc := hK.sub (tys' := [(k_cl, .boolean)]) [2] rfl
        refine vp_callSi (va_Run.run (va_runV (As := [.int (p1 + (f_ru ((10 * (f_lo ((7 * p0) + 1).toNatClampNeg)) + 7).toNatClampNeg))]) (rest := []) ⟨hx, hb, hml, hown, hts⟩ (c_Mg_open l dC dI adK adV (a_m := a_m) (p0 := p1 + (f_ru ((10 * (f_lo ((7 * p0) + 1).toNatClampNeg)) + 7).toNatClampNeg)) (v_th := 0) (a_sa := a_sa) (v_sz := v_sz) (v_at := v_at) (v_wr := v_wr) (a_ru := a_ru) (a_me := a_me) (a_le := a_le) (v_n := v_n) (a_cl := a_cl) (a_te := a_te) (a_ki := a_ki) (a_ty := a_ty) (a_bl := a_bl) (a_ex := a_ex) (a_lo := a_lo) (v_nl := v_nl) (a_ho := a_ho) (a_fi := a_fi) (v_nf := v_nf) (a_cz := a_cz) (v_nc := v_nc) (k_cl := k_cl) (f_cl := f_cl) (li_day (dayM c_6) (hr7 _ (hl1 _ (outM c_3 hnl).1.1 (outM c_3 hnl).2.1).1 (hl1 _ (outM c_3 hnl).1.1 (outM c_3 hnl).2.1).2))) (cwV 1 hts (gV tw_786 tw_788 tw_39 tw_46 tw_789) rfl rfl rfl (by decide +kernel) ⟨(Nat.le_of_ble_eq_true rfl), (Nat.le_of_ble_eq_true rfl)⟩) ⟨fun a U g mk q => by obtain ⟨q0, qZ, qP, qK⟩ := q; exact ⟨q0, zz_call qZ, qP, va_K.moved (u := U) (U := U.calling g mk a) (Vm.Alike.refl U.vm) qK⟩, va_recv hKc hPc (ci := 5) (q0 := 0) rfl rfl, fun U hU hW => ⟨rfl, zz_ro hS hU hW hZ, by rw [hU]; exact hPc, va_K.moved hW.alike hKc⟩⟩ rfl rfl hl.1 rfl (lv_room (Nat.le_of_ble_eq_true rfl)) d_M_recall_63 ⟨(Nat.le_of_ble_eq_true rfl), (Nat.le_of_ble_eq_true rfl)⟩)) (fun r_11 hw_12 => ?_)
        clear hPc hKc
        subst hw_12
        refine lv_istore (lv' := [(4, .int (g_Mg_open (p1 + (f_ru ((10 * (f_lo ((7 * p0) + 1).toNatClampNeg)) + 7).toNatClampNeg)) f_cl)), (3, .int (7 * p0)), (0, .ref a_m), (1, .int p0), (2, .int p1)]) hx hb d_M_recall_66 hl (by decide) rfl (fun ls hl => ?_)
        refine lv_iload hx hb d_M_recall_68 (lv_at hl 0 rfl) ?_
        refine lv_iconst (v := (-1)) hx hb d_M_recall_70 (by decide) ?_
        refine lv_icmp_ne (tgt := 77) hx hb d_M_recall_71 (by decide) (fun c_13 => ?_) (fun c_13 => ?_)
        · rw [if_neg c_13] at hE
          refine lv_aload_n hx hb d_M_recall_77 rfl (lv_at hl 2 rfl) ?_
          refine va_get (D := (dC, dI)) (ci := 5) (v := .ref a_lo) (C := "LoanRulesModel") (T := Fz_M) (N := 22) hx hb hts it_M hown hK hP 0 rfl rfl 15 (by decide) (hts _ tw_616) (fun _ h9 => h9) rfl d_M_recall_78 ?_
          refine lv_iload_n hx hb d_M_recall_81 rfl (lv_at hl 1 rfl) ?_
          refine lv_iconst (v := 5) hx hb d_M_recall_82 (by decide) ?_
          refine lv_iadd hx hb d_M_recall_83 ?_
          refine lv_iconst (v := 1) hx hb d_M_recall_84 (by decide) ?_
          have i_14 : vp_in ((7 * p0) + 5) 1407 := ix7 (outM c_3 hnl).1 (by decide)
          refine va_iast (D := (dC, dI)) hx hb hK hP hD hS 2 1 rfl rfl i_14 d_M_recall_85 (fun H locs hP hD hS => ?_)
          replace hP : va_P (dC, dI) vwCl [(a_m, .inr (5, [.int 0, .ref a_sa, .int v_sz, .int v_at, .int v_wr, .ref a_ru, .ref a_me, .ref a_le, .int v_n, .ref a_cl, .ref a_te, .ref a_ki, .ref a_ty, .ref a_bl, .ref a_ex, .ref a_lo, .int v_nl, .ref a_ho, .ref a_fi, .int v_nf, .ref a_cz, .int v_nc])), (a_ru, .inl (k_ru, 410, .inl f_ru)), (a_lo, .inl (k_lo, 1407, .inl (upd f_lo ((7 * p0) + 5).toNatClampNeg 1))), (a_cl, .inl (k_cl, 10000, .inl f_cl))] H := hP
          replace hD : va_D A [(a_m, .inr (5, [.int 0, .ref a_sa, .int v_sz, .int v_at, .int v_wr, .ref a_ru, .ref a_me, .ref a_le, .int v_n, .ref a_cl, .ref a_te, .ref a_ki, .ref a_ty, .ref a_bl, .ref a_ex, .ref a_lo, .int v_nl, .ref a_ho, .ref a_fi, .int v_nf, .ref a_cz, .int v_nc])), (a_ru, .inl (k_ru, 410, .inl f_ru)), (a_lo, .inl (k_lo, 1407, .inl (upd f_lo ((7 * p0) + 5).toNatClampNeg 1))), (a_cl, .inl (k_cl, 10000, .inl f_cl))] := hD
          refine lv_aload_n hx hb d_M_recall_86 rfl (lv_at hl 2 rfl) ?_
          refine va_get (D := (dC, dI)) (ci := 5) (v := .ref a_lo) (C := "LoanRulesModel") (T := Fz_M) (N := 22) hx hb hts it_M hown hK hP 0 rfl rfl 15 (by decide) (hts _ tw_616) (fun _ h9 => h9) rfl d_M_recall_87 ?_
          refine lv_iload_n hx hb d_M_recall_90 rfl (lv_at hl 1 rfl) ?_
          refine lv_iconst (v := 2) hx hb d_M_recall_91 (by decide) ?_
          refine lv_iadd hx hb d_M_recall_92 ?_
          refine lv_iload hx hb d_M_recall_93 (lv_at hl 0 rfl) ?_
          refine lv_aload_n hx hb d_M_recall_95 rfl (lv_at hl 2 rfl) ?_
          refine va_get (D := (dC, dI)) (ci := 5) (v := .ref a_lo) (C := "LoanRulesModel") (T := Fz_M) (N := 22) hx hb hts it_M hown hK hP 0 rfl rfl 15 (by decide) (hts _ tw_616) (fun _ h9 => h9) rfl d_M_recall_96 ?_
          refine lv_iload_n hx hb d_M_recall_99 rfl (lv_at hl 1 rfl) ?_
          refine lv_iconst (v := 2) hx hb d_M_recall_100 (by decide) ?_
          refine lv_iadd hx hb d_M_recall_101 ?_
          have i_15 : vp_in ((7 * p0) + 2) 1407 := ix7 (outM c_3 hnl).1 (by decide)
          refine va_iald (D := (dC, dI)) hx hb hK hP 2 1 rfl rfl i_15 d_M_recall_102 ?_
          refine lv_icmp_ge (tgt := 111) hx hb d_M_recall_103 (by decide) (fun c_16 => ?_) (fun c_16 => ?_)
          · rw [if_pos c_16] at hE
            refine lv_aload_n hx hb d_M_recall_111 rfl (lv_at hl 2 rfl) ?_
            refine va_get (D := (dC, dI)) (ci := 5) (v := .ref a_lo) (C := "LoanRulesModel") (T := Fz_M) (N := 22) hx hb hts it_M hown hK hP 0 rfl rfl 15 (by decide) (hts _ tw_616) (fun _ h9 => h9) rfl d_M_recall_112 ?_
            refine lv_iload_n hx hb d_M_recall_115 rfl (lv_at hl 1 rfl) ?_
            refine lv_iconst (v := 2) hx hb d_M_recall_116 (by decide) ?_
            refine lv_iadd hx hb d_M_recall_117 ?_
            have i_17 : vp_in ((7 * p0) + 2) 1407 := ix7 (outM c_3 hnl).1 (by decide)
            refine va_iald (D := (dC, dI)) hx hb hK hP 2 1 rfl rfl i_17 d_M_recall_118 ?_
            have i_18 : vp_in ((7 * p0) + 2) 1407 := ix7 (outM c_3 hnl).1 (by decide)
            refine va_iast (D := (dC, dI)) hx hb hK hP hD hS 2 1 rfl rfl i_18 d_M_recall_119 (fun H locs hP hD hS => ?_)
            replace hP : va_P (dC, dI) vwCl [(a_m, .inr (5, [.int 0, .ref a_sa, .int v_sz, .int v_at, .int v_wr, .ref a_ru, .ref a_me, .ref a_le, .int v_n, .ref a_cl, .ref a_te, .ref a_ki, .ref a_ty, .ref a_bl, .ref a_ex, .ref a_lo, .int v_nl, .ref a_ho, .ref a_fi, .int v_nf, .ref a_cz, .int v_nc])), (a_ru, .inl (k_ru, 410, .inl f_ru)), (a_lo, .inl (k_lo, 1407, .inl (upd (upd f_lo ((7 * p0) + 5).toNatClampNeg 1) ((7 * p0) + 2).toNatClampNeg ((upd f_lo ((7 * p0) + 5).toNatClampNeg 1) ((7 * p0) + 2).toNatClampNeg)))), (a_cl, .inl (k_cl, 10000, .inl f_cl))] H := hP
            replace hD : va_D A [(a_m, .inr (5, [.int 0, .ref a_sa, .int v_sz, .int v_at, .int v_wr, .ref a_ru, .ref a_me, .ref a_le, .int v_n, .ref a_cl, .ref a_te, .ref a_ki, .ref a_ty, .ref a_bl, .ref a_ex, .ref a_lo, .int v_nl, .ref a_ho, .ref a_fi, .int v_nf, .ref a_cz, .int v_nc])), (a_ru, .inl (k_ru, 410, .inl f_ru)), (a_lo, .inl (k_lo, 1407, .inl (upd (upd f_lo ((7 * p0) + 5).toNatClampNeg 1) ((7 * p0) + 2).toNatClampNeg ((upd f_lo ((7 * p0) + 5).toNatClampNeg 1) ((7 * p0) + 2).toNatClampNeg)))), (a_cl, .inl (k_cl, 10000, .inl f_cl))] := hD
            refine lv_aload_n hx hb d_M_recall_120 rfl (lv_at hl 2 rfl) ?_
            refine va_get (D := (dC, dI)) (ci := 5) (v := .ref a_lo) (C := "LoanRulesModel") (T := Fz_M) (N := 22) hx hb hts it_M hown hK hP 0 rfl rfl 15 (by decide) (hts _ tw_616) (fun _ h9 => h9) rfl d_M_recall_121 ?_
            refine lv_iload_n hx hb d_M_recall_124 rfl (lv_at hl 1 rfl) ?_
            refine lv_iconst (v := 2) hx hb d_M_recall_125 (by decide) ?_
            refine lv_iadd hx hb d_M_recall_126 ?_
            have i_19 : vp_in ((7 * p0) + 2) 1407 := ix7 (outM c_3 hnl).1 (by decide)
            refine va_iald (D := (dC, dI)) hx hb hK hP 2 1 rfl rfl i_19 d_M_recall_127 ?_
            have hP9 := hP.sub (ws' := [(a_m, .inr (5, [.int 0, .ref a_sa, .int v_sz, .int v_at, .int v_wr, .ref a_ru, .ref a_me, .ref a_le, .int v_n, .ref a_cl, .ref a_te, .ref a_ki, .ref a_ty, .ref a_bl, .ref a_ex, .ref a_lo, .int v_nl, .ref a_ho, .ref a_fi, .int v_nf, .ref a_cz, .int v_nc])), (a_ru, .inl (k_ru, 410, .inl f_ru)), (a_lo, .inl (k_lo, 1407, .inl (upd (upd f_lo ((7 * p0) + 5).toNatClampNeg 1) ((7 * p0) + 2).toNatClampNeg ((upd f_lo ((7 * p0) + 5).toNatClampNeg 1) ((7 * p0) + 2).toNatClampNeg)))), (a_cl, .inl (k_cl, 10000, .inl f_cl))]) [0, 1, 2, 3] rfl
            have hD9 := hD.sub (ws' := [(a_m, .inr (5, [.int 0, .ref a_sa, .int v_sz, .int v_at, .int v_wr, .ref a_ru, .ref a_me, .ref a_le, .int v_n, .ref a_cl, .ref a_te, .ref a_ki, .ref a_ty, .ref a_bl, .ref a_ex, .ref a_lo, .int v_nl, .ref a_ho, .ref a_fi, .int v_nf, .ref a_cz, .int v_nc])), (a_ru, .inl (k_ru, 410, .inl f_ru)), (a_lo, .inl (k_lo, 1407, .inl (upd (upd f_lo ((7 * p0) + 5).toNatClampNeg 1) ((7 * p0) + 2).toNatClampNeg ((upd f_lo ((7 * p0) + 5).toNatClampNeg 1) ((7 * p0) + 2).toNatClampNeg)))), (a_cl, .inl (k_cl, 10000, .inl f_cl))]) [0, 1, 2, 3] (by decide) rfl
            have hK9 := hK.sub (tys' := [(k_ru, .int), (k_lo, .int), (k_cl, .boolean)]) [0, 1, 2] rfl
            exact W.iret (v := (upd (upd f_lo ((7 * p0) + 5).toNatClampNeg 1) ((7 * p0) + 2).toNatClampNeg ((upd f_lo ((7 * p0) + 5).toNatClampNeg 1) ((7 * p0) + 2).toNatClampNeg)) ((7 * p0) + 2).toNatClampNeg) hx hb hr (fun t ht hW => ⟨⟨(upd (upd f_lo ((7 * p0) + 5).toNatClampNeg 1) ((7 * p0) + 2).toNatClampNeg ((upd f_lo ((7 * p0) + 5).toNatClampNeg 1) ((7 * p0) + 2).toNatClampNeg)) ((7 * p0) + 2).toNatClampNeg, (), rfl, by rw [← hz, hE], by rw [ht, ← hz, hE]; exact hP9, va_K.moved hW.alike hK9, by rw [← hz, hE]; exact hD9⟩, hS.F ht⟩) hS.2.2 d_M_recall_128
          · rw [if_neg c_16] at hE
            refine lv_iload hx hb d_M_recall_106 (lv_at hl 0 rfl) ?_
            refine lv_goto (tgt := 119) hx hb d_M_recall_108 (by decide) ?_
            have i_20 : vp_in ((7 * p0) + 2) 1407 := ix7 (outM c_3 hnl).1 (by decide)
            refine va_iast (D := (dC, dI)) hx hb hK hP hD hS 2 1 rfl rfl i_20 d_M_recall_119 (fun H locs hP hD hS => ?_)
            replace hP : va_P (dC, dI) vwCl [(a_m, .inr (5, [.int 0, .ref a_sa, .int v_sz, .int v_at, .int v_wr, .ref a_ru, .ref a_me, .ref a_le, .int v_n, .ref a_cl, .ref a_te, .ref a_ki, .ref a_ty, .ref a_bl, .ref a_ex, .ref a_lo, .int v_nl, .ref a_ho, .ref a_fi, .int v_nf, .ref a_cz, .int v_nc])), (a_ru, .inl (k_ru, 410, .inl f_ru)), (a_lo, .inl (k_lo, 1407, .inl (upd (upd f_lo ((7 * p0) + 5).toNatClampNeg 1) ((7 * p0) + 2).toNatClampNeg (g_Mg_open (p1 + (f_ru ((10 * (f_lo ((7 * p0) + 1).toNatClampNeg)) + 7).toNatClampNeg)) f_cl)))), (a_cl, .inl (k_cl, 10000, .inl f_cl))] H := hP
            replace hD : va_D A [(a_m, .inr (5, [.int 0, .ref a_sa, .int v_sz, .int v_at, .int v_wr, .ref a_ru, .ref a_me, .ref a_le, .int v_n, .ref a_cl, .ref a_te, .ref a_ki, .ref a_ty, .ref a_bl, .ref a_ex, .ref a_lo, .int v_nl, .ref a_ho, .ref a_fi, .int v_nf, .ref a_cz, .int v_nc])), (a_ru, .inl (k_ru, 410, .inl f_ru)), (a_lo, .inl (k_lo, 1407, .inl (upd (upd f_lo ((7 * p0) + 5).toNatClampNeg 1) ((7 * p0) + 2).toNatClampNeg (g_Mg_open (p1 + (f_ru ((10 * (f_lo ((7 * p0) + 1).toNatClampNeg)) + 7).toNatClampNeg)) f_cl)))), (a_cl, .inl (k_cl, 10000, .inl f_cl))] := hD
            refine lv_aload_n hx hb d_M_recall_120 rfl (lv_at hl 2 rfl) ?_
            refine va_get (D := (dC, dI)) (ci := 5) (v := .ref a_lo) (C := "LoanRulesModel") (T := Fz_M) (N := 22) hx hb hts it_M hown hK hP 0 rfl rfl 15 (by decide) (hts _ tw_616) (fun _ h9 => h9) rfl d_M_recall_121 ?_
            refine lv_iload_n hx hb d_M_recall_124 rfl (lv_at hl 1 rfl) ?_
            refine lv_iconst (v := 2) hx hb d_M_recall_125 (by decide) ?_
            refine lv_iadd hx hb d_M_recall_126 ?_
            have i_21 : vp_in ((7 * p0) + 2) 1407 := ix7 (outM c_3 hnl).1 (by decide)
            refine va_iald (D := (dC, dI)) hx hb hK hP 2 1 rfl rfl i_21 d_M_recall_127 ?_
            have hP9 := hP.sub (ws' := [(a_m, .inr (5, [.int 0, .ref a_sa, .int v_sz, .int v_at, .int v_wr, .ref a_ru, .ref a_me, .ref a_le, .int v_n, .ref a_cl, .ref a_te, .ref a_ki, .ref a_ty, .ref a_bl, .ref a_ex, .ref a_lo, .int v_nl, .ref a_ho, .ref a_fi, .int v_nf, .ref a_cz, .int v_nc])), (a_ru, .inl (k_ru, 410, .inl f_ru)), (a_lo, .inl (k_lo, 1407, .inl (upd (upd f_lo ((7 * p0) + 5).toNatClampNeg 1) ((7 * p0) + 2).toNatClampNeg (g_Mg_open (p1 + (f_ru ((10 * (f_lo ((7 * p0) + 1).toNatClampNeg)) + 7).toNatClampNeg)) f_cl)))), (a_cl, .inl (k_cl, 10000, .inl f_cl))]) [0, 1, 2, 3] rfl
            have hD9 := hD.sub (ws' := [(a_m, .inr (5, [.int 0, .ref a_sa, .int v_sz, .int v_at, .int v_wr, .ref a_ru, .ref a_me, .ref a_le, .int v_n, .ref a_cl, .ref a_te, .ref a_ki, .ref a_ty, .ref a_bl, .ref a_ex, .ref a_lo, .int v_nl, .ref a_ho, .ref a_fi, .int v_nf, .ref a_cz, .int v_nc])), (a_ru, .inl (k_ru, 410, .inl f_ru)), (a_lo, .inl (k_lo, 1407, .inl (upd (upd f_lo ((7 * p0) + 5).toNatClampNeg 1) ((7 * p0) + 2).toNatClampNeg (g_Mg_open (p1 + (f_ru ((10 * (f_lo ((7 * p0) + 1).toNatClampNeg)) + 7).toNatClampNeg)) f_cl)))), (a_cl, .inl (k_cl, 10000, .inl f_cl))]) [0, 1, 2, 3] (by decide) rfl
            have hK9 := hK.sub (tys' := [(k_ru, .int), (k_lo, .int), (k_cl, .boolean)]) [0, 1, 2] rfl
            exact W.iret (v := (upd (upd f_lo ((7 * p0) + 5).toNatClampNeg 1) ((7 * p0) + 2).toNatClampNeg (g_Mg_open (p1 + (f_ru ((10 * (f_lo ((7 * p0) + 1).toNatClampNeg)) + 7).toNatClampNeg)) f_cl)) ((7 * p0) + 2).toNatClampNeg) hx hb hr (fun t ht hW => ⟨⟨(upd (upd f_lo ((7 * p0) + 5).toNatClampNeg 1) ((7 * p0) + 2).toNatClampNeg (g_Mg_open (p1 + (f_ru ((10 * (f_lo ((7 * p0) + 1).toNatClampNeg)) + 7).toNatClampNeg)) f_cl)) ((7 * p0) + 2).toNatClampNeg, (), rfl, by rw [← hz, hE], by rw [ht, ← hz, hE]; exact hP9, va_K.moved hW.alike hK9, by rw [← hz, hE]; exact hD9⟩, hS.F ht⟩) hS.2.2 d_M_recall_128
        · rw [if_pos c_13] at hE
          refine lv_bipush (v := (-4)) hx hb d_M_recall_74 (by decide) ?_
          have hP9 := hP.sub (ws' := [(a_m, .inr (5, [.int 0, .ref a_sa, .int v_sz, .int v_at, .int v_wr, .ref a_ru, .ref a_me, .ref a_le, .int v_n, .ref a_cl, .ref a_te, .ref a_ki, .ref a_ty, .ref a_bl, .ref a_ex, .ref a_lo, .int v_nl, .ref a_ho, .ref a_fi, .int v_nf, .ref a_cz, .int v_nc])), (a_ru, .inl (k_ru, 410, .inl f_ru)), (a_lo, .inl (k_lo, 1407, .inl f_lo)), (a_cl, .inl (k_cl, 10000, .inl f_cl))]) [0, 1, 2, 3] rfl
          have hD9 := hD.sub (ws' := [(a_m, .inr (5, [.int 0, .ref a_sa, .int v_sz, .int v_at, .int v_wr, .ref a_ru, .ref a_me, .ref a_le, .int v_n, .ref a_cl, .ref a_te, .ref a_ki, .ref a_ty, .ref a_bl, .ref a_ex, .ref a_lo, .int v_nl, .ref a_ho, .ref a_fi, .int v_nf, .ref a_cz, .int v_nc])), (a_ru, .inl (k_ru, 410, .inl f_ru)), (a_lo, .inl (k_lo, 1407, .inl f_lo)), (a_cl, .inl (k_cl, 10000, .inl f_cl))]) [0, 1, 2, 3] (by decide) rfl
          have hK9 := hK.sub (tys' := [(k_ru, .int), (k_lo, .int), (k_cl, .boolean)]) [0, 1, 2] rfl
          exact W.iret (v := (-4)) hx hb hr (fun t ht hW => ⟨⟨(-4), (), rfl, by rw [← hz, hE], by rw [ht, ← hz, hE]; exact hP9, va_K.moved hW.alike hK9, by rw [← hz, hE]; exact hD9⟩, hS.F ht⟩) hS.2.2 d_M_recall_76
      · rw [if_pos c_8] at hE
        refine lv_iconst (v := (-1)) hx hb d_M_recall_39 (by decide) ?_
        have hP9 := hP.sub (ws' := [(a_m, .inr (5, [.int 0, .ref a_sa, .int v_sz, .int v_at, .int v_wr, .ref a_ru, .ref a_me, .ref a_le, .int v_n, .ref a_cl, .ref a_te, .ref a_ki, .ref a_ty, .ref a_bl, .ref a_ex, .ref a_lo, .int v_nl, .ref a_ho, .ref a_fi, .int v_nf, .ref a_cz, .int v_nc])), (a_ru, .inl (k_ru, 410, .inl f_ru)), (a_lo, .inl (k_lo, 1407, .inl f_lo)), (a_cl, .inl (k_cl, 10000, .inl f_cl))]) [0, 1, 2, 3] rfl
        have hD9 := hD.sub (ws' := [(a_m, .inr (5, [.int 0, .ref a_sa, .int v_sz, .int v_at, .int v_wr, .ref a_ru, .ref a_me, .ref a_le, .int v_n, .ref a_cl, .ref a_te, .ref a_ki, .ref a_ty, .ref a_bl, .ref a_ex, .ref a_lo, .int v_nl, .ref a_ho, .ref a_fi, .int v_nf, .ref a_cz, .int v_nc])), (a_ru, .inl (k_ru, 410, .inl f_ru)), (a_lo, .inl (k_lo, 1407, .inl f_lo)), (a_cl, .inl (k_cl, 10000, .inl f_cl))]) [0, 1, 2, 3] (by decide) rfl
        have hK9 := hK.sub (tys' := [(k_ru, .int), (k_lo, .int), (k_cl, .boolean)]) [0, 1, 2] rfl
        exact W.iret (v := (-1)) hx hb hr (fun t ht hW => ⟨⟨(-1), (), rfl, by rw [← hz, hE], by rw [ht, ← hz, hE]; exact hP9, va_K.moved hW.alike hK9, by rw [← hz, hE]; exact hD9⟩, hS.F ht⟩) hS.2.2 d_M_recall_40
    · rw [if_pos c_6] at hE
      refine lv_iconst (v := 0) hx hb d_M_recall_20 (by decide) ?_
      have hP9 := hP.sub (ws' := [(a_m, .inr (5, [.int 0, .ref a_sa, .int v_sz, .int v_at, .int v_wr, .ref a_ru, .ref a_me, .ref a_le, .int v_n, .ref a_cl, .ref a_te, .ref a_ki, .ref a_ty, .ref a_bl, .ref a_ex, .ref a_lo, .int v_nl, .ref a_ho, .ref a_fi, .int v_nf, .ref a_cz, .int v_nc])), (a_ru, .inl (k_ru, 410, .inl f_ru)), (a_lo, .inl (k_lo, 1407, .inl f_lo)), (a_cl, .inl (k_cl, 10000, .inl f_cl))]) [0, 1, 2, 3] rfl
      have hD9 := hD.sub (ws' := [(a_m, .inr (5, [.int 0, .ref a_sa, .int v_sz, .int v_at, .int v_wr, .ref a_ru, .ref a_me, .ref a_le, .int v_n, .ref a_cl, .ref a_te, .ref a_ki, .ref a_ty, .ref a_bl, .ref a_ex, .ref a_lo, .int v_nl, .ref a_ho, .ref a_fi, .int v_nf, .ref a_cz, .int v_nc])), (a_ru, .inl (k_ru, 410, .inl f_ru)), (a_lo, .inl (k_lo, 1407, .inl f_lo)), (a_cl, .inl (k_cl, 10000, .inl f_cl))]) [0, 1, 2, 3] (by decide) rfl
      have hK9 := hK.sub (tys' := [(k_ru, .int), (k_lo, .int), (k_cl, .boolean)]) [0, 1, 2] rfl
      exact W.iret (v := 0) hx hb hr (fun t ht hW => ⟨⟨0, (), rfl, by rw [← hz, hE], by rw [ht, ← hz, hE]; exact hP9, va_K.moved hW.alike hK9, by rw [← hz, hE]; exact hD9⟩, hS.F ht⟩) hS.2.2 d_M_recall_21
