def g_Mg_block (p0 : Int32) (p1 : Int32) (f_bl : Nat → Int32) : Int32 × Int32 × (Nat → Int32) :=
  if (g_Mg_isPerson p0) = 0 then
    ((-1), 0, f_bl)
  else
    if p1 < 0 then
      ((-1), 0, f_bl)
    else
      if p1 ≤ 9 then
        (f_bl p0.toNatClampNeg, 0, upd f_bl p0.toNatClampNeg p1)
      else
        ((-1), 0, f_bl)
set_option maxHeartbeats 4000000 in
set_option maxRecDepth 100000 in
theorem c_Mg_block (l : Launch) (dC : Nat → ClassId) (dI : Nat → Nat → Nat) (adK adV : Nat → Nat) (a_m : Nat) (a_bl : Nat) (k_bl : ClassId) (p0 : Int32) (p1 : Int32) (v_th : Int32) (a_sa : Nat) (v_sz : Int32) (v_at : Int32) (v_wr : Int32) (a_ru : Nat) (a_me : Nat) (a_le : Nat) (v_n : Int32) (a_cl : Nat) (a_te : Nat) (a_ki : Nat) (a_ty : Nat) (a_ex : Nat) (a_lo : Nat) (v_nl : Int32) (a_ho : Nat) (a_fi : Nat) (v_nf : Int32) (a_cz : Nat) (v_nc : Int32) (f_bl : Nat → Int32) (sz : Nat) : Met l y_M_block ws_M_block ({ frames := 1, cells := 0, slots := 0, locals := 20 }) (va_Pc [.ref a_m, .int p0, .int p1] (fun U => U.heap.size = sz ∧ zz adK adV (va_A [(a_m, .inr (5, [.int v_th, .ref a_sa, .int v_sz, .int v_at, .int v_wr, .ref a_ru, .ref a_me, .ref a_le, .int v_n, .ref a_cl, .ref a_te, .ref a_ki, .ref a_ty, .ref a_bl, .ref a_ex, .ref a_lo, .int v_nl, .ref a_ho, .ref a_fi, .int v_nf, .ref a_cz, .int v_nc])), (a_bl, .inl (k_bl, 50, .inl f_bl))] sz) U ∧ va_P (dC, dI) vwCl [(a_m, .inr (5, [.int v_th, .ref a_sa, .int v_sz, .int v_at, .int v_wr, .ref a_ru, .ref a_me, .ref a_le, .int v_n, .ref a_cl, .ref a_te, .ref a_ki, .ref a_ty, .ref a_bl, .ref a_ex, .ref a_lo, .int v_nl, .ref a_ho, .ref a_fi, .int v_nf, .ref a_cz, .int v_nc])), (a_bl, .inl (k_bl, 50, .inl f_bl))] U.heap ∧ va_K (dC, dI) vwCl [(k_bl, .int)] U ∧ va_D (fun _ => True) [(a_m, .inr (5, [.int v_th, .ref a_sa, .int v_sz, .int v_at, .int v_wr, .ref a_ru, .ref a_me, .ref a_le, .int v_n, .ref a_cl, .ref a_te, .ref a_ki, .ref a_ty, .ref a_bl, .ref a_ex, .ref a_lo, .int v_nl, .ref a_ho, .ref a_fi, .int v_nf, .ref a_cz, .int v_nc])), (a_bl, .inl (k_bl, 50, .inl f_bl))])) (va_Qi (fun (r : Int32) (_ : Unit) => r = (g_Mg_block p0 p1 f_bl).1) (fun (_ : Unit) (t : State) => va_P (dC, dI) vwCl [(a_m, .inr (5, [.int ((g_Mg_block p0 p1 f_bl).2.1), .ref a_sa, .int v_sz, .int v_at, .int v_wr, .ref a_ru, .ref a_me, .ref a_le, .int v_n, .ref a_cl, .ref a_te, .ref a_ki, .ref a_ty, .ref a_bl, .ref a_ex, .ref a_lo, .int v_nl, .ref a_ho, .ref a_fi, .int v_nf, .ref a_cz, .int v_nc])), (a_bl, .inl (k_bl, 50, .inl ((g_Mg_block p0 p1 f_bl).2.2)))] t.heap ∧ va_K (dC, dI) vwCl [(k_bl, .int)] t ∧ va_D (va_A [(a_m, .inr (5, [.int v_th, .ref a_sa, .int v_sz, .int v_at, .int v_wr, .ref a_ru, .ref a_me, .ref a_le, .int v_n, .ref a_cl, .ref a_te, .ref a_ki, .ref a_ty, .ref a_bl, .ref a_ex, .ref a_lo, .int v_nl, .ref a_ho, .ref a_fi, .int v_nf, .ref a_cz, .int v_nc])), (a_bl, .inl (k_bl, 50, .inl f_bl))] sz) [(a_m, .inr (5, [.int ((g_Mg_block p0 p1 f_bl).2.1), .ref a_sa, .int v_sz, .int v_at, .int v_wr, .ref a_ru, .ref a_me, .ref a_le, .int v_n, .ref a_cl, .ref a_te, .ref a_ki, .ref a_ty, .ref a_bl, .ref a_ex, .ref a_lo, .int v_nl, .ref a_ho, .ref a_fi, .int v_nf, .ref a_cz, .int v_nc])), (a_bl, .inl (k_bl, 50, .inl ((g_Mg_block p0 p1 f_bl).2.2)))]) (va_A [(a_m, .inr (5, [.int v_th, .ref a_sa, .int v_sz, .int v_at, .int v_wr, .ref a_ru, .ref a_me, .ref a_le, .int v_n, .ref a_cl, .ref a_te, .ref a_ki, .ref a_ty, .ref a_bl, .ref a_ex, .ref a_lo, .int v_nl, .ref a_ho, .ref a_fi, .int v_nf, .ref a_cz, .int v_nc])), (a_bl, .inl (k_bl, 50, .inl f_bl))] sz)) 0 0 (va_A [(a_m, .inr (5, [.int v_th, .ref a_sa, .int v_sz, .int v_at, .int v_wr, .ref a_ru, .ref a_me, .ref a_le, .int v_n, .ref a_cl, .ref a_te, .ref a_ki, .ref a_ty, .ref a_bl, .ref a_ex, .ref a_lo, .int v_nl, .ref a_ho, .ref a_fi, .int v_nf, .ref a_cz, .int v_nc])), (a_bl, .inl (k_bl, 50, .inl f_bl))] sz) := by
  refine Met.ofW (cc := c_M_block) (maxL := 4) (ret := (some .int)) (by decide) rfl ?_
  intro p e s m args below meth c s₁ B hml hv
  obtain ⟨rfl, hsz, hZ, hP, hK, hD0⟩ := hv
  have hx := B.exec
  have hb := B.bytes
  have hr := B.returns
  have hts0 := atoms_spec (ws := ws_M_block) B.pre
  have hts : ∀ w ∈ TT, w.before _ s = true := fun w h => hts0 w (List.mem_cons_of_mem _ h)
  have hown : s.vm.findClass "LoanRulesModel" = some m.cls := findClass_of_methodNamed B.named
  have hlocks := B.notSynchronized
  subst hsz
  have hD := hD0.self (sz := s.heap.size)
  generalize hAe : va_A [(a_m, .inr (5, [.int v_th, .ref a_sa, .int v_sz, .int v_at, .int v_wr, .ref a_ru, .ref a_me, .ref a_le, .int v_n, .ref a_cl, .ref a_te, .ref a_ki, .ref a_ty, .ref a_bl, .ref a_ex, .ref a_lo, .int v_nl, .ref a_ho, .ref a_fi, .int v_nf, .ref a_cz, .int v_nc])), (a_bl, .inl (k_bl, 50, .inl f_bl))] s.heap.size = A at hD hZ ⊢
  have hA : ∀ q : Nat, s.heap.size ≤ q → A q := fun q h => by rw [← hAe]; exact Or.inr h
  clear hAe hD0
  have hS : va_S A s.heap s.heap [] := va_S.rf
  replace hP : va_P (dC, dI) vwCl [(a_m, .inr (5, [.int v_th, .ref a_sa, .int v_sz, .int v_at, .int v_wr, .ref a_ru, .ref a_me, .ref a_le, .int v_n, .ref a_cl, .ref a_te, .ref a_ki, .ref a_ty, .ref a_bl, .ref a_ex, .ref a_lo, .int v_nl, .ref a_ho, .ref a_fi, .int v_nf, .ref a_cz, .int v_nc])), (a_bl, .inl (k_bl, 50, .inl f_bl))] s.heap := hP
  have hl := lv_entry ([.ref a_m, .int p0, .int p1]) (n := 4) (Nat.le_of_ble_eq_true rfl)
  rw [lg_entry_eq]
  generalize (lg_sl ([.ref a_m, .int p0, .int p1]) ++ List.replicate (4 - (lg_sl ([.ref a_m, .int p0, .int p1])).length) Slot.unset).toArray = ls at hl ⊢
  replace hl : lv_has ls 4 [(0, .ref a_m), (1, .int p0), (2, .int p1)] := hl
  obtain ⟨z, hz⟩ : ∃ z, z = g_Mg_block p0 p1 f_bl := ⟨_, rfl⟩
  have hE := hz
  rw [g_Mg_block] at hE
  refine lv_aload_n hx hb d_M_block_0 rfl (lv_at hl 0 rfl) ?_
  refine lv_iconst (v := 0) hx hb d_M_block_1 (by decide) ?_
  refine va_put (D := (dC, dI)) (ci := 5) (v := .int 0) (ty := .int) (C := "LoanRulesModel") (T := Fz_M) (N := 22) hx hb hts it_M tz_M tz_M_ok nz_M hown hK hP hD hS 0 rfl rfl 0 (by decide) (hts _ tw_601) (fun _ h9 => h9) rfl (by decide +kernel) rfl rfl (Nat.le_of_ble_eq_true rfl) d_M_block_2 (fun H locs hP hD hS => ?_)
  replace hP : va_P (dC, dI) vwCl [(a_m, .inr (5, [.int 0, .ref a_sa, .int v_sz, .int v_at, .int v_wr, .ref a_ru, .ref a_me, .ref a_le, .int v_n, .ref a_cl, .ref a_te, .ref a_ki, .ref a_ty, .ref a_bl, .ref a_ex, .ref a_lo, .int v_nl, .ref a_ho, .ref a_fi, .int v_nf, .ref a_cz, .int v_nc])), (a_bl, .inl (k_bl, 50, .inl f_bl))] H := hP
  replace hD : va_D A [(a_m, .inr (5, [.int 0, .ref a_sa, .int v_sz, .int v_at, .int v_wr, .ref a_ru, .ref a_me, .ref a_le, .int v_n, .ref a_cl, .ref a_te, .ref a_ki, .ref a_ty, .ref a_bl, .ref a_ex, .ref a_lo, .int v_nl, .ref a_ho, .ref a_fi, .int v_nf, .ref a_cz, .int v_nc])), (a_bl, .inl (k_bl, 50, .inl f_bl))] := hD
  refine lv_iload_n hx hb d_M_block_5 rfl (lv_at hl 1 rfl) ?_
  have hPc := hP.sub (ws' := []) [] rfl
  have hKc := hK.sub (tys' := []) [] rfl
  refine vp_callSi (va_Run.run (va_runS (As := [.int p0]) (rest := []) ⟨hx, hb, hml, hown, hts⟩ (c_Mg_isPerson l dC dI adK adV (p0 := p0)) (va_cwS 1 hts (gS tw_747 tw_748 tw_46 tw_749) rfl rfl rfl (by decide +kernel) ⟨(Nat.le_of_ble_eq_true rfl), (Nat.le_of_ble_eq_true rfl)⟩) ⟨fun a U g mk q => by obtain ⟨q0, qZ, qP, qK⟩ := q; exact ⟨q0, zz_call qZ, qP, va_K.moved (u := U) (U := U.calling g mk a) (Vm.Alike.refl U.vm) qK⟩, fun U hU hW => ⟨rfl, zz_ro hS hU hW hZ, by rw [hU]; exact hPc, va_K.moved hW.alike hKc⟩⟩ rfl rfl hl.1 rfl (lv_room (Nat.le_of_ble_eq_true rfl)) d_M_block_6 ⟨(Nat.le_of_ble_eq_true rfl), (Nat.le_of_ble_eq_true rfl)⟩)) (fun r_1 hw_2 => ?_)
  clear hPc hKc
  subst hw_2
  refine lv_if_eq (tgt := 22) hx hb d_M_block_9 (by decide) (fun c_3 => ?_) (fun c_3 => ?_)
  · rw [if_pos c_3] at hE
    refine lv_iconst (v := (-1)) hx hb d_M_block_22 (by decide) ?_
    have hP9 := hP.sub (ws' := [(a_m, .inr (5, [.int 0, .ref a_sa, .int v_sz, .int v_at, .int v_wr, .ref a_ru, .ref a_me, .ref a_le, .int v_n, .ref a_cl, .ref a_te, .ref a_ki, .ref a_ty, .ref a_bl, .ref a_ex, .ref a_lo, .int v_nl, .ref a_ho, .ref a_fi, .int v_nf, .ref a_cz, .int v_nc])), (a_bl, .inl (k_bl, 50, .inl f_bl))]) [0, 1] rfl
    have hD9 := hD.sub (ws' := [(a_m, .inr (5, [.int 0, .ref a_sa, .int v_sz, .int v_at, .int v_wr, .ref a_ru, .ref a_me, .ref a_le, .int v_n, .ref a_cl, .ref a_te, .ref a_ki, .ref a_ty, .ref a_bl, .ref a_ex, .ref a_lo, .int v_nl, .ref a_ho, .ref a_fi, .int v_nf, .ref a_cz, .int v_nc])), (a_bl, .inl (k_bl, 50, .inl f_bl))]) [0, 1] (by decide) rfl
    have hK9 := hK.sub (tys' := [(k_bl, .int)]) [0] rfl
    exact W.iret (v := (-1)) hx hb hr (fun t ht hW => ⟨⟨(-1), (), rfl, by rw [← hz, hE], by rw [ht, ← hz, hE]; exact hP9, va_K.moved hW.alike hK9, by rw [← hz, hE]; exact hD9⟩, hS.F ht⟩) hS.2.2 d_M_block_23
  · rw [if_neg c_3] at hE
    refine lv_iload_n hx hb d_M_block_12 rfl (lv_at hl 2 rfl) ?_
    refine lv_if_lt (tgt := 22) hx hb d_M_block_13 (by decide) (fun c_4 => ?_) (fun c_4 => ?_)
    · rw [if_pos c_4] at hE
      refine lv_iconst (v := (-1)) hx hb d_M_block_22 (by decide) ?_
      have hP9 := hP.sub (ws' := [(a_m, .inr (5, [.int 0, .ref a_sa, .int v_sz, .int v_at, .int v_wr, .ref a_ru, .ref a_me, .ref a_le, .int v_n, .ref a_cl, .ref a_te, .ref a_ki, .ref a_ty, .ref a_bl, .ref a_ex, .ref a_lo, .int v_nl, .ref a_ho, .ref a_fi, .int v_nf, .ref a_cz, .int v_nc])), (a_bl, .inl (k_bl, 50, .inl f_bl))]) [0, 1] rfl
      have hD9 := hD.sub (ws' := [(a_m, .inr (5, [.int 0, .ref a_sa, .int v_sz, .int v_at, .int v_wr, .ref a_ru, .ref a_me, .ref a_le, .int v_n, .ref a_cl, .ref a_te, .ref a_ki, .ref a_ty, .ref a_bl, .ref a_ex, .ref a_lo, .int v_nl, .ref a_ho, .ref a_fi, .int v_nf, .ref a_cz, .int v_nc])), (a_bl, .inl (k_bl, 50, .inl f_bl))]) [0, 1] (by decide) rfl
      have hK9 := hK.sub (tys' := [(k_bl, .int)]) [0] rfl
      exact W.iret (v := (-1)) hx hb hr (fun t ht hW => ⟨⟨(-1), (), rfl, by rw [← hz, hE], by rw [ht, ← hz, hE]; exact hP9, va_K.moved hW.alike hK9, by rw [← hz, hE]; exact hD9⟩, hS.F ht⟩) hS.2.2 d_M_block_23
    · rw [if_neg c_4] at hE
      refine lv_iload_n hx hb d_M_block_16 rfl (lv_at hl 2 rfl) ?_
      refine lv_bipush (v := 9) hx hb d_M_block_17 (by decide) ?_
      refine lv_icmp_le (tgt := 24) hx hb d_M_block_19 (by decide) (fun c_5 => ?_) (fun c_5 => ?_)
      · rw [if_pos c_5] at hE
        refine lv_aload_n hx hb d_M_block_24 rfl (lv_at hl 0 rfl) ?_
        refine va_get (D := (dC, dI)) (ci := 5) (v := .ref a_bl) (C := "LoanRulesModel") (T := Fz_M) (N := 22) hx hb hts it_M hown hK hP 0 rfl rfl 13 (by decide) (hts _ tw_614) (fun _ h9 => h9) rfl d_M_block_25 ?_
        refine lv_iload_n hx hb d_M_block_28 rfl (lv_at hl 1 rfl) ?_
        have i_6 : vp_in p0 50 := ix50 (persM c_3)
        refine va_iald (D := (dC, dI)) hx hb hK hP 1 0 rfl rfl i_6 d_M_block_29 ?_
        refine lv_istore_n (lv' := [(3, .int (f_bl p0.toNatClampNeg)), (0, .ref a_m), (1, .int p0), (2, .int p1)]) hx hb d_M_block_30 rfl hl (by decide) rfl (fun ls hl => ?_)
        refine lv_aload_n hx hb d_M_block_31 rfl (lv_at hl 1 rfl) ?_
        refine va_get (D := (dC, dI)) (ci := 5) (v := .ref a_bl) (C := "LoanRulesModel") (T := Fz_M) (N := 22) hx hb hts it_M hown hK hP 0 rfl rfl 13 (by decide) (hts _ tw_614) (fun _ h9 => h9) rfl d_M_block_32 ?_
        refine lv_iload_n hx hb d_M_block_35 rfl (lv_at hl 2 rfl) ?_
        refine lv_iload_n hx hb d_M_block_36 rfl (lv_at hl 3 rfl) ?_
        have i_7 : vp_in p0 50 := ix50 (persM c_3)
        refine va_iast (D := (dC, dI)) hx hb hK hP hD hS 1 0 rfl rfl i_7 d_M_block_37 (fun H locs hP hD hS => ?_)
        replace hP : va_P (dC, dI) vwCl [(a_m, .inr (5, [.int 0, .ref a_sa, .int v_sz, .int v_at, .int v_wr, .ref a_ru, .ref a_me, .ref a_le, .int v_n, .ref a_cl, .ref a_te, .ref a_ki, .ref a_ty, .ref a_bl, .ref a_ex, .ref a_lo, .int v_nl, .ref a_ho, .ref a_fi, .int v_nf, .ref a_cz, .int v_nc])), (a_bl, .inl (k_bl, 50, .inl (upd f_bl p0.toNatClampNeg p1)))] H := hP
        replace hD : va_D A [(a_m, .inr (5, [.int 0, .ref a_sa, .int v_sz, .int v_at, .int v_wr, .ref a_ru, .ref a_me, .ref a_le, .int v_n, .ref a_cl, .ref a_te, .ref a_ki, .ref a_ty, .ref a_bl, .ref a_ex, .ref a_lo, .int v_nl, .ref a_ho, .ref a_fi, .int v_nf, .ref a_cz, .int v_nc])), (a_bl, .inl (k_bl, 50, .inl (upd f_bl p0.toNatClampNeg p1)))] := hD
        refine lv_iload_n hx hb d_M_block_38 rfl (lv_at hl 0 rfl) ?_
        have hP9 := hP.sub (ws' := [(a_m, .inr (5, [.int 0, .ref a_sa, .int v_sz, .int v_at, .int v_wr, .ref a_ru, .ref a_me, .ref a_le, .int v_n, .ref a_cl, .ref a_te, .ref a_ki, .ref a_ty, .ref a_bl, .ref a_ex, .ref a_lo, .int v_nl, .ref a_ho, .ref a_fi, .int v_nf, .ref a_cz, .int v_nc])), (a_bl, .inl (k_bl, 50, .inl (upd f_bl p0.toNatClampNeg p1)))]) [0, 1] rfl
        have hD9 := hD.sub (ws' := [(a_m, .inr (5, [.int 0, .ref a_sa, .int v_sz, .int v_at, .int v_wr, .ref a_ru, .ref a_me, .ref a_le, .int v_n, .ref a_cl, .ref a_te, .ref a_ki, .ref a_ty, .ref a_bl, .ref a_ex, .ref a_lo, .int v_nl, .ref a_ho, .ref a_fi, .int v_nf, .ref a_cz, .int v_nc])), (a_bl, .inl (k_bl, 50, .inl (upd f_bl p0.toNatClampNeg p1)))]) [0, 1] (by decide) rfl
        have hK9 := hK.sub (tys' := [(k_bl, .int)]) [0] rfl
        exact W.iret (v := f_bl p0.toNatClampNeg) hx hb hr (fun t ht hW => ⟨⟨f_bl p0.toNatClampNeg, (), rfl, by rw [← hz, hE], by rw [ht, ← hz, hE]; exact hP9, va_K.moved hW.alike hK9, by rw [← hz, hE]; exact hD9⟩, hS.F ht⟩) hS.2.2 d_M_block_39
      · rw [if_neg c_5] at hE
        refine lv_iconst (v := (-1)) hx hb d_M_block_22 (by decide) ?_
        have hP9 := hP.sub (ws' := [(a_m, .inr (5, [.int 0, .ref a_sa, .int v_sz, .int v_at, .int v_wr, .ref a_ru, .ref a_me, .ref a_le, .int v_n, .ref a_cl, .ref a_te, .ref a_ki, .ref a_ty, .ref a_bl, .ref a_ex, .ref a_lo, .int v_nl, .ref a_ho, .ref a_fi, .int v_nf, .ref a_cz, .int v_nc])), (a_bl, .inl (k_bl, 50, .inl f_bl))]) [0, 1] rfl
        have hD9 := hD.sub (ws' := [(a_m, .inr (5, [.int 0, .ref a_sa, .int v_sz, .int v_at, .int v_wr, .ref a_ru, .ref a_me, .ref a_le, .int v_n, .ref a_cl, .ref a_te, .ref a_ki, .ref a_ty, .ref a_bl, .ref a_ex, .ref a_lo, .int v_nl, .ref a_ho, .ref a_fi, .int v_nf, .ref a_cz, .int v_nc])), (a_bl, .inl (k_bl, 50, .inl f_bl))]) [0, 1] (by decide) rfl
        have hK9 := hK.sub (tys' := [(k_bl, .int)]) [0] rfl
        exact W.iret (v := (-1)) hx hb hr (fun t ht hW => ⟨⟨(-1), (), rfl, by rw [← hz, hE], by rw [ht, ← hz, hE]; exact hP9, va_K.moved hW.alike hK9, by rw [← hz, hE]; exact hD9⟩, hS.F ht⟩) hS.2.2 d_M_block_23
def g_Mg_isRule (p0 : Int32) (v_n : Int32) : Int32 :=
  if p0 < 0 then
    0
  else
    if v_n ≤ p0 then
      0
    else
      1
set_option maxHeartbeats 4000000 in
set_option maxRecDepth 100000 in
theorem c_Mg_isRule (l : Launch) (dC : Nat → ClassId) (dI : Nat → Nat → Nat) (adK adV : Nat → Nat) (a_m : Nat) (p0 : Int32) (v_th : Int32) (a_sa : Nat) (v_sz : Int32) (v_at : Int32) (v_wr : Int32) (a_ru : Nat) (a_me : Nat) (a_le : Nat) (v_n : Int32) (a_cl : Nat) (a_te : Nat) (a_ki : Nat) (a_ty : Nat) (a_bl : Nat) (a_ex : Nat) (a_lo : Nat) (v_nl : Int32) (a_ho : Nat) (a_fi : Nat) (v_nf : Int32) (a_cz : Nat) (v_nc : Int32) : Met l y_M_isRule ws_M_isRule ({ frames := 0, cells := 0, slots := 0, locals := 0 }) (va_Pc [.ref a_m, .int p0] (fun U => zz adK adV (fun _ => False) U ∧ va_P (dC, dI) vwCl [(a_m, .inr (5, [.int v_th, .ref a_sa, .int v_sz, .int v_at, .int v_wr, .ref a_ru, .ref a_me, .ref a_le, .int v_n, .ref a_cl, .ref a_te, .ref a_ki, .ref a_ty, .ref a_bl, .ref a_ex, .ref a_lo, .int v_nl, .ref a_ho, .ref a_fi, .int v_nf, .ref a_cz, .int v_nc]))] U.heap ∧ va_K (dC, dI) vwCl [] U)) (vp_Si (fun r => r = g_Mg_isRule p0 v_n)) 0 0 (fun _ => False) := by
  refine Met.ofW (cc := c_M_isRule) (maxL := 2) (ret := (some .boolean)) (by decide) rfl ?_
  intro p e s m args below meth c s₁ B hml hv
  obtain ⟨rfl, hZ, hP, hK⟩ := hv
  have hx := B.exec
  have hb := B.bytes
  have hr := B.returns
  have hts0 := atoms_spec (ws := ws_M_isRule) B.pre
  have hts : ∀ w ∈ TT, w.before _ s = true := fun w h => hts0 w (List.mem_cons_of_mem _ h)
  have hown : s.vm.findClass "LoanRulesModel" = some m.cls := findClass_of_methodNamed B.named
  have hlocks := B.notSynchronized
  have hS : va_S (fun _ => False) s.heap s.heap [] := va_S.rf
  replace hP : va_P (dC, dI) vwCl [(a_m, .inr (5, [.int v_th, .ref a_sa, .int v_sz, .int v_at, .int v_wr, .ref a_ru, .ref a_me, .ref a_le, .int v_n, .ref a_cl, .ref a_te, .ref a_ki, .ref a_ty, .ref a_bl, .ref a_ex, .ref a_lo, .int v_nl, .ref a_ho, .ref a_fi, .int v_nf, .ref a_cz, .int v_nc]))] s.heap := hP
  have hl := lv_entry ([.ref a_m, .int p0]) (n := 2) (Nat.le_of_ble_eq_true rfl)
  rw [lg_entry_eq]
  generalize (lg_sl ([.ref a_m, .int p0]) ++ List.replicate (2 - (lg_sl ([.ref a_m, .int p0])).length) Slot.unset).toArray = ls at hl ⊢
  replace hl : lv_has ls 2 [(0, .ref a_m), (1, .int p0)] := hl
  obtain ⟨z, hz⟩ : ∃ z, z = g_Mg_isRule p0 v_n := ⟨_, rfl⟩
  have hE := hz
  rw [g_Mg_isRule] at hE
  refine lv_iload_n hx hb d_M_isRule_0 rfl (lv_at hl 1 rfl) ?_
  refine lv_if_lt (tgt := 16) hx hb d_M_isRule_1 (by decide) (fun c_1 => ?_) (fun c_1 => ?_)
  · rw [if_pos c_1] at hE
    refine lv_iconst (v := 0) hx hb d_M_isRule_16 (by decide) ?_
    exact W.zret (v := 0) hx hb hr rfl (fun t ht hW => ⟨0, rfl, hE.symm.trans hz, ht⟩) (fun _ h => by cases h) d_M_isRule_17
  · rw [if_neg c_1] at hE
    refine lv_iload_n hx hb d_M_isRule_4 rfl (lv_at hl 1 rfl) ?_
    refine lv_aload_n hx hb d_M_isRule_5 rfl (lv_at hl 0 rfl) ?_
    refine va_get (D := (dC, dI)) (ci := 5) (v := .int v_n) (C := "LoanRulesModel") (T := Fz_M) (N := 22) hx hb hts it_M hown hK hP 0 rfl rfl 8 (by decide) (hts _ tw_609) (fun _ h9 => h9) rfl d_M_isRule_6 ?_
    refine lv_icmp_ge (tgt := 16) hx hb d_M_isRule_9 (by decide) (fun c_2 => ?_) (fun c_2 => ?_)
    · rw [if_pos c_2] at hE
      refine lv_iconst (v := 0) hx hb d_M_isRule_16 (by decide) ?_
      exact W.zret (v := 0) hx hb hr rfl (fun t ht hW => ⟨0, rfl, hE.symm.trans hz, ht⟩) (fun _ h => by cases h) d_M_isRule_17
    · rw [if_neg c_2] at hE
      refine lv_iconst (v := 1) hx hb d_M_isRule_12 (by decide) ?_
      refine lv_goto (tgt := 17) hx hb d_M_isRule_13 (by decide) ?_
      exact W.zret (v := 1) hx hb hr rfl (fun t ht hW => ⟨1, rfl, hE.symm.trans hz, ht⟩) (fun _ h => by cases h) d_M_isRule_17
theorem ruleM {x n : Int32} (c : ¬ g_Mg_isRule x n = 0) (hn : n.toInt ≤ 40) : 0 ≤ x.toInt ∧ x.toInt < 40 := by
  unfold g_Mg_isRule at c
  split at c
  · exact absurd rfl c
  · rename_i h1
    split at c
    · exact absurd rfl c
    · rename_i h2
      exact li_ltn h1 h2 hn
def g_Mg_except (p0 : Int32) (p1 : Int32) (p2 : Int32) (v_n : Int32) (f_ex : Nat → Int32) : Int32 × Int32 × (Nat → Int32) :=
  if (g_Mg_isPerson p0) = 0 then
    (0, 0, f_ex)
  else
    if (g_Mg_isRule p1 v_n) = 0 then
      (0, 0, f_ex)
    else
      if 0 ≤ p2 then
        if p2 ≤ 9999 then
          (1, 0, upd f_ex ((40 * p0) + p1).toNatClampNeg (p2 + 1))
        else
          (1, 0, upd f_ex ((40 * p0) + p1).toNatClampNeg 10000)
      else
        (1, 0, upd f_ex ((40 * p0) + p1).toNatClampNeg 0)
set_option maxHeartbeats 4000000 in
set_option maxRecDepth 100000 in
theorem c_Mg_except (l : Launch) (dC : Nat → ClassId) (dI : Nat → Nat → Nat) (adK adV : Nat → Nat) (a_m : Nat) (a_ex : Nat) (k_ex : ClassId) (p0 : Int32) (p1 : Int32) (p2 : Int32) (v_th : Int32) (a_sa : Nat) (v_sz : Int32) (v_at : Int32) (v_wr : Int32) (a_ru : Nat) (a_me : Nat) (a_le : Nat) (v_n : Int32) (a_cl : Nat) (a_te : Nat) (a_ki : Nat) (a_ty : Nat) (a_bl : Nat) (a_lo : Nat) (v_nl : Int32) (a_ho : Nat) (a_fi : Nat) (v_nf : Int32) (a_cz : Nat) (v_nc : Int32) (f_ex : Nat → Int32) (sz : Nat) (hn : 0 ≤ v_n.toInt ∧ v_n.toInt ≤ 40) : Met l y_M_except ws_M_except ({ frames := 1, cells := 0, slots := 0, locals := 21 }) (va_Pc [.ref a_m, .int p0, .int p1, .int p2] (fun U => U.heap.size = sz ∧ zz adK adV (va_A [(a_m, .inr (5, [.int v_th, .ref a_sa, .int v_sz, .int v_at, .int v_wr, .ref a_ru, .ref a_me, .ref a_le, .int v_n, .ref a_cl, .ref a_te, .ref a_ki, .ref a_ty, .ref a_bl, .ref a_ex, .ref a_lo, .int v_nl, .ref a_ho, .ref a_fi, .int v_nf, .ref a_cz, .int v_nc])), (a_ex, .inl (k_ex, 2000, .inl f_ex))] sz) U ∧ va_P (dC, dI) vwCl [(a_m, .inr (5, [.int v_th, .ref a_sa, .int v_sz, .int v_at, .int v_wr, .ref a_ru, .ref a_me, .ref a_le, .int v_n, .ref a_cl, .ref a_te, .ref a_ki, .ref a_ty, .ref a_bl, .ref a_ex, .ref a_lo, .int v_nl, .ref a_ho, .ref a_fi, .int v_nf, .ref a_cz, .int v_nc])), (a_ex, .inl (k_ex, 2000, .inl f_ex))] U.heap ∧ va_K (dC, dI) vwCl [(k_ex, .int)] U ∧ va_D (fun _ => True) [(a_m, .inr (5, [.int v_th, .ref a_sa, .int v_sz, .int v_at, .int v_wr, .ref a_ru, .ref a_me, .ref a_le, .int v_n, .ref a_cl, .ref a_te, .ref a_ki, .ref a_ty, .ref a_bl, .ref a_ex, .ref a_lo, .int v_nl, .ref a_ho, .ref a_fi, .int v_nf, .ref a_cz, .int v_nc])), (a_ex, .inl (k_ex, 2000, .inl f_ex))])) (va_Qi (fun (r : Int32) (_ : Unit) => r = (g_Mg_except p0 p1 p2 v_n f_ex).1) (fun (_ : Unit) (t : State) => va_P (dC, dI) vwCl [(a_m, .inr (5, [.int ((g_Mg_except p0 p1 p2 v_n f_ex).2.1), .ref a_sa, .int v_sz, .int v_at, .int v_wr, .ref a_ru, .ref a_me, .ref a_le, .int v_n, .ref a_cl, .ref a_te, .ref a_ki, .ref a_ty, .ref a_bl, .ref a_ex, .ref a_lo, .int v_nl, .ref a_ho, .ref a_fi, .int v_nf, .ref a_cz, .int v_nc])), (a_ex, .inl (k_ex, 2000, .inl ((g_Mg_except p0 p1 p2 v_n f_ex).2.2)))] t.heap ∧ va_K (dC, dI) vwCl [(k_ex, .int)] t ∧ va_D (va_A [(a_m, .inr (5, [.int v_th, .ref a_sa, .int v_sz, .int v_at, .int v_wr, .ref a_ru, .ref a_me, .ref a_le, .int v_n, .ref a_cl, .ref a_te, .ref a_ki, .ref a_ty, .ref a_bl, .ref a_ex, .ref a_lo, .int v_nl, .ref a_ho, .ref a_fi, .int v_nf, .ref a_cz, .int v_nc])), (a_ex, .inl (k_ex, 2000, .inl f_ex))] sz) [(a_m, .inr (5, [.int ((g_Mg_except p0 p1 p2 v_n f_ex).2.1), .ref a_sa, .int v_sz, .int v_at, .int v_wr, .ref a_ru, .ref a_me, .ref a_le, .int v_n, .ref a_cl, .ref a_te, .ref a_ki, .ref a_ty, .ref a_bl, .ref a_ex, .ref a_lo, .int v_nl, .ref a_ho, .ref a_fi, .int v_nf, .ref a_cz, .int v_nc])), (a_ex, .inl (k_ex, 2000, .inl ((g_Mg_except p0 p1 p2 v_n f_ex).2.2)))]) (va_A [(a_m, .inr (5, [.int v_th, .ref a_sa, .int v_sz, .int v_at, .int v_wr, .ref a_ru, .ref a_me, .ref a_le, .int v_n, .ref a_cl, .ref a_te, .ref a_ki, .ref a_ty, .ref a_bl, .ref a_ex, .ref a_lo, .int v_nl, .ref a_ho, .ref a_fi, .int v_nf, .ref a_cz, .int v_nc])), (a_ex, .inl (k_ex, 2000, .inl f_ex))] sz)) 0 0 (va_A [(a_m, .inr (5, [.int v_th, .ref a_sa, .int v_sz, .int v_at, .int v_wr, .ref a_ru, .ref a_me, .ref a_le, .int v_n, .ref a_cl, .ref a_te, .ref a_ki, .ref a_ty, .ref a_bl, .ref a_ex, .ref a_lo, .int v_nl, .ref a_ho, .ref a_fi, .int v_nf, .ref a_cz, .int v_nc])), (a_ex, .inl (k_ex, 2000, .inl f_ex))] sz) := by
  refine Met.ofW (cc := c_M_except) (maxL := 4) (ret := (some .int)) (by decide) rfl ?_
  intro p e s m args below meth c s₁ B hml hv
  obtain ⟨rfl, hsz, hZ, hP, hK, hD0⟩ := hv
  have hx := B.exec
  have hb := B.bytes
  have hr := B.returns
  have hts0 := atoms_spec (ws := ws_M_except) B.pre
  have hts : ∀ w ∈ TT, w.before _ s = true := fun w h => hts0 w (List.mem_cons_of_mem _ h)
  have hown : s.vm.findClass "LoanRulesModel" = some m.cls := findClass_of_methodNamed B.named
  have hlocks := B.notSynchronized
  subst hsz
  have hD := hD0.self (sz := s.heap.size)
  generalize hAe : va_A [(a_m, .inr (5, [.int v_th, .ref a_sa, .int v_sz, .int v_at, .int v_wr, .ref a_ru, .ref a_me, .ref a_le, .int v_n, .ref a_cl, .ref a_te, .ref a_ki, .ref a_ty, .ref a_bl, .ref a_ex, .ref a_lo, .int v_nl, .ref a_ho, .ref a_fi, .int v_nf, .ref a_cz, .int v_nc])), (a_ex, .inl (k_ex, 2000, .inl f_ex))] s.heap.size = A at hD hZ ⊢
  have hA : ∀ q : Nat, s.heap.size ≤ q → A q := fun q h => by rw [← hAe]; exact Or.inr h
  clear hAe hD0
  have hS : va_S A s.heap s.heap [] := va_S.rf
  replace hP : va_P (dC, dI) vwCl [(a_m, .inr (5, [.int v_th, .ref a_sa, .int v_sz, .int v_at, .int v_wr, .ref a_ru, .ref a_me, .ref a_le, .int v_n, .ref a_cl, .ref a_te, .ref a_ki, .ref a_ty, .ref a_bl, .ref a_ex, .ref a_lo, .int v_nl, .ref a_ho, .ref a_fi, .int v_nf, .ref a_cz, .int v_nc])), (a_ex, .inl (k_ex, 2000, .inl f_ex))] s.heap := hP
  have hl := lv_entry ([.ref a_m, .int p0, .int p1, .int p2]) (n := 4) (Nat.le_of_ble_eq_true rfl)
  rw [lg_entry_eq]
  generalize (lg_sl ([.ref a_m, .int p0, .int p1, .int p2]) ++ List.replicate (4 - (lg_sl ([.ref a_m, .int p0, .int p1, .int p2])).length) Slot.unset).toArray = ls at hl ⊢
  replace hl : lv_has ls 4 [(0, .ref a_m), (1, .int p0), (2, .int p1), (3, .int p2)] := hl
  obtain ⟨z, hz⟩ : ∃ z, z = g_Mg_except p0 p1 p2 v_n f_ex := ⟨_, rfl⟩
  have hE := hz
  rw [g_Mg_except] at hE
  refine lv_aload_n hx hb d_M_except_0 rfl (lv_at hl 0 rfl) ?_
  refine lv_iconst (v := 0) hx hb d_M_except_1 (by decide) ?_
  refine va_put (D := (dC, dI)) (ci := 5) (v := .int 0) (ty := .int) (C := "LoanRulesModel") (T := Fz_M) (N := 22) hx hb hts it_M tz_M tz_M_ok nz_M hown hK hP hD hS 0 rfl rfl 0 (by decide) (hts _ tw_601) (fun _ h9 => h9) rfl (by decide +kernel) rfl rfl (Nat.le_of_ble_eq_true rfl) d_M_except_2 (fun H locs hP hD hS => ?_)
  replace hP : va_P (dC, dI) vwCl [(a_m, .inr (5, [.int 0, .ref a_sa, .int v_sz, .int v_at, .int v_wr, .ref a_ru, .ref a_me, .ref a_le, .int v_n, .ref a_cl, .ref a_te, .ref a_ki, .ref a_ty, .ref a_bl, .ref a_ex, .ref a_lo, .int v_nl, .ref a_ho, .ref a_fi, .int v_nf, .ref a_cz, .int v_nc])), (a_ex, .inl (k_ex, 2000, .inl f_ex))] H := hP
  replace hD : va_D A [(a_m, .inr (5, [.int 0, .ref a_sa, .int v_sz, .int v_at, .int v_wr, .ref a_ru, .ref a_me, .ref a_le, .int v_n, .ref a_cl, .ref a_te, .ref a_ki, .ref a_ty, .ref a_bl, .ref a_ex, .ref a_lo, .int v_nl, .ref a_ho, .ref a_fi, .int v_nf, .ref a_cz, .int v_nc])), (a_ex, .inl (k_ex, 2000, .inl f_ex))] := hD
  refine lv_iload_n hx hb d_M_except_5 rfl (lv_at hl 1 rfl) ?_
  have hPc := hP.sub (ws' := []) [] rfl
  have hKc := hK.sub (tys' := []) [] rfl
  refine vp_callSi (va_Run.run (va_runS (As := [.int p0]) (rest := []) ⟨hx, hb, hml, hown, hts⟩ (c_Mg_isPerson l dC dI adK adV (p0 := p0)) (va_cwS 1 hts (gS tw_747 tw_748 tw_46 tw_749) rfl rfl rfl (by decide +kernel) ⟨(Nat.le_of_ble_eq_true rfl), (Nat.le_of_ble_eq_true rfl)⟩) ⟨fun a U g mk q => by obtain ⟨q0, qZ, qP, qK⟩ := q; exact ⟨q0, zz_call qZ, qP, va_K.moved (u := U) (U := U.calling g mk a) (Vm.Alike.refl U.vm) qK⟩, fun U hU hW => ⟨rfl, zz_ro hS hU hW hZ, by rw [hU]; exact hPc, va_K.moved hW.alike hKc⟩⟩ rfl rfl hl.1 rfl (lv_room (Nat.le_of_ble_eq_true rfl)) d_M_except_6 ⟨(Nat.le_of_ble_eq_true rfl), (Nat.le_of_ble_eq_true rfl)⟩)) (fun r_1 hw_2 => ?_)
  clear hPc hKc
  subst hw_2
  refine lv_if_eq (tgt := 20) hx hb d_M_except_9 (by decide) (fun c_3 => ?_) (fun c_3 => ?_)
  · rw [if_pos c_3] at hE
    refine lv_iconst (v := 0) hx hb d_M_except_20 (by decide) ?_
    have hP9 := hP.sub (ws' := [(a_m, .inr (5, [.int 0, .ref a_sa, .int v_sz, .int v_at, .int v_wr, .ref a_ru, .ref a_me, .ref a_le, .int v_n, .ref a_cl, .ref a_te, .ref a_ki, .ref a_ty, .ref a_bl, .ref a_ex, .ref a_lo, .int v_nl, .ref a_ho, .ref a_fi, .int v_nf, .ref a_cz, .int v_nc])), (a_ex, .inl (k_ex, 2000, .inl f_ex))]) [0, 1] rfl
    have hD9 := hD.sub (ws' := [(a_m, .inr (5, [.int 0, .ref a_sa, .int v_sz, .int v_at, .int v_wr, .ref a_ru, .ref a_me, .ref a_le, .int v_n, .ref a_cl, .ref a_te, .ref a_ki, .ref a_ty, .ref a_bl, .ref a_ex, .ref a_lo, .int v_nl, .ref a_ho, .ref a_fi, .int v_nf, .ref a_cz, .int v_nc])), (a_ex, .inl (k_ex, 2000, .inl f_ex))]) [0, 1] (by decide) rfl
    have hK9 := hK.sub (tys' := [(k_ex, .int)]) [0] rfl
    exact W.iret (v := 0) hx hb hr (fun t ht hW => ⟨⟨0, (), rfl, by rw [← hz, hE], by rw [ht, ← hz, hE]; exact hP9, va_K.moved hW.alike hK9, by rw [← hz, hE]; exact hD9⟩, hS.F ht⟩) hS.2.2 d_M_except_21
  · rw [if_neg c_3] at hE
    refine lv_aload_n hx hb d_M_except_12 rfl (lv_at hl 0 rfl) ?_
    refine lv_iload_n hx hb d_M_except_13 rfl (lv_at hl 2 rfl) ?_
    have hPc := hP.sub (ws' := [(a_m, .inr (5, [.int 0, .ref a_sa, .int v_sz, .int v_at, .int v_wr, .ref a_ru, .ref a_me, .ref a_le, .int v_n, .ref a_cl, .ref a_te, .ref a_ki, .ref a_ty, .ref a_bl, .ref a_ex, .ref a_lo, .int v_nl, .ref a_ho, .ref a_fi, .int v_nf, .ref a_cz, .int v_nc]))]) [0] rfl
    have hKc := hK.sub (tys' := []) [] rfl
    refine vp_callSi (va_Run.run (va_runV (As := [.int p1]) (rest := []) ⟨hx, hb, hml, hown, hts⟩ (c_Mg_isRule l dC dI adK adV (a_m := a_m) (p0 := p1) (v_th := 0) (a_sa := a_sa) (v_sz := v_sz) (v_at := v_at) (v_wr := v_wr) (a_ru := a_ru) (a_me := a_me) (a_le := a_le) (v_n := v_n) (a_cl := a_cl) (a_te := a_te) (a_ki := a_ki) (a_ty := a_ty) (a_bl := a_bl) (a_ex := a_ex) (a_lo := a_lo) (v_nl := v_nl) (a_ho := a_ho) (a_fi := a_fi) (v_nf := v_nf) (a_cz := a_cz) (v_nc := v_nc)) (cwV 1 hts (gV tw_758 tw_760 tw_34 tw_46 tw_761) rfl rfl rfl (by decide +kernel) ⟨(Nat.le_of_ble_eq_true rfl), (Nat.le_of_ble_eq_true rfl)⟩) ⟨fun a U g mk q => by obtain ⟨q0, qZ, qP, qK⟩ := q; exact ⟨q0, zz_call qZ, qP, va_K.moved (u := U) (U := U.calling g mk a) (Vm.Alike.refl U.vm) qK⟩, va_recv hKc hPc (ci := 5) (q0 := 0) rfl rfl, fun U hU hW => ⟨rfl, zz_ro hS hU hW hZ, by rw [hU]; exact hPc, va_K.moved hW.alike hKc⟩⟩ rfl rfl hl.1 rfl (lv_room (Nat.le_of_ble_eq_true rfl)) d_M_except_14 ⟨(Nat.le_of_ble_eq_true rfl), (Nat.le_of_ble_eq_true rfl)⟩)) (fun r_4 hw_5 => ?_)
    clear hPc hKc
    subst hw_5
    refine lv_if_ne (tgt := 22) hx hb d_M_except_17 (by decide) (fun c_6 => ?_) (fun c_6 => ?_)
    · rw [if_neg c_6] at hE
      refine lv_aload_n hx hb d_M_except_22 rfl (lv_at hl 0 rfl) ?_
      refine va_get (D := (dC, dI)) (ci := 5) (v := .ref a_ex) (C := "LoanRulesModel") (T := Fz_M) (N := 22) hx hb hts it_M hown hK hP 0 rfl rfl 14 (by decide) (hts _ tw_615) (fun _ h9 => h9) rfl d_M_except_23 ?_
      refine lv_bipush (v := 40) hx hb d_M_except_26 (by decide) ?_
      refine lv_iload_n hx hb d_M_except_28 rfl (lv_at hl 1 rfl) ?_
      refine lv_imul hx hb d_M_except_29 ?_
      refine lv_iload_n hx hb d_M_except_30 rfl (lv_at hl 2 rfl) ?_
      refine lv_iadd hx hb d_M_except_31 ?_
      refine lv_iload_n hx hb d_M_except_32 rfl (lv_at hl 3 rfl) ?_
      refine lv_if_ge (tgt := 40) hx hb d_M_except_33 (by decide) (fun c_7 => ?_) (fun c_7 => ?_)
      · rw [if_pos c_7] at hE
        refine lv_iload_n hx hb d_M_except_40 rfl (lv_at hl 3 rfl) ?_
        refine lv_sipush (v := 9999) hx hb d_M_except_41 (by decide) ?_
        refine lv_icmp_le (tgt := 53) hx hb d_M_except_44 (by decide) (fun c_8 => ?_) (fun c_8 => ?_)
        · rw [if_pos c_8] at hE
          refine lv_iload_n hx hb d_M_except_53 rfl (lv_at hl 3 rfl) ?_
          refine lv_iconst (v := 1) hx hb d_M_except_54 (by decide) ?_
          refine lv_iadd hx hb d_M_except_55 ?_
          have i_9 : vp_in ((40 * p0) + p1) 2000 := ix40 (persM c_3) (ruleM c_6 hn.2)
          refine va_iast (D := (dC, dI)) hx hb hK hP hD hS 1 0 rfl rfl i_9 d_M_except_56 (fun H locs hP hD hS => ?_)
          replace hP : va_P (dC, dI) vwCl [(a_m, .inr (5, [.int 0, .ref a_sa, .int v_sz, .int v_at, .int v_wr, .ref a_ru, .ref a_me, .ref a_le, .int v_n, .ref a_cl, .ref a_te, .ref a_ki, .ref a_ty, .ref a_bl, .ref a_ex, .ref a_lo, .int v_nl, .ref a_ho, .ref a_fi, .int v_nf, .ref a_cz, .int v_nc])), (a_ex, .inl (k_ex, 2000, .inl (upd f_ex ((40 * p0) + p1).toNatClampNeg (p2 + 1))))] H := hP
          replace hD : va_D A [(a_m, .inr (5, [.int 0, .ref a_sa, .int v_sz, .int v_at, .int v_wr, .ref a_ru, .ref a_me, .ref a_le, .int v_n, .ref a_cl, .ref a_te, .ref a_ki, .ref a_ty, .ref a_bl, .ref a_ex, .ref a_lo, .int v_nl, .ref a_ho, .ref a_fi, .int v_nf, .ref a_cz, .int v_nc])), (a_ex, .inl (k_ex, 2000, .inl (upd f_ex ((40 * p0) + p1).toNatClampNeg (p2 + 1))))] := hD
          refine lv_iconst (v := 1) hx hb d_M_except_57 (by decide) ?_
          have hP9 := hP.sub (ws' := [(a_m, .inr (5, [.int 0, .ref a_sa, .int v_sz, .int v_at, .int v_wr, .ref a_ru, .ref a_me, .ref a_le, .int v_n, .ref a_cl, .ref a_te, .ref a_ki, .ref a_ty, .ref a_bl, .ref a_ex, .ref a_lo, .int v_nl, .ref a_ho, .ref a_fi, .int v_nf, .ref a_cz, .int v_nc])), (a_ex, .inl (k_ex, 2000, .inl (upd f_ex ((40 * p0) + p1).toNatClampNeg (p2 + 1))))]) [0, 1] rfl
          have hD9 := hD.sub (ws' := [(a_m, .inr (5, [.int 0, .ref a_sa, .int v_sz, .int v_at, .int v_wr, .ref a_ru, .ref a_me, .ref a_le, .int v_n, .ref a_cl, .ref a_te, .ref a_ki, .ref a_ty, .ref a_bl, .ref a_ex, .ref a_lo, .int v_nl, .ref a_ho, .ref a_fi, .int v_nf, .ref a_cz, .int v_nc])), (a_ex, .inl (k_ex, 2000, .inl (upd f_ex ((40 * p0) + p1).toNatClampNeg (p2 + 1))))]) [0, 1] (by decide) rfl
          have hK9 := hK.sub (tys' := [(k_ex, .int)]) [0] rfl
          exact W.iret (v := 1) hx hb hr (fun t ht hW => ⟨⟨1, (), rfl, by rw [← hz, hE], by rw [ht, ← hz, hE]; exact hP9, va_K.moved hW.alike hK9, by rw [← hz, hE]; exact hD9⟩, hS.F ht⟩) hS.2.2 d_M_except_58
        · rw [if_neg c_8] at hE
          refine lv_sipush (v := 10000) hx hb d_M_except_47 (by decide) ?_
          refine lv_goto (tgt := 56) hx hb d_M_except_50 (by decide) ?_
          have i_10 : vp_in ((40 * p0) + p1) 2000 := ix40 (persM c_3) (ruleM c_6 hn.2)
          refine va_iast (D := (dC, dI)) hx hb hK hP hD hS 1 0 rfl rfl i_10 d_M_except_56 (fun H locs hP hD hS => ?_)
          replace hP : va_P (dC, dI) vwCl [(a_m, .inr (5, [.int 0, .ref a_sa, .int v_sz, .int v_at, .int v_wr, .ref a_ru, .ref a_me, .ref a_le, .int v_n, .ref a_cl, .ref a_te, .ref a_ki, .ref a_ty, .ref a_bl, .ref a_ex, .ref a_lo, .int v_nl, .ref a_ho, .ref a_fi, .int v_nf, .ref a_cz, .int v_nc])), (a_ex, .inl (k_ex, 2000, .inl (upd f_ex ((40 * p0) + p1).toNatClampNeg 10000)))] H := hP
          replace hD : va_D A [(a_m, .inr (5, [.int 0, .ref a_sa, .int v_sz, .int v_at, .int v_wr, .ref a_ru, .ref a_me, .ref a_le, .int v_n, .ref a_cl, .ref a_te, .ref a_ki, .ref a_ty, .ref a_bl, .ref a_ex, .ref a_lo, .int v_nl, .ref a_ho, .ref a_fi, .int v_nf, .ref a_cz, .int v_nc])), (a_ex, .inl (k_ex, 2000, .inl (upd f_ex ((40 * p0) + p1).toNatClampNeg 10000)))] := hD
          refine lv_iconst (v := 1) hx hb d_M_except_57 (by decide) ?_
          have hP9 := hP.sub (ws' := [(a_m, .inr (5, [.int 0, .ref a_sa, .int v_sz, .int v_at, .int v_wr, .ref a_ru, .ref a_me, .ref a_le, .int v_n, .ref a_cl, .ref a_te, .ref a_ki, .ref a_ty, .ref a_bl, .ref a_ex, .ref a_lo, .int v_nl, .ref a_ho, .ref a_fi, .int v_nf, .ref a_cz, .int v_nc])), (a_ex, .inl (k_ex, 2000, .inl (upd f_ex ((40 * p0) + p1).toNatClampNeg 10000)))]) [0, 1] rfl
          have hD9 := hD.sub (ws' := [(a_m, .inr (5, [.int 0, .ref a_sa, .int v_sz, .int v_at, .int v_wr, .ref a_ru, .ref a_me, .ref a_le, .int v_n, .ref a_cl, .ref a_te, .ref a_ki, .ref a_ty, .ref a_bl, .ref a_ex, .ref a_lo, .int v_nl, .ref a_ho, .ref a_fi, .int v_nf, .ref a_cz, .int v_nc])), (a_ex, .inl (k_ex, 2000, .inl (upd f_ex ((40 * p0) + p1).toNatClampNeg 10000)))]) [0, 1] (by decide) rfl
          have hK9 := hK.sub (tys' := [(k_ex, .int)]) [0] rfl
          exact W.iret (v := 1) hx hb hr (fun t ht hW => ⟨⟨1, (), rfl, by rw [← hz, hE], by rw [ht, ← hz, hE]; exact hP9, va_K.moved hW.alike hK9, by rw [← hz, hE]; exact hD9⟩, hS.F ht⟩) hS.2.2 d_M_except_58
      · rw [if_neg c_7] at hE
        refine lv_iconst (v := 0) hx hb d_M_except_36 (by decide) ?_
        refine lv_goto (tgt := 56) hx hb d_M_except_37 (by decide) ?_
        have i_11 : vp_in ((40 * p0) + p1) 2000 := ix40 (persM c_3) (ruleM c_6 hn.2)
        refine va_iast (D := (dC, dI)) hx hb hK hP hD hS 1 0 rfl rfl i_11 d_M_except_56 (fun H locs hP hD hS => ?_)
        replace hP : va_P (dC, dI) vwCl [(a_m, .inr (5, [.int 0, .ref a_sa, .int v_sz, .int v_at, .int v_wr, .ref a_ru, .ref a_me, .ref a_le, .int v_n, .ref a_cl, .ref a_te, .ref a_ki, .ref a_ty, .ref a_bl, .ref a_ex, .ref a_lo, .int v_nl, .ref a_ho, .ref a_fi, .int v_nf, .ref a_cz, .int v_nc])), (a_ex, .inl (k_ex, 2000, .inl (upd f_ex ((40 * p0) + p1).toNatClampNeg 0)))] H := hP
        replace hD : va_D A [(a_m, .inr (5, [.int 0, .ref a_sa, .int v_sz, .int v_at, .int v_wr, .ref a_ru, .ref a_me, .ref a_le, .int v_n, .ref a_cl, .ref a_te, .ref a_ki, .ref a_ty, .ref a_bl, .ref a_ex, .ref a_lo, .int v_nl, .ref a_ho, .ref a_fi, .int v_nf, .ref a_cz, .int v_nc])), (a_ex, .inl (k_ex, 2000, .inl (upd f_ex ((40 * p0) + p1).toNatClampNeg 0)))] := hD
        refine lv_iconst (v := 1) hx hb d_M_except_57 (by decide) ?_
        have hP9 := hP.sub (ws' := [(a_m, .inr (5, [.int 0, .ref a_sa, .int v_sz, .int v_at, .int v_wr, .ref a_ru, .ref a_me, .ref a_le, .int v_n, .ref a_cl, .ref a_te, .ref a_ki, .ref a_ty, .ref a_bl, .ref a_ex, .ref a_lo, .int v_nl, .ref a_ho, .ref a_fi, .int v_nf, .ref a_cz, .int v_nc])), (a_ex, .inl (k_ex, 2000, .inl (upd f_ex ((40 * p0) + p1).toNatClampNeg 0)))]) [0, 1] rfl
        have hD9 := hD.sub (ws' := [(a_m, .inr (5, [.int 0, .ref a_sa, .int v_sz, .int v_at, .int v_wr, .ref a_ru, .ref a_me, .ref a_le, .int v_n, .ref a_cl, .ref a_te, .ref a_ki, .ref a_ty, .ref a_bl, .ref a_ex, .ref a_lo, .int v_nl, .ref a_ho, .ref a_fi, .int v_nf, .ref a_cz, .int v_nc])), (a_ex, .inl (k_ex, 2000, .inl (upd f_ex ((40 * p0) + p1).toNatClampNeg 0)))]) [0, 1] (by decide) rfl
        have hK9 := hK.sub (tys' := [(k_ex, .int)]) [0] rfl
        exact W.iret (v := 1) hx hb hr (fun t ht hW => ⟨⟨1, (), rfl, by rw [← hz, hE], by rw [ht, ← hz, hE]; exact hP9, va_K.moved hW.alike hK9, by rw [← hz, hE]; exact hD9⟩, hS.F ht⟩) hS.2.2 d_M_except_58
    · rw [if_pos c_6] at hE
      refine lv_iconst (v := 0) hx hb d_M_except_20 (by decide) ?_
      have hP9 := hP.sub (ws' := [(a_m, .inr (5, [.int 0, .ref a_sa, .int v_sz, .int v_at, .int v_wr, .ref a_ru, .ref a_me, .ref a_le, .int v_n, .ref a_cl, .ref a_te, .ref a_ki, .ref a_ty, .ref a_bl, .ref a_ex, .ref a_lo, .int v_nl, .ref a_ho, .ref a_fi, .int v_nf, .ref a_cz, .int v_nc])), (a_ex, .inl (k_ex, 2000, .inl f_ex))]) [0, 1] rfl
      have hD9 := hD.sub (ws' := [(a_m, .inr (5, [.int 0, .ref a_sa, .int v_sz, .int v_at, .int v_wr, .ref a_ru, .ref a_me, .ref a_le, .int v_n, .ref a_cl, .ref a_te, .ref a_ki, .ref a_ty, .ref a_bl, .ref a_ex, .ref a_lo, .int v_nl, .ref a_ho, .ref a_fi, .int v_nf, .ref a_cz, .int v_nc])), (a_ex, .inl (k_ex, 2000, .inl f_ex))]) [0, 1] (by decide) rfl
      have hK9 := hK.sub (tys' := [(k_ex, .int)]) [0] rfl
      exact W.iret (v := 0) hx hb hr (fun t ht hW => ⟨⟨0, (), rfl, by rw [← hz, hE], by rw [ht, ← hz, hE]; exact hP9, va_K.moved hW.alike hK9, by rw [← hz, hE]; exact hD9⟩, hS.F ht⟩) hS.2.2 d_M_except_21
def g_Mg_throwsUp (p0 : Int32) (p1 : Int32) (v_n : Int32) (f_le : Nat → Int32) : Int32 × Int32 × (Nat → Int32) :=
  if (g_Mg_isRule p0 v_n) = 0 then
    (0, 0, f_le)
  else
    (f_le p0.toNatClampNeg, 0, upd f_le p0.toNatClampNeg (vp_nar .boolean p1))
set_option maxHeartbeats 4000000 in
set_option maxRecDepth 100000 in
theorem c_Mg_throwsUp (l : Launch) (dC : Nat → ClassId) (dI : Nat → Nat → Nat) (adK adV : Nat → Nat) (a_m : Nat) (a_le : Nat) (k_le : ClassId) (p0 : Int32) (p1 : Int32) (v_th : Int32) (a_sa : Nat) (v_sz : Int32) (v_at : Int32) (v_wr : Int32) (a_ru : Nat) (a_me : Nat) (v_n : Int32) (a_cl : Nat) (a_te : Nat) (a_ki : Nat) (a_ty : Nat) (a_bl : Nat) (a_ex : Nat) (a_lo : Nat) (v_nl : Int32) (a_ho : Nat) (a_fi : Nat) (v_nf : Int32) (a_cz : Nat) (v_nc : Int32) (f_le : Nat → Int32) (sz : Nat) (hn : 0 ≤ v_n.toInt ∧ v_n.toInt ≤ 40) (hle : ∀ k, b01 (f_le k)) : Met l y_M_throwsUp ws_M_throwsUp ({ frames := 1, cells := 0, slots := 0, locals := 21 }) (va_Pc [.ref a_m, .int p0, .int p1] (fun U => U.heap.size = sz ∧ zz adK adV (va_A [(a_m, .inr (5, [.int v_th, .ref a_sa, .int v_sz, .int v_at, .int v_wr, .ref a_ru, .ref a_me, .ref a_le, .int v_n, .ref a_cl, .ref a_te, .ref a_ki, .ref a_ty, .ref a_bl, .ref a_ex, .ref a_lo, .int v_nl, .ref a_ho, .ref a_fi, .int v_nf, .ref a_cz, .int v_nc])), (a_le, .inl (k_le, 40, .inl f_le))] sz) U ∧ va_P (dC, dI) vwCl [(a_m, .inr (5, [.int v_th, .ref a_sa, .int v_sz, .int v_at, .int v_wr, .ref a_ru, .ref a_me, .ref a_le, .int v_n, .ref a_cl, .ref a_te, .ref a_ki, .ref a_ty, .ref a_bl, .ref a_ex, .ref a_lo, .int v_nl, .ref a_ho, .ref a_fi, .int v_nf, .ref a_cz, .int v_nc])), (a_le, .inl (k_le, 40, .inl f_le))] U.heap ∧ va_K (dC, dI) vwCl [(k_le, .boolean)] U ∧ va_D (fun _ => True) [(a_m, .inr (5, [.int v_th, .ref a_sa, .int v_sz, .int v_at, .int v_wr, .ref a_ru, .ref a_me, .ref a_le, .int v_n, .ref a_cl, .ref a_te, .ref a_ki, .ref a_ty, .ref a_bl, .ref a_ex, .ref a_lo, .int v_nl, .ref a_ho, .ref a_fi, .int v_nf, .ref a_cz, .int v_nc])), (a_le, .inl (k_le, 40, .inl f_le))])) (va_Qi (fun (r : Int32) (_ : Unit) => r = (g_Mg_throwsUp p0 p1 v_n f_le).1) (fun (_ : Unit) (t : State) => va_P (dC, dI) vwCl [(a_m, .inr (5, [.int ((g_Mg_throwsUp p0 p1 v_n f_le).2.1), .ref a_sa, .int v_sz, .int v_at, .int v_wr, .ref a_ru, .ref a_me, .ref a_le, .int v_n, .ref a_cl, .ref a_te, .ref a_ki, .ref a_ty, .ref a_bl, .ref a_ex, .ref a_lo, .int v_nl, .ref a_ho, .ref a_fi, .int v_nf, .ref a_cz, .int v_nc])), (a_le, .inl (k_le, 40, .inl ((g_Mg_throwsUp p0 p1 v_n f_le).2.2)))] t.heap ∧ va_K (dC, dI) vwCl [(k_le, .boolean)] t ∧ va_D (va_A [(a_m, .inr (5, [.int v_th, .ref a_sa, .int v_sz, .int v_at, .int v_wr, .ref a_ru, .ref a_me, .ref a_le, .int v_n, .ref a_cl, .ref a_te, .ref a_ki, .ref a_ty, .ref a_bl, .ref a_ex, .ref a_lo, .int v_nl, .ref a_ho, .ref a_fi, .int v_nf, .ref a_cz, .int v_nc])), (a_le, .inl (k_le, 40, .inl f_le))] sz) [(a_m, .inr (5, [.int ((g_Mg_throwsUp p0 p1 v_n f_le).2.1), .ref a_sa, .int v_sz, .int v_at, .int v_wr, .ref a_ru, .ref a_me, .ref a_le, .int v_n, .ref a_cl, .ref a_te, .ref a_ki, .ref a_ty, .ref a_bl, .ref a_ex, .ref a_lo, .int v_nl, .ref a_ho, .ref a_fi, .int v_nf, .ref a_cz, .int v_nc])), (a_le, .inl (k_le, 40, .inl ((g_Mg_throwsUp p0 p1 v_n f_le).2.2)))]) (va_A [(a_m, .inr (5, [.int v_th, .ref a_sa, .int v_sz, .int v_at, .int v_wr, .ref a_ru, .ref a_me, .ref a_le, .int v_n, .ref a_cl, .ref a_te, .ref a_ki, .ref a_ty, .ref a_bl, .ref a_ex, .ref a_lo, .int v_nl, .ref a_ho, .ref a_fi, .int v_nf, .ref a_cz, .int v_nc])), (a_le, .inl (k_le, 40, .inl f_le))] sz)) 0 0 (va_A [(a_m, .inr (5, [.int v_th, .ref a_sa, .int v_sz, .int v_at, .int v_wr, .ref a_ru, .ref a_me, .ref a_le, .int v_n, .ref a_cl, .ref a_te, .ref a_ki, .ref a_ty, .ref a_bl, .ref a_ex, .ref a_lo, .int v_nl, .ref a_ho, .ref a_fi, .int v_nf, .ref a_cz, .int v_nc])), (a_le, .inl (k_le, 40, .inl f_le))] sz) := by
  refine Met.ofW (cc := c_M_throwsUp) (maxL := 4) (ret := (some .boolean)) (by decide) rfl ?_
  intro p e s m args below meth c s₁ B hml hv
  obtain ⟨rfl, hsz, hZ, hP, hK, hD0⟩ := hv
  have hx := B.exec
  have hb := B.bytes
  have hr := B.returns
  have hts0 := atoms_spec (ws := ws_M_throwsUp) B.pre
  have hts : ∀ w ∈ TT, w.before _ s = true := fun w h => hts0 w (List.mem_cons_of_mem _ h)
  have hown : s.vm.findClass "LoanRulesModel" = some m.cls := findClass_of_methodNamed B.named
  have hlocks := B.notSynchronized
  subst hsz
  have hD := hD0.self (sz := s.heap.size)
  generalize hAe : va_A [(a_m, .inr (5, [.int v_th, .ref a_sa, .int v_sz, .int v_at, .int v_wr, .ref a_ru, .ref a_me, .ref a_le, .int v_n, .ref a_cl, .ref a_te, .ref a_ki, .ref a_ty, .ref a_bl, .ref a_ex, .ref a_lo, .int v_nl, .ref a_ho, .ref a_fi, .int v_nf, .ref a_cz, .int v_nc])), (a_le, .inl (k_le, 40, .inl f_le))] s.heap.size = A at hD hZ ⊢
  have hA : ∀ q : Nat, s.heap.size ≤ q → A q := fun q h => by rw [← hAe]; exact Or.inr h
  clear hAe hD0
  have hS : va_S A s.heap s.heap [] := va_S.rf
  replace hP : va_P (dC, dI) vwCl [(a_m, .inr (5, [.int v_th, .ref a_sa, .int v_sz, .int v_at, .int v_wr, .ref a_ru, .ref a_me, .ref a_le, .int v_n, .ref a_cl, .ref a_te, .ref a_ki, .ref a_ty, .ref a_bl, .ref a_ex, .ref a_lo, .int v_nl, .ref a_ho, .ref a_fi, .int v_nf, .ref a_cz, .int v_nc])), (a_le, .inl (k_le, 40, .inl f_le))] s.heap := hP
  have hl := lv_entry ([.ref a_m, .int p0, .int p1]) (n := 4) (Nat.le_of_ble_eq_true rfl)
  rw [lg_entry_eq]
  generalize (lg_sl ([.ref a_m, .int p0, .int p1]) ++ List.replicate (4 - (lg_sl ([.ref a_m, .int p0, .int p1])).length) Slot.unset).toArray = ls at hl ⊢
  replace hl : lv_has ls 4 [(0, .ref a_m), (1, .int p0), (2, .int p1)] := hl
  obtain ⟨z, hz⟩ : ∃ z, z = g_Mg_throwsUp p0 p1 v_n f_le := ⟨_, rfl⟩
  have hE := hz
  rw [g_Mg_throwsUp] at hE
  refine lv_aload_n hx hb d_M_throwsUp_0 rfl (lv_at hl 0 rfl) ?_
  refine lv_iconst (v := 0) hx hb d_M_throwsUp_1 (by decide) ?_
  refine va_put (D := (dC, dI)) (ci := 5) (v := .int 0) (ty := .int) (C := "LoanRulesModel") (T := Fz_M) (N := 22) hx hb hts it_M tz_M tz_M_ok nz_M hown hK hP hD hS 0 rfl rfl 0 (by decide) (hts _ tw_601) (fun _ h9 => h9) rfl (by decide +kernel) rfl rfl (Nat.le_of_ble_eq_true rfl) d_M_throwsUp_2 (fun H locs hP hD hS => ?_)
  replace hP : va_P (dC, dI) vwCl [(a_m, .inr (5, [.int 0, .ref a_sa, .int v_sz, .int v_at, .int v_wr, .ref a_ru, .ref a_me, .ref a_le, .int v_n, .ref a_cl, .ref a_te, .ref a_ki, .ref a_ty, .ref a_bl, .ref a_ex, .ref a_lo, .int v_nl, .ref a_ho, .ref a_fi, .int v_nf, .ref a_cz, .int v_nc])), (a_le, .inl (k_le, 40, .inl f_le))] H := hP
  replace hD : va_D A [(a_m, .inr (5, [.int 0, .ref a_sa, .int v_sz, .int v_at, .int v_wr, .ref a_ru, .ref a_me, .ref a_le, .int v_n, .ref a_cl, .ref a_te, .ref a_ki, .ref a_ty, .ref a_bl, .ref a_ex, .ref a_lo, .int v_nl, .ref a_ho, .ref a_fi, .int v_nf, .ref a_cz, .int v_nc])), (a_le, .inl (k_le, 40, .inl f_le))] := hD
  refine lv_aload_n hx hb d_M_throwsUp_5 rfl (lv_at hl 0 rfl) ?_
  refine lv_iload_n hx hb d_M_throwsUp_6 rfl (lv_at hl 1 rfl) ?_
  have hPc := hP.sub (ws' := [(a_m, .inr (5, [.int 0, .ref a_sa, .int v_sz, .int v_at, .int v_wr, .ref a_ru, .ref a_me, .ref a_le, .int v_n, .ref a_cl, .ref a_te, .ref a_ki, .ref a_ty, .ref a_bl, .ref a_ex, .ref a_lo, .int v_nl, .ref a_ho, .ref a_fi, .int v_nf, .ref a_cz, .int v_nc]))]) [0] rfl
  have hKc := hK.sub (tys' := []) [] rfl
  refine vp_callSi (va_Run.run (va_runV (As := [.int p0]) (rest := []) ⟨hx, hb, hml, hown, hts⟩ (c_Mg_isRule l dC dI adK adV (a_m := a_m) (p0 := p0) (v_th := 0) (a_sa := a_sa) (v_sz := v_sz) (v_at := v_at) (v_wr := v_wr) (a_ru := a_ru) (a_me := a_me) (a_le := a_le) (v_n := v_n) (a_cl := a_cl) (a_te := a_te) (a_ki := a_ki) (a_ty := a_ty) (a_bl := a_bl) (a_ex := a_ex) (a_lo := a_lo) (v_nl := v_nl) (a_ho := a_ho) (a_fi := a_fi) (v_nf := v_nf) (a_cz := a_cz) (v_nc := v_nc)) (cwV 1 hts (gV tw_758 tw_760 tw_34 tw_46 tw_761) rfl rfl rfl (by decide +kernel) ⟨(Nat.le_of_ble_eq_true rfl), (Nat.le_of_ble_eq_true rfl)⟩) ⟨fun a U g mk q => by obtain ⟨q0, qZ, qP, qK⟩ := q; exact ⟨q0, zz_call qZ, qP, va_K.moved (u := U) (U := U.calling g mk a) (Vm.Alike.refl U.vm) qK⟩, va_recv hKc hPc (ci := 5) (q0 := 0) rfl rfl, fun U hU hW => ⟨rfl, zz_ro hS hU hW hZ, by rw [hU]; exact hPc, va_K.moved hW.alike hKc⟩⟩ rfl rfl hl.1 rfl (lv_room (Nat.le_of_ble_eq_true rfl)) d_M_throwsUp_7 ⟨(Nat.le_of_ble_eq_true rfl), (Nat.le_of_ble_eq_true rfl)⟩)) (fun r_1 hw_2 => ?_)
  clear hPc hKc
  subst hw_2
  refine lv_if_ne (tgt := 15) hx hb d_M_throwsUp_10 (by decide) (fun c_3 => ?_) (fun c_3 => ?_)
  · rw [if_neg c_3] at hE
    refine lv_aload_n hx hb d_M_throwsUp_15 rfl (lv_at hl 0 rfl) ?_
    refine va_get (D := (dC, dI)) (ci := 5) (v := .ref a_le) (C := "LoanRulesModel") (T := Fz_M) (N := 22) hx hb hts it_M hown hK hP 0 rfl rfl 7 (by decide) (hts _ tw_608) (fun _ h9 => h9) rfl d_M_throwsUp_16 ?_
    refine lv_iload_n hx hb d_M_throwsUp_19 rfl (lv_at hl 1 rfl) ?_
    have i_4 : vp_in p0 40 := in40 (ruleM c_3 hn.2)
    refine va_zald (D := (dC, dI)) hx hb hK hP 1 0 rfl rfl i_4 d_M_throwsUp_20 ?_
    refine lv_istore_n (lv' := [(3, .int (f_le p0.toNatClampNeg)), (0, .ref a_m), (1, .int p0), (2, .int p1)]) hx hb d_M_throwsUp_21 rfl hl (by decide) rfl (fun ls hl => ?_)
    refine lv_aload_n hx hb d_M_throwsUp_22 rfl (lv_at hl 1 rfl) ?_
    refine va_get (D := (dC, dI)) (ci := 5) (v := .ref a_le) (C := "LoanRulesModel") (T := Fz_M) (N := 22) hx hb hts it_M hown hK hP 0 rfl rfl 7 (by decide) (hts _ tw_608) (fun _ h9 => h9) rfl d_M_throwsUp_23 ?_
    refine lv_iload_n hx hb d_M_throwsUp_26 rfl (lv_at hl 2 rfl) ?_
    refine lv_iload_n hx hb d_M_throwsUp_27 rfl (lv_at hl 3 rfl) ?_
    have i_5 : vp_in p0 40 := in40 (ruleM c_3 hn.2)
    refine va_zast (D := (dC, dI)) hx hb hK hP hD hS 1 0 rfl rfl i_5 d_M_throwsUp_28 (fun H locs hP hD hS => ?_)
    replace hP : va_P (dC, dI) vwCl [(a_m, .inr (5, [.int 0, .ref a_sa, .int v_sz, .int v_at, .int v_wr, .ref a_ru, .ref a_me, .ref a_le, .int v_n, .ref a_cl, .ref a_te, .ref a_ki, .ref a_ty, .ref a_bl, .ref a_ex, .ref a_lo, .int v_nl, .ref a_ho, .ref a_fi, .int v_nf, .ref a_cz, .int v_nc])), (a_le, .inl (k_le, 40, .inl (upd f_le p0.toNatClampNeg (vp_nar .boolean p1))))] H := hP
    replace hD : va_D A [(a_m, .inr (5, [.int 0, .ref a_sa, .int v_sz, .int v_at, .int v_wr, .ref a_ru, .ref a_me, .ref a_le, .int v_n, .ref a_cl, .ref a_te, .ref a_ki, .ref a_ty, .ref a_bl, .ref a_ex, .ref a_lo, .int v_nl, .ref a_ho, .ref a_fi, .int v_nf, .ref a_cz, .int v_nc])), (a_le, .inl (k_le, 40, .inl (upd f_le p0.toNatClampNeg (vp_nar .boolean p1))))] := hD
    refine lv_iload_n hx hb d_M_throwsUp_29 rfl (lv_at hl 0 rfl) ?_
    have hP9 := hP.sub (ws' := [(a_m, .inr (5, [.int 0, .ref a_sa, .int v_sz, .int v_at, .int v_wr, .ref a_ru, .ref a_me, .ref a_le, .int v_n, .ref a_cl, .ref a_te, .ref a_ki, .ref a_ty, .ref a_bl, .ref a_ex, .ref a_lo, .int v_nl, .ref a_ho, .ref a_fi, .int v_nf, .ref a_cz, .int v_nc])), (a_le, .inl (k_le, 40, .inl (upd f_le p0.toNatClampNeg (vp_nar .boolean p1))))]) [0, 1] rfl
    have hD9 := hD.sub (ws' := [(a_m, .inr (5, [.int 0, .ref a_sa, .int v_sz, .int v_at, .int v_wr, .ref a_ru, .ref a_me, .ref a_le, .int v_n, .ref a_cl, .ref a_te, .ref a_ki, .ref a_ty, .ref a_bl, .ref a_ex, .ref a_lo, .int v_nl, .ref a_ho, .ref a_fi, .int v_nf, .ref a_cz, .int v_nc])), (a_le, .inl (k_le, 40, .inl (upd f_le p0.toNatClampNeg (vp_nar .boolean p1))))]) [0, 1] (by decide) rfl
    have hK9 := hK.sub (tys' := [(k_le, .boolean)]) [0] rfl
    exact W.zret (v := f_le p0.toNatClampNeg) hx hb hr (nzI (hle _)) (fun t ht hW => ⟨⟨f_le p0.toNatClampNeg, (), rfl, by rw [← hz, hE], by rw [ht, ← hz, hE]; exact hP9, va_K.moved hW.alike hK9, by rw [← hz, hE]; exact hD9⟩, hS.F ht⟩) hS.2.2 d_M_throwsUp_30
  · rw [if_pos c_3] at hE
    refine lv_iconst (v := 0) hx hb d_M_throwsUp_13 (by decide) ?_
    have hP9 := hP.sub (ws' := [(a_m, .inr (5, [.int 0, .ref a_sa, .int v_sz, .int v_at, .int v_wr, .ref a_ru, .ref a_me, .ref a_le, .int v_n, .ref a_cl, .ref a_te, .ref a_ki, .ref a_ty, .ref a_bl, .ref a_ex, .ref a_lo, .int v_nl, .ref a_ho, .ref a_fi, .int v_nf, .ref a_cz, .int v_nc])), (a_le, .inl (k_le, 40, .inl f_le))]) [0, 1] rfl
    have hD9 := hD.sub (ws' := [(a_m, .inr (5, [.int 0, .ref a_sa, .int v_sz, .int v_at, .int v_wr, .ref a_ru, .ref a_me, .ref a_le, .int v_n, .ref a_cl, .ref a_te, .ref a_ki, .ref a_ty, .ref a_bl, .ref a_ex, .ref a_lo, .int v_nl, .ref a_ho, .ref a_fi, .int v_nf, .ref a_cz, .int v_nc])), (a_le, .inl (k_le, 40, .inl f_le))]) [0, 1] (by decide) rfl
    have hK9 := hK.sub (tys' := [(k_le, .boolean)]) [0] rfl
    exact W.zret (v := 0) hx hb hr rfl (fun t ht hW => ⟨⟨0, (), rfl, by rw [← hz, hE], by rw [ht, ← hz, hE]; exact hP9, va_K.moved hW.alike hK9, by rw [← hz, hE]; exact hD9⟩, hS.F ht⟩) hS.2.2 d_M_throwsUp_14
def g_Mg_explain (p0 : Int32) (v_nf : Int32) (f_fi : Nat → Int32) : Int32 × Int32 :=
  if p0 < 0 then
    ((-1), 0)
  else
    if p0 < v_nf then
      (f_fi p0.toNatClampNeg, 0)
    else
      ((-1), 0)
set_option maxHeartbeats 4000000 in
set_option maxRecDepth 100000 in
theorem c_Mg_explain (l : Launch) (dC : Nat → ClassId) (dI : Nat → Nat → Nat) (adK adV : Nat → Nat) (a_m : Nat) (a_fi : Nat) (k_fi : ClassId) (p0 : Int32) (v_th : Int32) (a_sa : Nat) (v_sz : Int32) (v_at : Int32) (v_wr : Int32) (a_ru : Nat) (a_me : Nat) (a_le : Nat) (v_n : Int32) (a_cl : Nat) (a_te : Nat) (a_ki : Nat) (a_ty : Nat) (a_bl : Nat) (a_ex : Nat) (a_lo : Nat) (v_nl : Int32) (a_ho : Nat) (v_nf : Int32) (a_cz : Nat) (v_nc : Int32) (f_fi : Nat → Int32) (sz : Nat) (hnf : 0 ≤ v_nf.toInt ∧ v_nf.toInt ≤ 40) : Met l y_M_explain ws_M_explain ({ frames := 0, cells := 0, slots := 0, locals := 0 }) (va_Pc [.ref a_m, .int p0] (fun U => U.heap.size = sz ∧ zz adK adV (va_A [(a_m, .inr (5, [.int v_th, .ref a_sa, .int v_sz, .int v_at, .int v_wr, .ref a_ru, .ref a_me, .ref a_le, .int v_n, .ref a_cl, .ref a_te, .ref a_ki, .ref a_ty, .ref a_bl, .ref a_ex, .ref a_lo, .int v_nl, .ref a_ho, .ref a_fi, .int v_nf, .ref a_cz, .int v_nc])), (a_fi, .inl (k_fi, 40, .inl f_fi))] sz) U ∧ va_P (dC, dI) vwCl [(a_m, .inr (5, [.int v_th, .ref a_sa, .int v_sz, .int v_at, .int v_wr, .ref a_ru, .ref a_me, .ref a_le, .int v_n, .ref a_cl, .ref a_te, .ref a_ki, .ref a_ty, .ref a_bl, .ref a_ex, .ref a_lo, .int v_nl, .ref a_ho, .ref a_fi, .int v_nf, .ref a_cz, .int v_nc])), (a_fi, .inl (k_fi, 40, .inl f_fi))] U.heap ∧ va_K (dC, dI) vwCl [(k_fi, .int)] U ∧ va_D (fun _ => True) [(a_m, .inr (5, [.int v_th, .ref a_sa, .int v_sz, .int v_at, .int v_wr, .ref a_ru, .ref a_me, .ref a_le, .int v_n, .ref a_cl, .ref a_te, .ref a_ki, .ref a_ty, .ref a_bl, .ref a_ex, .ref a_lo, .int v_nl, .ref a_ho, .ref a_fi, .int v_nf, .ref a_cz, .int v_nc])), (a_fi, .inl (k_fi, 40, .inl f_fi))])) (va_Qi (fun (r : Int32) (_ : Unit) => r = (g_Mg_explain p0 v_nf f_fi).1) (fun (_ : Unit) (t : State) => va_P (dC, dI) vwCl [(a_m, .inr (5, [.int ((g_Mg_explain p0 v_nf f_fi).2), .ref a_sa, .int v_sz, .int v_at, .int v_wr, .ref a_ru, .ref a_me, .ref a_le, .int v_n, .ref a_cl, .ref a_te, .ref a_ki, .ref a_ty, .ref a_bl, .ref a_ex, .ref a_lo, .int v_nl, .ref a_ho, .ref a_fi, .int v_nf, .ref a_cz, .int v_nc])), (a_fi, .inl (k_fi, 40, .inl f_fi))] t.heap ∧ va_K (dC, dI) vwCl [(k_fi, .int)] t ∧ va_D (va_A [(a_m, .inr (5, [.int v_th, .ref a_sa, .int v_sz, .int v_at, .int v_wr, .ref a_ru, .ref a_me, .ref a_le, .int v_n, .ref a_cl, .ref a_te, .ref a_ki, .ref a_ty, .ref a_bl, .ref a_ex, .ref a_lo, .int v_nl, .ref a_ho, .ref a_fi, .int v_nf, .ref a_cz, .int v_nc])), (a_fi, .inl (k_fi, 40, .inl f_fi))] sz) [(a_m, .inr (5, [.int ((g_Mg_explain p0 v_nf f_fi).2), .ref a_sa, .int v_sz, .int v_at, .int v_wr, .ref a_ru, .ref a_me, .ref a_le, .int v_n, .ref a_cl, .ref a_te, .ref a_ki, .ref a_ty, .ref a_bl, .ref a_ex, .ref a_lo, .int v_nl, .ref a_ho, .ref a_fi, .int v_nf, .ref a_cz, .int v_nc])), (a_fi, .inl (k_fi, 40, .inl f_fi))]) (va_A [(a_m, .inr (5, [.int v_th, .ref a_sa, .int v_sz, .int v_at, .int v_wr, .ref a_ru, .ref a_me, .ref a_le, .int v_n, .ref a_cl, .ref a_te, .ref a_ki, .ref a_ty, .ref a_bl, .ref a_ex, .ref a_lo, .int v_nl, .ref a_ho, .ref a_fi, .int v_nf, .ref a_cz, .int v_nc])), (a_fi, .inl (k_fi, 40, .inl f_fi))] sz)) 0 0 (va_A [(a_m, .inr (5, [.int v_th, .ref a_sa, .int v_sz, .int v_at, .int v_wr, .ref a_ru, .ref a_me, .ref a_le, .int v_n, .ref a_cl, .ref a_te, .ref a_ki, .ref a_ty, .ref a_bl, .ref a_ex, .ref a_lo, .int v_nl, .ref a_ho, .ref a_fi, .int v_nf, .ref a_cz, .int v_nc])), (a_fi, .inl (k_fi, 40, .inl f_fi))] sz) := by
  refine Met.ofW (cc := c_M_explain) (maxL := 2) (ret := (some .int)) (by decide) rfl ?_
  intro p e s m args below meth c s₁ B hml hv
  obtain ⟨rfl, hsz, hZ, hP, hK, hD0⟩ := hv
  have hx := B.exec
  have hb := B.bytes
  have hr := B.returns
  have hts0 := atoms_spec (ws := ws_M_explain) B.pre
  have hts : ∀ w ∈ TT, w.before _ s = true := fun w h => hts0 w (List.mem_cons_of_mem _ h)
  have hown : s.vm.findClass "LoanRulesModel" = some m.cls := findClass_of_methodNamed B.named
  have hlocks := B.notSynchronized
  subst hsz
  have hD := hD0.self (sz := s.heap.size)
  generalize hAe : va_A [(a_m, .inr (5, [.int v_th, .ref a_sa, .int v_sz, .int v_at, .int v_wr, .ref a_ru, .ref a_me, .ref a_le, .int v_n, .ref a_cl, .ref a_te, .ref a_ki, .ref a_ty, .ref a_bl, .ref a_ex, .ref a_lo, .int v_nl, .ref a_ho, .ref a_fi, .int v_nf, .ref a_cz, .int v_nc])), (a_fi, .inl (k_fi, 40, .inl f_fi))] s.heap.size = A at hD hZ ⊢
  have hA : ∀ q : Nat, s.heap.size ≤ q → A q := fun q h => by rw [← hAe]; exact Or.inr h
  clear hAe hD0
  have hS : va_S A s.heap s.heap [] := va_S.rf
  replace hP : va_P (dC, dI) vwCl [(a_m, .inr (5, [.int v_th, .ref a_sa, .int v_sz, .int v_at, .int v_wr, .ref a_ru, .ref a_me, .ref a_le, .int v_n, .ref a_cl, .ref a_te, .ref a_ki, .ref a_ty, .ref a_bl, .ref a_ex, .ref a_lo, .int v_nl, .ref a_ho, .ref a_fi, .int v_nf, .ref a_cz, .int v_nc])), (a_fi, .inl (k_fi, 40, .inl f_fi))] s.heap := hP
  have hl := lv_entry ([.ref a_m, .int p0]) (n := 2) (Nat.le_of_ble_eq_true rfl)
  rw [lg_entry_eq]
  generalize (lg_sl ([.ref a_m, .int p0]) ++ List.replicate (2 - (lg_sl ([.ref a_m, .int p0])).length) Slot.unset).toArray = ls at hl ⊢
  replace hl : lv_has ls 2 [(0, .ref a_m), (1, .int p0)] := hl
  obtain ⟨z, hz⟩ : ∃ z, z = g_Mg_explain p0 v_nf f_fi := ⟨_, rfl⟩
  have hE := hz
  rw [g_Mg_explain] at hE
  refine lv_aload_n hx hb d_M_explain_0 rfl (lv_at hl 0 rfl) ?_
  refine lv_iconst (v := 0) hx hb d_M_explain_1 (by decide) ?_
  refine va_put (D := (dC, dI)) (ci := 5) (v := .int 0) (ty := .int) (C := "LoanRulesModel") (T := Fz_M) (N := 22) hx hb hts it_M tz_M tz_M_ok nz_M hown hK hP hD hS 0 rfl rfl 0 (by decide) (hts _ tw_601) (fun _ h9 => h9) rfl (by decide +kernel) rfl rfl (Nat.le_of_ble_eq_true rfl) d_M_explain_2 (fun H locs hP hD hS => ?_)
  replace hP : va_P (dC, dI) vwCl [(a_m, .inr (5, [.int 0, .ref a_sa, .int v_sz, .int v_at, .int v_wr, .ref a_ru, .ref a_me, .ref a_le, .int v_n, .ref a_cl, .ref a_te, .ref a_ki, .ref a_ty, .ref a_bl, .ref a_ex, .ref a_lo, .int v_nl, .ref a_ho, .ref a_fi, .int v_nf, .ref a_cz, .int v_nc])), (a_fi, .inl (k_fi, 40, .inl f_fi))] H := hP
  replace hD : va_D A [(a_m, .inr (5, [.int 0, .ref a_sa, .int v_sz, .int v_at, .int v_wr, .ref a_ru, .ref a_me, .ref a_le, .int v_n, .ref a_cl, .ref a_te, .ref a_ki, .ref a_ty, .ref a_bl, .ref a_ex, .ref a_lo, .int v_nl, .ref a_ho, .ref a_fi, .int v_nf, .ref a_cz, .int v_nc])), (a_fi, .inl (k_fi, 40, .inl f_fi))] := hD
  refine lv_iload_n hx hb d_M_explain_5 rfl (lv_at hl 1 rfl) ?_
  refine lv_if_lt (tgt := 17) hx hb d_M_explain_6 (by decide) (fun c_1 => ?_) (fun c_1 => ?_)
  · rw [if_pos c_1] at hE
    refine lv_iconst (v := (-1)) hx hb d_M_explain_17 (by decide) ?_
    refine lv_goto (tgt := 27) hx hb d_M_explain_18 (by decide) ?_
    have hP9 := hP.sub (ws' := [(a_m, .inr (5, [.int 0, .ref a_sa, .int v_sz, .int v_at, .int v_wr, .ref a_ru, .ref a_me, .ref a_le, .int v_n, .ref a_cl, .ref a_te, .ref a_ki, .ref a_ty, .ref a_bl, .ref a_ex, .ref a_lo, .int v_nl, .ref a_ho, .ref a_fi, .int v_nf, .ref a_cz, .int v_nc])), (a_fi, .inl (k_fi, 40, .inl f_fi))]) [0, 1] rfl
    have hD9 := hD.sub (ws' := [(a_m, .inr (5, [.int 0, .ref a_sa, .int v_sz, .int v_at, .int v_wr, .ref a_ru, .ref a_me, .ref a_le, .int v_n, .ref a_cl, .ref a_te, .ref a_ki, .ref a_ty, .ref a_bl, .ref a_ex, .ref a_lo, .int v_nl, .ref a_ho, .ref a_fi, .int v_nf, .ref a_cz, .int v_nc])), (a_fi, .inl (k_fi, 40, .inl f_fi))]) [0, 1] (by decide) rfl
    have hK9 := hK.sub (tys' := [(k_fi, .int)]) [0] rfl
    exact W.iret (v := (-1)) hx hb hr (fun t ht hW => ⟨⟨(-1), (), rfl, by rw [← hz, hE], by rw [ht, ← hz, hE]; exact hP9, va_K.moved hW.alike hK9, by rw [← hz, hE]; exact hD9⟩, hS.F ht⟩) hS.2.2 d_M_explain_27
  · rw [if_neg c_1] at hE
    refine lv_iload_n hx hb d_M_explain_9 rfl (lv_at hl 1 rfl) ?_
    refine lv_aload_n hx hb d_M_explain_10 rfl (lv_at hl 0 rfl) ?_
    refine va_get (D := (dC, dI)) (ci := 5) (v := .int v_nf) (C := "LoanRulesModel") (T := Fz_M) (N := 22) hx hb hts it_M hown hK hP 0 rfl rfl 19 (by decide) (hts _ tw_620) (fun _ h9 => h9) rfl d_M_explain_11 ?_
    refine lv_icmp_lt (tgt := 21) hx hb d_M_explain_14 (by decide) (fun c_2 => ?_) (fun c_2 => ?_)
    · rw [if_pos c_2] at hE
      refine lv_aload_n hx hb d_M_explain_21 rfl (lv_at hl 0 rfl) ?_
      refine va_get (D := (dC, dI)) (ci := 5) (v := .ref a_fi) (C := "LoanRulesModel") (T := Fz_M) (N := 22) hx hb hts it_M hown hK hP 0 rfl rfl 18 (by decide) (hts _ tw_619) (fun _ h9 => h9) rfl d_M_explain_22 ?_
      refine lv_iload_n hx hb d_M_explain_25 rfl (lv_at hl 1 rfl) ?_
      have i_3 : vp_in p0 40 := in40 (li_ltn c_1 (Int32.not_le.mpr c_2) hnf.2)
      refine va_iald (D := (dC, dI)) hx hb hK hP 1 0 rfl rfl i_3 d_M_explain_26 ?_
      have hP9 := hP.sub (ws' := [(a_m, .inr (5, [.int 0, .ref a_sa, .int v_sz, .int v_at, .int v_wr, .ref a_ru, .ref a_me, .ref a_le, .int v_n, .ref a_cl, .ref a_te, .ref a_ki, .ref a_ty, .ref a_bl, .ref a_ex, .ref a_lo, .int v_nl, .ref a_ho, .ref a_fi, .int v_nf, .ref a_cz, .int v_nc])), (a_fi, .inl (k_fi, 40, .inl f_fi))]) [0, 1] rfl
      have hD9 := hD.sub (ws' := [(a_m, .inr (5, [.int 0, .ref a_sa, .int v_sz, .int v_at, .int v_wr, .ref a_ru, .ref a_me, .ref a_le, .int v_n, .ref a_cl, .ref a_te, .ref a_ki, .ref a_ty, .ref a_bl, .ref a_ex, .ref a_lo, .int v_nl, .ref a_ho, .ref a_fi, .int v_nf, .ref a_cz, .int v_nc])), (a_fi, .inl (k_fi, 40, .inl f_fi))]) [0, 1] (by decide) rfl
      have hK9 := hK.sub (tys' := [(k_fi, .int)]) [0] rfl
      exact W.iret (v := f_fi p0.toNatClampNeg) hx hb hr (fun t ht hW => ⟨⟨f_fi p0.toNatClampNeg, (), rfl, by rw [← hz, hE], by rw [ht, ← hz, hE]; exact hP9, va_K.moved hW.alike hK9, by rw [← hz, hE]; exact hD9⟩, hS.F ht⟩) hS.2.2 d_M_explain_27
    · rw [if_neg c_2] at hE
      refine lv_iconst (v := (-1)) hx hb d_M_explain_17 (by decide) ?_
      refine lv_goto (tgt := 27) hx hb d_M_explain_18 (by decide) ?_
      have hP9 := hP.sub (ws' := [(a_m, .inr (5, [.int 0, .ref a_sa, .int v_sz, .int v_at, .int v_wr, .ref a_ru, .ref a_me, .ref a_le, .int v_n, .ref a_cl, .ref a_te, .ref a_ki, .ref a_ty, .ref a_bl, .ref a_ex, .ref a_lo, .int v_nl, .ref a_ho, .ref a_fi, .int v_nf, .ref a_cz, .int v_nc])), (a_fi, .inl (k_fi, 40, .inl f_fi))]) [0, 1] rfl
      have hD9 := hD.sub (ws' := [(a_m, .inr (5, [.int 0, .ref a_sa, .int v_sz, .int v_at, .int v_wr, .ref a_ru, .ref a_me, .ref a_le, .int v_n, .ref a_cl, .ref a_te, .ref a_ki, .ref a_ty, .ref a_bl, .ref a_ex, .ref a_lo, .int v_nl, .ref a_ho, .ref a_fi, .int v_nf, .ref a_cz, .int v_nc])), (a_fi, .inl (k_fi, 40, .inl f_fi))]) [0, 1] (by decide) rfl
      have hK9 := hK.sub (tys' := [(k_fi, .int)]) [0] rfl
      exact W.iret (v := (-1)) hx hb hr (fun t ht hW => ⟨⟨(-1), (), rfl, by rw [← hz, hE], by rw [ht, ← hz, hE]; exact hP9, va_K.moved hW.alike hK9, by rw [← hz, hE]; exact hD9⟩, hS.F ht⟩) hS.2.2 d_M_explain_27
