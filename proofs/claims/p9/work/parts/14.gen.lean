def g_Mg_rule (v_sz : Int32) (v_wr : Int32) (v_n : Int32) (f_sa : Nat → Int32) (f_ru : Nat → Int32) : Int32 × Int32 × Int32 × Int32 × Int32 × Int32 × (Nat → Int32) :=
  bv (g_Mg_reads v_sz v_wr v_n f_sa f_ru) (fun x_3 =>
    if x_3.1 = 0 then
      ((-1) - x_3.2.2.1, 0, 0, x_3.2.1, x_3.2.2.1, v_n, x_3.2.2.2)
    else
      if v_n = 40 then
        ((-200), 0, 0, x_3.2.1, x_3.2.2.1, v_n, x_3.2.2.2)
      else
        ((v_n + 1) - 1, 0, 0, x_3.2.1, x_3.2.2.1, v_n + 1, x_3.2.2.2))
set_option maxHeartbeats 4000000 in
set_option maxRecDepth 100000 in
theorem c_Mg_rule (l : Launch) (dC : Nat → ClassId) (dI : Nat → Nat → Nat) (adK adV : Nat → Nat) (a_m : Nat) (a_sa : Nat) (a_ru : Nat) (k_sa : ClassId) (k_ru : ClassId) (v_th : Int32) (v_sz : Int32) (v_at : Int32) (v_wr : Int32) (a_me : Nat) (a_le : Nat) (v_n : Int32) (a_cl : Nat) (a_te : Nat) (a_ki : Nat) (a_ty : Nat) (a_bl : Nat) (a_ex : Nat) (a_lo : Nat) (v_nl : Int32) (a_ho : Nat) (a_fi : Nat) (v_nf : Int32) (a_cz : Nat) (v_nc : Int32) (f_sa : Nat → Int32) (f_ru : Nat → Int32) (sz : Nat) (hsz : 0 ≤ v_sz.toInt ∧ v_sz.toInt ≤ 120) (hn : 0 ≤ v_n.toInt ∧ v_n.toInt ≤ 40) : Met l y_M_rule ws_M_rule ({ frames := 6, cells := 0, slots := 0, locals := 130 }) (va_Pc [.ref a_m] (fun U => U.heap.size = sz ∧ zz adK adV (va_A [(a_m, .inr (5, [.int v_th, .ref a_sa, .int v_sz, .int v_at, .int v_wr, .ref a_ru, .ref a_me, .ref a_le, .int v_n, .ref a_cl, .ref a_te, .ref a_ki, .ref a_ty, .ref a_bl, .ref a_ex, .ref a_lo, .int v_nl, .ref a_ho, .ref a_fi, .int v_nf, .ref a_cz, .int v_nc])), (a_sa, .inl (k_sa, 120, .inl f_sa)), (a_ru, .inl (k_ru, 410, .inl f_ru))] sz) U ∧ va_P (dC, dI) vwCl [(a_m, .inr (5, [.int v_th, .ref a_sa, .int v_sz, .int v_at, .int v_wr, .ref a_ru, .ref a_me, .ref a_le, .int v_n, .ref a_cl, .ref a_te, .ref a_ki, .ref a_ty, .ref a_bl, .ref a_ex, .ref a_lo, .int v_nl, .ref a_ho, .ref a_fi, .int v_nf, .ref a_cz, .int v_nc])), (a_sa, .inl (k_sa, 120, .inl f_sa)), (a_ru, .inl (k_ru, 410, .inl f_ru))] U.heap ∧ va_K (dC, dI) vwCl [(k_sa, .byte), (k_ru, .int)] U ∧ va_D (fun _ => True) [(a_m, .inr (5, [.int v_th, .ref a_sa, .int v_sz, .int v_at, .int v_wr, .ref a_ru, .ref a_me, .ref a_le, .int v_n, .ref a_cl, .ref a_te, .ref a_ki, .ref a_ty, .ref a_bl, .ref a_ex, .ref a_lo, .int v_nl, .ref a_ho, .ref a_fi, .int v_nf, .ref a_cz, .int v_nc])), (a_sa, .inl (k_sa, 120, .inl f_sa)), (a_ru, .inl (k_ru, 410, .inl f_ru))])) (va_Qi (fun (r : Int32) (_ : Unit) => r = (g_Mg_rule v_sz v_wr v_n f_sa f_ru).1) (fun (_ : Unit) (t : State) => va_P (dC, dI) vwCl [(a_m, .inr (5, [.int ((g_Mg_rule v_sz v_wr v_n f_sa f_ru).2.1), .ref a_sa, .int ((g_Mg_rule v_sz v_wr v_n f_sa f_ru).2.2.1), .int ((g_Mg_rule v_sz v_wr v_n f_sa f_ru).2.2.2.1), .int ((g_Mg_rule v_sz v_wr v_n f_sa f_ru).2.2.2.2.1), .ref a_ru, .ref a_me, .ref a_le, .int ((g_Mg_rule v_sz v_wr v_n f_sa f_ru).2.2.2.2.2.1), .ref a_cl, .ref a_te, .ref a_ki, .ref a_ty, .ref a_bl, .ref a_ex, .ref a_lo, .int v_nl, .ref a_ho, .ref a_fi, .int v_nf, .ref a_cz, .int v_nc])), (a_sa, .inl (k_sa, 120, .inl f_sa)), (a_ru, .inl (k_ru, 410, .inl ((g_Mg_rule v_sz v_wr v_n f_sa f_ru).2.2.2.2.2.2)))] t.heap ∧ va_K (dC, dI) vwCl [(k_sa, .byte), (k_ru, .int)] t ∧ va_D (va_A [(a_m, .inr (5, [.int v_th, .ref a_sa, .int v_sz, .int v_at, .int v_wr, .ref a_ru, .ref a_me, .ref a_le, .int v_n, .ref a_cl, .ref a_te, .ref a_ki, .ref a_ty, .ref a_bl, .ref a_ex, .ref a_lo, .int v_nl, .ref a_ho, .ref a_fi, .int v_nf, .ref a_cz, .int v_nc])), (a_sa, .inl (k_sa, 120, .inl f_sa)), (a_ru, .inl (k_ru, 410, .inl f_ru))] sz) [(a_m, .inr (5, [.int ((g_Mg_rule v_sz v_wr v_n f_sa f_ru).2.1), .ref a_sa, .int ((g_Mg_rule v_sz v_wr v_n f_sa f_ru).2.2.1), .int ((g_Mg_rule v_sz v_wr v_n f_sa f_ru).2.2.2.1), .int ((g_Mg_rule v_sz v_wr v_n f_sa f_ru).2.2.2.2.1), .ref a_ru, .ref a_me, .ref a_le, .int ((g_Mg_rule v_sz v_wr v_n f_sa f_ru).2.2.2.2.2.1), .ref a_cl, .ref a_te, .ref a_ki, .ref a_ty, .ref a_bl, .ref a_ex, .ref a_lo, .int v_nl, .ref a_ho, .ref a_fi, .int v_nf, .ref a_cz, .int v_nc])), (a_sa, .inl (k_sa, 120, .inl f_sa)), (a_ru, .inl (k_ru, 410, .inl ((g_Mg_rule v_sz v_wr v_n f_sa f_ru).2.2.2.2.2.2)))]) (va_A [(a_m, .inr (5, [.int v_th, .ref a_sa, .int v_sz, .int v_at, .int v_wr, .ref a_ru, .ref a_me, .ref a_le, .int v_n, .ref a_cl, .ref a_te, .ref a_ki, .ref a_ty, .ref a_bl, .ref a_ex, .ref a_lo, .int v_nl, .ref a_ho, .ref a_fi, .int v_nf, .ref a_cz, .int v_nc])), (a_sa, .inl (k_sa, 120, .inl f_sa)), (a_ru, .inl (k_ru, 410, .inl f_ru))] sz)) 0 0 (va_A [(a_m, .inr (5, [.int v_th, .ref a_sa, .int v_sz, .int v_at, .int v_wr, .ref a_ru, .ref a_me, .ref a_le, .int v_n, .ref a_cl, .ref a_te, .ref a_ki, .ref a_ty, .ref a_bl, .ref a_ex, .ref a_lo, .int v_nl, .ref a_ho, .ref a_fi, .int v_nf, .ref a_cz, .int v_nc])), (a_sa, .inl (k_sa, 120, .inl f_sa)), (a_ru, .inl (k_ru, 410, .inl f_ru))] sz) := by
  refine Met.ofW (cc := c_M_rule) (maxL := 2) (ret := (some .int)) (by decide) rfl ?_
  intro p e s m args below meth c s₁ B hml hv
  obtain ⟨rfl, hsz, hZ, hP, hK, hD0⟩ := hv
  have hx := B.exec
  have hb := B.bytes
  have hr := B.returns
  have hts0 := atoms_spec (ws := ws_M_rule) B.pre
  have hts : ∀ w ∈ TT, w.before _ s = true := fun w h => hts0 w (List.mem_cons_of_mem _ h)
  have hown : s.vm.findClass "LoanRulesModel" = some m.cls := findClass_of_methodNamed B.named
  have hlocks := B.notSynchronized
  subst hsz
  have hD := hD0.self (sz := s.heap.size)
  generalize hAe : va_A [(a_m, .inr (5, [.int v_th, .ref a_sa, .int v_sz, .int v_at, .int v_wr, .ref a_ru, .ref a_me, .ref a_le, .int v_n, .ref a_cl, .ref a_te, .ref a_ki, .ref a_ty, .ref a_bl, .ref a_ex, .ref a_lo, .int v_nl, .ref a_ho, .ref a_fi, .int v_nf, .ref a_cz, .int v_nc])), (a_sa, .inl (k_sa, 120, .inl f_sa)), (a_ru, .inl (k_ru, 410, .inl f_ru))] s.heap.size = A at hD hZ ⊢
  have hA : ∀ q : Nat, s.heap.size ≤ q → A q := fun q h => by rw [← hAe]; exact Or.inr h
  clear hAe hD0
  have hS : va_S A s.heap s.heap [] := va_S.rf
  replace hP : va_P (dC, dI) vwCl [(a_m, .inr (5, [.int v_th, .ref a_sa, .int v_sz, .int v_at, .int v_wr, .ref a_ru, .ref a_me, .ref a_le, .int v_n, .ref a_cl, .ref a_te, .ref a_ki, .ref a_ty, .ref a_bl, .ref a_ex, .ref a_lo, .int v_nl, .ref a_ho, .ref a_fi, .int v_nf, .ref a_cz, .int v_nc])), (a_sa, .inl (k_sa, 120, .inl f_sa)), (a_ru, .inl (k_ru, 410, .inl f_ru))] s.heap := hP
  have hl := lv_entry ([.ref a_m]) (n := 2) (Nat.le_of_ble_eq_true rfl)
  rw [lg_entry_eq]
  generalize (lg_sl ([.ref a_m]) ++ List.replicate (2 - (lg_sl ([.ref a_m])).length) Slot.unset).toArray = ls at hl ⊢
  replace hl : lv_has ls 2 [(0, .ref a_m)] := hl
  obtain ⟨z, hz⟩ : ∃ z, z = g_Mg_rule v_sz v_wr v_n f_sa f_ru := ⟨_, rfl⟩
  have hE := hz
  rw [g_Mg_rule] at hE
  refine lv_aload_n hx hb d_M_rule_0 rfl (lv_at hl 0 rfl) ?_
  refine lv_iconst (v := 0) hx hb d_M_rule_1 (by decide) ?_
  refine va_put (D := (dC, dI)) (ci := 5) (v := .int 0) (ty := .int) (C := "LoanRulesModel") (T := Fz_M) (N := 22) hx hb hts it_M tz_M tz_M_ok nz_M hown hK hP hD hS 0 rfl rfl 0 (by decide) (hts _ tw_601) (fun _ h9 => h9) rfl (by decide +kernel) rfl rfl (Nat.le_of_ble_eq_true rfl) d_M_rule_2 (fun H locs hP hD hS => ?_)
  replace hP : va_P (dC, dI) vwCl [(a_m, .inr (5, [.int 0, .ref a_sa, .int v_sz, .int v_at, .int v_wr, .ref a_ru, .ref a_me, .ref a_le, .int v_n, .ref a_cl, .ref a_te, .ref a_ki, .ref a_ty, .ref a_bl, .ref a_ex, .ref a_lo, .int v_nl, .ref a_ho, .ref a_fi, .int v_nf, .ref a_cz, .int v_nc])), (a_sa, .inl (k_sa, 120, .inl f_sa)), (a_ru, .inl (k_ru, 410, .inl f_ru))] H := hP
  replace hD : va_D A [(a_m, .inr (5, [.int 0, .ref a_sa, .int v_sz, .int v_at, .int v_wr, .ref a_ru, .ref a_me, .ref a_le, .int v_n, .ref a_cl, .ref a_te, .ref a_ki, .ref a_ty, .ref a_bl, .ref a_ex, .ref a_lo, .int v_nl, .ref a_ho, .ref a_fi, .int v_nf, .ref a_cz, .int v_nc])), (a_sa, .inl (k_sa, 120, .inl f_sa)), (a_ru, .inl (k_ru, 410, .inl f_ru))] := hD
  refine lv_aload_n hx hb d_M_rule_5 rfl (lv_at hl 0 rfl) ?_
  have hPc := hP.sub (ws' := [(a_m, .inr (5, [.int 0, .ref a_sa, .int v_sz, .int v_at, .int v_wr, .ref a_ru, .ref a_me, .ref a_le, .int v_n, .ref a_cl, .ref a_te, .ref a_ki, .ref a_ty, .ref a_bl, .ref a_ex, .ref a_lo, .int v_nl, .ref a_ho, .ref a_fi, .int v_nf, .ref a_cz, .int v_nc])), (a_sa, .inl (k_sa, 120, .inl f_sa)), (a_ru, .inl (k_ru, 410, .inl f_ru))]) [0, 1, 2] rfl
  have hKc := hK.sub (tys' := [(k_sa, .byte), (k_ru, .int)]) [0, 1] rfl
  have hDc := hD.sub (ws' := [(a_m, .inr (5, [.int 0, .ref a_sa, .int v_sz, .int v_at, .int v_wr, .ref a_ru, .ref a_me, .ref a_le, .int v_n, .ref a_cl, .ref a_te, .ref a_ki, .ref a_ty, .ref a_bl, .ref a_ex, .ref a_lo, .int v_nl, .ref a_ho, .ref a_fi, .int v_nf, .ref a_cz, .int v_nc])), (a_sa, .inl (k_sa, 120, .inl f_sa)), (a_ru, .inl (k_ru, 410, .inl f_ru))]) [0, 1, 2] (by decide) rfl
  have hFc := va_free (wc := [(a_m, .inr (5, [.int 0, .ref a_sa, .int v_sz, .int v_at, .int v_wr, .ref a_ru, .ref a_me, .ref a_le, .int v_n, .ref a_cl, .ref a_te, .ref a_ki, .ref a_ty, .ref a_bl, .ref a_ex, .ref a_lo, .int v_nl, .ref a_ho, .ref a_fi, .int v_nf, .ref a_cz, .int v_nc])), (a_sa, .inl (k_sa, 120, .inl f_sa)), (a_ru, .inl (k_ru, 410, .inl f_ru))]) hD hS hA [0, 1, 2] rfl
  refine va_calli (va_runV (As := []) (rest := []) ⟨hx, hb, hml, hown, hts⟩ (c_Mg_reads l dC dI adK adV (a_m := a_m) (v_th := 0) (a_sa := a_sa) (v_sz := v_sz) (v_at := v_at) (v_wr := v_wr) (a_ru := a_ru) (a_me := a_me) (a_le := a_le) (v_n := v_n) (a_cl := a_cl) (a_te := a_te) (a_ki := a_ki) (a_ty := a_ty) (a_bl := a_bl) (a_ex := a_ex) (a_lo := a_lo) (v_nl := v_nl) (a_ho := a_ho) (a_fi := a_fi) (v_nf := v_nf) (a_cz := a_cz) (v_nc := v_nc) (k_sa := k_sa) (f_sa := f_sa) (k_ru := k_ru) (f_ru := f_ru) (sz := H.size) hsz hn) (cwV 0 hts (gV tw_676 tw_678 tw_25 tw_46 tw_679) rfl rfl rfl (by decide +kernel) ⟨(Nat.le_of_ble_eq_true rfl), (Nat.le_of_ble_eq_true rfl)⟩) ⟨fun a U g mk q => by obtain ⟨q0, q1, qZ, qP, qK, qD⟩ := q; exact ⟨q0, q1, zz_call qZ, qP, va_K.moved (u := U) (U := U.calling g mk a) (Vm.Alike.refl U.vm) qK, qD⟩, va_recv hKc hPc (ci := 5) (q0 := 0) rfl rfl, fun U hU hW => ⟨rfl, by rw [hU], zz_rw hS hFc hU hW hZ, by rw [hU]; exact hPc, va_K.moved hW.alike hKc, hDc.weaken (fun _ _ _ _ => trivial)⟩⟩ rfl rfl hl.1 rfl (lv_room (Nat.le_of_ble_eq_true rfl)) d_M_rule_6 ⟨(Nat.le_of_ble_eq_true rfl), (Nat.le_of_ble_eq_true rfl)⟩) hS (fun q _ h => hFc q h) hFc (fun r_1 u t H1 locs ht hvm hw_2 hB hz1 hk1 hS => ?_)
  generalize hg_x_3 : g_Mg_reads v_sz v_wr v_n f_sa f_ru = x_3 at hw_2 hB hE
  rw [bv_eq] at hE
  obtain ⟨hP1, hK1, hD1⟩ := hB
  rw [ht] at hP1
  have hK1 := va_K.moved hvm.symm hK1
  obtain rfl : r_1 = x_3.1 := hw_2
  obtain ⟨hP, hD⟩ := va_join (wr := []) (w1 := [(a_m, .inr (5, [.int 0, .ref a_sa, .int v_sz, .int x_3.2.1, .int x_3.2.2.1, .ref a_ru, .ref a_me, .ref a_le, .int v_n, .ref a_cl, .ref a_te, .ref a_ki, .ref a_ty, .ref a_bl, .ref a_ex, .ref a_lo, .int v_nl, .ref a_ho, .ref a_fi, .int v_nf, .ref a_cz, .int v_nc])), (a_sa, .inl (k_sa, 120, .inl f_sa)), (a_ru, .inl (k_ru, 410, .inl x_3.2.2.2))]) hP hD [0, 1, 2] [] rfl rfl (by decide) (by decide) hk1 hFc hP1 hD1
  replace hK := (hK.sub (tys' := []) [] rfl).app hK1
  generalize H1 = H at hP hS ⊢
  replace hP := hP.sub (ws' := [(a_m, .inr (5, [.int 0, .ref a_sa, .int v_sz, .int x_3.2.1, .int x_3.2.2.1, .ref a_ru, .ref a_me, .ref a_le, .int v_n, .ref a_cl, .ref a_te, .ref a_ki, .ref a_ty, .ref a_bl, .ref a_ex, .ref a_lo, .int v_nl, .ref a_ho, .ref a_fi, .int v_nf, .ref a_cz, .int v_nc])), (a_sa, .inl (k_sa, 120, .inl f_sa)), (a_ru, .inl (k_ru, 410, .inl x_3.2.2.2))]) [0, 1, 2] rfl
  replace hD := hD.sub (ws' := [(a_m, .inr (5, [.int 0, .ref a_sa, .int v_sz, .int x_3.2.1, .int x_3.2.2.1, .ref a_ru, .ref a_me, .ref a_le, .int v_n, .ref a_cl, .ref a_te, .ref a_ki, .ref a_ty, .ref a_bl, .ref a_ex, .ref a_lo, .int v_nl, .ref a_ho, .ref a_fi, .int v_nf, .ref a_cz, .int v_nc])), (a_sa, .inl (k_sa, 120, .inl f_sa)), (a_ru, .inl (k_ru, 410, .inl x_3.2.2.2))]) [0, 1, 2] (by decide) rfl
  replace hK := hK.sub (tys' := [(k_sa, .byte), (k_ru, .int)]) [0, 1] rfl
  refine lv_istore_n (lv' := [(1, .int x_3.1), (0, .ref a_m)]) hx hb d_M_rule_9 rfl hl (by decide) rfl (fun ls hl => ?_)
  refine lv_aload_n hx hb d_M_rule_10 rfl (lv_at hl 1 rfl) ?_
  refine lv_iconst (v := 0) hx hb d_M_rule_11 (by decide) ?_
  refine va_put (D := (dC, dI)) (ci := 5) (v := .int 0) (ty := .int) (C := "LoanRulesModel") (T := Fz_M) (N := 22) hx hb hts it_M tz_M tz_M_ok nz_M hown hK hP hD hS 0 rfl rfl 2 (by decide) (hts _ tw_603) (fun _ h9 => h9) rfl (by decide +kernel) rfl rfl (Nat.le_of_ble_eq_true rfl) d_M_rule_12 (fun H locs hP hD hS => ?_)
  replace hP : va_P (dC, dI) vwCl [(a_m, .inr (5, [.int 0, .ref a_sa, .int 0, .int x_3.2.1, .int x_3.2.2.1, .ref a_ru, .ref a_me, .ref a_le, .int v_n, .ref a_cl, .ref a_te, .ref a_ki, .ref a_ty, .ref a_bl, .ref a_ex, .ref a_lo, .int v_nl, .ref a_ho, .ref a_fi, .int v_nf, .ref a_cz, .int v_nc])), (a_sa, .inl (k_sa, 120, .inl f_sa)), (a_ru, .inl (k_ru, 410, .inl x_3.2.2.2))] H := hP
  replace hD : va_D A [(a_m, .inr (5, [.int 0, .ref a_sa, .int 0, .int x_3.2.1, .int x_3.2.2.1, .ref a_ru, .ref a_me, .ref a_le, .int v_n, .ref a_cl, .ref a_te, .ref a_ki, .ref a_ty, .ref a_bl, .ref a_ex, .ref a_lo, .int v_nl, .ref a_ho, .ref a_fi, .int v_nf, .ref a_cz, .int v_nc])), (a_sa, .inl (k_sa, 120, .inl f_sa)), (a_ru, .inl (k_ru, 410, .inl x_3.2.2.2))] := hD
  refine lv_iload_n hx hb d_M_rule_15 rfl (lv_at hl 0 rfl) ?_
  refine lv_if_ne (tgt := 26) hx hb d_M_rule_16 (by decide) (fun c_4 => ?_) (fun c_4 => ?_)
  · rw [if_neg c_4] at hE
    refine lv_aload_n hx hb d_M_rule_26 rfl (lv_at hl 1 rfl) ?_
    refine va_get (D := (dC, dI)) (ci := 5) (v := .int v_n) (C := "LoanRulesModel") (T := Fz_M) (N := 22) hx hb hts it_M hown hK hP 0 rfl rfl 8 (by decide) (hts _ tw_609) (fun _ h9 => h9) rfl d_M_rule_27 ?_
    refine lv_bipush (v := 40) hx hb d_M_rule_30 (by decide) ?_
    refine lv_icmp_ne (tgt := 39) hx hb d_M_rule_32 (by decide) (fun c_5 => ?_) (fun c_5 => ?_)
    · rw [if_neg c_5] at hE
      refine lv_aload_n hx hb d_M_rule_39 rfl (lv_at hl 1 rfl) ?_
      refine lv_dup hx hb d_M_rule_40 rfl ?_
      refine va_get (D := (dC, dI)) (ci := 5) (v := .int v_n) (C := "LoanRulesModel") (T := Fz_M) (N := 22) hx hb hts it_M hown hK hP 0 rfl rfl 8 (by decide) (hts _ tw_609) (fun _ h9 => h9) rfl d_M_rule_41 ?_
      refine lv_iconst (v := 1) hx hb d_M_rule_44 (by decide) ?_
      refine lv_iadd hx hb d_M_rule_45 ?_
      refine va_put (D := (dC, dI)) (ci := 5) (v := .int (v_n + 1)) (ty := .int) (C := "LoanRulesModel") (T := Fz_M) (N := 22) hx hb hts it_M tz_M tz_M_ok nz_M hown hK hP hD hS 0 rfl rfl 8 (by decide) (hts _ tw_609) (fun _ h9 => h9) rfl (by decide +kernel) rfl rfl (Nat.le_of_ble_eq_true rfl) d_M_rule_46 (fun H locs hP hD hS => ?_)
      replace hP : va_P (dC, dI) vwCl [(a_m, .inr (5, [.int 0, .ref a_sa, .int 0, .int x_3.2.1, .int x_3.2.2.1, .ref a_ru, .ref a_me, .ref a_le, .int (v_n + 1), .ref a_cl, .ref a_te, .ref a_ki, .ref a_ty, .ref a_bl, .ref a_ex, .ref a_lo, .int v_nl, .ref a_ho, .ref a_fi, .int v_nf, .ref a_cz, .int v_nc])), (a_sa, .inl (k_sa, 120, .inl f_sa)), (a_ru, .inl (k_ru, 410, .inl x_3.2.2.2))] H := hP
      replace hD : va_D A [(a_m, .inr (5, [.int 0, .ref a_sa, .int 0, .int x_3.2.1, .int x_3.2.2.1, .ref a_ru, .ref a_me, .ref a_le, .int (v_n + 1), .ref a_cl, .ref a_te, .ref a_ki, .ref a_ty, .ref a_bl, .ref a_ex, .ref a_lo, .int v_nl, .ref a_ho, .ref a_fi, .int v_nf, .ref a_cz, .int v_nc])), (a_sa, .inl (k_sa, 120, .inl f_sa)), (a_ru, .inl (k_ru, 410, .inl x_3.2.2.2))] := hD
      refine lv_aload_n hx hb d_M_rule_49 rfl (lv_at hl 1 rfl) ?_
      refine va_get (D := (dC, dI)) (ci := 5) (v := .int (v_n + 1)) (C := "LoanRulesModel") (T := Fz_M) (N := 22) hx hb hts it_M hown hK hP 0 rfl rfl 8 (by decide) (hts _ tw_609) (fun _ h9 => h9) rfl d_M_rule_50 ?_
      refine lv_iconst (v := 1) hx hb d_M_rule_53 (by decide) ?_
      refine lv_isub hx hb d_M_rule_54 ?_
      have hP9 := hP.sub (ws' := [(a_m, .inr (5, [.int 0, .ref a_sa, .int 0, .int x_3.2.1, .int x_3.2.2.1, .ref a_ru, .ref a_me, .ref a_le, .int (v_n + 1), .ref a_cl, .ref a_te, .ref a_ki, .ref a_ty, .ref a_bl, .ref a_ex, .ref a_lo, .int v_nl, .ref a_ho, .ref a_fi, .int v_nf, .ref a_cz, .int v_nc])), (a_sa, .inl (k_sa, 120, .inl f_sa)), (a_ru, .inl (k_ru, 410, .inl x_3.2.2.2))]) [0, 1, 2] rfl
      have hD9 := hD.sub (ws' := [(a_m, .inr (5, [.int 0, .ref a_sa, .int 0, .int x_3.2.1, .int x_3.2.2.1, .ref a_ru, .ref a_me, .ref a_le, .int (v_n + 1), .ref a_cl, .ref a_te, .ref a_ki, .ref a_ty, .ref a_bl, .ref a_ex, .ref a_lo, .int v_nl, .ref a_ho, .ref a_fi, .int v_nf, .ref a_cz, .int v_nc])), (a_sa, .inl (k_sa, 120, .inl f_sa)), (a_ru, .inl (k_ru, 410, .inl x_3.2.2.2))]) [0, 1, 2] (by decide) rfl
      have hK9 := hK.sub (tys' := [(k_sa, .byte), (k_ru, .int)]) [0, 1] rfl
      exact W.iret (v := (v_n + 1) - 1) hx hb hr (fun t ht hW => ⟨⟨(v_n + 1) - 1, (), rfl, by rw [← hz, hE], by rw [ht, ← hz, hE]; exact hP9, va_K.moved hW.alike hK9, by rw [← hz, hE]; exact hD9⟩, hS.F ht⟩) hS.2.2 d_M_rule_55
    · rw [if_pos c_5] at hE
      refine lv_sipush (v := (-200)) hx hb d_M_rule_35 (by decide) ?_
      have hP9 := hP.sub (ws' := [(a_m, .inr (5, [.int 0, .ref a_sa, .int 0, .int x_3.2.1, .int x_3.2.2.1, .ref a_ru, .ref a_me, .ref a_le, .int v_n, .ref a_cl, .ref a_te, .ref a_ki, .ref a_ty, .ref a_bl, .ref a_ex, .ref a_lo, .int v_nl, .ref a_ho, .ref a_fi, .int v_nf, .ref a_cz, .int v_nc])), (a_sa, .inl (k_sa, 120, .inl f_sa)), (a_ru, .inl (k_ru, 410, .inl x_3.2.2.2))]) [0, 1, 2] rfl
      have hD9 := hD.sub (ws' := [(a_m, .inr (5, [.int 0, .ref a_sa, .int 0, .int x_3.2.1, .int x_3.2.2.1, .ref a_ru, .ref a_me, .ref a_le, .int v_n, .ref a_cl, .ref a_te, .ref a_ki, .ref a_ty, .ref a_bl, .ref a_ex, .ref a_lo, .int v_nl, .ref a_ho, .ref a_fi, .int v_nf, .ref a_cz, .int v_nc])), (a_sa, .inl (k_sa, 120, .inl f_sa)), (a_ru, .inl (k_ru, 410, .inl x_3.2.2.2))]) [0, 1, 2] (by decide) rfl
      have hK9 := hK.sub (tys' := [(k_sa, .byte), (k_ru, .int)]) [0, 1] rfl
      exact W.iret (v := (-200)) hx hb hr (fun t ht hW => ⟨⟨(-200), (), rfl, by rw [← hz, hE], by rw [ht, ← hz, hE]; exact hP9, va_K.moved hW.alike hK9, by rw [← hz, hE]; exact hD9⟩, hS.F ht⟩) hS.2.2 d_M_rule_38
  · rw [if_pos c_4] at hE
    refine lv_iconst (v := (-1)) hx hb d_M_rule_19 (by decide) ?_
    refine lv_aload_n hx hb d_M_rule_20 rfl (lv_at hl 1 rfl) ?_
    refine va_get (D := (dC, dI)) (ci := 5) (v := .int x_3.2.2.1) (C := "LoanRulesModel") (T := Fz_M) (N := 22) hx hb hts it_M hown hK hP 0 rfl rfl 4 (by decide) (hts _ tw_605) (fun _ h9 => h9) rfl d_M_rule_21 ?_
    refine lv_isub hx hb d_M_rule_24 ?_
    have hP9 := hP.sub (ws' := [(a_m, .inr (5, [.int 0, .ref a_sa, .int 0, .int x_3.2.1, .int x_3.2.2.1, .ref a_ru, .ref a_me, .ref a_le, .int v_n, .ref a_cl, .ref a_te, .ref a_ki, .ref a_ty, .ref a_bl, .ref a_ex, .ref a_lo, .int v_nl, .ref a_ho, .ref a_fi, .int v_nf, .ref a_cz, .int v_nc])), (a_sa, .inl (k_sa, 120, .inl f_sa)), (a_ru, .inl (k_ru, 410, .inl x_3.2.2.2))]) [0, 1, 2] rfl
    have hD9 := hD.sub (ws' := [(a_m, .inr (5, [.int 0, .ref a_sa, .int 0, .int x_3.2.1, .int x_3.2.2.1, .ref a_ru, .ref a_me, .ref a_le, .int v_n, .ref a_cl, .ref a_te, .ref a_ki, .ref a_ty, .ref a_bl, .ref a_ex, .ref a_lo, .int v_nl, .ref a_ho, .ref a_fi, .int v_nf, .ref a_cz, .int v_nc])), (a_sa, .inl (k_sa, 120, .inl f_sa)), (a_ru, .inl (k_ru, 410, .inl x_3.2.2.2))]) [0, 1, 2] (by decide) rfl
    have hK9 := hK.sub (tys' := [(k_sa, .byte), (k_ru, .int)]) [0, 1] rfl
    exact W.iret (v := (-1) - x_3.2.2.1) hx hb hr (fun t ht hW => ⟨⟨(-1) - x_3.2.2.1, (), rfl, by rw [← hz, hE], by rw [ht, ← hz, hE]; exact hP9, va_K.moved hW.alike hK9, by rw [← hz, hE]; exact hD9⟩, hS.F ht⟩) hS.2.2 d_M_rule_25
def g_Mg_sign (p0 : Int32) (v_sz : Int32) (f_sa : Nat → Int32) : Int32 × Int32 × (Nat → Int32) :=
  if 120 ≤ v_sz then
    (0, v_sz, f_sa)
  else
    (0, v_sz + 1, upd f_sa v_sz.toNatClampNeg (vp_nar .byte p0.toInt8.toInt32))
set_option maxHeartbeats 4000000 in
set_option maxRecDepth 100000 in
theorem c_Mg_sign (l : Launch) (dC : Nat → ClassId) (dI : Nat → Nat → Nat) (adK adV : Nat → Nat) (a_m : Nat) (a_sa : Nat) (k_sa : ClassId) (p0 : Int32) (v_th : Int32) (v_sz : Int32) (v_at : Int32) (v_wr : Int32) (a_ru : Nat) (a_me : Nat) (a_le : Nat) (v_n : Int32) (a_cl : Nat) (a_te : Nat) (a_ki : Nat) (a_ty : Nat) (a_bl : Nat) (a_ex : Nat) (a_lo : Nat) (v_nl : Int32) (a_ho : Nat) (a_fi : Nat) (v_nf : Int32) (a_cz : Nat) (v_nc : Int32) (f_sa : Nat → Int32) (sz : Nat) (hsz : 0 ≤ v_sz.toInt ∧ v_sz.toInt ≤ 120) : Met l y_M_sign ws_M_sign ({ frames := 0, cells := 0, slots := 0, locals := 0 }) (va_Pc [.ref a_m, .int p0] (fun U => U.heap.size = sz ∧ zz adK adV (va_A [(a_m, .inr (5, [.int v_th, .ref a_sa, .int v_sz, .int v_at, .int v_wr, .ref a_ru, .ref a_me, .ref a_le, .int v_n, .ref a_cl, .ref a_te, .ref a_ki, .ref a_ty, .ref a_bl, .ref a_ex, .ref a_lo, .int v_nl, .ref a_ho, .ref a_fi, .int v_nf, .ref a_cz, .int v_nc])), (a_sa, .inl (k_sa, 120, .inl f_sa))] sz) U ∧ va_P (dC, dI) vwCl [(a_m, .inr (5, [.int v_th, .ref a_sa, .int v_sz, .int v_at, .int v_wr, .ref a_ru, .ref a_me, .ref a_le, .int v_n, .ref a_cl, .ref a_te, .ref a_ki, .ref a_ty, .ref a_bl, .ref a_ex, .ref a_lo, .int v_nl, .ref a_ho, .ref a_fi, .int v_nf, .ref a_cz, .int v_nc])), (a_sa, .inl (k_sa, 120, .inl f_sa))] U.heap ∧ va_K (dC, dI) vwCl [(k_sa, .byte)] U ∧ va_D (fun _ => True) [(a_m, .inr (5, [.int v_th, .ref a_sa, .int v_sz, .int v_at, .int v_wr, .ref a_ru, .ref a_me, .ref a_le, .int v_n, .ref a_cl, .ref a_te, .ref a_ki, .ref a_ty, .ref a_bl, .ref a_ex, .ref a_lo, .int v_nl, .ref a_ho, .ref a_fi, .int v_nf, .ref a_cz, .int v_nc])), (a_sa, .inl (k_sa, 120, .inl f_sa))])) (va_Qv (fun _ : Unit => True) (fun (_ : Unit) (t : State) => va_P (dC, dI) vwCl [(a_m, .inr (5, [.int ((g_Mg_sign p0 v_sz f_sa).1), .ref a_sa, .int ((g_Mg_sign p0 v_sz f_sa).2.1), .int v_at, .int v_wr, .ref a_ru, .ref a_me, .ref a_le, .int v_n, .ref a_cl, .ref a_te, .ref a_ki, .ref a_ty, .ref a_bl, .ref a_ex, .ref a_lo, .int v_nl, .ref a_ho, .ref a_fi, .int v_nf, .ref a_cz, .int v_nc])), (a_sa, .inl (k_sa, 120, .inl ((g_Mg_sign p0 v_sz f_sa).2.2)))] t.heap ∧ va_K (dC, dI) vwCl [(k_sa, .byte)] t ∧ va_D (va_A [(a_m, .inr (5, [.int v_th, .ref a_sa, .int v_sz, .int v_at, .int v_wr, .ref a_ru, .ref a_me, .ref a_le, .int v_n, .ref a_cl, .ref a_te, .ref a_ki, .ref a_ty, .ref a_bl, .ref a_ex, .ref a_lo, .int v_nl, .ref a_ho, .ref a_fi, .int v_nf, .ref a_cz, .int v_nc])), (a_sa, .inl (k_sa, 120, .inl f_sa))] sz) [(a_m, .inr (5, [.int ((g_Mg_sign p0 v_sz f_sa).1), .ref a_sa, .int ((g_Mg_sign p0 v_sz f_sa).2.1), .int v_at, .int v_wr, .ref a_ru, .ref a_me, .ref a_le, .int v_n, .ref a_cl, .ref a_te, .ref a_ki, .ref a_ty, .ref a_bl, .ref a_ex, .ref a_lo, .int v_nl, .ref a_ho, .ref a_fi, .int v_nf, .ref a_cz, .int v_nc])), (a_sa, .inl (k_sa, 120, .inl ((g_Mg_sign p0 v_sz f_sa).2.2)))]) (va_A [(a_m, .inr (5, [.int v_th, .ref a_sa, .int v_sz, .int v_at, .int v_wr, .ref a_ru, .ref a_me, .ref a_le, .int v_n, .ref a_cl, .ref a_te, .ref a_ki, .ref a_ty, .ref a_bl, .ref a_ex, .ref a_lo, .int v_nl, .ref a_ho, .ref a_fi, .int v_nf, .ref a_cz, .int v_nc])), (a_sa, .inl (k_sa, 120, .inl f_sa))] sz)) 0 0 (va_A [(a_m, .inr (5, [.int v_th, .ref a_sa, .int v_sz, .int v_at, .int v_wr, .ref a_ru, .ref a_me, .ref a_le, .int v_n, .ref a_cl, .ref a_te, .ref a_ki, .ref a_ty, .ref a_bl, .ref a_ex, .ref a_lo, .int v_nl, .ref a_ho, .ref a_fi, .int v_nf, .ref a_cz, .int v_nc])), (a_sa, .inl (k_sa, 120, .inl f_sa))] sz) := by
  refine Met.ofW (cc := c_M_sign) (maxL := 2) (ret := none) (by decide) rfl ?_
  intro p e s m args below meth c s₁ B hml hv
  obtain ⟨rfl, hsz, hZ, hP, hK, hD0⟩ := hv
  have hx := B.exec
  have hb := B.bytes
  have hr := B.returns
  have hts0 := atoms_spec (ws := ws_M_sign) B.pre
  have hts : ∀ w ∈ TT, w.before _ s = true := fun w h => hts0 w (List.mem_cons_of_mem _ h)
  have hown : s.vm.findClass "LoanRulesModel" = some m.cls := findClass_of_methodNamed B.named
  have hlocks := B.notSynchronized
  subst hsz
  have hD := hD0.self (sz := s.heap.size)
  generalize hAe : va_A [(a_m, .inr (5, [.int v_th, .ref a_sa, .int v_sz, .int v_at, .int v_wr, .ref a_ru, .ref a_me, .ref a_le, .int v_n, .ref a_cl, .ref a_te, .ref a_ki, .ref a_ty, .ref a_bl, .ref a_ex, .ref a_lo, .int v_nl, .ref a_ho, .ref a_fi, .int v_nf, .ref a_cz, .int v_nc])), (a_sa, .inl (k_sa, 120, .inl f_sa))] s.heap.size = A at hD hZ ⊢
  have hA : ∀ q : Nat, s.heap.size ≤ q → A q := fun q h => by rw [← hAe]; exact Or.inr h
  clear hAe hD0
  have hS : va_S A s.heap s.heap [] := va_S.rf
  replace hP : va_P (dC, dI) vwCl [(a_m, .inr (5, [.int v_th, .ref a_sa, .int v_sz, .int v_at, .int v_wr, .ref a_ru, .ref a_me, .ref a_le, .int v_n, .ref a_cl, .ref a_te, .ref a_ki, .ref a_ty, .ref a_bl, .ref a_ex, .ref a_lo, .int v_nl, .ref a_ho, .ref a_fi, .int v_nf, .ref a_cz, .int v_nc])), (a_sa, .inl (k_sa, 120, .inl f_sa))] s.heap := hP
  have hl := lv_entry ([.ref a_m, .int p0]) (n := 2) (Nat.le_of_ble_eq_true rfl)
  rw [lg_entry_eq]
  generalize (lg_sl ([.ref a_m, .int p0]) ++ List.replicate (2 - (lg_sl ([.ref a_m, .int p0])).length) Slot.unset).toArray = ls at hl ⊢
  replace hl : lv_has ls 2 [(0, .ref a_m), (1, .int p0)] := hl
  obtain ⟨z, hz⟩ : ∃ z, z = g_Mg_sign p0 v_sz f_sa := ⟨_, rfl⟩
  have hE := hz
  rw [g_Mg_sign] at hE
  refine lv_aload_n hx hb d_M_sign_0 rfl (lv_at hl 0 rfl) ?_
  refine lv_iconst (v := 0) hx hb d_M_sign_1 (by decide) ?_
  refine va_put (D := (dC, dI)) (ci := 5) (v := .int 0) (ty := .int) (C := "LoanRulesModel") (T := Fz_M) (N := 22) hx hb hts it_M tz_M tz_M_ok nz_M hown hK hP hD hS 0 rfl rfl 0 (by decide) (hts _ tw_601) (fun _ h9 => h9) rfl (by decide +kernel) rfl rfl (Nat.le_of_ble_eq_true rfl) d_M_sign_2 (fun H locs hP hD hS => ?_)
  replace hP : va_P (dC, dI) vwCl [(a_m, .inr (5, [.int 0, .ref a_sa, .int v_sz, .int v_at, .int v_wr, .ref a_ru, .ref a_me, .ref a_le, .int v_n, .ref a_cl, .ref a_te, .ref a_ki, .ref a_ty, .ref a_bl, .ref a_ex, .ref a_lo, .int v_nl, .ref a_ho, .ref a_fi, .int v_nf, .ref a_cz, .int v_nc])), (a_sa, .inl (k_sa, 120, .inl f_sa))] H := hP
  replace hD : va_D A [(a_m, .inr (5, [.int 0, .ref a_sa, .int v_sz, .int v_at, .int v_wr, .ref a_ru, .ref a_me, .ref a_le, .int v_n, .ref a_cl, .ref a_te, .ref a_ki, .ref a_ty, .ref a_bl, .ref a_ex, .ref a_lo, .int v_nl, .ref a_ho, .ref a_fi, .int v_nf, .ref a_cz, .int v_nc])), (a_sa, .inl (k_sa, 120, .inl f_sa))] := hD
  refine lv_aload_n hx hb d_M_sign_5 rfl (lv_at hl 0 rfl) ?_
  refine va_get (D := (dC, dI)) (ci := 5) (v := .int v_sz) (C := "LoanRulesModel") (T := Fz_M) (N := 22) hx hb hts it_M hown hK hP 0 rfl rfl 2 (by decide) (hts _ tw_603) (fun _ h9 => h9) rfl d_M_sign_6 ?_
  refine lv_bipush (v := 120) hx hb d_M_sign_9 (by decide) ?_
  refine lv_icmp_ge (tgt := 35) hx hb d_M_sign_11 (by decide) (fun c_1 => ?_) (fun c_1 => ?_)
  · rw [if_pos c_1] at hE
    have hP9 := hP.sub (ws' := [(a_m, .inr (5, [.int 0, .ref a_sa, .int v_sz, .int v_at, .int v_wr, .ref a_ru, .ref a_me, .ref a_le, .int v_n, .ref a_cl, .ref a_te, .ref a_ki, .ref a_ty, .ref a_bl, .ref a_ex, .ref a_lo, .int v_nl, .ref a_ho, .ref a_fi, .int v_nf, .ref a_cz, .int v_nc])), (a_sa, .inl (k_sa, 120, .inl f_sa))]) [0, 1] rfl
    have hD9 := hD.sub (ws' := [(a_m, .inr (5, [.int 0, .ref a_sa, .int v_sz, .int v_at, .int v_wr, .ref a_ru, .ref a_me, .ref a_le, .int v_n, .ref a_cl, .ref a_te, .ref a_ki, .ref a_ty, .ref a_bl, .ref a_ex, .ref a_lo, .int v_nl, .ref a_ho, .ref a_fi, .int v_nf, .ref a_cz, .int v_nc])), (a_sa, .inl (k_sa, 120, .inl f_sa))]) [0, 1] (by decide) rfl
    have hK9 := hK.sub (tys' := [(k_sa, .byte)]) [0] rfl
    exact W.vret hx hb hr (fun t ht hW => ⟨⟨(), rfl, trivial, by rw [ht, ← hz, hE]; exact hP9, va_K.moved hW.alike hK9, by rw [← hz, hE]; exact hD9⟩, hS.F ht⟩) hS.2.2 d_M_sign_35
  · rw [if_neg c_1] at hE
    refine lv_aload_n hx hb d_M_sign_14 rfl (lv_at hl 0 rfl) ?_
    refine va_get (D := (dC, dI)) (ci := 5) (v := .ref a_sa) (C := "LoanRulesModel") (T := Fz_M) (N := 22) hx hb hts it_M hown hK hP 0 rfl rfl 1 (by decide) (hts _ tw_602) (fun _ h9 => h9) rfl d_M_sign_15 ?_
    refine lv_aload_n hx hb d_M_sign_18 rfl (lv_at hl 0 rfl) ?_
    refine va_get (D := (dC, dI)) (ci := 5) (v := .int v_sz) (C := "LoanRulesModel") (T := Fz_M) (N := 22) hx hb hts it_M hown hK hP 0 rfl rfl 2 (by decide) (hts _ tw_603) (fun _ h9 => h9) rfl d_M_sign_19 ?_
    refine lv_iload_n hx hb d_M_sign_22 rfl (lv_at hl 1 rfl) ?_
    refine lv_i2b hx hb d_M_sign_23 rfl ?_
    have i_2 : vp_in v_sz 120 := li_in hsz.1 c_1
    refine va_bast (D := (dC, dI)) hx hb hK hP hD hS 1 0 rfl rfl i_2 d_M_sign_24 (fun H locs hP hD hS => ?_)
    replace hP : va_P (dC, dI) vwCl [(a_m, .inr (5, [.int 0, .ref a_sa, .int v_sz, .int v_at, .int v_wr, .ref a_ru, .ref a_me, .ref a_le, .int v_n, .ref a_cl, .ref a_te, .ref a_ki, .ref a_ty, .ref a_bl, .ref a_ex, .ref a_lo, .int v_nl, .ref a_ho, .ref a_fi, .int v_nf, .ref a_cz, .int v_nc])), (a_sa, .inl (k_sa, 120, .inl (upd f_sa v_sz.toNatClampNeg (vp_nar .byte p0.toInt8.toInt32))))] H := hP
    replace hD : va_D A [(a_m, .inr (5, [.int 0, .ref a_sa, .int v_sz, .int v_at, .int v_wr, .ref a_ru, .ref a_me, .ref a_le, .int v_n, .ref a_cl, .ref a_te, .ref a_ki, .ref a_ty, .ref a_bl, .ref a_ex, .ref a_lo, .int v_nl, .ref a_ho, .ref a_fi, .int v_nf, .ref a_cz, .int v_nc])), (a_sa, .inl (k_sa, 120, .inl (upd f_sa v_sz.toNatClampNeg (vp_nar .byte p0.toInt8.toInt32))))] := hD
    refine lv_aload_n hx hb d_M_sign_25 rfl (lv_at hl 0 rfl) ?_
    refine lv_dup hx hb d_M_sign_26 rfl ?_
    refine va_get (D := (dC, dI)) (ci := 5) (v := .int v_sz) (C := "LoanRulesModel") (T := Fz_M) (N := 22) hx hb hts it_M hown hK hP 0 rfl rfl 2 (by decide) (hts _ tw_603) (fun _ h9 => h9) rfl d_M_sign_27 ?_
    refine lv_iconst (v := 1) hx hb d_M_sign_30 (by decide) ?_
    refine lv_iadd hx hb d_M_sign_31 ?_
    refine va_put (D := (dC, dI)) (ci := 5) (v := .int (v_sz + 1)) (ty := .int) (C := "LoanRulesModel") (T := Fz_M) (N := 22) hx hb hts it_M tz_M tz_M_ok nz_M hown hK hP hD hS 0 rfl rfl 2 (by decide) (hts _ tw_603) (fun _ h9 => h9) rfl (by decide +kernel) rfl rfl (Nat.le_of_ble_eq_true rfl) d_M_sign_32 (fun H locs hP hD hS => ?_)
    replace hP : va_P (dC, dI) vwCl [(a_m, .inr (5, [.int 0, .ref a_sa, .int (v_sz + 1), .int v_at, .int v_wr, .ref a_ru, .ref a_me, .ref a_le, .int v_n, .ref a_cl, .ref a_te, .ref a_ki, .ref a_ty, .ref a_bl, .ref a_ex, .ref a_lo, .int v_nl, .ref a_ho, .ref a_fi, .int v_nf, .ref a_cz, .int v_nc])), (a_sa, .inl (k_sa, 120, .inl (upd f_sa v_sz.toNatClampNeg (vp_nar .byte p0.toInt8.toInt32))))] H := hP
    replace hD : va_D A [(a_m, .inr (5, [.int 0, .ref a_sa, .int (v_sz + 1), .int v_at, .int v_wr, .ref a_ru, .ref a_me, .ref a_le, .int v_n, .ref a_cl, .ref a_te, .ref a_ki, .ref a_ty, .ref a_bl, .ref a_ex, .ref a_lo, .int v_nl, .ref a_ho, .ref a_fi, .int v_nf, .ref a_cz, .int v_nc])), (a_sa, .inl (k_sa, 120, .inl (upd f_sa v_sz.toNatClampNeg (vp_nar .byte p0.toInt8.toInt32))))] := hD
    have hP9 := hP.sub (ws' := [(a_m, .inr (5, [.int 0, .ref a_sa, .int (v_sz + 1), .int v_at, .int v_wr, .ref a_ru, .ref a_me, .ref a_le, .int v_n, .ref a_cl, .ref a_te, .ref a_ki, .ref a_ty, .ref a_bl, .ref a_ex, .ref a_lo, .int v_nl, .ref a_ho, .ref a_fi, .int v_nf, .ref a_cz, .int v_nc])), (a_sa, .inl (k_sa, 120, .inl (upd f_sa v_sz.toNatClampNeg (vp_nar .byte p0.toInt8.toInt32))))]) [0, 1] rfl
    have hD9 := hD.sub (ws' := [(a_m, .inr (5, [.int 0, .ref a_sa, .int (v_sz + 1), .int v_at, .int v_wr, .ref a_ru, .ref a_me, .ref a_le, .int v_n, .ref a_cl, .ref a_te, .ref a_ki, .ref a_ty, .ref a_bl, .ref a_ex, .ref a_lo, .int v_nl, .ref a_ho, .ref a_fi, .int v_nf, .ref a_cz, .int v_nc])), (a_sa, .inl (k_sa, 120, .inl (upd f_sa v_sz.toNatClampNeg (vp_nar .byte p0.toInt8.toInt32))))]) [0, 1] (by decide) rfl
    have hK9 := hK.sub (tys' := [(k_sa, .byte)]) [0] rfl
    exact W.vret hx hb hr (fun t ht hW => ⟨⟨(), rfl, trivial, by rw [ht, ← hz, hE]; exact hP9, va_K.moved hW.alike hK9, by rw [← hz, hE]; exact hD9⟩, hS.F ht⟩) hS.2.2 d_M_sign_35
def g_Mg_closed (p0 : Int32) (p1 : Int32) (f_cl : Nat → Int32) : Int32 × Int32 × (Nat → Int32) :=
  if (g_Mg_isDay p0) = 0 then
    (0, 0, f_cl)
  else
    (f_cl p0.toNatClampNeg, 0, upd f_cl p0.toNatClampNeg (vp_nar .boolean p1))
set_option maxHeartbeats 4000000 in
set_option maxRecDepth 100000 in
theorem c_Mg_closed (l : Launch) (dC : Nat → ClassId) (dI : Nat → Nat → Nat) (adK adV : Nat → Nat) (a_m : Nat) (a_cl : Nat) (k_cl : ClassId) (p0 : Int32) (p1 : Int32) (v_th : Int32) (a_sa : Nat) (v_sz : Int32) (v_at : Int32) (v_wr : Int32) (a_ru : Nat) (a_me : Nat) (a_le : Nat) (v_n : Int32) (a_te : Nat) (a_ki : Nat) (a_ty : Nat) (a_bl : Nat) (a_ex : Nat) (a_lo : Nat) (v_nl : Int32) (a_ho : Nat) (a_fi : Nat) (v_nf : Int32) (a_cz : Nat) (v_nc : Int32) (f_cl : Nat → Int32) (sz : Nat) (hcl : ∀ k, b01 (f_cl k)) : Met l y_M_closed ws_M_closed ({ frames := 1, cells := 0, slots := 0, locals := 20 }) (va_Pc [.ref a_m, .int p0, .int p1] (fun U => U.heap.size = sz ∧ zz adK adV (va_A [(a_m, .inr (5, [.int v_th, .ref a_sa, .int v_sz, .int v_at, .int v_wr, .ref a_ru, .ref a_me, .ref a_le, .int v_n, .ref a_cl, .ref a_te, .ref a_ki, .ref a_ty, .ref a_bl, .ref a_ex, .ref a_lo, .int v_nl, .ref a_ho, .ref a_fi, .int v_nf, .ref a_cz, .int v_nc])), (a_cl, .inl (k_cl, 10000, .inl f_cl))] sz) U ∧ va_P (dC, dI) vwCl [(a_m, .inr (5, [.int v_th, .ref a_sa, .int v_sz, .int v_at, .int v_wr, .ref a_ru, .ref a_me, .ref a_le, .int v_n, .ref a_cl, .ref a_te, .ref a_ki, .ref a_ty, .ref a_bl, .ref a_ex, .ref a_lo, .int v_nl, .ref a_ho, .ref a_fi, .int v_nf, .ref a_cz, .int v_nc])), (a_cl, .inl (k_cl, 10000, .inl f_cl))] U.heap ∧ va_K (dC, dI) vwCl [(k_cl, .boolean)] U ∧ va_D (fun _ => True) [(a_m, .inr (5, [.int v_th, .ref a_sa, .int v_sz, .int v_at, .int v_wr, .ref a_ru, .ref a_me, .ref a_le, .int v_n, .ref a_cl, .ref a_te, .ref a_ki, .ref a_ty, .ref a_bl, .ref a_ex, .ref a_lo, .int v_nl, .ref a_ho, .ref a_fi, .int v_nf, .ref a_cz, .int v_nc])), (a_cl, .inl (k_cl, 10000, .inl f_cl))])) (va_Qi (fun (r : Int32) (_ : Unit) => r = (g_Mg_closed p0 p1 f_cl).1) (fun (_ : Unit) (t : State) => va_P (dC, dI) vwCl [(a_m, .inr (5, [.int ((g_Mg_closed p0 p1 f_cl).2.1), .ref a_sa, .int v_sz, .int v_at, .int v_wr, .ref a_ru, .ref a_me, .ref a_le, .int v_n, .ref a_cl, .ref a_te, .ref a_ki, .ref a_ty, .ref a_bl, .ref a_ex, .ref a_lo, .int v_nl, .ref a_ho, .ref a_fi, .int v_nf, .ref a_cz, .int v_nc])), (a_cl, .inl (k_cl, 10000, .inl ((g_Mg_closed p0 p1 f_cl).2.2)))] t.heap ∧ va_K (dC, dI) vwCl [(k_cl, .boolean)] t ∧ va_D (va_A [(a_m, .inr (5, [.int v_th, .ref a_sa, .int v_sz, .int v_at, .int v_wr, .ref a_ru, .ref a_me, .ref a_le, .int v_n, .ref a_cl, .ref a_te, .ref a_ki, .ref a_ty, .ref a_bl, .ref a_ex, .ref a_lo, .int v_nl, .ref a_ho, .ref a_fi, .int v_nf, .ref a_cz, .int v_nc])), (a_cl, .inl (k_cl, 10000, .inl f_cl))] sz) [(a_m, .inr (5, [.int ((g_Mg_closed p0 p1 f_cl).2.1), .ref a_sa, .int v_sz, .int v_at, .int v_wr, .ref a_ru, .ref a_me, .ref a_le, .int v_n, .ref a_cl, .ref a_te, .ref a_ki, .ref a_ty, .ref a_bl, .ref a_ex, .ref a_lo, .int v_nl, .ref a_ho, .ref a_fi, .int v_nf, .ref a_cz, .int v_nc])), (a_cl, .inl (k_cl, 10000, .inl ((g_Mg_closed p0 p1 f_cl).2.2)))]) (va_A [(a_m, .inr (5, [.int v_th, .ref a_sa, .int v_sz, .int v_at, .int v_wr, .ref a_ru, .ref a_me, .ref a_le, .int v_n, .ref a_cl, .ref a_te, .ref a_ki, .ref a_ty, .ref a_bl, .ref a_ex, .ref a_lo, .int v_nl, .ref a_ho, .ref a_fi, .int v_nf, .ref a_cz, .int v_nc])), (a_cl, .inl (k_cl, 10000, .inl f_cl))] sz)) 0 0 (va_A [(a_m, .inr (5, [.int v_th, .ref a_sa, .int v_sz, .int v_at, .int v_wr, .ref a_ru, .ref a_me, .ref a_le, .int v_n, .ref a_cl, .ref a_te, .ref a_ki, .ref a_ty, .ref a_bl, .ref a_ex, .ref a_lo, .int v_nl, .ref a_ho, .ref a_fi, .int v_nf, .ref a_cz, .int v_nc])), (a_cl, .inl (k_cl, 10000, .inl f_cl))] sz) := by
  refine Met.ofW (cc := c_M_closed) (maxL := 4) (ret := (some .boolean)) (by decide) rfl ?_
  intro p e s m args below meth c s₁ B hml hv
  obtain ⟨rfl, hsz, hZ, hP, hK, hD0⟩ := hv
  have hx := B.exec
  have hb := B.bytes
  have hr := B.returns
  have hts0 := atoms_spec (ws := ws_M_closed) B.pre
  have hts : ∀ w ∈ TT, w.before _ s = true := fun w h => hts0 w (List.mem_cons_of_mem _ h)
  have hown : s.vm.findClass "LoanRulesModel" = some m.cls := findClass_of_methodNamed B.named
  have hlocks := B.notSynchronized
  subst hsz
  have hD := hD0.self (sz := s.heap.size)
  generalize hAe : va_A [(a_m, .inr (5, [.int v_th, .ref a_sa, .int v_sz, .int v_at, .int v_wr, .ref a_ru, .ref a_me, .ref a_le, .int v_n, .ref a_cl, .ref a_te, .ref a_ki, .ref a_ty, .ref a_bl, .ref a_ex, .ref a_lo, .int v_nl, .ref a_ho, .ref a_fi, .int v_nf, .ref a_cz, .int v_nc])), (a_cl, .inl (k_cl, 10000, .inl f_cl))] s.heap.size = A at hD hZ ⊢
  have hA : ∀ q : Nat, s.heap.size ≤ q → A q := fun q h => by rw [← hAe]; exact Or.inr h
  clear hAe hD0
  have hS : va_S A s.heap s.heap [] := va_S.rf
  replace hP : va_P (dC, dI) vwCl [(a_m, .inr (5, [.int v_th, .ref a_sa, .int v_sz, .int v_at, .int v_wr, .ref a_ru, .ref a_me, .ref a_le, .int v_n, .ref a_cl, .ref a_te, .ref a_ki, .ref a_ty, .ref a_bl, .ref a_ex, .ref a_lo, .int v_nl, .ref a_ho, .ref a_fi, .int v_nf, .ref a_cz, .int v_nc])), (a_cl, .inl (k_cl, 10000, .inl f_cl))] s.heap := hP
  have hl := lv_entry ([.ref a_m, .int p0, .int p1]) (n := 4) (Nat.le_of_ble_eq_true rfl)
  rw [lg_entry_eq]
  generalize (lg_sl ([.ref a_m, .int p0, .int p1]) ++ List.replicate (4 - (lg_sl ([.ref a_m, .int p0, .int p1])).length) Slot.unset).toArray = ls at hl ⊢
  replace hl : lv_has ls 4 [(0, .ref a_m), (1, .int p0), (2, .int p1)] := hl
  obtain ⟨z, hz⟩ : ∃ z, z = g_Mg_closed p0 p1 f_cl := ⟨_, rfl⟩
  have hE := hz
  rw [g_Mg_closed] at hE
  refine lv_aload_n hx hb d_M_closed_0 rfl (lv_at hl 0 rfl) ?_
  refine lv_iconst (v := 0) hx hb d_M_closed_1 (by decide) ?_
  refine va_put (D := (dC, dI)) (ci := 5) (v := .int 0) (ty := .int) (C := "LoanRulesModel") (T := Fz_M) (N := 22) hx hb hts it_M tz_M tz_M_ok nz_M hown hK hP hD hS 0 rfl rfl 0 (by decide) (hts _ tw_601) (fun _ h9 => h9) rfl (by decide +kernel) rfl rfl (Nat.le_of_ble_eq_true rfl) d_M_closed_2 (fun H locs hP hD hS => ?_)
  replace hP : va_P (dC, dI) vwCl [(a_m, .inr (5, [.int 0, .ref a_sa, .int v_sz, .int v_at, .int v_wr, .ref a_ru, .ref a_me, .ref a_le, .int v_n, .ref a_cl, .ref a_te, .ref a_ki, .ref a_ty, .ref a_bl, .ref a_ex, .ref a_lo, .int v_nl, .ref a_ho, .ref a_fi, .int v_nf, .ref a_cz, .int v_nc])), (a_cl, .inl (k_cl, 10000, .inl f_cl))] H := hP
  replace hD : va_D A [(a_m, .inr (5, [.int 0, .ref a_sa, .int v_sz, .int v_at, .int v_wr, .ref a_ru, .ref a_me, .ref a_le, .int v_n, .ref a_cl, .ref a_te, .ref a_ki, .ref a_ty, .ref a_bl, .ref a_ex, .ref a_lo, .int v_nl, .ref a_ho, .ref a_fi, .int v_nf, .ref a_cz, .int v_nc])), (a_cl, .inl (k_cl, 10000, .inl f_cl))] := hD
  refine lv_iload_n hx hb d_M_closed_5 rfl (lv_at hl 1 rfl) ?_
  have hPc := hP.sub (ws' := []) [] rfl
  have hKc := hK.sub (tys' := []) [] rfl
  refine vp_callSi (va_Run.run (va_runS (As := [.int p0]) (rest := []) ⟨hx, hb, hml, hown, hts⟩ (c_Mg_isDay l dC dI adK adV (p0 := p0)) (va_cwS 1 hts (gS tw_736 tw_737 tw_46 tw_738) rfl rfl rfl (by decide +kernel) ⟨(Nat.le_of_ble_eq_true rfl), (Nat.le_of_ble_eq_true rfl)⟩) ⟨fun a U g mk q => by obtain ⟨q0, qZ, qP, qK⟩ := q; exact ⟨q0, zz_call qZ, qP, va_K.moved (u := U) (U := U.calling g mk a) (Vm.Alike.refl U.vm) qK⟩, fun U hU hW => ⟨rfl, zz_ro hS hU hW hZ, by rw [hU]; exact hPc, va_K.moved hW.alike hKc⟩⟩ rfl rfl hl.1 rfl (lv_room (Nat.le_of_ble_eq_true rfl)) d_M_closed_6 ⟨(Nat.le_of_ble_eq_true rfl), (Nat.le_of_ble_eq_true rfl)⟩)) (fun r_1 hw_2 => ?_)
  clear hPc hKc
  subst hw_2
  refine lv_if_ne (tgt := 14) hx hb d_M_closed_9 (by decide) (fun c_3 => ?_) (fun c_3 => ?_)
  · rw [if_neg c_3] at hE
    refine lv_aload_n hx hb d_M_closed_14 rfl (lv_at hl 0 rfl) ?_
    refine va_get (D := (dC, dI)) (ci := 5) (v := .ref a_cl) (C := "LoanRulesModel") (T := Fz_M) (N := 22) hx hb hts it_M hown hK hP 0 rfl rfl 9 (by decide) (hts _ tw_610) (fun _ h9 => h9) rfl d_M_closed_15 ?_
    refine lv_iload_n hx hb d_M_closed_18 rfl (lv_at hl 1 rfl) ?_
    have i_4 : vp_in p0 10000 := inday c_3
    refine va_zald (D := (dC, dI)) hx hb hK hP 1 0 rfl rfl i_4 d_M_closed_19 ?_
    refine lv_istore_n (lv' := [(3, .int (f_cl p0.toNatClampNeg)), (0, .ref a_m), (1, .int p0), (2, .int p1)]) hx hb d_M_closed_20 rfl hl (by decide) rfl (fun ls hl => ?_)
    refine lv_aload_n hx hb d_M_closed_21 rfl (lv_at hl 1 rfl) ?_
    refine va_get (D := (dC, dI)) (ci := 5) (v := .ref a_cl) (C := "LoanRulesModel") (T := Fz_M) (N := 22) hx hb hts it_M hown hK hP 0 rfl rfl 9 (by decide) (hts _ tw_610) (fun _ h9 => h9) rfl d_M_closed_22 ?_
    refine lv_iload_n hx hb d_M_closed_25 rfl (lv_at hl 2 rfl) ?_
    refine lv_iload_n hx hb d_M_closed_26 rfl (lv_at hl 3 rfl) ?_
    have i_5 : vp_in p0 10000 := inday c_3
    refine va_zast (D := (dC, dI)) hx hb hK hP hD hS 1 0 rfl rfl i_5 d_M_closed_27 (fun H locs hP hD hS => ?_)
    replace hP : va_P (dC, dI) vwCl [(a_m, .inr (5, [.int 0, .ref a_sa, .int v_sz, .int v_at, .int v_wr, .ref a_ru, .ref a_me, .ref a_le, .int v_n, .ref a_cl, .ref a_te, .ref a_ki, .ref a_ty, .ref a_bl, .ref a_ex, .ref a_lo, .int v_nl, .ref a_ho, .ref a_fi, .int v_nf, .ref a_cz, .int v_nc])), (a_cl, .inl (k_cl, 10000, .inl (upd f_cl p0.toNatClampNeg (vp_nar .boolean p1))))] H := hP
    replace hD : va_D A [(a_m, .inr (5, [.int 0, .ref a_sa, .int v_sz, .int v_at, .int v_wr, .ref a_ru, .ref a_me, .ref a_le, .int v_n, .ref a_cl, .ref a_te, .ref a_ki, .ref a_ty, .ref a_bl, .ref a_ex, .ref a_lo, .int v_nl, .ref a_ho, .ref a_fi, .int v_nf, .ref a_cz, .int v_nc])), (a_cl, .inl (k_cl, 10000, .inl (upd f_cl p0.toNatClampNeg (vp_nar .boolean p1))))] := hD
    refine lv_iload_n hx hb d_M_closed_28 rfl (lv_at hl 0 rfl) ?_
    have hP9 := hP.sub (ws' := [(a_m, .inr (5, [.int 0, .ref a_sa, .int v_sz, .int v_at, .int v_wr, .ref a_ru, .ref a_me, .ref a_le, .int v_n, .ref a_cl, .ref a_te, .ref a_ki, .ref a_ty, .ref a_bl, .ref a_ex, .ref a_lo, .int v_nl, .ref a_ho, .ref a_fi, .int v_nf, .ref a_cz, .int v_nc])), (a_cl, .inl (k_cl, 10000, .inl (upd f_cl p0.toNatClampNeg (vp_nar .boolean p1))))]) [0, 1] rfl
    have hD9 := hD.sub (ws' := [(a_m, .inr (5, [.int 0, .ref a_sa, .int v_sz, .int v_at, .int v_wr, .ref a_ru, .ref a_me, .ref a_le, .int v_n, .ref a_cl, .ref a_te, .ref a_ki, .ref a_ty, .ref a_bl, .ref a_ex, .ref a_lo, .int v_nl, .ref a_ho, .ref a_fi, .int v_nf, .ref a_cz, .int v_nc])), (a_cl, .inl (k_cl, 10000, .inl (upd f_cl p0.toNatClampNeg (vp_nar .boolean p1))))]) [0, 1] (by decide) rfl
    have hK9 := hK.sub (tys' := [(k_cl, .boolean)]) [0] rfl
    exact W.zret (v := f_cl p0.toNatClampNeg) hx hb hr (nzI (hcl _)) (fun t ht hW => ⟨⟨f_cl p0.toNatClampNeg, (), rfl, by rw [← hz, hE], by rw [ht, ← hz, hE]; exact hP9, va_K.moved hW.alike hK9, by rw [← hz, hE]; exact hD9⟩, hS.F ht⟩) hS.2.2 d_M_closed_29
  · rw [if_pos c_3] at hE
    refine lv_iconst (v := 0) hx hb d_M_closed_12 (by decide) ?_
    have hP9 := hP.sub (ws' := [(a_m, .inr (5, [.int 0, .ref a_sa, .int v_sz, .int v_at, .int v_wr, .ref a_ru, .ref a_me, .ref a_le, .int v_n, .ref a_cl, .ref a_te, .ref a_ki, .ref a_ty, .ref a_bl, .ref a_ex, .ref a_lo, .int v_nl, .ref a_ho, .ref a_fi, .int v_nf, .ref a_cz, .int v_nc])), (a_cl, .inl (k_cl, 10000, .inl f_cl))]) [0, 1] rfl
    have hD9 := hD.sub (ws' := [(a_m, .inr (5, [.int 0, .ref a_sa, .int v_sz, .int v_at, .int v_wr, .ref a_ru, .ref a_me, .ref a_le, .int v_n, .ref a_cl, .ref a_te, .ref a_ki, .ref a_ty, .ref a_bl, .ref a_ex, .ref a_lo, .int v_nl, .ref a_ho, .ref a_fi, .int v_nf, .ref a_cz, .int v_nc])), (a_cl, .inl (k_cl, 10000, .inl f_cl))]) [0, 1] (by decide) rfl
    have hK9 := hK.sub (tys' := [(k_cl, .boolean)]) [0] rfl
    exact W.zret (v := 0) hx hb hr rfl (fun t ht hW => ⟨⟨0, (), rfl, by rw [← hz, hE], by rw [ht, ← hz, hE]; exact hP9, va_K.moved hW.alike hK9, by rw [← hz, hE]; exact hD9⟩, hS.F ht⟩) hS.2.2 d_M_closed_13
def g_Mg_term (p0 : Int32) (f_te : Nat → Int32) : Int32 × Int32 × (Nat → Int32) :=
  if (g_Mg_isDay p0) = 0 then
    (0, 0, f_te)
  else
    if (f_te p0.toNatClampNeg) = 0 then
      (1, 0, upd f_te p0.toNatClampNeg (vp_nar .boolean 1))
    else
      (0, 0, f_te)
set_option maxHeartbeats 4000000 in
set_option maxRecDepth 100000 in
theorem c_Mg_term (l : Launch) (dC : Nat → ClassId) (dI : Nat → Nat → Nat) (adK adV : Nat → Nat) (a_m : Nat) (a_te : Nat) (k_te : ClassId) (p0 : Int32) (v_th : Int32) (a_sa : Nat) (v_sz : Int32) (v_at : Int32) (v_wr : Int32) (a_ru : Nat) (a_me : Nat) (a_le : Nat) (v_n : Int32) (a_cl : Nat) (a_ki : Nat) (a_ty : Nat) (a_bl : Nat) (a_ex : Nat) (a_lo : Nat) (v_nl : Int32) (a_ho : Nat) (a_fi : Nat) (v_nf : Int32) (a_cz : Nat) (v_nc : Int32) (f_te : Nat → Int32) (sz : Nat) : Met l y_M_term ws_M_term ({ frames := 1, cells := 0, slots := 0, locals := 20 }) (va_Pc [.ref a_m, .int p0] (fun U => U.heap.size = sz ∧ zz adK adV (va_A [(a_m, .inr (5, [.int v_th, .ref a_sa, .int v_sz, .int v_at, .int v_wr, .ref a_ru, .ref a_me, .ref a_le, .int v_n, .ref a_cl, .ref a_te, .ref a_ki, .ref a_ty, .ref a_bl, .ref a_ex, .ref a_lo, .int v_nl, .ref a_ho, .ref a_fi, .int v_nf, .ref a_cz, .int v_nc])), (a_te, .inl (k_te, 10000, .inl f_te))] sz) U ∧ va_P (dC, dI) vwCl [(a_m, .inr (5, [.int v_th, .ref a_sa, .int v_sz, .int v_at, .int v_wr, .ref a_ru, .ref a_me, .ref a_le, .int v_n, .ref a_cl, .ref a_te, .ref a_ki, .ref a_ty, .ref a_bl, .ref a_ex, .ref a_lo, .int v_nl, .ref a_ho, .ref a_fi, .int v_nf, .ref a_cz, .int v_nc])), (a_te, .inl (k_te, 10000, .inl f_te))] U.heap ∧ va_K (dC, dI) vwCl [(k_te, .boolean)] U ∧ va_D (fun _ => True) [(a_m, .inr (5, [.int v_th, .ref a_sa, .int v_sz, .int v_at, .int v_wr, .ref a_ru, .ref a_me, .ref a_le, .int v_n, .ref a_cl, .ref a_te, .ref a_ki, .ref a_ty, .ref a_bl, .ref a_ex, .ref a_lo, .int v_nl, .ref a_ho, .ref a_fi, .int v_nf, .ref a_cz, .int v_nc])), (a_te, .inl (k_te, 10000, .inl f_te))])) (va_Qi (fun (r : Int32) (_ : Unit) => r = (g_Mg_term p0 f_te).1) (fun (_ : Unit) (t : State) => va_P (dC, dI) vwCl [(a_m, .inr (5, [.int ((g_Mg_term p0 f_te).2.1), .ref a_sa, .int v_sz, .int v_at, .int v_wr, .ref a_ru, .ref a_me, .ref a_le, .int v_n, .ref a_cl, .ref a_te, .ref a_ki, .ref a_ty, .ref a_bl, .ref a_ex, .ref a_lo, .int v_nl, .ref a_ho, .ref a_fi, .int v_nf, .ref a_cz, .int v_nc])), (a_te, .inl (k_te, 10000, .inl ((g_Mg_term p0 f_te).2.2)))] t.heap ∧ va_K (dC, dI) vwCl [(k_te, .boolean)] t ∧ va_D (va_A [(a_m, .inr (5, [.int v_th, .ref a_sa, .int v_sz, .int v_at, .int v_wr, .ref a_ru, .ref a_me, .ref a_le, .int v_n, .ref a_cl, .ref a_te, .ref a_ki, .ref a_ty, .ref a_bl, .ref a_ex, .ref a_lo, .int v_nl, .ref a_ho, .ref a_fi, .int v_nf, .ref a_cz, .int v_nc])), (a_te, .inl (k_te, 10000, .inl f_te))] sz) [(a_m, .inr (5, [.int ((g_Mg_term p0 f_te).2.1), .ref a_sa, .int v_sz, .int v_at, .int v_wr, .ref a_ru, .ref a_me, .ref a_le, .int v_n, .ref a_cl, .ref a_te, .ref a_ki, .ref a_ty, .ref a_bl, .ref a_ex, .ref a_lo, .int v_nl, .ref a_ho, .ref a_fi, .int v_nf, .ref a_cz, .int v_nc])), (a_te, .inl (k_te, 10000, .inl ((g_Mg_term p0 f_te).2.2)))]) (va_A [(a_m, .inr (5, [.int v_th, .ref a_sa, .int v_sz, .int v_at, .int v_wr, .ref a_ru, .ref a_me, .ref a_le, .int v_n, .ref a_cl, .ref a_te, .ref a_ki, .ref a_ty, .ref a_bl, .ref a_ex, .ref a_lo, .int v_nl, .ref a_ho, .ref a_fi, .int v_nf, .ref a_cz, .int v_nc])), (a_te, .inl (k_te, 10000, .inl f_te))] sz)) 0 0 (va_A [(a_m, .inr (5, [.int v_th, .ref a_sa, .int v_sz, .int v_at, .int v_wr, .ref a_ru, .ref a_me, .ref a_le, .int v_n, .ref a_cl, .ref a_te, .ref a_ki, .ref a_ty, .ref a_bl, .ref a_ex, .ref a_lo, .int v_nl, .ref a_ho, .ref a_fi, .int v_nf, .ref a_cz, .int v_nc])), (a_te, .inl (k_te, 10000, .inl f_te))] sz) := by
  refine Met.ofW (cc := c_M_term) (maxL := 2) (ret := (some .int)) (by decide) rfl ?_
  intro p e s m args below meth c s₁ B hml hv
  obtain ⟨rfl, hsz, hZ, hP, hK, hD0⟩ := hv
  have hx := B.exec
  have hb := B.bytes
  have hr := B.returns
  have hts0 := atoms_spec (ws := ws_M_term) B.pre
  have hts : ∀ w ∈ TT, w.before _ s = true := fun w h => hts0 w (List.mem_cons_of_mem _ h)
  have hown : s.vm.findClass "LoanRulesModel" = some m.cls := findClass_of_methodNamed B.named
  have hlocks := B.notSynchronized
  subst hsz
  have hD := hD0.self (sz := s.heap.size)
  generalize hAe : va_A [(a_m, .inr (5, [.int v_th, .ref a_sa, .int v_sz, .int v_at, .int v_wr, .ref a_ru, .ref a_me, .ref a_le, .int v_n, .ref a_cl, .ref a_te, .ref a_ki, .ref a_ty, .ref a_bl, .ref a_ex, .ref a_lo, .int v_nl, .ref a_ho, .ref a_fi, .int v_nf, .ref a_cz, .int v_nc])), (a_te, .inl (k_te, 10000, .inl f_te))] s.heap.size = A at hD hZ ⊢
  have hA : ∀ q : Nat, s.heap.size ≤ q → A q := fun q h => by rw [← hAe]; exact Or.inr h
  clear hAe hD0
  have hS : va_S A s.heap s.heap [] := va_S.rf
  replace hP : va_P (dC, dI) vwCl [(a_m, .inr (5, [.int v_th, .ref a_sa, .int v_sz, .int v_at, .int v_wr, .ref a_ru, .ref a_me, .ref a_le, .int v_n, .ref a_cl, .ref a_te, .ref a_ki, .ref a_ty, .ref a_bl, .ref a_ex, .ref a_lo, .int v_nl, .ref a_ho, .ref a_fi, .int v_nf, .ref a_cz, .int v_nc])), (a_te, .inl (k_te, 10000, .inl f_te))] s.heap := hP
  have hl := lv_entry ([.ref a_m, .int p0]) (n := 2) (Nat.le_of_ble_eq_true rfl)
  rw [lg_entry_eq]
  generalize (lg_sl ([.ref a_m, .int p0]) ++ List.replicate (2 - (lg_sl ([.ref a_m, .int p0])).length) Slot.unset).toArray = ls at hl ⊢
  replace hl : lv_has ls 2 [(0, .ref a_m), (1, .int p0)] := hl
  obtain ⟨z, hz⟩ : ∃ z, z = g_Mg_term p0 f_te := ⟨_, rfl⟩
  have hE := hz
  rw [g_Mg_term] at hE
  refine lv_aload_n hx hb d_M_term_0 rfl (lv_at hl 0 rfl) ?_
  refine lv_iconst (v := 0) hx hb d_M_term_1 (by decide) ?_
  refine va_put (D := (dC, dI)) (ci := 5) (v := .int 0) (ty := .int) (C := "LoanRulesModel") (T := Fz_M) (N := 22) hx hb hts it_M tz_M tz_M_ok nz_M hown hK hP hD hS 0 rfl rfl 0 (by decide) (hts _ tw_601) (fun _ h9 => h9) rfl (by decide +kernel) rfl rfl (Nat.le_of_ble_eq_true rfl) d_M_term_2 (fun H locs hP hD hS => ?_)
  replace hP : va_P (dC, dI) vwCl [(a_m, .inr (5, [.int 0, .ref a_sa, .int v_sz, .int v_at, .int v_wr, .ref a_ru, .ref a_me, .ref a_le, .int v_n, .ref a_cl, .ref a_te, .ref a_ki, .ref a_ty, .ref a_bl, .ref a_ex, .ref a_lo, .int v_nl, .ref a_ho, .ref a_fi, .int v_nf, .ref a_cz, .int v_nc])), (a_te, .inl (k_te, 10000, .inl f_te))] H := hP
  replace hD : va_D A [(a_m, .inr (5, [.int 0, .ref a_sa, .int v_sz, .int v_at, .int v_wr, .ref a_ru, .ref a_me, .ref a_le, .int v_n, .ref a_cl, .ref a_te, .ref a_ki, .ref a_ty, .ref a_bl, .ref a_ex, .ref a_lo, .int v_nl, .ref a_ho, .ref a_fi, .int v_nf, .ref a_cz, .int v_nc])), (a_te, .inl (k_te, 10000, .inl f_te))] := hD
  refine lv_iload_n hx hb d_M_term_5 rfl (lv_at hl 1 rfl) ?_
  have hPc := hP.sub (ws' := []) [] rfl
  have hKc := hK.sub (tys' := []) [] rfl
  refine vp_callSi (va_Run.run (va_runS (As := [.int p0]) (rest := []) ⟨hx, hb, hml, hown, hts⟩ (c_Mg_isDay l dC dI adK adV (p0 := p0)) (va_cwS 1 hts (gS tw_736 tw_737 tw_46 tw_738) rfl rfl rfl (by decide +kernel) ⟨(Nat.le_of_ble_eq_true rfl), (Nat.le_of_ble_eq_true rfl)⟩) ⟨fun a U g mk q => by obtain ⟨q0, qZ, qP, qK⟩ := q; exact ⟨q0, zz_call qZ, qP, va_K.moved (u := U) (U := U.calling g mk a) (Vm.Alike.refl U.vm) qK⟩, fun U hU hW => ⟨rfl, zz_ro hS hU hW hZ, by rw [hU]; exact hPc, va_K.moved hW.alike hKc⟩⟩ rfl rfl hl.1 rfl (lv_room (Nat.le_of_ble_eq_true rfl)) d_M_term_6 ⟨(Nat.le_of_ble_eq_true rfl), (Nat.le_of_ble_eq_true rfl)⟩)) (fun r_1 hw_2 => ?_)
  clear hPc hKc
  subst hw_2
  refine lv_if_eq (tgt := 21) hx hb d_M_term_9 (by decide) (fun c_3 => ?_) (fun c_3 => ?_)
  · rw [if_pos c_3] at hE
    refine lv_iconst (v := 0) hx hb d_M_term_21 (by decide) ?_
    have hP9 := hP.sub (ws' := [(a_m, .inr (5, [.int 0, .ref a_sa, .int v_sz, .int v_at, .int v_wr, .ref a_ru, .ref a_me, .ref a_le, .int v_n, .ref a_cl, .ref a_te, .ref a_ki, .ref a_ty, .ref a_bl, .ref a_ex, .ref a_lo, .int v_nl, .ref a_ho, .ref a_fi, .int v_nf, .ref a_cz, .int v_nc])), (a_te, .inl (k_te, 10000, .inl f_te))]) [0, 1] rfl
    have hD9 := hD.sub (ws' := [(a_m, .inr (5, [.int 0, .ref a_sa, .int v_sz, .int v_at, .int v_wr, .ref a_ru, .ref a_me, .ref a_le, .int v_n, .ref a_cl, .ref a_te, .ref a_ki, .ref a_ty, .ref a_bl, .ref a_ex, .ref a_lo, .int v_nl, .ref a_ho, .ref a_fi, .int v_nf, .ref a_cz, .int v_nc])), (a_te, .inl (k_te, 10000, .inl f_te))]) [0, 1] (by decide) rfl
    have hK9 := hK.sub (tys' := [(k_te, .boolean)]) [0] rfl
    exact W.iret (v := 0) hx hb hr (fun t ht hW => ⟨⟨0, (), rfl, by rw [← hz, hE], by rw [ht, ← hz, hE]; exact hP9, va_K.moved hW.alike hK9, by rw [← hz, hE]; exact hD9⟩, hS.F ht⟩) hS.2.2 d_M_term_22
  · rw [if_neg c_3] at hE
    refine lv_aload_n hx hb d_M_term_12 rfl (lv_at hl 0 rfl) ?_
    refine va_get (D := (dC, dI)) (ci := 5) (v := .ref a_te) (C := "LoanRulesModel") (T := Fz_M) (N := 22) hx hb hts it_M hown hK hP 0 rfl rfl 10 (by decide) (hts _ tw_611) (fun _ h9 => h9) rfl d_M_term_13 ?_
    refine lv_iload_n hx hb d_M_term_16 rfl (lv_at hl 1 rfl) ?_
    have i_4 : vp_in p0 10000 := inday c_3
    refine va_zald (D := (dC, dI)) hx hb hK hP 1 0 rfl rfl i_4 d_M_term_17 ?_
    refine lv_if_eq (tgt := 23) hx hb d_M_term_18 (by decide) (fun c_5 => ?_) (fun c_5 => ?_)
    · rw [if_pos c_5] at hE
      refine lv_aload_n hx hb d_M_term_23 rfl (lv_at hl 0 rfl) ?_
      refine va_get (D := (dC, dI)) (ci := 5) (v := .ref a_te) (C := "LoanRulesModel") (T := Fz_M) (N := 22) hx hb hts it_M hown hK hP 0 rfl rfl 10 (by decide) (hts _ tw_611) (fun _ h9 => h9) rfl d_M_term_24 ?_
      refine lv_iload_n hx hb d_M_term_27 rfl (lv_at hl 1 rfl) ?_
      refine lv_iconst (v := 1) hx hb d_M_term_28 (by decide) ?_
      have i_6 : vp_in p0 10000 := inday c_3
      refine va_zast (D := (dC, dI)) hx hb hK hP hD hS 1 0 rfl rfl i_6 d_M_term_29 (fun H locs hP hD hS => ?_)
      replace hP : va_P (dC, dI) vwCl [(a_m, .inr (5, [.int 0, .ref a_sa, .int v_sz, .int v_at, .int v_wr, .ref a_ru, .ref a_me, .ref a_le, .int v_n, .ref a_cl, .ref a_te, .ref a_ki, .ref a_ty, .ref a_bl, .ref a_ex, .ref a_lo, .int v_nl, .ref a_ho, .ref a_fi, .int v_nf, .ref a_cz, .int v_nc])), (a_te, .inl (k_te, 10000, .inl (upd f_te p0.toNatClampNeg (vp_nar .boolean 1))))] H := hP
      replace hD : va_D A [(a_m, .inr (5, [.int 0, .ref a_sa, .int v_sz, .int v_at, .int v_wr, .ref a_ru, .ref a_me, .ref a_le, .int v_n, .ref a_cl, .ref a_te, .ref a_ki, .ref a_ty, .ref a_bl, .ref a_ex, .ref a_lo, .int v_nl, .ref a_ho, .ref a_fi, .int v_nf, .ref a_cz, .int v_nc])), (a_te, .inl (k_te, 10000, .inl (upd f_te p0.toNatClampNeg (vp_nar .boolean 1))))] := hD
      refine lv_iconst (v := 1) hx hb d_M_term_30 (by decide) ?_
      have hP9 := hP.sub (ws' := [(a_m, .inr (5, [.int 0, .ref a_sa, .int v_sz, .int v_at, .int v_wr, .ref a_ru, .ref a_me, .ref a_le, .int v_n, .ref a_cl, .ref a_te, .ref a_ki, .ref a_ty, .ref a_bl, .ref a_ex, .ref a_lo, .int v_nl, .ref a_ho, .ref a_fi, .int v_nf, .ref a_cz, .int v_nc])), (a_te, .inl (k_te, 10000, .inl (upd f_te p0.toNatClampNeg (vp_nar .boolean 1))))]) [0, 1] rfl
      have hD9 := hD.sub (ws' := [(a_m, .inr (5, [.int 0, .ref a_sa, .int v_sz, .int v_at, .int v_wr, .ref a_ru, .ref a_me, .ref a_le, .int v_n, .ref a_cl, .ref a_te, .ref a_ki, .ref a_ty, .ref a_bl, .ref a_ex, .ref a_lo, .int v_nl, .ref a_ho, .ref a_fi, .int v_nf, .ref a_cz, .int v_nc])), (a_te, .inl (k_te, 10000, .inl (upd f_te p0.toNatClampNeg (vp_nar .boolean 1))))]) [0, 1] (by decide) rfl
      have hK9 := hK.sub (tys' := [(k_te, .boolean)]) [0] rfl
      exact W.iret (v := 1) hx hb hr (fun t ht hW => ⟨⟨1, (), rfl, by rw [← hz, hE], by rw [ht, ← hz, hE]; exact hP9, va_K.moved hW.alike hK9, by rw [← hz, hE]; exact hD9⟩, hS.F ht⟩) hS.2.2 d_M_term_31
    · rw [if_neg c_5] at hE
      refine lv_iconst (v := 0) hx hb d_M_term_21 (by decide) ?_
      have hP9 := hP.sub (ws' := [(a_m, .inr (5, [.int 0, .ref a_sa, .int v_sz, .int v_at, .int v_wr, .ref a_ru, .ref a_me, .ref a_le, .int v_n, .ref a_cl, .ref a_te, .ref a_ki, .ref a_ty, .ref a_bl, .ref a_ex, .ref a_lo, .int v_nl, .ref a_ho, .ref a_fi, .int v_nf, .ref a_cz, .int v_nc])), (a_te, .inl (k_te, 10000, .inl f_te))]) [0, 1] rfl
      have hD9 := hD.sub (ws' := [(a_m, .inr (5, [.int 0, .ref a_sa, .int v_sz, .int v_at, .int v_wr, .ref a_ru, .ref a_me, .ref a_le, .int v_n, .ref a_cl, .ref a_te, .ref a_ki, .ref a_ty, .ref a_bl, .ref a_ex, .ref a_lo, .int v_nl, .ref a_ho, .ref a_fi, .int v_nf, .ref a_cz, .int v_nc])), (a_te, .inl (k_te, 10000, .inl f_te))]) [0, 1] (by decide) rfl
      have hK9 := hK.sub (tys' := [(k_te, .boolean)]) [0] rfl
      exact W.iret (v := 0) hx hb hr (fun t ht hW => ⟨⟨0, (), rfl, by rw [← hz, hE], by rw [ht, ← hz, hE]; exact hP9, va_K.moved hW.alike hK9, by rw [← hz, hE]; exact hD9⟩, hS.F ht⟩) hS.2.2 d_M_term_22
def g_Mg_row (p0 : Int32) (p1 : Int32) (p2 : Int32) (f_ki : Nat → Int32) (f_ty : Nat → Int32) : Int32 × Int32 × (Nat → Int32) × (Nat → Int32) :=
  if p0 < 0 then
    (0, 0, f_ki, f_ty)
  else
    if 1 < p0 then
      (0, 0, f_ki, f_ty)
    else
      if (g_Mg_isPerson p1) = 0 then
        (0, 0, f_ki, f_ty)
      else
        if p2 < 0 then
          (0, 0, f_ki, f_ty)
        else
          if p2 ≤ 9 then
            if p0 = 0 then
              (1, 0, upd f_ki p1.toNatClampNeg p2, f_ty)
            else
              (1, 0, f_ki, upd f_ty p1.toNatClampNeg p2)
          else
            (0, 0, f_ki, f_ty)
set_option maxHeartbeats 4000000 in
set_option maxRecDepth 100000 in
theorem c_Mg_row (l : Launch) (dC : Nat → ClassId) (dI : Nat → Nat → Nat) (adK adV : Nat → Nat) (a_m : Nat) (a_ki : Nat) (a_ty : Nat) (k_ki : ClassId) (k_ty : ClassId) (p0 : Int32) (p1 : Int32) (p2 : Int32) (v_th : Int32) (a_sa : Nat) (v_sz : Int32) (v_at : Int32) (v_wr : Int32) (a_ru : Nat) (a_me : Nat) (a_le : Nat) (v_n : Int32) (a_cl : Nat) (a_te : Nat) (a_bl : Nat) (a_ex : Nat) (a_lo : Nat) (v_nl : Int32) (a_ho : Nat) (a_fi : Nat) (v_nf : Int32) (a_cz : Nat) (v_nc : Int32) (f_ki : Nat → Int32) (f_ty : Nat → Int32) (sz : Nat) : Met l y_M_row ws_M_row ({ frames := 1, cells := 0, slots := 0, locals := 20 }) (va_Pc [.ref a_m, .int p0, .int p1, .int p2] (fun U => U.heap.size = sz ∧ zz adK adV (va_A [(a_m, .inr (5, [.int v_th, .ref a_sa, .int v_sz, .int v_at, .int v_wr, .ref a_ru, .ref a_me, .ref a_le, .int v_n, .ref a_cl, .ref a_te, .ref a_ki, .ref a_ty, .ref a_bl, .ref a_ex, .ref a_lo, .int v_nl, .ref a_ho, .ref a_fi, .int v_nf, .ref a_cz, .int v_nc])), (a_ki, .inl (k_ki, 50, .inl f_ki)), (a_ty, .inl (k_ty, 50, .inl f_ty))] sz) U ∧ va_P (dC, dI) vwCl [(a_m, .inr (5, [.int v_th, .ref a_sa, .int v_sz, .int v_at, .int v_wr, .ref a_ru, .ref a_me, .ref a_le, .int v_n, .ref a_cl, .ref a_te, .ref a_ki, .ref a_ty, .ref a_bl, .ref a_ex, .ref a_lo, .int v_nl, .ref a_ho, .ref a_fi, .int v_nf, .ref a_cz, .int v_nc])), (a_ki, .inl (k_ki, 50, .inl f_ki)), (a_ty, .inl (k_ty, 50, .inl f_ty))] U.heap ∧ va_K (dC, dI) vwCl [(k_ki, .int), (k_ty, .int)] U ∧ va_D (fun _ => True) [(a_m, .inr (5, [.int v_th, .ref a_sa, .int v_sz, .int v_at, .int v_wr, .ref a_ru, .ref a_me, .ref a_le, .int v_n, .ref a_cl, .ref a_te, .ref a_ki, .ref a_ty, .ref a_bl, .ref a_ex, .ref a_lo, .int v_nl, .ref a_ho, .ref a_fi, .int v_nf, .ref a_cz, .int v_nc])), (a_ki, .inl (k_ki, 50, .inl f_ki)), (a_ty, .inl (k_ty, 50, .inl f_ty))])) (va_Qi (fun (r : Int32) (_ : Unit) => r = (g_Mg_row p0 p1 p2 f_ki f_ty).1) (fun (_ : Unit) (t : State) => va_P (dC, dI) vwCl [(a_m, .inr (5, [.int ((g_Mg_row p0 p1 p2 f_ki f_ty).2.1), .ref a_sa, .int v_sz, .int v_at, .int v_wr, .ref a_ru, .ref a_me, .ref a_le, .int v_n, .ref a_cl, .ref a_te, .ref a_ki, .ref a_ty, .ref a_bl, .ref a_ex, .ref a_lo, .int v_nl, .ref a_ho, .ref a_fi, .int v_nf, .ref a_cz, .int v_nc])), (a_ki, .inl (k_ki, 50, .inl ((g_Mg_row p0 p1 p2 f_ki f_ty).2.2.1))), (a_ty, .inl (k_ty, 50, .inl ((g_Mg_row p0 p1 p2 f_ki f_ty).2.2.2)))] t.heap ∧ va_K (dC, dI) vwCl [(k_ki, .int), (k_ty, .int)] t ∧ va_D (va_A [(a_m, .inr (5, [.int v_th, .ref a_sa, .int v_sz, .int v_at, .int v_wr, .ref a_ru, .ref a_me, .ref a_le, .int v_n, .ref a_cl, .ref a_te, .ref a_ki, .ref a_ty, .ref a_bl, .ref a_ex, .ref a_lo, .int v_nl, .ref a_ho, .ref a_fi, .int v_nf, .ref a_cz, .int v_nc])), (a_ki, .inl (k_ki, 50, .inl f_ki)), (a_ty, .inl (k_ty, 50, .inl f_ty))] sz) [(a_m, .inr (5, [.int ((g_Mg_row p0 p1 p2 f_ki f_ty).2.1), .ref a_sa, .int v_sz, .int v_at, .int v_wr, .ref a_ru, .ref a_me, .ref a_le, .int v_n, .ref a_cl, .ref a_te, .ref a_ki, .ref a_ty, .ref a_bl, .ref a_ex, .ref a_lo, .int v_nl, .ref a_ho, .ref a_fi, .int v_nf, .ref a_cz, .int v_nc])), (a_ki, .inl (k_ki, 50, .inl ((g_Mg_row p0 p1 p2 f_ki f_ty).2.2.1))), (a_ty, .inl (k_ty, 50, .inl ((g_Mg_row p0 p1 p2 f_ki f_ty).2.2.2)))]) (va_A [(a_m, .inr (5, [.int v_th, .ref a_sa, .int v_sz, .int v_at, .int v_wr, .ref a_ru, .ref a_me, .ref a_le, .int v_n, .ref a_cl, .ref a_te, .ref a_ki, .ref a_ty, .ref a_bl, .ref a_ex, .ref a_lo, .int v_nl, .ref a_ho, .ref a_fi, .int v_nf, .ref a_cz, .int v_nc])), (a_ki, .inl (k_ki, 50, .inl f_ki)), (a_ty, .inl (k_ty, 50, .inl f_ty))] sz)) 0 0 (va_A [(a_m, .inr (5, [.int v_th, .ref a_sa, .int v_sz, .int v_at, .int v_wr, .ref a_ru, .ref a_me, .ref a_le, .int v_n, .ref a_cl, .ref a_te, .ref a_ki, .ref a_ty, .ref a_bl, .ref a_ex, .ref a_lo, .int v_nl, .ref a_ho, .ref a_fi, .int v_nf, .ref a_cz, .int v_nc])), (a_ki, .inl (k_ki, 50, .inl f_ki)), (a_ty, .inl (k_ty, 50, .inl f_ty))] sz) := by
  refine Met.ofW (cc := c_M_row) (maxL := 4) (ret := (some .int)) (by decide) rfl ?_
  intro p e s m args below meth c s₁ B hml hv
  obtain ⟨rfl, hsz, hZ, hP, hK, hD0⟩ := hv
  have hx := B.exec
  have hb := B.bytes
  have hr := B.returns
  have hts0 := atoms_spec (ws := ws_M_row) B.pre
  have hts : ∀ w ∈ TT, w.before _ s = true := fun w h => hts0 w (List.mem_cons_of_mem _ h)
  have hown : s.vm.findClass "LoanRulesModel" = some m.cls := findClass_of_methodNamed B.named
  have hlocks := B.notSynchronized
  subst hsz
  have hD := hD0.self (sz := s.heap.size)
  generalize hAe : va_A [(a_m, .inr (5, [.int v_th, .ref a_sa, .int v_sz, .int v_at, .int v_wr, .ref a_ru, .ref a_me, .ref a_le, .int v_n, .ref a_cl, .ref a_te, .ref a_ki, .ref a_ty, .ref a_bl, .ref a_ex, .ref a_lo, .int v_nl, .ref a_ho, .ref a_fi, .int v_nf, .ref a_cz, .int v_nc])), (a_ki, .inl (k_ki, 50, .inl f_ki)), (a_ty, .inl (k_ty, 50, .inl f_ty))] s.heap.size = A at hD hZ ⊢
  have hA : ∀ q : Nat, s.heap.size ≤ q → A q := fun q h => by rw [← hAe]; exact Or.inr h
  clear hAe hD0
  have hS : va_S A s.heap s.heap [] := va_S.rf
  replace hP : va_P (dC, dI) vwCl [(a_m, .inr (5, [.int v_th, .ref a_sa, .int v_sz, .int v_at, .int v_wr, .ref a_ru, .ref a_me, .ref a_le, .int v_n, .ref a_cl, .ref a_te, .ref a_ki, .ref a_ty, .ref a_bl, .ref a_ex, .ref a_lo, .int v_nl, .ref a_ho, .ref a_fi, .int v_nf, .ref a_cz, .int v_nc])), (a_ki, .inl (k_ki, 50, .inl f_ki)), (a_ty, .inl (k_ty, 50, .inl f_ty))] s.heap := hP
  have hl := lv_entry ([.ref a_m, .int p0, .int p1, .int p2]) (n := 4) (Nat.le_of_ble_eq_true rfl)
  rw [lg_entry_eq]
  generalize (lg_sl ([.ref a_m, .int p0, .int p1, .int p2]) ++ List.replicate (4 - (lg_sl ([.ref a_m, .int p0, .int p1, .int p2])).length) Slot.unset).toArray = ls at hl ⊢
  replace hl : lv_has ls 4 [(0, .ref a_m), (1, .int p0), (2, .int p1), (3, .int p2)] := hl
  obtain ⟨z, hz⟩ : ∃ z, z = g_Mg_row p0 p1 p2 f_ki f_ty := ⟨_, rfl⟩
  have hE := hz
  rw [g_Mg_row] at hE
  refine lv_aload_n hx hb d_M_row_0 rfl (lv_at hl 0 rfl) ?_
  refine lv_iconst (v := 0) hx hb d_M_row_1 (by decide) ?_
  refine va_put (D := (dC, dI)) (ci := 5) (v := .int 0) (ty := .int) (C := "LoanRulesModel") (T := Fz_M) (N := 22) hx hb hts it_M tz_M tz_M_ok nz_M hown hK hP hD hS 0 rfl rfl 0 (by decide) (hts _ tw_601) (fun _ h9 => h9) rfl (by decide +kernel) rfl rfl (Nat.le_of_ble_eq_true rfl) d_M_row_2 (fun H locs hP hD hS => ?_)
  replace hP : va_P (dC, dI) vwCl [(a_m, .inr (5, [.int 0, .ref a_sa, .int v_sz, .int v_at, .int v_wr, .ref a_ru, .ref a_me, .ref a_le, .int v_n, .ref a_cl, .ref a_te, .ref a_ki, .ref a_ty, .ref a_bl, .ref a_ex, .ref a_lo, .int v_nl, .ref a_ho, .ref a_fi, .int v_nf, .ref a_cz, .int v_nc])), (a_ki, .inl (k_ki, 50, .inl f_ki)), (a_ty, .inl (k_ty, 50, .inl f_ty))] H := hP
  replace hD : va_D A [(a_m, .inr (5, [.int 0, .ref a_sa, .int v_sz, .int v_at, .int v_wr, .ref a_ru, .ref a_me, .ref a_le, .int v_n, .ref a_cl, .ref a_te, .ref a_ki, .ref a_ty, .ref a_bl, .ref a_ex, .ref a_lo, .int v_nl, .ref a_ho, .ref a_fi, .int v_nf, .ref a_cz, .int v_nc])), (a_ki, .inl (k_ki, 50, .inl f_ki)), (a_ty, .inl (k_ty, 50, .inl f_ty))] := hD
  refine lv_iload_n hx hb d_M_row_5 rfl (lv_at hl 1 rfl) ?_
  refine lv_if_lt (tgt := 31) hx hb d_M_row_6 (by decide) (fun c_1 => ?_) (fun c_1 => ?_)
  · rw [if_pos c_1] at hE
    refine lv_iconst (v := 0) hx hb d_M_row_31 (by decide) ?_
    have hP9 := hP.sub (ws' := [(a_m, .inr (5, [.int 0, .ref a_sa, .int v_sz, .int v_at, .int v_wr, .ref a_ru, .ref a_me, .ref a_le, .int v_n, .ref a_cl, .ref a_te, .ref a_ki, .ref a_ty, .ref a_bl, .ref a_ex, .ref a_lo, .int v_nl, .ref a_ho, .ref a_fi, .int v_nf, .ref a_cz, .int v_nc])), (a_ki, .inl (k_ki, 50, .inl f_ki)), (a_ty, .inl (k_ty, 50, .inl f_ty))]) [0, 1, 2] rfl
    have hD9 := hD.sub (ws' := [(a_m, .inr (5, [.int 0, .ref a_sa, .int v_sz, .int v_at, .int v_wr, .ref a_ru, .ref a_me, .ref a_le, .int v_n, .ref a_cl, .ref a_te, .ref a_ki, .ref a_ty, .ref a_bl, .ref a_ex, .ref a_lo, .int v_nl, .ref a_ho, .ref a_fi, .int v_nf, .ref a_cz, .int v_nc])), (a_ki, .inl (k_ki, 50, .inl f_ki)), (a_ty, .inl (k_ty, 50, .inl f_ty))]) [0, 1, 2] (by decide) rfl
    have hK9 := hK.sub (tys' := [(k_ki, .int), (k_ty, .int)]) [0, 1] rfl
    exact W.iret (v := 0) hx hb hr (fun t ht hW => ⟨⟨0, (), rfl, by rw [← hz, hE], by rw [ht, ← hz, hE]; exact hP9, va_K.moved hW.alike hK9, by rw [← hz, hE]; exact hD9⟩, hS.F ht⟩) hS.2.2 d_M_row_32
  · rw [if_neg c_1] at hE
    refine lv_iload_n hx hb d_M_row_9 rfl (lv_at hl 1 rfl) ?_
    refine lv_iconst (v := 1) hx hb d_M_row_10 (by decide) ?_
    refine lv_icmp_gt (tgt := 31) hx hb d_M_row_11 (by decide) (fun c_2 => ?_) (fun c_2 => ?_)
    · rw [if_pos c_2] at hE
      refine lv_iconst (v := 0) hx hb d_M_row_31 (by decide) ?_
      have hP9 := hP.sub (ws' := [(a_m, .inr (5, [.int 0, .ref a_sa, .int v_sz, .int v_at, .int v_wr, .ref a_ru, .ref a_me, .ref a_le, .int v_n, .ref a_cl, .ref a_te, .ref a_ki, .ref a_ty, .ref a_bl, .ref a_ex, .ref a_lo, .int v_nl, .ref a_ho, .ref a_fi, .int v_nf, .ref a_cz, .int v_nc])), (a_ki, .inl (k_ki, 50, .inl f_ki)), (a_ty, .inl (k_ty, 50, .inl f_ty))]) [0, 1, 2] rfl
      have hD9 := hD.sub (ws' := [(a_m, .inr (5, [.int 0, .ref a_sa, .int v_sz, .int v_at, .int v_wr, .ref a_ru, .ref a_me, .ref a_le, .int v_n, .ref a_cl, .ref a_te, .ref a_ki, .ref a_ty, .ref a_bl, .ref a_ex, .ref a_lo, .int v_nl, .ref a_ho, .ref a_fi, .int v_nf, .ref a_cz, .int v_nc])), (a_ki, .inl (k_ki, 50, .inl f_ki)), (a_ty, .inl (k_ty, 50, .inl f_ty))]) [0, 1, 2] (by decide) rfl
      have hK9 := hK.sub (tys' := [(k_ki, .int), (k_ty, .int)]) [0, 1] rfl
      exact W.iret (v := 0) hx hb hr (fun t ht hW => ⟨⟨0, (), rfl, by rw [← hz, hE], by rw [ht, ← hz, hE]; exact hP9, va_K.moved hW.alike hK9, by rw [← hz, hE]; exact hD9⟩, hS.F ht⟩) hS.2.2 d_M_row_32
    · rw [if_neg c_2] at hE
      refine lv_iload_n hx hb d_M_row_14 rfl (lv_at hl 2 rfl) ?_
      have hPc := hP.sub (ws' := []) [] rfl
      have hKc := hK.sub (tys' := []) [] rfl
      refine vp_callSi (va_Run.run (va_runS (As := [.int p1]) (rest := []) ⟨hx, hb, hml, hown, hts⟩ (c_Mg_isPerson l dC dI adK adV (p0 := p1)) (va_cwS 1 hts (gS tw_747 tw_748 tw_46 tw_749) rfl rfl rfl (by decide +kernel) ⟨(Nat.le_of_ble_eq_true rfl), (Nat.le_of_ble_eq_true rfl)⟩) ⟨fun a U g mk q => by obtain ⟨q0, qZ, qP, qK⟩ := q; exact ⟨q0, zz_call qZ, qP, va_K.moved (u := U) (U := U.calling g mk a) (Vm.Alike.refl U.vm) qK⟩, fun U hU hW => ⟨rfl, zz_ro hS hU hW hZ, by rw [hU]; exact hPc, va_K.moved hW.alike hKc⟩⟩ rfl rfl hl.1 rfl (lv_room (Nat.le_of_ble_eq_true rfl)) d_M_row_15 ⟨(Nat.le_of_ble_eq_true rfl), (Nat.le_of_ble_eq_true rfl)⟩)) (fun r_3 hw_4 => ?_)
      clear hPc hKc
      subst hw_4
      refine lv_if_eq (tgt := 31) hx hb d_M_row_18 (by decide) (fun c_5 => ?_) (fun c_5 => ?_)
      · rw [if_pos c_5] at hE
        refine lv_iconst (v := 0) hx hb d_M_row_31 (by decide) ?_
        have hP9 := hP.sub (ws' := [(a_m, .inr (5, [.int 0, .ref a_sa, .int v_sz, .int v_at, .int v_wr, .ref a_ru, .ref a_me, .ref a_le, .int v_n, .ref a_cl, .ref a_te, .ref a_ki, .ref a_ty, .ref a_bl, .ref a_ex, .ref a_lo, .int v_nl, .ref a_ho, .ref a_fi, .int v_nf, .ref a_cz, .int v_nc])), (a_ki, .inl (k_ki, 50, .inl f_ki)), (a_ty, .inl (k_ty, 50, .inl f_ty))]) [0, 1, 2] rfl
        have hD9 := hD.sub (ws' := [(a_m, .inr (5, [.int 0, .ref a_sa, .int v_sz, .int v_at, .int v_wr, .ref a_ru, .ref a_me, .ref a_le, .int v_n, .ref a_cl, .ref a_te, .ref a_ki, .ref a_ty, .ref a_bl, .ref a_ex, .ref a_lo, .int v_nl, .ref a_ho, .ref a_fi, .int v_nf, .ref a_cz, .int v_nc])), (a_ki, .inl (k_ki, 50, .inl f_ki)), (a_ty, .inl (k_ty, 50, .inl f_ty))]) [0, 1, 2] (by decide) rfl
        have hK9 := hK.sub (tys' := [(k_ki, .int), (k_ty, .int)]) [0, 1] rfl
        exact W.iret (v := 0) hx hb hr (fun t ht hW => ⟨⟨0, (), rfl, by rw [← hz, hE], by rw [ht, ← hz, hE]; exact hP9, va_K.moved hW.alike hK9, by rw [← hz, hE]; exact hD9⟩, hS.F ht⟩) hS.2.2 d_M_row_32
      · rw [if_neg c_5] at hE
        refine lv_iload_n hx hb d_M_row_21 rfl (lv_at hl 3 rfl) ?_
        refine lv_if_lt (tgt := 31) hx hb d_M_row_22 (by decide) (fun c_6 => ?_) (fun c_6 => ?_)
        · rw [if_pos c_6] at hE
          refine lv_iconst (v := 0) hx hb d_M_row_31 (by decide) ?_
          have hP9 := hP.sub (ws' := [(a_m, .inr (5, [.int 0, .ref a_sa, .int v_sz, .int v_at, .int v_wr, .ref a_ru, .ref a_me, .ref a_le, .int v_n, .ref a_cl, .ref a_te, .ref a_ki, .ref a_ty, .ref a_bl, .ref a_ex, .ref a_lo, .int v_nl, .ref a_ho, .ref a_fi, .int v_nf, .ref a_cz, .int v_nc])), (a_ki, .inl (k_ki, 50, .inl f_ki)), (a_ty, .inl (k_ty, 50, .inl f_ty))]) [0, 1, 2] rfl
          have hD9 := hD.sub (ws' := [(a_m, .inr (5, [.int 0, .ref a_sa, .int v_sz, .int v_at, .int v_wr, .ref a_ru, .ref a_me, .ref a_le, .int v_n, .ref a_cl, .ref a_te, .ref a_ki, .ref a_ty, .ref a_bl, .ref a_ex, .ref a_lo, .int v_nl, .ref a_ho, .ref a_fi, .int v_nf, .ref a_cz, .int v_nc])), (a_ki, .inl (k_ki, 50, .inl f_ki)), (a_ty, .inl (k_ty, 50, .inl f_ty))]) [0, 1, 2] (by decide) rfl
          have hK9 := hK.sub (tys' := [(k_ki, .int), (k_ty, .int)]) [0, 1] rfl
          exact W.iret (v := 0) hx hb hr (fun t ht hW => ⟨⟨0, (), rfl, by rw [← hz, hE], by rw [ht, ← hz, hE]; exact hP9, va_K.moved hW.alike hK9, by rw [← hz, hE]; exact hD9⟩, hS.F ht⟩) hS.2.2 d_M_row_32
        · rw [if_neg c_6] at hE
          refine lv_iload_n hx hb d_M_row_25 rfl (lv_at hl 3 rfl) ?_
          refine lv_bipush (v := 9) hx hb d_M_row_26 (by decide) ?_
          refine lv_icmp_le (tgt := 33) hx hb d_M_row_28 (by decide) (fun c_7 => ?_) (fun c_7 => ?_)
          · rw [if_pos c_7] at hE
            refine lv_iload_n hx hb d_M_row_33 rfl (lv_at hl 1 rfl) ?_
            refine lv_if_ne (tgt := 47) hx hb d_M_row_34 (by decide) (fun c_8 => ?_) (fun c_8 => ?_)
            · rw [if_neg c_8] at hE
              refine lv_aload_n hx hb d_M_row_47 rfl (lv_at hl 0 rfl) ?_
              refine va_get (D := (dC, dI)) (ci := 5) (v := .ref a_ty) (C := "LoanRulesModel") (T := Fz_M) (N := 22) hx hb hts it_M hown hK hP 0 rfl rfl 12 (by decide) (hts _ tw_613) (fun _ h9 => h9) rfl d_M_row_48 ?_
              refine lv_iload_n hx hb d_M_row_51 rfl (lv_at hl 2 rfl) ?_
              refine lv_iload_n hx hb d_M_row_52 rfl (lv_at hl 3 rfl) ?_
              have i_9 : vp_in p1 50 := ix50 (persM c_5)
              refine va_iast (D := (dC, dI)) hx hb hK hP hD hS 2 1 rfl rfl i_9 d_M_row_53 (fun H locs hP hD hS => ?_)
              replace hP : va_P (dC, dI) vwCl [(a_m, .inr (5, [.int 0, .ref a_sa, .int v_sz, .int v_at, .int v_wr, .ref a_ru, .ref a_me, .ref a_le, .int v_n, .ref a_cl, .ref a_te, .ref a_ki, .ref a_ty, .ref a_bl, .ref a_ex, .ref a_lo, .int v_nl, .ref a_ho, .ref a_fi, .int v_nf, .ref a_cz, .int v_nc])), (a_ki, .inl (k_ki, 50, .inl f_ki)), (a_ty, .inl (k_ty, 50, .inl (upd f_ty p1.toNatClampNeg p2)))] H := hP
              replace hD : va_D A [(a_m, .inr (5, [.int 0, .ref a_sa, .int v_sz, .int v_at, .int v_wr, .ref a_ru, .ref a_me, .ref a_le, .int v_n, .ref a_cl, .ref a_te, .ref a_ki, .ref a_ty, .ref a_bl, .ref a_ex, .ref a_lo, .int v_nl, .ref a_ho, .ref a_fi, .int v_nf, .ref a_cz, .int v_nc])), (a_ki, .inl (k_ki, 50, .inl f_ki)), (a_ty, .inl (k_ty, 50, .inl (upd f_ty p1.toNatClampNeg p2)))] := hD
              refine lv_iconst (v := 1) hx hb d_M_row_54 (by decide) ?_
              have hP9 := hP.sub (ws' := [(a_m, .inr (5, [.int 0, .ref a_sa, .int v_sz, .int v_at, .int v_wr, .ref a_ru, .ref a_me, .ref a_le, .int v_n, .ref a_cl, .ref a_te, .ref a_ki, .ref a_ty, .ref a_bl, .ref a_ex, .ref a_lo, .int v_nl, .ref a_ho, .ref a_fi, .int v_nf, .ref a_cz, .int v_nc])), (a_ki, .inl (k_ki, 50, .inl f_ki)), (a_ty, .inl (k_ty, 50, .inl (upd f_ty p1.toNatClampNeg p2)))]) [0, 1, 2] rfl
              have hD9 := hD.sub (ws' := [(a_m, .inr (5, [.int 0, .ref a_sa, .int v_sz, .int v_at, .int v_wr, .ref a_ru, .ref a_me, .ref a_le, .int v_n, .ref a_cl, .ref a_te, .ref a_ki, .ref a_ty, .ref a_bl, .ref a_ex, .ref a_lo, .int v_nl, .ref a_ho, .ref a_fi, .int v_nf, .ref a_cz, .int v_nc])), (a_ki, .inl (k_ki, 50, .inl f_ki)), (a_ty, .inl (k_ty, 50, .inl (upd f_ty p1.toNatClampNeg p2)))]) [0, 1, 2] (by decide) rfl
              have hK9 := hK.sub (tys' := [(k_ki, .int), (k_ty, .int)]) [0, 1] rfl
              exact W.iret (v := 1) hx hb hr (fun t ht hW => ⟨⟨1, (), rfl, by rw [← hz, hE], by rw [ht, ← hz, hE]; exact hP9, va_K.moved hW.alike hK9, by rw [← hz, hE]; exact hD9⟩, hS.F ht⟩) hS.2.2 d_M_row_55
            · rw [if_pos c_8] at hE
              refine lv_aload_n hx hb d_M_row_37 rfl (lv_at hl 0 rfl) ?_
              refine va_get (D := (dC, dI)) (ci := 5) (v := .ref a_ki) (C := "LoanRulesModel") (T := Fz_M) (N := 22) hx hb hts it_M hown hK hP 0 rfl rfl 11 (by decide) (hts _ tw_612) (fun _ h9 => h9) rfl d_M_row_38 ?_
              refine lv_iload_n hx hb d_M_row_41 rfl (lv_at hl 2 rfl) ?_
              refine lv_iload_n hx hb d_M_row_42 rfl (lv_at hl 3 rfl) ?_
              have i_10 : vp_in p1 50 := ix50 (persM c_5)
              refine va_iast (D := (dC, dI)) hx hb hK hP hD hS 1 0 rfl rfl i_10 d_M_row_43 (fun H locs hP hD hS => ?_)
              replace hP : va_P (dC, dI) vwCl [(a_m, .inr (5, [.int 0, .ref a_sa, .int v_sz, .int v_at, .int v_wr, .ref a_ru, .ref a_me, .ref a_le, .int v_n, .ref a_cl, .ref a_te, .ref a_ki, .ref a_ty, .ref a_bl, .ref a_ex, .ref a_lo, .int v_nl, .ref a_ho, .ref a_fi, .int v_nf, .ref a_cz, .int v_nc])), (a_ki, .inl (k_ki, 50, .inl (upd f_ki p1.toNatClampNeg p2))), (a_ty, .inl (k_ty, 50, .inl f_ty))] H := hP
              replace hD : va_D A [(a_m, .inr (5, [.int 0, .ref a_sa, .int v_sz, .int v_at, .int v_wr, .ref a_ru, .ref a_me, .ref a_le, .int v_n, .ref a_cl, .ref a_te, .ref a_ki, .ref a_ty, .ref a_bl, .ref a_ex, .ref a_lo, .int v_nl, .ref a_ho, .ref a_fi, .int v_nf, .ref a_cz, .int v_nc])), (a_ki, .inl (k_ki, 50, .inl (upd f_ki p1.toNatClampNeg p2))), (a_ty, .inl (k_ty, 50, .inl f_ty))] := hD
              refine lv_goto (tgt := 54) hx hb d_M_row_44 (by decide) ?_
              refine lv_iconst (v := 1) hx hb d_M_row_54 (by decide) ?_
              have hP9 := hP.sub (ws' := [(a_m, .inr (5, [.int 0, .ref a_sa, .int v_sz, .int v_at, .int v_wr, .ref a_ru, .ref a_me, .ref a_le, .int v_n, .ref a_cl, .ref a_te, .ref a_ki, .ref a_ty, .ref a_bl, .ref a_ex, .ref a_lo, .int v_nl, .ref a_ho, .ref a_fi, .int v_nf, .ref a_cz, .int v_nc])), (a_ki, .inl (k_ki, 50, .inl (upd f_ki p1.toNatClampNeg p2))), (a_ty, .inl (k_ty, 50, .inl f_ty))]) [0, 1, 2] rfl
              have hD9 := hD.sub (ws' := [(a_m, .inr (5, [.int 0, .ref a_sa, .int v_sz, .int v_at, .int v_wr, .ref a_ru, .ref a_me, .ref a_le, .int v_n, .ref a_cl, .ref a_te, .ref a_ki, .ref a_ty, .ref a_bl, .ref a_ex, .ref a_lo, .int v_nl, .ref a_ho, .ref a_fi, .int v_nf, .ref a_cz, .int v_nc])), (a_ki, .inl (k_ki, 50, .inl (upd f_ki p1.toNatClampNeg p2))), (a_ty, .inl (k_ty, 50, .inl f_ty))]) [0, 1, 2] (by decide) rfl
              have hK9 := hK.sub (tys' := [(k_ki, .int), (k_ty, .int)]) [0, 1] rfl
              exact W.iret (v := 1) hx hb hr (fun t ht hW => ⟨⟨1, (), rfl, by rw [← hz, hE], by rw [ht, ← hz, hE]; exact hP9, va_K.moved hW.alike hK9, by rw [← hz, hE]; exact hD9⟩, hS.F ht⟩) hS.2.2 d_M_row_55
          · rw [if_neg c_7] at hE
            refine lv_iconst (v := 0) hx hb d_M_row_31 (by decide) ?_
            have hP9 := hP.sub (ws' := [(a_m, .inr (5, [.int 0, .ref a_sa, .int v_sz, .int v_at, .int v_wr, .ref a_ru, .ref a_me, .ref a_le, .int v_n, .ref a_cl, .ref a_te, .ref a_ki, .ref a_ty, .ref a_bl, .ref a_ex, .ref a_lo, .int v_nl, .ref a_ho, .ref a_fi, .int v_nf, .ref a_cz, .int v_nc])), (a_ki, .inl (k_ki, 50, .inl f_ki)), (a_ty, .inl (k_ty, 50, .inl f_ty))]) [0, 1, 2] rfl
            have hD9 := hD.sub (ws' := [(a_m, .inr (5, [.int 0, .ref a_sa, .int v_sz, .int v_at, .int v_wr, .ref a_ru, .ref a_me, .ref a_le, .int v_n, .ref a_cl, .ref a_te, .ref a_ki, .ref a_ty, .ref a_bl, .ref a_ex, .ref a_lo, .int v_nl, .ref a_ho, .ref a_fi, .int v_nf, .ref a_cz, .int v_nc])), (a_ki, .inl (k_ki, 50, .inl f_ki)), (a_ty, .inl (k_ty, 50, .inl f_ty))]) [0, 1, 2] (by decide) rfl
            have hK9 := hK.sub (tys' := [(k_ki, .int), (k_ty, .int)]) [0, 1] rfl
            exact W.iret (v := 0) hx hb hr (fun t ht hW => ⟨⟨0, (), rfl, by rw [← hz, hE], by rw [ht, ← hz, hE]; exact hP9, va_K.moved hW.alike hK9, by rw [← hz, hE]; exact hD9⟩, hS.F ht⟩) hS.2.2 d_M_row_32
