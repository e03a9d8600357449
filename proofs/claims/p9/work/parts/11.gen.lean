theorem gl_pass_at {v_sz : Int32} {f_sa : Nat → Int32} (hsz : i120 v_sz) : ∀ (n : Nat) (a : Int32), i120 a → i120 (gl_pass n v_sz f_sa a) := by
  intro n
  induction n with
  | zero => intro a ha; exact ha
  | succ n ih =>
    intro a ha
    rw [gl_pass]
    refine pt_i i120 (fun _ => ha) (fun c => pt_i i120 (fun _ => ha) (fun _ => ih _ (li_k ha hsz (lk_look c))))
theorem pass_at {v_sz v_at : Int32} {f_sa : Nat → Int32} (hsz : i120 v_sz) (hat : i120 v_at) : i120 (g_Mg_pass v_sz v_at f_sa) := gl_pass_at hsz 121 v_at hat
def g_Mg_space (v_sz : Int32) (v_at : Int32) (v_wr : Int32) (f_sa : Nat → Int32) : Int32 × Int32 × Int32 :=
  if (g_Mg_look v_at v_sz f_sa) = 32 then
    (1, v_at + 1, v_wr)
  else
    (0, v_at, v_at)
theorem nz_Mg_space {v_sz : Int32} {v_at : Int32} {v_wr : Int32} {f_sa : Nat → Int32} : b01 (g_Mg_space v_sz v_at v_wr f_sa).1 := by
  unfold g_Mg_space
  repeat' (first | with_reducible refine b01_i (fun _ => ?_) (fun _ => ?_) | with_reducible refine b01_v ?_)
  all_goals first | with_reducible exact b01_0 | with_reducible exact b01_1
set_option maxHeartbeats 4000000 in
set_option maxRecDepth 100000 in
theorem c_Mg_space (l : Launch) (dC : Nat → ClassId) (dI : Nat → Nat → Nat) (adK adV : Nat → Nat) (a_m : Nat) (a_sa : Nat) (k_sa : ClassId) (v_th : Int32) (v_sz : Int32) (v_at : Int32) (v_wr : Int32) (a_ru : Nat) (a_me : Nat) (a_le : Nat) (v_n : Int32) (a_cl : Nat) (a_te : Nat) (a_ki : Nat) (a_ty : Nat) (a_bl : Nat) (a_ex : Nat) (a_lo : Nat) (v_nl : Int32) (a_ho : Nat) (a_fi : Nat) (v_nf : Int32) (a_cz : Nat) (v_nc : Int32) (f_sa : Nat → Int32) (sz : Nat) (hsz : 0 ≤ v_sz.toInt ∧ v_sz.toInt ≤ 120) (hat : 0 ≤ v_at.toInt ∧ v_at.toInt ≤ 120) : Met l y_M_space ws_M_space ({ frames := 1, cells := 0, slots := 0, locals := 21 }) (va_Pc [.ref a_m] (fun U => U.heap.size = sz ∧ zz adK adV (va_A [(a_m, .inr (5, [.int v_th, .ref a_sa, .int v_sz, .int v_at, .int v_wr, .ref a_ru, .ref a_me, .ref a_le, .int v_n, .ref a_cl, .ref a_te, .ref a_ki, .ref a_ty, .ref a_bl, .ref a_ex, .ref a_lo, .int v_nl, .ref a_ho, .ref a_fi, .int v_nf, .ref a_cz, .int v_nc])), (a_sa, .inl (k_sa, 120, .inl f_sa))] sz) U ∧ va_P (dC, dI) vwCl [(a_m, .inr (5, [.int v_th, .ref a_sa, .int v_sz, .int v_at, .int v_wr, .ref a_ru, .ref a_me, .ref a_le, .int v_n, .ref a_cl, .ref a_te, .ref a_ki, .ref a_ty, .ref a_bl, .ref a_ex, .ref a_lo, .int v_nl, .ref a_ho, .ref a_fi, .int v_nf, .ref a_cz, .int v_nc])), (a_sa, .inl (k_sa, 120, .inl f_sa))] U.heap ∧ va_K (dC, dI) vwCl [(k_sa, .byte)] U ∧ va_D (fun _ => True) [(a_m, .inr (5, [.int v_th, .ref a_sa, .int v_sz, .int v_at, .int v_wr, .ref a_ru, .ref a_me, .ref a_le, .int v_n, .ref a_cl, .ref a_te, .ref a_ki, .ref a_ty, .ref a_bl, .ref a_ex, .ref a_lo, .int v_nl, .ref a_ho, .ref a_fi, .int v_nf, .ref a_cz, .int v_nc])), (a_sa, .inl (k_sa, 120, .inl f_sa))])) (va_Qi (fun (r : Int32) (_ : Unit) => r = (g_Mg_space v_sz v_at v_wr f_sa).1) (fun (_ : Unit) (t : State) => va_P (dC, dI) vwCl [(a_m, .inr (5, [.int v_th, .ref a_sa, .int v_sz, .int ((g_Mg_space v_sz v_at v_wr f_sa).2.1), .int ((g_Mg_space v_sz v_at v_wr f_sa).2.2), .ref a_ru, .ref a_me, .ref a_le, .int v_n, .ref a_cl, .ref a_te, .ref a_ki, .ref a_ty, .ref a_bl, .ref a_ex, .ref a_lo, .int v_nl, .ref a_ho, .ref a_fi, .int v_nf, .ref a_cz, .int v_nc])), (a_sa, .inl (k_sa, 120, .inl f_sa))] t.heap ∧ va_K (dC, dI) vwCl [(k_sa, .byte)] t ∧ va_D (va_A [(a_m, .inr (5, [.int v_th, .ref a_sa, .int v_sz, .int v_at, .int v_wr, .ref a_ru, .ref a_me, .ref a_le, .int v_n, .ref a_cl, .ref a_te, .ref a_ki, .ref a_ty, .ref a_bl, .ref a_ex, .ref a_lo, .int v_nl, .ref a_ho, .ref a_fi, .int v_nf, .ref a_cz, .int v_nc])), (a_sa, .inl (k_sa, 120, .inl f_sa))] sz) [(a_m, .inr (5, [.int v_th, .ref a_sa, .int v_sz, .int ((g_Mg_space v_sz v_at v_wr f_sa).2.1), .int ((g_Mg_space v_sz v_at v_wr f_sa).2.2), .ref a_ru, .ref a_me, .ref a_le, .int v_n, .ref a_cl, .ref a_te, .ref a_ki, .ref a_ty, .ref a_bl, .ref a_ex, .ref a_lo, .int v_nl, .ref a_ho, .ref a_fi, .int v_nf, .ref a_cz, .int v_nc])), (a_sa, .inl (k_sa, 120, .inl f_sa))]) (va_A [(a_m, .inr (5, [.int v_th, .ref a_sa, .int v_sz, .int v_at, .int v_wr, .ref a_ru, .ref a_me, .ref a_le, .int v_n, .ref a_cl, .ref a_te, .ref a_ki, .ref a_ty, .ref a_bl, .ref a_ex, .ref a_lo, .int v_nl, .ref a_ho, .ref a_fi, .int v_nf, .ref a_cz, .int v_nc])), (a_sa, .inl (k_sa, 120, .inl f_sa))] sz)) 0 0 (va_A [(a_m, .inr (5, [.int v_th, .ref a_sa, .int v_sz, .int v_at, .int v_wr, .ref a_ru, .ref a_me, .ref a_le, .int v_n, .ref a_cl, .ref a_te, .ref a_ki, .ref a_ty, .ref a_bl, .ref a_ex, .ref a_lo, .int v_nl, .ref a_ho, .ref a_fi, .int v_nf, .ref a_cz, .int v_nc])), (a_sa, .inl (k_sa, 120, .inl f_sa))] sz) := by
  refine Met.ofW (cc := c_M_space) (maxL := 1) (ret := (some .boolean)) (by decide) rfl ?_
  intro p e s m args below meth c s₁ B hml hv
  obtain ⟨rfl, hsz, hZ, hP, hK, hD0⟩ := hv
  have hx := B.exec
  have hb := B.bytes
  have hr := B.returns
  have hts0 := atoms_spec (ws := ws_M_space) B.pre
  have hts : ∀ w ∈ TT, w.before _ s = true := fun w h => hts0 w (List.mem_cons_of_mem _ h)
  have hown : s.vm.findClass "LoanRulesModel" = some m.cls := findClass_of_methodNamed B.named
  have hlocks := B.notSynchronized
  subst hsz
  have hD := hD0.self (sz := s.heap.size)
  generalize hAe : va_A [(a_m, .inr (5, [.int v_th, .ref a_sa, .int v_sz, .int v_at, .int v_wr, .ref a_ru, .ref a_me, .ref a_le, .int v_n, .ref a_cl, .ref a_te, .ref a_ki, .ref a_ty, .ref a_bl, .ref a_ex, .ref a_lo, .int v_nl, .ref a_ho, .ref a_fi, .int v_nf, .ref a_cz, .int v_nc])), (a_sa, .inl (k_sa, 120, .inl f_sa))] s.heap.size = A at hD hZ ⊢
  have hA : ∀ q : Nat, s.heap.size ≤ q → A q := fun q h => by rw [← hAe]; exact Or.inr h
  clear hAe hD0
  have hS : va_S A s.heap s.heap [] := va_S.rf
  replace hP : va_P (dC, dI) vwCl [(a_m, .inr (5, [.int v_th, .ref a_sa, .int v_sz, .int v_at, .int v_wr, .ref a_ru, .ref a_me, .ref a_le, .int v_n, .ref a_cl, .ref a_te, .ref a_ki, .ref a_ty, .ref a_bl, .ref a_ex, .ref a_lo, .int v_nl, .ref a_ho, .ref a_fi, .int v_nf, .ref a_cz, .int v_nc])), (a_sa, .inl (k_sa, 120, .inl f_sa))] s.heap := hP
  have hl := lv_entry ([.ref a_m]) (n := 1) (Nat.le_of_ble_eq_true rfl)
  rw [lg_entry_eq]
  generalize (lg_sl ([.ref a_m]) ++ List.replicate (1 - (lg_sl ([.ref a_m])).length) Slot.unset).toArray = ls at hl ⊢
  replace hl : lv_has ls 1 [(0, .ref a_m)] := hl
  obtain ⟨z, hz⟩ : ∃ z, z = g_Mg_space v_sz v_at v_wr f_sa := ⟨_, rfl⟩
  have hE := hz
  rw [g_Mg_space] at hE
  refine lv_aload_n hx hb d_M_space_0 rfl (lv_at hl 0 rfl) ?_
  refine lv_aload_n hx hb d_M_space_1 rfl (lv_at hl 0 rfl) ?_
  refine va_get (D := (dC, dI)) (ci := 5) (v := .int v_at) (C := "LoanRulesModel") (T := Fz_M) (N := 22) hx hb hts it_M hown hK hP 0 rfl rfl 3 (by decide) (hts _ tw_604) (fun _ h9 => h9) rfl d_M_space_2 ?_
  have hPc := hP.sub (ws' := [(a_m, .inr (5, [.int v_th, .ref a_sa, .int v_sz, .int v_at, .int v_wr, .ref a_ru, .ref a_me, .ref a_le, .int v_n, .ref a_cl, .ref a_te, .ref a_ki, .ref a_ty, .ref a_bl, .ref a_ex, .ref a_lo, .int v_nl, .ref a_ho, .ref a_fi, .int v_nf, .ref a_cz, .int v_nc])), (a_sa, .inl (k_sa, 120, .inl f_sa))]) [0, 1] rfl
  have hKc := hK.sub (tys' := [(k_sa, .byte)]) [0] rfl
  refine vp_callSi (va_Run.run (va_runV (As := [.int v_at]) (rest := []) ⟨hx, hb, hml, hown, hts⟩ (c_Mg_look l dC dI adK adV (a_m := a_m) (p0 := v_at) (v_th := v_th) (a_sa := a_sa) (v_sz := v_sz) (v_at := v_at) (v_wr := v_wr) (a_ru := a_ru) (a_me := a_me) (a_le := a_le) (v_n := v_n) (a_cl := a_cl) (a_te := a_te) (a_ki := a_ki) (a_ty := a_ty) (a_bl := a_bl) (a_ex := a_ex) (a_lo := a_lo) (v_nl := v_nl) (a_ho := a_ho) (a_fi := a_fi) (v_nf := v_nf) (a_cz := a_cz) (v_nc := v_nc) (k_sa := k_sa) (f_sa := f_sa) hat.1 hsz) (cwV 1 hts (gV tw_684 tw_686 tw_27 tw_46 tw_687) rfl rfl rfl (by decide +kernel) ⟨(Nat.le_of_ble_eq_true rfl), (Nat.le_of_ble_eq_true rfl)⟩) ⟨fun a U g mk q => by obtain ⟨q0, qZ, qP, qK⟩ := q; exact ⟨q0, zz_call qZ, qP, va_K.moved (u := U) (U := U.calling g mk a) (Vm.Alike.refl U.vm) qK⟩, va_recv hKc hPc (ci := 5) (q0 := 0) rfl rfl, fun U hU hW => ⟨rfl, zz_ro hS hU hW hZ, by rw [hU]; exact hPc, va_K.moved hW.alike hKc⟩⟩ rfl rfl hl.1 rfl (lv_room (Nat.le_of_ble_eq_true rfl)) d_M_space_5 ⟨(Nat.le_of_ble_eq_true rfl), (Nat.le_of_ble_eq_true rfl)⟩)) (fun r_1 hw_2 => ?_)
  clear hPc hKc
  subst hw_2
  refine lv_bipush (v := 32) hx hb d_M_space_8 (by decide) ?_
  refine lv_icmp_eq (tgt := 22) hx hb d_M_space_10 (by decide) (fun c_3 => ?_) (fun c_3 => ?_)
  · rw [if_pos c_3] at hE
    refine lv_aload_n hx hb d_M_space_22 rfl (lv_at hl 0 rfl) ?_
    refine lv_dup hx hb d_M_space_23 rfl ?_
    refine va_get (D := (dC, dI)) (ci := 5) (v := .int v_at) (C := "LoanRulesModel") (T := Fz_M) (N := 22) hx hb hts it_M hown hK hP 0 rfl rfl 3 (by decide) (hts _ tw_604) (fun _ h9 => h9) rfl d_M_space_24 ?_
    refine lv_iconst (v := 1) hx hb d_M_space_27 (by decide) ?_
    refine lv_iadd hx hb d_M_space_28 ?_
    refine va_put (D := (dC, dI)) (ci := 5) (v := .int (v_at + 1)) (ty := .int) (C := "LoanRulesModel") (T := Fz_M) (N := 22) hx hb hts it_M tz_M tz_M_ok nz_M hown hK hP hD hS 0 rfl rfl 3 (by decide) (hts _ tw_604) (fun _ h9 => h9) rfl (by decide +kernel) rfl rfl (Nat.le_of_ble_eq_true rfl) d_M_space_29 (fun H locs hP hD hS => ?_)
    replace hP : va_P (dC, dI) vwCl [(a_m, .inr (5, [.int v_th, .ref a_sa, .int v_sz, .int (v_at + 1), .int v_wr, .ref a_ru, .ref a_me, .ref a_le, .int v_n, .ref a_cl, .ref a_te, .ref a_ki, .ref a_ty, .ref a_bl, .ref a_ex, .ref a_lo, .int v_nl, .ref a_ho, .ref a_fi, .int v_nf, .ref a_cz, .int v_nc])), (a_sa, .inl (k_sa, 120, .inl f_sa))] H := hP
    replace hD : va_D A [(a_m, .inr (5, [.int v_th, .ref a_sa, .int v_sz, .int (v_at + 1), .int v_wr, .ref a_ru, .ref a_me, .ref a_le, .int v_n, .ref a_cl, .ref a_te, .ref a_ki, .ref a_ty, .ref a_bl, .ref a_ex, .ref a_lo, .int v_nl, .ref a_ho, .ref a_fi, .int v_nf, .ref a_cz, .int v_nc])), (a_sa, .inl (k_sa, 120, .inl f_sa))] := hD
    refine lv_iconst (v := 1) hx hb d_M_space_32 (by decide) ?_
    have hP9 := hP.sub (ws' := [(a_m, .inr (5, [.int v_th, .ref a_sa, .int v_sz, .int (v_at + 1), .int v_wr, .ref a_ru, .ref a_me, .ref a_le, .int v_n, .ref a_cl, .ref a_te, .ref a_ki, .ref a_ty, .ref a_bl, .ref a_ex, .ref a_lo, .int v_nl, .ref a_ho, .ref a_fi, .int v_nf, .ref a_cz, .int v_nc])), (a_sa, .inl (k_sa, 120, .inl f_sa))]) [0, 1] rfl
    have hD9 := hD.sub (ws' := [(a_m, .inr (5, [.int v_th, .ref a_sa, .int v_sz, .int (v_at + 1), .int v_wr, .ref a_ru, .ref a_me, .ref a_le, .int v_n, .ref a_cl, .ref a_te, .ref a_ki, .ref a_ty, .ref a_bl, .ref a_ex, .ref a_lo, .int v_nl, .ref a_ho, .ref a_fi, .int v_nf, .ref a_cz, .int v_nc])), (a_sa, .inl (k_sa, 120, .inl f_sa))]) [0, 1] (by decide) rfl
    have hK9 := hK.sub (tys' := [(k_sa, .byte)]) [0] rfl
    exact W.zret (v := 1) hx hb hr rfl (fun t ht hW => ⟨⟨1, (), rfl, by rw [← hz, hE], by rw [ht, ← hz, hE]; exact hP9, va_K.moved hW.alike hK9, by rw [← hz, hE]; exact hD9⟩, hS.F ht⟩) hS.2.2 d_M_space_33
  · rw [if_neg c_3] at hE
    refine lv_aload_n hx hb d_M_space_13 rfl (lv_at hl 0 rfl) ?_
    refine lv_aload_n hx hb d_M_space_14 rfl (lv_at hl 0 rfl) ?_
    refine va_get (D := (dC, dI)) (ci := 5) (v := .int v_at) (C := "LoanRulesModel") (T := Fz_M) (N := 22) hx hb hts it_M hown hK hP 0 rfl rfl 3 (by decide) (hts _ tw_604) (fun _ h9 => h9) rfl d_M_space_15 ?_
    have hPc := hP.sub (ws' := [(a_m, .inr (5, [.int v_th, .ref a_sa, .int v_sz, .int v_at, .int v_wr, .ref a_ru, .ref a_me, .ref a_le, .int v_n, .ref a_cl, .ref a_te, .ref a_ki, .ref a_ty, .ref a_bl, .ref a_ex, .ref a_lo, .int v_nl, .ref a_ho, .ref a_fi, .int v_nf, .ref a_cz, .int v_nc]))]) [0] rfl
    have hKc := hK.sub (tys' := []) [] rfl
    have hDc := hD.sub (ws' := [(a_m, .inr (5, [.int v_th, .ref a_sa, .int v_sz, .int v_at, .int v_wr, .ref a_ru, .ref a_me, .ref a_le, .int v_n, .ref a_cl, .ref a_te, .ref a_ki, .ref a_ty, .ref a_bl, .ref a_ex, .ref a_lo, .int v_nl, .ref a_ho, .ref a_fi, .int v_nf, .ref a_cz, .int v_nc]))]) [0] (by decide) rfl
    have hFc := va_free (wc := [(a_m, .inr (5, [.int v_th, .ref a_sa, .int v_sz, .int v_at, .int v_wr, .ref a_ru, .ref a_me, .ref a_le, .int v_n, .ref a_cl, .ref a_te, .ref a_ki, .ref a_ty, .ref a_bl, .ref a_ex, .ref a_lo, .int v_nl, .ref a_ho, .ref a_fi, .int v_nf, .ref a_cz, .int v_nc]))]) hD hS hA [0] rfl
    refine va_calli (va_runV (As := [.int v_at]) (rest := []) ⟨hx, hb, hml, hown, hts⟩ (c_Mg_bad l dC dI adK adV (a_m := a_m) (p0 := v_at) (v_th := v_th) (a_sa := a_sa) (v_sz := v_sz) (v_at := v_at) (v_wr := v_wr) (a_ru := a_ru) (a_me := a_me) (a_le := a_le) (v_n := v_n) (a_cl := a_cl) (a_te := a_te) (a_ki := a_ki) (a_ty := a_ty) (a_bl := a_bl) (a_ex := a_ex) (a_lo := a_lo) (v_nl := v_nl) (a_ho := a_ho) (a_fi := a_fi) (v_nf := v_nf) (a_cz := a_cz) (v_nc := v_nc) (sz := s.heap.size)) (cwV 1 hts (gV tw_688 tw_690 tw_28 tw_46 tw_691) rfl rfl rfl (by decide +kernel) ⟨(Nat.le_of_ble_eq_true rfl), (Nat.le_of_ble_eq_true rfl)⟩) ⟨fun a U g mk q => by obtain ⟨q0, q1, qZ, qP, qK, qD⟩ := q; exact ⟨q0, q1, zz_call qZ, qP, va_K.moved (u := U) (U := U.calling g mk a) (Vm.Alike.refl U.vm) qK, qD⟩, va_recv hKc hPc (ci := 5) (q0 := 0) rfl rfl, fun U hU hW => ⟨rfl, by rw [hU], zz_rw hS hFc hU hW hZ, by rw [hU]; exact hPc, va_K.moved hW.alike hKc, hDc.weaken (fun _ _ _ _ => trivial)⟩⟩ rfl rfl hl.1 rfl (lv_room (Nat.le_of_ble_eq_true rfl)) d_M_space_18 ⟨(Nat.le_of_ble_eq_true rfl), (Nat.le_of_ble_eq_true rfl)⟩) hS (fun q _ h => hFc q h) hFc (fun r_4 u t H1 locs ht hvm hw_5 hB hz1 hk1 hS => ?_)
    obtain ⟨hP1, hK1, hD1⟩ := hB
    rw [ht] at hP1
    have hK1 := va_K.moved hvm.symm hK1
    obtain rfl : r_4 = 0 := hw_5
    obtain ⟨hP, hD⟩ := va_join (wr := [(a_sa, .inl (k_sa, 120, .inl f_sa))]) (w1 := [(a_m, .inr (5, [.int v_th, .ref a_sa, .int v_sz, .int v_at, .int v_at, .ref a_ru, .ref a_me, .ref a_le, .int v_n, .ref a_cl, .ref a_te, .ref a_ki, .ref a_ty, .ref a_bl, .ref a_ex, .ref a_lo, .int v_nl, .ref a_ho, .ref a_fi, .int v_nf, .ref a_cz, .int v_nc]))]) hP hD [0] [1] rfl rfl (by decide) (by decide) hk1 hFc hP1 hD1
    replace hK := (hK.sub (tys' := [(k_sa, .byte)]) [0] rfl).app hK1
    generalize H1 = H at hP hS ⊢
    replace hP := hP.sub (ws' := [(a_m, .inr (5, [.int v_th, .ref a_sa, .int v_sz, .int v_at, .int v_at, .ref a_ru, .ref a_me, .ref a_le, .int v_n, .ref a_cl, .ref a_te, .ref a_ki, .ref a_ty, .ref a_bl, .ref a_ex, .ref a_lo, .int v_nl, .ref a_ho, .ref a_fi, .int v_nf, .ref a_cz, .int v_nc])), (a_sa, .inl (k_sa, 120, .inl f_sa))]) [1, 0] rfl
    replace hD := hD.sub (ws' := [(a_m, .inr (5, [.int v_th, .ref a_sa, .int v_sz, .int v_at, .int v_at, .ref a_ru, .ref a_me, .ref a_le, .int v_n, .ref a_cl, .ref a_te, .ref a_ki, .ref a_ty, .ref a_bl, .ref a_ex, .ref a_lo, .int v_nl, .ref a_ho, .ref a_fi, .int v_nf, .ref a_cz, .int v_nc])), (a_sa, .inl (k_sa, 120, .inl f_sa))]) [1, 0] (by decide) rfl
    replace hK := hK.sub (tys' := [(k_sa, .byte)]) [0] rfl
    have hP9 := hP.sub (ws' := [(a_m, .inr (5, [.int v_th, .ref a_sa, .int v_sz, .int v_at, .int v_at, .ref a_ru, .ref a_me, .ref a_le, .int v_n, .ref a_cl, .ref a_te, .ref a_ki, .ref a_ty, .ref a_bl, .ref a_ex, .ref a_lo, .int v_nl, .ref a_ho, .ref a_fi, .int v_nf, .ref a_cz, .int v_nc])), (a_sa, .inl (k_sa, 120, .inl f_sa))]) [0, 1] rfl
    have hD9 := hD.sub (ws' := [(a_m, .inr (5, [.int v_th, .ref a_sa, .int v_sz, .int v_at, .int v_at, .ref a_ru, .ref a_me, .ref a_le, .int v_n, .ref a_cl, .ref a_te, .ref a_ki, .ref a_ty, .ref a_bl, .ref a_ex, .ref a_lo, .int v_nl, .ref a_ho, .ref a_fi, .int v_nf, .ref a_cz, .int v_nc])), (a_sa, .inl (k_sa, 120, .inl f_sa))]) [0, 1] (by decide) rfl
    have hK9 := hK.sub (tys' := [(k_sa, .byte)]) [0] rfl
    exact W.zret (v := 0) hx hb hr rfl (fun t ht hW => ⟨⟨0, (), rfl, by rw [← hz, hE], by rw [ht, ← hz, hE]; exact hP9, va_K.moved hW.alike hK9, by rw [← hz, hE]; exact hD9⟩, hS.F ht⟩) hS.2.2 d_M_space_21
theorem lk_dig {k sz : Int32} {f : Nat → Int32} (c : ¬ g_Mg_isDigit (g_Mg_look k sz f) = 0) : k.toInt < sz.toInt := by
  unfold g_Mg_isDigit at c
  split at c
  · exact absurd rfl c
  · rename_i h
    refine lk_look2 (x := g_Mg_look k sz f) (fun q => h (by rw [q]; decide)) rfl
theorem space_at {v_sz v_at v_wr : Int32} {f_sa : Nat → Int32} (hsz : 0 ≤ v_sz.toInt ∧ v_sz.toInt ≤ 120) (hat : 0 ≤ v_at.toInt ∧ v_at.toInt ≤ 120) : 0 ≤ (g_Mg_space v_sz v_at v_wr f_sa).2.1.toInt ∧ (g_Mg_space v_sz v_at v_wr f_sa).2.1.toInt ≤ 120 := by
  unfold g_Mg_space
  split
  · rename_i h
    exact li_k hat hsz (lk_look2 (by decide) h)
  · exact hat
def gl_number : Nat → (Int32) → (Nat → Int32) → (Int32) → (Int32) → (Int32) → Int32 × Int32 × Int32
  | 0, v_sz, f_sa, a, fd, v => (a, fd, v)
  | n + 1, v_sz, f_sa, a, fd, v =>
    if (g_Mg_isDigit (g_Mg_look a v_sz f_sa)) = 0 then
      (a, fd, v)
    else
      if (a - fd) ≤ 3 then
        gl_number n v_sz f_sa (a + 1) fd (((10 * v) + (g_Mg_look a v_sz f_sa)) - 48)
      else
        gl_number n v_sz f_sa (a + 1) fd 9999
def g_Mg_number (p0 : Int32) (p1 : Int32) (p2 : Int32) (v_sz : Int32) (v_at : Int32) (v_wr : Int32) (v_n : Int32) (f_sa : Nat → Int32) (f_ru : Nat → Int32) : Int32 × Int32 × Int32 × (Nat → Int32) :=
  bv (g_Mg_space v_sz v_at v_wr f_sa) (fun x_3 =>
    if x_3.1 = 0 then
      (0, x_3.2.1, x_3.2.2, f_ru)
    else
      bv (gl_number 121 v_sz f_sa x_3.2.1 x_3.2.1 0) (fun x_5 =>
        if x_5.1 = x_5.2.1 then
          (0, x_5.1, x_5.2.1, f_ru)
        else
          if p1 < (x_5.1 - x_5.2.1) then
            (0, x_5.1, x_5.2.1, f_ru)
          else
            if x_5.2.2 ≤ p2 then
              (1, x_5.1, x_3.2.2, upd f_ru ((10 * v_n) + p0).toNatClampNeg x_5.2.2)
            else
              (0, x_5.1, x_5.2.1, f_ru)))
theorem nz_Mg_number {p0 : Int32} {p1 : Int32} {p2 : Int32} {v_sz : Int32} {v_at : Int32} {v_wr : Int32} {v_n : Int32} {f_sa : Nat → Int32} {f_ru : Nat → Int32} : b01 (g_Mg_number p0 p1 p2 v_sz v_at v_wr v_n f_sa f_ru).1 := by
  unfold g_Mg_number
  repeat' (first | with_reducible refine b01_i (fun _ => ?_) (fun _ => ?_) | with_reducible refine b01_v ?_)
  all_goals first | with_reducible exact b01_0 | with_reducible exact b01_1 | with_reducible exact nz_Mg_space
set_option maxHeartbeats 4000000 in
set_option maxRecDepth 100000 in
theorem c_Mg_number (l : Launch) (dC : Nat → ClassId) (dI : Nat → Nat → Nat) (adK adV : Nat → Nat) (a_m : Nat) (a_sa : Nat) (a_ru : Nat) (k_sa : ClassId) (k_ru : ClassId) (p0 : Int32) (p1 : Int32) (p2 : Int32) (v_th : Int32) (v_sz : Int32) (v_at : Int32) (v_wr : Int32) (a_me : Nat) (a_le : Nat) (v_n : Int32) (a_cl : Nat) (a_te : Nat) (a_ki : Nat) (a_ty : Nat) (a_bl : Nat) (a_ex : Nat) (a_lo : Nat) (v_nl : Int32) (a_ho : Nat) (a_fi : Nat) (v_nf : Int32) (a_cz : Nat) (v_nc : Int32) (f_sa : Nat → Int32) (f_ru : Nat → Int32) (sz : Nat) (hp0 : 0 ≤ p0.toInt ∧ p0.toInt < 10) (hsz : 0 ≤ v_sz.toInt ∧ v_sz.toInt ≤ 120) (hat : 0 ≤ v_at.toInt ∧ v_at.toInt ≤ 120) (hn : 0 ≤ v_n.toInt ∧ v_n.toInt ≤ 40) : Met l y_M_number ws_M_number ({ frames := 2, cells := 0, slots := 0, locals := 41 }) (va_Pc [.ref a_m, .int p0, .int p1, .int p2] (fun U => U.heap.size = sz ∧ zz adK adV (va_A [(a_m, .inr (5, [.int v_th, .ref a_sa, .int v_sz, .int v_at, .int v_wr, .ref a_ru, .ref a_me, .ref a_le, .int v_n, .ref a_cl, .ref a_te, .ref a_ki, .ref a_ty, .ref a_bl, .ref a_ex, .ref a_lo, .int v_nl, .ref a_ho, .ref a_fi, .int v_nf, .ref a_cz, .int v_nc])), (a_sa, .inl (k_sa, 120, .inl f_sa)), (a_ru, .inl (k_ru, 410, .inl f_ru))] sz) U ∧ va_P (dC, dI) vwCl [(a_m, .inr (5, [.int v_th, .ref a_sa, .int v_sz, .int v_at, .int v_wr, .ref a_ru, .ref a_me, .ref a_le, .int v_n, .ref a_cl, .ref a_te, .ref a_ki, .ref a_ty, .ref a_bl, .ref a_ex, .ref a_lo, .int v_nl, .ref a_ho, .ref a_fi, .int v_nf, .ref a_cz, .int v_nc])), (a_sa, .inl (k_sa, 120, .inl f_sa)), (a_ru, .inl (k_ru, 410, .inl f_ru))] U.heap ∧ va_K (dC, dI) vwCl [(k_sa, .byte), (k_ru, .int)] U ∧ va_D (fun _ => True) [(a_m, .inr (5, [.int v_th, .ref a_sa, .int v_sz, .int v_at, .int v_wr, .ref a_ru, .ref a_me, .ref a_le, .int v_n, .ref a_cl, .ref a_te, .ref a_ki, .ref a_ty, .ref a_bl, .ref a_ex, .ref a_lo, .int v_nl, .ref a_ho, .ref a_fi, .int v_nf, .ref a_cz, .int v_nc])), (a_sa, .inl (k_sa, 120, .inl f_sa)), (a_ru, .inl (k_ru, 410, .inl f_ru))])) (va_Qi (fun (r : Int32) (_ : Unit) => r = (g_Mg_number p0 p1 p2 v_sz v_at v_wr v_n f_sa f_ru).1) (fun (_ : Unit) (t : State) => va_P (dC, dI) vwCl [(a_m, .inr (5, [.int v_th, .ref a_sa, .int v_sz, .int ((g_Mg_number p0 p1 p2 v_sz v_at v_wr v_n f_sa f_ru).2.1), .int ((g_Mg_number p0 p1 p2 v_sz v_at v_wr v_n f_sa f_ru).2.2.1), .ref a_ru, .ref a_me, .ref a_le, .int v_n, .ref a_cl, .ref a_te, .ref a_ki, .ref a_ty, .ref a_bl, .ref a_ex, .ref a_lo, .int v_nl, .ref a_ho, .ref a_fi, .int v_nf, .ref a_cz, .int v_nc])), (a_sa, .inl (k_sa, 120, .inl f_sa)), (a_ru, .inl (k_ru, 410, .inl ((g_Mg_number p0 p1 p2 v_sz v_at v_wr v_n f_sa f_ru).2.2.2)))] t.heap ∧ va_K (dC, dI) vwCl [(k_sa, .byte), (k_ru, .int)] t ∧ va_D (va_A [(a_m, .inr (5, [.int v_th, .ref a_sa, .int v_sz, .int v_at, .int v_wr, .ref a_ru, .ref a_me, .ref a_le, .int v_n, .ref a_cl, .ref a_te, .ref a_ki, .ref a_ty, .ref a_bl, .ref a_ex, .ref a_lo, .int v_nl, .ref a_ho, .ref a_fi, .int v_nf, .ref a_cz, .int v_nc])), (a_sa, .inl (k_sa, 120, .inl f_sa)), (a_ru, .inl (k_ru, 410, .inl f_ru))] sz) [(a_m, .inr (5, [.int v_th, .ref a_sa, .int v_sz, .int ((g_Mg_number p0 p1 p2 v_sz v_at v_wr v_n f_sa f_ru).2.1), .int ((g_Mg_number p0 p1 p2 v_sz v_at v_wr v_n f_sa f_ru).2.2.1), .ref a_ru, .ref a_me, .ref a_le, .int v_n, .ref a_cl, .ref a_te, .ref a_ki, .ref a_ty, .ref a_bl, .ref a_ex, .ref a_lo, .int v_nl, .ref a_ho, .ref a_fi, .int v_nf, .ref a_cz, .int v_nc])), (a_sa, .inl (k_sa, 120, .inl f_sa)), (a_ru, .inl (k_ru, 410, .inl ((g_Mg_number p0 p1 p2 v_sz v_at v_wr v_n f_sa f_ru).2.2.2)))]) (va_A [(a_m, .inr (5, [.int v_th, .ref a_sa, .int v_sz, .int v_at, .int v_wr, .ref a_ru, .ref a_me, .ref a_le, .int v_n, .ref a_cl, .ref a_te, .ref a_ki, .ref a_ty, .ref a_bl, .ref a_ex, .ref a_lo, .int v_nl, .ref a_ho, .ref a_fi, .int v_nf, .ref a_cz, .int v_nc])), (a_sa, .inl (k_sa, 120, .inl f_sa)), (a_ru, .inl (k_ru, 410, .inl f_ru))] sz)) 0 0 (va_A [(a_m, .inr (5, [.int v_th, .ref a_sa, .int v_sz, .int v_at, .int v_wr, .ref a_ru, .ref a_me, .ref a_le, .int v_n, .ref a_cl, .ref a_te, .ref a_ki, .ref a_ty, .ref a_bl, .ref a_ex, .ref a_lo, .int v_nl, .ref a_ho, .ref a_fi, .int v_nf, .ref a_cz, .int v_nc])), (a_sa, .inl (k_sa, 120, .inl f_sa)), (a_ru, .inl (k_ru, 410, .inl f_ru))] sz) := by
  refine Met.ofW (cc := c_M_number) (maxL := 6) (ret := (some .boolean)) (by decide) rfl ?_
  intro p e s m args below meth c s₁ B hml hv
  obtain ⟨rfl, hsz, hZ, hP, hK, hD0⟩ := hv
  have hx := B.exec
  have hb := B.bytes
  have hr := B.returns
  have hts0 := atoms_spec (ws := ws_M_number) B.pre
  have hts : ∀ w ∈ TT, w.before _ s = true := fun w h => hts0 w (List.mem_cons_of_mem _ h)
  have hown : s.vm.findClass "LoanRulesModel" = some m.cls := findClass_of_methodNamed B.named
  have hlocks := B.notSynchronized
  subst hsz
  have hD := hD0.self (sz := s.heap.size)
  generalize hAe : va_A [(a_m, .inr (5, [.int v_th, .ref a_sa, .int v_sz, .int v_at, .int v_wr, .ref a_ru, .ref a_me, .ref a_le, .int v_n, .ref a_cl, .ref a_te, .ref a_ki, .ref a_ty, .ref a_bl, .ref a_ex, .ref a_lo, .int v_nl, .ref a_ho, .ref a_fi, .int v_nf, .ref a_cz, .int v_nc])), (a_sa, .inl (k_sa, 120, .inl f_sa)), (a_ru, .inl (k_ru, 410, .inl f_ru))] s.heap.size = A at hD hZ ⊢
  have hA : ∀ q : Nat, s.heap.size ≤ q → A q := fun q h => by rw [← hAe]; exact Or.inr h
  clear hAe hD0
  have hS : va_S A s.heap s.heap [] := va_S.rf
  replace hP : va_P (dC, dI) vwCl [(a_m, .inr (5, [.int v_th, .ref a_sa, .int v_sz, .int v_at, .int v_wr, .ref a_ru, .ref a_me, .ref a_le, .int v_n, .ref a_cl, .ref a_te, .ref a_ki, .ref a_ty, .ref a_bl, .ref a_ex, .ref a_lo, .int v_nl, .ref a_ho, .ref a_fi, .int v_nf, .ref a_cz, .int v_nc])), (a_sa, .inl (k_sa, 120, .inl f_sa)), (a_ru, .inl (k_ru, 410, .inl f_ru))] s.heap := hP
  have hl := lv_entry ([.ref a_m, .int p0, .int p1, .int p2]) (n := 6) (Nat.le_of_ble_eq_true rfl)
  rw [lg_entry_eq]
  generalize (lg_sl ([.ref a_m, .int p0, .int p1, .int p2]) ++ List.replicate (6 - (lg_sl ([.ref a_m, .int p0, .int p1, .int p2])).length) Slot.unset).toArray = ls at hl ⊢
  replace hl : lv_has ls 6 [(0, .ref a_m), (1, .int p0), (2, .int p1), (3, .int p2)] := hl
  obtain ⟨z, hz⟩ : ∃ z, z = g_Mg_number p0 p1 p2 v_sz v_at v_wr v_n f_sa f_ru := ⟨_, rfl⟩
  have hE := hz
  rw [g_Mg_number] at hE
  refine lv_aload_n hx hb d_M_number_0 rfl (lv_at hl 0 rfl) ?_
  have hPc := hP.sub (ws' := [(a_m, .inr (5, [.int v_th, .ref a_sa, .int v_sz, .int v_at, .int v_wr, .ref a_ru, .ref a_me, .ref a_le, .int v_n, .ref a_cl, .ref a_te, .ref a_ki, .ref a_ty, .ref a_bl, .ref a_ex, .ref a_lo, .int v_nl, .ref a_ho, .ref a_fi, .int v_nf, .ref a_cz, .int v_nc])), (a_sa, .inl (k_sa, 120, .inl f_sa))]) [0, 1] rfl
  have hKc := hK.sub (tys' := [(k_sa, .byte)]) [0] rfl
  have hDc := hD.sub (ws' := [(a_m, .inr (5, [.int v_th, .ref a_sa, .int v_sz, .int v_at, .int v_wr, .ref a_ru, .ref a_me, .ref a_le, .int v_n, .ref a_cl, .ref a_te, .ref a_ki, .ref a_ty, .ref a_bl, .ref a_ex, .ref a_lo, .int v_nl, .ref a_ho, .ref a_fi, .int v_nf, .ref a_cz, .int v_nc])), (a_sa, .inl (k_sa, 120, .inl f_sa))]) [0, 1] (by decide) rfl
  have hFc := va_free (wc := [(a_m, .inr (5, [.int v_th, .ref a_sa, .int v_sz, .int v_at, .int v_wr, .ref a_ru, .ref a_me, .ref a_le, .int v_n, .ref a_cl, .ref a_te, .ref a_ki, .ref a_ty, .ref a_bl, .ref a_ex, .ref a_lo, .int v_nl, .ref a_ho, .ref a_fi, .int v_nf, .ref a_cz, .int v_nc])), (a_sa, .inl (k_sa, 120, .inl f_sa))]) hD hS hA [0, 1] rfl
  refine va_calli (va_runV (As := []) (rest := []) ⟨hx, hb, hml, hown, hts⟩ (c_Mg_space l dC dI adK adV (a_m := a_m) (v_th := v_th) (a_sa := a_sa) (v_sz := v_sz) (v_at := v_at) (v_wr := v_wr) (a_ru := a_ru) (a_me := a_me) (a_le := a_le) (v_n := v_n) (a_cl := a_cl) (a_te := a_te) (a_ki := a_ki) (a_ty := a_ty) (a_bl := a_bl) (a_ex := a_ex) (a_lo := a_lo) (v_nl := v_nl) (a_ho := a_ho) (a_fi := a_fi) (v_nf := v_nf) (a_cz := a_cz) (v_nc := v_nc) (k_sa := k_sa) (f_sa := f_sa) (sz := s.heap.size) hsz hat) (cwV 0 hts (gV tw_680 tw_682 tw_26 tw_46 tw_683) rfl rfl rfl (by decide +kernel) ⟨(Nat.le_of_ble_eq_true rfl), (Nat.le_of_ble_eq_true rfl)⟩) ⟨fun a U g mk q => by obtain ⟨q0, q1, qZ, qP, qK, qD⟩ := q; exact ⟨q0, q1, zz_call qZ, qP, va_K.moved (u := U) (U := U.calling g mk a) (Vm.Alike.refl U.vm) qK, qD⟩, va_recv hKc hPc (ci := 5) (q0 := 0) rfl rfl, fun U hU hW => ⟨rfl, by rw [hU], zz_rw hS hFc hU hW hZ, by rw [hU]; exact hPc, va_K.moved hW.alike hKc, hDc.weaken (fun _ _ _ _ => trivial)⟩⟩ rfl rfl hl.1 rfl (lv_room (Nat.le_of_ble_eq_true rfl)) d_M_number_1 ⟨(Nat.le_of_ble_eq_true rfl), (Nat.le_of_ble_eq_true rfl)⟩) hS (fun q _ h => hFc q h) hFc (fun r_1 u t H1 locs ht hvm hw_2 hB hz1 hk1 hS => ?_)
  generalize hg_x_3 : g_Mg_space v_sz v_at v_wr f_sa = x_3 at hw_2 hB hE
  rw [bv_eq] at hE
  obtain ⟨hP1, hK1, hD1⟩ := hB
  rw [ht] at hP1
  have hK1 := va_K.moved hvm.symm hK1
  obtain rfl : r_1 = x_3.1 := hw_2
  obtain ⟨hP, hD⟩ := va_join (wr := [(a_ru, .inl (k_ru, 410, .inl f_ru))]) (w1 := [(a_m, .inr (5, [.int v_th, .ref a_sa, .int v_sz, .int x_3.2.1, .int x_3.2.2, .ref a_ru, .ref a_me, .ref a_le, .int v_n, .ref a_cl, .ref a_te, .ref a_ki, .ref a_ty, .ref a_bl, .ref a_ex, .ref a_lo, .int v_nl, .ref a_ho, .ref a_fi, .int v_nf, .ref a_cz, .int v_nc])), (a_sa, .inl (k_sa, 120, .inl f_sa))]) hP hD [0, 1] [2] rfl rfl (by decide) (by decide) hk1 hFc hP1 hD1
  replace hK := (hK.sub (tys' := [(k_ru, .int)]) [1] rfl).app hK1
  generalize H1 = H at hP hS ⊢
  replace hP := hP.sub (ws' := [(a_m, .inr (5, [.int v_th, .ref a_sa, .int v_sz, .int x_3.2.1, .int x_3.2.2, .ref a_ru, .ref a_me, .ref a_le, .int v_n, .ref a_cl, .ref a_te, .ref a_ki, .ref a_ty, .ref a_bl, .ref a_ex, .ref a_lo, .int v_nl, .ref a_ho, .ref a_fi, .int v_nf, .ref a_cz, .int v_nc])), (a_sa, .inl (k_sa, 120, .inl f_sa)), (a_ru, .inl (k_ru, 410, .inl f_ru))]) [1, 2, 0] rfl
  replace hD := hD.sub (ws' := [(a_m, .inr (5, [.int v_th, .ref a_sa, .int v_sz, .int x_3.2.1, .int x_3.2.2, .ref a_ru, .ref a_me, .ref a_le, .int v_n, .ref a_cl, .ref a_te, .ref a_ki, .ref a_ty, .ref a_bl, .ref a_ex, .ref a_lo, .int v_nl, .ref a_ho, .ref a_fi, .int v_nf, .ref a_cz, .int v_nc])), (a_sa, .inl (k_sa, 120, .inl f_sa)), (a_ru, .inl (k_ru, 410, .inl f_ru))]) [1, 2, 0] (by decide) rfl
  replace hK := hK.sub (tys' := [(k_sa, .byte), (k_ru, .int)]) [1, 0] rfl
  refine lv_if_ne (tgt := 9) hx hb d_M_number_4 (by decide) (fun c_4 => ?_) (fun c_4 => ?_)
  · rw [if_neg c_4] at hE
    refine lv_aload_n hx hb d_M_number_9 rfl (lv_at hl 0 rfl) ?_
    refine va_get (D := (dC, dI)) (ci := 5) (v := .int x_3.2.1) (C := "LoanRulesModel") (T := Fz_M) (N := 22) hx hb hts it_M hown hK hP 0 rfl rfl 3 (by decide) (hts _ tw_604) (fun _ h9 => h9) rfl d_M_number_10 ?_
    refine lv_istore (lv' := [(4, .int x_3.2.1), (0, .ref a_m), (1, .int p0), (2, .int p1), (3, .int p2)]) hx hb d_M_number_13 hl (by decide) rfl (fun ls hl => ?_)
    refine lv_iconst (v := 0) hx hb d_M_number_15 (by decide) ?_
    refine lv_istore (lv' := [(5, .int 0), (4, .int x_3.2.1), (0, .ref a_m), (1, .int p0), (2, .int p1), (3, .int p2)]) hx hb d_M_number_16 hl (by decide) rfl (fun ls hl => ?_)
    generalize hg_x_5 : gl_number 121 v_sz f_sa x_3.2.1 x_3.2.1 0 = x_5 at hE
    rw [bv_eq] at hE
    obtain ⟨a, e_a⟩ : ∃ q9 : Int32, q9 = x_3.2.1 := ⟨_, rfl⟩
    obtain ⟨fd, e_fd⟩ : ∃ q9 : Int32, q9 = x_3.2.1 := ⟨_, rfl⟩
    obtain ⟨v, e_v⟩ : ∃ q9 : Int32, q9 = 0 := ⟨_, rfl⟩
    obtain ⟨n, e_n⟩ : ∃ q9 : Nat, q9 = 121 := ⟨_, rfl⟩
    have hAll : va_P (dC, dI) vwCl [(a_m, .inr (5, [.int v_th, .ref a_sa, .int v_sz, .int a, .int x_3.2.2, .ref a_ru, .ref a_me, .ref a_le, .int v_n, .ref a_cl, .ref a_te, .ref a_ki, .ref a_ty, .ref a_bl, .ref a_ex, .ref a_lo, .int v_nl, .ref a_ho, .ref a_fi, .int v_nf, .ref a_cz, .int v_nc])), (a_sa, .inl (k_sa, 120, .inl f_sa)), (a_ru, .inl (k_ru, 410, .inl f_ru))] H ∧ va_D A [(a_m, .inr (5, [.int v_th, .ref a_sa, .int v_sz, .int a, .int x_3.2.2, .ref a_ru, .ref a_me, .ref a_le, .int v_n, .ref a_cl, .ref a_te, .ref a_ki, .ref a_ty, .ref a_bl, .ref a_ex, .ref a_lo, .int v_nl, .ref a_ho, .ref a_fi, .int v_nf, .ref a_cz, .int v_nc])), (a_sa, .inl (k_sa, 120, .inl f_sa)), (a_ru, .inl (k_ru, 410, .inl f_ru))] ∧ va_S A s.heap H locs ∧ lv_has ls 6 [(5, .int v), (4, .int fd), (0, .ref a_m), (1, .int p0), (2, .int p1), (3, .int p2)] ∧ (0 ≤ a.toInt ∧ a.toInt ≤ 120) ∧ 121 - a.toInt.toNat ≤ n ∧ gl_number n v_sz f_sa a fd v = x_5 := by
      subst e_a e_fd e_v e_n
      exact ⟨hP, hD, hS, hl, (hg_x_3 ▸ space_at hsz hat), by omega, hg_x_5⟩
    clear hP hl hD hS e_a e_fd e_v e_n hg_x_5
    induction n generalizing a fd v H locs ls with
    | zero =>
      obtain ⟨hP, hD, hS, hl, ha, hm_number, hg_number⟩ := hAll
      exfalso; omega
    | succ n ih_number =>
      obtain ⟨hP, hD, hS, hl, ha, hm_number, hg_number⟩ := hAll
      rw [gl_number] at hg_number
      refine lv_aload_n hx hb d_M_number_18 rfl (lv_at hl 2 rfl) ?_
      refine lv_aload_n hx hb d_M_number_19 rfl (lv_at hl 2 rfl) ?_
      refine va_get (D := (dC, dI)) (ci := 5) (v := .int a) (C := "LoanRulesModel") (T := Fz_M) (N := 22) hx hb hts it_M hown hK hP 0 rfl rfl 3 (by decide) (hts _ tw_604) (fun _ h9 => h9) rfl d_M_number_20 ?_
      have hPc := hP.sub (ws' := [(a_m, .inr (5, [.int v_th, .ref a_sa, .int v_sz, .int a, .int x_3.2.2, .ref a_ru, .ref a_me, .ref a_le, .int v_n, .ref a_cl, .ref a_te, .ref a_ki, .ref a_ty, .ref a_bl, .ref a_ex, .ref a_lo, .int v_nl, .ref a_ho, .ref a_fi, .int v_nf, .ref a_cz, .int v_nc])), (a_sa, .inl (k_sa, 120, .inl f_sa))]) [0, 1] rfl
      have hKc := hK.sub (tys' := [(k_sa, .byte)]) [0] rfl
      refine vp_callSi (va_Run.run (va_runV (As := [.int a]) (rest := []) ⟨hx, hb, hml, hown, hts⟩ (c_Mg_look l dC dI adK adV (a_m := a_m) (p0 := a) (v_th := v_th) (a_sa := a_sa) (v_sz := v_sz) (v_at := a) (v_wr := x_3.2.2) (a_ru := a_ru) (a_me := a_me) (a_le := a_le) (v_n := v_n) (a_cl := a_cl) (a_te := a_te) (a_ki := a_ki) (a_ty := a_ty) (a_bl := a_bl) (a_ex := a_ex) (a_lo := a_lo) (v_nl := v_nl) (a_ho := a_ho) (a_fi := a_fi) (v_nf := v_nf) (a_cz := a_cz) (v_nc := v_nc) (k_sa := k_sa) (f_sa := f_sa) ha.1 hsz) (cwV 1 hts (gV tw_684 tw_686 tw_27 tw_46 tw_687) rfl rfl rfl (by decide +kernel) ⟨(Nat.le_of_ble_eq_true rfl), (Nat.le_of_ble_eq_true rfl)⟩) ⟨fun a U g mk q => by obtain ⟨q0, qZ, qP, qK⟩ := q; exact ⟨q0, zz_call qZ, qP, va_K.moved (u := U) (U := U.calling g mk a) (Vm.Alike.refl U.vm) qK⟩, va_recv hKc hPc (ci := 5) (q0 := 0) rfl rfl, fun U hU hW => ⟨rfl, zz_ro hS hU hW hZ, by rw [hU]; exact hPc, va_K.moved hW.alike hKc⟩⟩ rfl rfl hl.1 rfl (lv_room (Nat.le_of_ble_eq_true rfl)) d_M_number_23 ⟨(Nat.le_of_ble_eq_true rfl), (Nat.le_of_ble_eq_true rfl)⟩)) (fun r_6 hw_7 => ?_)
      clear hPc hKc
      subst hw_7
      have hPc := hP.sub (ws' := []) [] rfl
      have hKc := hK.sub (tys' := []) [] rfl
      refine vp_callSi (va_Run.run (va_runS (As := [.int (g_Mg_look a v_sz f_sa)]) (rest := []) ⟨hx, hb, hml, hown, hts⟩ (c_Mg_isDigit l dC dI adK adV (p0 := g_Mg_look a v_sz f_sa)) (va_cwS 1 hts (gS tw_724 tw_725 tw_46 tw_726) rfl rfl rfl (by decide +kernel) ⟨(Nat.le_of_ble_eq_true rfl), (Nat.le_of_ble_eq_true rfl)⟩) ⟨fun a U g mk q => by obtain ⟨q0, qZ, qP, qK⟩ := q; exact ⟨q0, zz_call qZ, qP, va_K.moved (u := U) (U := U.calling g mk a) (Vm.Alike.refl U.vm) qK⟩, fun U hU hW => ⟨rfl, zz_ro hS hU hW hZ, by rw [hU]; exact hPc, va_K.moved hW.alike hKc⟩⟩ rfl rfl hl.1 rfl (lv_room (Nat.le_of_ble_eq_true rfl)) d_M_number_26 ⟨(Nat.le_of_ble_eq_true rfl), (Nat.le_of_ble_eq_true rfl)⟩)) (fun r_8 hw_9 => ?_)
      clear hPc hKc
      subst hw_9
      refine lv_if_eq (tgt := 81) hx hb d_M_number_29 (by decide) (fun c_10 => ?_) (fun c_10 => ?_)
      · rw [if_pos c_10] at hg_number
        subst hg_number
        dsimp only at hE
        refine lv_aload_n hx hb d_M_number_81 rfl (lv_at hl 2 rfl) ?_
        refine va_get (D := (dC, dI)) (ci := 5) (v := .int a) (C := "LoanRulesModel") (T := Fz_M) (N := 22) hx hb hts it_M hown hK hP 0 rfl rfl 3 (by decide) (hts _ tw_604) (fun _ h9 => h9) rfl d_M_number_82 ?_
        refine lv_iload hx hb d_M_number_85 (lv_at hl 1 rfl) ?_
        refine lv_icmp_eq (tgt := 107) hx hb d_M_number_87 (by decide) (fun c_11 => ?_) (fun c_11 => ?_)
        · rw [if_pos c_11] at hE
          refine lv_aload_n hx hb d_M_number_107 rfl (lv_at hl 2 rfl) ?_
          refine lv_iload hx hb d_M_number_108 (lv_at hl 1 rfl) ?_
          have hPc := hP.sub (ws' := [(a_m, .inr (5, [.int v_th, .ref a_sa, .int v_sz, .int a, .int x_3.2.2, .ref a_ru, .ref a_me, .ref a_le, .int v_n, .ref a_cl, .ref a_te, .ref a_ki, .ref a_ty, .ref a_bl, .ref a_ex, .ref a_lo, .int v_nl, .ref a_ho, .ref a_fi, .int v_nf, .ref a_cz, .int v_nc]))]) [0] rfl
          have hKc := hK.sub (tys' := []) [] rfl
          have hDc := hD.sub (ws' := [(a_m, .inr (5, [.int v_th, .ref a_sa, .int v_sz, .int a, .int x_3.2.2, .ref a_ru, .ref a_me, .ref a_le, .int v_n, .ref a_cl, .ref a_te, .ref a_ki, .ref a_ty, .ref a_bl, .ref a_ex, .ref a_lo, .int v_nl, .ref a_ho, .ref a_fi, .int v_nf, .ref a_cz, .int v_nc]))]) [0] (by decide) rfl
          have hFc := va_free (wc := [(a_m, .inr (5, [.int v_th, .ref a_sa, .int v_sz, .int a, .int x_3.2.2, .ref a_ru, .ref a_me, .ref a_le, .int v_n, .ref a_cl, .ref a_te, .ref a_ki, .ref a_ty, .ref a_bl, .ref a_ex, .ref a_lo, .int v_nl, .ref a_ho, .ref a_fi, .int v_nf, .ref a_cz, .int v_nc]))]) hD hS hA [0] rfl
          refine va_calli (va_runV (As := [.int fd]) (rest := []) ⟨hx, hb, hml, hown, hts⟩ (c_Mg_bad l dC dI adK adV (a_m := a_m) (p0 := fd) (v_th := v_th) (a_sa := a_sa) (v_sz := v_sz) (v_at := a) (v_wr := x_3.2.2) (a_ru := a_ru) (a_me := a_me) (a_le := a_le) (v_n := v_n) (a_cl := a_cl) (a_te := a_te) (a_ki := a_ki) (a_ty := a_ty) (a_bl := a_bl) (a_ex := a_ex) (a_lo := a_lo) (v_nl := v_nl) (a_ho := a_ho) (a_fi := a_fi) (v_nf := v_nf) (a_cz := a_cz) (v_nc := v_nc) (sz := H.size)) (cwV 1 hts (gV tw_688 tw_690 tw_28 tw_46 tw_691) rfl rfl rfl (by decide +kernel) ⟨(Nat.le_of_ble_eq_true rfl), (Nat.le_of_ble_eq_true rfl)⟩) ⟨fun a U g mk q => by obtain ⟨q0, q1, qZ, qP, qK, qD⟩ := q; exact ⟨q0, q1, zz_call qZ, qP, va_K.moved (u := U) (U := U.calling g mk a) (Vm.Alike.refl U.vm) qK, qD⟩, va_recv hKc hPc (ci := 5) (q0 := 0) rfl rfl, fun U hU hW => ⟨rfl, by rw [hU], zz_rw hS hFc hU hW hZ, by rw [hU]; exact hPc, va_K.moved hW.alike hKc, hDc.weaken (fun _ _ _ _ => trivial)⟩⟩ rfl rfl hl.1 rfl (lv_room (Nat.le_of_ble_eq_true rfl)) d_M_number_110 ⟨(Nat.le_of_ble_eq_true rfl), (Nat.le_of_ble_eq_true rfl)⟩) hS (fun q _ h => hFc q h) hFc (fun r_12 u t H1 locs ht hvm hw_13 hB hz1 hk1 hS => ?_)
          obtain ⟨hP1, hK1, hD1⟩ := hB
          rw [ht] at hP1
          have hK1 := va_K.moved hvm.symm hK1
          obtain rfl : r_12 = 0 := hw_13
          obtain ⟨hP, hD⟩ := va_join (wr := [(a_sa, .inl (k_sa, 120, .inl f_sa)), (a_ru, .inl (k_ru, 410, .inl f_ru))]) (w1 := [(a_m, .inr (5, [.int v_th, .ref a_sa, .int v_sz, .int a, .int fd, .ref a_ru, .ref a_me, .ref a_le, .int v_n, .ref a_cl, .ref a_te, .ref a_ki, .ref a_ty, .ref a_bl, .ref a_ex, .ref a_lo, .int v_nl, .ref a_ho, .ref a_fi, .int v_nf, .ref a_cz, .int v_nc]))]) hP hD [0] [1, 2] rfl rfl (by decide) (by decide) hk1 hFc hP1 hD1
          replace hK := (hK.sub (tys' := [(k_sa, .byte), (k_ru, .int)]) [0, 1] rfl).app hK1
          generalize H1 = H at hP hS ⊢
          replace hP := hP.sub (ws' := [(a_m, .inr (5, [.int v_th, .ref a_sa, .int v_sz, .int a, .int fd, .ref a_ru, .ref a_me, .ref a_le, .int v_n, .ref a_cl, .ref a_te, .ref a_ki, .ref a_ty, .ref a_bl, .ref a_ex, .ref a_lo, .int v_nl, .ref a_ho, .ref a_fi, .int v_nf, .ref a_cz, .int v_nc])), (a_sa, .inl (k_sa, 120, .inl f_sa)), (a_ru, .inl (k_ru, 410, .inl f_ru))]) [2, 0, 1] rfl
          replace hD := hD.sub (ws' := [(a_m, .inr (5, [.int v_th, .ref a_sa, .int v_sz, .int a, .int fd, .ref a_ru, .ref a_me, .ref a_le, .int v_n, .ref a_cl, .ref a_te, .ref a_ki, .ref a_ty, .ref a_bl, .ref a_ex, .ref a_lo, .int v_nl, .ref a_ho, .ref a_fi, .int v_nf, .ref a_cz, .int v_nc])), (a_sa, .inl (k_sa, 120, .inl f_sa)), (a_ru, .inl (k_ru, 410, .inl f_ru))]) [2, 0, 1] (by decide) rfl
          replace hK := hK.sub (tys' := [(k_sa, .byte), (k_ru, .int)]) [0, 1] rfl
          have hP9 := hP.sub (ws' := [(a_m, .inr (5, [.int v_th, .ref a_sa, .int v_sz, .int a, .int fd, .ref a_ru, .ref a_me, .ref a_le, .int v_n, .ref a_cl, .ref a_te, .ref a_ki, .ref a_ty, .ref a_bl, .ref a_ex, .ref a_lo, .int v_nl, .ref a_ho, .ref a_fi, .int v_nf, .ref a_cz, .int v_nc])), (a_sa, .inl (k_sa, 120, .inl f_sa)), (a_ru, .inl (k_ru, 410, .inl f_ru))]) [0, 1, 2] rfl
          have hD9 := hD.sub (ws' := [(a_m, .inr (5, [.int v_th, .ref a_sa, .int v_sz, .int a, .int fd, .ref a_ru, .ref a_me, .ref a_le, .int v_n, .ref a_cl, .ref a_te, .ref a_ki, .ref a_ty, .ref a_bl, .ref a_ex, .ref a_lo, .int v_nl, .ref a_ho, .ref a_fi, .int v_nf, .ref a_cz, .int v_nc])), (a_sa, .inl (k_sa, 120, .inl f_sa)), (a_ru, .inl (k_ru, 410, .inl f_ru))]) [0, 1, 2] (by decide) rfl
          have hK9 := hK.sub (tys' := [(k_sa, .byte), (k_ru, .int)]) [0, 1] rfl
          exact W.zret (v := 0) hx hb hr rfl (fun t ht hW => ⟨⟨0, (), rfl, by rw [← hz, hE], by rw [ht, ← hz, hE]; exact hP9, va_K.moved hW.alike hK9, by rw [← hz, hE]; exact hD9⟩, hS.F ht⟩) hS.2.2 d_M_number_113
        · rw [if_neg c_11] at hE
          refine lv_aload_n hx hb d_M_number_90 rfl (lv_at hl 2 rfl) ?_
          refine va_get (D := (dC, dI)) (ci := 5) (v := .int a) (C := "LoanRulesModel") (T := Fz_M) (N := 22) hx hb hts it_M hown hK hP 0 rfl rfl 3 (by decide) (hts _ tw_604) (fun _ h9 => h9) rfl d_M_number_91 ?_
          refine lv_iload hx hb d_M_number_94 (lv_at hl 1 rfl) ?_
          refine lv_isub hx hb d_M_number_96 ?_
          refine lv_iload_n hx hb d_M_number_97 rfl (lv_at hl 4 rfl) ?_
          refine lv_icmp_gt (tgt := 107) hx hb d_M_number_98 (by decide) (fun c_14 => ?_) (fun c_14 => ?_)
          · rw [if_pos c_14] at hE
            refine lv_aload_n hx hb d_M_number_107 rfl (lv_at hl 2 rfl) ?_
            refine lv_iload hx hb d_M_number_108 (lv_at hl 1 rfl) ?_
            have hPc := hP.sub (ws' := [(a_m, .inr (5, [.int v_th, .ref a_sa, .int v_sz, .int a, .int x_3.2.2, .ref a_ru, .ref a_me, .ref a_le, .int v_n, .ref a_cl, .ref a_te, .ref a_ki, .ref a_ty, .ref a_bl, .ref a_ex, .ref a_lo, .int v_nl, .ref a_ho, .ref a_fi, .int v_nf, .ref a_cz, .int v_nc]))]) [0] rfl
            have hKc := hK.sub (tys' := []) [] rfl
            have hDc := hD.sub (ws' := [(a_m, .inr (5, [.int v_th, .ref a_sa, .int v_sz, .int a, .int x_3.2.2, .ref a_ru, .ref a_me, .ref a_le, .int v_n, .ref a_cl, .ref a_te, .ref a_ki, .ref a_ty, .ref a_bl, .ref a_ex, .ref a_lo, .int v_nl, .ref a_ho, .ref a_fi, .int v_nf, .ref a_cz, .int v_nc]))]) [0] (by decide) rfl
            have hFc := va_free (wc := [(a_m, .inr (5, [.int v_th, .ref a_sa, .int v_sz, .int a, .int x_3.2.2, .ref a_ru, .ref a_me, .ref a_le, .int v_n, .ref a_cl, .ref a_te, .ref a_ki, .ref a_ty, .ref a_bl, .ref a_ex, .ref a_lo, .int v_nl, .ref a_ho, .ref a_fi, .int v_nf, .ref a_cz, .int v_nc]))]) hD hS hA [0] rfl
            refine va_calli (va_runV (As := [.int fd]) (rest := []) ⟨hx, hb, hml, hown, hts⟩ (c_Mg_bad l dC dI adK adV (a_m := a_m) (p0 := fd) (v_th := v_th) (a_sa := a_sa) (v_sz := v_sz) (v_at := a) (v_wr := x_3.2.2) (a_ru := a_ru) (a_me := a_me) (a_le := a_le) (v_n := v_n) (a_cl := a_cl) (a_te := a_te) (a_ki := a_ki) (a_ty := a_ty) (a_bl := a_bl) (a_ex := a_ex) (a_lo := a_lo) (v_nl := v_nl) (a_ho := a_ho) (a_fi := a_fi) (v_nf := v_nf) (a_cz := a_cz) (v_nc := v_nc) (sz := H.size)) (cwV 1 hts (gV tw_688 tw_690 tw_28 tw_46 tw_691) rfl rfl rfl (by decide +kernel) ⟨(Nat.le_of_ble_eq_true rfl), (Nat.le_of_ble_eq_true rfl)⟩) ⟨fun a U g mk q => by obtain ⟨q0, q1, qZ, qP, qK, qD⟩ := q; exact ⟨q0, q1, zz_call qZ, qP, va_K.moved (u := U) (U := U.calling g mk a) (Vm.Alike.refl U.vm) qK, qD⟩, va_recv hKc hPc (ci := 5) (q0 := 0) rfl rfl, fun U hU hW => ⟨rfl, by rw [hU], zz_rw hS hFc hU hW hZ, by rw [hU]; exact hPc, va_K.moved hW.alike hKc, hDc.weaken (fun _ _ _ _ => trivial)⟩⟩ rfl rfl hl.1 rfl (lv_room (Nat.le_of_ble_eq_true rfl)) d_M_number_110 ⟨(Nat.le_of_ble_eq_true rfl), (Nat.le_of_ble_eq_true rfl)⟩) hS (fun q _ h => hFc q h) hFc (fun r_15 u t H1 locs ht hvm hw_16 hB hz1 hk1 hS => ?_)
            obtain ⟨hP1, hK1, hD1⟩ := hB
            rw [ht] at hP1
            have hK1 := va_K.moved hvm.symm hK1
            obtain rfl : r_15 = 0 := hw_16
            obtain ⟨hP, hD⟩ := va_join (wr := [(a_sa, .inl (k_sa, 120, .inl f_sa)), (a_ru, .inl (k_ru, 410, .inl f_ru))]) (w1 := [(a_m, .inr (5, [.int v_th, .ref a_sa, .int v_sz, .int a, .int fd, .ref a_ru, .ref a_me, .ref a_le, .int v_n, .ref a_cl, .ref a_te, .ref a_ki, .ref a_ty, .ref a_bl, .ref a_ex, .ref a_lo, .int v_nl, .ref a_ho, .ref a_fi, .int v_nf, .ref a_cz, .int v_nc]))]) hP hD [0] [1, 2] rfl rfl (by decide) (by decide) hk1 hFc hP1 hD1
            replace hK := (hK.sub (tys' := [(k_sa, .byte), (k_ru, .int)]) [0, 1] rfl).app hK1
            generalize H1 = H at hP hS ⊢
            replace hP := hP.sub (ws' := [(a_m, .inr (5, [.int v_th, .ref a_sa, .int v_sz, .int a, .int fd, .ref a_ru, .ref a_me, .ref a_le, .int v_n, .ref a_cl, .ref a_te, .ref a_ki, .ref a_ty, .ref a_bl, .ref a_ex, .ref a_lo, .int v_nl, .ref a_ho, .ref a_fi, .int v_nf, .ref a_cz, .int v_nc])), (a_sa, .inl (k_sa, 120, .inl f_sa)), (a_ru, .inl (k_ru, 410, .inl f_ru))]) [2, 0, 1] rfl
            replace hD := hD.sub (ws' := [(a_m, .inr (5, [.int v_th, .ref a_sa, .int v_sz, .int a, .int fd, .ref a_ru, .ref a_me, .ref a_le, .int v_n, .ref a_cl, .ref a_te, .ref a_ki, .ref a_ty, .ref a_bl, .ref a_ex, .ref a_lo, .int v_nl, .ref a_ho, .ref a_fi, .int v_nf, .ref a_cz, .int v_nc])), (a_sa, .inl (k_sa, 120, .inl f_sa)), (a_ru, .inl (k_ru, 410, .inl f_ru))]) [2, 0, 1] (by decide) rfl
            replace hK := hK.sub (tys' := [(k_sa, .byte), (k_ru, .int)]) [0, 1] rfl
            have hP9 := hP.sub (ws' := [(a_m, .inr (5, [.int v_th, .ref a_sa, .int v_sz, .int a, .int fd, .ref a_ru, .ref a_me, .ref a_le, .int v_n, .ref a_cl, .ref a_te, .ref a_ki, .ref a_ty, .ref a_bl, .ref a_ex, .ref a_lo, .int v_nl, .ref a_ho, .ref a_fi, .int v_nf, .ref a_cz, .int v_nc])), (a_sa, .inl (k_sa, 120, .inl f_sa)), (a_ru, .inl (k_ru, 410, .inl f_ru))]) [0, 1, 2] rfl
            have hD9 := hD.sub (ws' := [(a_m, .inr (5, [.int v_th, .ref a_sa, .int v_sz, .int a, .int fd, .ref a_ru, .ref a_me, .ref a_le, .int v_n, .ref a_cl, .ref a_te, .ref a_ki, .ref a_ty, .ref a_bl, .ref a_ex, .ref a_lo, .int v_nl, .ref a_ho, .ref a_fi, .int v_nf, .ref a_cz, .int v_nc])), (a_sa, .inl (k_sa, 120, .inl f_sa)), (a_ru, .inl (k_ru, 410, .inl f_ru))]) [0, 1, 2] (by decide) rfl
            have hK9 := hK.sub (tys' := [(k_sa, .byte), (k_ru, .int)]) [0, 1] rfl
            exact W.zret (v := 0) hx hb hr rfl (fun t ht hW => ⟨⟨0, (), rfl, by rw [← hz, hE], by rw [ht, ← hz, hE]; exact hP9, va_K.moved hW.alike hK9, by rw [← hz, hE]; exact hD9⟩, hS.F ht⟩) hS.2.2 d_M_number_113
          · rw [if_neg c_14] at hE
            refine lv_iload hx hb d_M_number_101 (lv_at hl 0 rfl) ?_
            refine lv_iload_n hx hb d_M_number_103 rfl (lv_at hl 5 rfl) ?_
            refine lv_icmp_le (tgt := 114) hx hb d_M_number_104 (by decide) (fun c_17 => ?_) (fun c_17 => ?_)
            · rw [if_pos c_17] at hE
              refine lv_aload_n hx hb d_M_number_114 rfl (lv_at hl 2 rfl) ?_
              refine va_get (D := (dC, dI)) (ci := 5) (v := .ref a_ru) (C := "LoanRulesModel") (T := Fz_M) (N := 22) hx hb hts it_M hown hK hP 0 rfl rfl 5 (by decide) (hts _ tw_606) (fun _ h9 => h9) rfl d_M_number_115 ?_
              refine lv_bipush (v := 10) hx hb d_M_number_118 (by decide) ?_
              refine lv_aload_n hx hb d_M_number_120 rfl (lv_at hl 2 rfl) ?_
              refine va_get (D := (dC, dI)) (ci := 5) (v := .int v_n) (C := "LoanRulesModel") (T := Fz_M) (N := 22) hx hb hts it_M hown hK hP 0 rfl rfl 8 (by decide) (hts _ tw_609) (fun _ h9 => h9) rfl d_M_number_121 ?_
              refine lv_imul hx hb d_M_number_124 ?_
              refine lv_iload_n hx hb d_M_number_125 rfl (lv_at hl 3 rfl) ?_
              refine lv_iadd hx hb d_M_number_126 ?_
              refine lv_iload hx hb d_M_number_127 (lv_at hl 0 rfl) ?_
              have i_18 : vp_in ((10 * v_n) + p0) 410 := ix10 hn hp0
              refine va_iast (D := (dC, dI)) hx hb hK hP hD hS 2 1 rfl rfl i_18 d_M_number_129 (fun H locs hP hD hS => ?_)
              replace hP : va_P (dC, dI) vwCl [(a_m, .inr (5, [.int v_th, .ref a_sa, .int v_sz, .int a, .int x_3.2.2, .ref a_ru, .ref a_me, .ref a_le, .int v_n, .ref a_cl, .ref a_te, .ref a_ki, .ref a_ty, .ref a_bl, .ref a_ex, .ref a_lo, .int v_nl, .ref a_ho, .ref a_fi, .int v_nf, .ref a_cz, .int v_nc])), (a_sa, .inl (k_sa, 120, .inl f_sa)), (a_ru, .inl (k_ru, 410, .inl (upd f_ru ((10 * v_n) + p0).toNatClampNeg v)))] H := hP
              replace hD : va_D A [(a_m, .inr (5, [.int v_th, .ref a_sa, .int v_sz, .int a, .int x_3.2.2, .ref a_ru, .ref a_me, .ref a_le, .int v_n, .ref a_cl, .ref a_te, .ref a_ki, .ref a_ty, .ref a_bl, .ref a_ex, .ref a_lo, .int v_nl, .ref a_ho, .ref a_fi, .int v_nf, .ref a_cz, .int v_nc])), (a_sa, .inl (k_sa, 120, .inl f_sa)), (a_ru, .inl (k_ru, 410, .inl (upd f_ru ((10 * v_n) + p0).toNatClampNeg v)))] := hD
              refine lv_iconst (v := 1) hx hb d_M_number_130 (by decide) ?_
              have hP9 := hP.sub (ws' := [(a_m, .inr (5, [.int v_th, .ref a_sa, .int v_sz, .int a, .int x_3.2.2, .ref a_ru, .ref a_me, .ref a_le, .int v_n, .ref a_cl, .ref a_te, .ref a_ki, .ref a_ty, .ref a_bl, .ref a_ex, .ref a_lo, .int v_nl, .ref a_ho, .ref a_fi, .int v_nf, .ref a_cz, .int v_nc])), (a_sa, .inl (k_sa, 120, .inl f_sa)), (a_ru, .inl (k_ru, 410, .inl (upd f_ru ((10 * v_n) + p0).toNatClampNeg v)))]) [0, 1, 2] rfl
              have hD9 := hD.sub (ws' := [(a_m, .inr (5, [.int v_th, .ref a_sa, .int v_sz, .int a, .int x_3.2.2, .ref a_ru, .ref a_me, .ref a_le, .int v_n, .ref a_cl, .ref a_te, .ref a_ki, .ref a_ty, .ref a_bl, .ref a_ex, .ref a_lo, .int v_nl, .ref a_ho, .ref a_fi, .int v_nf, .ref a_cz, .int v_nc])), (a_sa, .inl (k_sa, 120, .inl f_sa)), (a_ru, .inl (k_ru, 410, .inl (upd f_ru ((10 * v_n) + p0).toNatClampNeg v)))]) [0, 1, 2] (by decide) rfl
              have hK9 := hK.sub (tys' := [(k_sa, .byte), (k_ru, .int)]) [0, 1] rfl
              exact W.zret (v := 1) hx hb hr rfl (fun t ht hW => ⟨⟨1, (), rfl, by rw [← hz, hE], by rw [ht, ← hz, hE]; exact hP9, va_K.moved hW.alike hK9, by rw [← hz, hE]; exact hD9⟩, hS.F ht⟩) hS.2.2 d_M_number_131
            · rw [if_neg c_17] at hE
              refine lv_aload_n hx hb d_M_number_107 rfl (lv_at hl 2 rfl) ?_
              refine lv_iload hx hb d_M_number_108 (lv_at hl 1 rfl) ?_
              have hPc := hP.sub (ws' := [(a_m, .inr (5, [.int v_th, .ref a_sa, .int v_sz, .int a, .int x_3.2.2, .ref a_ru, .ref a_me, .ref a_le, .int v_n, .ref a_cl, .ref a_te, .ref a_ki, .ref a_ty, .ref a_bl, .ref a_ex, .ref a_lo, .int v_nl, .ref a_ho, .ref a_fi, .int v_nf, .ref a_cz, .int v_nc]))]) [0] rfl
              have hKc := hK.sub (tys' := []) [] rfl
              have hDc := hD.sub (ws' := [(a_m, .inr (5, [.int v_th, .ref a_sa, .int v_sz, .int a, .int x_3.2.2, .ref a_ru, .ref a_me, .ref a_le, .int v_n, .ref a_cl, .ref a_te, .ref a_ki, .ref a_ty, .ref a_bl, .ref a_ex, .ref a_lo, .int v_nl, .ref a_ho, .ref a_fi, .int v_nf, .ref a_cz, .int v_nc]))]) [0] (by decide) rfl
              have hFc := va_free (wc := [(a_m, .inr (5, [.int v_th, .ref a_sa, .int v_sz, .int a, .int x_3.2.2, .ref a_ru, .ref a_me, .ref a_le, .int v_n, .ref a_cl, .ref a_te, .ref a_ki, .ref a_ty, .ref a_bl, .ref a_ex, .ref a_lo, .int v_nl, .ref a_ho, .ref a_fi, .int v_nf, .ref a_cz, .int v_nc]))]) hD hS hA [0] rfl
              refine va_calli (va_runV (As := [.int fd]) (rest := []) ⟨hx, hb, hml, hown, hts⟩ (c_Mg_bad l dC dI adK adV (a_m := a_m) (p0 := fd) (v_th := v_th) (a_sa := a_sa) (v_sz := v_sz) (v_at := a) (v_wr := x_3.2.2) (a_ru := a_ru) (a_me := a_me) (a_le := a_le) (v_n := v_n) (a_cl := a_cl) (a_te := a_te) (a_ki := a_ki) (a_ty := a_ty) (a_bl := a_bl) (a_ex := a_ex) (a_lo := a_lo) (v_nl := v_nl) (a_ho := a_ho) (a_fi := a_fi) (v_nf := v_nf) (a_cz := a_cz) (v_nc := v_nc) (sz := H.size)) (cwV 1 hts (gV tw_688 tw_690 tw_28 tw_46 tw_691) rfl rfl rfl (by decide +kernel) ⟨(Nat.le_of_ble_eq_true rfl), (Nat.le_of_ble_eq_true rfl)⟩) ⟨fun a U g mk q => by obtain ⟨q0, q1, qZ, qP, qK, qD⟩ := q; exact ⟨q0, q1, zz_call qZ, qP, va_K.moved (u := U) (U := U.calling g mk a) (Vm.Alike.refl U.vm) qK, qD⟩, va_recv hKc hPc (ci := 5) (q0 := 0) rfl rfl, fun U hU hW => ⟨rfl, by rw [hU], zz_rw hS hFc hU hW hZ, by rw [hU]; exact hPc, va_K.moved hW.alike hKc, hDc.weaken (fun _ _ _ _ => trivial)⟩⟩ rfl rfl hl.1 rfl (lv_room (Nat.le_of_ble_eq_true rfl)) d_M_number_110 ⟨(Nat.le_of_ble_eq_true rfl), (Nat.le_of_ble_eq_true rfl)⟩) hS (fun q _ h => hFc q h) hFc (fun r_19 u t H1 locs ht hvm hw_20 hB hz1 hk1 hS => ?_)
              obtain ⟨hP1, hK1, hD1⟩ := hB
              rw [ht] at hP1
              have hK1 := va_K.moved hvm.symm hK1
              obtain rfl : r_19 = 0 := hw_20
              obtain ⟨hP, hD⟩ := va_join (wr := [(a_sa, .inl (k_sa, 120, .inl f_sa)), (a_ru, .inl (k_ru, 410, .inl f_ru))]) (w1 := [(a_m, .inr (5, [.int v_th, .ref a_sa, .int v_sz, .int a, .int fd, .ref a_ru, .ref a_me, .ref a_le, .int v_n, .ref a_cl, .ref a_te, .ref a_ki, .ref a_ty, .ref a_bl, .ref a_ex, .ref a_lo, .int v_nl, .ref a_ho, .ref a_fi, .int v_nf, .ref a_cz, .int v_nc]))]) hP hD [0] [1, 2] rfl rfl (by decide) (by decide) hk1 hFc hP1 hD1
              replace hK := (hK.sub (tys' := [(k_sa, .byte), (k_ru, .int)]) [0, 1] rfl).app hK1
              generalize H1 = H at hP hS ⊢
              replace hP := hP.sub (ws' := [(a_m, .inr (5, [.int v_th, .ref a_sa, .int v_sz, .int a, .int fd, .ref a_ru, .ref a_me, .ref a_le, .int v_n, .ref a_cl, .ref a_te, .ref a_ki, .ref a_ty, .ref a_bl, .ref a_ex, .ref a_lo, .int v_nl, .ref a_ho, .ref a_fi, .int v_nf, .ref a_cz, .int v_nc])), (a_sa, .inl (k_sa, 120, .inl f_sa)), (a_ru, .inl (k_ru, 410, .inl f_ru))]) [2, 0, 1] rfl
              replace hD := hD.sub (ws' := [(a_m, .inr (5, [.int v_th, .ref a_sa, .int v_sz, .int a, .int fd, .ref a_ru, .ref a_me, .ref a_le, .int v_n, .ref a_cl, .ref a_te, .ref a_ki, .ref a_ty, .ref a_bl, .ref a_ex, .ref a_lo, .int v_nl, .ref a_ho, .ref a_fi, .int v_nf, .ref a_cz, .int v_nc])), (a_sa, .inl (k_sa, 120, .inl f_sa)), (a_ru, .inl (k_ru, 410, .inl f_ru))]) [2, 0, 1] (by decide) rfl
              replace hK := hK.sub (tys' := [(k_sa, .byte), (k_ru, .int)]) [0, 1] rfl
              have hP9 := hP.sub (ws' := [(a_m, .inr (5, [.int v_th, .ref a_sa, .int v_sz, .int a, .int fd, .ref a_ru, .ref a_me, .ref a_le, .int v_n, .ref a_cl, .ref a_te, .ref a_ki, .ref a_ty, .ref a_bl, .ref a_ex, .ref a_lo, .int v_nl, .ref a_ho, .ref a_fi, .int v_nf, .ref a_cz, .int v_nc])), (a_sa, .inl (k_sa, 120, .inl f_sa)), (a_ru, .inl (k_ru, 410, .inl f_ru))]) [0, 1, 2] rfl
              have hD9 := hD.sub (ws' := [(a_m, .inr (5, [.int v_th, .ref a_sa, .int v_sz, .int a, .int fd, .ref a_ru, .ref a_me, .ref a_le, .int v_n, .ref a_cl, .ref a_te, .ref a_ki, .ref a_ty, .ref a_bl, .ref a_ex, .ref a_lo, .int v_nl, .ref a_ho, .ref a_fi, .int v_nf, .ref a_cz, .int v_nc])), (a_sa, .inl (k_sa, 120, .inl f_sa)), (a_ru, .inl (k_ru, 410, .inl f_ru))]) [0, 1, 2] (by decide) rfl
              have hK9 := hK.sub (tys' := [(k_sa, .byte), (k_ru, .int)]) [0, 1] rfl
              exact W.zret (v := 0) hx hb hr rfl (fun t ht hW => ⟨⟨0, (), rfl, by rw [← hz, hE], by rw [ht, ← hz, hE]; exact hP9, va_K.moved hW.alike hK9, by rw [← hz, hE]; exact hD9⟩, hS.F ht⟩) hS.2.2 d_M_number_113
      · rw [if_neg c_10] at hg_number
        refine lv_aload_n hx hb d_M_number_32 rfl (lv_at hl 2 rfl) ?_
        refine va_get (D := (dC, dI)) (ci := 5) (v := .int a) (C := "LoanRulesModel") (T := Fz_M) (N := 22) hx hb hts it_M hown hK hP 0 rfl rfl 3 (by decide) (hts _ tw_604) (fun _ h9 => h9) rfl d_M_number_33 ?_
        refine lv_iload hx hb d_M_number_36 (lv_at hl 1 rfl) ?_
        refine lv_isub hx hb d_M_number_38 ?_
        refine lv_iconst (v := 3) hx hb d_M_number_39 (by decide) ?_
        refine lv_icmp_le (tgt := 49) hx hb d_M_number_40 (by decide) (fun c_21 => ?_) (fun c_21 => ?_)
        · rw [if_pos c_21] at hg_number
          refine lv_bipush (v := 10) hx hb d_M_number_49 (by decide) ?_
          refine lv_iload hx hb d_M_number_51 (lv_at hl 0 rfl) ?_
          refine lv_imul hx hb d_M_number_53 ?_
          refine lv_aload_n hx hb d_M_number_54 rfl (lv_at hl 2 rfl) ?_
          refine lv_aload_n hx hb d_M_number_55 rfl (lv_at hl 2 rfl) ?_
          refine va_get (D := (dC, dI)) (ci := 5) (v := .int a) (C := "LoanRulesModel") (T := Fz_M) (N := 22) hx hb hts it_M hown hK hP 0 rfl rfl 3 (by decide) (hts _ tw_604) (fun _ h9 => h9) rfl d_M_number_56 ?_
          have hPc := hP.sub (ws' := [(a_m, .inr (5, [.int v_th, .ref a_sa, .int v_sz, .int a, .int x_3.2.2, .ref a_ru, .ref a_me, .ref a_le, .int v_n, .ref a_cl, .ref a_te, .ref a_ki, .ref a_ty, .ref a_bl, .ref a_ex, .ref a_lo, .int v_nl, .ref a_ho, .ref a_fi, .int v_nf, .ref a_cz, .int v_nc])), (a_sa, .inl (k_sa, 120, .inl f_sa))]) [0, 1] rfl
          have hKc := hK.sub (tys' := [(k_sa, .byte)]) [0] rfl
          refine vp_callSi (va_Run.run (va_runV (As := [.int a]) (rest := [.int (10 * v)]) ⟨hx, hb, hml, hown, hts⟩ (c_Mg_look l dC dI adK adV (a_m := a_m) (p0 := a) (v_th := v_th) (a_sa := a_sa) (v_sz := v_sz) (v_at := a) (v_wr := x_3.2.2) (a_ru := a_ru) (a_me := a_me) (a_le := a_le) (v_n := v_n) (a_cl := a_cl) (a_te := a_te) (a_ki := a_ki) (a_ty := a_ty) (a_bl := a_bl) (a_ex := a_ex) (a_lo := a_lo) (v_nl := v_nl) (a_ho := a_ho) (a_fi := a_fi) (v_nf := v_nf) (a_cz := a_cz) (v_nc := v_nc) (k_sa := k_sa) (f_sa := f_sa) ha.1 hsz) (cwV 1 hts (gV tw_684 tw_686 tw_27 tw_46 tw_687) rfl rfl rfl (by decide +kernel) ⟨(Nat.le_of_ble_eq_true rfl), (Nat.le_of_ble_eq_true rfl)⟩) ⟨fun a U g mk q => by obtain ⟨q0, qZ, qP, qK⟩ := q; exact ⟨q0, zz_call qZ, qP, va_K.moved (u := U) (U := U.calling g mk a) (Vm.Alike.refl U.vm) qK⟩, va_recv hKc hPc (ci := 5) (q0 := 0) rfl rfl, fun U hU hW => ⟨rfl, zz_ro hS hU hW hZ, by rw [hU]; exact hPc, va_K.moved hW.alike hKc⟩⟩ rfl rfl hl.1 rfl (lv_room (Nat.le_of_ble_eq_true rfl)) d_M_number_59 ⟨(Nat.le_of_ble_eq_true rfl), (Nat.le_of_ble_eq_true rfl)⟩)) (fun r_22 hw_23 => ?_)
          clear hPc hKc
          subst hw_23
          refine lv_iadd hx hb d_M_number_62 ?_
          refine lv_bipush (v := 48) hx hb d_M_number_63 (by decide) ?_
          refine lv_isub hx hb d_M_number_65 ?_
          refine lv_istore (lv' := [(5, .int (((10 * v) + (g_Mg_look a v_sz f_sa)) - 48)), (4, .int fd), (0, .ref a_m), (1, .int p0), (2, .int p1), (3, .int p2)]) hx hb d_M_number_66 hl (by decide) rfl (fun ls hl => ?_)
          refine lv_aload_n hx hb d_M_number_68 rfl (lv_at hl 2 rfl) ?_
          refine lv_dup hx hb d_M_number_69 rfl ?_
          refine va_get (D := (dC, dI)) (ci := 5) (v := .int a) (C := "LoanRulesModel") (T := Fz_M) (N := 22) hx hb hts it_M hown hK hP 0 rfl rfl 3 (by decide) (hts _ tw_604) (fun _ h9 => h9) rfl d_M_number_70 ?_
          refine lv_iconst (v := 1) hx hb d_M_number_73 (by decide) ?_
          refine lv_iadd hx hb d_M_number_74 ?_
          refine va_put (D := (dC, dI)) (ci := 5) (v := .int (a + 1)) (ty := .int) (C := "LoanRulesModel") (T := Fz_M) (N := 22) hx hb hts it_M tz_M tz_M_ok nz_M hown hK hP hD hS 0 rfl rfl 3 (by decide) (hts _ tw_604) (fun _ h9 => h9) rfl (by decide +kernel) rfl rfl (Nat.le_of_ble_eq_true rfl) d_M_number_75 (fun H locs hP hD hS => ?_)
          replace hP : va_P (dC, dI) vwCl [(a_m, .inr (5, [.int v_th, .ref a_sa, .int v_sz, .int (a + 1), .int x_3.2.2, .ref a_ru, .ref a_me, .ref a_le, .int v_n, .ref a_cl, .ref a_te, .ref a_ki, .ref a_ty, .ref a_bl, .ref a_ex, .ref a_lo, .int v_nl, .ref a_ho, .ref a_fi, .int v_nf, .ref a_cz, .int v_nc])), (a_sa, .inl (k_sa, 120, .inl f_sa)), (a_ru, .inl (k_ru, 410, .inl f_ru))] H := hP
          replace hD : va_D A [(a_m, .inr (5, [.int v_th, .ref a_sa, .int v_sz, .int (a + 1), .int x_3.2.2, .ref a_ru, .ref a_me, .ref a_le, .int v_n, .ref a_cl, .ref a_te, .ref a_ki, .ref a_ty, .ref a_bl, .ref a_ex, .ref a_lo, .int v_nl, .ref a_ho, .ref a_fi, .int v_nf, .ref a_cz, .int v_nc])), (a_sa, .inl (k_sa, 120, .inl f_sa)), (a_ru, .inl (k_ru, 410, .inl f_ru))] := hD
          refine lv_goto (tgt := 18) hx hb d_M_number_78 (by decide) ?_
          exact ih_number _ _ _ _ _ _ ⟨hP, hD, hS, lv_sub hl [0, 1, 2, 3, 4, 5] rfl, (li_k ha hsz (lk_dig c_10)), (li_km ha hsz (lk_dig c_10) hm_number), hg_number⟩
        · rw [if_neg c_21] at hg_number
          refine lv_sipush (v := 9999) hx hb d_M_number_43 (by decide) ?_
          refine lv_goto (tgt := 66) hx hb d_M_number_46 (by decide) ?_
          refine lv_istore (lv' := [(5, .int 9999), (4, .int fd), (0, .ref a_m), (1, .int p0), (2, .int p1), (3, .int p2)]) hx hb d_M_number_66 hl (by decide) rfl (fun ls hl => ?_)
          refine lv_aload_n hx hb d_M_number_68 rfl (lv_at hl 2 rfl) ?_
          refine lv_dup hx hb d_M_number_69 rfl ?_
          refine va_get (D := (dC, dI)) (ci := 5) (v := .int a) (C := "LoanRulesModel") (T := Fz_M) (N := 22) hx hb hts it_M hown hK hP 0 rfl rfl 3 (by decide) (hts _ tw_604) (fun _ h9 => h9) rfl d_M_number_70 ?_
          refine lv_iconst (v := 1) hx hb d_M_number_73 (by decide) ?_
          refine lv_iadd hx hb d_M_number_74 ?_
          refine va_put (D := (dC, dI)) (ci := 5) (v := .int (a + 1)) (ty := .int) (C := "LoanRulesModel") (T := Fz_M) (N := 22) hx hb hts it_M tz_M tz_M_ok nz_M hown hK hP hD hS 0 rfl rfl 3 (by decide) (hts _ tw_604) (fun _ h9 => h9) rfl (by decide +kernel) rfl rfl (Nat.le_of_ble_eq_true rfl) d_M_number_75 (fun H locs hP hD hS => ?_)
          replace hP : va_P (dC, dI) vwCl [(a_m, .inr (5, [.int v_th, .ref a_sa, .int v_sz, .int (a + 1), .int x_3.2.2, .ref a_ru, .ref a_me, .ref a_le, .int v_n, .ref a_cl, .ref a_te, .ref a_ki, .ref a_ty, .ref a_bl, .ref a_ex, .ref a_lo, .int v_nl, .ref a_ho, .ref a_fi, .int v_nf, .ref a_cz, .int v_nc])), (a_sa, .inl (k_sa, 120, .inl f_sa)), (a_ru, .inl (k_ru, 410, .inl f_ru))] H := hP
          replace hD : va_D A [(a_m, .inr (5, [.int v_th, .ref a_sa, .int v_sz, .int (a + 1), .int x_3.2.2, .ref a_ru, .ref a_me, .ref a_le, .int v_n, .ref a_cl, .ref a_te, .ref a_ki, .ref a_ty, .ref a_bl, .ref a_ex, .ref a_lo, .int v_nl, .ref a_ho, .ref a_fi, .int v_nf, .ref a_cz, .int v_nc])), (a_sa, .inl (k_sa, 120, .inl f_sa)), (a_ru, .inl (k_ru, 410, .inl f_ru))] := hD
          refine lv_goto (tgt := 18) hx hb d_M_number_78 (by decide) ?_
          exact ih_number _ _ _ _ _ _ ⟨hP, hD, hS, lv_sub hl [0, 1, 2, 3, 4, 5] rfl, (li_k ha hsz (lk_dig c_10)), (li_km ha hsz (lk_dig c_10) hm_number), hg_number⟩
  · rw [if_pos c_4] at hE
    refine lv_iconst (v := 0) hx hb d_M_number_7 (by decide) ?_
    have hP9 := hP.sub (ws' := [(a_m, .inr (5, [.int v_th, .ref a_sa, .int v_sz, .int x_3.2.1, .int x_3.2.2, .ref a_ru, .ref a_me, .ref a_le, .int v_n, .ref a_cl, .ref a_te, .ref a_ki, .ref a_ty, .ref a_bl, .ref a_ex, .ref a_lo, .int v_nl, .ref a_ho, .ref a_fi, .int v_nf, .ref a_cz, .int v_nc])), (a_sa, .inl (k_sa, 120, .inl f_sa)), (a_ru, .inl (k_ru, 410, .inl f_ru))]) [0, 1, 2] rfl
    have hD9 := hD.sub (ws' := [(a_m, .inr (5, [.int v_th, .ref a_sa, .int v_sz, .int x_3.2.1, .int x_3.2.2, .ref a_ru, .ref a_me, .ref a_le, .int v_n, .ref a_cl, .ref a_te, .ref a_ki, .ref a_ty, .ref a_bl, .ref a_ex, .ref a_lo, .int v_nl, .ref a_ho, .ref a_fi, .int v_nf, .ref a_cz, .int v_nc])), (a_sa, .inl (k_sa, 120, .inl f_sa)), (a_ru, .inl (k_ru, 410, .inl f_ru))]) [0, 1, 2] (by decide) rfl
    have hK9 := hK.sub (tys' := [(k_sa, .byte), (k_ru, .int)]) [0, 1] rfl
    exact W.zret (v := 0) hx hb hr rfl (fun t ht hW => ⟨⟨0, (), rfl, by rw [← hz, hE], by rw [ht, ← hz, hE]; exact hP9, va_K.moved hW.alike hK9, by rw [← hz, hE]; exact hD9⟩, hS.F ht⟩) hS.2.2 d_M_number_8
