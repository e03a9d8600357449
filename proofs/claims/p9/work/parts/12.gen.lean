theorem gl_number_at {v_sz : Int32} {f_sa : Nat → Int32} (hsz : i120 v_sz) : ∀ (n : Nat) (a fd v : Int32), i120 a → i120 (gl_number n v_sz f_sa a fd v).1 := by
  intro n
  induction n with
  | zero => intro a fd v ha; exact ha
  | succ n ih =>
    intro a fd v ha
    rw [gl_number]
    refine pt_i (fun t : Int32 × Int32 × Int32 => i120 t.1) (fun _ => ha) (fun c => pt_i (fun t : Int32 × Int32 × Int32 => i120 t.1) (fun _ => ih _ _ _ (li_k ha hsz (lk_dig c))) (fun _ => ih _ _ _ (li_k ha hsz (lk_dig c))))
theorem number_at {p0 p1 p2 v_sz v_at v_wr v_n : Int32} {f_sa f_ru : Nat → Int32} (hsz : i120 v_sz) (hat : i120 v_at) : i120 (g_Mg_number p0 p1 p2 v_sz v_at v_wr v_n f_sa f_ru).2.1 := by
  unfold g_Mg_number
  have h0 := space_at (v_wr := v_wr) (f_sa := f_sa) hsz hat
  have h := gl_number_at (f_sa := f_sa) hsz 121 _ (g_Mg_space v_sz v_at v_wr f_sa).2.1 0 h0
  repeat' (first | with_reducible refine pt_i (fun t : Int32 × Int32 × Int32 × (Nat → Int32) => i120 t.2.1) (fun _ => ?_) (fun _ => ?_) | with_reducible refine pt_v (fun t : Int32 × Int32 × Int32 × (Nat → Int32) => i120 t.2.1) ?_)
  all_goals first | with_reducible exact h | with_reducible exact h0
def g_Mg_lends (v_sz : Int32) (v_at : Int32) (v_wr : Int32) (v_n : Int32) (f_sa : Nat → Int32) (f_ru : Nat → Int32) : Int32 × Int32 × Int32 × (Nat → Int32) :=
  if (g_Mg_look v_at v_sz f_sa) = 32 then
    if (g_Mg_isDigit (g_Mg_look (v_at + 1) v_sz f_sa)) = 0 then
      if (lg_cmp (g_Mg_word v_sz (v_at + 1) f_sa) 661069) = 0 then
        bv (g_Mg_pass v_sz (v_at + 1) f_sa) (fun x_19 =>
          (1, x_19, v_wr, upd f_ru ((10 * v_n) + 3).toNatClampNeg 1))
      else
        (0, v_at + 1, (v_at + 1), f_ru)
    else
      bv (g_Mg_number 4 3 999 v_sz v_at v_wr v_n f_sa f_ru) (fun x_14 =>
        (x_14.1, x_14.2.1, x_14.2.2.1, x_14.2.2.2))
  else
    bv (g_Mg_number 4 3 999 v_sz v_at v_wr v_n f_sa f_ru) (fun x_6 =>
      (x_6.1, x_6.2.1, x_6.2.2.1, x_6.2.2.2))
theorem nz_Mg_lends {v_sz : Int32} {v_at : Int32} {v_wr : Int32} {v_n : Int32} {f_sa : Nat → Int32} {f_ru : Nat → Int32} : b01 (g_Mg_lends v_sz v_at v_wr v_n f_sa f_ru).1 := by
  unfold g_Mg_lends
  repeat' (first | with_reducible refine b01_i (fun _ => ?_) (fun _ => ?_) | with_reducible refine b01_v ?_)
  all_goals first | with_reducible exact b01_0 | with_reducible exact b01_1 | with_reducible exact nz_Mg_number
set_option maxHeartbeats 4000000 in
set_option maxRecDepth 100000 in
theorem c_Mg_lends (l : Launch) (dC : Nat → ClassId) (dI : Nat → Nat → Nat) (adK adV : Nat → Nat) (a_m : Nat) (a_sa : Nat) (a_ru : Nat) (k_sa : ClassId) (k_ru : ClassId) (v_th : Int32) (v_sz : Int32) (v_at : Int32) (v_wr : Int32) (a_me : Nat) (a_le : Nat) (v_n : Int32) (a_cl : Nat) (a_te : Nat) (a_ki : Nat) (a_ty : Nat) (a_bl : Nat) (a_ex : Nat) (a_lo : Nat) (v_nl : Int32) (a_ho : Nat) (a_fi : Nat) (v_nf : Int32) (a_cz : Nat) (v_nc : Int32) (f_sa : Nat → Int32) (f_ru : Nat → Int32) (sz : Nat) (hsz : 0 ≤ v_sz.toInt ∧ v_sz.toInt ≤ 120) (hat : 0 ≤ v_at.toInt ∧ v_at.toInt ≤ 120) (hn : 0 ≤ v_n.toInt ∧ v_n.toInt ≤ 40) : Met l y_M_lends ws_M_lends ({ frames := 3, cells := 0, slots := 0, locals := 66 }) (va_Pc [.ref a_m] (fun U => U.heap.size = sz ∧ zz adK adV (va_A [(a_m, .inr (5, [.int v_th, .ref a_sa, .int v_sz, .int v_at, .int v_wr, .ref a_ru, .ref a_me, .ref a_le, .int v_n, .ref a_cl, .ref a_te, .ref a_ki, .ref a_ty, .ref a_bl, .ref a_ex, .ref a_lo, .int v_nl, .ref a_ho, .ref a_fi, .int v_nf, .ref a_cz, .int v_nc])), (a_sa, .inl (k_sa, 120, .inl f_sa)), (a_ru, .inl (k_ru, 410, .inl f_ru))] sz) U ∧ va_P (dC, dI) vwCl [(a_m, .inr (5, [.int v_th, .ref a_sa, .int v_sz, .int v_at, .int v_wr, .ref a_ru, .ref a_me, .ref a_le, .int v_n, .ref a_cl, .ref a_te, .ref a_ki, .ref a_ty, .ref a_bl, .ref a_ex, .ref a_lo, .int v_nl, .ref a_ho, .ref a_fi, .int v_nf, .ref a_cz, .int v_nc])), (a_sa, .inl (k_sa, 120, .inl f_sa)), (a_ru, .inl (k_ru, 410, .inl f_ru))] U.heap ∧ va_K (dC, dI) vwCl [(k_sa, .byte), (k_ru, .int)] U ∧ va_D (fun _ => True) [(a_m, .inr (5, [.int v_th, .ref a_sa, .int v_sz, .int v_at, .int v_wr, .ref a_ru, .ref a_me, .ref a_le, .int v_n, .ref a_cl, .ref a_te, .ref a_ki, .ref a_ty, .ref a_bl, .ref a_ex, .ref a_lo, .int v_nl, .ref a_ho, .ref a_fi, .int v_nf, .ref a_cz, .int v_nc])), (a_sa, .inl (k_sa, 120, .inl f_sa)), (a_ru, .inl (k_ru, 410, .inl f_ru))])) (va_Qi (fun (r : Int32) (_ : Unit) => r = (g_Mg_lends v_sz v_at v_wr v_n f_sa f_ru).1) (fun (_ : Unit) (t : State) => va_P (dC, dI) vwCl [(a_m, .inr (5, [.int v_th, .ref a_sa, .int v_sz, .int ((g_Mg_lends v_sz v_at v_wr v_n f_sa f_ru).2.1), .int ((g_Mg_lends v_sz v_at v_wr v_n f_sa f_ru).2.2.1), .ref a_ru, .ref a_me, .ref a_le, .int v_n, .ref a_cl, .ref a_te, .ref a_ki, .ref a_ty, .ref a_bl, .ref a_ex, .ref a_lo, .int v_nl, .ref a_ho, .ref a_fi, .int v_nf, .ref a_cz, .int v_nc])), (a_sa, .inl (k_sa, 120, .inl f_sa)), (a_ru, .inl (k_ru, 410, .inl ((g_Mg_lends v_sz v_at v_wr v_n f_sa f_ru).2.2.2)))] t.heap ∧ va_K (dC, dI) vwCl [(k_sa, .byte), (k_ru, .int)] t ∧ va_D (va_A [(a_m, .inr (5, [.int v_th, .ref a_sa, .int v_sz, .int v_at, .int v_wr, .ref a_ru, .ref a_me, .ref a_le, .int v_n, .ref a_cl, .ref a_te, .ref a_ki, .ref a_ty, .ref a_bl, .ref a_ex, .ref a_lo, .int v_nl, .ref a_ho, .ref a_fi, .int v_nf, .ref a_cz, .int v_nc])), (a_sa, .inl (k_sa, 120, .inl f_sa)), (a_ru, .inl (k_ru, 410, .inl f_ru))] sz) [(a_m, .inr (5, [.int v_th, .ref a_sa, .int v_sz, .int ((g_Mg_lends v_sz v_at v_wr v_n f_sa f_ru).2.1), .int ((g_Mg_lends v_sz v_at v_wr v_n f_sa f_ru).2.2.1), .ref a_ru, .ref a_me, .ref a_le, .int v_n, .ref a_cl, .ref a_te, .ref a_ki, .ref a_ty, .ref a_bl, .ref a_ex, .ref a_lo, .int v_nl, .ref a_ho, .ref a_fi, .int v_nf, .ref a_cz, .int v_nc])), (a_sa, .inl (k_sa, 120, .inl f_sa)), (a_ru, .inl (k_ru, 410, .inl ((g_Mg_lends v_sz v_at v_wr v_n f_sa f_ru).2.2.2)))]) (va_A [(a_m, .inr (5, [.int v_th, .ref a_sa, .int v_sz, .int v_at, .int v_wr, .ref a_ru, .ref a_me, .ref a_le, .int v_n, .ref a_cl, .ref a_te, .ref a_ki, .ref a_ty, .ref a_bl, .ref a_ex, .ref a_lo, .int v_nl, .ref a_ho, .ref a_fi, .int v_nf, .ref a_cz, .int v_nc])), (a_sa, .inl (k_sa, 120, .inl f_sa)), (a_ru, .inl (k_ru, 410, .inl f_ru))] sz)) 0 0 (va_A [(a_m, .inr (5, [.int v_th, .ref a_sa, .int v_sz, .int v_at, .int v_wr, .ref a_ru, .ref a_me, .ref a_le, .int v_n, .ref a_cl, .ref a_te, .ref a_ki, .ref a_ty, .ref a_bl, .ref a_ex, .ref a_lo, .int v_nl, .ref a_ho, .ref a_fi, .int v_nf, .ref a_cz, .int v_nc])), (a_sa, .inl (k_sa, 120, .inl f_sa)), (a_ru, .inl (k_ru, 410, .inl f_ru))] sz) := by
  refine Met.ofW (cc := c_M_lends) (maxL := 1) (ret := (some .boolean)) (by decide) rfl ?_
  intro p e s m args below meth c s₁ B hml hv
  obtain ⟨rfl, hsz, hZ, hP, hK, hD0⟩ := hv
  have hx := B.exec
  have hb := B.bytes
  have hr := B.returns
  have hts0 := atoms_spec (ws := ws_M_lends) B.pre
  have hts : ∀ w ∈ TT, w.before _ s = true := fun w h => hts0 w (List.mem_cons_of_mem _ h)
  have hown : s.vm.findClass "LoanRulesModel" = some m.cls := findClass_of_methodNamed B.named
  have hlocks := B.notSynchronized
  subst hsz
  have hD := hD0.self (sz := s.heap.size)
  generalize hAe : va_A [(a_m, .inr (5, [.int v_th, .ref a_sa, .int v_sz, .int v_at, .int v_wr, .ref a_ru, .ref a_me, .ref a_le, .int v_n, .ref a_cl, .ref a_te, .ref a_ki, .ref a_ty, .ref a_bl, .ref a_ex, .ref a_lo, .int v_nl, .ref a_ho, .ref a_fi, .int v_nf, .ref a_cz, .int v_nc])), (a_sa, .inl (k_sa, 120, .inl f_sa)), (a_ru, .inl (k_ru, 410, .inl f_ru))] s.heap.size = A at hD hZ ⊢
  have hA : ∀ q : Nat, s.heap.size ≤ q → A q := fun q h => by rw [← hAe]; exact Or.inr h
  clear hAe hD0
  have hS : va_S A s.heap s.heap [] := va_S.rf
  replace hP : va_P (dC, dI) vwCl [(a_m, .inr (5, [.int v_th, .ref a_sa, .int v_sz, .int v_at, .int v_wr, .ref a_ru, .ref a_me, .ref a_le, .int v_n, .ref a_cl, .ref a_te, .ref a_ki, .ref a_ty, .ref a_bl, .ref a_ex, .ref a_lo, .int v_nl, .ref a_ho, .ref a_fi, .int v_nf, .ref a_cz, .int v_nc])), (a_sa, .inl (k_sa, 120, .inl f_sa)), (a_ru, .inl (k_ru, 410, .inl f_ru))] s.heap := hP
  have hl := lv_entry ([.ref a_m]) (n := 1) (Nat.le_of_ble_eq_true rfl)
  rw [lg_entry_eq]
  generalize (lg_sl ([.ref a_m]) ++ List.replicate (1 - (lg_sl ([.ref a_m])).length) Slot.unset).toArray = ls at hl ⊢
  replace hl : lv_has ls 1 [(0, .ref a_m)] := hl
  obtain ⟨z, hz⟩ : ∃ z, z = g_Mg_lends v_sz v_at v_wr v_n f_sa f_ru := ⟨_, rfl⟩
  have hE := hz
  rw [g_Mg_lends] at hE
  refine lv_aload_n hx hb d_M_lends_0 rfl (lv_at hl 0 rfl) ?_
  refine lv_aload_n hx hb d_M_lends_1 rfl (lv_at hl 0 rfl) ?_
  refine va_get (D := (dC, dI)) (ci := 5) (v := .int v_at) (C := "LoanRulesModel") (T := Fz_M) (N := 22) hx hb hts it_M hown hK hP 0 rfl rfl 3 (by decide) (hts _ tw_604) (fun _ h9 => h9) rfl d_M_lends_2 ?_
  have hPc := hP.sub (ws' := [(a_m, .inr (5, [.int v_th, .ref a_sa, .int v_sz, .int v_at, .int v_wr, .ref a_ru, .ref a_me, .ref a_le, .int v_n, .ref a_cl, .ref a_te, .ref a_ki, .ref a_ty, .ref a_bl, .ref a_ex, .ref a_lo, .int v_nl, .ref a_ho, .ref a_fi, .int v_nf, .ref a_cz, .int v_nc])), (a_sa, .inl (k_sa, 120, .inl f_sa))]) [0, 1] rfl
  have hKc := hK.sub (tys' := [(k_sa, .byte)]) [0] rfl
  refine vp_callSi (va_Run.run (va_runV (As := [.int v_at]) (rest := []) ⟨hx, hb, hml, hown, hts⟩ (c_Mg_look l dC dI adK adV (a_m := a_m) (p0 := v_at) (v_th := v_th) (a_sa := a_sa) (v_sz := v_sz) (v_at := v_at) (v_wr := v_wr) (a_ru := a_ru) (a_me := a_me) (a_le := a_le) (v_n := v_n) (a_cl := a_cl) (a_te := a_te) (a_ki := a_ki) (a_ty := a_ty) (a_bl := a_bl) (a_ex := a_ex) (a_lo := a_lo) (v_nl := v_nl) (a_ho := a_ho) (a_fi := a_fi) (v_nf := v_nf) (a_cz := a_cz) (v_nc := v_nc) (k_sa := k_sa) (f_sa := f_sa) hat.1 hsz) (cwV 1 hts (gV tw_684 tw_686 tw_27 tw_46 tw_687) rfl rfl rfl (by decide +kernel) ⟨(Nat.le_of_ble_eq_true rfl), (Nat.le_of_ble_eq_true rfl)⟩) ⟨fun a U g mk q => by obtain ⟨q0, qZ, qP, qK⟩ := q; exact ⟨q0, zz_call qZ, qP, va_K.moved (u := U) (U := U.calling g mk a) (Vm.Alike.refl U.vm) qK⟩, va_recv hKc hPc (ci := 5) (q0 := 0) rfl rfl, fun U hU hW => ⟨rfl, zz_ro hS hU hW hZ, by rw [hU]; exact hPc, va_K.moved hW.alike hKc⟩⟩ rfl rfl hl.1 rfl (lv_room (Nat.le_of_ble_eq_true rfl)) d_M_lends_5 ⟨(Nat.le_of_ble_eq_true rfl), (Nat.le_of_ble_eq_true rfl)⟩)) (fun r_1 hw_2 => ?_)
  clear hPc hKc
  subst hw_2
  refine lv_bipush (v := 32) hx hb d_M_lends_8 (by decide) ?_
  refine lv_icmp_ne (tgt := 80) hx hb d_M_lends_10 (by decide) (fun c_3 => ?_) (fun c_3 => ?_)
  · rw [if_neg c_3] at hE
    refine lv_aload_n hx hb d_M_lends_80 rfl (lv_at hl 0 rfl) ?_
    refine lv_iconst (v := 4) hx hb d_M_lends_81 (by decide) ?_
    refine lv_iconst (v := 3) hx hb d_M_lends_82 (by decide) ?_
    refine lv_sipush (v := 999) hx hb d_M_lends_83 (by decide) ?_
    have hPc := hP.sub (ws' := [(a_m, .inr (5, [.int v_th, .ref a_sa, .int v_sz, .int v_at, .int v_wr, .ref a_ru, .ref a_me, .ref a_le, .int v_n, .ref a_cl, .ref a_te, .ref a_ki, .ref a_ty, .ref a_bl, .ref a_ex, .ref a_lo, .int v_nl, .ref a_ho, .ref a_fi, .int v_nf, .ref a_cz, .int v_nc])), (a_sa, .inl (k_sa, 120, .inl f_sa)), (a_ru, .inl (k_ru, 410, .inl f_ru))]) [0, 1, 2] rfl
    have hKc := hK.sub (tys' := [(k_sa, .byte), (k_ru, .int)]) [0, 1] rfl
    have hDc := hD.sub (ws' := [(a_m, .inr (5, [.int v_th, .ref a_sa, .int v_sz, .int v_at, .int v_wr, .ref a_ru, .ref a_me, .ref a_le, .int v_n, .ref a_cl, .ref a_te, .ref a_ki, .ref a_ty, .ref a_bl, .ref a_ex, .ref a_lo, .int v_nl, .ref a_ho, .ref a_fi, .int v_nf, .ref a_cz, .int v_nc])), (a_sa, .inl (k_sa, 120, .inl f_sa)), (a_ru, .inl (k_ru, 410, .inl f_ru))]) [0, 1, 2] (by decide) rfl
    have hFc := va_free (wc := [(a_m, .inr (5, [.int v_th, .ref a_sa, .int v_sz, .int v_at, .int v_wr, .ref a_ru, .ref a_me, .ref a_le, .int v_n, .ref a_cl, .ref a_te, .ref a_ki, .ref a_ty, .ref a_bl, .ref a_ex, .ref a_lo, .int v_nl, .ref a_ho, .ref a_fi, .int v_nf, .ref a_cz, .int v_nc])), (a_sa, .inl (k_sa, 120, .inl f_sa)), (a_ru, .inl (k_ru, 410, .inl f_ru))]) hD hS hA [0, 1, 2] rfl
    refine va_calli (va_runV (As := [.int 4, .int 3, .int 999]) (rest := []) ⟨hx, hb, hml, hown, hts⟩ (c_Mg_number l dC dI adK adV (a_m := a_m) (p0 := 4) (p1 := 3) (p2 := 999) (v_th := v_th) (a_sa := a_sa) (v_sz := v_sz) (v_at := v_at) (v_wr := v_wr) (a_ru := a_ru) (a_me := a_me) (a_le := a_le) (v_n := v_n) (a_cl := a_cl) (a_te := a_te) (a_ki := a_ki) (a_ty := a_ty) (a_bl := a_bl) (a_ex := a_ex) (a_lo := a_lo) (v_nl := v_nl) (a_ho := a_ho) (a_fi := a_fi) (v_nf := v_nf) (a_cz := a_cz) (v_nc := v_nc) (k_sa := k_sa) (f_sa := f_sa) (k_ru := k_ru) (f_ru := f_ru) (sz := s.heap.size) (by decide) hsz hat hn) (cwV 3 hts (gV tw_720 tw_722 tw_32 tw_46 tw_723) rfl rfl rfl (by decide +kernel) ⟨(Nat.le_of_ble_eq_true rfl), (Nat.le_of_ble_eq_true rfl)⟩) ⟨fun a U g mk q => by obtain ⟨q0, q1, qZ, qP, qK, qD⟩ := q; exact ⟨q0, q1, zz_call qZ, qP, va_K.moved (u := U) (U := U.calling g mk a) (Vm.Alike.refl U.vm) qK, qD⟩, va_recv hKc hPc (ci := 5) (q0 := 0) rfl rfl, fun U hU hW => ⟨rfl, by rw [hU], zz_rw hS hFc hU hW hZ, by rw [hU]; exact hPc, va_K.moved hW.alike hKc, hDc.weaken (fun _ _ _ _ => trivial)⟩⟩ rfl rfl hl.1 rfl (lv_room (Nat.le_of_ble_eq_true rfl)) d_M_lends_86 ⟨(Nat.le_of_ble_eq_true rfl), (Nat.le_of_ble_eq_true rfl)⟩) hS (fun q _ h => hFc q h) hFc (fun r_4 u t H1 locs ht hvm hw_5 hB hz1 hk1 hS => ?_)
    generalize hg_x_6 : g_Mg_number 4 3 999 v_sz v_at v_wr v_n f_sa f_ru = x_6 at hw_5 hB hE
    rw [bv_eq] at hE
    obtain ⟨hP1, hK1, hD1⟩ := hB
    rw [ht] at hP1
    have hK1 := va_K.moved hvm.symm hK1
    obtain rfl : r_4 = x_6.1 := hw_5
    obtain ⟨hP, hD⟩ := va_join (wr := []) (w1 := [(a_m, .inr (5, [.int v_th, .ref a_sa, .int v_sz, .int x_6.2.1, .int x_6.2.2.1, .ref a_ru, .ref a_me, .ref a_le, .int v_n, .ref a_cl, .ref a_te, .ref a_ki, .ref a_ty, .ref a_bl, .ref a_ex, .ref a_lo, .int v_nl, .ref a_ho, .ref a_fi, .int v_nf, .ref a_cz, .int v_nc])), (a_sa, .inl (k_sa, 120, .inl f_sa)), (a_ru, .inl (k_ru, 410, .inl x_6.2.2.2))]) hP hD [0, 1, 2] [] rfl rfl (by decide) (by decide) hk1 hFc hP1 hD1
    replace hK := (hK.sub (tys' := []) [] rfl).app hK1
    generalize H1 = H at hP hS ⊢
    replace hP := hP.sub (ws' := [(a_m, .inr (5, [.int v_th, .ref a_sa, .int v_sz, .int x_6.2.1, .int x_6.2.2.1, .ref a_ru, .ref a_me, .ref a_le, .int v_n, .ref a_cl, .ref a_te, .ref a_ki, .ref a_ty, .ref a_bl, .ref a_ex, .ref a_lo, .int v_nl, .ref a_ho, .ref a_fi, .int v_nf, .ref a_cz, .int v_nc])), (a_sa, .inl (k_sa, 120, .inl f_sa)), (a_ru, .inl (k_ru, 410, .inl x_6.2.2.2))]) [0, 1, 2] rfl
    replace hD := hD.sub (ws' := [(a_m, .inr (5, [.int v_th, .ref a_sa, .int v_sz, .int x_6.2.1, .int x_6.2.2.1, .ref a_ru, .ref a_me, .ref a_le, .int v_n, .ref a_cl, .ref a_te, .ref a_ki, .ref a_ty, .ref a_bl, .ref a_ex, .ref a_lo, .int v_nl, .ref a_ho, .ref a_fi, .int v_nf, .ref a_cz, .int v_nc])), (a_sa, .inl (k_sa, 120, .inl f_sa)), (a_ru, .inl (k_ru, 410, .inl x_6.2.2.2))]) [0, 1, 2] (by decide) rfl
    replace hK := hK.sub (tys' := [(k_sa, .byte), (k_ru, .int)]) [0, 1] rfl
    have hP9 := hP.sub (ws' := [(a_m, .inr (5, [.int v_th, .ref a_sa, .int v_sz, .int x_6.2.1, .int x_6.2.2.1, .ref a_ru, .ref a_me, .ref a_le, .int v_n, .ref a_cl, .ref a_te, .ref a_ki, .ref a_ty, .ref a_bl, .ref a_ex, .ref a_lo, .int v_nl, .ref a_ho, .ref a_fi, .int v_nf, .ref a_cz, .int v_nc])), (a_sa, .inl (k_sa, 120, .inl f_sa)), (a_ru, .inl (k_ru, 410, .inl x_6.2.2.2))]) [0, 1, 2] rfl
    have hD9 := hD.sub (ws' := [(a_m, .inr (5, [.int v_th, .ref a_sa, .int v_sz, .int x_6.2.1, .int x_6.2.2.1, .ref a_ru, .ref a_me, .ref a_le, .int v_n, .ref a_cl, .ref a_te, .ref a_ki, .ref a_ty, .ref a_bl, .ref a_ex, .ref a_lo, .int v_nl, .ref a_ho, .ref a_fi, .int v_nf, .ref a_cz, .int v_nc])), (a_sa, .inl (k_sa, 120, .inl f_sa)), (a_ru, .inl (k_ru, 410, .inl x_6.2.2.2))]) [0, 1, 2] (by decide) rfl
    have hK9 := hK.sub (tys' := [(k_sa, .byte), (k_ru, .int)]) [0, 1] rfl
    exact W.zret (v := x_6.1) hx hb hr (by rw [← hg_x_6]; exact nzI nz_Mg_number) (fun t ht hW => ⟨⟨x_6.1, (), rfl, by rw [← hz, hE], by rw [ht, ← hz, hE]; exact hP9, va_K.moved hW.alike hK9, by rw [← hz, hE]; exact hD9⟩, hS.F ht⟩) hS.2.2 d_M_lends_89
  · rw [if_pos c_3] at hE
    refine lv_aload_n hx hb d_M_lends_13 rfl (lv_at hl 0 rfl) ?_
    refine lv_aload_n hx hb d_M_lends_14 rfl (lv_at hl 0 rfl) ?_
    refine va_get (D := (dC, dI)) (ci := 5) (v := .int v_at) (C := "LoanRulesModel") (T := Fz_M) (N := 22) hx hb hts it_M hown hK hP 0 rfl rfl 3 (by decide) (hts _ tw_604) (fun _ h9 => h9) rfl d_M_lends_15 ?_
    refine lv_iconst (v := 1) hx hb d_M_lends_18 (by decide) ?_
    refine lv_iadd hx hb d_M_lends_19 ?_
    have hPc := hP.sub (ws' := [(a_m, .inr (5, [.int v_th, .ref a_sa, .int v_sz, .int v_at, .int v_wr, .ref a_ru, .ref a_me, .ref a_le, .int v_n, .ref a_cl, .ref a_te, .ref a_ki, .ref a_ty, .ref a_bl, .ref a_ex, .ref a_lo, .int v_nl, .ref a_ho, .ref a_fi, .int v_nf, .ref a_cz, .int v_nc])), (a_sa, .inl (k_sa, 120, .inl f_sa))]) [0, 1] rfl
    have hKc := hK.sub (tys' := [(k_sa, .byte)]) [0] rfl
    refine vp_callSi (va_Run.run (va_runV (As := [.int (v_at + 1)]) (rest := []) ⟨hx, hb, hml, hown, hts⟩ (c_Mg_look l dC dI adK adV (a_m := a_m) (p0 := v_at + 1) (v_th := v_th) (a_sa := a_sa) (v_sz := v_sz) (v_at := v_at) (v_wr := v_wr) (a_ru := a_ru) (a_me := a_me) (a_le := a_le) (v_n := v_n) (a_cl := a_cl) (a_te := a_te) (a_ki := a_ki) (a_ty := a_ty) (a_bl := a_bl) (a_ex := a_ex) (a_lo := a_lo) (v_nl := v_nl) (a_ho := a_ho) (a_fi := a_fi) (v_nf := v_nf) (a_cz := a_cz) (v_nc := v_nc) (k_sa := k_sa) (f_sa := f_sa) (li_nn hat) hsz) (cwV 1 hts (gV tw_684 tw_686 tw_27 tw_46 tw_687) rfl rfl rfl (by decide +kernel) ⟨(Nat.le_of_ble_eq_true rfl), (Nat.le_of_ble_eq_true rfl)⟩) ⟨fun a U g mk q => by obtain ⟨q0, qZ, qP, qK⟩ := q; exact ⟨q0, zz_call qZ, qP, va_K.moved (u := U) (U := U.calling g mk a) (Vm.Alike.refl U.vm) qK⟩, va_recv hKc hPc (ci := 5) (q0 := 0) rfl rfl, fun U hU hW => ⟨rfl, zz_ro hS hU hW hZ, by rw [hU]; exact hPc, va_K.moved hW.alike hKc⟩⟩ rfl rfl hl.1 rfl (lv_room (Nat.le_of_ble_eq_true rfl)) d_M_lends_20 ⟨(Nat.le_of_ble_eq_true rfl), (Nat.le_of_ble_eq_true rfl)⟩)) (fun r_7 hw_8 => ?_)
    clear hPc hKc
    subst hw_8
    have hPc := hP.sub (ws' := []) [] rfl
    have hKc := hK.sub (tys' := []) [] rfl
    refine vp_callSi (va_Run.run (va_runS (As := [.int (g_Mg_look (v_at + 1) v_sz f_sa)]) (rest := []) ⟨hx, hb, hml, hown, hts⟩ (c_Mg_isDigit l dC dI adK adV (p0 := g_Mg_look (v_at + 1) v_sz f_sa)) (va_cwS 1 hts (gS tw_724 tw_725 tw_46 tw_726) rfl rfl rfl (by decide +kernel) ⟨(Nat.le_of_ble_eq_true rfl), (Nat.le_of_ble_eq_true rfl)⟩) ⟨fun a U g mk q => by obtain ⟨q0, qZ, qP, qK⟩ := q; exact ⟨q0, zz_call qZ, qP, va_K.moved (u := U) (U := U.calling g mk a) (Vm.Alike.refl U.vm) qK⟩, fun U hU hW => ⟨rfl, zz_ro hS hU hW hZ, by rw [hU]; exact hPc, va_K.moved hW.alike hKc⟩⟩ rfl rfl hl.1 rfl (lv_room (Nat.le_of_ble_eq_true rfl)) d_M_lends_23 ⟨(Nat.le_of_ble_eq_true rfl), (Nat.le_of_ble_eq_true rfl)⟩)) (fun r_9 hw_10 => ?_)
    clear hPc hKc
    subst hw_10
    refine lv_if_ne (tgt := 80) hx hb d_M_lends_26 (by decide) (fun c_11 => ?_) (fun c_11 => ?_)
    · rw [if_neg c_11] at hE
      refine lv_aload_n hx hb d_M_lends_80 rfl (lv_at hl 0 rfl) ?_
      refine lv_iconst (v := 4) hx hb d_M_lends_81 (by decide) ?_
      refine lv_iconst (v := 3) hx hb d_M_lends_82 (by decide) ?_
      refine lv_sipush (v := 999) hx hb d_M_lends_83 (by decide) ?_
      have hPc := hP.sub (ws' := [(a_m, .inr (5, [.int v_th, .ref a_sa, .int v_sz, .int v_at, .int v_wr, .ref a_ru, .ref a_me, .ref a_le, .int v_n, .ref a_cl, .ref a_te, .ref a_ki, .ref a_ty, .ref a_bl, .ref a_ex, .ref a_lo, .int v_nl, .ref a_ho, .ref a_fi, .int v_nf, .ref a_cz, .int v_nc])), (a_sa, .inl (k_sa, 120, .inl f_sa)), (a_ru, .inl (k_ru, 410, .inl f_ru))]) [0, 1, 2] rfl
      have hKc := hK.sub (tys' := [(k_sa, .byte), (k_ru, .int)]) [0, 1] rfl
      have hDc := hD.sub (ws' := [(a_m, .inr (5, [.int v_th, .ref a_sa, .int v_sz, .int v_at, .int v_wr, .ref a_ru, .ref a_me, .ref a_le, .int v_n, .ref a_cl, .ref a_te, .ref a_ki, .ref a_ty, .ref a_bl, .ref a_ex, .ref a_lo, .int v_nl, .ref a_ho, .ref a_fi, .int v_nf, .ref a_cz, .int v_nc])), (a_sa, .inl (k_sa, 120, .inl f_sa)), (a_ru, .inl (k_ru, 410, .inl f_ru))]) [0, 1, 2] (by decide) rfl
      have hFc := va_free (wc := [(a_m, .inr (5, [.int v_th, .ref a_sa, .int v_sz, .int v_at, .int v_wr, .ref a_ru, .ref a_me, .ref a_le, .int v_n, .ref a_cl, .ref a_te, .ref a_ki, .ref a_ty, .ref a_bl, .ref a_ex, .ref a_lo, .int v_nl, .ref a_ho, .ref a_fi, .int v_nf, .ref a_cz, .int v_nc])), (a_sa, .inl (k_sa, 120, .inl f_sa)), (a_ru, .inl (k_ru, 410, .inl f_ru))]) hD hS hA [0, 1, 2] rfl
      refine va_calli (va_runV (As := [.int 4, .int 3, .int 999]) (rest := []) ⟨hx, hb, hml, hown, hts⟩ (c_Mg_number l dC dI adK adV (a_m := a_m) (p0 := 4) (p1 := 3) (p2 := 999) (v_th := v_th) (a_sa := a_sa) (v_sz := v_sz) (v_at := v_at) (v_wr := v_wr) (a_ru := a_ru) (a_me := a_me) (a_le := a_le) (v_n := v_n) (a_cl := a_cl) (a_te := a_te) (a_ki := a_ki) (a_ty := a_ty) (a_bl := a_bl) (a_ex := a_ex) (a_lo := a_lo) (v_nl := v_nl) (a_ho := a_ho) (a_fi := a_fi) (v_nf := v_nf) (a_cz := a_cz) (v_nc := v_nc) (k_sa := k_sa) (f_sa := f_sa) (k_ru := k_ru) (f_ru := f_ru) (sz := s.heap.size) (by decide) hsz hat hn) (cwV 3 hts (gV tw_720 tw_722 tw_32 tw_46 tw_723) rfl rfl rfl (by decide +kernel) ⟨(Nat.le_of_ble_eq_true rfl), (Nat.le_of_ble_eq_true rfl)⟩) ⟨fun a U g mk q => by obtain ⟨q0, q1, qZ, qP, qK, qD⟩ := q; exact ⟨q0, q1, zz_call qZ, qP, va_K.moved (u := U) (U := U.calling g mk a) (Vm.Alike.refl U.vm) qK, qD⟩, va_recv hKc hPc (ci := 5) (q0 := 0) rfl rfl, fun U hU hW => ⟨rfl, by rw [hU], zz_rw hS hFc hU hW hZ, by rw [hU]; exact hPc, va_K.moved hW.alike hKc, hDc.weaken (fun _ _ _ _ => trivial)⟩⟩ rfl rfl hl.1 rfl (lv_room (Nat.le_of_ble_eq_true rfl)) d_M_lends_86 ⟨(Nat.le_of_ble_eq_true rfl), (Nat.le_of_ble_eq_true rfl)⟩) hS (fun q _ h => hFc q h) hFc (fun r_12 u t H1 locs ht hvm hw_13 hB hz1 hk1 hS => ?_)
      generalize hg_x_14 : g_Mg_number 4 3 999 v_sz v_at v_wr v_n f_sa f_ru = x_14 at hw_13 hB hE
      rw [bv_eq] at hE
      obtain ⟨hP1, hK1, hD1⟩ := hB
      rw [ht] at hP1
      have hK1 := va_K.moved hvm.symm hK1
      obtain rfl : r_12 = x_14.1 := hw_13
      obtain ⟨hP, hD⟩ := va_join (wr := []) (w1 := [(a_m, .inr (5, [.int v_th, .ref a_sa, .int v_sz, .int x_14.2.1, .int x_14.2.2.1, .ref a_ru, .ref a_me, .ref a_le, .int v_n, .ref a_cl, .ref a_te, .ref a_ki, .ref a_ty, .ref a_bl, .ref a_ex, .ref a_lo, .int v_nl, .ref a_ho, .ref a_fi, .int v_nf, .ref a_cz, .int v_nc])), (a_sa, .inl (k_sa, 120, .inl f_sa)), (a_ru, .inl (k_ru, 410, .inl x_14.2.2.2))]) hP hD [0, 1, 2] [] rfl rfl (by decide) (by decide) hk1 hFc hP1 hD1
      replace hK := (hK.sub (tys' := []) [] rfl).app hK1
      generalize H1 = H at hP hS ⊢
      replace hP := hP.sub (ws' := [(a_m, .inr (5, [.int v_th, .ref a_sa, .int v_sz, .int x_14.2.1, .int x_14.2.2.1, .ref a_ru, .ref a_me, .ref a_le, .int v_n, .ref a_cl, .ref a_te, .ref a_ki, .ref a_ty, .ref a_bl, .ref a_ex, .ref a_lo, .int v_nl, .ref a_ho, .ref a_fi, .int v_nf, .ref a_cz, .int v_nc])), (a_sa, .inl (k_sa, 120, .inl f_sa)), (a_ru, .inl (k_ru, 410, .inl x_14.2.2.2))]) [0, 1, 2] rfl
      replace hD := hD.sub (ws' := [(a_m, .inr (5, [.int v_th, .ref a_sa, .int v_sz, .int x_14.2.1, .int x_14.2.2.1, .ref a_ru, .ref a_me, .ref a_le, .int v_n, .ref a_cl, .ref a_te, .ref a_ki, .ref a_ty, .ref a_bl, .ref a_ex, .ref a_lo, .int v_nl, .ref a_ho, .ref a_fi, .int v_nf, .ref a_cz, .int v_nc])), (a_sa, .inl (k_sa, 120, .inl f_sa)), (a_ru, .inl (k_ru, 410, .inl x_14.2.2.2))]) [0, 1, 2] (by decide) rfl
      replace hK := hK.sub (tys' := [(k_sa, .byte), (k_ru, .int)]) [0, 1] rfl
      have hP9 := hP.sub (ws' := [(a_m, .inr (5, [.int v_th, .ref a_sa, .int v_sz, .int x_14.2.1, .int x_14.2.2.1, .ref a_ru, .ref a_me, .ref a_le, .int v_n, .ref a_cl, .ref a_te, .ref a_ki, .ref a_ty, .ref a_bl, .ref a_ex, .ref a_lo, .int v_nl, .ref a_ho, .ref a_fi, .int v_nf, .ref a_cz, .int v_nc])), (a_sa, .inl (k_sa, 120, .inl f_sa)), (a_ru, .inl (k_ru, 410, .inl x_14.2.2.2))]) [0, 1, 2] rfl
      have hD9 := hD.sub (ws' := [(a_m, .inr (5, [.int v_th, .ref a_sa, .int v_sz, .int x_14.2.1, .int x_14.2.2.1, .ref a_ru, .ref a_me, .ref a_le, .int v_n, .ref a_cl, .ref a_te, .ref a_ki, .ref a_ty, .ref a_bl, .ref a_ex, .ref a_lo, .int v_nl, .ref a_ho, .ref a_fi, .int v_nf, .ref a_cz, .int v_nc])), (a_sa, .inl (k_sa, 120, .inl f_sa)), (a_ru, .inl (k_ru, 410, .inl x_14.2.2.2))]) [0, 1, 2] (by decide) rfl
      have hK9 := hK.sub (tys' := [(k_sa, .byte), (k_ru, .int)]) [0, 1] rfl
      exact W.zret (v := x_14.1) hx hb hr (by rw [← hg_x_14]; exact nzI nz_Mg_number) (fun t ht hW => ⟨⟨x_14.1, (), rfl, by rw [← hz, hE], by rw [ht, ← hz, hE]; exact hP9, va_K.moved hW.alike hK9, by rw [← hz, hE]; exact hD9⟩, hS.F ht⟩) hS.2.2 d_M_lends_89
    · rw [if_pos c_11] at hE
      refine lv_aload_n hx hb d_M_lends_29 rfl (lv_at hl 0 rfl) ?_
      refine lv_dup hx hb d_M_lends_30 rfl ?_
      refine va_get (D := (dC, dI)) (ci := 5) (v := .int v_at) (C := "LoanRulesModel") (T := Fz_M) (N := 22) hx hb hts it_M hown hK hP 0 rfl rfl 3 (by decide) (hts _ tw_604) (fun _ h9 => h9) rfl d_M_lends_31 ?_
      refine lv_iconst (v := 1) hx hb d_M_lends_34 (by decide) ?_
      refine lv_iadd hx hb d_M_lends_35 ?_
      refine va_put (D := (dC, dI)) (ci := 5) (v := .int (v_at + 1)) (ty := .int) (C := "LoanRulesModel") (T := Fz_M) (N := 22) hx hb hts it_M tz_M tz_M_ok nz_M hown hK hP hD hS 0 rfl rfl 3 (by decide) (hts _ tw_604) (fun _ h9 => h9) rfl (by decide +kernel) rfl rfl (Nat.le_of_ble_eq_true rfl) d_M_lends_36 (fun H locs hP hD hS => ?_)
      replace hP : va_P (dC, dI) vwCl [(a_m, .inr (5, [.int v_th, .ref a_sa, .int v_sz, .int (v_at + 1), .int v_wr, .ref a_ru, .ref a_me, .ref a_le, .int v_n, .ref a_cl, .ref a_te, .ref a_ki, .ref a_ty, .ref a_bl, .ref a_ex, .ref a_lo, .int v_nl, .ref a_ho, .ref a_fi, .int v_nf, .ref a_cz, .int v_nc])), (a_sa, .inl (k_sa, 120, .inl f_sa)), (a_ru, .inl (k_ru, 410, .inl f_ru))] H := hP
      replace hD : va_D A [(a_m, .inr (5, [.int v_th, .ref a_sa, .int v_sz, .int (v_at + 1), .int v_wr, .ref a_ru, .ref a_me, .ref a_le, .int v_n, .ref a_cl, .ref a_te, .ref a_ki, .ref a_ty, .ref a_bl, .ref a_ex, .ref a_lo, .int v_nl, .ref a_ho, .ref a_fi, .int v_nf, .ref a_cz, .int v_nc])), (a_sa, .inl (k_sa, 120, .inl f_sa)), (a_ru, .inl (k_ru, 410, .inl f_ru))] := hD
      refine lv_aload_n hx hb d_M_lends_39 rfl (lv_at hl 0 rfl) ?_
      have hPc := hP.sub (ws' := [(a_m, .inr (5, [.int v_th, .ref a_sa, .int v_sz, .int (v_at + 1), .int v_wr, .ref a_ru, .ref a_me, .ref a_le, .int v_n, .ref a_cl, .ref a_te, .ref a_ki, .ref a_ty, .ref a_bl, .ref a_ex, .ref a_lo, .int v_nl, .ref a_ho, .ref a_fi, .int v_nf, .ref a_cz, .int v_nc])), (a_sa, .inl (k_sa, 120, .inl f_sa))]) [0, 1] rfl
      have hKc := hK.sub (tys' := [(k_sa, .byte)]) [0] rfl
      refine vp_callSl (va_Run.run (va_runV (As := []) (rest := []) ⟨hx, hb, hml, hown, hts⟩ (c_Mg_word l dC dI adK adV (a_m := a_m) (v_th := v_th) (a_sa := a_sa) (v_sz := v_sz) (v_at := v_at + 1) (v_wr := v_wr) (a_ru := a_ru) (a_me := a_me) (a_le := a_le) (v_n := v_n) (a_cl := a_cl) (a_te := a_te) (a_ki := a_ki) (a_ty := a_ty) (a_bl := a_bl) (a_ex := a_ex) (a_lo := a_lo) (v_nl := v_nl) (a_ho := a_ho) (a_fi := a_fi) (v_nf := v_nf) (a_cz := a_cz) (v_nc := v_nc) (k_sa := k_sa) (f_sa := f_sa) hsz (li_k hat hsz (lk_look2 (by decide) c_3))) (cwV 0 hts (gV tw_692 tw_694 tw_29 tw_46 tw_695) rfl rfl rfl (by decide +kernel) ⟨(Nat.le_of_ble_eq_true rfl), (Nat.le_of_ble_eq_true rfl)⟩) ⟨fun a U g mk q => by obtain ⟨q0, qZ, qP, qK⟩ := q; exact ⟨q0, zz_call qZ, qP, va_K.moved (u := U) (U := U.calling g mk a) (Vm.Alike.refl U.vm) qK⟩, va_recv hKc hPc (ci := 5) (q0 := 0) rfl rfl, fun U hU hW => ⟨rfl, zz_ro hS hU hW hZ, by rw [hU]; exact hPc, va_K.moved hW.alike hKc⟩⟩ rfl rfl hl.1 rfl (lv_room (Nat.le_of_ble_eq_true rfl)) d_M_lends_40 ⟨(Nat.le_of_ble_eq_true rfl), (Nat.le_of_ble_eq_true rfl)⟩)) (fun r_15 hw_16 => ?_)
      clear hPc hKc
      subst hw_16
      refine lv_ldc2 (v := 661069) hx hb hown (hts _ tw_731) d_M_lends_43 ?_
      refine W.lcmp hx hb d_M_lends_46 ?_
      refine lv_if_eq (tgt := 59) hx hb d_M_lends_47 (by decide) (fun c_17 => ?_) (fun c_17 => ?_)
      · rw [if_pos c_17] at hE
        refine lv_aload_n hx hb d_M_lends_59 rfl (lv_at hl 0 rfl) ?_
        have hPc := hP.sub (ws' := [(a_m, .inr (5, [.int v_th, .ref a_sa, .int v_sz, .int (v_at + 1), .int v_wr, .ref a_ru, .ref a_me, .ref a_le, .int v_n, .ref a_cl, .ref a_te, .ref a_ki, .ref a_ty, .ref a_bl, .ref a_ex, .ref a_lo, .int v_nl, .ref a_ho, .ref a_fi, .int v_nf, .ref a_cz, .int v_nc])), (a_sa, .inl (k_sa, 120, .inl f_sa))]) [0, 1] rfl
        have hKc := hK.sub (tys' := [(k_sa, .byte)]) [0] rfl
        have hDc := hD.sub (ws' := [(a_m, .inr (5, [.int v_th, .ref a_sa, .int v_sz, .int (v_at + 1), .int v_wr, .ref a_ru, .ref a_me, .ref a_le, .int v_n, .ref a_cl, .ref a_te, .ref a_ki, .ref a_ty, .ref a_bl, .ref a_ex, .ref a_lo, .int v_nl, .ref a_ho, .ref a_fi, .int v_nf, .ref a_cz, .int v_nc])), (a_sa, .inl (k_sa, 120, .inl f_sa))]) [0, 1] (by decide) rfl
        have hFc := va_free (wc := [(a_m, .inr (5, [.int v_th, .ref a_sa, .int v_sz, .int (v_at + 1), .int v_wr, .ref a_ru, .ref a_me, .ref a_le, .int v_n, .ref a_cl, .ref a_te, .ref a_ki, .ref a_ty, .ref a_bl, .ref a_ex, .ref a_lo, .int v_nl, .ref a_ho, .ref a_fi, .int v_nf, .ref a_cz, .int v_nc])), (a_sa, .inl (k_sa, 120, .inl f_sa))]) hD hS hA [0, 1] rfl
        refine va_callv (va_runV (As := []) (rest := []) ⟨hx, hb, hml, hown, hts⟩ (c_Mg_pass l dC dI adK adV (a_m := a_m) (v_th := v_th) (a_sa := a_sa) (v_sz := v_sz) (v_at := v_at + 1) (v_wr := v_wr) (a_ru := a_ru) (a_me := a_me) (a_le := a_le) (v_n := v_n) (a_cl := a_cl) (a_te := a_te) (a_ki := a_ki) (a_ty := a_ty) (a_bl := a_bl) (a_ex := a_ex) (a_lo := a_lo) (v_nl := v_nl) (a_ho := a_ho) (a_fi := a_fi) (v_nf := v_nf) (a_cz := a_cz) (v_nc := v_nc) (k_sa := k_sa) (f_sa := f_sa) (sz := H.size) hsz (li_k hat hsz (lk_look2 (by decide) c_3))) (cwV 0 hts (gV tw_712 tw_714 tw_30 tw_46 tw_715) rfl rfl rfl (by decide +kernel) ⟨(Nat.le_of_ble_eq_true rfl), (Nat.le_of_ble_eq_true rfl)⟩) ⟨fun a U g mk q => by obtain ⟨q0, q1, qZ, qP, qK, qD⟩ := q; exact ⟨q0, q1, zz_call qZ, qP, va_K.moved (u := U) (U := U.calling g mk a) (Vm.Alike.refl U.vm) qK, qD⟩, va_recv hKc hPc (ci := 5) (q0 := 0) rfl rfl, fun U hU hW => ⟨rfl, by rw [hU], zz_rw hS hFc hU hW hZ, by rw [hU]; exact hPc, va_K.moved hW.alike hKc, hDc.weaken (fun _ _ _ _ => trivial)⟩⟩ rfl rfl hl.1 rfl (lv_room (Nat.le_of_ble_eq_true rfl)) d_M_lends_60 ⟨(Nat.le_of_ble_eq_true rfl), (Nat.le_of_ble_eq_true rfl)⟩) hS (fun q _ h => hFc q h) hFc (fun u t H1 locs ht hvm hw_18 hB hz1 hk1 hS => ?_)
        generalize hg_x_19 : g_Mg_pass v_sz (v_at + 1) f_sa = x_19 at hw_18 hB hE
        rw [bv_eq] at hE
        obtain ⟨hP1, hK1, hD1⟩ := hB
        rw [ht] at hP1
        have hK1 := va_K.moved hvm.symm hK1
        obtain ⟨hP, hD⟩ := va_join (wr := [(a_ru, .inl (k_ru, 410, .inl f_ru))]) (w1 := [(a_m, .inr (5, [.int v_th, .ref a_sa, .int v_sz, .int x_19, .int v_wr, .ref a_ru, .ref a_me, .ref a_le, .int v_n, .ref a_cl, .ref a_te, .ref a_ki, .ref a_ty, .ref a_bl, .ref a_ex, .ref a_lo, .int v_nl, .ref a_ho, .ref a_fi, .int v_nf, .ref a_cz, .int v_nc])), (a_sa, .inl (k_sa, 120, .inl f_sa))]) hP hD [0, 1] [2] rfl rfl (by decide) (by decide) hk1 hFc hP1 hD1
        replace hK := (hK.sub (tys' := [(k_ru, .int)]) [1] rfl).app hK1
        generalize H1 = H at hP hS ⊢
        replace hP := hP.sub (ws' := [(a_m, .inr (5, [.int v_th, .ref a_sa, .int v_sz, .int x_19, .int v_wr, .ref a_ru, .ref a_me, .ref a_le, .int v_n, .ref a_cl, .ref a_te, .ref a_ki, .ref a_ty, .ref a_bl, .ref a_ex, .ref a_lo, .int v_nl, .ref a_ho, .ref a_fi, .int v_nf, .ref a_cz, .int v_nc])), (a_sa, .inl (k_sa, 120, .inl f_sa)), (a_ru, .inl (k_ru, 410, .inl f_ru))]) [1, 2, 0] rfl
        replace hD := hD.sub (ws' := [(a_m, .inr (5, [.int v_th, .ref a_sa, .int v_sz, .int x_19, .int v_wr, .ref a_ru, .ref a_me, .ref a_le, .int v_n, .ref a_cl, .ref a_te, .ref a_ki, .ref a_ty, .ref a_bl, .ref a_ex, .ref a_lo, .int v_nl, .ref a_ho, .ref a_fi, .int v_nf, .ref a_cz, .int v_nc])), (a_sa, .inl (k_sa, 120, .inl f_sa)), (a_ru, .inl (k_ru, 410, .inl f_ru))]) [1, 2, 0] (by decide) rfl
        replace hK := hK.sub (tys' := [(k_sa, .byte), (k_ru, .int)]) [1, 0] rfl
        refine lv_aload_n hx hb d_M_lends_63 rfl (lv_at hl 0 rfl) ?_
        refine va_get (D := (dC, dI)) (ci := 5) (v := .ref a_ru) (C := "LoanRulesModel") (T := Fz_M) (N := 22) hx hb hts it_M hown hK hP 0 rfl rfl 5 (by decide) (hts _ tw_606) (fun _ h9 => h9) rfl d_M_lends_64 ?_
        refine lv_bipush (v := 10) hx hb d_M_lends_67 (by decide) ?_
        refine lv_aload_n hx hb d_M_lends_69 rfl (lv_at hl 0 rfl) ?_
        refine va_get (D := (dC, dI)) (ci := 5) (v := .int v_n) (C := "LoanRulesModel") (T := Fz_M) (N := 22) hx hb hts it_M hown hK hP 0 rfl rfl 8 (by decide) (hts _ tw_609) (fun _ h9 => h9) rfl d_M_lends_70 ?_
        refine lv_imul hx hb d_M_lends_73 ?_
        refine lv_iconst (v := 3) hx hb d_M_lends_74 (by decide) ?_
        refine lv_iadd hx hb d_M_lends_75 ?_
        refine lv_iconst (v := 1) hx hb d_M_lends_76 (by decide) ?_
        have i_20 : vp_in ((10 * v_n) + 3) 410 := ix10 hn (by decide)
        refine va_iast (D := (dC, dI)) hx hb hK hP hD hS 2 1 rfl rfl i_20 d_M_lends_77 (fun H locs hP hD hS => ?_)
        replace hP : va_P (dC, dI) vwCl [(a_m, .inr (5, [.int v_th, .ref a_sa, .int v_sz, .int x_19, .int v_wr, .ref a_ru, .ref a_me, .ref a_le, .int v_n, .ref a_cl, .ref a_te, .ref a_ki, .ref a_ty, .ref a_bl, .ref a_ex, .ref a_lo, .int v_nl, .ref a_ho, .ref a_fi, .int v_nf, .ref a_cz, .int v_nc])), (a_sa, .inl (k_sa, 120, .inl f_sa)), (a_ru, .inl (k_ru, 410, .inl (upd f_ru ((10 * v_n) + 3).toNatClampNeg 1)))] H := hP
        replace hD : va_D A [(a_m, .inr (5, [.int v_th, .ref a_sa, .int v_sz, .int x_19, .int v_wr, .ref a_ru, .ref a_me, .ref a_le, .int v_n, .ref a_cl, .ref a_te, .ref a_ki, .ref a_ty, .ref a_bl, .ref a_ex, .ref a_lo, .int v_nl, .ref a_ho, .ref a_fi, .int v_nf, .ref a_cz, .int v_nc])), (a_sa, .inl (k_sa, 120, .inl f_sa)), (a_ru, .inl (k_ru, 410, .inl (upd f_ru ((10 * v_n) + 3).toNatClampNeg 1)))] := hD
        refine lv_iconst (v := 1) hx hb d_M_lends_78 (by decide) ?_
        have hP9 := hP.sub (ws' := [(a_m, .inr (5, [.int v_th, .ref a_sa, .int v_sz, .int x_19, .int v_wr, .ref a_ru, .ref a_me, .ref a_le, .int v_n, .ref a_cl, .ref a_te, .ref a_ki, .ref a_ty, .ref a_bl, .ref a_ex, .ref a_lo, .int v_nl, .ref a_ho, .ref a_fi, .int v_nf, .ref a_cz, .int v_nc])), (a_sa, .inl (k_sa, 120, .inl f_sa)), (a_ru, .inl (k_ru, 410, .inl (upd f_ru ((10 * v_n) + 3).toNatClampNeg 1)))]) [0, 1, 2] rfl
        have hD9 := hD.sub (ws' := [(a_m, .inr (5, [.int v_th, .ref a_sa, .int v_sz, .int x_19, .int v_wr, .ref a_ru, .ref a_me, .ref a_le, .int v_n, .ref a_cl, .ref a_te, .ref a_ki, .ref a_ty, .ref a_bl, .ref a_ex, .ref a_lo, .int v_nl, .ref a_ho, .ref a_fi, .int v_nf, .ref a_cz, .int v_nc])), (a_sa, .inl (k_sa, 120, .inl f_sa)), (a_ru, .inl (k_ru, 410, .inl (upd f_ru ((10 * v_n) + 3).toNatClampNeg 1)))]) [0, 1, 2] (by decide) rfl
        have hK9 := hK.sub (tys' := [(k_sa, .byte), (k_ru, .int)]) [0, 1] rfl
        exact W.zret (v := 1) hx hb hr rfl (fun t ht hW => ⟨⟨1, (), rfl, by rw [← hz, hE], by rw [ht, ← hz, hE]; exact hP9, va_K.moved hW.alike hK9, by rw [← hz, hE]; exact hD9⟩, hS.F ht⟩) hS.2.2 d_M_lends_79
      · rw [if_neg c_17] at hE
        refine lv_aload_n hx hb d_M_lends_50 rfl (lv_at hl 0 rfl) ?_
        refine lv_aload_n hx hb d_M_lends_51 rfl (lv_at hl 0 rfl) ?_
        refine va_get (D := (dC, dI)) (ci := 5) (v := .int (v_at + 1)) (C := "LoanRulesModel") (T := Fz_M) (N := 22) hx hb hts it_M hown hK hP 0 rfl rfl 3 (by decide) (hts _ tw_604) (fun _ h9 => h9) rfl d_M_lends_52 ?_
        have hPc := hP.sub (ws' := [(a_m, .inr (5, [.int v_th, .ref a_sa, .int v_sz, .int (v_at + 1), .int v_wr, .ref a_ru, .ref a_me, .ref a_le, .int v_n, .ref a_cl, .ref a_te, .ref a_ki, .ref a_ty, .ref a_bl, .ref a_ex, .ref a_lo, .int v_nl, .ref a_ho, .ref a_fi, .int v_nf, .ref a_cz, .int v_nc]))]) [0] rfl
        have hKc := hK.sub (tys' := []) [] rfl
        have hDc := hD.sub (ws' := [(a_m, .inr (5, [.int v_th, .ref a_sa, .int v_sz, .int (v_at + 1), .int v_wr, .ref a_ru, .ref a_me, .ref a_le, .int v_n, .ref a_cl, .ref a_te, .ref a_ki, .ref a_ty, .ref a_bl, .ref a_ex, .ref a_lo, .int v_nl, .ref a_ho, .ref a_fi, .int v_nf, .ref a_cz, .int v_nc]))]) [0] (by decide) rfl
        have hFc := va_free (wc := [(a_m, .inr (5, [.int v_th, .ref a_sa, .int v_sz, .int (v_at + 1), .int v_wr, .ref a_ru, .ref a_me, .ref a_le, .int v_n, .ref a_cl, .ref a_te, .ref a_ki, .ref a_ty, .ref a_bl, .ref a_ex, .ref a_lo, .int v_nl, .ref a_ho, .ref a_fi, .int v_nf, .ref a_cz, .int v_nc]))]) hD hS hA [0] rfl
        refine va_calli (va_runV (As := [.int (v_at + 1)]) (rest := []) ⟨hx, hb, hml, hown, hts⟩ (c_Mg_bad l dC dI adK adV (a_m := a_m) (p0 := v_at + 1) (v_th := v_th) (a_sa := a_sa) (v_sz := v_sz) (v_at := v_at + 1) (v_wr := v_wr) (a_ru := a_ru) (a_me := a_me) (a_le := a_le) (v_n := v_n) (a_cl := a_cl) (a_te := a_te) (a_ki := a_ki) (a_ty := a_ty) (a_bl := a_bl) (a_ex := a_ex) (a_lo := a_lo) (v_nl := v_nl) (a_ho := a_ho) (a_fi := a_fi) (v_nf := v_nf) (a_cz := a_cz) (v_nc := v_nc) (sz := H.size)) (cwV 1 hts (gV tw_688 tw_690 tw_28 tw_46 tw_691) rfl rfl rfl (by decide +kernel) ⟨(Nat.le_of_ble_eq_true rfl), (Nat.le_of_ble_eq_true rfl)⟩) ⟨fun a U g mk q => by obtain ⟨q0, q1, qZ, qP, qK, qD⟩ := q; exact ⟨q0, q1, zz_call qZ, qP, va_K.moved (u := U) (U := U.calling g mk a) (Vm.Alike.refl U.vm) qK, qD⟩, va_recv hKc hPc (ci := 5) (q0 := 0) rfl rfl, fun U hU hW => ⟨rfl, by rw [hU], zz_rw hS hFc hU hW hZ, by rw [hU]; exact hPc, va_K.moved hW.alike hKc, hDc.weaken (fun _ _ _ _ => trivial)⟩⟩ rfl rfl hl.1 rfl (lv_room (Nat.le_of_ble_eq_true rfl)) d_M_lends_55 ⟨(Nat.le_of_ble_eq_true rfl), (Nat.le_of_ble_eq_true rfl)⟩) hS (fun q _ h => hFc q h) hFc (fun r_21 u t H1 locs ht hvm hw_22 hB hz1 hk1 hS => ?_)
        obtain ⟨hP1, hK1, hD1⟩ := hB
        rw [ht] at hP1
        have hK1 := va_K.moved hvm.symm hK1
        obtain rfl : r_21 = 0 := hw_22
        obtain ⟨hP, hD⟩ := va_join (wr := [(a_sa, .inl (k_sa, 120, .inl f_sa)), (a_ru, .inl (k_ru, 410, .inl f_ru))]) (w1 := [(a_m, .inr (5, [.int v_th, .ref a_sa, .int v_sz, .int (v_at + 1), .int (v_at + 1), .ref a_ru, .ref a_me, .ref a_le, .int v_n, .ref a_cl, .ref a_te, .ref a_ki, .ref a_ty, .ref a_bl, .ref a_ex, .ref a_lo, .int v_nl, .ref a_ho, .ref a_fi, .int v_nf, .ref a_cz, .int v_nc]))]) hP hD [0] [1, 2] rfl rfl (by decide) (by decide) hk1 hFc hP1 hD1
        replace hK := (hK.sub (tys' := [(k_sa, .byte), (k_ru, .int)]) [0, 1] rfl).app hK1
        generalize H1 = H at hP hS ⊢
        replace hP := hP.sub (ws' := [(a_m, .inr (5, [.int v_th, .ref a_sa, .int v_sz, .int (v_at + 1), .int (v_at + 1), .ref a_ru, .ref a_me, .ref a_le, .int v_n, .ref a_cl, .ref a_te, .ref a_ki, .ref a_ty, .ref a_bl, .ref a_ex, .ref a_lo, .int v_nl, .ref a_ho, .ref a_fi, .int v_nf, .ref a_cz, .int v_nc])), (a_sa, .inl (k_sa, 120, .inl f_sa)), (a_ru, .inl (k_ru, 410, .inl f_ru))]) [2, 0, 1] rfl
        replace hD := hD.sub (ws' := [(a_m, .inr (5, [.int v_th, .ref a_sa, .int v_sz, .int (v_at + 1), .int (v_at + 1), .ref a_ru, .ref a_me, .ref a_le, .int v_n, .ref a_cl, .ref a_te, .ref a_ki, .ref a_ty, .ref a_bl, .ref a_ex, .ref a_lo, .int v_nl, .ref a_ho, .ref a_fi, .int v_nf, .ref a_cz, .int v_nc])), (a_sa, .inl (k_sa, 120, .inl f_sa)), (a_ru, .inl (k_ru, 410, .inl f_ru))]) [2, 0, 1] (by decide) rfl
        replace hK := hK.sub (tys' := [(k_sa, .byte), (k_ru, .int)]) [0, 1] rfl
        have hP9 := hP.sub (ws' := [(a_m, .inr (5, [.int v_th, .ref a_sa, .int v_sz, .int (v_at + 1), .int (v_at + 1), .ref a_ru, .ref a_me, .ref a_le, .int v_n, .ref a_cl, .ref a_te, .ref a_ki, .ref a_ty, .ref a_bl, .ref a_ex, .ref a_lo, .int v_nl, .ref a_ho, .ref a_fi, .int v_nf, .ref a_cz, .int v_nc])), (a_sa, .inl (k_sa, 120, .inl f_sa)), (a_ru, .inl (k_ru, 410, .inl f_ru))]) [0, 1, 2] rfl
        have hD9 := hD.sub (ws' := [(a_m, .inr (5, [.int v_th, .ref a_sa, .int v_sz, .int (v_at + 1), .int (v_at + 1), .ref a_ru, .ref a_me, .ref a_le, .int v_n, .ref a_cl, .ref a_te, .ref a_ki, .ref a_ty, .ref a_bl, .ref a_ex, .ref a_lo, .int v_nl, .ref a_ho, .ref a_fi, .int v_nf, .ref a_cz, .int v_nc])), (a_sa, .inl (k_sa, 120, .inl f_sa)), (a_ru, .inl (k_ru, 410, .inl f_ru))]) [0, 1, 2] (by decide) rfl
        have hK9 := hK.sub (tys' := [(k_sa, .byte), (k_ru, .int)]) [0, 1] rfl
        exact W.zret (v := 0) hx hb hr rfl (fun t ht hW => ⟨⟨0, (), rfl, by rw [← hz, hE], by rw [ht, ← hz, hE]; exact hP9, va_K.moved hW.alike hK9, by rw [← hz, hE]; exact hD9⟩, hS.F ht⟩) hS.2.2 d_M_lends_58
theorem lends_at {v_sz v_at v_wr v_n : Int32} {f_sa f_ru : Nat → Int32} (hsz : i120 v_sz) (hat : i120 v_at) : i120 (g_Mg_lends v_sz v_at v_wr v_n f_sa f_ru).2.1 := by
  unfold g_Mg_lends
  with_reducible refine pt_i (fun t : Int32 × Int32 × Int32 × (Nat → Int32) => i120 t.2.1) (fun c => ?_) (fun _ => ?_)
  · have h1 := li_k hat hsz (lk_look2 (by decide) c)
    repeat' (first | with_reducible refine pt_i (fun t : Int32 × Int32 × Int32 × (Nat → Int32) => i120 t.2.1) (fun _ => ?_) (fun _ => ?_) | with_reducible refine pt_v (fun t : Int32 × Int32 × Int32 × (Nat → Int32) => i120 t.2.1) ?_)
    all_goals first | with_reducible exact h1 | with_reducible exact pass_at hsz h1 | with_reducible exact number_at hsz hat
  · with_reducible refine pt_v (fun t : Int32 × Int32 × Int32 × (Nat → Int32) => i120 t.2.1) ?_
    with_reducible exact number_at hsz hat
def g_Mg_one (p0 : Int32) (v_sz : Int32) (v_at : Int32) (v_wr : Int32) (v_n : Int32) (f_sa : Nat → Int32) (f_ru : Nat → Int32) : Int32 × Int32 × Int32 × (Nat → Int32) :=
  if p0 = 1 then
    bv (g_Mg_number 0 1 9 v_sz v_at v_wr v_n f_sa f_ru) (fun x_4 =>
      (x_4.1, x_4.2.1, x_4.2.2.1, x_4.2.2.2))
  else
    if p0 = 2 then
      bv (g_Mg_number 1 1 9 v_sz v_at v_wr v_n f_sa f_ru) (fun x_8 =>
        (x_8.1, x_8.2.1, x_8.2.2.1, x_8.2.2.2))
    else
      if p0 = 3 then
        bv (g_Mg_number 2 2 49 v_sz v_at v_wr v_n f_sa f_ru) (fun x_12 =>
          (x_12.1, x_12.2.1, x_12.2.2.1, x_12.2.2.2))
      else
        if p0 = 4 then
          bv (g_Mg_lends v_sz v_at v_wr v_n f_sa f_ru) (fun x_16 =>
            (x_16.1, x_16.2.1, x_16.2.2.1, x_16.2.2.2))
        else
          if p0 = 5 then
            (1, v_at, v_wr, upd f_ru ((10 * v_n) + 3).toNatClampNeg 2)
          else
            if p0 = 6 then
              (1, v_at, v_wr, upd f_ru ((10 * v_n) + 3).toNatClampNeg 3)
            else
              if p0 = 7 then
                bv (g_Mg_number 5 3 999 v_sz v_at v_wr v_n f_sa f_ru) (fun x_24 =>
                  (x_24.1, x_24.2.1, x_24.2.2.1, x_24.2.2.2))
              else
                if p0 = 8 then
                  bv (g_Mg_number 6 3 999 v_sz v_at v_wr v_n f_sa f_ru) (fun x_28 =>
                    (x_28.1, x_28.2.1, x_28.2.2.1, x_28.2.2.2))
                else
                  if p0 = 9 then
                    bv (g_Mg_number 7 3 999 v_sz v_at v_wr v_n f_sa f_ru) (fun x_32 =>
                      (x_32.1, x_32.2.1, x_32.2.2.1, x_32.2.2.2))
                  else
                    bv (g_Mg_number 8 3 999 v_sz v_at v_wr v_n f_sa f_ru) (fun x_35 =>
                      (x_35.1, x_35.2.1, x_35.2.2.1, x_35.2.2.2))
theorem nz_Mg_one {p0 : Int32} {v_sz : Int32} {v_at : Int32} {v_wr : Int32} {v_n : Int32} {f_sa : Nat → Int32} {f_ru : Nat → Int32} : b01 (g_Mg_one p0 v_sz v_at v_wr v_n f_sa f_ru).1 := by
  unfold g_Mg_one
  repeat' (first | with_reducible refine b01_i (fun _ => ?_) (fun _ => ?_) | with_reducible refine b01_v ?_)
  all_goals first | with_reducible exact b01_0 | with_reducible exact b01_1 | with_reducible exact nz_Mg_lends | with_reducible exact nz_Mg_number
set_option maxHeartbeats 4000000 in
set_option maxRecDepth 100000 in
theorem c_Mg_one (l : Launch) (dC : Nat → ClassId) (dI : Nat → Nat → Nat) (adK adV : Nat → Nat) (a_m : Nat) (a_sa : Nat) (a_ru : Nat) (k_sa : ClassId) (k_ru : ClassId) (p0 : Int32) (v_th : Int32) (v_sz : Int32) (v_at : Int32) (v_wr : Int32) (a_me : Nat) (a_le : Nat) (v_n : Int32) (a_cl : Nat) (a_te : Nat) (a_ki : Nat) (a_ty : Nat) (a_bl : Nat) (a_ex : Nat) (a_lo : Nat) (v_nl : Int32) (a_ho : Nat) (a_fi : Nat) (v_nf : Int32) (a_cz : Nat) (v_nc : Int32) (f_sa : Nat → Int32) (f_ru : Nat → Int32) (sz : Nat) (hsz : 0 ≤ v_sz.toInt ∧ v_sz.toInt ≤ 120) (hat : 0 ≤ v_at.toInt ∧ v_at.toInt ≤ 120) (hn : 0 ≤ v_n.toInt ∧ v_n.toInt ≤ 40) : Met l y_M_one ws_M_one ({ frames := 4, cells := 0, slots := 0, locals := 86 }) (va_Pc [.ref a_m, .int p0] (fun U => U.heap.size = sz ∧ zz adK adV (va_A [(a_m, .inr (5, [.int v_th, .ref a_sa, .int v_sz, .int v_at, .int v_wr, .ref a_ru, .ref a_me, .ref a_le, .int v_n, .ref a_cl, .ref a_te, .ref a_ki, .ref a_ty, .ref a_bl, .ref a_ex, .ref a_lo, .int v_nl, .ref a_ho, .ref a_fi, .int v_nf, .ref a_cz, .int v_nc])), (a_sa, .inl (k_sa, 120, .inl f_sa)), (a_ru, .inl (k_ru, 410, .inl f_ru))] sz) U ∧ va_P (dC, dI) vwCl [(a_m, .inr (5, [.int v_th, .ref a_sa, .int v_sz, .int v_at, .int v_wr, .ref a_ru, .ref a_me, .ref a_le, .int v_n, .ref a_cl, .ref a_te, .ref a_ki, .ref a_ty, .ref a_bl, .ref a_ex, .ref a_lo, .int v_nl, .ref a_ho, .ref a_fi, .int v_nf, .ref a_cz, .int v_nc])), (a_sa, .inl (k_sa, 120, .inl f_sa)), (a_ru, .inl (k_ru, 410, .inl f_ru))] U.heap ∧ va_K (dC, dI) vwCl [(k_sa, .byte), (k_ru, .int)] U ∧ va_D (fun _ => True) [(a_m, .inr (5, [.int v_th, .ref a_sa, .int v_sz, .int v_at, .int v_wr, .ref a_ru, .ref a_me, .ref a_le, .int v_n, .ref a_cl, .ref a_te, .ref a_ki, .ref a_ty, .ref a_bl, .ref a_ex, .ref a_lo, .int v_nl, .ref a_ho, .ref a_fi, .int v_nf, .ref a_cz, .int v_nc])), (a_sa, .inl (k_sa, 120, .inl f_sa)), (a_ru, .inl (k_ru, 410, .inl f_ru))])) (va_Qi (fun (r : Int32) (_ : Unit) => r = (g_Mg_one p0 v_sz v_at v_wr v_n f_sa f_ru).1) (fun (_ : Unit) (t : State) => va_P (dC, dI) vwCl [(a_m, .inr (5, [.int v_th, .ref a_sa, .int v_sz, .int ((g_Mg_one p0 v_sz v_at v_wr v_n f_sa f_ru).2.1), .int ((g_Mg_one p0 v_sz v_at v_wr v_n f_sa f_ru).2.2.1), .ref a_ru, .ref a_me, .ref a_le, .int v_n, .ref a_cl, .ref a_te, .ref a_ki, .ref a_ty, .ref a_bl, .ref a_ex, .ref a_lo, .int v_nl, .ref a_ho, .ref a_fi, .int v_nf, .ref a_cz, .int v_nc])), (a_sa, .inl (k_sa, 120, .inl f_sa)), (a_ru, .inl (k_ru, 410, .inl ((g_Mg_one p0 v_sz v_at v_wr v_n f_sa f_ru).2.2.2)))] t.heap ∧ va_K (dC, dI) vwCl [(k_sa, .byte), (k_ru, .int)] t ∧ va_D (va_A [(a_m, .inr (5, [.int v_th, .ref a_sa, .int v_sz, .int v_at, .int v_wr, .ref a_ru, .ref a_me, .ref a_le, .int v_n, .ref a_cl, .ref a_te, .ref a_ki, .ref a_ty, .ref a_bl, .ref a_ex, .ref a_lo, .int v_nl, .ref a_ho, .ref a_fi, .int v_nf, .ref a_cz, .int v_nc])), (a_sa, .inl (k_sa, 120, .inl f_sa)), (a_ru, .inl (k_ru, 410, .inl f_ru))] sz) [(a_m, .inr (5, [.int v_th, .ref a_sa, .int v_sz, .int ((g_Mg_one p0 v_sz v_at v_wr v_n f_sa f_ru).2.1), .int ((g_Mg_one p0 v_sz v_at v_wr v_n f_sa f_ru).2.2.1), .ref a_ru, .ref a_me, .ref a_le, .int v_n, .ref a_cl, .ref a_te, .ref a_ki, .ref a_ty, .ref a_bl, .ref a_ex, .ref a_lo, .int v_nl, .ref a_ho, .ref a_fi, .int v_nf, .ref a_cz, .int v_nc])), (a_sa, .inl (k_sa, 120, .inl f_sa)), (a_ru, .inl (k_ru, 410, .inl ((g_Mg_one p0 v_sz v_at v_wr v_n f_sa f_ru).2.2.2)))]) (va_A [(a_m, .inr (5, [.int v_th, .ref a_sa, .int v_sz, .int v_at, .int v_wr, .ref a_ru, .ref a_me, .ref a_le, .int v_n, .ref a_cl, .ref a_te, .ref a_ki, .ref a_ty, .ref a_bl, .ref a_ex, .ref a_lo, .int v_nl, .ref a_ho, .ref a_fi, .int v_nf, .ref a_cz, .int v_nc])), (a_sa, .inl (k_sa, 120, .inl f_sa)), (a_ru, .inl (k_ru, 410, .inl f_ru))] sz)) 0 0 (va_A [(a_m, .inr (5, [.int v_th, .ref a_sa, .int v_sz, .int v_at, .int v_wr, .ref a_ru, .ref a_me, .ref a_le, .int v_n, .ref a_cl, .ref a_te, .ref a_ki, .ref a_ty, .ref a_bl, .ref a_ex, .ref a_lo, .int v_nl, .ref a_ho, .ref a_fi, .int v_nf, .ref a_cz, .int v_nc])), (a_sa, .inl (k_sa, 120, .inl f_sa)), (a_ru, .inl (k_ru, 410, .inl f_ru))] sz) := by
  refine Met.ofW (cc := c_M_one) (maxL := 2) (ret := (some .boolean)) (by decide) rfl ?_
  intro p e s m args below meth c s₁ B hml hv
  obtain ⟨rfl, hsz, hZ, hP, hK, hD0⟩ := hv
  have hx := B.exec
  have hb := B.bytes
  have hr := B.returns
  have hts0 := atoms_spec (ws := ws_M_one) B.pre
  have hts : ∀ w ∈ TT, w.before _ s = true := fun w h => hts0 w (List.mem_cons_of_mem _ h)
  have hown : s.vm.findClass "LoanRulesModel" = some m.cls := findClass_of_methodNamed B.named
  have hlocks := B.notSynchronized
  subst hsz
  have hD := hD0.self (sz := s.heap.size)
  generalize hAe : va_A [(a_m, .inr (5, [.int v_th, .ref a_sa, .int v_sz, .int v_at, .int v_wr, .ref a_ru, .ref a_me, .ref a_le, .int v_n, .ref a_cl, .ref a_te, .ref a_ki, .ref a_ty, .ref a_bl, .ref a_ex, .ref a_lo, .int v_nl, .ref a_ho, .ref a_fi, .int v_nf, .ref a_cz, .int v_nc])), (a_sa, .inl (k_sa, 120, .inl f_sa)), (a_ru, .inl (k_ru, 410, .inl f_ru))] s.heap.size = A at hD hZ ⊢
  have hA : ∀ q : Nat, s.heap.size ≤ q → A q := fun q h => by rw [← hAe]; exact Or.inr h
  clear hAe hD0
  have hS : va_S A s.heap s.heap [] := va_S.rf
  replace hP : va_P (dC, dI) vwCl [(a_m, .inr (5, [.int v_th, .ref a_sa, .int v_sz, .int v_at, .int v_wr, .ref a_ru, .ref a_me, .ref a_le, .int v_n, .ref a_cl, .ref a_te, .ref a_ki, .ref a_ty, .ref a_bl, .ref a_ex, .ref a_lo, .int v_nl, .ref a_ho, .ref a_fi, .int v_nf, .ref a_cz, .int v_nc])), (a_sa, .inl (k_sa, 120, .inl f_sa)), (a_ru, .inl (k_ru, 410, .inl f_ru))] s.heap := hP
  have hl := lv_entry ([.ref a_m, .int p0]) (n := 2) (Nat.le_of_ble_eq_true rfl)
  rw [lg_entry_eq]
  generalize (lg_sl ([.ref a_m, .int p0]) ++ List.replicate (2 - (lg_sl ([.ref a_m, .int p0])).length) Slot.unset).toArray = ls at hl ⊢
  replace hl : lv_has ls 2 [(0, .ref a_m), (1, .int p0)] := hl
  obtain ⟨z, hz⟩ : ∃ z, z = g_Mg_one p0 v_sz v_at v_wr v_n f_sa f_ru := ⟨_, rfl⟩
  have hE := hz
  rw [g_Mg_one] at hE
  refine lv_iload_n hx hb d_M_one_0 rfl (lv_at hl 1 rfl) ?_
  by_cases c_1 : p0 = 1
  · rw [if_pos c_1] at hE
    refine lv_topi (fun y_44 ey_44 => ?_)
    obtain rfl : y_44 = 1 := ey_44.trans c_1
    refine lv_tableIn (tgt := 52) (off := 51) hx hb d_M_one_1 (by decide) (by decide) (by decide) (by decide) ?_
    refine lv_aload_n hx hb d_M_one_52 rfl (lv_at hl 0 rfl) ?_
    refine lv_iconst (v := 0) hx hb d_M_one_53 (by decide) ?_
    refine lv_iconst (v := 1) hx hb d_M_one_54 (by decide) ?_
    refine lv_bipush (v := 9) hx hb d_M_one_55 (by decide) ?_
    have hPc := hP.sub (ws' := [(a_m, .inr (5, [.int v_th, .ref a_sa, .int v_sz, .int v_at, .int v_wr, .ref a_ru, .ref a_me, .ref a_le, .int v_n, .ref a_cl, .ref a_te, .ref a_ki, .ref a_ty, .ref a_bl, .ref a_ex, .ref a_lo, .int v_nl, .ref a_ho, .ref a_fi, .int v_nf, .ref a_cz, .int v_nc])), (a_sa, .inl (k_sa, 120, .inl f_sa)), (a_ru, .inl (k_ru, 410, .inl f_ru))]) [0, 1, 2] rfl
    have hKc := hK.sub (tys' := [(k_sa, .byte), (k_ru, .int)]) [0, 1] rfl
    have hDc := hD.sub (ws' := [(a_m, .inr (5, [.int v_th, .ref a_sa, .int v_sz, .int v_at, .int v_wr, .ref a_ru, .ref a_me, .ref a_le, .int v_n, .ref a_cl, .ref a_te, .ref a_ki, .ref a_ty, .ref a_bl, .ref a_ex, .ref a_lo, .int v_nl, .ref a_ho, .ref a_fi, .int v_nf, .ref a_cz, .int v_nc])), (a_sa, .inl (k_sa, 120, .inl f_sa)), (a_ru, .inl (k_ru, 410, .inl f_ru))]) [0, 1, 2] (by decide) rfl
    have hFc := va_free (wc := [(a_m, .inr (5, [.int v_th, .ref a_sa, .int v_sz, .int v_at, .int v_wr, .ref a_ru, .ref a_me, .ref a_le, .int v_n, .ref a_cl, .ref a_te, .ref a_ki, .ref a_ty, .ref a_bl, .ref a_ex, .ref a_lo, .int v_nl, .ref a_ho, .ref a_fi, .int v_nf, .ref a_cz, .int v_nc])), (a_sa, .inl (k_sa, 120, .inl f_sa)), (a_ru, .inl (k_ru, 410, .inl f_ru))]) hD hS hA [0, 1, 2] rfl
    refine va_calli (va_runV (As := [.int 0, .int 1, .int 9]) (rest := []) ⟨hx, hb, hml, hown, hts⟩ (c_Mg_number l dC dI adK adV (a_m := a_m) (p0 := 0) (p1 := 1) (p2 := 9) (v_th := v_th) (a_sa := a_sa) (v_sz := v_sz) (v_at := v_at) (v_wr := v_wr) (a_ru := a_ru) (a_me := a_me) (a_le := a_le) (v_n := v_n) (a_cl := a_cl) (a_te := a_te) (a_ki := a_ki) (a_ty := a_ty) (a_bl := a_bl) (a_ex := a_ex) (a_lo := a_lo) (v_nl := v_nl) (a_ho := a_ho) (a_fi := a_fi) (v_nf := v_nf) (a_cz := a_cz) (v_nc := v_nc) (k_sa := k_sa) (f_sa := f_sa) (k_ru := k_ru) (f_ru := f_ru) (sz := s.heap.size) (by decide) hsz hat hn) (cwV 3 hts (gV tw_720 tw_722 tw_32 tw_46 tw_723) rfl rfl rfl (by decide +kernel) ⟨(Nat.le_of_ble_eq_true rfl), (Nat.le_of_ble_eq_true rfl)⟩) ⟨fun a U g mk q => by obtain ⟨q0, q1, qZ, qP, qK, qD⟩ := q; exact ⟨q0, q1, zz_call qZ, qP, va_K.moved (u := U) (U := U.calling g mk a) (Vm.Alike.refl U.vm) qK, qD⟩, va_recv hKc hPc (ci := 5) (q0 := 0) rfl rfl, fun U hU hW => ⟨rfl, by rw [hU], zz_rw hS hFc hU hW hZ, by rw [hU]; exact hPc, va_K.moved hW.alike hKc, hDc.weaken (fun _ _ _ _ => trivial)⟩⟩ rfl rfl hl.1 rfl (lv_room (Nat.le_of_ble_eq_true rfl)) d_M_one_57 ⟨(Nat.le_of_ble_eq_true rfl), (Nat.le_of_ble_eq_true rfl)⟩) hS (fun q _ h => hFc q h) hFc (fun r_2 u t H1 locs ht hvm hw_3 hB hz1 hk1 hS => ?_)
    generalize hg_x_4 : g_Mg_number 0 1 9 v_sz v_at v_wr v_n f_sa f_ru = x_4 at hw_3 hB hE
    rw [bv_eq] at hE
    obtain ⟨hP1, hK1, hD1⟩ := hB
    rw [ht] at hP1
    have hK1 := va_K.moved hvm.symm hK1
    obtain rfl : r_2 = x_4.1 := hw_3
    obtain ⟨hP, hD⟩ := va_join (wr := []) (w1 := [(a_m, .inr (5, [.int v_th, .ref a_sa, .int v_sz, .int x_4.2.1, .int x_4.2.2.1, .ref a_ru, .ref a_me, .ref a_le, .int v_n, .ref a_cl, .ref a_te, .ref a_ki, .ref a_ty, .ref a_bl, .ref a_ex, .ref a_lo, .int v_nl, .ref a_ho, .ref a_fi, .int v_nf, .ref a_cz, .int v_nc])), (a_sa, .inl (k_sa, 120, .inl f_sa)), (a_ru, .inl (k_ru, 410, .inl x_4.2.2.2))]) hP hD [0, 1, 2] [] rfl rfl (by decide) (by decide) hk1 hFc hP1 hD1
    replace hK := (hK.sub (tys' := []) [] rfl).app hK1
    generalize H1 = H at hP hS ⊢
    replace hP := hP.sub (ws' := [(a_m, .inr (5, [.int v_th, .ref a_sa, .int v_sz, .int x_4.2.1, .int x_4.2.2.1, .ref a_ru, .ref a_me, .ref a_le, .int v_n, .ref a_cl, .ref a_te, .ref a_ki, .ref a_ty, .ref a_bl, .ref a_ex, .ref a_lo, .int v_nl, .ref a_ho, .ref a_fi, .int v_nf, .ref a_cz, .int v_nc])), (a_sa, .inl (k_sa, 120, .inl f_sa)), (a_ru, .inl (k_ru, 410, .inl x_4.2.2.2))]) [0, 1, 2] rfl
    replace hD := hD.sub (ws' := [(a_m, .inr (5, [.int v_th, .ref a_sa, .int v_sz, .int x_4.2.1, .int x_4.2.2.1, .ref a_ru, .ref a_me, .ref a_le, .int v_n, .ref a_cl, .ref a_te, .ref a_ki, .ref a_ty, .ref a_bl, .ref a_ex, .ref a_lo, .int v_nl, .ref a_ho, .ref a_fi, .int v_nf, .ref a_cz, .int v_nc])), (a_sa, .inl (k_sa, 120, .inl f_sa)), (a_ru, .inl (k_ru, 410, .inl x_4.2.2.2))]) [0, 1, 2] (by decide) rfl
    replace hK := hK.sub (tys' := [(k_sa, .byte), (k_ru, .int)]) [0, 1] rfl
    have hP9 := hP.sub (ws' := [(a_m, .inr (5, [.int v_th, .ref a_sa, .int v_sz, .int x_4.2.1, .int x_4.2.2.1, .ref a_ru, .ref a_me, .ref a_le, .int v_n, .ref a_cl, .ref a_te, .ref a_ki, .ref a_ty, .ref a_bl, .ref a_ex, .ref a_lo, .int v_nl, .ref a_ho, .ref a_fi, .int v_nf, .ref a_cz, .int v_nc])), (a_sa, .inl (k_sa, 120, .inl f_sa)), (a_ru, .inl (k_ru, 410, .inl x_4.2.2.2))]) [0, 1, 2] rfl
    have hD9 := hD.sub (ws' := [(a_m, .inr (5, [.int v_th, .ref a_sa, .int v_sz, .int x_4.2.1, .int x_4.2.2.1, .ref a_ru, .ref a_me, .ref a_le, .int v_n, .ref a_cl, .ref a_te, .ref a_ki, .ref a_ty, .ref a_bl, .ref a_ex, .ref a_lo, .int v_nl, .ref a_ho, .ref a_fi, .int v_nf, .ref a_cz, .int v_nc])), (a_sa, .inl (k_sa, 120, .inl f_sa)), (a_ru, .inl (k_ru, 410, .inl x_4.2.2.2))]) [0, 1, 2] (by decide) rfl
    have hK9 := hK.sub (tys' := [(k_sa, .byte), (k_ru, .int)]) [0, 1] rfl
    exact W.zret (v := x_4.1) hx hb hr (by rw [← hg_x_4]; exact nzI nz_Mg_number) (fun t ht hW => ⟨⟨x_4.1, (), rfl, by rw [← hz, hE], by rw [ht, ← hz, hE]; exact hP9, va_K.moved hW.alike hK9, by rw [← hz, hE]; exact hD9⟩, hS.F ht⟩) hS.2.2 d_M_one_60
  · rw [if_neg c_1] at hE
    by_cases c_5 : p0 = 2
    · rw [if_pos c_5] at hE
      refine lv_topi (fun y_43 ey_43 => ?_)
      obtain rfl : y_43 = 2 := ey_43.trans c_5
      refine lv_tableIn (tgt := 61) (off := 60) hx hb d_M_one_1 (by decide) (by decide) (by decide) (by decide) ?_
      refine lv_aload_n hx hb d_M_one_61 rfl (lv_at hl 0 rfl) ?_
      refine lv_iconst (v := 1) hx hb d_M_one_62 (by decide) ?_
      refine lv_iconst (v := 1) hx hb d_M_one_63 (by decide) ?_
      refine lv_bipush (v := 9) hx hb d_M_one_64 (by decide) ?_
      have hPc := hP.sub (ws' := [(a_m, .inr (5, [.int v_th, .ref a_sa, .int v_sz, .int v_at, .int v_wr, .ref a_ru, .ref a_me, .ref a_le, .int v_n, .ref a_cl, .ref a_te, .ref a_ki, .ref a_ty, .ref a_bl, .ref a_ex, .ref a_lo, .int v_nl, .ref a_ho, .ref a_fi, .int v_nf, .ref a_cz, .int v_nc])), (a_sa, .inl (k_sa, 120, .inl f_sa)), (a_ru, .inl (k_ru, 410, .inl f_ru))]) [0, 1, 2] rfl
      have hKc := hK.sub (tys' := [(k_sa, .byte), (k_ru, .int)]) [0, 1] rfl
      have hDc := hD.sub (ws' := [(a_m, .inr (5, [.int v_th, .ref a_sa, .int v_sz, .int v_at, .int v_wr, .ref a_ru, .ref a_me, .ref a_le, .int v_n, .ref a_cl, .ref a_te, .ref a_ki, .ref a_ty, .ref a_bl, .ref a_ex, .ref a_lo, .int v_nl, .ref a_ho, .ref a_fi, .int v_nf, .ref a_cz, .int v_nc])), (a_sa, .inl (k_sa, 120, .inl f_sa)), (a_ru, .inl (k_ru, 410, .inl f_ru))]) [0, 1, 2] (by decide) rfl
      have hFc := va_free (wc := [(a_m, .inr (5, [.int v_th, .ref a_sa, .int v_sz, .int v_at, .int v_wr, .ref a_ru, .ref a_me, .ref a_le, .int v_n, .ref a_cl, .ref a_te, .ref a_ki, .ref a_ty, .ref a_bl, .ref a_ex, .ref a_lo, .int v_nl, .ref a_ho, .ref a_fi, .int v_nf, .ref a_cz, .int v_nc])), (a_sa, .inl (k_sa, 120, .inl f_sa)), (a_ru, .inl (k_ru, 410, .inl f_ru))]) hD hS hA [0, 1, 2] rfl
      refine va_calli (va_runV (As := [.int 1, .int 1, .int 9]) (rest := []) ⟨hx, hb, hml, hown, hts⟩ (c_Mg_number l dC dI adK adV (a_m := a_m) (p0 := 1) (p1 := 1) (p2 := 9) (v_th := v_th) (a_sa := a_sa) (v_sz := v_sz) (v_at := v_at) (v_wr := v_wr) (a_ru := a_ru) (a_me := a_me) (a_le := a_le) (v_n := v_n) (a_cl := a_cl) (a_te := a_te) (a_ki := a_ki) (a_ty := a_ty) (a_bl := a_bl) (a_ex := a_ex) (a_lo := a_lo) (v_nl := v_nl) (a_ho := a_ho) (a_fi := a_fi) (v_nf := v_nf) (a_cz := a_cz) (v_nc := v_nc) (k_sa := k_sa) (f_sa := f_sa) (k_ru := k_ru) (f_ru := f_ru) (sz := s.heap.size) (by decide) hsz hat hn) (cwV 3 hts (gV tw_720 tw_722 tw_32 tw_46 tw_723) rfl rfl rfl (by decide +kernel) ⟨(Nat.le_of_ble_eq_true rfl), (Nat.le_of_ble_eq_true rfl)⟩) ⟨fun a U g mk q => by obtain ⟨q0, q1, qZ, qP, qK, qD⟩ := q; exact ⟨q0, q1, zz_call qZ, qP, va_K.moved (u := U) (U := U.calling g mk a) (Vm.Alike.refl U.vm) qK, qD⟩, va_recv hKc hPc (ci := 5) (q0 := 0) rfl rfl, fun U hU hW => ⟨rfl, by rw [hU], zz_rw hS hFc hU hW hZ, by rw [hU]; exact hPc, va_K.moved hW.alike hKc, hDc.weaken (fun _ _ _ _ => trivial)⟩⟩ rfl rfl hl.1 rfl (lv_room (Nat.le_of_ble_eq_true rfl)) d_M_one_66 ⟨(Nat.le_of_ble_eq_true rfl), (Nat.le_of_ble_eq_true rfl)⟩) hS (fun q _ h => hFc q h) hFc (fun r_6 u t H1 locs ht hvm hw_7 hB hz1 hk1 hS => ?_)
      generalize hg_x_8 : g_Mg_number 1 1 9 v_sz v_at v_wr v_n f_sa f_ru = x_8 at hw_7 hB hE
      rw [bv_eq] at hE
      obtain ⟨hP1, hK1, hD1⟩ := hB
      rw [ht] at hP1
      have hK1 := va_K.moved hvm.symm hK1
      obtain rfl : r_6 = x_8.1 := hw_7
      obtain ⟨hP, hD⟩ := va_join (wr := []) (w1 := [(a_m, .inr (5, [.int v_th, .ref a_sa, .int v_sz, .int x_8.2.1, .int x_8.2.2.1, .ref a_ru, .ref a_me, .ref a_le, .int v_n, .ref a_cl, .ref a_te, .ref a_ki, .ref a_ty, .ref a_bl, .ref a_ex, .ref a_lo, .int v_nl, .ref a_ho, .ref a_fi, .int v_nf, .ref a_cz, .int v_nc])), (a_sa, .inl (k_sa, 120, .inl f_sa)), (a_ru, .inl (k_ru, 410, .inl x_8.2.2.2))]) hP hD [0, 1, 2] [] rfl rfl (by decide) (by decide) hk1 hFc hP1 hD1
      replace hK := (hK.sub (tys' := []) [] rfl).app hK1
      generalize H1 = H at hP hS ⊢
      replace hP := hP.sub (ws' := [(a_m, .inr (5, [.int v_th, .ref a_sa, .int v_sz, .int x_8.2.1, .int x_8.2.2.1, .ref a_ru, .ref a_me, .ref a_le, .int v_n, .ref a_cl, .ref a_te, .ref a_ki, .ref a_ty, .ref a_bl, .ref a_ex, .ref a_lo, .int v_nl, .ref a_ho, .ref a_fi, .int v_nf, .ref a_cz, .int v_nc])), (a_sa, .inl (k_sa, 120, .inl f_sa)), (a_ru, .inl (k_ru, 410, .inl x_8.2.2.2))]) [0, 1, 2] rfl
      replace hD := hD.sub (ws' := [(a_m, .inr (5, [.int v_th, .ref a_sa, .int v_sz, .int x_8.2.1, .int x_8.2.2.1, .ref a_ru, .ref a_me, .ref a_le, .int v_n, .ref a_cl, .ref a_te, .ref a_ki, .ref a_ty, .ref a_bl, .ref a_ex, .ref a_lo, .int v_nl, .ref a_ho, .ref a_fi, .int v_nf, .ref a_cz, .int v_nc])), (a_sa, .inl (k_sa, 120, .inl f_sa)), (a_ru, .inl (k_ru, 410, .inl x_8.2.2.2))]) [0, 1, 2] (by decide) rfl
      replace hK := hK.sub (tys' := [(k_sa, .byte), (k_ru, .int)]) [0, 1] rfl
      have hP9 := hP.sub (ws' := [(a_m, .inr (5, [.int v_th, .ref a_sa, .int v_sz, .int x_8.2.1, .int x_8.2.2.1, .ref a_ru, .ref a_me, .ref a_le, .int v_n, .ref a_cl, .ref a_te, .ref a_ki, .ref a_ty, .ref a_bl, .ref a_ex, .ref a_lo, .int v_nl, .ref a_ho, .ref a_fi, .int v_nf, .ref a_cz, .int v_nc])), (a_sa, .inl (k_sa, 120, .inl f_sa)), (a_ru, .inl (k_ru, 410, .inl x_8.2.2.2))]) [0, 1, 2] rfl
      have hD9 := hD.sub (ws' := [(a_m, .inr (5, [.int v_th, .ref a_sa, .int v_sz, .int x_8.2.1, .int x_8.2.2.1, .ref a_ru, .ref a_me, .ref a_le, .int v_n, .ref a_cl, .ref a_te, .ref a_ki, .ref a_ty, .ref a_bl, .ref a_ex, .ref a_lo, .int v_nl, .ref a_ho, .ref a_fi, .int v_nf, .ref a_cz, .int v_nc])), (a_sa, .inl (k_sa, 120, .inl f_sa)), (a_ru, .inl (k_ru, 410, .inl x_8.2.2.2))]) [0, 1, 2] (by decide) rfl
      have hK9 := hK.sub (tys' := [(k_sa, .byte), (k_ru, .int)]) [0, 1] rfl
      exact W.zret (v := x_8.1) hx hb hr (by rw [← hg_x_8]; exact nzI nz_Mg_number) (fun t ht hW => ⟨⟨x_8.1, (), rfl, by rw [← hz, hE], by rw [ht, ← hz, hE]; exact hP9, va_K.moved hW.alike hK9, by rw [← hz, hE]; exact hD9⟩, hS.F ht⟩) hS.2.2 d_M_one_69
    · rw [if_neg c_5] at hE
      by_cases c_9 : p0 = 3
      · rw [if_pos c_9] at hE
        refine lv_topi (fun y_42 ey_42 => ?_)
        obtain rfl : y_42 = 3 := ey_42.trans c_9
        refine lv_tableIn (tgt := 70) (off := 69) hx hb d_M_one_1 (by decide) (by decide) (by decide) (by decide) ?_
        refine lv_aload_n hx hb d_M_one_70 rfl (lv_at hl 0 rfl) ?_
        refine lv_iconst (v := 2) hx hb d_M_one_71 (by decide) ?_
        refine lv_iconst (v := 2) hx hb d_M_one_72 (by decide) ?_
        refine lv_bipush (v := 49) hx hb d_M_one_73 (by decide) ?_
        have hPc := hP.sub (ws' := [(a_m, .inr (5, [.int v_th, .ref a_sa, .int v_sz, .int v_at, .int v_wr, .ref a_ru, .ref a_me, .ref a_le, .int v_n, .ref a_cl, .ref a_te, .ref a_ki, .ref a_ty, .ref a_bl, .ref a_ex, .ref a_lo, .int v_nl, .ref a_ho, .ref a_fi, .int v_nf, .ref a_cz, .int v_nc])), (a_sa, .inl (k_sa, 120, .inl f_sa)), (a_ru, .inl (k_ru, 410, .inl f_ru))]) [0, 1, 2] rfl
        have hKc := hK.sub (tys' := [(k_sa, .byte), (k_ru, .int)]) [0, 1] rfl
        have hDc := hD.sub (ws' := [(a_m, .inr (5, [.int v_th, .ref a_sa, .int v_sz, .int v_at, .int v_wr, .ref a_ru, .ref a_me, .ref a_le, .int v_n, .ref a_cl, .ref a_te, .ref a_ki, .ref a_ty, .ref a_bl, .ref a_ex, .ref a_lo, .int v_nl, .ref a_ho, .ref a_fi, .int v_nf, .ref a_cz, .int v_nc])), (a_sa, .inl (k_sa, 120, .inl f_sa)), (a_ru, .inl (k_ru, 410, .inl f_ru))]) [0, 1, 2] (by decide) rfl
        have hFc := va_free (wc := [(a_m, .inr (5, [.int v_th, .ref a_sa, .int v_sz, .int v_at, .int v_wr, .ref a_ru, .ref a_me, .ref a_le, .int v_n, .ref a_cl, .ref a_te, .ref a_ki, .ref a_ty, .ref a_bl, .ref a_ex, .ref a_lo, .int v_nl, .ref a_ho, .ref a_fi, .int v_nf, .ref a_cz, .int v_nc])), (a_sa, .inl (k_sa, 120, .inl f_sa)), (a_ru, .inl (k_ru, 410, .inl f_ru))]) hD hS hA [0, 1, 2] rfl
        refine va_calli (va_runV (As := [.int 2, .int 2, .int 49]) (rest := []) ⟨hx, hb, hml, hown, hts⟩ (c_Mg_number l dC dI adK adV (a_m := a_m) (p0 := 2) (p1 := 2) (p2 := 49) (v_th := v_th) (a_sa := a_sa) (v_sz := v_sz) (v_at := v_at) (v_wr := v_wr) (a_ru := a_ru) (a_me := a_me) (a_le := a_le) (v_n := v_n) (a_cl := a_cl) (a_te := a_te) (a_ki := a_ki) (a_ty := a_ty) (a_bl := a_bl) (a_ex := a_ex) (a_lo := a_lo) (v_nl := v_nl) (a_ho := a_ho) (a_fi := a_fi) (v_nf := v_nf) (a_cz := a_cz) (v_nc := v_nc) (k_sa := k_sa) (f_sa := f_sa) (k_ru := k_ru) (f_ru := f_ru) (sz := s.heap.size) (by decide) hsz hat hn) (cwV 3 hts (gV tw_720 tw_722 tw_32 tw_46 tw_723) rfl rfl rfl (by decide +kernel) ⟨(Nat.le_of_ble_eq_true rfl), (Nat.le_of_ble_eq_true rfl)⟩) ⟨fun a U g mk q => by obtain ⟨q0, q1, qZ, qP, qK, qD⟩ := q; exact ⟨q0, q1, zz_call qZ, qP, va_K.moved (u := U) (U := U.calling g mk a) (Vm.Alike.refl U.vm) qK, qD⟩, va_recv hKc hPc (ci := 5) (q0 := 0) rfl rfl, fun U hU hW => ⟨rfl, by rw [hU], zz_rw hS hFc hU hW hZ, by rw [hU]; exact hPc, va_K.moved hW.alike hKc, hDc.weaken (fun _ _ _ _ => trivial)⟩⟩ rfl rfl hl.1 rfl (lv_room (Nat.le_of_ble_eq_true rfl)) d_M_one_75 ⟨(Nat.le_of_ble_eq_true rfl), (Nat.le_of_ble_eq_true rfl)⟩) hS (fun q _ h => hFc q h) hFc (fun r_10 u t H1 locs ht hvm hw_11 hB hz1 hk1 hS => ?_)
        generalize hg_x_12 : g_Mg_number 2 2 49 v_sz v_at v_wr v_n f_sa f_ru = x_12 at hw_11 hB hE
        rw [bv_eq] at hE
        obtain ⟨hP1, hK1, hD1⟩ := hB
        rw [ht] at hP1
        have hK1 := va_K.moved hvm.symm hK1
        obtain rfl : r_10 = x_12.1 := hw_11
        obtain ⟨hP, hD⟩ := va_join (wr := []) (w1 := [(a_m, .inr (5, [.int v_th, .ref a_sa, .int v_sz, .int x_12.2.1, .int x_12.2.2.1, .ref a_ru, .ref a_me, .ref a_le, .int v_n, .ref a_cl, .ref a_te, .ref a_ki, .ref a_ty, .ref a_bl, .ref a_ex, .ref a_lo, .int v_nl, .ref a_ho, .ref a_fi, .int v_nf, .ref a_cz, .int v_nc])), (a_sa, .inl (k_sa, 120, .inl f_sa)), (a_ru, .inl (k_ru, 410, .inl x_12.2.2.2))]) hP hD [0, 1, 2] [] rfl rfl (by decide) (by decide) hk1 hFc hP1 hD1
        replace hK := (hK.sub (tys' := []) [] rfl).app hK1
        generalize H1 = H at hP hS ⊢
        replace hP := hP.sub (ws' := [(a_m, .inr (5, [.int v_th, .ref a_sa, .int v_sz, .int x_12.2.1, .int x_12.2.2.1, .ref a_ru, .ref a_me, .ref a_le, .int v_n, .ref a_cl, .ref a_te, .ref a_ki, .ref a_ty, .ref a_bl, .ref a_ex, .ref a_lo, .int v_nl, .ref a_ho, .ref a_fi, .int v_nf, .ref a_cz, .int v_nc])), (a_sa, .inl (k_sa, 120, .inl f_sa)), (a_ru, .inl (k_ru, 410, .inl x_12.2.2.2))]) [0, 1, 2] rfl
        replace hD := hD.sub (ws' := [(a_m, .inr (5, [.int v_th, .ref a_sa, .int v_sz, .int x_12.2.1, .int x_12.2.2.1, .ref a_ru, .ref a_me, .ref a_le, .int v_n, .ref a_cl, .ref a_te, .ref a_ki, .ref a_ty, .ref a_bl, .ref a_ex, .ref a_lo, .int v_nl, .ref a_ho, .ref a_fi, .int v_nf, .ref a_cz, .int v_nc])), (a_sa, .inl (k_sa, 120, .inl f_sa)), (a_ru, .inl (k_ru, 410, .inl x_12.2.2.2))]) [0, 1, 2] (by decide) rfl
        replace hK := hK.sub (tys' := [(k_sa, .byte), (k_ru, .int)]) [0, 1] rfl
        have hP9 := hP.sub (ws' := [(a_m, .inr (5, [.int v_th, .ref a_sa, .int v_sz, .int x_12.2.1, .int x_12.2.2.1, .ref a_ru, .ref a_me, .ref a_le, .int v_n, .ref a_cl, .ref a_te, .ref a_ki, .ref a_ty, .ref a_bl, .ref a_ex, .ref a_lo, .int v_nl, .ref a_ho, .ref a_fi, .int v_nf, .ref a_cz, .int v_nc])), (a_sa, .inl (k_sa, 120, .inl f_sa)), (a_ru, .inl (k_ru, 410, .inl x_12.2.2.2))]) [0, 1, 2] rfl
        have hD9 := hD.sub (ws' := [(a_m, .inr (5, [.int v_th, .ref a_sa, .int v_sz, .int x_12.2.1, .int x_12.2.2.1, .ref a_ru, .ref a_me, .ref a_le, .int v_n, .ref a_cl, .ref a_te, .ref a_ki, .ref a_ty, .ref a_bl, .ref a_ex, .ref a_lo, .int v_nl, .ref a_ho, .ref a_fi, .int v_nf, .ref a_cz, .int v_nc])), (a_sa, .inl (k_sa, 120, .inl f_sa)), (a_ru, .inl (k_ru, 410, .inl x_12.2.2.2))]) [0, 1, 2] (by decide) rfl
        have hK9 := hK.sub (tys' := [(k_sa, .byte), (k_ru, .int)]) [0, 1] rfl
        exact W.zret (v := x_12.1) hx hb hr (by rw [← hg_x_12]; exact nzI nz_Mg_number) (fun t ht hW => ⟨⟨x_12.1, (), rfl, by rw [← hz, hE], by rw [ht, ← hz, hE]; exact hP9, va_K.moved hW.alike hK9, by rw [← hz, hE]; exact hD9⟩, hS.F ht⟩) hS.2.2 d_M_one_78
      · rw [if_neg c_9] at hE
        by_cases c_13 : p0 = 4
        · rw [if_pos c_13] at hE
          refine lv_topi (fun y_41 ey_41 => ?_)
          obtain rfl : y_41 = 4 := ey_41.trans c_13
          refine lv_tableIn (tgt := 79) (off := 78) hx hb d_M_one_1 (by decide) (by decide) (by decide) (by decide) ?_
          refine lv_aload_n hx hb d_M_one_79 rfl (lv_at hl 0 rfl) ?_
          have hPc := hP.sub (ws' := [(a_m, .inr (5, [.int v_th, .ref a_sa, .int v_sz, .int v_at, .int v_wr, .ref a_ru, .ref a_me, .ref a_le, .int v_n, .ref a_cl, .ref a_te, .ref a_ki, .ref a_ty, .ref a_bl, .ref a_ex, .ref a_lo, .int v_nl, .ref a_ho, .ref a_fi, .int v_nf, .ref a_cz, .int v_nc])), (a_sa, .inl (k_sa, 120, .inl f_sa)), (a_ru, .inl (k_ru, 410, .inl f_ru))]) [0, 1, 2] rfl
          have hKc := hK.sub (tys' := [(k_sa, .byte), (k_ru, .int)]) [0, 1] rfl
          have hDc := hD.sub (ws' := [(a_m, .inr (5, [.int v_th, .ref a_sa, .int v_sz, .int v_at, .int v_wr, .ref a_ru, .ref a_me, .ref a_le, .int v_n, .ref a_cl, .ref a_te, .ref a_ki, .ref a_ty, .ref a_bl, .ref a_ex, .ref a_lo, .int v_nl, .ref a_ho, .ref a_fi, .int v_nf, .ref a_cz, .int v_nc])), (a_sa, .inl (k_sa, 120, .inl f_sa)), (a_ru, .inl (k_ru, 410, .inl f_ru))]) [0, 1, 2] (by decide) rfl
          have hFc := va_free (wc := [(a_m, .inr (5, [.int v_th, .ref a_sa, .int v_sz, .int v_at, .int v_wr, .ref a_ru, .ref a_me, .ref a_le, .int v_n, .ref a_cl, .ref a_te, .ref a_ki, .ref a_ty, .ref a_bl, .ref a_ex, .ref a_lo, .int v_nl, .ref a_ho, .ref a_fi, .int v_nf, .ref a_cz, .int v_nc])), (a_sa, .inl (k_sa, 120, .inl f_sa)), (a_ru, .inl (k_ru, 410, .inl f_ru))]) hD hS hA [0, 1, 2] rfl
          refine va_calli (va_runV (As := []) (rest := []) ⟨hx, hb, hml, hown, hts⟩ (c_Mg_lends l dC dI adK adV (a_m := a_m) (v_th := v_th) (a_sa := a_sa) (v_sz := v_sz) (v_at := v_at) (v_wr := v_wr) (a_ru := a_ru) (a_me := a_me) (a_le := a_le) (v_n := v_n) (a_cl := a_cl) (a_te := a_te) (a_ki := a_ki) (a_ty := a_ty) (a_bl := a_bl) (a_ex := a_ex) (a_lo := a_lo) (v_nl := v_nl) (a_ho := a_ho) (a_fi := a_fi) (v_nf := v_nf) (a_cz := a_cz) (v_nc := v_nc) (k_sa := k_sa) (f_sa := f_sa) (k_ru := k_ru) (f_ru := f_ru) (sz := s.heap.size) hsz hat hn) (cwV 0 hts (gV tw_727 tw_729 tw_33 tw_46 tw_730) rfl rfl rfl (by decide +kernel) ⟨(Nat.le_of_ble_eq_true rfl), (Nat.le_of_ble_eq_true rfl)⟩) ⟨fun a U g mk q => by obtain ⟨q0, q1, qZ, qP, qK, qD⟩ := q; exact ⟨q0, q1, zz_call qZ, qP, va_K.moved (u := U) (U := U.calling g mk a) (Vm.Alike.refl U.vm) qK, qD⟩, va_recv hKc hPc (ci := 5) (q0 := 0) rfl rfl, fun U hU hW => ⟨rfl, by rw [hU], zz_rw hS hFc hU hW hZ, by rw [hU]; exact hPc, va_K.moved hW.alike hKc, hDc.weaken (fun _ _ _ _ => trivial)⟩⟩ rfl rfl hl.1 rfl (lv_room (Nat.le_of_ble_eq_true rfl)) d_M_one_80 ⟨(Nat.le_of_ble_eq_true rfl), (Nat.le_of_ble_eq_true rfl)⟩) hS (fun q _ h => hFc q h) hFc (fun r_14 u t H1 locs ht hvm hw_15 hB hz1 hk1 hS => ?_)
          generalize hg_x_16 : g_Mg_lends v_sz v_at v_wr v_n f_sa f_ru = x_16 at hw_15 hB hE
          rw [bv_eq] at hE
          obtain ⟨hP1, hK1, hD1⟩ := hB
          rw [ht] at hP1
          have hK1 := va_K.moved hvm.symm hK1
          obtain rfl : r_14 = x_16.1 := hw_15
          obtain ⟨hP, hD⟩ := va_join (wr := []) (w1 := [(a_m, .inr (5, [.int v_th, .ref a_sa, .int v_sz, .int x_16.2.1, .int x_16.2.2.1, .ref a_ru, .ref a_me, .ref a_le, .int v_n, .ref a_cl, .ref a_te, .ref a_ki, .ref a_ty, .ref a_bl, .ref a_ex, .ref a_lo, .int v_nl, .ref a_ho, .ref a_fi, .int v_nf, .ref a_cz, .int v_nc])), (a_sa, .inl (k_sa, 120, .inl f_sa)), (a_ru, .inl (k_ru, 410, .inl x_16.2.2.2))]) hP hD [0, 1, 2] [] rfl rfl (by decide) (by decide) hk1 hFc hP1 hD1
          replace hK := (hK.sub (tys' := []) [] rfl).app hK1
          generalize H1 = H at hP hS ⊢
          replace hP := hP.sub (ws' := [(a_m, .inr (5, [.int v_th, .ref a_sa, .int v_sz, .int x_16.2.1, .int x_16.2.2.1, .ref a_ru, .ref a_me, .ref a_le, .int v_n, .ref a_cl, .ref a_te, .ref a_ki, .ref a_ty, .ref a_bl, .ref a_ex, .ref a_lo, .int v_nl, .ref a_ho, .ref a_fi, .int v_nf, .ref a_cz, .int v_nc])), (a_sa, .inl (k_sa, 120, .inl f_sa)), (a_ru, .inl (k_ru, 410, .inl x_16.2.2.2))]) [0, 1, 2] rfl
          replace hD := hD.sub (ws' := [(a_m, .inr (5, [.int v_th, .ref a_sa, .int v_sz, .int x_16.2.1, .int x_16.2.2.1, .ref a_ru, .ref a_me, .ref a_le, .int v_n, .ref a_cl, .ref a_te, .ref a_ki, .ref a_ty, .ref a_bl, .ref a_ex, .ref a_lo, .int v_nl, .ref a_ho, .ref a_fi, .int v_nf, .ref a_cz, .int v_nc])), (a_sa, .inl (k_sa, 120, .inl f_sa)), (a_ru, .inl (k_ru, 410, .inl x_16.2.2.2))]) [0, 1, 2] (by decide) rfl
          replace hK := hK.sub (tys' := [(k_sa, .byte), (k_ru, .int)]) [0, 1] rfl
          have hP9 := hP.sub (ws' := [(a_m, .inr (5, [.int v_th, .ref a_sa, .int v_sz, .int x_16.2.1, .int x_16.2.2.1, .ref a_ru, .ref a_me, .ref a_le, .int v_n, .ref a_cl, .ref a_te, .ref a_ki, .ref a_ty, .ref a_bl, .ref a_ex, .ref a_lo, .int v_nl, .ref a_ho, .ref a_fi, .int v_nf, .ref a_cz, .int v_nc])), (a_sa, .inl (k_sa, 120, .inl f_sa)), (a_ru, .inl (k_ru, 410, .inl x_16.2.2.2))]) [0, 1, 2] rfl
          have hD9 := hD.sub (ws' := [(a_m, .inr (5, [.int v_th, .ref a_sa, .int v_sz, .int x_16.2.1, .int x_16.2.2.1, .ref a_ru, .ref a_me, .ref a_le, .int v_n, .ref a_cl, .ref a_te, .ref a_ki, .ref a_ty, .ref a_bl, .ref a_ex, .ref a_lo, .int v_nl, .ref a_ho, .ref a_fi, .int v_nf, .ref a_cz, .int v_nc])), (a_sa, .inl (k_sa, 120, .inl f_sa)), (a_ru, .inl (k_ru, 410, .inl x_16.2.2.2))]) [0, 1, 2] (by decide) rfl
          have hK9 := hK.sub (tys' := [(k_sa, .byte), (k_ru, .int)]) [0, 1] rfl
          exact W.zret (v := x_16.1) hx hb hr (by rw [← hg_x_16]; exact nzI nz_Mg_lends) (fun t ht hW => ⟨⟨x_16.1, (), rfl, by rw [← hz, hE], by rw [ht, ← hz, hE]; exact hP9, va_K.moved hW.alike hK9, by rw [← hz, hE]; exact hD9⟩, hS.F ht⟩) hS.2.2 d_M_one_83
        · rw [if_neg c_13] at hE
          by_cases c_17 : p0 = 5
          · rw [if_pos c_17] at hE
            refine lv_topi (fun y_40 ey_40 => ?_)
            obtain rfl : y_40 = 5 := ey_40.trans c_17
            refine lv_tableIn (tgt := 84) (off := 83) hx hb d_M_one_1 (by decide) (by decide) (by decide) (by decide) ?_
            refine lv_aload_n hx hb d_M_one_84 rfl (lv_at hl 0 rfl) ?_
            refine va_get (D := (dC, dI)) (ci := 5) (v := .ref a_ru) (C := "LoanRulesModel") (T := Fz_M) (N := 22) hx hb hts it_M hown hK hP 0 rfl rfl 5 (by decide) (hts _ tw_606) (fun _ h9 => h9) rfl d_M_one_85 ?_
            refine lv_bipush (v := 10) hx hb d_M_one_88 (by decide) ?_
            refine lv_aload_n hx hb d_M_one_90 rfl (lv_at hl 0 rfl) ?_
            refine va_get (D := (dC, dI)) (ci := 5) (v := .int v_n) (C := "LoanRulesModel") (T := Fz_M) (N := 22) hx hb hts it_M hown hK hP 0 rfl rfl 8 (by decide) (hts _ tw_609) (fun _ h9 => h9) rfl d_M_one_91 ?_
            refine lv_imul hx hb d_M_one_94 ?_
            refine lv_iconst (v := 3) hx hb d_M_one_95 (by decide) ?_
            refine lv_iadd hx hb d_M_one_96 ?_
            refine lv_iconst (v := 2) hx hb d_M_one_97 (by decide) ?_
            have i_18 : vp_in ((10 * v_n) + 3) 410 := ix10 hn (by decide)
            refine va_iast (D := (dC, dI)) hx hb hK hP hD hS 2 1 rfl rfl i_18 d_M_one_98 (fun H locs hP hD hS => ?_)
            replace hP : va_P (dC, dI) vwCl [(a_m, .inr (5, [.int v_th, .ref a_sa, .int v_sz, .int v_at, .int v_wr, .ref a_ru, .ref a_me, .ref a_le, .int v_n, .ref a_cl, .ref a_te, .ref a_ki, .ref a_ty, .ref a_bl, .ref a_ex, .ref a_lo, .int v_nl, .ref a_ho, .ref a_fi, .int v_nf, .ref a_cz, .int v_nc])), (a_sa, .inl (k_sa, 120, .inl f_sa)), (a_ru, .inl (k_ru, 410, .inl (upd f_ru ((10 * v_n) + 3).toNatClampNeg 2)))] H := hP
            replace hD : va_D A [(a_m, .inr (5, [.int v_th, .ref a_sa, .int v_sz, .int v_at, .int v_wr, .ref a_ru, .ref a_me, .ref a_le, .int v_n, .ref a_cl, .ref a_te, .ref a_ki, .ref a_ty, .ref a_bl, .ref a_ex, .ref a_lo, .int v_nl, .ref a_ho, .ref a_fi, .int v_nf, .ref a_cz, .int v_nc])), (a_sa, .inl (k_sa, 120, .inl f_sa)), (a_ru, .inl (k_ru, 410, .inl (upd f_ru ((10 * v_n) + 3).toNatClampNeg 2)))] := hD
            refine lv_iconst (v := 1) hx hb d_M_one_99 (by decide) ?_
            have hP9 := hP.sub (ws' := [(a_m, .inr (5, [.int v_th, .ref a_sa, .int v_sz, .int v_at, .int v_wr, .ref a_ru, .ref a_me, .ref a_le, .int v_n, .ref a_cl, .ref a_te, .ref a_ki, .ref a_ty, .ref a_bl, .ref a_ex, .ref a_lo, .int v_nl, .ref a_ho, .ref a_fi, .int v_nf, .ref a_cz, .int v_nc])), (a_sa, .inl (k_sa, 120, .inl f_sa)), (a_ru, .inl (k_ru, 410, .inl (upd f_ru ((10 * v_n) + 3).toNatClampNeg 2)))]) [0, 1, 2] rfl
            have hD9 := hD.sub (ws' := [(a_m, .inr (5, [.int v_th, .ref a_sa, .int v_sz, .int v_at, .int v_wr, .ref a_ru, .ref a_me, .ref a_le, .int v_n, .ref a_cl, .ref a_te, .ref a_ki, .ref a_ty, .ref a_bl, .ref a_ex, .ref a_lo, .int v_nl, .ref a_ho, .ref a_fi, .int v_nf, .ref a_cz, .int v_nc])), (a_sa, .inl (k_sa, 120, .inl f_sa)), (a_ru, .inl (k_ru, 410, .inl (upd f_ru ((10 * v_n) + 3).toNatClampNeg 2)))]) [0, 1, 2] (by decide) rfl
            have hK9 := hK.sub (tys' := [(k_sa, .byte), (k_ru, .int)]) [0, 1] rfl
            exact W.zret (v := 1) hx hb hr rfl (fun t ht hW => ⟨⟨1, (), rfl, by rw [← hz, hE], by rw [ht, ← hz, hE]; exact hP9, va_K.moved hW.alike hK9, by rw [← hz, hE]; exact hD9⟩, hS.F ht⟩) hS.2.2 d_M_one_100
          · rw [if_neg c_17] at hE
            by_cases c_19 : p0 = 6
            · rw [if_pos c_19] at hE
              refine lv_topi (fun y_39 ey_39 => ?_)
              obtain rfl : y_39 = 6 := ey_39.trans c_19
              refine lv_tableIn (tgt := 101) (off := 100) hx hb d_M_one_1 (by decide) (by decide) (by decide) (by decide) ?_
              refine lv_aload_n hx hb d_M_one_101 rfl (lv_at hl 0 rfl) ?_
              refine va_get (D := (dC, dI)) (ci := 5) (v := .ref a_ru) (C := "LoanRulesModel") (T := Fz_M) (N := 22) hx hb hts it_M hown hK hP 0 rfl rfl 5 (by decide) (hts _ tw_606) (fun _ h9 => h9) rfl d_M_one_102 ?_
              refine lv_bipush (v := 10) hx hb d_M_one_105 (by decide) ?_
              refine lv_aload_n hx hb d_M_one_107 rfl (lv_at hl 0 rfl) ?_
              refine va_get (D := (dC, dI)) (ci := 5) (v := .int v_n) (C := "LoanRulesModel") (T := Fz_M) (N := 22) hx hb hts it_M hown hK hP 0 rfl rfl 8 (by decide) (hts _ tw_609) (fun _ h9 => h9) rfl d_M_one_108 ?_
              refine lv_imul hx hb d_M_one_111 ?_
              refine lv_iconst (v := 3) hx hb d_M_one_112 (by decide) ?_
              refine lv_iadd hx hb d_M_one_113 ?_
              refine lv_iconst (v := 3) hx hb d_M_one_114 (by decide) ?_
              have i_20 : vp_in ((10 * v_n) + 3) 410 := ix10 hn (by decide)
              refine va_iast (D := (dC, dI)) hx hb hK hP hD hS 2 1 rfl rfl i_20 d_M_one_115 (fun H locs hP hD hS => ?_)
              replace hP : va_P (dC, dI) vwCl [(a_m, .inr (5, [.int v_th, .ref a_sa, .int v_sz, .int v_at, .int v_wr, .ref a_ru, .ref a_me, .ref a_le, .int v_n, .ref a_cl, .ref a_te, .ref a_ki, .ref a_ty, .ref a_bl, .ref a_ex, .ref a_lo, .int v_nl, .ref a_ho, .ref a_fi, .int v_nf, .ref a_cz, .int v_nc])), (a_sa, .inl (k_sa, 120, .inl f_sa)), (a_ru, .inl (k_ru, 410, .inl (upd f_ru ((10 * v_n) + 3).toNatClampNeg 3)))] H := hP
              replace hD : va_D A [(a_m, .inr (5, [.int v_th, .ref a_sa, .int v_sz, .int v_at, .int v_wr, .ref a_ru, .ref a_me, .ref a_le, .int v_n, .ref a_cl, .ref a_te, .ref a_ki, .ref a_ty, .ref a_bl, .ref a_ex, .ref a_lo, .int v_nl, .ref a_ho, .ref a_fi, .int v_nf, .ref a_cz, .int v_nc])), (a_sa, .inl (k_sa, 120, .inl f_sa)), (a_ru, .inl (k_ru, 410, .inl (upd f_ru ((10 * v_n) + 3).toNatClampNeg 3)))] := hD
              refine lv_iconst (v := 1) hx hb d_M_one_116 (by decide) ?_
              have hP9 := hP.sub (ws' := [(a_m, .inr (5, [.int v_th, .ref a_sa, .int v_sz, .int v_at, .int v_wr, .ref a_ru, .ref a_me, .ref a_le, .int v_n, .ref a_cl, .ref a_te, .ref a_ki, .ref a_ty, .ref a_bl, .ref a_ex, .ref a_lo, .int v_nl, .ref a_ho, .ref a_fi, .int v_nf, .ref a_cz, .int v_nc])), (a_sa, .inl (k_sa, 120, .inl f_sa)), (a_ru, .inl (k_ru, 410, .inl (upd f_ru ((10 * v_n) + 3).toNatClampNeg 3)))]) [0, 1, 2] rfl
              have hD9 := hD.sub (ws' := [(a_m, .inr (5, [.int v_th, .ref a_sa, .int v_sz, .int v_at, .int v_wr, .ref a_ru, .ref a_me, .ref a_le, .int v_n, .ref a_cl, .ref a_te, .ref a_ki, .ref a_ty, .ref a_bl, .ref a_ex, .ref a_lo, .int v_nl, .ref a_ho, .ref a_fi, .int v_nf, .ref a_cz, .int v_nc])), (a_sa, .inl (k_sa, 120, .inl f_sa)), (a_ru, .inl (k_ru, 410, .inl (upd f_ru ((10 * v_n) + 3).toNatClampNeg 3)))]) [0, 1, 2] (by decide) rfl
              have hK9 := hK.sub (tys' := [(k_sa, .byte), (k_ru, .int)]) [0, 1] rfl
              exact W.zret (v := 1) hx hb hr rfl (fun t ht hW => ⟨⟨1, (), rfl, by rw [← hz, hE], by rw [ht, ← hz, hE]; exact hP9, va_K.moved hW.alike hK9, by rw [← hz, hE]; exact hD9⟩, hS.F ht⟩) hS.2.2 d_M_one_117
            · rw [if_neg c_19] at hE
              by_cases c_21 : p0 = 7
              · rw [if_pos c_21] at hE
                refine lv_topi (fun y_38 ey_38 => ?_)
                obtain rfl : y_38 = 7 := ey_38.trans c_21
                refine lv_tableIn (tgt := 118) (off := 117) hx hb d_M_one_1 (by decide) (by decide) (by decide) (by decide) ?_
                refine lv_aload_n hx hb d_M_one_118 rfl (lv_at hl 0 rfl) ?_
                refine lv_iconst (v := 5) hx hb d_M_one_119 (by decide) ?_
                refine lv_iconst (v := 3) hx hb d_M_one_120 (by decide) ?_
                refine lv_sipush (v := 999) hx hb d_M_one_121 (by decide) ?_
                have hPc := hP.sub (ws' := [(a_m, .inr (5, [.int v_th, .ref a_sa, .int v_sz, .int v_at, .int v_wr, .ref a_ru, .ref a_me, .ref a_le, .int v_n, .ref a_cl, .ref a_te, .ref a_ki, .ref a_ty, .ref a_bl, .ref a_ex, .ref a_lo, .int v_nl, .ref a_ho, .ref a_fi, .int v_nf, .ref a_cz, .int v_nc])), (a_sa, .inl (k_sa, 120, .inl f_sa)), (a_ru, .inl (k_ru, 410, .inl f_ru))]) [0, 1, 2] rfl
                have hKc := hK.sub (tys' := [(k_sa, .byte), (k_ru, .int)]) [0, 1] rfl
                have hDc := hD.sub (ws' := [(a_m, .inr (5, [.int v_th, .ref a_sa, .int v_sz, .int v_at, .int v_wr, .ref a_ru, .ref a_me, .ref a_le, .int v_n, .ref a_cl, .ref a_te, .ref a_ki, .ref a_ty, .ref a_bl, .ref a_ex, .ref a_lo, .int v_nl, .ref a_ho, .ref a_fi, .int v_nf, .ref a_cz, .int v_nc])), (a_sa, .inl (k_sa, 120, .inl f_sa)), (a_ru, .inl (k_ru, 410, .inl f_ru))]) [0, 1, 2] (by decide) rfl
                have hFc := va_free (wc := [(a_m, .inr (5, [.int v_th, .ref a_sa, .int v_sz, .int v_at, .int v_wr, .ref a_ru, .ref a_me, .ref a_le, .int v_n, .ref a_cl, .ref a_te, .ref a_ki, .ref a_ty, .ref a_bl, .ref a_ex, .ref a_lo, .int v_nl, .ref a_ho, .ref a_fi, .int v_nf, .ref a_cz, .int v_nc])), (a_sa, .inl (k_sa, 120, .inl f_sa)), (a_ru, .inl (k_ru, 410, .inl f_ru))]) hD hS hA [0, 1, 2] rfl
                refine va_calli (va_runV (As := [.int 5, .int 3, .int 999]) (rest := []) ⟨hx, hb, hml, hown, hts⟩ (c_Mg_number l dC dI adK adV (a_m := a_m) (p0 := 5) (p1 := 3) (p2 := 999) (v_th := v_th) (a_sa := a_sa) (v_sz := v_sz) (v_at := v_at) (v_wr := v_wr) (a_ru := a_ru) (a_me := a_me) (a_le := a_le) (v_n := v_n) (a_cl := a_cl) (a_te := a_te) (a_ki := a_ki) (a_ty := a_ty) (a_bl := a_bl) (a_ex := a_ex) (a_lo := a_lo) (v_nl := v_nl) (a_ho := a_ho) (a_fi := a_fi) (v_nf := v_nf) (a_cz := a_cz) (v_nc := v_nc) (k_sa := k_sa) (f_sa := f_sa) (k_ru := k_ru) (f_ru := f_ru) (sz := s.heap.size) (by decide) hsz hat hn) (cwV 3 hts (gV tw_720 tw_722 tw_32 tw_46 tw_723) rfl rfl rfl (by decide +kernel) ⟨(Nat.le_of_ble_eq_true rfl), (Nat.le_of_ble_eq_true rfl)⟩) ⟨fun a U g mk q => by obtain ⟨q0, q1, qZ, qP, qK, qD⟩ := q; exact ⟨q0, q1, zz_call qZ, qP, va_K.moved (u := U) (U := U.calling g mk a) (Vm.Alike.refl U.vm) qK, qD⟩, va_recv hKc hPc (ci := 5) (q0 := 0) rfl rfl, fun U hU hW => ⟨rfl, by rw [hU], zz_rw hS hFc hU hW hZ, by rw [hU]; exact hPc, va_K.moved hW.alike hKc, hDc.weaken (fun _ _ _ _ => trivial)⟩⟩ rfl rfl hl.1 rfl (lv_room (Nat.le_of_ble_eq_true rfl)) d_M_one_124 ⟨(Nat.le_of_ble_eq_true rfl), (Nat.le_of_ble_eq_true rfl)⟩) hS (fun q _ h => hFc q h) hFc (fun r_22 u t H1 locs ht hvm hw_23 hB hz1 hk1 hS => ?_)
                generalize hg_x_24 : g_Mg_number 5 3 999 v_sz v_at v_wr v_n f_sa f_ru = x_24 at hw_23 hB hE
                rw [bv_eq] at hE
                obtain ⟨hP1, hK1, hD1⟩ := hB
                rw [ht] at hP1
                have hK1 := va_K.moved hvm.symm hK1
                obtain rfl : r_22 = x_24.1 := hw_23
                obtain ⟨hP, hD⟩ := va_join (wr := []) (w1 := [(a_m, .inr (5, [.int v_th, .ref a_sa, .int v_sz, .int x_24.2.1, .int x_24.2.2.1, .ref a_ru, .ref a_me, .ref a_le, .int v_n, .ref a_cl, .ref a_te, .ref a_ki, .ref a_ty, .ref a_bl, .ref a_ex, .ref a_lo, .int v_nl, .ref a_ho, .ref a_fi, .int v_nf, .ref a_cz, .int v_nc])), (a_sa, .inl (k_sa, 120, .inl f_sa)), (a_ru, .inl (k_ru, 410, .inl x_24.2.2.2))]) hP hD [0, 1, 2] [] rfl rfl (by decide) (by decide) hk1 hFc hP1 hD1
                replace hK := (hK.sub (tys' := []) [] rfl).app hK1
                generalize H1 = H at hP hS ⊢
                replace hP := hP.sub (ws' := [(a_m, .inr (5, [.int v_th, .ref a_sa, .int v_sz, .int x_24.2.1, .int x_24.2.2.1, .ref a_ru, .ref a_me, .ref a_le, .int v_n, .ref a_cl, .ref a_te, .ref a_ki, .ref a_ty, .ref a_bl, .ref a_ex, .ref a_lo, .int v_nl, .ref a_ho, .ref a_fi, .int v_nf, .ref a_cz, .int v_nc])), (a_sa, .inl (k_sa, 120, .inl f_sa)), (a_ru, .inl (k_ru, 410, .inl x_24.2.2.2))]) [0, 1, 2] rfl
                replace hD := hD.sub (ws' := [(a_m, .inr (5, [.int v_th, .ref a_sa, .int v_sz, .int x_24.2.1, .int x_24.2.2.1, .ref a_ru, .ref a_me, .ref a_le, .int v_n, .ref a_cl, .ref a_te, .ref a_ki, .ref a_ty, .ref a_bl, .ref a_ex, .ref a_lo, .int v_nl, .ref a_ho, .ref a_fi, .int v_nf, .ref a_cz, .int v_nc])), (a_sa, .inl (k_sa, 120, .inl f_sa)), (a_ru, .inl (k_ru, 410, .inl x_24.2.2.2))]) [0, 1, 2] (by decide) rfl
                replace hK := hK.sub (tys' := [(k_sa, .byte), (k_ru, .int)]) [0, 1] rfl
                have hP9 := hP.sub (ws' := [(a_m, .inr (5, [.int v_th, .ref a_sa, .int v_sz, .int x_24.2.1, .int x_24.2.2.1, .ref a_ru, .ref a_me, .ref a_le, .int v_n, .ref a_cl, .ref a_te, .ref a_ki, .ref a_ty, .ref a_bl, .ref a_ex, .ref a_lo, .int v_nl, .ref a_ho, .ref a_fi, .int v_nf, .ref a_cz, .int v_nc])), (a_sa, .inl (k_sa, 120, .inl f_sa)), (a_ru, .inl (k_ru, 410, .inl x_24.2.2.2))]) [0, 1, 2] rfl
                have hD9 := hD.sub (ws' := [(a_m, .inr (5, [.int v_th, .ref a_sa, .int v_sz, .int x_24.2.1, .int x_24.2.2.1, .ref a_ru, .ref a_me, .ref a_le, .int v_n, .ref a_cl, .ref a_te, .ref a_ki, .ref a_ty, .ref a_bl, .ref a_ex, .ref a_lo, .int v_nl, .ref a_ho, .ref a_fi, .int v_nf, .ref a_cz, .int v_nc])), (a_sa, .inl (k_sa, 120, .inl f_sa)), (a_ru, .inl (k_ru, 410, .inl x_24.2.2.2))]) [0, 1, 2] (by decide) rfl
                have hK9 := hK.sub (tys' := [(k_sa, .byte), (k_ru, .int)]) [0, 1] rfl
                exact W.zret (v := x_24.1) hx hb hr (by rw [← hg_x_24]; exact nzI nz_Mg_number) (fun t ht hW => ⟨⟨x_24.1, (), rfl, by rw [← hz, hE], by rw [ht, ← hz, hE]; exact hP9, va_K.moved hW.alike hK9, by rw [← hz, hE]; exact hD9⟩, hS.F ht⟩) hS.2.2 d_M_one_127
              · rw [if_neg c_21] at hE
                by_cases c_25 : p0 = 8
                · rw [if_pos c_25] at hE
                  refine lv_topi (fun y_37 ey_37 => ?_)
                  obtain rfl : y_37 = 8 := ey_37.trans c_25
                  refine lv_tableIn (tgt := 128) (off := 127) hx hb d_M_one_1 (by decide) (by decide) (by decide) (by decide) ?_
                  refine lv_aload_n hx hb d_M_one_128 rfl (lv_at hl 0 rfl) ?_
                  refine lv_bipush (v := 6) hx hb d_M_one_129 (by decide) ?_
                  refine lv_iconst (v := 3) hx hb d_M_one_131 (by decide) ?_
                  refine lv_sipush (v := 999) hx hb d_M_one_132 (by decide) ?_
                  have hPc := hP.sub (ws' := [(a_m, .inr (5, [.int v_th, .ref a_sa, .int v_sz, .int v_at, .int v_wr, .ref a_ru, .ref a_me, .ref a_le, .int v_n, .ref a_cl, .ref a_te, .ref a_ki, .ref a_ty, .ref a_bl, .ref a_ex, .ref a_lo, .int v_nl, .ref a_ho, .ref a_fi, .int v_nf, .ref a_cz, .int v_nc])), (a_sa, .inl (k_sa, 120, .inl f_sa)), (a_ru, .inl (k_ru, 410, .inl f_ru))]) [0, 1, 2] rfl
                  have hKc := hK.sub (tys' := [(k_sa, .byte), (k_ru, .int)]) [0, 1] rfl
                  have hDc := hD.sub (ws' := [(a_m, .inr (5, [.int v_th, .ref a_sa, .int v_sz, .int v_at, .int v_wr, .ref a_ru, .ref a_me, .ref a_le, .int v_n, .ref a_cl, .ref a_te, .ref a_ki, .ref a_ty, .ref a_bl, .ref a_ex, .ref a_lo, .int v_nl, .ref a_ho, .ref a_fi, .int v_nf, .ref a_cz, .int v_nc])), (a_sa, .inl (k_sa, 120, .inl f_sa)), (a_ru, .inl (k_ru, 410, .inl f_ru))]) [0, 1, 2] (by decide) rfl
                  have hFc := va_free (wc := [(a_m, .inr (5, [.int v_th, .ref a_sa, .int v_sz, .int v_at, .int v_wr, .ref a_ru, .ref a_me, .ref a_le, .int v_n, .ref a_cl, .ref a_te, .ref a_ki, .ref a_ty, .ref a_bl, .ref a_ex, .ref a_lo, .int v_nl, .ref a_ho, .ref a_fi, .int v_nf, .ref a_cz, .int v_nc])), (a_sa, .inl (k_sa, 120, .inl f_sa)), (a_ru, .inl (k_ru, 410, .inl f_ru))]) hD hS hA [0, 1, 2] rfl
                  refine va_calli (va_runV (As := [.int 6, .int 3, .int 999]) (rest := []) ⟨hx, hb, hml, hown, hts⟩ (c_Mg_number l dC dI adK adV (a_m := a_m) (p0 := 6) (p1 := 3) (p2 := 999) (v_th := v_th) (a_sa := a_sa) (v_sz := v_sz) (v_at := v_at) (v_wr := v_wr) (a_ru := a_ru) (a_me := a_me) (a_le := a_le) (v_n := v_n) (a_cl := a_cl) (a_te := a_te) (a_ki := a_ki) (a_ty := a_ty) (a_bl := a_bl) (a_ex := a_ex) (a_lo := a_lo) (v_nl := v_nl) (a_ho := a_ho) (a_fi := a_fi) (v_nf := v_nf) (a_cz := a_cz) (v_nc := v_nc) (k_sa := k_sa) (f_sa := f_sa) (k_ru := k_ru) (f_ru := f_ru) (sz := s.heap.size) (by decide) hsz hat hn) (cwV 3 hts (gV tw_720 tw_722 tw_32 tw_46 tw_723) rfl rfl rfl (by decide +kernel) ⟨(Nat.le_of_ble_eq_true rfl), (Nat.le_of_ble_eq_true rfl)⟩) ⟨fun a U g mk q => by obtain ⟨q0, q1, qZ, qP, qK, qD⟩ := q; exact ⟨q0, q1, zz_call qZ, qP, va_K.moved (u := U) (U := U.calling g mk a) (Vm.Alike.refl U.vm) qK, qD⟩, va_recv hKc hPc (ci := 5) (q0 := 0) rfl rfl, fun U hU hW => ⟨rfl, by rw [hU], zz_rw hS hFc hU hW hZ, by rw [hU]; exact hPc, va_K.moved hW.alike hKc, hDc.weaken (fun _ _ _ _ => trivial)⟩⟩ rfl rfl hl.1 rfl (lv_room (Nat.le_of_ble_eq_true rfl)) d_M_one_135 ⟨(Nat.le_of_ble_eq_true rfl), (Nat.le_of_ble_eq_true rfl)⟩) hS (fun q _ h => hFc q h) hFc (fun r_26 u t H1 locs ht hvm hw_27 hB hz1 hk1 hS => ?_)
                  generalize hg_x_28 : g_Mg_number 6 3 999 v_sz v_at v_wr v_n f_sa f_ru = x_28 at hw_27 hB hE
                  rw [bv_eq] at hE
                  obtain ⟨hP1, hK1, hD1⟩ := hB
                  rw [ht] at hP1
                  have hK1 := va_K.moved hvm.symm hK1
                  obtain rfl : r_26 = x_28.1 := hw_27
                  obtain ⟨hP, hD⟩ := va_join (wr := []) (w1 := [(a_m, .inr (5, [.int v_th, .ref a_sa, .int v_sz, .int x_28.2.1, .int x_28.2.2.1, .ref a_ru, .ref a_me, .ref a_le, .int v_n, .ref a_cl, .ref a_te, .ref a_ki, .ref a_ty, .ref a_bl, .ref a_ex, .ref a_lo, .int v_nl, .ref a_ho, .ref a_fi, .int v_nf, .ref a_cz, .int v_nc])), (a_sa, .inl (k_sa, 120, .inl f_sa)), (a_ru, .inl (k_ru, 410, .inl x_28.2.2.2))]) hP hD [0, 1, 2] [] rfl rfl (by decide) (by decide) hk1 hFc hP1 hD1
                  replace hK := (hK.sub (tys' := []) [] rfl).app hK1
                  generalize H1 = H at hP hS ⊢
                  replace hP := hP.sub (ws' := [(a_m, .inr (5, [.int v_th, .ref a_sa, .int v_sz, .int x_28.2.1, .int x_28.2.2.1, .ref a_ru, .ref a_me, .ref a_le, .int v_n, .ref a_cl, .ref a_te, .ref a_ki, .ref a_ty, .ref a_bl, .ref a_ex, .ref a_lo, .int v_nl, .ref a_ho, .ref a_fi, .int v_nf, .ref a_cz, .int v_nc])), (a_sa, .inl (k_sa, 120, .inl f_sa)), (a_ru, .inl (k_ru, 410, .inl x_28.2.2.2))]) [0, 1, 2] rfl
                  replace hD := hD.sub (ws' := [(a_m, .inr (5, [.int v_th, .ref a_sa, .int v_sz, .int x_28.2.1, .int x_28.2.2.1, .ref a_ru, .ref a_me, .ref a_le, .int v_n, .ref a_cl, .ref a_te, .ref a_ki, .ref a_ty, .ref a_bl, .ref a_ex, .ref a_lo, .int v_nl, .ref a_ho, .ref a_fi, .int v_nf, .ref a_cz, .int v_nc])), (a_sa, .inl (k_sa, 120, .inl f_sa)), (a_ru, .inl (k_ru, 410, .inl x_28.2.2.2))]) [0, 1, 2] (by decide) rfl
                  replace hK := hK.sub (tys' := [(k_sa, .byte), (k_ru, .int)]) [0, 1] rfl
                  have hP9 := hP.sub (ws' := [(a_m, .inr (5, [.int v_th, .ref a_sa, .int v_sz, .int x_28.2.1, .int x_28.2.2.1, .ref a_ru, .ref a_me, .ref a_le, .int v_n, .ref a_cl, .ref a_te, .ref a_ki, .ref a_ty, .ref a_bl, .ref a_ex, .ref a_lo, .int v_nl, .ref a_ho, .ref a_fi, .int v_nf, .ref a_cz, .int v_nc])), (a_sa, .inl (k_sa, 120, .inl f_sa)), (a_ru, .inl (k_ru, 410, .inl x_28.2.2.2))]) [0, 1, 2] rfl
                  have hD9 := hD.sub (ws' := [(a_m, .inr (5, [.int v_th, .ref a_sa, .int v_sz, .int x_28.2.1, .int x_28.2.2.1, .ref a_ru, .ref a_me, .ref a_le, .int v_n, .ref a_cl, .ref a_te, .ref a_ki, .ref a_ty, .ref a_bl, .ref a_ex, .ref a_lo, .int v_nl, .ref a_ho, .ref a_fi, .int v_nf, .ref a_cz, .int v_nc])), (a_sa, .inl (k_sa, 120, .inl f_sa)), (a_ru, .inl (k_ru, 410, .inl x_28.2.2.2))]) [0, 1, 2] (by decide) rfl
                  have hK9 := hK.sub (tys' := [(k_sa, .byte), (k_ru, .int)]) [0, 1] rfl
                  exact W.zret (v := x_28.1) hx hb hr (by rw [← hg_x_28]; exact nzI nz_Mg_number) (fun t ht hW => ⟨⟨x_28.1, (), rfl, by rw [← hz, hE], by rw [ht, ← hz, hE]; exact hP9, va_K.moved hW.alike hK9, by rw [← hz, hE]; exact hD9⟩, hS.F ht⟩) hS.2.2 d_M_one_138
                · rw [if_neg c_25] at hE
                  by_cases c_29 : p0 = 9
                  · rw [if_pos c_29] at hE
                    refine lv_topi (fun y_36 ey_36 => ?_)
                    obtain rfl : y_36 = 9 := ey_36.trans c_29
                    refine lv_tableIn (tgt := 139) (off := 138) hx hb d_M_one_1 (by decide) (by decide) (by decide) (by decide) ?_
                    refine lv_aload_n hx hb d_M_one_139 rfl (lv_at hl 0 rfl) ?_
                    refine lv_bipush (v := 7) hx hb d_M_one_140 (by decide) ?_
                    refine lv_iconst (v := 3) hx hb d_M_one_142 (by decide) ?_
                    refine lv_sipush (v := 999) hx hb d_M_one_143 (by decide) ?_
                    have hPc := hP.sub (ws' := [(a_m, .inr (5, [.int v_th, .ref a_sa, .int v_sz, .int v_at, .int v_wr, .ref a_ru, .ref a_me, .ref a_le, .int v_n, .ref a_cl, .ref a_te, .ref a_ki, .ref a_ty, .ref a_bl, .ref a_ex, .ref a_lo, .int v_nl, .ref a_ho, .ref a_fi, .int v_nf, .ref a_cz, .int v_nc])), (a_sa, .inl (k_sa, 120, .inl f_sa)), (a_ru, .inl (k_ru, 410, .inl f_ru))]) [0, 1, 2] rfl
                    have hKc := hK.sub (tys' := [(k_sa, .byte), (k_ru, .int)]) [0, 1] rfl
                    have hDc := hD.sub (ws' := [(a_m, .inr (5, [.int v_th, .ref a_sa, .int v_sz, .int v_at, .int v_wr, .ref a_ru, .ref a_me, .ref a_le, .int v_n, .ref a_cl, .ref a_te, .ref a_ki, .ref a_ty, .ref a_bl, .ref a_ex, .ref a_lo, .int v_nl, .ref a_ho, .ref a_fi, .int v_nf, .ref a_cz, .int v_nc])), (a_sa, .inl (k_sa, 120, .inl f_sa)), (a_ru, .inl (k_ru, 410, .inl f_ru))]) [0, 1, 2] (by decide) rfl
                    have hFc := va_free (wc := [(a_m, .inr (5, [.int v_th, .ref a_sa, .int v_sz, .int v_at, .int v_wr, .ref a_ru, .ref a_me, .ref a_le, .int v_n, .ref a_cl, .ref a_te, .ref a_ki, .ref a_ty, .ref a_bl, .ref a_ex, .ref a_lo, .int v_nl, .ref a_ho, .ref a_fi, .int v_nf, .ref a_cz, .int v_nc])), (a_sa, .inl (k_sa, 120, .inl f_sa)), (a_ru, .inl (k_ru, 410, .inl f_ru))]) hD hS hA [0, 1, 2] rfl
                    refine va_calli (va_runV (As := [.int 7, .int 3, .int 999]) (rest := []) ⟨hx, hb, hml, hown, hts⟩ (c_Mg_number l dC dI adK adV (a_m := a_m) (p0 := 7) (p1 := 3) (p2 := 999) (v_th := v_th) (a_sa := a_sa) (v_sz := v_sz) (v_at := v_at) (v_wr := v_wr) (a_ru := a_ru) (a_me := a_me) (a_le := a_le) (v_n := v_n) (a_cl := a_cl) (a_te := a_te) (a_ki := a_ki) (a_ty := a_ty) (a_bl := a_bl) (a_ex := a_ex) (a_lo := a_lo) (v_nl := v_nl) (a_ho := a_ho) (a_fi := a_fi) (v_nf := v_nf) (a_cz := a_cz) (v_nc := v_nc) (k_sa := k_sa) (f_sa := f_sa) (k_ru := k_ru) (f_ru := f_ru) (sz := s.heap.size) (by decide) hsz hat hn) (cwV 3 hts (gV tw_720 tw_722 tw_32 tw_46 tw_723) rfl rfl rfl (by decide +kernel) ⟨(Nat.le_of_ble_eq_true rfl), (Nat.le_of_ble_eq_true rfl)⟩) ⟨fun a U g mk q => by obtain ⟨q0, q1, qZ, qP, qK, qD⟩ := q; exact ⟨q0, q1, zz_call qZ, qP, va_K.moved (u := U) (U := U.calling g mk a) (Vm.Alike.refl U.vm) qK, qD⟩, va_recv hKc hPc (ci := 5) (q0 := 0) rfl rfl, fun U hU hW => ⟨rfl, by rw [hU], zz_rw hS hFc hU hW hZ, by rw [hU]; exact hPc, va_K.moved hW.alike hKc, hDc.weaken (fun _ _ _ _ => trivial)⟩⟩ rfl rfl hl.1 rfl (lv_room (Nat.le_of_ble_eq_true rfl)) d_M_one_146 ⟨(Nat.le_of_ble_eq_true rfl), (Nat.le_of_ble_eq_true rfl)⟩) hS (fun q _ h => hFc q h) hFc (fun r_30 u t H1 locs ht hvm hw_31 hB hz1 hk1 hS => ?_)
                    generalize hg_x_32 : g_Mg_number 7 3 999 v_sz v_at v_wr v_n f_sa f_ru = x_32 at hw_31 hB hE
                    rw [bv_eq] at hE
                    obtain ⟨hP1, hK1, hD1⟩ := hB
                    rw [ht] at hP1
                    have hK1 := va_K.moved hvm.symm hK1
                    obtain rfl : r_30 = x_32.1 := hw_31
                    obtain ⟨hP, hD⟩ := va_join (wr := []) (w1 := [(a_m, .inr (5, [.int v_th, .ref a_sa, .int v_sz, .int x_32.2.1, .int x_32.2.2.1, .ref a_ru, .ref a_me, .ref a_le, .int v_n, .ref a_cl, .ref a_te, .ref a_ki, .ref a_ty, .ref a_bl, .ref a_ex, .ref a_lo, .int v_nl, .ref a_ho, .ref a_fi, .int v_nf, .ref a_cz, .int v_nc])), (a_sa, .inl (k_sa, 120, .inl f_sa)), (a_ru, .inl (k_ru, 410, .inl x_32.2.2.2))]) hP hD [0, 1, 2] [] rfl rfl (by decide) (by decide) hk1 hFc hP1 hD1
                    replace hK := (hK.sub (tys' := []) [] rfl).app hK1
                    generalize H1 = H at hP hS ⊢
                    replace hP := hP.sub (ws' := [(a_m, .inr (5, [.int v_th, .ref a_sa, .int v_sz, .int x_32.2.1, .int x_32.2.2.1, .ref a_ru, .ref a_me, .ref a_le, .int v_n, .ref a_cl, .ref a_te, .ref a_ki, .ref a_ty, .ref a_bl, .ref a_ex, .ref a_lo, .int v_nl, .ref a_ho, .ref a_fi, .int v_nf, .ref a_cz, .int v_nc])), (a_sa, .inl (k_sa, 120, .inl f_sa)), (a_ru, .inl (k_ru, 410, .inl x_32.2.2.2))]) [0, 1, 2] rfl
                    replace hD := hD.sub (ws' := [(a_m, .inr (5, [.int v_th, .ref a_sa, .int v_sz, .int x_32.2.1, .int x_32.2.2.1, .ref a_ru, .ref a_me, .ref a_le, .int v_n, .ref a_cl, .ref a_te, .ref a_ki, .ref a_ty, .ref a_bl, .ref a_ex, .ref a_lo, .int v_nl, .ref a_ho, .ref a_fi, .int v_nf, .ref a_cz, .int v_nc])), (a_sa, .inl (k_sa, 120, .inl f_sa)), (a_ru, .inl (k_ru, 410, .inl x_32.2.2.2))]) [0, 1, 2] (by decide) rfl
                    replace hK := hK.sub (tys' := [(k_sa, .byte), (k_ru, .int)]) [0, 1] rfl
                    have hP9 := hP.sub (ws' := [(a_m, .inr (5, [.int v_th, .ref a_sa, .int v_sz, .int x_32.2.1, .int x_32.2.2.1, .ref a_ru, .ref a_me, .ref a_le, .int v_n, .ref a_cl, .ref a_te, .ref a_ki, .ref a_ty, .ref a_bl, .ref a_ex, .ref a_lo, .int v_nl, .ref a_ho, .ref a_fi, .int v_nf, .ref a_cz, .int v_nc])), (a_sa, .inl (k_sa, 120, .inl f_sa)), (a_ru, .inl (k_ru, 410, .inl x_32.2.2.2))]) [0, 1, 2] rfl
                    have hD9 := hD.sub (ws' := [(a_m, .inr (5, [.int v_th, .ref a_sa, .int v_sz, .int x_32.2.1, .int x_32.2.2.1, .ref a_ru, .ref a_me, .ref a_le, .int v_n, .ref a_cl, .ref a_te, .ref a_ki, .ref a_ty, .ref a_bl, .ref a_ex, .ref a_lo, .int v_nl, .ref a_ho, .ref a_fi, .int v_nf, .ref a_cz, .int v_nc])), (a_sa, .inl (k_sa, 120, .inl f_sa)), (a_ru, .inl (k_ru, 410, .inl x_32.2.2.2))]) [0, 1, 2] (by decide) rfl
                    have hK9 := hK.sub (tys' := [(k_sa, .byte), (k_ru, .int)]) [0, 1] rfl
                    exact W.zret (v := x_32.1) hx hb hr (by rw [← hg_x_32]; exact nzI nz_Mg_number) (fun t ht hW => ⟨⟨x_32.1, (), rfl, by rw [← hz, hE], by rw [ht, ← hz, hE]; exact hP9, va_K.moved hW.alike hK9, by rw [← hz, hE]; exact hD9⟩, hS.F ht⟩) hS.2.2 d_M_one_149
                  · rw [if_neg c_29] at hE
                    refine lv_tableOut (tgt := 150) hx hb d_M_one_1 (li_sw9 c_1 c_5 c_9 c_13 c_17 c_19 c_21 c_25 c_29) (by decide) ?_
                    refine lv_aload_n hx hb d_M_one_150 rfl (lv_at hl 0 rfl) ?_
                    refine lv_bipush (v := 8) hx hb d_M_one_151 (by decide) ?_
                    refine lv_iconst (v := 3) hx hb d_M_one_153 (by decide) ?_
                    refine lv_sipush (v := 999) hx hb d_M_one_154 (by decide) ?_
                    have hPc := hP.sub (ws' := [(a_m, .inr (5, [.int v_th, .ref a_sa, .int v_sz, .int v_at, .int v_wr, .ref a_ru, .ref a_me, .ref a_le, .int v_n, .ref a_cl, .ref a_te, .ref a_ki, .ref a_ty, .ref a_bl, .ref a_ex, .ref a_lo, .int v_nl, .ref a_ho, .ref a_fi, .int v_nf, .ref a_cz, .int v_nc])), (a_sa, .inl (k_sa, 120, .inl f_sa)), (a_ru, .inl (k_ru, 410, .inl f_ru))]) [0, 1, 2] rfl
                    have hKc := hK.sub (tys' := [(k_sa, .byte), (k_ru, .int)]) [0, 1] rfl
                    have hDc := hD.sub (ws' := [(a_m, .inr (5, [.int v_th, .ref a_sa, .int v_sz, .int v_at, .int v_wr, .ref a_ru, .ref a_me, .ref a_le, .int v_n, .ref a_cl, .ref a_te, .ref a_ki, .ref a_ty, .ref a_bl, .ref a_ex, .ref a_lo, .int v_nl, .ref a_ho, .ref a_fi, .int v_nf, .ref a_cz, .int v_nc])), (a_sa, .inl (k_sa, 120, .inl f_sa)), (a_ru, .inl (k_ru, 410, .inl f_ru))]) [0, 1, 2] (by decide) rfl
                    have hFc := va_free (wc := [(a_m, .inr (5, [.int v_th, .ref a_sa, .int v_sz, .int v_at, .int v_wr, .ref a_ru, .ref a_me, .ref a_le, .int v_n, .ref a_cl, .ref a_te, .ref a_ki, .ref a_ty, .ref a_bl, .ref a_ex, .ref a_lo, .int v_nl, .ref a_ho, .ref a_fi, .int v_nf, .ref a_cz, .int v_nc])), (a_sa, .inl (k_sa, 120, .inl f_sa)), (a_ru, .inl (k_ru, 410, .inl f_ru))]) hD hS hA [0, 1, 2] rfl
                    refine va_calli (va_runV (As := [.int 8, .int 3, .int 999]) (rest := []) ⟨hx, hb, hml, hown, hts⟩ (c_Mg_number l dC dI adK adV (a_m := a_m) (p0 := 8) (p1 := 3) (p2 := 999) (v_th := v_th) (a_sa := a_sa) (v_sz := v_sz) (v_at := v_at) (v_wr := v_wr) (a_ru := a_ru) (a_me := a_me) (a_le := a_le) (v_n := v_n) (a_cl := a_cl) (a_te := a_te) (a_ki := a_ki) (a_ty := a_ty) (a_bl := a_bl) (a_ex := a_ex) (a_lo := a_lo) (v_nl := v_nl) (a_ho := a_ho) (a_fi := a_fi) (v_nf := v_nf) (a_cz := a_cz) (v_nc := v_nc) (k_sa := k_sa) (f_sa := f_sa) (k_ru := k_ru) (f_ru := f_ru) (sz := s.heap.size) (by decide) hsz hat hn) (cwV 3 hts (gV tw_720 tw_722 tw_32 tw_46 tw_723) rfl rfl rfl (by decide +kernel) ⟨(Nat.le_of_ble_eq_true rfl), (Nat.le_of_ble_eq_true rfl)⟩) ⟨fun a U g mk q => by obtain ⟨q0, q1, qZ, qP, qK, qD⟩ := q; exact ⟨q0, q1, zz_call qZ, qP, va_K.moved (u := U) (U := U.calling g mk a) (Vm.Alike.refl U.vm) qK, qD⟩, va_recv hKc hPc (ci := 5) (q0 := 0) rfl rfl, fun U hU hW => ⟨rfl, by rw [hU], zz_rw hS hFc hU hW hZ, by rw [hU]; exact hPc, va_K.moved hW.alike hKc, hDc.weaken (fun _ _ _ _ => trivial)⟩⟩ rfl rfl hl.1 rfl (lv_room (Nat.le_of_ble_eq_true rfl)) d_M_one_157 ⟨(Nat.le_of_ble_eq_true rfl), (Nat.le_of_ble_eq_true rfl)⟩) hS (fun q _ h => hFc q h) hFc (fun r_33 u t H1 locs ht hvm hw_34 hB hz1 hk1 hS => ?_)
                    generalize hg_x_35 : g_Mg_number 8 3 999 v_sz v_at v_wr v_n f_sa f_ru = x_35 at hw_34 hB hE
                    rw [bv_eq] at hE
                    obtain ⟨hP1, hK1, hD1⟩ := hB
                    rw [ht] at hP1
                    have hK1 := va_K.moved hvm.symm hK1
                    obtain rfl : r_33 = x_35.1 := hw_34
                    obtain ⟨hP, hD⟩ := va_join (wr := []) (w1 := [(a_m, .inr (5, [.int v_th, .ref a_sa, .int v_sz, .int x_35.2.1, .int x_35.2.2.1, .ref a_ru, .ref a_me, .ref a_le, .int v_n, .ref a_cl, .ref a_te, .ref a_ki, .ref a_ty, .ref a_bl, .ref a_ex, .ref a_lo, .int v_nl, .ref a_ho, .ref a_fi, .int v_nf, .ref a_cz, .int v_nc])), (a_sa, .inl (k_sa, 120, .inl f_sa)), (a_ru, .inl (k_ru, 410, .inl x_35.2.2.2))]) hP hD [0, 1, 2] [] rfl rfl (by decide) (by decide) hk1 hFc hP1 hD1
                    replace hK := (hK.sub (tys' := []) [] rfl).app hK1
                    generalize H1 = H at hP hS ⊢
                    replace hP := hP.sub (ws' := [(a_m, .inr (5, [.int v_th, .ref a_sa, .int v_sz, .int x_35.2.1, .int x_35.2.2.1, .ref a_ru, .ref a_me, .ref a_le, .int v_n, .ref a_cl, .ref a_te, .ref a_ki, .ref a_ty, .ref a_bl, .ref a_ex, .ref a_lo, .int v_nl, .ref a_ho, .ref a_fi, .int v_nf, .ref a_cz, .int v_nc])), (a_sa, .inl (k_sa, 120, .inl f_sa)), (a_ru, .inl (k_ru, 410, .inl x_35.2.2.2))]) [0, 1, 2] rfl
                    replace hD := hD.sub (ws' := [(a_m, .inr (5, [.int v_th, .ref a_sa, .int v_sz, .int x_35.2.1, .int x_35.2.2.1, .ref a_ru, .ref a_me, .ref a_le, .int v_n, .ref a_cl, .ref a_te, .ref a_ki, .ref a_ty, .ref a_bl, .ref a_ex, .ref a_lo, .int v_nl, .ref a_ho, .ref a_fi, .int v_nf, .ref a_cz, .int v_nc])), (a_sa, .inl (k_sa, 120, .inl f_sa)), (a_ru, .inl (k_ru, 410, .inl x_35.2.2.2))]) [0, 1, 2] (by decide) rfl
                    replace hK := hK.sub (tys' := [(k_sa, .byte), (k_ru, .int)]) [0, 1] rfl
                    have hP9 := hP.sub (ws' := [(a_m, .inr (5, [.int v_th, .ref a_sa, .int v_sz, .int x_35.2.1, .int x_35.2.2.1, .ref a_ru, .ref a_me, .ref a_le, .int v_n, .ref a_cl, .ref a_te, .ref a_ki, .ref a_ty, .ref a_bl, .ref a_ex, .ref a_lo, .int v_nl, .ref a_ho, .ref a_fi, .int v_nf, .ref a_cz, .int v_nc])), (a_sa, .inl (k_sa, 120, .inl f_sa)), (a_ru, .inl (k_ru, 410, .inl x_35.2.2.2))]) [0, 1, 2] rfl
                    have hD9 := hD.sub (ws' := [(a_m, .inr (5, [.int v_th, .ref a_sa, .int v_sz, .int x_35.2.1, .int x_35.2.2.1, .ref a_ru, .ref a_me, .ref a_le, .int v_n, .ref a_cl, .ref a_te, .ref a_ki, .ref a_ty, .ref a_bl, .ref a_ex, .ref a_lo, .int v_nl, .ref a_ho, .ref a_fi, .int v_nf, .ref a_cz, .int v_nc])), (a_sa, .inl (k_sa, 120, .inl f_sa)), (a_ru, .inl (k_ru, 410, .inl x_35.2.2.2))]) [0, 1, 2] (by decide) rfl
                    have hK9 := hK.sub (tys' := [(k_sa, .byte), (k_ru, .int)]) [0, 1] rfl
                    exact W.zret (v := x_35.1) hx hb hr (by rw [← hg_x_35]; exact nzI nz_Mg_number) (fun t ht hW => ⟨⟨x_35.1, (), rfl, by rw [← hz, hE], by rw [ht, ← hz, hE]; exact hP9, va_K.moved hW.alike hK9, by rw [← hz, hE]; exact hD9⟩, hS.F ht⟩) hS.2.2 d_M_one_160
