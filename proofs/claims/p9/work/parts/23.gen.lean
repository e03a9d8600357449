theorem rop_at {iw : Nat} {p0 w_ln w_pl w_wr : Int32} {f_sg : Nat → Int32} (hiw : iw < nst) (hln : i120 w_ln) (hpl : i120 w_pl) : i120 (g_Cg_readOption p0 iw w_ln w_pl w_wr f_sg).2.1 := by
  unfold g_Cg_readOption
  have h := twb_at (f_sg := f_sg) hiw hln hpl
  repeat' (first | with_reducible refine pt_i (fun t : Int32 × Int32 × Int32 => i120 t.2.1) (fun _ => ?_) (fun _ => ?_) | with_reducible refine pt_v (fun t : Int32 × Int32 × Int32 => i120 t.2.1) ?_)
  all_goals first | with_reducible exact h | with_reducible exact tnum_at hln h
def g_Cg_readCondition (p0 : Int32) (p1 : Int32) (iw : Nat) (w_ln : Int32) (w_pl : Int32) (w_wr : Int32) (f_sg : Nat → Int32) : Int32 × Int32 × Int32 :=
  bv (g_Cg_takesWord iw w_ln w_pl f_sg) (fun x_3 =>
    if x_3.1 = 0 then
      ((-1), x_3.2, w_wr)
    else
      bv (g_Cg_takeNumber p0 p1 w_ln x_3.2 w_wr f_sg) (fun x_7 =>
        bv (g_Cg_takeSpace w_ln x_7.2.1 x_7.2.2 f_sg) (fun x_9 =>
          (x_7.1, x_9.1, x_9.2))))
set_option maxHeartbeats 4000000 in
set_option maxRecDepth 100000 in
theorem c_Cg_readCondition (l : Launch) (dC : Nat → ClassId) (dI : Nat → Nat → Nat) (adK adV : Nat → Nat) (a_tx : Nat) (a_sg : Nat) (k_sg : ClassId) (p0 : Int32) (p1 : Int32) (iw : Nat) (w_ln : Int32) (w_pl : Int32) (w_wr : Int32) (f_sg : Nat → Int32) (sz : Nat) (hiw : iw < nst) (hln : 0 ≤ w_ln.toInt ∧ w_ln.toInt ≤ 120) (hpl : 0 ≤ w_pl.toInt ∧ w_pl.toInt ≤ 120) : Met l y_T_readCondition ws_T_readCondition ({ frames := 5, cells := 0, slots := 0, locals := 107 }) (va_Pc [.ref a_tx, .ref (adK iw), .int p0, .int p1] (fun U => U.heap.size = sz ∧ zz adK adV (va_A [(a_tx, .inr (4, [.ref a_sg, .int w_ln, .int w_pl, .int w_wr])), (a_sg, .inl (k_sg, 120, .inl f_sg))] sz) U ∧ va_P (dC, dI) vwCl [(a_tx, .inr (4, [.ref a_sg, .int w_ln, .int w_pl, .int w_wr])), (a_sg, .inl (k_sg, 120, .inl f_sg))] U.heap ∧ va_K (dC, dI) vwCl [(k_sg, .char)] U ∧ va_D (fun _ => True) [(a_tx, .inr (4, [.ref a_sg, .int w_ln, .int w_pl, .int w_wr])), (a_sg, .inl (k_sg, 120, .inl f_sg))])) (va_Qi (fun (r : Int32) (_ : Unit) => r = (g_Cg_readCondition p0 p1 iw w_ln w_pl w_wr f_sg).1) (fun (_ : Unit) (t : State) => va_P (dC, dI) vwCl [(a_tx, .inr (4, [.ref a_sg, .int w_ln, .int ((g_Cg_readCondition p0 p1 iw w_ln w_pl w_wr f_sg).2.1), .int ((g_Cg_readCondition p0 p1 iw w_ln w_pl w_wr f_sg).2.2)])), (a_sg, .inl (k_sg, 120, .inl f_sg))] t.heap ∧ va_K (dC, dI) vwCl [(k_sg, .char)] t ∧ va_D (va_A [(a_tx, .inr (4, [.ref a_sg, .int w_ln, .int w_pl, .int w_wr])), (a_sg, .inl (k_sg, 120, .inl f_sg))] sz) [(a_tx, .inr (4, [.ref a_sg, .int w_ln, .int ((g_Cg_readCondition p0 p1 iw w_ln w_pl w_wr f_sg).2.1), .int ((g_Cg_readCondition p0 p1 iw w_ln w_pl w_wr f_sg).2.2)])), (a_sg, .inl (k_sg, 120, .inl f_sg))]) (va_A [(a_tx, .inr (4, [.ref a_sg, .int w_ln, .int w_pl, .int w_wr])), (a_sg, .inl (k_sg, 120, .inl f_sg))] sz)) 0 0 (va_A [(a_tx, .inr (4, [.ref a_sg, .int w_ln, .int w_pl, .int w_wr])), (a_sg, .inl (k_sg, 120, .inl f_sg))] sz) := by
  refine Met.ofW (cc := c_T_readCondition) (maxL := 5) (ret := (some .int)) (by decide) rfl ?_
  intro p e s m args below meth c s₁ B hml hv
  obtain ⟨rfl, hsz, hZ, hP, hK, hD0⟩ := hv
  have hx := B.exec
  have hb := B.bytes
  have hr := B.returns
  have hts0 := atoms_spec (ws := ws_T_readCondition) B.pre
  have hts : ∀ w ∈ TT, w.before _ s = true := fun w h => hts0 w (List.mem_cons_of_mem _ h)
  have hown : s.vm.findClass "LoanRules$RuleText" = some m.cls := findClass_of_methodNamed B.named
  have hlocks := B.notSynchronized
  subst hsz
  have hD := hD0.self (sz := s.heap.size)
  generalize hAe : va_A [(a_tx, .inr (4, [.ref a_sg, .int w_ln, .int w_pl, .int w_wr])), (a_sg, .inl (k_sg, 120, .inl f_sg))] s.heap.size = A at hD hZ ⊢
  have hA : ∀ q : Nat, s.heap.size ≤ q → A q := fun q h => by rw [← hAe]; exact Or.inr h
  clear hAe hD0
  have hS : va_S A s.heap s.heap [] := va_S.rf
  replace hP : va_P (dC, dI) vwCl [(a_tx, .inr (4, [.ref a_sg, .int w_ln, .int w_pl, .int w_wr])), (a_sg, .inl (k_sg, 120, .inl f_sg))] s.heap := hP
  have hl := lv_entry ([.ref a_tx, .ref (adK iw), .int p0, .int p1]) (n := 5) (Nat.le_of_ble_eq_true rfl)
  rw [lg_entry_eq]
  generalize (lg_sl ([.ref a_tx, .ref (adK iw), .int p0, .int p1]) ++ List.replicate (5 - (lg_sl ([.ref a_tx, .ref (adK iw), .int p0, .int p1])).length) Slot.unset).toArray = ls at hl ⊢
  replace hl : lv_has ls 5 [(0, .ref a_tx), (1, .ref (adK iw)), (2, .int p0), (3, .int p1)] := hl
  obtain ⟨z, hz⟩ : ∃ z, z = g_Cg_readCondition p0 p1 iw w_ln w_pl w_wr f_sg := ⟨_, rfl⟩
  have hE := hz
  rw [g_Cg_readCondition] at hE
  refine lv_aload_n hx hb d_T_readCondition_0 rfl (lv_at hl 0 rfl) ?_
  refine lv_aload_n hx hb d_T_readCondition_1 rfl (lv_at hl 1 rfl) ?_
  have hPc := hP.sub (ws' := [(a_tx, .inr (4, [.ref a_sg, .int w_ln, .int w_pl, .int w_wr])), (a_sg, .inl (k_sg, 120, .inl f_sg))]) [0, 1] rfl
  have hKc := hK.sub (tys' := [(k_sg, .char)]) [0] rfl
  have hDc := hD.sub (ws' := [(a_tx, .inr (4, [.ref a_sg, .int w_ln, .int w_pl, .int w_wr])), (a_sg, .inl (k_sg, 120, .inl f_sg))]) [0, 1] (by decide) rfl
  have hFc := va_free (wc := [(a_tx, .inr (4, [.ref a_sg, .int w_ln, .int w_pl, .int w_wr])), (a_sg, .inl (k_sg, 120, .inl f_sg))]) hD hS hA [0, 1] rfl
  refine va_calli (va_runV (As := [.ref (adK iw)]) (rest := []) ⟨hx, hb, hml, hown, hts⟩ (c_Cg_takesWord l dC dI adK adV (a_tx := a_tx) (iw := iw) (a_sg := a_sg) (w_ln := w_ln) (w_pl := w_pl) (w_wr := w_wr) (k_sg := k_sg) (f_sg := f_sg) (sz := s.heap.size) hiw) (cwV 1 hts (gV tw_235 tw_237 tw_1 tw_43 tw_238) rfl rfl rfl (by decide +kernel) ⟨(Nat.le_of_ble_eq_true rfl), (Nat.le_of_ble_eq_true rfl)⟩) ⟨fun a U g mk q => by obtain ⟨q0, q1, qZ, qP, qK, qD⟩ := q; exact ⟨q0, q1, zz_call qZ, qP, va_K.moved (u := U) (U := U.calling g mk a) (Vm.Alike.refl U.vm) qK, qD⟩, va_recv hKc hPc (ci := 4) (q0 := 0) rfl rfl, fun U hU hW => ⟨rfl, by rw [hU], zz_rw hS hFc hU hW hZ, by rw [hU]; exact hPc, va_K.moved hW.alike hKc, hDc.weaken (fun _ _ _ _ => trivial)⟩⟩ rfl rfl hl.1 rfl (lv_room (Nat.le_of_ble_eq_true rfl)) d_T_readCondition_2 ⟨(Nat.le_of_ble_eq_true rfl), (Nat.le_of_ble_eq_true rfl)⟩) hS (fun q _ h => hFc q h) hFc (fun r_1 u t H1 locs ht hvm hw_2 hB hz1 hk1 hS => ?_)
  generalize hg_x_3 : g_Cg_takesWord iw w_ln w_pl f_sg = x_3 at hw_2 hB hE
  rw [bv_eq] at hE
  obtain ⟨hP1, hK1, hD1⟩ := hB
  rw [ht] at hP1
  have hK1 := va_K.moved hvm.symm hK1
  obtain rfl : r_1 = x_3.1 := hw_2
  obtain ⟨hP, hD⟩ := va_join (wr := []) (w1 := [(a_tx, .inr (4, [.ref a_sg, .int w_ln, .int x_3.2, .int w_wr])), (a_sg, .inl (k_sg, 120, .inl f_sg))]) hP hD [0, 1] [] rfl rfl (by decide) (by decide) hk1 hFc hP1 hD1
  replace hK := (hK.sub (tys' := []) [] rfl).app hK1
  generalize H1 = H at hP hS ⊢
  replace hP := hP.sub (ws' := [(a_tx, .inr (4, [.ref a_sg, .int w_ln, .int x_3.2, .int w_wr])), (a_sg, .inl (k_sg, 120, .inl f_sg))]) [0, 1] rfl
  replace hD := hD.sub (ws' := [(a_tx, .inr (4, [.ref a_sg, .int w_ln, .int x_3.2, .int w_wr])), (a_sg, .inl (k_sg, 120, .inl f_sg))]) [0, 1] (by decide) rfl
  replace hK := hK.sub (tys' := [(k_sg, .char)]) [0] rfl
  refine lv_if_ne (tgt := 10) hx hb d_T_readCondition_5 (by decide) (fun c_4 => ?_) (fun c_4 => ?_)
  · rw [if_neg c_4] at hE
    refine lv_aload_n hx hb d_T_readCondition_10 rfl (lv_at hl 0 rfl) ?_
    refine lv_iload_n hx hb d_T_readCondition_11 rfl (lv_at hl 2 rfl) ?_
    refine lv_iload_n hx hb d_T_readCondition_12 rfl (lv_at hl 3 rfl) ?_
    have hPc := hP.sub (ws' := [(a_tx, .inr (4, [.ref a_sg, .int w_ln, .int x_3.2, .int w_wr])), (a_sg, .inl (k_sg, 120, .inl f_sg))]) [0, 1] rfl
    have hKc := hK.sub (tys' := [(k_sg, .char)]) [0] rfl
    have hDc := hD.sub (ws' := [(a_tx, .inr (4, [.ref a_sg, .int w_ln, .int x_3.2, .int w_wr])), (a_sg, .inl (k_sg, 120, .inl f_sg))]) [0, 1] (by decide) rfl
    have hFc := va_free (wc := [(a_tx, .inr (4, [.ref a_sg, .int w_ln, .int x_3.2, .int w_wr])), (a_sg, .inl (k_sg, 120, .inl f_sg))]) hD hS hA [0, 1] rfl
    refine va_calli (va_runV (As := [.int p0, .int p1]) (rest := []) ⟨hx, hb, hml, hown, hts⟩ (c_Cg_takeNumber l dC dI adK adV (a_tx := a_tx) (p0 := p0) (p1 := p1) (a_sg := a_sg) (w_ln := w_ln) (w_pl := x_3.2) (w_wr := w_wr) (k_sg := k_sg) (f_sg := f_sg) (sz := H.size) hln (ga2 hg_x_3 (twd_at hiw hln hpl))) (cwV 2 hts (gV tw_294 tw_296 tw_3 tw_43 tw_297) rfl rfl rfl (by decide +kernel) ⟨(Nat.le_of_ble_eq_true rfl), (Nat.le_of_ble_eq_true rfl)⟩) ⟨fun a U g mk q => by obtain ⟨q0, q1, qZ, qP, qK, qD⟩ := q; exact ⟨q0, q1, zz_call qZ, qP, va_K.moved (u := U) (U := U.calling g mk a) (Vm.Alike.refl U.vm) qK, qD⟩, va_recv hKc hPc (ci := 4) (q0 := 0) rfl rfl, fun U hU hW => ⟨rfl, by rw [hU], zz_rw hS hFc hU hW hZ, by rw [hU]; exact hPc, va_K.moved hW.alike hKc, hDc.weaken (fun _ _ _ _ => trivial)⟩⟩ rfl rfl hl.1 rfl (lv_room (Nat.le_of_ble_eq_true rfl)) d_T_readCondition_13 ⟨(Nat.le_of_ble_eq_true rfl), (Nat.le_of_ble_eq_true rfl)⟩) hS (fun q _ h => hFc q h) hFc (fun r_5 u t H1 locs ht hvm hw_6 hB hz1 hk1 hS => ?_)
    generalize hg_x_7 : g_Cg_takeNumber p0 p1 w_ln x_3.2 w_wr f_sg = x_7 at hw_6 hB hE
    rw [bv_eq] at hE
    obtain ⟨hP1, hK1, hD1⟩ := hB
    rw [ht] at hP1
    have hK1 := va_K.moved hvm.symm hK1
    obtain rfl : r_5 = x_7.1 := hw_6
    obtain ⟨hP, hD⟩ := va_join (wr := []) (w1 := [(a_tx, .inr (4, [.ref a_sg, .int w_ln, .int x_7.2.1, .int x_7.2.2])), (a_sg, .inl (k_sg, 120, .inl f_sg))]) hP hD [0, 1] [] rfl rfl (by decide) (by decide) hk1 hFc hP1 hD1
    replace hK := (hK.sub (tys' := []) [] rfl).app hK1
    generalize H1 = H at hP hS ⊢
    replace hP := hP.sub (ws' := [(a_tx, .inr (4, [.ref a_sg, .int w_ln, .int x_7.2.1, .int x_7.2.2])), (a_sg, .inl (k_sg, 120, .inl f_sg))]) [0, 1] rfl
    replace hD := hD.sub (ws' := [(a_tx, .inr (4, [.ref a_sg, .int w_ln, .int x_7.2.1, .int x_7.2.2])), (a_sg, .inl (k_sg, 120, .inl f_sg))]) [0, 1] (by decide) rfl
    replace hK := hK.sub (tys' := [(k_sg, .char)]) [0] rfl
    refine lv_istore (lv' := [(4, .int x_7.1), (0, .ref a_tx), (1, .ref (adK iw)), (2, .int p0), (3, .int p1)]) hx hb d_T_readCondition_16 hl (by decide) rfl (fun ls hl => ?_)
    refine lv_aload_n hx hb d_T_readCondition_18 rfl (lv_at hl 1 rfl) ?_
    have hPc := hP.sub (ws' := [(a_tx, .inr (4, [.ref a_sg, .int w_ln, .int x_7.2.1, .int x_7.2.2])), (a_sg, .inl (k_sg, 120, .inl f_sg))]) [0, 1] rfl
    have hKc := hK.sub (tys' := [(k_sg, .char)]) [0] rfl
    have hDc := hD.sub (ws' := [(a_tx, .inr (4, [.ref a_sg, .int w_ln, .int x_7.2.1, .int x_7.2.2])), (a_sg, .inl (k_sg, 120, .inl f_sg))]) [0, 1] (by decide) rfl
    have hFc := va_free (wc := [(a_tx, .inr (4, [.ref a_sg, .int w_ln, .int x_7.2.1, .int x_7.2.2])), (a_sg, .inl (k_sg, 120, .inl f_sg))]) hD hS hA [0, 1] rfl
    refine va_callv (va_runV (As := []) (rest := []) ⟨hx, hb, hml, hown, hts⟩ (c_Cg_takeSpace l dC dI adK adV (a_tx := a_tx) (a_sg := a_sg) (w_ln := w_ln) (w_pl := x_7.2.1) (w_wr := x_7.2.2) (k_sg := k_sg) (f_sg := f_sg) (sz := H.size)) (cwV 0 hts (gV tw_298 tw_300 tw_4 tw_43 tw_301) rfl rfl rfl (by decide +kernel) ⟨(Nat.le_of_ble_eq_true rfl), (Nat.le_of_ble_eq_true rfl)⟩) ⟨fun a U g mk q => by obtain ⟨q0, q1, qZ, qP, qK, qD⟩ := q; exact ⟨q0, q1, zz_call qZ, qP, va_K.moved (u := U) (U := U.calling g mk a) (Vm.Alike.refl U.vm) qK, qD⟩, va_recv hKc hPc (ci := 4) (q0 := 0) rfl rfl, fun U hU hW => ⟨rfl, by rw [hU], zz_rw hS hFc hU hW hZ, by rw [hU]; exact hPc, va_K.moved hW.alike hKc, hDc.weaken (fun _ _ _ _ => trivial)⟩⟩ rfl rfl hl.1 rfl (lv_room (Nat.le_of_ble_eq_true rfl)) d_T_readCondition_19 ⟨(Nat.le_of_ble_eq_true rfl), (Nat.le_of_ble_eq_true rfl)⟩) hS (fun q _ h => hFc q h) hFc (fun u t H1 locs ht hvm hw_8 hB hz1 hk1 hS => ?_)
    generalize hg_x_9 : g_Cg_takeSpace w_ln x_7.2.1 x_7.2.2 f_sg = x_9 at hw_8 hB hE
    rw [bv_eq] at hE
    obtain ⟨hP1, hK1, hD1⟩ := hB
    rw [ht] at hP1
    have hK1 := va_K.moved hvm.symm hK1
    obtain ⟨hP, hD⟩ := va_join (wr := []) (w1 := [(a_tx, .inr (4, [.ref a_sg, .int w_ln, .int x_9.1, .int x_9.2])), (a_sg, .inl (k_sg, 120, .inl f_sg))]) hP hD [0, 1] [] rfl rfl (by decide) (by decide) hk1 hFc hP1 hD1
    replace hK := (hK.sub (tys' := []) [] rfl).app hK1
    generalize H1 = H at hP hS ⊢
    replace hP := hP.sub (ws' := [(a_tx, .inr (4, [.ref a_sg, .int w_ln, .int x_9.1, .int x_9.2])), (a_sg, .inl (k_sg, 120, .inl f_sg))]) [0, 1] rfl
    replace hD := hD.sub (ws' := [(a_tx, .inr (4, [.ref a_sg, .int w_ln, .int x_9.1, .int x_9.2])), (a_sg, .inl (k_sg, 120, .inl f_sg))]) [0, 1] (by decide) rfl
    replace hK := hK.sub (tys' := [(k_sg, .char)]) [0] rfl
    refine lv_iload hx hb d_T_readCondition_22 (lv_at hl 0 rfl) ?_
    have hP9 := hP.sub (ws' := [(a_tx, .inr (4, [.ref a_sg, .int w_ln, .int x_9.1, .int x_9.2])), (a_sg, .inl (k_sg, 120, .inl f_sg))]) [0, 1] rfl
    have hD9 := hD.sub (ws' := [(a_tx, .inr (4, [.ref a_sg, .int w_ln, .int x_9.1, .int x_9.2])), (a_sg, .inl (k_sg, 120, .inl f_sg))]) [0, 1] (by decide) rfl
    have hK9 := hK.sub (tys' := [(k_sg, .char)]) [0] rfl
    exact W.iret (v := x_7.1) hx hb hr (fun t ht hW => ⟨⟨x_7.1, (), rfl, by rw [← hz, hE], by rw [ht, ← hz, hE]; exact hP9, va_K.moved hW.alike hK9, by rw [← hz, hE]; exact hD9⟩, hS.F ht⟩) hS.2.2 d_T_readCondition_24
  · rw [if_pos c_4] at hE
    refine lv_iconst (v := (-1)) hx hb d_T_readCondition_8 (by decide) ?_
    have hP9 := hP.sub (ws' := [(a_tx, .inr (4, [.ref a_sg, .int w_ln, .int x_3.2, .int w_wr])), (a_sg, .inl (k_sg, 120, .inl f_sg))]) [0, 1] rfl
    have hD9 := hD.sub (ws' := [(a_tx, .inr (4, [.ref a_sg, .int w_ln, .int x_3.2, .int w_wr])), (a_sg, .inl (k_sg, 120, .inl f_sg))]) [0, 1] (by decide) rfl
    have hK9 := hK.sub (tys' := [(k_sg, .char)]) [0] rfl
    exact W.iret (v := (-1)) hx hb hr (fun t ht hW => ⟨⟨(-1), (), rfl, by rw [← hz, hE], by rw [ht, ← hz, hE]; exact hP9, va_K.moved hW.alike hK9, by rw [← hz, hE]; exact hD9⟩, hS.F ht⟩) hS.2.2 d_T_readCondition_9
theorem rcn_at {iw : Nat} {p0 p1 w_ln w_pl w_wr : Int32} {f_sg : Nat → Int32} (hiw : iw < nst) (hln : i120 w_ln) (hpl : i120 w_pl) : i120 (g_Cg_readCondition p0 p1 iw w_ln w_pl w_wr f_sg).2.1 := by
  unfold g_Cg_readCondition
  have h := twd_at (f_sg := f_sg) hiw hln hpl
  repeat' (first | with_reducible refine pt_i (fun t : Int32 × Int32 × Int32 => i120 t.2.1) (fun _ => ?_) (fun _ => ?_) | with_reducible refine pt_v (fun t : Int32 × Int32 × Int32 => i120 t.2.1) ?_)
  all_goals first | with_reducible exact h | with_reducible exact tnum_at hln h | with_reducible exact tsp_at hln (tnum_at hln h)
def g_Cg_lends (r_de : Int32) : Int32 :=
  if r_de = 0 then
    1
  else
    if r_de = 1 then
      1
    else
      0
set_option maxHeartbeats 4000000 in
set_option maxRecDepth 100000 in
theorem c_Cg_lends (l : Launch) (dC : Nat → ClassId) (dI : Nat → Nat → Nat) (adK adV : Nat → Nat) (a_to : Nat) (r_ki : Int32) (r_ty : Int32) (r_pe : Int32) (r_de : Int32) (r_da : Int32) (r_re : Int32) (r_ga : Int32) (r_rc : Int32) (r_rk : Int32) (r_me : Int32) (r_le : Int32) : Met l y_R_lends ws_R_lends ({ frames := 0, cells := 0, slots := 0, locals := 0 }) (va_Pc [.ref a_to] (fun U => zz adK adV (fun _ => False) U ∧ va_P (dC, dI) vwCl [(a_to, .inr (3, [.int r_ki, .int r_ty, .int r_pe, .int r_de, .int r_da, .int r_re, .int r_ga, .int r_rc, .int r_rk, .int r_me, .int r_le]))] U.heap ∧ va_K (dC, dI) vwCl [] U)) (vp_Si (fun r => r = g_Cg_lends r_de)) 0 0 (fun _ => False) := by
  refine Met.ofW (cc := c_R_lends) (maxL := 1) (ret := (some .boolean)) (by decide) rfl ?_
  intro p e s m args below meth c s₁ B hml hv
  obtain ⟨rfl, hZ, hP, hK⟩ := hv
  have hx := B.exec
  have hb := B.bytes
  have hr := B.returns
  have hts0 := atoms_spec (ws := ws_R_lends) B.pre
  have hts : ∀ w ∈ TT, w.before _ s = true := fun w h => hts0 w (List.mem_cons_of_mem _ h)
  have hown : s.vm.findClass "LoanRules$Rule" = some m.cls := findClass_of_methodNamed B.named
  have hlocks := B.notSynchronized
  have hS : va_S (fun _ => False) s.heap s.heap [] := va_S.rf
  replace hP : va_P (dC, dI) vwCl [(a_to, .inr (3, [.int r_ki, .int r_ty, .int r_pe, .int r_de, .int r_da, .int r_re, .int r_ga, .int r_rc, .int r_rk, .int r_me, .int r_le]))] s.heap := hP
  have hl := lv_entry ([.ref a_to]) (n := 1) (Nat.le_of_ble_eq_true rfl)
  rw [lg_entry_eq]
  generalize (lg_sl ([.ref a_to]) ++ List.replicate (1 - (lg_sl ([.ref a_to])).length) Slot.unset).toArray = ls at hl ⊢
  replace hl : lv_has ls 1 [(0, .ref a_to)] := hl
  obtain ⟨z, hz⟩ : ∃ z, z = g_Cg_lends r_de := ⟨_, rfl⟩
  have hE := hz
  rw [g_Cg_lends] at hE
  refine lv_aload_n hx hb d_R_lends_0 rfl (lv_at hl 0 rfl) ?_
  refine va_get (D := (dC, dI)) (ci := 3) (v := .int r_de) (C := "LoanRules$Rule") (T := Fz_R) (N := 11) hx hb hts it_R hown hK hP 0 rfl rfl 3 (by decide) (hts _ tw_181) (fun _ h9 => h9) rfl d_R_lends_1 ?_
  refine lv_if_eq (tgt := 15) hx hb d_R_lends_4 (by decide) (fun c_1 => ?_) (fun c_1 => ?_)
  · rw [if_pos c_1] at hE
    refine lv_iconst (v := 1) hx hb d_R_lends_15 (by decide) ?_
    refine lv_goto (tgt := 20) hx hb d_R_lends_16 (by decide) ?_
    exact W.zret (v := 1) hx hb hr rfl (fun t ht hW => ⟨1, rfl, hE.symm.trans hz, ht⟩) (fun _ h => by cases h) d_R_lends_20
  · rw [if_neg c_1] at hE
    refine lv_aload_n hx hb d_R_lends_7 rfl (lv_at hl 0 rfl) ?_
    refine va_get (D := (dC, dI)) (ci := 3) (v := .int r_de) (C := "LoanRules$Rule") (T := Fz_R) (N := 11) hx hb hts it_R hown hK hP 0 rfl rfl 3 (by decide) (hts _ tw_181) (fun _ h9 => h9) rfl d_R_lends_8 ?_
    refine lv_iconst (v := 1) hx hb d_R_lends_11 (by decide) ?_
    refine lv_icmp_ne (tgt := 19) hx hb d_R_lends_12 (by decide) (fun c_2 => ?_) (fun c_2 => ?_)
    · rw [if_neg c_2] at hE
      refine lv_iconst (v := 0) hx hb d_R_lends_19 (by decide) ?_
      exact W.zret (v := 0) hx hb hr rfl (fun t ht hW => ⟨0, rfl, hE.symm.trans hz, ht⟩) (fun _ h => by cases h) d_R_lends_20
    · rw [if_pos c_2] at hE
      refine lv_iconst (v := 1) hx hb d_R_lends_15 (by decide) ?_
      refine lv_goto (tgt := 20) hx hb d_R_lends_16 (by decide) ?_
      exact W.zret (v := 1) hx hb hr rfl (fun t ht hW => ⟨1, rfl, hE.symm.trans hz, ht⟩) (fun _ h => by cases h) d_R_lends_20
def g_Cg_readLength (w_ln : Int32) (w_pl : Int32) (w_wr : Int32) (f_sg : Nat → Int32) (r_da : Int32) : Int32 × Int32 × Int32 × Int32 :=
  bv (g_Cg_takesWordBehindSpace 0 w_ln w_pl f_sg) (fun x_3 =>
    if x_3.1 = 0 then
      bv (g_Cg_takeNumber 3 999 w_ln x_3.2 w_wr f_sg) (fun x_7 =>
        (x_7.2.1, x_7.2.2, 0, x_7.1))
    else
      (x_3.2, w_wr, 1, r_da))
set_option maxHeartbeats 4000000 in
set_option maxRecDepth 100000 in
theorem c_Cg_readLength (l : Launch) (dC : Nat → ClassId) (dI : Nat → Nat → Nat) (adK adV : Nat → Nat) (a_tx : Nat) (a_sg : Nat) (a_to : Nat) (k_sg : ClassId) (w_ln : Int32) (w_pl : Int32) (w_wr : Int32) (f_sg : Nat → Int32) (r_ki : Int32) (r_ty : Int32) (r_pe : Int32) (r_de : Int32) (r_da : Int32) (r_re : Int32) (r_ga : Int32) (r_rc : Int32) (r_rk : Int32) (r_me : Int32) (r_le : Int32) (sz : Nat) (hln : 0 ≤ w_ln.toInt ∧ w_ln.toInt ≤ 120) (hpl : 0 ≤ w_pl.toInt ∧ w_pl.toInt ≤ 120) : Met l y_T_readLength ws_T_readLength ({ frames := 6, cells := 0, slots := 0, locals := 128 }) (va_Pc [.ref a_tx, .ref a_to] (fun U => U.heap.size = sz ∧ zz adK adV (va_A [(a_tx, .inr (4, [.ref a_sg, .int w_ln, .int w_pl, .int w_wr])), (a_sg, .inl (k_sg, 120, .inl f_sg)), (a_to, .inr (3, [.int r_ki, .int r_ty, .int r_pe, .int r_de, .int r_da, .int r_re, .int r_ga, .int r_rc, .int r_rk, .int r_me, .int r_le]))] sz) U ∧ va_P (dC, dI) vwCl [(a_tx, .inr (4, [.ref a_sg, .int w_ln, .int w_pl, .int w_wr])), (a_sg, .inl (k_sg, 120, .inl f_sg)), (a_to, .inr (3, [.int r_ki, .int r_ty, .int r_pe, .int r_de, .int r_da, .int r_re, .int r_ga, .int r_rc, .int r_rk, .int r_me, .int r_le]))] U.heap ∧ va_K (dC, dI) vwCl [(k_sg, .char)] U ∧ va_D (fun _ => True) [(a_tx, .inr (4, [.ref a_sg, .int w_ln, .int w_pl, .int w_wr])), (a_sg, .inl (k_sg, 120, .inl f_sg)), (a_to, .inr (3, [.int r_ki, .int r_ty, .int r_pe, .int r_de, .int r_da, .int r_re, .int r_ga, .int r_rc, .int r_rk, .int r_me, .int r_le]))])) (va_Qv (fun _ : Unit => True) (fun (_ : Unit) (t : State) => va_P (dC, dI) vwCl [(a_tx, .inr (4, [.ref a_sg, .int w_ln, .int ((g_Cg_readLength w_ln w_pl w_wr f_sg r_da).1), .int ((g_Cg_readLength w_ln w_pl w_wr f_sg r_da).2.1)])), (a_sg, .inl (k_sg, 120, .inl f_sg)), (a_to, .inr (3, [.int r_ki, .int r_ty, .int r_pe, .int ((g_Cg_readLength w_ln w_pl w_wr f_sg r_da).2.2.1), .int ((g_Cg_readLength w_ln w_pl w_wr f_sg r_da).2.2.2), .int r_re, .int r_ga, .int r_rc, .int r_rk, .int r_me, .int r_le]))] t.heap ∧ va_K (dC, dI) vwCl [(k_sg, .char)] t ∧ va_D (va_A [(a_tx, .inr (4, [.ref a_sg, .int w_ln, .int w_pl, .int w_wr])), (a_sg, .inl (k_sg, 120, .inl f_sg)), (a_to, .inr (3, [.int r_ki, .int r_ty, .int r_pe, .int r_de, .int r_da, .int r_re, .int r_ga, .int r_rc, .int r_rk, .int r_me, .int r_le]))] sz) [(a_tx, .inr (4, [.ref a_sg, .int w_ln, .int ((g_Cg_readLength w_ln w_pl w_wr f_sg r_da).1), .int ((g_Cg_readLength w_ln w_pl w_wr f_sg r_da).2.1)])), (a_sg, .inl (k_sg, 120, .inl f_sg)), (a_to, .inr (3, [.int r_ki, .int r_ty, .int r_pe, .int ((g_Cg_readLength w_ln w_pl w_wr f_sg r_da).2.2.1), .int ((g_Cg_readLength w_ln w_pl w_wr f_sg r_da).2.2.2), .int r_re, .int r_ga, .int r_rc, .int r_rk, .int r_me, .int r_le]))]) (va_A [(a_tx, .inr (4, [.ref a_sg, .int w_ln, .int w_pl, .int w_wr])), (a_sg, .inl (k_sg, 120, .inl f_sg)), (a_to, .inr (3, [.int r_ki, .int r_ty, .int r_pe, .int r_de, .int r_da, .int r_re, .int r_ga, .int r_rc, .int r_rk, .int r_me, .int r_le]))] sz)) 0 0 (va_A [(a_tx, .inr (4, [.ref a_sg, .int w_ln, .int w_pl, .int w_wr])), (a_sg, .inl (k_sg, 120, .inl f_sg)), (a_to, .inr (3, [.int r_ki, .int r_ty, .int r_pe, .int r_de, .int r_da, .int r_re, .int r_ga, .int r_rc, .int r_rk, .int r_me, .int r_le]))] sz) := by
  refine Met.ofW (cc := c_T_readLength) (maxL := 2) (ret := none) (by decide) rfl ?_
  intro p e s m args below meth c s₁ B hml hv
  obtain ⟨rfl, hsz, hZ, hP, hK, hD0⟩ := hv
  have hx := B.exec
  have hb := B.bytes
  have hr := B.returns
  have hts0 := atoms_spec (ws := ws_T_readLength) B.pre
  have hts : ∀ w ∈ TT, w.before _ s = true := fun w h => hts0 w (List.mem_cons_of_mem _ h)
  have hown : s.vm.findClass "LoanRules$RuleText" = some m.cls := findClass_of_methodNamed B.named
  have hlocks := B.notSynchronized
  subst hsz
  have hD := hD0.self (sz := s.heap.size)
  generalize hAe : va_A [(a_tx, .inr (4, [.ref a_sg, .int w_ln, .int w_pl, .int w_wr])), (a_sg, .inl (k_sg, 120, .inl f_sg)), (a_to, .inr (3, [.int r_ki, .int r_ty, .int r_pe, .int r_de, .int r_da, .int r_re, .int r_ga, .int r_rc, .int r_rk, .int r_me, .int r_le]))] s.heap.size = A at hD hZ ⊢
  have hA : ∀ q : Nat, s.heap.size ≤ q → A q := fun q h => by rw [← hAe]; exact Or.inr h
  clear hAe hD0
  have hS : va_S A s.heap s.heap [] := va_S.rf
  replace hP : va_P (dC, dI) vwCl [(a_tx, .inr (4, [.ref a_sg, .int w_ln, .int w_pl, .int w_wr])), (a_sg, .inl (k_sg, 120, .inl f_sg)), (a_to, .inr (3, [.int r_ki, .int r_ty, .int r_pe, .int r_de, .int r_da, .int r_re, .int r_ga, .int r_rc, .int r_rk, .int r_me, .int r_le]))] s.heap := hP
  have hl := lv_entry ([.ref a_tx, .ref a_to]) (n := 2) (Nat.le_of_ble_eq_true rfl)
  rw [lg_entry_eq]
  generalize (lg_sl ([.ref a_tx, .ref a_to]) ++ List.replicate (2 - (lg_sl ([.ref a_tx, .ref a_to])).length) Slot.unset).toArray = ls at hl ⊢
  replace hl : lv_has ls 2 [(0, .ref a_tx), (1, .ref a_to)] := hl
  obtain ⟨z, hz⟩ : ∃ z, z = g_Cg_readLength w_ln w_pl w_wr f_sg r_da := ⟨_, rfl⟩
  have hE := hz
  rw [g_Cg_readLength] at hE
  refine lv_aload_n hx hb d_T_readLength_0 rfl (lv_at hl 0 rfl) ?_
  refine va_ldcS hx hb hown (zs_T_77 hZ) d_T_readLength_1 ?_
  have hPc := hP.sub (ws' := [(a_tx, .inr (4, [.ref a_sg, .int w_ln, .int w_pl, .int w_wr])), (a_sg, .inl (k_sg, 120, .inl f_sg))]) [0, 1] rfl
  have hKc := hK.sub (tys' := [(k_sg, .char)]) [0] rfl
  have hDc := hD.sub (ws' := [(a_tx, .inr (4, [.ref a_sg, .int w_ln, .int w_pl, .int w_wr])), (a_sg, .inl (k_sg, 120, .inl f_sg))]) [0, 1] (by decide) rfl
  have hFc := va_free (wc := [(a_tx, .inr (4, [.ref a_sg, .int w_ln, .int w_pl, .int w_wr])), (a_sg, .inl (k_sg, 120, .inl f_sg))]) hD hS hA [0, 1] rfl
  refine va_calli (va_runV (As := [.ref (adK 0)]) (rest := []) ⟨hx, hb, hml, hown, hts⟩ (c_Cg_takesWordBehindSpace l dC dI adK adV (a_tx := a_tx) (iw := 0) (a_sg := a_sg) (w_ln := w_ln) (w_pl := w_pl) (w_wr := w_wr) (k_sg := k_sg) (f_sg := f_sg) (sz := s.heap.size) (by decide)) (cwV 1 hts (gV tw_321 tw_323 tw_8 tw_43 tw_324) rfl rfl rfl (by decide +kernel) ⟨(Nat.le_of_ble_eq_true rfl), (Nat.le_of_ble_eq_true rfl)⟩) ⟨fun a U g mk q => by obtain ⟨q0, q1, qZ, qP, qK, qD⟩ := q; exact ⟨q0, q1, zz_call qZ, qP, va_K.moved (u := U) (U := U.calling g mk a) (Vm.Alike.refl U.vm) qK, qD⟩, va_recv hKc hPc (ci := 4) (q0 := 0) rfl rfl, fun U hU hW => ⟨rfl, by rw [hU], zz_rw hS hFc hU hW hZ, by rw [hU]; exact hPc, va_K.moved hW.alike hKc, hDc.weaken (fun _ _ _ _ => trivial)⟩⟩ rfl rfl hl.1 rfl (lv_room (Nat.le_of_ble_eq_true rfl)) d_T_readLength_3 ⟨(Nat.le_of_ble_eq_true rfl), (Nat.le_of_ble_eq_true rfl)⟩) hS (fun q _ h => hFc q h) hFc (fun r_1 u t H1 locs ht hvm hw_2 hB hz1 hk1 hS => ?_)
  generalize hg_x_3 : g_Cg_takesWordBehindSpace 0 w_ln w_pl f_sg = x_3 at hw_2 hB hE
  rw [bv_eq] at hE
  obtain ⟨hP1, hK1, hD1⟩ := hB
  rw [ht] at hP1
  have hK1 := va_K.moved hvm.symm hK1
  obtain rfl : r_1 = x_3.1 := hw_2
  obtain ⟨hP, hD⟩ := va_join (wr := [(a_to, .inr (3, [.int r_ki, .int r_ty, .int r_pe, .int r_de, .int r_da, .int r_re, .int r_ga, .int r_rc, .int r_rk, .int r_me, .int r_le]))]) (w1 := [(a_tx, .inr (4, [.ref a_sg, .int w_ln, .int x_3.2, .int w_wr])), (a_sg, .inl (k_sg, 120, .inl f_sg))]) hP hD [0, 1] [2] rfl rfl (by decide) (by decide) hk1 hFc hP1 hD1
  replace hK := (hK.sub (tys' := []) [] rfl).app hK1
  generalize H1 = H at hP hS ⊢
  replace hP := hP.sub (ws' := [(a_tx, .inr (4, [.ref a_sg, .int w_ln, .int x_3.2, .int w_wr])), (a_sg, .inl (k_sg, 120, .inl f_sg)), (a_to, .inr (3, [.int r_ki, .int r_ty, .int r_pe, .int r_de, .int r_da, .int r_re, .int r_ga, .int r_rc, .int r_rk, .int r_me, .int r_le]))]) [1, 2, 0] rfl
  replace hD := hD.sub (ws' := [(a_tx, .inr (4, [.ref a_sg, .int w_ln, .int x_3.2, .int w_wr])), (a_sg, .inl (k_sg, 120, .inl f_sg)), (a_to, .inr (3, [.int r_ki, .int r_ty, .int r_pe, .int r_de, .int r_da, .int r_re, .int r_ga, .int r_rc, .int r_rk, .int r_me, .int r_le]))]) [1, 2, 0] (by decide) rfl
  replace hK := hK.sub (tys' := [(k_sg, .char)]) [0] rfl
  refine lv_if_eq (tgt := 17) hx hb d_T_readLength_6 (by decide) (fun c_4 => ?_) (fun c_4 => ?_)
  · rw [if_pos c_4] at hE
    refine lv_aload_n hx hb d_T_readLength_17 rfl (lv_at hl 1 rfl) ?_
    refine lv_iconst (v := 0) hx hb d_T_readLength_18 (by decide) ?_
    refine va_put (D := (dC, dI)) (ci := 3) (v := .int 0) (ty := .int) (C := "LoanRules$Rule") (T := Fz_R) (N := 11) hx hb hts it_R tz_R tz_R_ok nz_R hown hK hP hD hS 2 rfl rfl 3 (by decide) (hts _ tw_182) (fun _ h9 => h9) rfl (by decide +kernel) rfl rfl (Nat.le_of_ble_eq_true rfl) d_T_readLength_19 (fun H locs hP hD hS => ?_)
    replace hP : va_P (dC, dI) vwCl [(a_tx, .inr (4, [.ref a_sg, .int w_ln, .int x_3.2, .int w_wr])), (a_sg, .inl (k_sg, 120, .inl f_sg)), (a_to, .inr (3, [.int r_ki, .int r_ty, .int r_pe, .int 0, .int r_da, .int r_re, .int r_ga, .int r_rc, .int r_rk, .int r_me, .int r_le]))] H := hP
    replace hD : va_D A [(a_tx, .inr (4, [.ref a_sg, .int w_ln, .int x_3.2, .int w_wr])), (a_sg, .inl (k_sg, 120, .inl f_sg)), (a_to, .inr (3, [.int r_ki, .int r_ty, .int r_pe, .int 0, .int r_da, .int r_re, .int r_ga, .int r_rc, .int r_rk, .int r_me, .int r_le]))] := hD
    refine lv_aload_n hx hb d_T_readLength_22 rfl (lv_at hl 1 rfl) ?_
    refine lv_aload_n hx hb d_T_readLength_23 rfl (lv_at hl 0 rfl) ?_
    refine lv_iconst (v := 3) hx hb d_T_readLength_24 (by decide) ?_
    refine lv_sipush (v := 999) hx hb d_T_readLength_25 (by decide) ?_
    have hPc := hP.sub (ws' := [(a_tx, .inr (4, [.ref a_sg, .int w_ln, .int x_3.2, .int w_wr])), (a_sg, .inl (k_sg, 120, .inl f_sg))]) [0, 1] rfl
    have hKc := hK.sub (tys' := [(k_sg, .char)]) [0] rfl
    have hDc := hD.sub (ws' := [(a_tx, .inr (4, [.ref a_sg, .int w_ln, .int x_3.2, .int w_wr])), (a_sg, .inl (k_sg, 120, .inl f_sg))]) [0, 1] (by decide) rfl
    have hFc := va_free (wc := [(a_tx, .inr (4, [.ref a_sg, .int w_ln, .int x_3.2, .int w_wr])), (a_sg, .inl (k_sg, 120, .inl f_sg))]) hD hS hA [0, 1] rfl
    refine va_calli (va_runV (As := [.int 3, .int 999]) (rest := [.ref a_to]) ⟨hx, hb, hml, hown, hts⟩ (c_Cg_takeNumber l dC dI adK adV (a_tx := a_tx) (p0 := 3) (p1 := 999) (a_sg := a_sg) (w_ln := w_ln) (w_pl := x_3.2) (w_wr := w_wr) (k_sg := k_sg) (f_sg := f_sg) (sz := H.size) hln (ga2 hg_x_3 (twb_at (by decide) hln hpl))) (cwV 2 hts (gV tw_294 tw_296 tw_3 tw_43 tw_297) rfl rfl rfl (by decide +kernel) ⟨(Nat.le_of_ble_eq_true rfl), (Nat.le_of_ble_eq_true rfl)⟩) ⟨fun a U g mk q => by obtain ⟨q0, q1, qZ, qP, qK, qD⟩ := q; exact ⟨q0, q1, zz_call qZ, qP, va_K.moved (u := U) (U := U.calling g mk a) (Vm.Alike.refl U.vm) qK, qD⟩, va_recv hKc hPc (ci := 4) (q0 := 0) rfl rfl, fun U hU hW => ⟨rfl, by rw [hU], zz_rw hS hFc hU hW hZ, by rw [hU]; exact hPc, va_K.moved hW.alike hKc, hDc.weaken (fun _ _ _ _ => trivial)⟩⟩ rfl rfl hl.1 rfl (lv_room (Nat.le_of_ble_eq_true rfl)) d_T_readLength_28 ⟨(Nat.le_of_ble_eq_true rfl), (Nat.le_of_ble_eq_true rfl)⟩) hS (fun q _ h => hFc q h) hFc (fun r_5 u t H1 locs ht hvm hw_6 hB hz1 hk1 hS => ?_)
    generalize hg_x_7 : g_Cg_takeNumber 3 999 w_ln x_3.2 w_wr f_sg = x_7 at hw_6 hB hE
    rw [bv_eq] at hE
    obtain ⟨hP1, hK1, hD1⟩ := hB
    rw [ht] at hP1
    have hK1 := va_K.moved hvm.symm hK1
    obtain rfl : r_5 = x_7.1 := hw_6
    obtain ⟨hP, hD⟩ := va_join (wr := [(a_to, .inr (3, [.int r_ki, .int r_ty, .int r_pe, .int 0, .int r_da, .int r_re, .int r_ga, .int r_rc, .int r_rk, .int r_me, .int r_le]))]) (w1 := [(a_tx, .inr (4, [.ref a_sg, .int w_ln, .int x_7.2.1, .int x_7.2.2])), (a_sg, .inl (k_sg, 120, .inl f_sg))]) hP hD [0, 1] [2] rfl rfl (by decide) (by decide) hk1 hFc hP1 hD1
    replace hK := (hK.sub (tys' := []) [] rfl).app hK1
    generalize H1 = H at hP hS ⊢
    replace hP := hP.sub (ws' := [(a_tx, .inr (4, [.ref a_sg, .int w_ln, .int x_7.2.1, .int x_7.2.2])), (a_sg, .inl (k_sg, 120, .inl f_sg)), (a_to, .inr (3, [.int r_ki, .int r_ty, .int r_pe, .int 0, .int r_da, .int r_re, .int r_ga, .int r_rc, .int r_rk, .int r_me, .int r_le]))]) [1, 2, 0] rfl
    replace hD := hD.sub (ws' := [(a_tx, .inr (4, [.ref a_sg, .int w_ln, .int x_7.2.1, .int x_7.2.2])), (a_sg, .inl (k_sg, 120, .inl f_sg)), (a_to, .inr (3, [.int r_ki, .int r_ty, .int r_pe, .int 0, .int r_da, .int r_re, .int r_ga, .int r_rc, .int r_rk, .int r_me, .int r_le]))]) [1, 2, 0] (by decide) rfl
    replace hK := hK.sub (tys' := [(k_sg, .char)]) [0] rfl
    refine va_put (D := (dC, dI)) (ci := 3) (v := .int x_7.1) (ty := .int) (C := "LoanRules$Rule") (T := Fz_R) (N := 11) hx hb hts it_R tz_R tz_R_ok nz_R hown hK hP hD hS 2 rfl rfl 4 (by decide) (hts _ tw_185) (fun _ h9 => h9) rfl (by decide +kernel) rfl rfl (Nat.le_of_ble_eq_true rfl) d_T_readLength_31 (fun H locs hP hD hS => ?_)
    replace hP : va_P (dC, dI) vwCl [(a_tx, .inr (4, [.ref a_sg, .int w_ln, .int x_7.2.1, .int x_7.2.2])), (a_sg, .inl (k_sg, 120, .inl f_sg)), (a_to, .inr (3, [.int r_ki, .int r_ty, .int r_pe, .int 0, .int x_7.1, .int r_re, .int r_ga, .int r_rc, .int r_rk, .int r_me, .int r_le]))] H := hP
    replace hD : va_D A [(a_tx, .inr (4, [.ref a_sg, .int w_ln, .int x_7.2.1, .int x_7.2.2])), (a_sg, .inl (k_sg, 120, .inl f_sg)), (a_to, .inr (3, [.int r_ki, .int r_ty, .int r_pe, .int 0, .int x_7.1, .int r_re, .int r_ga, .int r_rc, .int r_rk, .int r_me, .int r_le]))] := hD
    have hP9 := hP.sub (ws' := [(a_tx, .inr (4, [.ref a_sg, .int w_ln, .int x_7.2.1, .int x_7.2.2])), (a_sg, .inl (k_sg, 120, .inl f_sg)), (a_to, .inr (3, [.int r_ki, .int r_ty, .int r_pe, .int 0, .int x_7.1, .int r_re, .int r_ga, .int r_rc, .int r_rk, .int r_me, .int r_le]))]) [0, 1, 2] rfl
    have hD9 := hD.sub (ws' := [(a_tx, .inr (4, [.ref a_sg, .int w_ln, .int x_7.2.1, .int x_7.2.2])), (a_sg, .inl (k_sg, 120, .inl f_sg)), (a_to, .inr (3, [.int r_ki, .int r_ty, .int r_pe, .int 0, .int x_7.1, .int r_re, .int r_ga, .int r_rc, .int r_rk, .int r_me, .int r_le]))]) [0, 1, 2] (by decide) rfl
    have hK9 := hK.sub (tys' := [(k_sg, .char)]) [0] rfl
    exact W.vret hx hb hr (fun t ht hW => ⟨⟨(), rfl, trivial, by rw [ht, ← hz, hE]; exact hP9, va_K.moved hW.alike hK9, by rw [← hz, hE]; exact hD9⟩, hS.F ht⟩) hS.2.2 d_T_readLength_34
  · rw [if_neg c_4] at hE
    refine lv_aload_n hx hb d_T_readLength_9 rfl (lv_at hl 1 rfl) ?_
    refine lv_iconst (v := 1) hx hb d_T_readLength_10 (by decide) ?_
    refine va_put (D := (dC, dI)) (ci := 3) (v := .int 1) (ty := .int) (C := "LoanRules$Rule") (T := Fz_R) (N := 11) hx hb hts it_R tz_R tz_R_ok nz_R hown hK hP hD hS 2 rfl rfl 3 (by decide) (hts _ tw_182) (fun _ h9 => h9) rfl (by decide +kernel) rfl rfl (Nat.le_of_ble_eq_true rfl) d_T_readLength_11 (fun H locs hP hD hS => ?_)
    replace hP : va_P (dC, dI) vwCl [(a_tx, .inr (4, [.ref a_sg, .int w_ln, .int x_3.2, .int w_wr])), (a_sg, .inl (k_sg, 120, .inl f_sg)), (a_to, .inr (3, [.int r_ki, .int r_ty, .int r_pe, .int 1, .int r_da, .int r_re, .int r_ga, .int r_rc, .int r_rk, .int r_me, .int r_le]))] H := hP
    replace hD : va_D A [(a_tx, .inr (4, [.ref a_sg, .int w_ln, .int x_3.2, .int w_wr])), (a_sg, .inl (k_sg, 120, .inl f_sg)), (a_to, .inr (3, [.int r_ki, .int r_ty, .int r_pe, .int 1, .int r_da, .int r_re, .int r_ga, .int r_rc, .int r_rk, .int r_me, .int r_le]))] := hD
    refine lv_goto (tgt := 34) hx hb d_T_readLength_14 (by decide) ?_
    have hP9 := hP.sub (ws' := [(a_tx, .inr (4, [.ref a_sg, .int w_ln, .int x_3.2, .int w_wr])), (a_sg, .inl (k_sg, 120, .inl f_sg)), (a_to, .inr (3, [.int r_ki, .int r_ty, .int r_pe, .int 1, .int r_da, .int r_re, .int r_ga, .int r_rc, .int r_rk, .int r_me, .int r_le]))]) [0, 1, 2] rfl
    have hD9 := hD.sub (ws' := [(a_tx, .inr (4, [.ref a_sg, .int w_ln, .int x_3.2, .int w_wr])), (a_sg, .inl (k_sg, 120, .inl f_sg)), (a_to, .inr (3, [.int r_ki, .int r_ty, .int r_pe, .int 1, .int r_da, .int r_re, .int r_ga, .int r_rc, .int r_rk, .int r_me, .int r_le]))]) [0, 1, 2] (by decide) rfl
    have hK9 := hK.sub (tys' := [(k_sg, .char)]) [0] rfl
    exact W.vret hx hb hr (fun t ht hW => ⟨⟨(), rfl, trivial, by rw [ht, ← hz, hE]; exact hP9, va_K.moved hW.alike hK9, by rw [← hz, hE]; exact hD9⟩, hS.F ht⟩) hS.2.2 d_T_readLength_34
theorem rln_at {w_ln w_pl w_wr r_da : Int32} {f_sg : Nat → Int32} (hln : i120 w_ln) (hpl : i120 w_pl) : i120 (g_Cg_readLength w_ln w_pl w_wr f_sg r_da).1 := by
  unfold g_Cg_readLength
  repeat' (first | with_reducible refine pt_i (fun t : Int32 × Int32 × Int32 × Int32 => i120 t.1) (fun _ => ?_) (fun _ => ?_) | with_reducible refine pt_v (fun t : Int32 × Int32 × Int32 × Int32 => i120 t.1) ?_)
  all_goals first | with_reducible exact twb_at (by decide) hln hpl | with_reducible exact tnum_at hln (twb_at (by decide) hln hpl)
def g_Cg_readDeed (w_ln : Int32) (w_pl : Int32) (w_wr : Int32) (f_sg : Nat → Int32) (r_de : Int32) (r_da : Int32) : Int32 × Int32 × Int32 × Int32 :=
  bv (g_Cg_takesWord 1 w_ln w_pl f_sg) (fun x_3 =>
    if x_3.1 = 0 then
      bv (g_Cg_takesWord 2 w_ln x_3.2 f_sg) (fun x_7 =>
        if x_7.1 = 0 then
          bv (g_Cg_takesWord 3 w_ln x_7.2 f_sg) (fun x_11 =>
            if x_11.1 = 0 then
              bv (g_Cg_markWrong x_11.2 w_wr) (fun x_14 =>
                (x_11.2, x_14, r_de, r_da))
            else
              (x_11.2, w_wr, 3, r_da))
        else
          (x_7.2, w_wr, 2, r_da))
    else
      bv (g_Cg_readLength w_ln x_3.2 w_wr f_sg r_da) (fun x_16 =>
        (x_16.1, x_16.2.1, x_16.2.2.1, x_16.2.2.2)))
set_option maxHeartbeats 4000000 in
set_option maxRecDepth 100000 in
theorem c_Cg_readDeed (l : Launch) (dC : Nat → ClassId) (dI : Nat → Nat → Nat) (adK adV : Nat → Nat) (a_tx : Nat) (a_sg : Nat) (a_to : Nat) (k_sg : ClassId) (w_ln : Int32) (w_pl : Int32) (w_wr : Int32) (f_sg : Nat → Int32) (r_ki : Int32) (r_ty : Int32) (r_pe : Int32) (r_de : Int32) (r_da : Int32) (r_re : Int32) (r_ga : Int32) (r_rc : Int32) (r_rk : Int32) (r_me : Int32) (r_le : Int32) (sz : Nat) (hln : 0 ≤ w_ln.toInt ∧ w_ln.toInt ≤ 120) (hpl : 0 ≤ w_pl.toInt ∧ w_pl.toInt ≤ 120) : Met l y_T_readDeed ws_T_readDeed ({ frames := 7, cells := 0, slots := 0, locals := 149 }) (va_Pc [.ref a_tx, .ref a_to] (fun U => U.heap.size = sz ∧ zz adK adV (va_A [(a_tx, .inr (4, [.ref a_sg, .int w_ln, .int w_pl, .int w_wr])), (a_sg, .inl (k_sg, 120, .inl f_sg)), (a_to, .inr (3, [.int r_ki, .int r_ty, .int r_pe, .int r_de, .int r_da, .int r_re, .int r_ga, .int r_rc, .int r_rk, .int r_me, .int r_le]))] sz) U ∧ va_P (dC, dI) vwCl [(a_tx, .inr (4, [.ref a_sg, .int w_ln, .int w_pl, .int w_wr])), (a_sg, .inl (k_sg, 120, .inl f_sg)), (a_to, .inr (3, [.int r_ki, .int r_ty, .int r_pe, .int r_de, .int r_da, .int r_re, .int r_ga, .int r_rc, .int r_rk, .int r_me, .int r_le]))] U.heap ∧ va_K (dC, dI) vwCl [(k_sg, .char)] U ∧ va_D (fun _ => True) [(a_tx, .inr (4, [.ref a_sg, .int w_ln, .int w_pl, .int w_wr])), (a_sg, .inl (k_sg, 120, .inl f_sg)), (a_to, .inr (3, [.int r_ki, .int r_ty, .int r_pe, .int r_de, .int r_da, .int r_re, .int r_ga, .int r_rc, .int r_rk, .int r_me, .int r_le]))])) (va_Qv (fun _ : Unit => True) (fun (_ : Unit) (t : State) => va_P (dC, dI) vwCl [(a_tx, .inr (4, [.ref a_sg, .int w_ln, .int ((g_Cg_readDeed w_ln w_pl w_wr f_sg r_de r_da).1), .int ((g_Cg_readDeed w_ln w_pl w_wr f_sg r_de r_da).2.1)])), (a_sg, .inl (k_sg, 120, .inl f_sg)), (a_to, .inr (3, [.int r_ki, .int r_ty, .int r_pe, .int ((g_Cg_readDeed w_ln w_pl w_wr f_sg r_de r_da).2.2.1), .int ((g_Cg_readDeed w_ln w_pl w_wr f_sg r_de r_da).2.2.2), .int r_re, .int r_ga, .int r_rc, .int r_rk, .int r_me, .int r_le]))] t.heap ∧ va_K (dC, dI) vwCl [(k_sg, .char)] t ∧ va_D (va_A [(a_tx, .inr (4, [.ref a_sg, .int w_ln, .int w_pl, .int w_wr])), (a_sg, .inl (k_sg, 120, .inl f_sg)), (a_to, .inr (3, [.int r_ki, .int r_ty, .int r_pe, .int r_de, .int r_da, .int r_re, .int r_ga, .int r_rc, .int r_rk, .int r_me, .int r_le]))] sz) [(a_tx, .inr (4, [.ref a_sg, .int w_ln, .int ((g_Cg_readDeed w_ln w_pl w_wr f_sg r_de r_da).1), .int ((g_Cg_readDeed w_ln w_pl w_wr f_sg r_de r_da).2.1)])), (a_sg, .inl (k_sg, 120, .inl f_sg)), (a_to, .inr (3, [.int r_ki, .int r_ty, .int r_pe, .int ((g_Cg_readDeed w_ln w_pl w_wr f_sg r_de r_da).2.2.1), .int ((g_Cg_readDeed w_ln w_pl w_wr f_sg r_de r_da).2.2.2), .int r_re, .int r_ga, .int r_rc, .int r_rk, .int r_me, .int r_le]))]) (va_A [(a_tx, .inr (4, [.ref a_sg, .int w_ln, .int w_pl, .int w_wr])), (a_sg, .inl (k_sg, 120, .inl f_sg)), (a_to, .inr (3, [.int r_ki, .int r_ty, .int r_pe, .int r_de, .int r_da, .int r_re, .int r_ga, .int r_rc, .int r_rk, .int r_me, .int r_le]))] sz)) 0 0 (va_A [(a_tx, .inr (4, [.ref a_sg, .int w_ln, .int w_pl, .int w_wr])), (a_sg, .inl (k_sg, 120, .inl f_sg)), (a_to, .inr (3, [.int r_ki, .int r_ty, .int r_pe, .int r_de, .int r_da, .int r_re, .int r_ga, .int r_rc, .int r_rk, .int r_me, .int r_le]))] sz) := by
  refine Met.ofW (cc := c_T_readDeed) (maxL := 2) (ret := none) (by decide) rfl ?_
  intro p e s m args below meth c s₁ B hml hv
  obtain ⟨rfl, hsz, hZ, hP, hK, hD0⟩ := hv
  have hx := B.exec
  have hb := B.bytes
  have hr := B.returns
  have hts0 := atoms_spec (ws := ws_T_readDeed) B.pre
  have hts : ∀ w ∈ TT, w.before _ s = true := fun w h => hts0 w (List.mem_cons_of_mem _ h)
  have hown : s.vm.findClass "LoanRules$RuleText" = some m.cls := findClass_of_methodNamed B.named
  have hlocks := B.notSynchronized
  subst hsz
  have hD := hD0.self (sz := s.heap.size)
  generalize hAe : va_A [(a_tx, .inr (4, [.ref a_sg, .int w_ln, .int w_pl, .int w_wr])), (a_sg, .inl (k_sg, 120, .inl f_sg)), (a_to, .inr (3, [.int r_ki, .int r_ty, .int r_pe, .int r_de, .int r_da, .int r_re, .int r_ga, .int r_rc, .int r_rk, .int r_me, .int r_le]))] s.heap.size = A at hD hZ ⊢
  have hA : ∀ q : Nat, s.heap.size ≤ q → A q := fun q h => by rw [← hAe]; exact Or.inr h
  clear hAe hD0
  have hS : va_S A s.heap s.heap [] := va_S.rf
  replace hP : va_P (dC, dI) vwCl [(a_tx, .inr (4, [.ref a_sg, .int w_ln, .int w_pl, .int w_wr])), (a_sg, .inl (k_sg, 120, .inl f_sg)), (a_to, .inr (3, [.int r_ki, .int r_ty, .int r_pe, .int r_de, .int r_da, .int r_re, .int r_ga, .int r_rc, .int r_rk, .int r_me, .int r_le]))] s.heap := hP
  have hl := lv_entry ([.ref a_tx, .ref a_to]) (n := 2) (Nat.le_of_ble_eq_true rfl)
  rw [lg_entry_eq]
  generalize (lg_sl ([.ref a_tx, .ref a_to]) ++ List.replicate (2 - (lg_sl ([.ref a_tx, .ref a_to])).length) Slot.unset).toArray = ls at hl ⊢
  replace hl : lv_has ls 2 [(0, .ref a_tx), (1, .ref a_to)] := hl
  obtain ⟨z, hz⟩ : ∃ z, z = g_Cg_readDeed w_ln w_pl w_wr f_sg r_de r_da := ⟨_, rfl⟩
  have hE := hz
  rw [g_Cg_readDeed] at hE
  refine lv_aload_n hx hb d_T_readDeed_0 rfl (lv_at hl 0 rfl) ?_
  refine va_ldcS hx hb hown (zs_T_61 hZ) d_T_readDeed_1 ?_
  have hPc := hP.sub (ws' := [(a_tx, .inr (4, [.ref a_sg, .int w_ln, .int w_pl, .int w_wr])), (a_sg, .inl (k_sg, 120, .inl f_sg))]) [0, 1] rfl
  have hKc := hK.sub (tys' := [(k_sg, .char)]) [0] rfl
  have hDc := hD.sub (ws' := [(a_tx, .inr (4, [.ref a_sg, .int w_ln, .int w_pl, .int w_wr])), (a_sg, .inl (k_sg, 120, .inl f_sg))]) [0, 1] (by decide) rfl
  have hFc := va_free (wc := [(a_tx, .inr (4, [.ref a_sg, .int w_ln, .int w_pl, .int w_wr])), (a_sg, .inl (k_sg, 120, .inl f_sg))]) hD hS hA [0, 1] rfl
  refine va_calli (va_runV (As := [.ref (adK 1)]) (rest := []) ⟨hx, hb, hml, hown, hts⟩ (c_Cg_takesWord l dC dI adK adV (a_tx := a_tx) (iw := 1) (a_sg := a_sg) (w_ln := w_ln) (w_pl := w_pl) (w_wr := w_wr) (k_sg := k_sg) (f_sg := f_sg) (sz := s.heap.size) (by decide)) (cwV 1 hts (gV tw_235 tw_237 tw_1 tw_43 tw_238) rfl rfl rfl (by decide +kernel) ⟨(Nat.le_of_ble_eq_true rfl), (Nat.le_of_ble_eq_true rfl)⟩) ⟨fun a U g mk q => by obtain ⟨q0, q1, qZ, qP, qK, qD⟩ := q; exact ⟨q0, q1, zz_call qZ, qP, va_K.moved (u := U) (U := U.calling g mk a) (Vm.Alike.refl U.vm) qK, qD⟩, va_recv hKc hPc (ci := 4) (q0 := 0) rfl rfl, fun U hU hW => ⟨rfl, by rw [hU], zz_rw hS hFc hU hW hZ, by rw [hU]; exact hPc, va_K.moved hW.alike hKc, hDc.weaken (fun _ _ _ _ => trivial)⟩⟩ rfl rfl hl.1 rfl (lv_room (Nat.le_of_ble_eq_true rfl)) d_T_readDeed_3 ⟨(Nat.le_of_ble_eq_true rfl), (Nat.le_of_ble_eq_true rfl)⟩) hS (fun q _ h => hFc q h) hFc (fun r_1 u t H1 locs ht hvm hw_2 hB hz1 hk1 hS => ?_)
  generalize hg_x_3 : g_Cg_takesWord 1 w_ln w_pl f_sg = x_3 at hw_2 hB hE
  rw [bv_eq] at hE
  obtain ⟨hP1, hK1, hD1⟩ := hB
  rw [ht] at hP1
  have hK1 := va_K.moved hvm.symm hK1
  obtain rfl : r_1 = x_3.1 := hw_2
  obtain ⟨hP, hD⟩ := va_join (wr := [(a_to, .inr (3, [.int r_ki, .int r_ty, .int r_pe, .int r_de, .int r_da, .int r_re, .int r_ga, .int r_rc, .int r_rk, .int r_me, .int r_le]))]) (w1 := [(a_tx, .inr (4, [.ref a_sg, .int w_ln, .int x_3.2, .int w_wr])), (a_sg, .inl (k_sg, 120, .inl f_sg))]) hP hD [0, 1] [2] rfl rfl (by decide) (by decide) hk1 hFc hP1 hD1
  replace hK := (hK.sub (tys' := []) [] rfl).app hK1
  generalize H1 = H at hP hS ⊢
  replace hP := hP.sub (ws' := [(a_tx, .inr (4, [.ref a_sg, .int w_ln, .int x_3.2, .int w_wr])), (a_sg, .inl (k_sg, 120, .inl f_sg)), (a_to, .inr (3, [.int r_ki, .int r_ty, .int r_pe, .int r_de, .int r_da, .int r_re, .int r_ga, .int r_rc, .int r_rk, .int r_me, .int r_le]))]) [1, 2, 0] rfl
  replace hD := hD.sub (ws' := [(a_tx, .inr (4, [.ref a_sg, .int w_ln, .int x_3.2, .int w_wr])), (a_sg, .inl (k_sg, 120, .inl f_sg)), (a_to, .inr (3, [.int r_ki, .int r_ty, .int r_pe, .int r_de, .int r_da, .int r_re, .int r_ga, .int r_rc, .int r_rk, .int r_me, .int r_le]))]) [1, 2, 0] (by decide) rfl
  replace hK := hK.sub (tys' := [(k_sg, .char)]) [0] rfl
  refine lv_if_eq (tgt := 17) hx hb d_T_readDeed_6 (by decide) (fun c_4 => ?_) (fun c_4 => ?_)
  · rw [if_pos c_4] at hE
    refine lv_aload_n hx hb d_T_readDeed_17 rfl (lv_at hl 0 rfl) ?_
    refine va_ldcS hx hb hown (zs_T_66 hZ) d_T_readDeed_18 ?_
    have hPc := hP.sub (ws' := [(a_tx, .inr (4, [.ref a_sg, .int w_ln, .int x_3.2, .int w_wr])), (a_sg, .inl (k_sg, 120, .inl f_sg))]) [0, 1] rfl
    have hKc := hK.sub (tys' := [(k_sg, .char)]) [0] rfl
    have hDc := hD.sub (ws' := [(a_tx, .inr (4, [.ref a_sg, .int w_ln, .int x_3.2, .int w_wr])), (a_sg, .inl (k_sg, 120, .inl f_sg))]) [0, 1] (by decide) rfl
    have hFc := va_free (wc := [(a_tx, .inr (4, [.ref a_sg, .int w_ln, .int x_3.2, .int w_wr])), (a_sg, .inl (k_sg, 120, .inl f_sg))]) hD hS hA [0, 1] rfl
    refine va_calli (va_runV (As := [.ref (adK 2)]) (rest := []) ⟨hx, hb, hml, hown, hts⟩ (c_Cg_takesWord l dC dI adK adV (a_tx := a_tx) (iw := 2) (a_sg := a_sg) (w_ln := w_ln) (w_pl := x_3.2) (w_wr := w_wr) (k_sg := k_sg) (f_sg := f_sg) (sz := H.size) (by decide)) (cwV 1 hts (gV tw_235 tw_237 tw_1 tw_43 tw_238) rfl rfl rfl (by decide +kernel) ⟨(Nat.le_of_ble_eq_true rfl), (Nat.le_of_ble_eq_true rfl)⟩) ⟨fun a U g mk q => by obtain ⟨q0, q1, qZ, qP, qK, qD⟩ := q; exact ⟨q0, q1, zz_call qZ, qP, va_K.moved (u := U) (U := U.calling g mk a) (Vm.Alike.refl U.vm) qK, qD⟩, va_recv hKc hPc (ci := 4) (q0 := 0) rfl rfl, fun U hU hW => ⟨rfl, by rw [hU], zz_rw hS hFc hU hW hZ, by rw [hU]; exact hPc, va_K.moved hW.alike hKc, hDc.weaken (fun _ _ _ _ => trivial)⟩⟩ rfl rfl hl.1 rfl (lv_room (Nat.le_of_ble_eq_true rfl)) d_T_readDeed_20 ⟨(Nat.le_of_ble_eq_true rfl), (Nat.le_of_ble_eq_true rfl)⟩) hS (fun q _ h => hFc q h) hFc (fun r_5 u t H1 locs ht hvm hw_6 hB hz1 hk1 hS => ?_)
    generalize hg_x_7 : g_Cg_takesWord 2 w_ln x_3.2 f_sg = x_7 at hw_6 hB hE
    rw [bv_eq] at hE
    obtain ⟨hP1, hK1, hD1⟩ := hB
    rw [ht] at hP1
    have hK1 := va_K.moved hvm.symm hK1
    obtain rfl : r_5 = x_7.1 := hw_6
    obtain ⟨hP, hD⟩ := va_join (wr := [(a_to, .inr (3, [.int r_ki, .int r_ty, .int r_pe, .int r_de, .int r_da, .int r_re, .int r_ga, .int r_rc, .int r_rk, .int r_me, .int r_le]))]) (w1 := [(a_tx, .inr (4, [.ref a_sg, .int w_ln, .int x_7.2, .int w_wr])), (a_sg, .inl (k_sg, 120, .inl f_sg))]) hP hD [0, 1] [2] rfl rfl (by decide) (by decide) hk1 hFc hP1 hD1
    replace hK := (hK.sub (tys' := []) [] rfl).app hK1
    generalize H1 = H at hP hS ⊢
    replace hP := hP.sub (ws' := [(a_tx, .inr (4, [.ref a_sg, .int w_ln, .int x_7.2, .int w_wr])), (a_sg, .inl (k_sg, 120, .inl f_sg)), (a_to, .inr (3, [.int r_ki, .int r_ty, .int r_pe, .int r_de, .int r_da, .int r_re, .int r_ga, .int r_rc, .int r_rk, .int r_me, .int r_le]))]) [1, 2, 0] rfl
    replace hD := hD.sub (ws' := [(a_tx, .inr (4, [.ref a_sg, .int w_ln, .int x_7.2, .int w_wr])), (a_sg, .inl (k_sg, 120, .inl f_sg)), (a_to, .inr (3, [.int r_ki, .int r_ty, .int r_pe, .int r_de, .int r_da, .int r_re, .int r_ga, .int r_rc, .int r_rk, .int r_me, .int r_le]))]) [1, 2, 0] (by decide) rfl
    replace hK := hK.sub (tys' := [(k_sg, .char)]) [0] rfl
    refine lv_if_eq (tgt := 34) hx hb d_T_readDeed_23 (by decide) (fun c_8 => ?_) (fun c_8 => ?_)
    · rw [if_pos c_8] at hE
      refine lv_aload_n hx hb d_T_readDeed_34 rfl (lv_at hl 0 rfl) ?_
      refine va_ldcS hx hb hown (zs_T_71 hZ) d_T_readDeed_35 ?_
      have hPc := hP.sub (ws' := [(a_tx, .inr (4, [.ref a_sg, .int w_ln, .int x_7.2, .int w_wr])), (a_sg, .inl (k_sg, 120, .inl f_sg))]) [0, 1] rfl
      have hKc := hK.sub (tys' := [(k_sg, .char)]) [0] rfl
      have hDc := hD.sub (ws' := [(a_tx, .inr (4, [.ref a_sg, .int w_ln, .int x_7.2, .int w_wr])), (a_sg, .inl (k_sg, 120, .inl f_sg))]) [0, 1] (by decide) rfl
      have hFc := va_free (wc := [(a_tx, .inr (4, [.ref a_sg, .int w_ln, .int x_7.2, .int w_wr])), (a_sg, .inl (k_sg, 120, .inl f_sg))]) hD hS hA [0, 1] rfl
      refine va_calli (va_runV (As := [.ref (adK 3)]) (rest := []) ⟨hx, hb, hml, hown, hts⟩ (c_Cg_takesWord l dC dI adK adV (a_tx := a_tx) (iw := 3) (a_sg := a_sg) (w_ln := w_ln) (w_pl := x_7.2) (w_wr := w_wr) (k_sg := k_sg) (f_sg := f_sg) (sz := H.size) (by decide)) (cwV 1 hts (gV tw_235 tw_237 tw_1 tw_43 tw_238) rfl rfl rfl (by decide +kernel) ⟨(Nat.le_of_ble_eq_true rfl), (Nat.le_of_ble_eq_true rfl)⟩) ⟨fun a U g mk q => by obtain ⟨q0, q1, qZ, qP, qK, qD⟩ := q; exact ⟨q0, q1, zz_call qZ, qP, va_K.moved (u := U) (U := U.calling g mk a) (Vm.Alike.refl U.vm) qK, qD⟩, va_recv hKc hPc (ci := 4) (q0 := 0) rfl rfl, fun U hU hW => ⟨rfl, by rw [hU], zz_rw hS hFc hU hW hZ, by rw [hU]; exact hPc, va_K.moved hW.alike hKc, hDc.weaken (fun _ _ _ _ => trivial)⟩⟩ rfl rfl hl.1 rfl (lv_room (Nat.le_of_ble_eq_true rfl)) d_T_readDeed_37 ⟨(Nat.le_of_ble_eq_true rfl), (Nat.le_of_ble_eq_true rfl)⟩) hS (fun q _ h => hFc q h) hFc (fun r_9 u t H1 locs ht hvm hw_10 hB hz1 hk1 hS => ?_)
      generalize hg_x_11 : g_Cg_takesWord 3 w_ln x_7.2 f_sg = x_11 at hw_10 hB hE
      rw [bv_eq] at hE
      obtain ⟨hP1, hK1, hD1⟩ := hB
      rw [ht] at hP1
      have hK1 := va_K.moved hvm.symm hK1
      obtain rfl : r_9 = x_11.1 := hw_10
      obtain ⟨hP, hD⟩ := va_join (wr := [(a_to, .inr (3, [.int r_ki, .int r_ty, .int r_pe, .int r_de, .int r_da, .int r_re, .int r_ga, .int r_rc, .int r_rk, .int r_me, .int r_le]))]) (w1 := [(a_tx, .inr (4, [.ref a_sg, .int w_ln, .int x_11.2, .int w_wr])), (a_sg, .inl (k_sg, 120, .inl f_sg))]) hP hD [0, 1] [2] rfl rfl (by decide) (by decide) hk1 hFc hP1 hD1
      replace hK := (hK.sub (tys' := []) [] rfl).app hK1
      generalize H1 = H at hP hS ⊢
      replace hP := hP.sub (ws' := [(a_tx, .inr (4, [.ref a_sg, .int w_ln, .int x_11.2, .int w_wr])), (a_sg, .inl (k_sg, 120, .inl f_sg)), (a_to, .inr (3, [.int r_ki, .int r_ty, .int r_pe, .int r_de, .int r_da, .int r_re, .int r_ga, .int r_rc, .int r_rk, .int r_me, .int r_le]))]) [1, 2, 0] rfl
      replace hD := hD.sub (ws' := [(a_tx, .inr (4, [.ref a_sg, .int w_ln, .int x_11.2, .int w_wr])), (a_sg, .inl (k_sg, 120, .inl f_sg)), (a_to, .inr (3, [.int r_ki, .int r_ty, .int r_pe, .int r_de, .int r_da, .int r_re, .int r_ga, .int r_rc, .int r_rk, .int r_me, .int r_le]))]) [1, 2, 0] (by decide) rfl
      replace hK := hK.sub (tys' := [(k_sg, .char)]) [0] rfl
      refine lv_if_eq (tgt := 51) hx hb d_T_readDeed_40 (by decide) (fun c_12 => ?_) (fun c_12 => ?_)
      · rw [if_pos c_12] at hE
        refine lv_aload_n hx hb d_T_readDeed_51 rfl (lv_at hl 0 rfl) ?_
        refine lv_aload_n hx hb d_T_readDeed_52 rfl (lv_at hl 0 rfl) ?_
        refine va_get (D := (dC, dI)) (ci := 4) (v := .int x_11.2) (C := "LoanRules$RuleText") (T := Fz_T) (N := 4) hx hb hts it_T hown hK hP 0 rfl rfl 2 (by decide) (hts _ tw_74) (fun _ h9 => h9) rfl d_T_readDeed_53 ?_
        have hPc := hP.sub (ws' := [(a_tx, .inr (4, [.ref a_sg, .int w_ln, .int x_11.2, .int w_wr]))]) [0] rfl
        have hKc := hK.sub (tys' := []) [] rfl
        have hDc := hD.sub (ws' := [(a_tx, .inr (4, [.ref a_sg, .int w_ln, .int x_11.2, .int w_wr]))]) [0] (by decide) rfl
        have hFc := va_free (wc := [(a_tx, .inr (4, [.ref a_sg, .int w_ln, .int x_11.2, .int w_wr]))]) hD hS hA [0] rfl
        refine va_callv (va_runV (As := [.int x_11.2]) (rest := []) ⟨hx, hb, hml, hown, hts⟩ (c_Cg_markWrong l dC dI adK adV (a_tx := a_tx) (p0 := x_11.2) (a_sg := a_sg) (w_ln := w_ln) (w_pl := x_11.2) (w_wr := w_wr) (sz := H.size)) (cwV 1 hts (gV tw_302 tw_304 tw_5 tw_43 tw_305) rfl rfl rfl (by decide +kernel) ⟨(Nat.le_of_ble_eq_true rfl), (Nat.le_of_ble_eq_true rfl)⟩) ⟨fun a U g mk q => by obtain ⟨q0, q1, qZ, qP, qK, qD⟩ := q; exact ⟨q0, q1, zz_call qZ, qP, va_K.moved (u := U) (U := U.calling g mk a) (Vm.Alike.refl U.vm) qK, qD⟩, va_recv hKc hPc (ci := 4) (q0 := 0) rfl rfl, fun U hU hW => ⟨rfl, by rw [hU], zz_rw hS hFc hU hW hZ, by rw [hU]; exact hPc, va_K.moved hW.alike hKc, hDc.weaken (fun _ _ _ _ => trivial)⟩⟩ rfl rfl hl.1 rfl (lv_room (Nat.le_of_ble_eq_true rfl)) d_T_readDeed_56 ⟨(Nat.le_of_ble_eq_true rfl), (Nat.le_of_ble_eq_true rfl)⟩) hS (fun q _ h => hFc q h) hFc (fun u t H1 locs ht hvm hw_13 hB hz1 hk1 hS => ?_)
        generalize hg_x_14 : g_Cg_markWrong x_11.2 w_wr = x_14 at hw_13 hB hE
        rw [bv_eq] at hE
        obtain ⟨hP1, hK1, hD1⟩ := hB
        rw [ht] at hP1
        have hK1 := va_K.moved hvm.symm hK1
        obtain ⟨hP, hD⟩ := va_join (wr := [(a_sg, .inl (k_sg, 120, .inl f_sg)), (a_to, .inr (3, [.int r_ki, .int r_ty, .int r_pe, .int r_de, .int r_da, .int r_re, .int r_ga, .int r_rc, .int r_rk, .int r_me, .int r_le]))]) (w1 := [(a_tx, .inr (4, [.ref a_sg, .int w_ln, .int x_11.2, .int x_14]))]) hP hD [0] [1, 2] rfl rfl (by decide) (by decide) hk1 hFc hP1 hD1
        replace hK := (hK.sub (tys' := [(k_sg, .char)]) [0] rfl).app hK1
        generalize H1 = H at hP hS ⊢
        replace hP := hP.sub (ws' := [(a_tx, .inr (4, [.ref a_sg, .int w_ln, .int x_11.2, .int x_14])), (a_sg, .inl (k_sg, 120, .inl f_sg)), (a_to, .inr (3, [.int r_ki, .int r_ty, .int r_pe, .int r_de, .int r_da, .int r_re, .int r_ga, .int r_rc, .int r_rk, .int r_me, .int r_le]))]) [2, 0, 1] rfl
        replace hD := hD.sub (ws' := [(a_tx, .inr (4, [.ref a_sg, .int w_ln, .int x_11.2, .int x_14])), (a_sg, .inl (k_sg, 120, .inl f_sg)), (a_to, .inr (3, [.int r_ki, .int r_ty, .int r_pe, .int r_de, .int r_da, .int r_re, .int r_ga, .int r_rc, .int r_rk, .int r_me, .int r_le]))]) [2, 0, 1] (by decide) rfl
        replace hK := hK.sub (tys' := [(k_sg, .char)]) [0] rfl
        have hP9 := hP.sub (ws' := [(a_tx, .inr (4, [.ref a_sg, .int w_ln, .int x_11.2, .int x_14])), (a_sg, .inl (k_sg, 120, .inl f_sg)), (a_to, .inr (3, [.int r_ki, .int r_ty, .int r_pe, .int r_de, .int r_da, .int r_re, .int r_ga, .int r_rc, .int r_rk, .int r_me, .int r_le]))]) [0, 1, 2] rfl
        have hD9 := hD.sub (ws' := [(a_tx, .inr (4, [.ref a_sg, .int w_ln, .int x_11.2, .int x_14])), (a_sg, .inl (k_sg, 120, .inl f_sg)), (a_to, .inr (3, [.int r_ki, .int r_ty, .int r_pe, .int r_de, .int r_da, .int r_re, .int r_ga, .int r_rc, .int r_rk, .int r_me, .int r_le]))]) [0, 1, 2] (by decide) rfl
        have hK9 := hK.sub (tys' := [(k_sg, .char)]) [0] rfl
        exact W.vret hx hb hr (fun t ht hW => ⟨⟨(), rfl, trivial, by rw [ht, ← hz, hE]; exact hP9, va_K.moved hW.alike hK9, by rw [← hz, hE]; exact hD9⟩, hS.F ht⟩) hS.2.2 d_T_readDeed_59
      · rw [if_neg c_12] at hE
        refine lv_aload_n hx hb d_T_readDeed_43 rfl (lv_at hl 1 rfl) ?_
        refine lv_iconst (v := 3) hx hb d_T_readDeed_44 (by decide) ?_
        refine va_put (D := (dC, dI)) (ci := 3) (v := .int 3) (ty := .int) (C := "LoanRules$Rule") (T := Fz_R) (N := 11) hx hb hts it_R tz_R tz_R_ok nz_R hown hK hP hD hS 2 rfl rfl 3 (by decide) (hts _ tw_182) (fun _ h9 => h9) rfl (by decide +kernel) rfl rfl (Nat.le_of_ble_eq_true rfl) d_T_readDeed_45 (fun H locs hP hD hS => ?_)
        replace hP : va_P (dC, dI) vwCl [(a_tx, .inr (4, [.ref a_sg, .int w_ln, .int x_11.2, .int w_wr])), (a_sg, .inl (k_sg, 120, .inl f_sg)), (a_to, .inr (3, [.int r_ki, .int r_ty, .int r_pe, .int 3, .int r_da, .int r_re, .int r_ga, .int r_rc, .int r_rk, .int r_me, .int r_le]))] H := hP
        replace hD : va_D A [(a_tx, .inr (4, [.ref a_sg, .int w_ln, .int x_11.2, .int w_wr])), (a_sg, .inl (k_sg, 120, .inl f_sg)), (a_to, .inr (3, [.int r_ki, .int r_ty, .int r_pe, .int 3, .int r_da, .int r_re, .int r_ga, .int r_rc, .int r_rk, .int r_me, .int r_le]))] := hD
        refine lv_goto (tgt := 59) hx hb d_T_readDeed_48 (by decide) ?_
        have hP9 := hP.sub (ws' := [(a_tx, .inr (4, [.ref a_sg, .int w_ln, .int x_11.2, .int w_wr])), (a_sg, .inl (k_sg, 120, .inl f_sg)), (a_to, .inr (3, [.int r_ki, .int r_ty, .int r_pe, .int 3, .int r_da, .int r_re, .int r_ga, .int r_rc, .int r_rk, .int r_me, .int r_le]))]) [0, 1, 2] rfl
        have hD9 := hD.sub (ws' := [(a_tx, .inr (4, [.ref a_sg, .int w_ln, .int x_11.2, .int w_wr])), (a_sg, .inl (k_sg, 120, .inl f_sg)), (a_to, .inr (3, [.int r_ki, .int r_ty, .int r_pe, .int 3, .int r_da, .int r_re, .int r_ga, .int r_rc, .int r_rk, .int r_me, .int r_le]))]) [0, 1, 2] (by decide) rfl
        have hK9 := hK.sub (tys' := [(k_sg, .char)]) [0] rfl
        exact W.vret hx hb hr (fun t ht hW => ⟨⟨(), rfl, trivial, by rw [ht, ← hz, hE]; exact hP9, va_K.moved hW.alike hK9, by rw [← hz, hE]; exact hD9⟩, hS.F ht⟩) hS.2.2 d_T_readDeed_59
    · rw [if_neg c_8] at hE
      refine lv_aload_n hx hb d_T_readDeed_26 rfl (lv_at hl 1 rfl) ?_
      refine lv_iconst (v := 2) hx hb d_T_readDeed_27 (by decide) ?_
      refine va_put (D := (dC, dI)) (ci := 3) (v := .int 2) (ty := .int) (C := "LoanRules$Rule") (T := Fz_R) (N := 11) hx hb hts it_R tz_R tz_R_ok nz_R hown hK hP hD hS 2 rfl rfl 3 (by decide) (hts _ tw_182) (fun _ h9 => h9) rfl (by decide +kernel) rfl rfl (Nat.le_of_ble_eq_true rfl) d_T_readDeed_28 (fun H locs hP hD hS => ?_)
      replace hP : va_P (dC, dI) vwCl [(a_tx, .inr (4, [.ref a_sg, .int w_ln, .int x_7.2, .int w_wr])), (a_sg, .inl (k_sg, 120, .inl f_sg)), (a_to, .inr (3, [.int r_ki, .int r_ty, .int r_pe, .int 2, .int r_da, .int r_re, .int r_ga, .int r_rc, .int r_rk, .int r_me, .int r_le]))] H := hP
      replace hD : va_D A [(a_tx, .inr (4, [.ref a_sg, .int w_ln, .int x_7.2, .int w_wr])), (a_sg, .inl (k_sg, 120, .inl f_sg)), (a_to, .inr (3, [.int r_ki, .int r_ty, .int r_pe, .int 2, .int r_da, .int r_re, .int r_ga, .int r_rc, .int r_rk, .int r_me, .int r_le]))] := hD
      refine lv_goto (tgt := 59) hx hb d_T_readDeed_31 (by decide) ?_
      have hP9 := hP.sub (ws' := [(a_tx, .inr (4, [.ref a_sg, .int w_ln, .int x_7.2, .int w_wr])), (a_sg, .inl (k_sg, 120, .inl f_sg)), (a_to, .inr (3, [.int r_ki, .int r_ty, .int r_pe, .int 2, .int r_da, .int r_re, .int r_ga, .int r_rc, .int r_rk, .int r_me, .int r_le]))]) [0, 1, 2] rfl
      have hD9 := hD.sub (ws' := [(a_tx, .inr (4, [.ref a_sg, .int w_ln, .int x_7.2, .int w_wr])), (a_sg, .inl (k_sg, 120, .inl f_sg)), (a_to, .inr (3, [.int r_ki, .int r_ty, .int r_pe, .int 2, .int r_da, .int r_re, .int r_ga, .int r_rc, .int r_rk, .int r_me, .int r_le]))]) [0, 1, 2] (by decide) rfl
      have hK9 := hK.sub (tys' := [(k_sg, .char)]) [0] rfl
      exact W.vret hx hb hr (fun t ht hW => ⟨⟨(), rfl, trivial, by rw [ht, ← hz, hE]; exact hP9, va_K.moved hW.alike hK9, by rw [← hz, hE]; exact hD9⟩, hS.F ht⟩) hS.2.2 d_T_readDeed_59
  · rw [if_neg c_4] at hE
    refine lv_aload_n hx hb d_T_readDeed_9 rfl (lv_at hl 0 rfl) ?_
    refine lv_aload_n hx hb d_T_readDeed_10 rfl (lv_at hl 1 rfl) ?_
    have hPc := hP.sub (ws' := [(a_tx, .inr (4, [.ref a_sg, .int w_ln, .int x_3.2, .int w_wr])), (a_sg, .inl (k_sg, 120, .inl f_sg)), (a_to, .inr (3, [.int r_ki, .int r_ty, .int r_pe, .int r_de, .int r_da, .int r_re, .int r_ga, .int r_rc, .int r_rk, .int r_me, .int r_le]))]) [0, 1, 2] rfl
    have hKc := hK.sub (tys' := [(k_sg, .char)]) [0] rfl
    have hDc := hD.sub (ws' := [(a_tx, .inr (4, [.ref a_sg, .int w_ln, .int x_3.2, .int w_wr])), (a_sg, .inl (k_sg, 120, .inl f_sg)), (a_to, .inr (3, [.int r_ki, .int r_ty, .int r_pe, .int r_de, .int r_da, .int r_re, .int r_ga, .int r_rc, .int r_rk, .int r_me, .int r_le]))]) [0, 1, 2] (by decide) rfl
    have hFc := va_free (wc := [(a_tx, .inr (4, [.ref a_sg, .int w_ln, .int x_3.2, .int w_wr])), (a_sg, .inl (k_sg, 120, .inl f_sg)), (a_to, .inr (3, [.int r_ki, .int r_ty, .int r_pe, .int r_de, .int r_da, .int r_re, .int r_ga, .int r_rc, .int r_rk, .int r_me, .int r_le]))]) hD hS hA [0, 1, 2] rfl
    refine va_callv (va_runV (As := [.ref a_to]) (rest := []) ⟨hx, hb, hml, hown, hts⟩ (c_Cg_readLength l dC dI adK adV (a_tx := a_tx) (a_to := a_to) (a_sg := a_sg) (w_ln := w_ln) (w_pl := x_3.2) (w_wr := w_wr) (k_sg := k_sg) (f_sg := f_sg) (r_ki := r_ki) (r_ty := r_ty) (r_pe := r_pe) (r_de := r_de) (r_da := r_da) (r_re := r_re) (r_ga := r_ga) (r_rc := r_rc) (r_rk := r_rk) (r_me := r_me) (r_le := r_le) (sz := H.size) hln (ga2 hg_x_3 (twd_at (by decide) hln hpl))) (cwV 1 hts (gV tw_316 tw_318 tw_7 tw_43 tw_319) rfl rfl rfl (by decide +kernel) ⟨(Nat.le_of_ble_eq_true rfl), (Nat.le_of_ble_eq_true rfl)⟩) ⟨fun a U g mk q => by obtain ⟨q0, q1, qZ, qP, qK, qD⟩ := q; exact ⟨q0, q1, zz_call qZ, qP, va_K.moved (u := U) (U := U.calling g mk a) (Vm.Alike.refl U.vm) qK, qD⟩, va_recv hKc hPc (ci := 4) (q0 := 0) rfl rfl, fun U hU hW => ⟨rfl, by rw [hU], zz_rw hS hFc hU hW hZ, by rw [hU]; exact hPc, va_K.moved hW.alike hKc, hDc.weaken (fun _ _ _ _ => trivial)⟩⟩ rfl rfl hl.1 rfl (lv_room (Nat.le_of_ble_eq_true rfl)) d_T_readDeed_11 ⟨(Nat.le_of_ble_eq_true rfl), (Nat.le_of_ble_eq_true rfl)⟩) hS (fun q _ h => hFc q h) hFc (fun u t H1 locs ht hvm hw_15 hB hz1 hk1 hS => ?_)
    generalize hg_x_16 : g_Cg_readLength w_ln x_3.2 w_wr f_sg r_da = x_16 at hw_15 hB hE
    rw [bv_eq] at hE
    obtain ⟨hP1, hK1, hD1⟩ := hB
    rw [ht] at hP1
    have hK1 := va_K.moved hvm.symm hK1
    obtain ⟨hP, hD⟩ := va_join (wr := []) (w1 := [(a_tx, .inr (4, [.ref a_sg, .int w_ln, .int x_16.1, .int x_16.2.1])), (a_sg, .inl (k_sg, 120, .inl f_sg)), (a_to, .inr (3, [.int r_ki, .int r_ty, .int r_pe, .int x_16.2.2.1, .int x_16.2.2.2, .int r_re, .int r_ga, .int r_rc, .int r_rk, .int r_me, .int r_le]))]) hP hD [0, 1, 2] [] rfl rfl (by decide) (by decide) hk1 hFc hP1 hD1
    replace hK := (hK.sub (tys' := []) [] rfl).app hK1
    generalize H1 = H at hP hS ⊢
    replace hP := hP.sub (ws' := [(a_tx, .inr (4, [.ref a_sg, .int w_ln, .int x_16.1, .int x_16.2.1])), (a_sg, .inl (k_sg, 120, .inl f_sg)), (a_to, .inr (3, [.int r_ki, .int r_ty, .int r_pe, .int x_16.2.2.1, .int x_16.2.2.2, .int r_re, .int r_ga, .int r_rc, .int r_rk, .int r_me, .int r_le]))]) [0, 1, 2] rfl
    replace hD := hD.sub (ws' := [(a_tx, .inr (4, [.ref a_sg, .int w_ln, .int x_16.1, .int x_16.2.1])), (a_sg, .inl (k_sg, 120, .inl f_sg)), (a_to, .inr (3, [.int r_ki, .int r_ty, .int r_pe, .int x_16.2.2.1, .int x_16.2.2.2, .int r_re, .int r_ga, .int r_rc, .int r_rk, .int r_me, .int r_le]))]) [0, 1, 2] (by decide) rfl
    replace hK := hK.sub (tys' := [(k_sg, .char)]) [0] rfl
    refine lv_goto (tgt := 59) hx hb d_T_readDeed_14 (by decide) ?_
    have hP9 := hP.sub (ws' := [(a_tx, .inr (4, [.ref a_sg, .int w_ln, .int x_16.1, .int x_16.2.1])), (a_sg, .inl (k_sg, 120, .inl f_sg)), (a_to, .inr (3, [.int r_ki, .int r_ty, .int r_pe, .int x_16.2.2.1, .int x_16.2.2.2, .int r_re, .int r_ga, .int r_rc, .int r_rk, .int r_me, .int r_le]))]) [0, 1, 2] rfl
    have hD9 := hD.sub (ws' := [(a_tx, .inr (4, [.ref a_sg, .int w_ln, .int x_16.1, .int x_16.2.1])), (a_sg, .inl (k_sg, 120, .inl f_sg)), (a_to, .inr (3, [.int r_ki, .int r_ty, .int r_pe, .int x_16.2.2.1, .int x_16.2.2.2, .int r_re, .int r_ga, .int r_rc, .int r_rk, .int r_me, .int r_le]))]) [0, 1, 2] (by decide) rfl
    have hK9 := hK.sub (tys' := [(k_sg, .char)]) [0] rfl
    exact W.vret hx hb hr (fun t ht hW => ⟨⟨(), rfl, trivial, by rw [ht, ← hz, hE]; exact hP9, va_K.moved hW.alike hK9, by rw [← hz, hE]; exact hD9⟩, hS.F ht⟩) hS.2.2 d_T_readDeed_59
