theorem sg_lt {x ln y : Int32} {f : Nat → Int32} (hy : ¬ y = -1) (c : g_Cg_signAt x ln f = y) : 0 ≤ x.toInt ∧ x.toInt < ln.toInt := by
  unfold g_Cg_signAt at c
  split at c
  · exact absurd c.symm hy
  · rename_i h1
    split at c
    · exact absurd c.symm hy
    · rename_i h2
      rw [li_lt, li_0] at h1
      rw [li_le] at h2
      omega
theorem li_p {k ln : Int32} (hk : 0 ≤ k.toInt ∧ k.toInt ≤ 120) (hln : 0 ≤ ln.toInt ∧ ln.toInt ≤ 120) (c : ¬ ln ≤ k) : 0 ≤ (k + 1).toInt ∧ (k + 1).toInt ≤ 120 := by
  rw [li_le] at c; rw [li_inc (by omega) (by omega)]; omega
theorem li_pm {k ln : Int32} {n : Nat} (hk : 0 ≤ k.toInt ∧ k.toInt ≤ 120) (hln : 0 ≤ ln.toInt ∧ ln.toInt ≤ 120) (c : ¬ ln ≤ k) (hm : 121 - k.toInt.toNat ≤ n + 1) : 121 - (k + 1).toInt.toNat ≤ n := by
  rw [li_le] at c; rw [li_inc (by omega) (by omega)]; omega
def g_Cg_markWrong (p0 : Int32) (w_wr : Int32) : Int32 :=
  if w_wr = (-1) then
    p0
  else
    w_wr
set_option maxHeartbeats 4000000 in
set_option maxRecDepth 100000 in
theorem c_Cg_markWrong (l : Launch) (dC : Nat → ClassId) (dI : Nat → Nat → Nat) (adK adV : Nat → Nat) (a_tx : Nat) (p0 : Int32) (a_sg : Nat) (w_ln : Int32) (w_pl : Int32) (w_wr : Int32) (sz : Nat) : Met l y_T_markWrong ws_T_markWrong ({ frames := 0, cells := 0, slots := 0, locals := 0 }) (va_Pc [.ref a_tx, .int p0] (fun U => U.heap.size = sz ∧ zz adK adV (va_A [(a_tx, .inr (4, [.ref a_sg, .int w_ln, .int w_pl, .int w_wr]))] sz) U ∧ va_P (dC, dI) vwCl [(a_tx, .inr (4, [.ref a_sg, .int w_ln, .int w_pl, .int w_wr]))] U.heap ∧ va_K (dC, dI) vwCl [] U ∧ va_D (fun _ => True) [(a_tx, .inr (4, [.ref a_sg, .int w_ln, .int w_pl, .int w_wr]))])) (va_Qv (fun _ : Unit => True) (fun (_ : Unit) (t : State) => va_P (dC, dI) vwCl [(a_tx, .inr (4, [.ref a_sg, .int w_ln, .int w_pl, .int (g_Cg_markWrong p0 w_wr)]))] t.heap ∧ va_K (dC, dI) vwCl [] t ∧ va_D (va_A [(a_tx, .inr (4, [.ref a_sg, .int w_ln, .int w_pl, .int w_wr]))] sz) [(a_tx, .inr (4, [.ref a_sg, .int w_ln, .int w_pl, .int (g_Cg_markWrong p0 w_wr)]))]) (va_A [(a_tx, .inr (4, [.ref a_sg, .int w_ln, .int w_pl, .int w_wr]))] sz)) 0 0 (va_A [(a_tx, .inr (4, [.ref a_sg, .int w_ln, .int w_pl, .int w_wr]))] sz) := by
  refine Met.ofW (cc := c_T_markWrong) (maxL := 2) (ret := none) (by decide) rfl ?_
  intro p e s m args below meth c s₁ B hml hv
  obtain ⟨rfl, hsz, hZ, hP, hK, hD0⟩ := hv
  have hx := B.exec
  have hb := B.bytes
  have hr := B.returns
  have hts0 := atoms_spec (ws := ws_T_markWrong) B.pre
  have hts : ∀ w ∈ TT, w.before _ s = true := fun w h => hts0 w (List.mem_cons_of_mem _ h)
  have hown : s.vm.findClass "LoanRules$RuleText" = some m.cls := findClass_of_methodNamed B.named
  have hlocks := B.notSynchronized
  subst hsz
  have hD := hD0.self (sz := s.heap.size)
  generalize hAe : va_A [(a_tx, .inr (4, [.ref a_sg, .int w_ln, .int w_pl, .int w_wr]))] s.heap.size = A at hD hZ ⊢
  have hA : ∀ q : Nat, s.heap.size ≤ q → A q := fun q h => by rw [← hAe]; exact Or.inr h
  clear hAe hD0
  have hS : va_S A s.heap s.heap [] := va_S.rf
  replace hP : va_P (dC, dI) vwCl [(a_tx, .inr (4, [.ref a_sg, .int w_ln, .int w_pl, .int w_wr]))] s.heap := hP
  have hl := lv_entry ([.ref a_tx, .int p0]) (n := 2) (Nat.le_of_ble_eq_true rfl)
  rw [lg_entry_eq]
  generalize (lg_sl ([.ref a_tx, .int p0]) ++ List.replicate (2 - (lg_sl ([.ref a_tx, .int p0])).length) Slot.unset).toArray = ls at hl ⊢
  replace hl : lv_has ls 2 [(0, .ref a_tx), (1, .int p0)] := hl
  obtain ⟨z, hz⟩ : ∃ z, z = g_Cg_markWrong p0 w_wr := ⟨_, rfl⟩
  have hE := hz
  rw [g_Cg_markWrong] at hE
  refine lv_aload_n hx hb d_T_markWrong_0 rfl (lv_at hl 0 rfl) ?_
  refine va_get (D := (dC, dI)) (ci := 4) (v := .int w_wr) (C := "LoanRules$RuleText") (T := Fz_T) (N := 4) hx hb hts it_T hown hK hP 0 rfl rfl 3 (by decide) (hts _ tw_75) (fun _ h9 => h9) rfl d_T_markWrong_1 ?_
  refine lv_iconst (v := (-1)) hx hb d_T_markWrong_4 (by decide) ?_
  refine lv_icmp_ne (tgt := 13) hx hb d_T_markWrong_5 (by decide) (fun c_1 => ?_) (fun c_1 => ?_)
  · rw [if_neg c_1] at hE
    have hP9 := hP.sub (ws' := [(a_tx, .inr (4, [.ref a_sg, .int w_ln, .int w_pl, .int w_wr]))]) [0] rfl
    have hD9 := hD.sub (ws' := [(a_tx, .inr (4, [.ref a_sg, .int w_ln, .int w_pl, .int w_wr]))]) [0] (by decide) rfl
    have hK9 := hK.sub (tys' := []) [] rfl
    exact W.vret hx hb hr (fun t ht hW => ⟨⟨(), rfl, trivial, by rw [ht, ← hz, hE]; exact hP9, va_K.moved hW.alike hK9, by rw [← hz, hE]; exact hD9⟩, hS.F ht⟩) hS.2.2 d_T_markWrong_13
  · rw [if_pos c_1] at hE
    refine lv_aload_n hx hb d_T_markWrong_8 rfl (lv_at hl 0 rfl) ?_
    refine lv_iload_n hx hb d_T_markWrong_9 rfl (lv_at hl 1 rfl) ?_
    refine va_put (D := (dC, dI)) (ci := 4) (v := .int p0) (ty := .int) (C := "LoanRules$RuleText") (T := Fz_T) (N := 4) hx hb hts it_T tz_T tz_T_ok nz_T hown hK hP hD hS 0 rfl rfl 3 (by decide) (hts _ tw_75) (fun _ h9 => h9) rfl (by decide +kernel) rfl rfl (Nat.le_of_ble_eq_true rfl) d_T_markWrong_10 (fun H locs hP hD hS => ?_)
    replace hP : va_P (dC, dI) vwCl [(a_tx, .inr (4, [.ref a_sg, .int w_ln, .int w_pl, .int p0]))] H := hP
    replace hD : va_D A [(a_tx, .inr (4, [.ref a_sg, .int w_ln, .int w_pl, .int p0]))] := hD
    have hP9 := hP.sub (ws' := [(a_tx, .inr (4, [.ref a_sg, .int w_ln, .int w_pl, .int p0]))]) [0] rfl
    have hD9 := hD.sub (ws' := [(a_tx, .inr (4, [.ref a_sg, .int w_ln, .int w_pl, .int p0]))]) [0] (by decide) rfl
    have hK9 := hK.sub (tys' := []) [] rfl
    exact W.vret hx hb hr (fun t ht hW => ⟨⟨(), rfl, trivial, by rw [ht, ← hz, hE]; exact hP9, va_K.moved hW.alike hK9, by rw [← hz, hE]; exact hD9⟩, hS.F ht⟩) hS.2.2 d_T_markWrong_13
def g_Cg_takeSpace (w_ln : Int32) (w_pl : Int32) (w_wr : Int32) (f_sg : Nat → Int32) : Int32 × Int32 :=
  if (g_Cg_signAt w_pl w_ln f_sg) = 32 then
    (w_pl + 1, w_wr)
  else
    bv (g_Cg_markWrong w_pl w_wr) (fun x_5 =>
      (w_pl, x_5))
set_option maxHeartbeats 4000000 in
set_option maxRecDepth 100000 in
theorem c_Cg_takeSpace (l : Launch) (dC : Nat → ClassId) (dI : Nat → Nat → Nat) (adK adV : Nat → Nat) (a_tx : Nat) (a_sg : Nat) (k_sg : ClassId) (w_ln : Int32) (w_pl : Int32) (w_wr : Int32) (f_sg : Nat → Int32) (sz : Nat) : Met l y_T_takeSpace ws_T_takeSpace ({ frames := 1, cells := 0, slots := 0, locals := 21 }) (va_Pc [.ref a_tx] (fun U => U.heap.size = sz ∧ zz adK adV (va_A [(a_tx, .inr (4, [.ref a_sg, .int w_ln, .int w_pl, .int w_wr])), (a_sg, .inl (k_sg, 120, .inl f_sg))] sz) U ∧ va_P (dC, dI) vwCl [(a_tx, .inr (4, [.ref a_sg, .int w_ln, .int w_pl, .int w_wr])), (a_sg, .inl (k_sg, 120, .inl f_sg))] U.heap ∧ va_K (dC, dI) vwCl [(k_sg, .char)] U ∧ va_D (fun _ => True) [(a_tx, .inr (4, [.ref a_sg, .int w_ln, .int w_pl, .int w_wr])), (a_sg, .inl (k_sg, 120, .inl f_sg))])) (va_Qv (fun _ : Unit => True) (fun (_ : Unit) (t : State) => va_P (dC, dI) vwCl [(a_tx, .inr (4, [.ref a_sg, .int w_ln, .int ((g_Cg_takeSpace w_ln w_pl w_wr f_sg).1), .int ((g_Cg_takeSpace w_ln w_pl w_wr f_sg).2)])), (a_sg, .inl (k_sg, 120, .inl f_sg))] t.heap ∧ va_K (dC, dI) vwCl [(k_sg, .char)] t ∧ va_D (va_A [(a_tx, .inr (4, [.ref a_sg, .int w_ln, .int w_pl, .int w_wr])), (a_sg, .inl (k_sg, 120, .inl f_sg))] sz) [(a_tx, .inr (4, [.ref a_sg, .int w_ln, .int ((g_Cg_takeSpace w_ln w_pl w_wr f_sg).1), .int ((g_Cg_takeSpace w_ln w_pl w_wr f_sg).2)])), (a_sg, .inl (k_sg, 120, .inl f_sg))]) (va_A [(a_tx, .inr (4, [.ref a_sg, .int w_ln, .int w_pl, .int w_wr])), (a_sg, .inl (k_sg, 120, .inl f_sg))] sz)) 0 0 (va_A [(a_tx, .inr (4, [.ref a_sg, .int w_ln, .int w_pl, .int w_wr])), (a_sg, .inl (k_sg, 120, .inl f_sg))] sz) := by
  refine Met.ofW (cc := c_T_takeSpace) (maxL := 1) (ret := none) (by decide) rfl ?_
  intro p e s m args below meth c s₁ B hml hv
  obtain ⟨rfl, hsz, hZ, hP, hK, hD0⟩ := hv
  have hx := B.exec
  have hb := B.bytes
  have hr := B.returns
  have hts0 := atoms_spec (ws := ws_T_takeSpace) B.pre
  have hts : ∀ w ∈ TT, w.before _ s = true := fun w h => hts0 w (List.mem_cons_of_mem _ h)
  have hown : s.vm.findClass "LoanRules$RuleText" = some m.cls := findClass_of_methodNamed B.named
  have hlocks := B.notSynchronized
  subst hsz
  have hD := hD0.self (sz := s.heap.size)
  generalize hAe : va_A [(a_tx, .inr (4, [.ref a_sg, .int w_ln, .int w_pl, .int w_wr])), (a_sg, .inl (k_sg, 120, .inl f_sg))] s.heap.size = A at hD hZ ⊢
  have hA : ∀ q : Nat, s.heap.size ≤ q → A q := fun q h => by rw [← hAe]; exact Or.inr h
  clear hAe hD0
  have hS : va_S A s.heap s.heap [] := va_S.rf
  replace hP : va_P (dC, dI) vwCl [(a_tx, .inr (4, [.ref a_sg, .int w_ln, .int w_pl, .int w_wr])), (a_sg, .inl (k_sg, 120, .inl f_sg))] s.heap := hP
  have hl := lv_entry ([.ref a_tx]) (n := 1) (Nat.le_of_ble_eq_true rfl)
  rw [lg_entry_eq]
  generalize (lg_sl ([.ref a_tx]) ++ List.replicate (1 - (lg_sl ([.ref a_tx])).length) Slot.unset).toArray = ls at hl ⊢
  replace hl : lv_has ls 1 [(0, .ref a_tx)] := hl
  obtain ⟨z, hz⟩ : ∃ z, z = g_Cg_takeSpace w_ln w_pl w_wr f_sg := ⟨_, rfl⟩
  have hE := hz
  rw [g_Cg_takeSpace] at hE
  refine lv_aload_n hx hb d_T_takeSpace_0 rfl (lv_at hl 0 rfl) ?_
  refine lv_aload_n hx hb d_T_takeSpace_1 rfl (lv_at hl 0 rfl) ?_
  refine va_get (D := (dC, dI)) (ci := 4) (v := .int w_pl) (C := "LoanRules$RuleText") (T := Fz_T) (N := 4) hx hb hts it_T hown hK hP 0 rfl rfl 2 (by decide) (hts _ tw_74) (fun _ h9 => h9) rfl d_T_takeSpace_2 ?_
  have hPc := hP.sub (ws' := [(a_tx, .inr (4, [.ref a_sg, .int w_ln, .int w_pl, .int w_wr])), (a_sg, .inl (k_sg, 120, .inl f_sg))]) [0, 1] rfl
  have hKc := hK.sub (tys' := [(k_sg, .char)]) [0] rfl
  refine vp_callSi (va_Run.run (va_runV (As := [.int w_pl]) (rest := []) ⟨hx, hb, hml, hown, hts⟩ (c_Cg_signAt l dC dI adK adV (a_tx := a_tx) (p0 := w_pl) (a_sg := a_sg) (w_ln := w_ln) (w_pl := w_pl) (w_wr := w_wr) (k_sg := k_sg) (f_sg := f_sg)) (cwV 1 hts (gV tw_249 tw_251 tw_2 tw_43 tw_252) rfl rfl rfl (by decide +kernel) ⟨(Nat.le_of_ble_eq_true rfl), (Nat.le_of_ble_eq_true rfl)⟩) ⟨fun a U g mk q => by obtain ⟨q0, qZ, qP, qK⟩ := q; exact ⟨q0, zz_call qZ, qP, va_K.moved (u := U) (U := U.calling g mk a) (Vm.Alike.refl U.vm) qK⟩, va_recv hKc hPc (ci := 4) (q0 := 0) rfl rfl, fun U hU hW => ⟨rfl, zz_ro hS hU hW hZ, by rw [hU]; exact hPc, va_K.moved hW.alike hKc⟩⟩ rfl rfl hl.1 rfl (lv_room (Nat.le_of_ble_eq_true rfl)) d_T_takeSpace_5 ⟨(Nat.le_of_ble_eq_true rfl), (Nat.le_of_ble_eq_true rfl)⟩)) (fun r_1 hw_2 => ?_)
  clear hPc hKc
  subst hw_2
  refine lv_bipush (v := 32) hx hb d_T_takeSpace_8 (by decide) ?_
  refine lv_icmp_ne (tgt := 26) hx hb d_T_takeSpace_10 (by decide) (fun c_3 => ?_) (fun c_3 => ?_)
  · rw [if_neg c_3] at hE
    refine lv_aload_n hx hb d_T_takeSpace_26 rfl (lv_at hl 0 rfl) ?_
    refine lv_aload_n hx hb d_T_takeSpace_27 rfl (lv_at hl 0 rfl) ?_
    refine va_get (D := (dC, dI)) (ci := 4) (v := .int w_pl) (C := "LoanRules$RuleText") (T := Fz_T) (N := 4) hx hb hts it_T hown hK hP 0 rfl rfl 2 (by decide) (hts _ tw_74) (fun _ h9 => h9) rfl d_T_takeSpace_28 ?_
    have hPc := hP.sub (ws' := [(a_tx, .inr (4, [.ref a_sg, .int w_ln, .int w_pl, .int w_wr]))]) [0] rfl
    have hKc := hK.sub (tys' := []) [] rfl
    have hDc := hD.sub (ws' := [(a_tx, .inr (4, [.ref a_sg, .int w_ln, .int w_pl, .int w_wr]))]) [0] (by decide) rfl
    have hFc := va_free (wc := [(a_tx, .inr (4, [.ref a_sg, .int w_ln, .int w_pl, .int w_wr]))]) hD hS hA [0] rfl
    refine va_callv (va_runV (As := [.int w_pl]) (rest := []) ⟨hx, hb, hml, hown, hts⟩ (c_Cg_markWrong l dC dI adK adV (a_tx := a_tx) (p0 := w_pl) (a_sg := a_sg) (w_ln := w_ln) (w_pl := w_pl) (w_wr := w_wr) (sz := s.heap.size)) (cwV 1 hts (gV tw_302 tw_304 tw_5 tw_43 tw_305) rfl rfl rfl (by decide +kernel) ⟨(Nat.le_of_ble_eq_true rfl), (Nat.le_of_ble_eq_true rfl)⟩) ⟨fun a U g mk q => by obtain ⟨q0, q1, qZ, qP, qK, qD⟩ := q; exact ⟨q0, q1, zz_call qZ, qP, va_K.moved (u := U) (U := U.calling g mk a) (Vm.Alike.refl U.vm) qK, qD⟩, va_recv hKc hPc (ci := 4) (q0 := 0) rfl rfl, fun U hU hW => ⟨rfl, by rw [hU], zz_rw hS hFc hU hW hZ, by rw [hU]; exact hPc, va_K.moved hW.alike hKc, hDc.weaken (fun _ _ _ _ => trivial)⟩⟩ rfl rfl hl.1 rfl (lv_room (Nat.le_of_ble_eq_true rfl)) d_T_takeSpace_31 ⟨(Nat.le_of_ble_eq_true rfl), (Nat.le_of_ble_eq_true rfl)⟩) hS (fun q _ h => hFc q h) hFc (fun u t H1 locs ht hvm hw_4 hB hz1 hk1 hS => ?_)
    generalize hg_x_5 : g_Cg_markWrong w_pl w_wr = x_5 at hw_4 hB hE
    rw [bv_eq] at hE
    obtain ⟨hP1, hK1, hD1⟩ := hB
    rw [ht] at hP1
    have hK1 := va_K.moved hvm.symm hK1
    obtain ⟨hP, hD⟩ := va_join (wr := [(a_sg, .inl (k_sg, 120, .inl f_sg))]) (w1 := [(a_tx, .inr (4, [.ref a_sg, .int w_ln, .int w_pl, .int x_5]))]) hP hD [0] [1] rfl rfl (by decide) (by decide) hk1 hFc hP1 hD1
    replace hK := (hK.sub (tys' := [(k_sg, .char)]) [0] rfl).app hK1
    generalize H1 = H at hP hS ⊢
    replace hP := hP.sub (ws' := [(a_tx, .inr (4, [.ref a_sg, .int w_ln, .int w_pl, .int x_5])), (a_sg, .inl (k_sg, 120, .inl f_sg))]) [1, 0] rfl
    replace hD := hD.sub (ws' := [(a_tx, .inr (4, [.ref a_sg, .int w_ln, .int w_pl, .int x_5])), (a_sg, .inl (k_sg, 120, .inl f_sg))]) [1, 0] (by decide) rfl
    replace hK := hK.sub (tys' := [(k_sg, .char)]) [0] rfl
    have hP9 := hP.sub (ws' := [(a_tx, .inr (4, [.ref a_sg, .int w_ln, .int w_pl, .int x_5])), (a_sg, .inl (k_sg, 120, .inl f_sg))]) [0, 1] rfl
    have hD9 := hD.sub (ws' := [(a_tx, .inr (4, [.ref a_sg, .int w_ln, .int w_pl, .int x_5])), (a_sg, .inl (k_sg, 120, .inl f_sg))]) [0, 1] (by decide) rfl
    have hK9 := hK.sub (tys' := [(k_sg, .char)]) [0] rfl
    exact W.vret hx hb hr (fun t ht hW => ⟨⟨(), rfl, trivial, by rw [ht, ← hz, hE]; exact hP9, va_K.moved hW.alike hK9, by rw [← hz, hE]; exact hD9⟩, hS.F ht⟩) hS.2.2 d_T_takeSpace_34
  · rw [if_pos c_3] at hE
    refine lv_aload_n hx hb d_T_takeSpace_13 rfl (lv_at hl 0 rfl) ?_
    refine lv_dup hx hb d_T_takeSpace_14 rfl ?_
    refine va_get (D := (dC, dI)) (ci := 4) (v := .int w_pl) (C := "LoanRules$RuleText") (T := Fz_T) (N := 4) hx hb hts it_T hown hK hP 0 rfl rfl 2 (by decide) (hts _ tw_74) (fun _ h9 => h9) rfl d_T_takeSpace_15 ?_
    refine lv_iconst (v := 1) hx hb d_T_takeSpace_18 (by decide) ?_
    refine lv_iadd hx hb d_T_takeSpace_19 ?_
    refine va_put (D := (dC, dI)) (ci := 4) (v := .int (w_pl + 1)) (ty := .int) (C := "LoanRules$RuleText") (T := Fz_T) (N := 4) hx hb hts it_T tz_T tz_T_ok nz_T hown hK hP hD hS 0 rfl rfl 2 (by decide) (hts _ tw_74) (fun _ h9 => h9) rfl (by decide +kernel) rfl rfl (Nat.le_of_ble_eq_true rfl) d_T_takeSpace_20 (fun H locs hP hD hS => ?_)
    replace hP : va_P (dC, dI) vwCl [(a_tx, .inr (4, [.ref a_sg, .int w_ln, .int (w_pl + 1), .int w_wr])), (a_sg, .inl (k_sg, 120, .inl f_sg))] H := hP
    replace hD : va_D A [(a_tx, .inr (4, [.ref a_sg, .int w_ln, .int (w_pl + 1), .int w_wr])), (a_sg, .inl (k_sg, 120, .inl f_sg))] := hD
    refine lv_goto (tgt := 34) hx hb d_T_takeSpace_23 (by decide) ?_
    have hP9 := hP.sub (ws' := [(a_tx, .inr (4, [.ref a_sg, .int w_ln, .int (w_pl + 1), .int w_wr])), (a_sg, .inl (k_sg, 120, .inl f_sg))]) [0, 1] rfl
    have hD9 := hD.sub (ws' := [(a_tx, .inr (4, [.ref a_sg, .int w_ln, .int (w_pl + 1), .int w_wr])), (a_sg, .inl (k_sg, 120, .inl f_sg))]) [0, 1] (by decide) rfl
    have hK9 := hK.sub (tys' := [(k_sg, .char)]) [0] rfl
    exact W.vret hx hb hr (fun t ht hW => ⟨⟨(), rfl, trivial, by rw [ht, ← hz, hE]; exact hP9, va_K.moved hW.alike hK9, by rw [← hz, hE]; exact hD9⟩, hS.F ht⟩) hS.2.2 d_T_takeSpace_34
theorem tsp_at {w_ln w_pl w_wr : Int32} {f_sg : Nat → Int32} (hln : i120 w_ln) (hpl : i120 w_pl) : i120 (g_Cg_takeSpace w_ln w_pl w_wr f_sg).1 := by
  unfold g_Cg_takeSpace
  with_reducible refine pt_i (fun t : Int32 × Int32 => i120 t.1) (fun c => ?_) (fun _ => ?_)
  · have h := sg_lt (by decide) c
    exact li_k hpl hln h.2
  · exact hpl
def gl_num : Nat → (Int32) → (Int32) → (Nat → Int32) → (Int32) → (Int32) → (Int32) → Int32 × Int32 × Int32
  | 0, p0, w_ln, f_sg, a, fd, v => (a, fd, v)
  | n + 1, p0, w_ln, f_sg, a, fd, v =>
    if w_ln ≤ a then
      (a, fd, v)
    else
      if (g_Cg_isDigit (g_Cg_signAt a w_ln f_sg)) = 0 then
        (a, fd, v)
      else
        if p0 ≤ (a - fd) then
          gl_num n p0 w_ln f_sg (a + 1) fd v
        else
          gl_num n p0 w_ln f_sg (a + 1) fd ((v * 10) + ((g_Cg_signAt a w_ln f_sg) - 48))
def g_Cg_takeNumber (p0 : Int32) (p1 : Int32) (w_ln : Int32) (w_pl : Int32) (w_wr : Int32) (f_sg : Nat → Int32) : Int32 × Int32 × Int32 :=
  bv (g_Cg_takeSpace w_ln w_pl w_wr f_sg) (fun x_2 =>
    bv (gl_num 121 p0 w_ln f_sg x_2.1 x_2.1 0) (fun x_3 =>
      if (x_3.1 - x_3.2.1) = 0 then
        bv (g_Cg_markWrong x_3.2.1 x_2.2) (fun x_6 =>
          (x_3.2.2, x_3.1, x_6))
      else
        if p0 < (x_3.1 - x_3.2.1) then
          bv (g_Cg_markWrong x_3.2.1 x_2.2) (fun x_9 =>
            (x_3.2.2, x_3.1, x_9))
        else
          if x_3.2.2 ≤ p1 then
            (x_3.2.2, x_3.1, x_2.2)
          else
            bv (g_Cg_markWrong x_3.2.1 x_2.2) (fun x_12 =>
              (x_3.2.2, x_3.1, x_12))))
set_option maxHeartbeats 4000000 in
set_option maxRecDepth 100000 in
theorem c_Cg_takeNumber (l : Launch) (dC : Nat → ClassId) (dI : Nat → Nat → Nat) (adK adV : Nat → Nat) (a_tx : Nat) (a_sg : Nat) (k_sg : ClassId) (p0 : Int32) (p1 : Int32) (w_ln : Int32) (w_pl : Int32) (w_wr : Int32) (f_sg : Nat → Int32) (sz : Nat) (hln : 0 ≤ w_ln.toInt ∧ w_ln.toInt ≤ 120) (hpl : 0 ≤ w_pl.toInt ∧ w_pl.toInt ≤ 120) : Met l y_T_takeNumber ws_T_takeNumber ({ frames := 2, cells := 0, slots := 0, locals := 41 }) (va_Pc [.ref a_tx, .int p0, .int p1] (fun U => U.heap.size = sz ∧ zz adK adV (va_A [(a_tx, .inr (4, [.ref a_sg, .int w_ln, .int w_pl, .int w_wr])), (a_sg, .inl (k_sg, 120, .inl f_sg))] sz) U ∧ va_P (dC, dI) vwCl [(a_tx, .inr (4, [.ref a_sg, .int w_ln, .int w_pl, .int w_wr])), (a_sg, .inl (k_sg, 120, .inl f_sg))] U.heap ∧ va_K (dC, dI) vwCl [(k_sg, .char)] U ∧ va_D (fun _ => True) [(a_tx, .inr (4, [.ref a_sg, .int w_ln, .int w_pl, .int w_wr])), (a_sg, .inl (k_sg, 120, .inl f_sg))])) (va_Qi (fun (r : Int32) (_ : Unit) => r = (g_Cg_takeNumber p0 p1 w_ln w_pl w_wr f_sg).1) (fun (_ : Unit) (t : State) => va_P (dC, dI) vwCl [(a_tx, .inr (4, [.ref a_sg, .int w_ln, .int ((g_Cg_takeNumber p0 p1 w_ln w_pl w_wr f_sg).2.1), .int ((g_Cg_takeNumber p0 p1 w_ln w_pl w_wr f_sg).2.2)])), (a_sg, .inl (k_sg, 120, .inl f_sg))] t.heap ∧ va_K (dC, dI) vwCl [(k_sg, .char)] t ∧ va_D (va_A [(a_tx, .inr (4, [.ref a_sg, .int w_ln, .int w_pl, .int w_wr])), (a_sg, .inl (k_sg, 120, .inl f_sg))] sz) [(a_tx, .inr (4, [.ref a_sg, .int w_ln, .int ((g_Cg_takeNumber p0 p1 w_ln w_pl w_wr f_sg).2.1), .int ((g_Cg_takeNumber p0 p1 w_ln w_pl w_wr f_sg).2.2)])), (a_sg, .inl (k_sg, 120, .inl f_sg))]) (va_A [(a_tx, .inr (4, [.ref a_sg, .int w_ln, .int w_pl, .int w_wr])), (a_sg, .inl (k_sg, 120, .inl f_sg))] sz)) 0 0 (va_A [(a_tx, .inr (4, [.ref a_sg, .int w_ln, .int w_pl, .int w_wr])), (a_sg, .inl (k_sg, 120, .inl f_sg))] sz) := by
  refine Met.ofW (cc := c_T_takeNumber) (maxL := 6) (ret := (some .int)) (by decide) rfl ?_
  intro p e s m args below meth c s₁ B hml hv
  obtain ⟨rfl, hsz, hZ, hP, hK, hD0⟩ := hv
  have hx := B.exec
  have hb := B.bytes
  have hr := B.returns
  have hts0 := atoms_spec (ws := ws_T_takeNumber) B.pre
  have hts : ∀ w ∈ TT, w.before _ s = true := fun w h => hts0 w (List.mem_cons_of_mem _ h)
  have hown : s.vm.findClass "LoanRules$RuleText" = some m.cls := findClass_of_methodNamed B.named
  have hlocks := B.notSynchronized
  subst hsz
  have hD := hD0.self (sz := s.heap.size)
  generalize hAe : va_A [(a_tx, .inr (4, [.ref a_sg, .int w_ln, .int w_pl, .int w_wr])), (a_sg, .inl (k_sg, 120, .inl f_sg))] s.heap.size = A at hD hZ ⊢
  have hA : ∀ q : Nat, s.heap.size ≤ q → A q := fun q h => by rw [← hAe]; exact Or.inr h
  clear hAe hD0
  have hS : va_S A s.heap s.heap [] := va_S.rf
  replace hP : va_P (dC, dI) vwCl [(a_tx, .inr (4, [.ref a_sg, .int w_ln, .int w_pl, .int w_wr])), (a_sg, .inl (k_sg, 120, .inl f_sg))] s.heap := hP
  have hl := lv_entry ([.ref a_tx, .int p0, .int p1]) (n := 6) (Nat.le_of_ble_eq_true rfl)
  rw [lg_entry_eq]
  generalize (lg_sl ([.ref a_tx, .int p0, .int p1]) ++ List.replicate (6 - (lg_sl ([.ref a_tx, .int p0, .int p1])).length) Slot.unset).toArray = ls at hl ⊢
  replace hl : lv_has ls 6 [(0, .ref a_tx), (1, .int p0), (2, .int p1)] := hl
  obtain ⟨z, hz⟩ : ∃ z, z = g_Cg_takeNumber p0 p1 w_ln w_pl w_wr f_sg := ⟨_, rfl⟩
  have hE := hz
  rw [g_Cg_takeNumber] at hE
  refine lv_aload_n hx hb d_T_takeNumber_0 rfl (lv_at hl 0 rfl) ?_
  have hPc := hP.sub (ws' := [(a_tx, .inr (4, [.ref a_sg, .int w_ln, .int w_pl, .int w_wr])), (a_sg, .inl (k_sg, 120, .inl f_sg))]) [0, 1] rfl
  have hKc := hK.sub (tys' := [(k_sg, .char)]) [0] rfl
  have hDc := hD.sub (ws' := [(a_tx, .inr (4, [.ref a_sg, .int w_ln, .int w_pl, .int w_wr])), (a_sg, .inl (k_sg, 120, .inl f_sg))]) [0, 1] (by decide) rfl
  have hFc := va_free (wc := [(a_tx, .inr (4, [.ref a_sg, .int w_ln, .int w_pl, .int w_wr])), (a_sg, .inl (k_sg, 120, .inl f_sg))]) hD hS hA [0, 1] rfl
  refine va_callv (va_runV (As := []) (rest := []) ⟨hx, hb, hml, hown, hts⟩ (c_Cg_takeSpace l dC dI adK adV (a_tx := a_tx) (a_sg := a_sg) (w_ln := w_ln) (w_pl := w_pl) (w_wr := w_wr) (k_sg := k_sg) (f_sg := f_sg) (sz := s.heap.size)) (cwV 0 hts (gV tw_298 tw_300 tw_4 tw_43 tw_301) rfl rfl rfl (by decide +kernel) ⟨(Nat.le_of_ble_eq_true rfl), (Nat.le_of_ble_eq_true rfl)⟩) ⟨fun a U g mk q => by obtain ⟨q0, q1, qZ, qP, qK, qD⟩ := q; exact ⟨q0, q1, zz_call qZ, qP, va_K.moved (u := U) (U := U.calling g mk a) (Vm.Alike.refl U.vm) qK, qD⟩, va_recv hKc hPc (ci := 4) (q0 := 0) rfl rfl, fun U hU hW => ⟨rfl, by rw [hU], zz_rw hS hFc hU hW hZ, by rw [hU]; exact hPc, va_K.moved hW.alike hKc, hDc.weaken (fun _ _ _ _ => trivial)⟩⟩ rfl rfl hl.1 rfl (lv_room (Nat.le_of_ble_eq_true rfl)) d_T_takeNumber_1 ⟨(Nat.le_of_ble_eq_true rfl), (Nat.le_of_ble_eq_true rfl)⟩) hS (fun q _ h => hFc q h) hFc (fun u t H1 locs ht hvm hw_1 hB hz1 hk1 hS => ?_)
  generalize hg_x_2 : g_Cg_takeSpace w_ln w_pl w_wr f_sg = x_2 at hw_1 hB hE
  rw [bv_eq] at hE
  obtain ⟨hP1, hK1, hD1⟩ := hB
  rw [ht] at hP1
  have hK1 := va_K.moved hvm.symm hK1
  obtain ⟨hP, hD⟩ := va_join (wr := []) (w1 := [(a_tx, .inr (4, [.ref a_sg, .int w_ln, .int x_2.1, .int x_2.2])), (a_sg, .inl (k_sg, 120, .inl f_sg))]) hP hD [0, 1] [] rfl rfl (by decide) (by decide) hk1 hFc hP1 hD1
  replace hK := (hK.sub (tys' := []) [] rfl).app hK1
  generalize H1 = H at hP hS ⊢
  replace hP := hP.sub (ws' := [(a_tx, .inr (4, [.ref a_sg, .int w_ln, .int x_2.1, .int x_2.2])), (a_sg, .inl (k_sg, 120, .inl f_sg))]) [0, 1] rfl
  replace hD := hD.sub (ws' := [(a_tx, .inr (4, [.ref a_sg, .int w_ln, .int x_2.1, .int x_2.2])), (a_sg, .inl (k_sg, 120, .inl f_sg))]) [0, 1] (by decide) rfl
  replace hK := hK.sub (tys' := [(k_sg, .char)]) [0] rfl
  refine lv_aload_n hx hb d_T_takeNumber_4 rfl (lv_at hl 0 rfl) ?_
  refine va_get (D := (dC, dI)) (ci := 4) (v := .int x_2.1) (C := "LoanRules$RuleText") (T := Fz_T) (N := 4) hx hb hts it_T hown hK hP 0 rfl rfl 2 (by decide) (hts _ tw_74) (fun _ h9 => h9) rfl d_T_takeNumber_5 ?_
  refine lv_istore_n (lv' := [(3, .int x_2.1), (0, .ref a_tx), (1, .int p0), (2, .int p1)]) hx hb d_T_takeNumber_8 rfl hl (by decide) rfl (fun ls hl => ?_)
  refine lv_iconst (v := 0) hx hb d_T_takeNumber_9 (by decide) ?_
  refine lv_istore (lv' := [(4, .int 0), (3, .int x_2.1), (0, .ref a_tx), (1, .int p0), (2, .int p1)]) hx hb d_T_takeNumber_10 hl (by decide) rfl (fun ls hl => ?_)
  generalize hg_x_3 : gl_num 121 p0 w_ln f_sg x_2.1 x_2.1 0 = x_3 at hE
  rw [bv_eq] at hE
  obtain ⟨a, e_a⟩ : ∃ q9 : Int32, q9 = x_2.1 := ⟨_, rfl⟩
  obtain ⟨fd, e_fd⟩ : ∃ q9 : Int32, q9 = x_2.1 := ⟨_, rfl⟩
  obtain ⟨v, e_v⟩ : ∃ q9 : Int32, q9 = 0 := ⟨_, rfl⟩
  obtain ⟨n, e_n⟩ : ∃ q9 : Nat, q9 = 121 := ⟨_, rfl⟩
  have hAll : va_P (dC, dI) vwCl [(a_tx, .inr (4, [.ref a_sg, .int w_ln, .int a, .int x_2.2])), (a_sg, .inl (k_sg, 120, .inl f_sg))] H ∧ va_D A [(a_tx, .inr (4, [.ref a_sg, .int w_ln, .int a, .int x_2.2])), (a_sg, .inl (k_sg, 120, .inl f_sg))] ∧ va_S A s.heap H locs ∧ lv_has ls 6 [(4, .int v), (3, .int fd), (0, .ref a_tx), (1, .int p0), (2, .int p1)] ∧ (0 ≤ a.toInt ∧ a.toInt ≤ 120) ∧ 121 - a.toInt.toNat ≤ n ∧ gl_num n p0 w_ln f_sg a fd v = x_3 := by
    subst e_a e_fd e_v e_n
    exact ⟨hP, hD, hS, hl, (hg_x_2 ▸ tsp_at hln hpl), by omega, hg_x_3⟩
  clear hP hl hD hS e_a e_fd e_v e_n hg_x_3
  induction n generalizing a fd v H locs ls with
  | zero =>
    obtain ⟨hP, hD, hS, hl, ha, hm_num, hg_num⟩ := hAll
    exfalso; omega
  | succ n ih_num =>
    obtain ⟨hP, hD, hS, hl, ha, hm_num, hg_num⟩ := hAll
    rw [gl_num] at hg_num
    refine lv_aload_n hx hb d_T_takeNumber_12 rfl (lv_at hl 2 rfl) ?_
    refine va_get (D := (dC, dI)) (ci := 4) (v := .int a) (C := "LoanRules$RuleText") (T := Fz_T) (N := 4) hx hb hts it_T hown hK hP 0 rfl rfl 2 (by decide) (hts _ tw_74) (fun _ h9 => h9) rfl d_T_takeNumber_13 ?_
    refine lv_aload_n hx hb d_T_takeNumber_16 rfl (lv_at hl 2 rfl) ?_
    refine va_get (D := (dC, dI)) (ci := 4) (v := .int w_ln) (C := "LoanRules$RuleText") (T := Fz_T) (N := 4) hx hb hts it_T hown hK hP 0 rfl rfl 1 (by decide) (hts _ tw_73) (fun _ h9 => h9) rfl d_T_takeNumber_17 ?_
    refine lv_icmp_ge (tgt := 79) hx hb d_T_takeNumber_20 (by decide) (fun c_4 => ?_) (fun c_4 => ?_)
    · rw [if_pos c_4] at hg_num
      subst hg_num
      dsimp only at hE
      refine lv_aload_n hx hb d_T_takeNumber_79 rfl (lv_at hl 2 rfl) ?_
      refine va_get (D := (dC, dI)) (ci := 4) (v := .int a) (C := "LoanRules$RuleText") (T := Fz_T) (N := 4) hx hb hts it_T hown hK hP 0 rfl rfl 2 (by decide) (hts _ tw_74) (fun _ h9 => h9) rfl d_T_takeNumber_80 ?_
      refine lv_iload_n hx hb d_T_takeNumber_83 rfl (lv_at hl 1 rfl) ?_
      refine lv_isub hx hb d_T_takeNumber_84 ?_
      refine lv_istore (lv' := [(5, .int (a - fd)), (4, .int v), (3, .int fd), (0, .ref a_tx), (1, .int p0), (2, .int p1)]) hx hb d_T_takeNumber_85 hl (by decide) rfl (fun ls hl => ?_)
      refine lv_iload hx hb d_T_takeNumber_87 (lv_at hl 0 rfl) ?_
      refine lv_if_eq (tgt := 104) hx hb d_T_takeNumber_89 (by decide) (fun c_5 => ?_) (fun c_5 => ?_)
      · rw [if_pos c_5] at hE
        refine lv_aload_n hx hb d_T_takeNumber_104 rfl (lv_at hl 3 rfl) ?_
        refine lv_iload_n hx hb d_T_takeNumber_105 rfl (lv_at hl 2 rfl) ?_
        have hPc := hP.sub (ws' := [(a_tx, .inr (4, [.ref a_sg, .int w_ln, .int a, .int x_2.2]))]) [0] rfl
        have hKc := hK.sub (tys' := []) [] rfl
        have hDc := hD.sub (ws' := [(a_tx, .inr (4, [.ref a_sg, .int w_ln, .int a, .int x_2.2]))]) [0] (by decide) rfl
        have hFc := va_free (wc := [(a_tx, .inr (4, [.ref a_sg, .int w_ln, .int a, .int x_2.2]))]) hD hS hA [0] rfl
        refine va_callv (va_runV (As := [.int fd]) (rest := []) ⟨hx, hb, hml, hown, hts⟩ (c_Cg_markWrong l dC dI adK adV (a_tx := a_tx) (p0 := fd) (a_sg := a_sg) (w_ln := w_ln) (w_pl := a) (w_wr := x_2.2) (sz := H.size)) (cwV 1 hts (gV tw_302 tw_304 tw_5 tw_43 tw_305) rfl rfl rfl (by decide +kernel) ⟨(Nat.le_of_ble_eq_true rfl), (Nat.le_of_ble_eq_true rfl)⟩) ⟨fun a U g mk q => by obtain ⟨q0, q1, qZ, qP, qK, qD⟩ := q; exact ⟨q0, q1, zz_call qZ, qP, va_K.moved (u := U) (U := U.calling g mk a) (Vm.Alike.refl U.vm) qK, qD⟩, va_recv hKc hPc (ci := 4) (q0 := 0) rfl rfl, fun U hU hW => ⟨rfl, by rw [hU], zz_rw hS hFc hU hW hZ, by rw [hU]; exact hPc, va_K.moved hW.alike hKc, hDc.weaken (fun _ _ _ _ => trivial)⟩⟩ rfl rfl hl.1 rfl (lv_room (Nat.le_of_ble_eq_true rfl)) d_T_takeNumber_106 ⟨(Nat.le_of_ble_eq_true rfl), (Nat.le_of_ble_eq_true rfl)⟩) hS (fun q _ h => hFc q h) hFc (fun u t H1 locs ht hvm hw_6 hB hz1 hk1 hS => ?_)
        generalize hg_x_7 : g_Cg_markWrong fd x_2.2 = x_7 at hw_6 hB hE
        rw [bv_eq] at hE
        obtain ⟨hP1, hK1, hD1⟩ := hB
        rw [ht] at hP1
        have hK1 := va_K.moved hvm.symm hK1
        obtain ⟨hP, hD⟩ := va_join (wr := [(a_sg, .inl (k_sg, 120, .inl f_sg))]) (w1 := [(a_tx, .inr (4, [.ref a_sg, .int w_ln, .int a, .int x_7]))]) hP hD [0] [1] rfl rfl (by decide) (by decide) hk1 hFc hP1 hD1
        replace hK := (hK.sub (tys' := [(k_sg, .char)]) [0] rfl).app hK1
        generalize H1 = H at hP hS ⊢
        replace hP := hP.sub (ws' := [(a_tx, .inr (4, [.ref a_sg, .int w_ln, .int a, .int x_7])), (a_sg, .inl (k_sg, 120, .inl f_sg))]) [1, 0] rfl
        replace hD := hD.sub (ws' := [(a_tx, .inr (4, [.ref a_sg, .int w_ln, .int a, .int x_7])), (a_sg, .inl (k_sg, 120, .inl f_sg))]) [1, 0] (by decide) rfl
        replace hK := hK.sub (tys' := [(k_sg, .char)]) [0] rfl
        refine lv_iload hx hb d_T_takeNumber_109 (lv_at hl 1 rfl) ?_
        have hP9 := hP.sub (ws' := [(a_tx, .inr (4, [.ref a_sg, .int w_ln, .int a, .int x_7])), (a_sg, .inl (k_sg, 120, .inl f_sg))]) [0, 1] rfl
        have hD9 := hD.sub (ws' := [(a_tx, .inr (4, [.ref a_sg, .int w_ln, .int a, .int x_7])), (a_sg, .inl (k_sg, 120, .inl f_sg))]) [0, 1] (by decide) rfl
        have hK9 := hK.sub (tys' := [(k_sg, .char)]) [0] rfl
        exact W.iret (v := v) hx hb hr (fun t ht hW => ⟨⟨v, (), rfl, by rw [← hz, hE], by rw [ht, ← hz, hE]; exact hP9, va_K.moved hW.alike hK9, by rw [← hz, hE]; exact hD9⟩, hS.F ht⟩) hS.2.2 d_T_takeNumber_111
      · rw [if_neg c_5] at hE
        refine lv_iload hx hb d_T_takeNumber_92 (lv_at hl 0 rfl) ?_
        refine lv_iload_n hx hb d_T_takeNumber_94 rfl (lv_at hl 4 rfl) ?_
        refine lv_icmp_gt (tgt := 104) hx hb d_T_takeNumber_95 (by decide) (fun c_8 => ?_) (fun c_8 => ?_)
        · rw [if_pos c_8] at hE
          refine lv_aload_n hx hb d_T_takeNumber_104 rfl (lv_at hl 3 rfl) ?_
          refine lv_iload_n hx hb d_T_takeNumber_105 rfl (lv_at hl 2 rfl) ?_
          have hPc := hP.sub (ws' := [(a_tx, .inr (4, [.ref a_sg, .int w_ln, .int a, .int x_2.2]))]) [0] rfl
          have hKc := hK.sub (tys' := []) [] rfl
          have hDc := hD.sub (ws' := [(a_tx, .inr (4, [.ref a_sg, .int w_ln, .int a, .int x_2.2]))]) [0] (by decide) rfl
          have hFc := va_free (wc := [(a_tx, .inr (4, [.ref a_sg, .int w_ln, .int a, .int x_2.2]))]) hD hS hA [0] rfl
          refine va_callv (va_runV (As := [.int fd]) (rest := []) ⟨hx, hb, hml, hown, hts⟩ (c_Cg_markWrong l dC dI adK adV (a_tx := a_tx) (p0 := fd) (a_sg := a_sg) (w_ln := w_ln) (w_pl := a) (w_wr := x_2.2) (sz := H.size)) (cwV 1 hts (gV tw_302 tw_304 tw_5 tw_43 tw_305) rfl rfl rfl (by decide +kernel) ⟨(Nat.le_of_ble_eq_true rfl), (Nat.le_of_ble_eq_true rfl)⟩) ⟨fun a U g mk q => by obtain ⟨q0, q1, qZ, qP, qK, qD⟩ := q; exact ⟨q0, q1, zz_call qZ, qP, va_K.moved (u := U) (U := U.calling g mk a) (Vm.Alike.refl U.vm) qK, qD⟩, va_recv hKc hPc (ci := 4) (q0 := 0) rfl rfl, fun U hU hW => ⟨rfl, by rw [hU], zz_rw hS hFc hU hW hZ, by rw [hU]; exact hPc, va_K.moved hW.alike hKc, hDc.weaken (fun _ _ _ _ => trivial)⟩⟩ rfl rfl hl.1 rfl (lv_room (Nat.le_of_ble_eq_true rfl)) d_T_takeNumber_106 ⟨(Nat.le_of_ble_eq_true rfl), (Nat.le_of_ble_eq_true rfl)⟩) hS (fun q _ h => hFc q h) hFc (fun u t H1 locs ht hvm hw_9 hB hz1 hk1 hS => ?_)
          generalize hg_x_10 : g_Cg_markWrong fd x_2.2 = x_10 at hw_9 hB hE
          rw [bv_eq] at hE
          obtain ⟨hP1, hK1, hD1⟩ := hB
          rw [ht] at hP1
          have hK1 := va_K.moved hvm.symm hK1
          obtain ⟨hP, hD⟩ := va_join (wr := [(a_sg, .inl (k_sg, 120, .inl f_sg))]) (w1 := [(a_tx, .inr (4, [.ref a_sg, .int w_ln, .int a, .int x_10]))]) hP hD [0] [1] rfl rfl (by decide) (by decide) hk1 hFc hP1 hD1
          replace hK := (hK.sub (tys' := [(k_sg, .char)]) [0] rfl).app hK1
          generalize H1 = H at hP hS ⊢
          replace hP := hP.sub (ws' := [(a_tx, .inr (4, [.ref a_sg, .int w_ln, .int a, .int x_10])), (a_sg, .inl (k_sg, 120, .inl f_sg))]) [1, 0] rfl
          replace hD := hD.sub (ws' := [(a_tx, .inr (4, [.ref a_sg, .int w_ln, .int a, .int x_10])), (a_sg, .inl (k_sg, 120, .inl f_sg))]) [1, 0] (by decide) rfl
          replace hK := hK.sub (tys' := [(k_sg, .char)]) [0] rfl
          refine lv_iload hx hb d_T_takeNumber_109 (lv_at hl 1 rfl) ?_
          have hP9 := hP.sub (ws' := [(a_tx, .inr (4, [.ref a_sg, .int w_ln, .int a, .int x_10])), (a_sg, .inl (k_sg, 120, .inl f_sg))]) [0, 1] rfl
          have hD9 := hD.sub (ws' := [(a_tx, .inr (4, [.ref a_sg, .int w_ln, .int a, .int x_10])), (a_sg, .inl (k_sg, 120, .inl f_sg))]) [0, 1] (by decide) rfl
          have hK9 := hK.sub (tys' := [(k_sg, .char)]) [0] rfl
          exact W.iret (v := v) hx hb hr (fun t ht hW => ⟨⟨v, (), rfl, by rw [← hz, hE], by rw [ht, ← hz, hE]; exact hP9, va_K.moved hW.alike hK9, by rw [← hz, hE]; exact hD9⟩, hS.F ht⟩) hS.2.2 d_T_takeNumber_111
        · rw [if_neg c_8] at hE
          refine lv_iload hx hb d_T_takeNumber_98 (lv_at hl 1 rfl) ?_
          refine lv_iload_n hx hb d_T_takeNumber_100 rfl (lv_at hl 5 rfl) ?_
          refine lv_icmp_le (tgt := 109) hx hb d_T_takeNumber_101 (by decide) (fun c_11 => ?_) (fun c_11 => ?_)
          · rw [if_pos c_11] at hE
            refine lv_iload hx hb d_T_takeNumber_109 (lv_at hl 1 rfl) ?_
            have hP9 := hP.sub (ws' := [(a_tx, .inr (4, [.ref a_sg, .int w_ln, .int a, .int x_2.2])), (a_sg, .inl (k_sg, 120, .inl f_sg))]) [0, 1] rfl
            have hD9 := hD.sub (ws' := [(a_tx, .inr (4, [.ref a_sg, .int w_ln, .int a, .int x_2.2])), (a_sg, .inl (k_sg, 120, .inl f_sg))]) [0, 1] (by decide) rfl
            have hK9 := hK.sub (tys' := [(k_sg, .char)]) [0] rfl
            exact W.iret (v := v) hx hb hr (fun t ht hW => ⟨⟨v, (), rfl, by rw [← hz, hE], by rw [ht, ← hz, hE]; exact hP9, va_K.moved hW.alike hK9, by rw [← hz, hE]; exact hD9⟩, hS.F ht⟩) hS.2.2 d_T_takeNumber_111
          · rw [if_neg c_11] at hE
            refine lv_aload_n hx hb d_T_takeNumber_104 rfl (lv_at hl 3 rfl) ?_
            refine lv_iload_n hx hb d_T_takeNumber_105 rfl (lv_at hl 2 rfl) ?_
            have hPc := hP.sub (ws' := [(a_tx, .inr (4, [.ref a_sg, .int w_ln, .int a, .int x_2.2]))]) [0] rfl
            have hKc := hK.sub (tys' := []) [] rfl
            have hDc := hD.sub (ws' := [(a_tx, .inr (4, [.ref a_sg, .int w_ln, .int a, .int x_2.2]))]) [0] (by decide) rfl
            have hFc := va_free (wc := [(a_tx, .inr (4, [.ref a_sg, .int w_ln, .int a, .int x_2.2]))]) hD hS hA [0] rfl
            refine va_callv (va_runV (As := [.int fd]) (rest := []) ⟨hx, hb, hml, hown, hts⟩ (c_Cg_markWrong l dC dI adK adV (a_tx := a_tx) (p0 := fd) (a_sg := a_sg) (w_ln := w_ln) (w_pl := a) (w_wr := x_2.2) (sz := H.size)) (cwV 1 hts (gV tw_302 tw_304 tw_5 tw_43 tw_305) rfl rfl rfl (by decide +kernel) ⟨(Nat.le_of_ble_eq_true rfl), (Nat.le_of_ble_eq_true rfl)⟩) ⟨fun a U g mk q => by obtain ⟨q0, q1, qZ, qP, qK, qD⟩ := q; exact ⟨q0, q1, zz_call qZ, qP, va_K.moved (u := U) (U := U.calling g mk a) (Vm.Alike.refl U.vm) qK, qD⟩, va_recv hKc hPc (ci := 4) (q0 := 0) rfl rfl, fun U hU hW => ⟨rfl, by rw [hU], zz_rw hS hFc hU hW hZ, by rw [hU]; exact hPc, va_K.moved hW.alike hKc, hDc.weaken (fun _ _ _ _ => trivial)⟩⟩ rfl rfl hl.1 rfl (lv_room (Nat.le_of_ble_eq_true rfl)) d_T_takeNumber_106 ⟨(Nat.le_of_ble_eq_true rfl), (Nat.le_of_ble_eq_true rfl)⟩) hS (fun q _ h => hFc q h) hFc (fun u t H1 locs ht hvm hw_12 hB hz1 hk1 hS => ?_)
            generalize hg_x_13 : g_Cg_markWrong fd x_2.2 = x_13 at hw_12 hB hE
            rw [bv_eq] at hE
            obtain ⟨hP1, hK1, hD1⟩ := hB
            rw [ht] at hP1
            have hK1 := va_K.moved hvm.symm hK1
            obtain ⟨hP, hD⟩ := va_join (wr := [(a_sg, .inl (k_sg, 120, .inl f_sg))]) (w1 := [(a_tx, .inr (4, [.ref a_sg, .int w_ln, .int a, .int x_13]))]) hP hD [0] [1] rfl rfl (by decide) (by decide) hk1 hFc hP1 hD1
            replace hK := (hK.sub (tys' := [(k_sg, .char)]) [0] rfl).app hK1
            generalize H1 = H at hP hS ⊢
            replace hP := hP.sub (ws' := [(a_tx, .inr (4, [.ref a_sg, .int w_ln, .int a, .int x_13])), (a_sg, .inl (k_sg, 120, .inl f_sg))]) [1, 0] rfl
            replace hD := hD.sub (ws' := [(a_tx, .inr (4, [.ref a_sg, .int w_ln, .int a, .int x_13])), (a_sg, .inl (k_sg, 120, .inl f_sg))]) [1, 0] (by decide) rfl
            replace hK := hK.sub (tys' := [(k_sg, .char)]) [0] rfl
            refine lv_iload hx hb d_T_takeNumber_109 (lv_at hl 1 rfl) ?_
            have hP9 := hP.sub (ws' := [(a_tx, .inr (4, [.ref a_sg, .int w_ln, .int a, .int x_13])), (a_sg, .inl (k_sg, 120, .inl f_sg))]) [0, 1] rfl
            have hD9 := hD.sub (ws' := [(a_tx, .inr (4, [.ref a_sg, .int w_ln, .int a, .int x_13])), (a_sg, .inl (k_sg, 120, .inl f_sg))]) [0, 1] (by decide) rfl
            have hK9 := hK.sub (tys' := [(k_sg, .char)]) [0] rfl
            exact W.iret (v := v) hx hb hr (fun t ht hW => ⟨⟨v, (), rfl, by rw [← hz, hE], by rw [ht, ← hz, hE]; exact hP9, va_K.moved hW.alike hK9, by rw [← hz, hE]; exact hD9⟩, hS.F ht⟩) hS.2.2 d_T_takeNumber_111
    · rw [if_neg c_4] at hg_num
      refine lv_aload_n hx hb d_T_takeNumber_23 rfl (lv_at hl 2 rfl) ?_
      refine lv_aload_n hx hb d_T_takeNumber_24 rfl (lv_at hl 2 rfl) ?_
      refine va_get (D := (dC, dI)) (ci := 4) (v := .int a) (C := "LoanRules$RuleText") (T := Fz_T) (N := 4) hx hb hts it_T hown hK hP 0 rfl rfl 2 (by decide) (hts _ tw_74) (fun _ h9 => h9) rfl d_T_takeNumber_25 ?_
      have hPc := hP.sub (ws' := [(a_tx, .inr (4, [.ref a_sg, .int w_ln, .int a, .int x_2.2])), (a_sg, .inl (k_sg, 120, .inl f_sg))]) [0, 1] rfl
      have hKc := hK.sub (tys' := [(k_sg, .char)]) [0] rfl
      refine vp_callSi (va_Run.run (va_runV (As := [.int a]) (rest := []) ⟨hx, hb, hml, hown, hts⟩ (c_Cg_signAt l dC dI adK adV (a_tx := a_tx) (p0 := a) (a_sg := a_sg) (w_ln := w_ln) (w_pl := a) (w_wr := x_2.2) (k_sg := k_sg) (f_sg := f_sg)) (cwV 1 hts (gV tw_249 tw_251 tw_2 tw_43 tw_252) rfl rfl rfl (by decide +kernel) ⟨(Nat.le_of_ble_eq_true rfl), (Nat.le_of_ble_eq_true rfl)⟩) ⟨fun a U g mk q => by obtain ⟨q0, qZ, qP, qK⟩ := q; exact ⟨q0, zz_call qZ, qP, va_K.moved (u := U) (U := U.calling g mk a) (Vm.Alike.refl U.vm) qK⟩, va_recv hKc hPc (ci := 4) (q0 := 0) rfl rfl, fun U hU hW => ⟨rfl, zz_ro hS hU hW hZ, by rw [hU]; exact hPc, va_K.moved hW.alike hKc⟩⟩ rfl rfl hl.1 rfl (lv_room (Nat.le_of_ble_eq_true rfl)) d_T_takeNumber_28 ⟨(Nat.le_of_ble_eq_true rfl), (Nat.le_of_ble_eq_true rfl)⟩)) (fun r_14 hw_15 => ?_)
      clear hPc hKc
      subst hw_15
      have hPc := hP.sub (ws' := []) [] rfl
      have hKc := hK.sub (tys' := []) [] rfl
      refine vp_callSi (va_Run.run (va_runS (As := [.int (g_Cg_signAt a w_ln f_sg)]) (rest := []) ⟨hx, hb, hml, hown, hts⟩ (c_Cg_isDigit l dC dI adK adV (p0 := g_Cg_signAt a w_ln f_sg)) (va_cwS 1 hts (gS tw_306 tw_307 tw_43 tw_308) rfl rfl rfl (by decide +kernel) ⟨(Nat.le_of_ble_eq_true rfl), (Nat.le_of_ble_eq_true rfl)⟩) ⟨fun a U g mk q => by obtain ⟨q0, qZ, qP, qK⟩ := q; exact ⟨q0, zz_call qZ, qP, va_K.moved (u := U) (U := U.calling g mk a) (Vm.Alike.refl U.vm) qK⟩, fun U hU hW => ⟨rfl, zz_ro hS hU hW hZ, by rw [hU]; exact hPc, va_K.moved hW.alike hKc⟩⟩ rfl rfl hl.1 rfl (lv_room (Nat.le_of_ble_eq_true rfl)) d_T_takeNumber_31 ⟨(Nat.le_of_ble_eq_true rfl), (Nat.le_of_ble_eq_true rfl)⟩)) (fun r_16 hw_17 => ?_)
      clear hPc hKc
      subst hw_17
      refine lv_if_eq (tgt := 79) hx hb d_T_takeNumber_34 (by decide) (fun c_18 => ?_) (fun c_18 => ?_)
      · rw [if_pos c_18] at hg_num
        subst hg_num
        dsimp only at hE
        refine lv_aload_n hx hb d_T_takeNumber_79 rfl (lv_at hl 2 rfl) ?_
        refine va_get (D := (dC, dI)) (ci := 4) (v := .int a) (C := "LoanRules$RuleText") (T := Fz_T) (N := 4) hx hb hts it_T hown hK hP 0 rfl rfl 2 (by decide) (hts _ tw_74) (fun _ h9 => h9) rfl d_T_takeNumber_80 ?_
        refine lv_iload_n hx hb d_T_takeNumber_83 rfl (lv_at hl 1 rfl) ?_
        refine lv_isub hx hb d_T_takeNumber_84 ?_
        refine lv_istore (lv' := [(5, .int (a - fd)), (4, .int v), (3, .int fd), (0, .ref a_tx), (1, .int p0), (2, .int p1)]) hx hb d_T_takeNumber_85 hl (by decide) rfl (fun ls hl => ?_)
        refine lv_iload hx hb d_T_takeNumber_87 (lv_at hl 0 rfl) ?_
        refine lv_if_eq (tgt := 104) hx hb d_T_takeNumber_89 (by decide) (fun c_19 => ?_) (fun c_19 => ?_)
        · rw [if_pos c_19] at hE
          refine lv_aload_n hx hb d_T_takeNumber_104 rfl (lv_at hl 3 rfl) ?_
          refine lv_iload_n hx hb d_T_takeNumber_105 rfl (lv_at hl 2 rfl) ?_
          have hPc := hP.sub (ws' := [(a_tx, .inr (4, [.ref a_sg, .int w_ln, .int a, .int x_2.2]))]) [0] rfl
          have hKc := hK.sub (tys' := []) [] rfl
          have hDc := hD.sub (ws' := [(a_tx, .inr (4, [.ref a_sg, .int w_ln, .int a, .int x_2.2]))]) [0] (by decide) rfl
          have hFc := va_free (wc := [(a_tx, .inr (4, [.ref a_sg, .int w_ln, .int a, .int x_2.2]))]) hD hS hA [0] rfl
          refine va_callv (va_runV (As := [.int fd]) (rest := []) ⟨hx, hb, hml, hown, hts⟩ (c_Cg_markWrong l dC dI adK adV (a_tx := a_tx) (p0 := fd) (a_sg := a_sg) (w_ln := w_ln) (w_pl := a) (w_wr := x_2.2) (sz := H.size)) (cwV 1 hts (gV tw_302 tw_304 tw_5 tw_43 tw_305) rfl rfl rfl (by decide +kernel) ⟨(Nat.le_of_ble_eq_true rfl), (Nat.le_of_ble_eq_true rfl)⟩) ⟨fun a U g mk q => by obtain ⟨q0, q1, qZ, qP, qK, qD⟩ := q; exact ⟨q0, q1, zz_call qZ, qP, va_K.moved (u := U) (U := U.calling g mk a) (Vm.Alike.refl U.vm) qK, qD⟩, va_recv hKc hPc (ci := 4) (q0 := 0) rfl rfl, fun U hU hW => ⟨rfl, by rw [hU], zz_rw hS hFc hU hW hZ, by rw [hU]; exact hPc, va_K.moved hW.alike hKc, hDc.weaken (fun _ _ _ _ => trivial)⟩⟩ rfl rfl hl.1 rfl (lv_room (Nat.le_of_ble_eq_true rfl)) d_T_takeNumber_106 ⟨(Nat.le_of_ble_eq_true rfl), (Nat.le_of_ble_eq_true rfl)⟩) hS (fun q _ h => hFc q h) hFc (fun u t H1 locs ht hvm hw_20 hB hz1 hk1 hS => ?_)
          generalize hg_x_21 : g_Cg_markWrong fd x_2.2 = x_21 at hw_20 hB hE
          rw [bv_eq] at hE
          obtain ⟨hP1, hK1, hD1⟩ := hB
          rw [ht] at hP1
          have hK1 := va_K.moved hvm.symm hK1
          obtain ⟨hP, hD⟩ := va_join (wr := [(a_sg, .inl (k_sg, 120, .inl f_sg))]) (w1 := [(a_tx, .inr (4, [.ref a_sg, .int w_ln, .int a, .int x_21]))]) hP hD [0] [1] rfl rfl (by decide) (by decide) hk1 hFc hP1 hD1
          replace hK := (hK.sub (tys' := [(k_sg, .char)]) [0] rfl).app hK1
          generalize H1 = H at hP hS ⊢
          replace hP := hP.sub (ws' := [(a_tx, .inr (4, [.ref a_sg, .int w_ln, .int a, .int x_21])), (a_sg, .inl (k_sg, 120, .inl f_sg))]) [1, 0] rfl
          replace hD := hD.sub (ws' := [(a_tx, .inr (4, [.ref a_sg, .int w_ln, .int a, .int x_21])), (a_sg, .inl (k_sg, 120, .inl f_sg))]) [1, 0] (by decide) rfl
          replace hK := hK.sub (tys' := [(k_sg, .char)]) [0] rfl
          refine lv_iload hx hb d_T_takeNumber_109 (lv_at hl 1 rfl) ?_
          have hP9 := hP.sub (ws' := [(a_tx, .inr (4, [.ref a_sg, .int w_ln, .int a, .int x_21])), (a_sg, .inl (k_sg, 120, .inl f_sg))]) [0, 1] rfl
          have hD9 := hD.sub (ws' := [(a_tx, .inr (4, [.ref a_sg, .int w_ln, .int a, .int x_21])), (a_sg, .inl (k_sg, 120, .inl f_sg))]) [0, 1] (by decide) rfl
          have hK9 := hK.sub (tys' := [(k_sg, .char)]) [0] rfl
          exact W.iret (v := v) hx hb hr (fun t ht hW => ⟨⟨v, (), rfl, by rw [← hz, hE], by rw [ht, ← hz, hE]; exact hP9, va_K.moved hW.alike hK9, by rw [← hz, hE]; exact hD9⟩, hS.F ht⟩) hS.2.2 d_T_takeNumber_111
        · rw [if_neg c_19] at hE
          refine lv_iload hx hb d_T_takeNumber_92 (lv_at hl 0 rfl) ?_
          refine lv_iload_n hx hb d_T_takeNumber_94 rfl (lv_at hl 4 rfl) ?_
          refine lv_icmp_gt (tgt := 104) hx hb d_T_takeNumber_95 (by decide) (fun c_22 => ?_) (fun c_22 => ?_)
          · rw [if_pos c_22] at hE
            refine lv_aload_n hx hb d_T_takeNumber_104 rfl (lv_at hl 3 rfl) ?_
            refine lv_iload_n hx hb d_T_takeNumber_105 rfl (lv_at hl 2 rfl) ?_
            have hPc := hP.sub (ws' := [(a_tx, .inr (4, [.ref a_sg, .int w_ln, .int a, .int x_2.2]))]) [0] rfl
            have hKc := hK.sub (tys' := []) [] rfl
            have hDc := hD.sub (ws' := [(a_tx, .inr (4, [.ref a_sg, .int w_ln, .int a, .int x_2.2]))]) [0] (by decide) rfl
            have hFc := va_free (wc := [(a_tx, .inr (4, [.ref a_sg, .int w_ln, .int a, .int x_2.2]))]) hD hS hA [0] rfl
            refine va_callv (va_runV (As := [.int fd]) (rest := []) ⟨hx, hb, hml, hown, hts⟩ (c_Cg_markWrong l dC dI adK adV (a_tx := a_tx) (p0 := fd) (a_sg := a_sg) (w_ln := w_ln) (w_pl := a) (w_wr := x_2.2) (sz := H.size)) (cwV 1 hts (gV tw_302 tw_304 tw_5 tw_43 tw_305) rfl rfl rfl (by decide +kernel) ⟨(Nat.le_of_ble_eq_true rfl), (Nat.le_of_ble_eq_true rfl)⟩) ⟨fun a U g mk q => by obtain ⟨q0, q1, qZ, qP, qK, qD⟩ := q; exact ⟨q0, q1, zz_call qZ, qP, va_K.moved (u := U) (U := U.calling g mk a) (Vm.Alike.refl U.vm) qK, qD⟩, va_recv hKc hPc (ci := 4) (q0 := 0) rfl rfl, fun U hU hW => ⟨rfl, by rw [hU], zz_rw hS hFc hU hW hZ, by rw [hU]; exact hPc, va_K.moved hW.alike hKc, hDc.weaken (fun _ _ _ _ => trivial)⟩⟩ rfl rfl hl.1 rfl (lv_room (Nat.le_of_ble_eq_true rfl)) d_T_takeNumber_106 ⟨(Nat.le_of_ble_eq_true rfl), (Nat.le_of_ble_eq_true rfl)⟩) hS (fun q _ h => hFc q h) hFc (fun u t H1 locs ht hvm hw_23 hB hz1 hk1 hS => ?_)
            generalize hg_x_24 : g_Cg_markWrong fd x_2.2 = x_24 at hw_23 hB hE
            rw [bv_eq] at hE
            obtain ⟨hP1, hK1, hD1⟩ := hB
            rw [ht] at hP1
            have hK1 := va_K.moved hvm.symm hK1
            obtain ⟨hP, hD⟩ := va_join (wr := [(a_sg, .inl (k_sg, 120, .inl f_sg))]) (w1 := [(a_tx, .inr (4, [.ref a_sg, .int w_ln, .int a, .int x_24]))]) hP hD [0] [1] rfl rfl (by decide) (by decide) hk1 hFc hP1 hD1
            replace hK := (hK.sub (tys' := [(k_sg, .char)]) [0] rfl).app hK1
            generalize H1 = H at hP hS ⊢
            replace hP := hP.sub (ws' := [(a_tx, .inr (4, [.ref a_sg, .int w_ln, .int a, .int x_24])), (a_sg, .inl (k_sg, 120, .inl f_sg))]) [1, 0] rfl
            replace hD := hD.sub (ws' := [(a_tx, .inr (4, [.ref a_sg, .int w_ln, .int a, .int x_24])), (a_sg, .inl (k_sg, 120, .inl f_sg))]) [1, 0] (by decide) rfl
            replace hK := hK.sub (tys' := [(k_sg, .char)]) [0] rfl
            refine lv_iload hx hb d_T_takeNumber_109 (lv_at hl 1 rfl) ?_
            have hP9 := hP.sub (ws' := [(a_tx, .inr (4, [.ref a_sg, .int w_ln, .int a, .int x_24])), (a_sg, .inl (k_sg, 120, .inl f_sg))]) [0, 1] rfl
            have hD9 := hD.sub (ws' := [(a_tx, .inr (4, [.ref a_sg, .int w_ln, .int a, .int x_24])), (a_sg, .inl (k_sg, 120, .inl f_sg))]) [0, 1] (by decide) rfl
            have hK9 := hK.sub (tys' := [(k_sg, .char)]) [0] rfl
            exact W.iret (v := v) hx hb hr (fun t ht hW => ⟨⟨v, (), rfl, by rw [← hz, hE], by rw [ht, ← hz, hE]; exact hP9, va_K.moved hW.alike hK9, by rw [← hz, hE]; exact hD9⟩, hS.F ht⟩) hS.2.2 d_T_takeNumber_111
          · rw [if_neg c_22] at hE
            refine lv_iload hx hb d_T_takeNumber_98 (lv_at hl 1 rfl) ?_
            refine lv_iload_n hx hb d_T_takeNumber_100 rfl (lv_at hl 5 rfl) ?_
            refine lv_icmp_le (tgt := 109) hx hb d_T_takeNumber_101 (by decide) (fun c_25 => ?_) (fun c_25 => ?_)
            · rw [if_pos c_25] at hE
              refine lv_iload hx hb d_T_takeNumber_109 (lv_at hl 1 rfl) ?_
              have hP9 := hP.sub (ws' := [(a_tx, .inr (4, [.ref a_sg, .int w_ln, .int a, .int x_2.2])), (a_sg, .inl (k_sg, 120, .inl f_sg))]) [0, 1] rfl
              have hD9 := hD.sub (ws' := [(a_tx, .inr (4, [.ref a_sg, .int w_ln, .int a, .int x_2.2])), (a_sg, .inl (k_sg, 120, .inl f_sg))]) [0, 1] (by decide) rfl
              have hK9 := hK.sub (tys' := [(k_sg, .char)]) [0] rfl
              exact W.iret (v := v) hx hb hr (fun t ht hW => ⟨⟨v, (), rfl, by rw [← hz, hE], by rw [ht, ← hz, hE]; exact hP9, va_K.moved hW.alike hK9, by rw [← hz, hE]; exact hD9⟩, hS.F ht⟩) hS.2.2 d_T_takeNumber_111
            · rw [if_neg c_25] at hE
              refine lv_aload_n hx hb d_T_takeNumber_104 rfl (lv_at hl 3 rfl) ?_
              refine lv_iload_n hx hb d_T_takeNumber_105 rfl (lv_at hl 2 rfl) ?_
              have hPc := hP.sub (ws' := [(a_tx, .inr (4, [.ref a_sg, .int w_ln, .int a, .int x_2.2]))]) [0] rfl
              have hKc := hK.sub (tys' := []) [] rfl
              have hDc := hD.sub (ws' := [(a_tx, .inr (4, [.ref a_sg, .int w_ln, .int a, .int x_2.2]))]) [0] (by decide) rfl
              have hFc := va_free (wc := [(a_tx, .inr (4, [.ref a_sg, .int w_ln, .int a, .int x_2.2]))]) hD hS hA [0] rfl
              refine va_callv (va_runV (As := [.int fd]) (rest := []) ⟨hx, hb, hml, hown, hts⟩ (c_Cg_markWrong l dC dI adK adV (a_tx := a_tx) (p0 := fd) (a_sg := a_sg) (w_ln := w_ln) (w_pl := a) (w_wr := x_2.2) (sz := H.size)) (cwV 1 hts (gV tw_302 tw_304 tw_5 tw_43 tw_305) rfl rfl rfl (by decide +kernel) ⟨(Nat.le_of_ble_eq_true rfl), (Nat.le_of_ble_eq_true rfl)⟩) ⟨fun a U g mk q => by obtain ⟨q0, q1, qZ, qP, qK, qD⟩ := q; exact ⟨q0, q1, zz_call qZ, qP, va_K.moved (u := U) (U := U.calling g mk a) (Vm.Alike.refl U.vm) qK, qD⟩, va_recv hKc hPc (ci := 4) (q0 := 0) rfl rfl, fun U hU hW => ⟨rfl, by rw [hU], zz_rw hS hFc hU hW hZ, by rw [hU]; exact hPc, va_K.moved hW.alike hKc, hDc.weaken (fun _ _ _ _ => trivial)⟩⟩ rfl rfl hl.1 rfl (lv_room (Nat.le_of_ble_eq_true rfl)) d_T_takeNumber_106 ⟨(Nat.le_of_ble_eq_true rfl), (Nat.le_of_ble_eq_true rfl)⟩) hS (fun q _ h => hFc q h) hFc (fun u t H1 locs ht hvm hw_26 hB hz1 hk1 hS => ?_)
              generalize hg_x_27 : g_Cg_markWrong fd x_2.2 = x_27 at hw_26 hB hE
              rw [bv_eq] at hE
              obtain ⟨hP1, hK1, hD1⟩ := hB
              rw [ht] at hP1
              have hK1 := va_K.moved hvm.symm hK1
              obtain ⟨hP, hD⟩ := va_join (wr := [(a_sg, .inl (k_sg, 120, .inl f_sg))]) (w1 := [(a_tx, .inr (4, [.ref a_sg, .int w_ln, .int a, .int x_27]))]) hP hD [0] [1] rfl rfl (by decide) (by decide) hk1 hFc hP1 hD1
              replace hK := (hK.sub (tys' := [(k_sg, .char)]) [0] rfl).app hK1
              generalize H1 = H at hP hS ⊢
              replace hP := hP.sub (ws' := [(a_tx, .inr (4, [.ref a_sg, .int w_ln, .int a, .int x_27])), (a_sg, .inl (k_sg, 120, .inl f_sg))]) [1, 0] rfl
              replace hD := hD.sub (ws' := [(a_tx, .inr (4, [.ref a_sg, .int w_ln, .int a, .int x_27])), (a_sg, .inl (k_sg, 120, .inl f_sg))]) [1, 0] (by decide) rfl
              replace hK := hK.sub (tys' := [(k_sg, .char)]) [0] rfl
              refine lv_iload hx hb d_T_takeNumber_109 (lv_at hl 1 rfl) ?_
              have hP9 := hP.sub (ws' := [(a_tx, .inr (4, [.ref a_sg, .int w_ln, .int a, .int x_27])), (a_sg, .inl (k_sg, 120, .inl f_sg))]) [0, 1] rfl
              have hD9 := hD.sub (ws' := [(a_tx, .inr (4, [.ref a_sg, .int w_ln, .int a, .int x_27])), (a_sg, .inl (k_sg, 120, .inl f_sg))]) [0, 1] (by decide) rfl
              have hK9 := hK.sub (tys' := [(k_sg, .char)]) [0] rfl
              exact W.iret (v := v) hx hb hr (fun t ht hW => ⟨⟨v, (), rfl, by rw [← hz, hE], by rw [ht, ← hz, hE]; exact hP9, va_K.moved hW.alike hK9, by rw [← hz, hE]; exact hD9⟩, hS.F ht⟩) hS.2.2 d_T_takeNumber_111
      · rw [if_neg c_18] at hg_num
        refine lv_aload_n hx hb d_T_takeNumber_37 rfl (lv_at hl 2 rfl) ?_
        refine va_get (D := (dC, dI)) (ci := 4) (v := .int a) (C := "LoanRules$RuleText") (T := Fz_T) (N := 4) hx hb hts it_T hown hK hP 0 rfl rfl 2 (by decide) (hts _ tw_74) (fun _ h9 => h9) rfl d_T_takeNumber_38 ?_
        refine lv_iload_n hx hb d_T_takeNumber_41 rfl (lv_at hl 1 rfl) ?_
        refine lv_isub hx hb d_T_takeNumber_42 ?_
        refine lv_iload_n hx hb d_T_takeNumber_43 rfl (lv_at hl 3 rfl) ?_
        refine lv_icmp_ge (tgt := 66) hx hb d_T_takeNumber_44 (by decide) (fun c_28 => ?_) (fun c_28 => ?_)
        · rw [if_pos c_28] at hg_num
          refine lv_aload_n hx hb d_T_takeNumber_66 rfl (lv_at hl 2 rfl) ?_
          refine lv_dup hx hb d_T_takeNumber_67 rfl ?_
          refine va_get (D := (dC, dI)) (ci := 4) (v := .int a) (C := "LoanRules$RuleText") (T := Fz_T) (N := 4) hx hb hts it_T hown hK hP 0 rfl rfl 2 (by decide) (hts _ tw_74) (fun _ h9 => h9) rfl d_T_takeNumber_68 ?_
          refine lv_iconst (v := 1) hx hb d_T_takeNumber_71 (by decide) ?_
          refine lv_iadd hx hb d_T_takeNumber_72 ?_
          refine va_put (D := (dC, dI)) (ci := 4) (v := .int (a + 1)) (ty := .int) (C := "LoanRules$RuleText") (T := Fz_T) (N := 4) hx hb hts it_T tz_T tz_T_ok nz_T hown hK hP hD hS 0 rfl rfl 2 (by decide) (hts _ tw_74) (fun _ h9 => h9) rfl (by decide +kernel) rfl rfl (Nat.le_of_ble_eq_true rfl) d_T_takeNumber_73 (fun H locs hP hD hS => ?_)
          replace hP : va_P (dC, dI) vwCl [(a_tx, .inr (4, [.ref a_sg, .int w_ln, .int (a + 1), .int x_2.2])), (a_sg, .inl (k_sg, 120, .inl f_sg))] H := hP
          replace hD : va_D A [(a_tx, .inr (4, [.ref a_sg, .int w_ln, .int (a + 1), .int x_2.2])), (a_sg, .inl (k_sg, 120, .inl f_sg))] := hD
          refine lv_goto (tgt := 12) hx hb d_T_takeNumber_76 (by decide) ?_
          exact ih_num _ _ _ _ _ _ ⟨hP, hD, hS, lv_sub hl [0, 1, 2, 3, 4] rfl, (li_p ha hln c_4), (li_pm ha hln c_4 hm_num), hg_num⟩
        · rw [if_neg c_28] at hg_num
          refine lv_iload hx hb d_T_takeNumber_47 (lv_at hl 0 rfl) ?_
          refine lv_bipush (v := 10) hx hb d_T_takeNumber_49 (by decide) ?_
          refine lv_imul hx hb d_T_takeNumber_51 ?_
          refine lv_aload_n hx hb d_T_takeNumber_52 rfl (lv_at hl 2 rfl) ?_
          refine lv_aload_n hx hb d_T_takeNumber_53 rfl (lv_at hl 2 rfl) ?_
          refine va_get (D := (dC, dI)) (ci := 4) (v := .int a) (C := "LoanRules$RuleText") (T := Fz_T) (N := 4) hx hb hts it_T hown hK hP 0 rfl rfl 2 (by decide) (hts _ tw_74) (fun _ h9 => h9) rfl d_T_takeNumber_54 ?_
          have hPc := hP.sub (ws' := [(a_tx, .inr (4, [.ref a_sg, .int w_ln, .int a, .int x_2.2])), (a_sg, .inl (k_sg, 120, .inl f_sg))]) [0, 1] rfl
          have hKc := hK.sub (tys' := [(k_sg, .char)]) [0] rfl
          refine vp_callSi (va_Run.run (va_runV (As := [.int a]) (rest := [.int (v * 10)]) ⟨hx, hb, hml, hown, hts⟩ (c_Cg_signAt l dC dI adK adV (a_tx := a_tx) (p0 := a) (a_sg := a_sg) (w_ln := w_ln) (w_pl := a) (w_wr := x_2.2) (k_sg := k_sg) (f_sg := f_sg)) (cwV 1 hts (gV tw_249 tw_251 tw_2 tw_43 tw_252) rfl rfl rfl (by decide +kernel) ⟨(Nat.le_of_ble_eq_true rfl), (Nat.le_of_ble_eq_true rfl)⟩) ⟨fun a U g mk q => by obtain ⟨q0, qZ, qP, qK⟩ := q; exact ⟨q0, zz_call qZ, qP, va_K.moved (u := U) (U := U.calling g mk a) (Vm.Alike.refl U.vm) qK⟩, va_recv hKc hPc (ci := 4) (q0 := 0) rfl rfl, fun U hU hW => ⟨rfl, zz_ro hS hU hW hZ, by rw [hU]; exact hPc, va_K.moved hW.alike hKc⟩⟩ rfl rfl hl.1 rfl (lv_room (Nat.le_of_ble_eq_true rfl)) d_T_takeNumber_57 ⟨(Nat.le_of_ble_eq_true rfl), (Nat.le_of_ble_eq_true rfl)⟩)) (fun r_29 hw_30 => ?_)
          clear hPc hKc
          subst hw_30
          refine lv_bipush (v := 48) hx hb d_T_takeNumber_60 (by decide) ?_
          refine lv_isub hx hb d_T_takeNumber_62 ?_
          refine lv_iadd hx hb d_T_takeNumber_63 ?_
          refine lv_istore (lv' := [(4, .int ((v * 10) + ((g_Cg_signAt a w_ln f_sg) - 48))), (3, .int fd), (0, .ref a_tx), (1, .int p0), (2, .int p1)]) hx hb d_T_takeNumber_64 hl (by decide) rfl (fun ls hl => ?_)
          refine lv_aload_n hx hb d_T_takeNumber_66 rfl (lv_at hl 2 rfl) ?_
          refine lv_dup hx hb d_T_takeNumber_67 rfl ?_
          refine va_get (D := (dC, dI)) (ci := 4) (v := .int a) (C := "LoanRules$RuleText") (T := Fz_T) (N := 4) hx hb hts it_T hown hK hP 0 rfl rfl 2 (by decide) (hts _ tw_74) (fun _ h9 => h9) rfl d_T_takeNumber_68 ?_
          refine lv_iconst (v := 1) hx hb d_T_takeNumber_71 (by decide) ?_
          refine lv_iadd hx hb d_T_takeNumber_72 ?_
          refine va_put (D := (dC, dI)) (ci := 4) (v := .int (a + 1)) (ty := .int) (C := "LoanRules$RuleText") (T := Fz_T) (N := 4) hx hb hts it_T tz_T tz_T_ok nz_T hown hK hP hD hS 0 rfl rfl 2 (by decide) (hts _ tw_74) (fun _ h9 => h9) rfl (by decide +kernel) rfl rfl (Nat.le_of_ble_eq_true rfl) d_T_takeNumber_73 (fun H locs hP hD hS => ?_)
          replace hP : va_P (dC, dI) vwCl [(a_tx, .inr (4, [.ref a_sg, .int w_ln, .int (a + 1), .int x_2.2])), (a_sg, .inl (k_sg, 120, .inl f_sg))] H := hP
          replace hD : va_D A [(a_tx, .inr (4, [.ref a_sg, .int w_ln, .int (a + 1), .int x_2.2])), (a_sg, .inl (k_sg, 120, .inl f_sg))] := hD
          refine lv_goto (tgt := 12) hx hb d_T_takeNumber_76 (by decide) ?_
          exact ih_num _ _ _ _ _ _ ⟨hP, hD, hS, lv_sub hl [0, 1, 2, 3, 4] rfl, (li_p ha hln c_4), (li_pm ha hln c_4 hm_num), hg_num⟩
theorem ga2 {x y : Int32 × Int32} (h : x = y) (hp : i120 x.2) : i120 y.2 := h ▸ hp
theorem ga21 {x y : Int32 × Int32 × Int32} (h : x = y) (hp : i120 x.2.1) : i120 y.2.1 := h ▸ hp
theorem ga1 {x y : Int32 × Int32 × Int32 × Int32} (h : x = y) (hp : i120 x.1) : i120 y.1 := h ▸ hp
theorem gl_num_at {p0 ln : Int32} {f : Nat → Int32} (hln : i120 ln) : ∀ (n : Nat) (a fd v : Int32), i120 a → i120 (gl_num n p0 ln f a fd v).1 := by
  intro n
  induction n with
  | zero => intro a fd v ha; exact ha
  | succ n ih =>
    intro a fd v ha
    rw [gl_num]
    refine pt_i (fun t : Int32 × Int32 × Int32 => i120 t.1) (fun _ => ha) (fun c => ?_)
    repeat' (first | with_reducible refine pt_i (fun t : Int32 × Int32 × Int32 => i120 t.1) (fun _ => ?_) (fun _ => ?_))
    all_goals first | exact ha | exact ih _ _ _ (li_p ha hln c)
theorem tnum_at {p0 p1 w_ln w_pl w_wr : Int32} {f_sg : Nat → Int32} (hln : i120 w_ln) (hpl : i120 w_pl) : i120 (g_Cg_takeNumber p0 p1 w_ln w_pl w_wr f_sg).2.1 := by
  unfold g_Cg_takeNumber
  have h0 := tsp_at (w_wr := w_wr) (f_sg := f_sg) hln hpl
  have h := gl_num_at (p0 := p0) (f := f_sg) hln 121 _ (g_Cg_takeSpace w_ln w_pl w_wr f_sg).1 0 h0
  repeat' (first | with_reducible refine pt_i (fun t : Int32 × Int32 × Int32 => i120 t.2.1) (fun _ => ?_) (fun _ => ?_) | with_reducible refine pt_v (fun t : Int32 × Int32 × Int32 => i120 t.2.1) ?_)
  all_goals with_reducible exact h
set_option maxHeartbeats 4000000 in
set_option maxRecDepth 100000 in
theorem c_Cs_coder (l : Launch) (dC : Nat → ClassId) (dI : Nat → Nat → Nat) (adK adV : Nat → Nat) (iw : Nat) (hiw : iw < nst) : Met l y_S_coder ws_S_coder ({ frames := 0, cells := 0, slots := 0, locals := 0 }) (va_Pc [.ref (adK iw)] (fun U => zz adK adV (fun _ => False) U ∧ va_P (dC, dI) vwCl [] U.heap ∧ va_K (dC, dI) vwCl [] U)) (vp_Si (fun r => r = 0)) 0 0 (fun _ => False) := by
  refine Met.ofW (cc := c_S_coder) (maxL := 1) (ret := (some .byte)) (by decide) rfl ?_
  intro p e s m args below meth c s₁ B hml hv
  obtain ⟨rfl, hZ, hP, hK⟩ := hv
  have hx := B.exec
  have hb := B.bytes
  have hr := B.returns
  have hts0 := atoms_spec (ws := ws_S_coder) B.pre
  have hts : ∀ w ∈ TT, w.before _ s = true := fun w h => hts0 w (List.mem_cons_of_mem _ h)
  have hown : s.vm.findClass "java/lang/String" = some m.cls := findClass_of_methodNamed B.named
  have hlocks := B.notSynchronized
  have hS : va_S (fun _ => False) s.heap s.heap [] := va_S.rf
  replace hP : va_P (dC, dI) vwCl [] s.heap := hP
  have hl := lv_entry ([.ref (adK iw)]) (n := 1) (Nat.le_of_ble_eq_true rfl)
  rw [lg_entry_eq]
  generalize (lg_sl ([.ref (adK iw)]) ++ List.replicate (1 - (lg_sl ([.ref (adK iw)])).length) Slot.unset).toArray = ls at hl ⊢
  replace hl : lv_has ls 1 [(0, .ref (adK iw))] := hl
  refine va_gets hx hb (zz_cs hZ) hS hown (hts _ tw_247) (fun _ h => h) d_S_coder_0 ?_
  refine lv_if_eq (tgt := 13) hx hb d_S_coder_3 (by decide) (fun c_1 => ?_) (fun c_1 => ?_)
  · exact absurd c_1 (by decide)
  · refine lv_aload_n hx hb d_S_coder_6 rfl (lv_at hl 0 rfl) ?_
    refine vk_getf (v := .int 0) hx hb ((zz_S hZ).1 _ hiw).2.1 hS hown (hts _ tw_824) (fun _ h => h) d_S_coder_7 ?_
    refine lv_goto (tgt := 14) hx hb d_S_coder_10 (by decide) ?_
    exact W.zret (v := 0) hx hb hr rfl (fun t ht hW => ⟨0, rfl, rfl, ht⟩) (fun _ h => by cases h) d_S_coder_14
theorem zk_max {iw : Nat} (h : iw < nst) : 1 ≤ kz_len.getD iw 0 ∧ kz_len.getD iw 0 ≤ 9 := by
  have : ∀ k, k < nst → 1 ≤ kz_len.getD k 0 ∧ kz_len.getD k 0 ≤ 9 := by decide
  exact this iw h
theorem zk_lt {iw : Nat} {x : Int32} (h : iw < nst) (h0 : ¬ x < 0) (h1 : x < nI (kz_len.getD iw 0)) : 0 ≤ x.toInt ∧ x.toInt < kz_len.getD iw 0 := by
  have h2 := zk_max h
  rw [li_lt, li_0] at h0
  rw [li_lt, nI_toInt (by omega)] at h1
  omega
theorem zk_in2 {iw : Nat} {x : Int32} (h : iw < nst) (h0 : ¬ x < 0) (h1 : x < nI (kz_len.getD iw 0)) : vp_in x (kz_len.getD iw 0) := by
  have h2 := zk_lt h h0 h1
  have h3 := zk_max h
  rw [vp_in_iff]; omega
theorem zk_n0 {x : Int32} (h : 0 ≤ x.toInt ∧ x.toInt ≤ 9) : ¬ x < 0 := by rw [li_lt, li_0]; omega
theorem zk_gt {x y : Int32} (c : ¬ y ≤ x) : x < y := Int32.not_le.mp c
theorem zk_s {iw : Nat} {x : Int32} (h : iw < nst) (h0 : 0 ≤ x.toInt ∧ x.toInt ≤ 9) (c : ¬ nI (kz_len.getD iw 0) ≤ x) : 0 ≤ (x + 1).toInt ∧ (x + 1).toInt ≤ 9 := by
  have h2 := zk_lt h (zk_n0 h0) (zk_gt c)
  have h3 := zk_max h
  rw [li_inc (by omega) (by omega)]; omega
theorem zk_m {iw : Nat} {x : Int32} {n : Nat} (h : iw < nst) (h0 : 0 ≤ x.toInt ∧ x.toInt ≤ 9) (c : ¬ nI (kz_len.getD iw 0) ≤ x) (hm : 10 - x.toInt.toNat ≤ n + 1) : 10 - (x + 1).toInt.toNat ≤ n := by
  have h2 := zk_lt h (zk_n0 h0) (zk_gt c)
  have h3 := zk_max h
  rw [li_inc (by omega) (by omega)]; omega
set_option maxHeartbeats 4000000 in
set_option maxRecDepth 100000 in
theorem c_Cs_isLatin1 (l : Launch) (dC : Nat → ClassId) (dI : Nat → Nat → Nat) (adK adV : Nat → Nat) (iw : Nat) (hiw : iw < nst) : Met l y_S_isLatin1 ws_S_isLatin1 ({ frames := 0, cells := 0, slots := 0, locals := 0 }) (va_Pc [.ref (adK iw)] (fun U => zz adK adV (fun _ => False) U ∧ va_P (dC, dI) vwCl [] U.heap ∧ va_K (dC, dI) vwCl [] U)) (vp_Si (fun r => r = 1)) 0 0 (fun _ => False) := by
  refine Met.ofW (cc := c_S_isLatin1) (maxL := 1) (ret := (some .boolean)) (by decide) rfl ?_
  intro p e s m args below meth c s₁ B hml hv
  obtain ⟨rfl, hZ, hP, hK⟩ := hv
  have hx := B.exec
  have hb := B.bytes
  have hr := B.returns
  have hts0 := atoms_spec (ws := ws_S_isLatin1) B.pre
  have hts : ∀ w ∈ TT, w.before _ s = true := fun w h => hts0 w (List.mem_cons_of_mem _ h)
  have hown : s.vm.findClass "java/lang/String" = some m.cls := findClass_of_methodNamed B.named
  have hlocks := B.notSynchronized
  have hS : va_S (fun _ => False) s.heap s.heap [] := va_S.rf
  replace hP : va_P (dC, dI) vwCl [] s.heap := hP
  have hl := lv_entry ([.ref (adK iw)]) (n := 1) (Nat.le_of_ble_eq_true rfl)
  rw [lg_entry_eq]
  generalize (lg_sl ([.ref (adK iw)]) ++ List.replicate (1 - (lg_sl ([.ref (adK iw)])).length) Slot.unset).toArray = ls at hl ⊢
  replace hl : lv_has ls 1 [(0, .ref (adK iw))] := hl
  refine va_gets hx hb (zz_cs hZ) hS hown (hts _ tw_247) (fun _ h => h) d_S_isLatin1_0 ?_
  refine lv_if_eq (tgt := 17) hx hb d_S_isLatin1_3 (by decide) (fun c_1 => ?_) (fun c_1 => ?_)
  · exact absurd c_1 (by decide)
  · refine lv_aload_n hx hb d_S_isLatin1_6 rfl (lv_at hl 0 rfl) ?_
    refine vk_getf (v := .int 0) hx hb ((zz_S hZ).1 _ hiw).2.1 hS hown (hts _ tw_824) (fun _ h => h) d_S_isLatin1_7 ?_
    refine lv_if_ne (tgt := 17) hx hb d_S_isLatin1_10 (by decide) (fun c_2 => ?_) (fun c_2 => ?_)
    · exact absurd (by decide) c_2
    · refine lv_iconst (v := 1) hx hb d_S_isLatin1_13 (by decide) ?_
      refine lv_goto (tgt := 18) hx hb d_S_isLatin1_14 (by decide) ?_
      exact W.zret (v := 1) hx hb hr rfl (fun t ht hW => ⟨1, rfl, rfl, ht⟩) (fun _ h => by cases h) d_S_isLatin1_18
