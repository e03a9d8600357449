def g_Cg_readInto (w_ln : Int32) (f_sg : Nat → Int32) (r_de : Int32) (r_da : Int32) (r_re : Int32) (r_ga : Int32) (r_rc : Int32) (r_rk : Int32) : Int32 × Int32 × Int32 × Int32 × Int32 × Int32 × Int32 × Int32 × Int32 × Int32 × Int32 × Int32 :=
  bv (g_Cg_readCondition 1 9 8 w_ln 0 (-1) f_sg) (fun x_3 =>
    bv (g_Cg_readCondition 1 9 9 w_ln x_3.2.1 x_3.2.2 f_sg) (fun x_6 =>
      bv (g_Cg_readCondition 2 49 10 w_ln x_6.2.1 x_6.2.2 f_sg) (fun x_9 =>
        bv (g_Cg_readDeed w_ln x_9.2.1 x_9.2.2 f_sg r_de r_da) (fun x_11 =>
          bv (g_Cg_readRest w_ln x_11.1 x_11.2.1 f_sg x_11.2.2.1 r_re r_ga r_rc r_rk) (fun x_13 =>
            (x_13.2.1, x_13.1, x_13.2.1, x_3.1, x_6.1, x_9.1, x_11.2.2.1, x_11.2.2.2, x_13.2.2.1, x_13.2.2.2.1, x_13.2.2.2.2.1, x_13.2.2.2.2.2))))))
set_option maxHeartbeats 4000000 in
set_option maxRecDepth 100000 in
theorem c_Cg_readInto (l : Launch) (dC : Nat → ClassId) (dI : Nat → Nat → Nat) (adK adV : Nat → Nat) (a_tx : Nat) (a_sg : Nat) (a_to : Nat) (k_sg : ClassId) (w_ln : Int32) (w_pl : Int32) (w_wr : Int32) (f_sg : Nat → Int32) (r_ki : Int32) (r_ty : Int32) (r_pe : Int32) (r_de : Int32) (r_da : Int32) (r_re : Int32) (r_ga : Int32) (r_rc : Int32) (r_rk : Int32) (r_me : Int32) (r_le : Int32) (sz : Nat) (hln : 0 ≤ w_ln.toInt ∧ w_ln.toInt ≤ 120) : Met l y_T_readInto ws_T_readInto ({ frames := 8, cells := 0, slots := 0, locals := 171 }) (va_Pc [.ref a_tx, .ref a_to] (fun U => U.heap.size = sz ∧ zz adK adV (va_A [(a_tx, .inr (4, [.ref a_sg, .int w_ln, .int w_pl, .int w_wr])), (a_sg, .inl (k_sg, 120, .inl f_sg)), (a_to, .inr (3, [.int r_ki, .int r_ty, .int r_pe, .int r_de, .int r_da, .int r_re, .int r_ga, .int r_rc, .int r_rk, .int r_me, .int r_le]))] sz) U ∧ va_P (dC, dI) vwCl [(a_tx, .inr (4, [.ref a_sg, .int w_ln, .int w_pl, .int w_wr])), (a_sg, .inl (k_sg, 120, .inl f_sg)), (a_to, .inr (3, [.int r_ki, .int r_ty, .int r_pe, .int r_de, .int r_da, .int r_re, .int r_ga, .int r_rc, .int r_rk, .int r_me, .int r_le]))] U.heap ∧ va_K (dC, dI) vwCl [(k_sg, .char)] U ∧ va_D (fun _ => True) [(a_tx, .inr (4, [.ref a_sg, .int w_ln, .int w_pl, .int w_wr])), (a_sg, .inl (k_sg, 120, .inl f_sg)), (a_to, .inr (3, [.int r_ki, .int r_ty, .int r_pe, .int r_de, .int r_da, .int r_re, .int r_ga, .int r_rc, .int r_rk, .int r_me, .int r_le]))])) (va_Qi (fun (r : Int32) (_ : Unit) => r = (g_Cg_readInto w_ln f_sg r_de r_da r_re r_ga r_rc r_rk).1) (fun (_ : Unit) (t : State) => va_P (dC, dI) vwCl [(a_tx, .inr (4, [.ref a_sg, .int w_ln, .int ((g_Cg_readInto w_ln f_sg r_de r_da r_re r_ga r_rc r_rk).2.1), .int ((g_Cg_readInto w_ln f_sg r_de r_da r_re r_ga r_rc r_rk).2.2.1)])), (a_sg, .inl (k_sg, 120, .inl f_sg)), (a_to, .inr (3, [.int ((g_Cg_readInto w_ln f_sg r_de r_da r_re r_ga r_rc r_rk).2.2.2.1), .int ((g_Cg_readInto w_ln f_sg r_de r_da r_re r_ga r_rc r_rk).2.2.2.2.1), .int ((g_Cg_readInto w_ln f_sg r_de r_da r_re r_ga r_rc r_rk).2.2.2.2.2.1), .int ((g_Cg_readInto w_ln f_sg r_de r_da r_re r_ga r_rc r_rk).2.2.2.2.2.2.1), .int ((g_Cg_readInto w_ln f_sg r_de r_da r_re r_ga r_rc r_rk).2.2.2.2.2.2.2.1), .int ((g_Cg_readInto w_ln f_sg r_de r_da r_re r_ga r_rc r_rk).2.2.2.2.2.2.2.2.1), .int ((g_Cg_readInto w_ln f_sg r_de r_da r_re r_ga r_rc r_rk).2.2.2.2.2.2.2.2.2.1), .int ((g_Cg_readInto w_ln f_sg r_de r_da r_re r_ga r_rc r_rk).2.2.2.2.2.2.2.2.2.2.1), .int ((g_Cg_readInto w_ln f_sg r_de r_da r_re r_ga r_rc r_rk).2.2.2.2.2.2.2.2.2.2.2), .int r_me, .int r_le]))] t.heap ∧ va_K (dC, dI) vwCl [(k_sg, .char)] t ∧ va_D (va_A [(a_tx, .inr (4, [.ref a_sg, .int w_ln, .int w_pl, .int w_wr])), (a_sg, .inl (k_sg, 120, .inl f_sg)), (a_to, .inr (3, [.int r_ki, .int r_ty, .int r_pe, .int r_de, .int r_da, .int r_re, .int r_ga, .int r_rc, .int r_rk, .int r_me, .int r_le]))] sz) [(a_tx, .inr (4, [.ref a_sg, .int w_ln, .int ((g_Cg_readInto w_ln f_sg r_de r_da r_re r_ga r_rc r_rk).2.1), .int ((g_Cg_readInto w_ln f_sg r_de r_da r_re r_ga r_rc r_rk).2.2.1)])), (a_sg, .inl (k_sg, 120, .inl f_sg)), (a_to, .inr (3, [.int ((g_Cg_readInto w_ln f_sg r_de r_da r_re r_ga r_rc r_rk).2.2.2.1), .int ((g_Cg_readInto w_ln f_sg r_de r_da r_re r_ga r_rc r_rk).2.2.2.2.1), .int ((g_Cg_readInto w_ln f_sg r_de r_da r_re r_ga r_rc r_rk).2.2.2.2.2.1), .int ((g_Cg_readInto w_ln f_sg r_de r_da r_re r_ga r_rc r_rk).2.2.2.2.2.2.1), .int ((g_Cg_readInto w_ln f_sg r_de r_da r_re r_ga r_rc r_rk).2.2.2.2.2.2.2.1), .int ((g_Cg_readInto w_ln f_sg r_de r_da r_re r_ga r_rc r_rk).2.2.2.2.2.2.2.2.1), .int ((g_Cg_readInto w_ln f_sg r_de r_da r_re r_ga r_rc r_rk).2.2.2.2.2.2.2.2.2.1), .int ((g_Cg_readInto w_ln f_sg r_de r_da r_re r_ga r_rc r_rk).2.2.2.2.2.2.2.2.2.2.1), .int ((g_Cg_readInto w_ln f_sg r_de r_da r_re r_ga r_rc r_rk).2.2.2.2.2.2.2.2.2.2.2), .int r_me, .int r_le]))]) (va_A [(a_tx, .inr (4, [.ref a_sg, .int w_ln, .int w_pl, .int w_wr])), (a_sg, .inl (k_sg, 120, .inl f_sg)), (a_to, .inr (3, [.int r_ki, .int r_ty, .int r_pe, .int r_de, .int r_da, .int r_re, .int r_ga, .int r_rc, .int r_rk, .int r_me, .int r_le]))] sz)) 0 0 (va_A [(a_tx, .inr (4, [.ref a_sg, .int w_ln, .int w_pl, .int w_wr])), (a_sg, .inl (k_sg, 120, .inl f_sg)), (a_to, .inr (3, [.int r_ki, .int r_ty, .int r_pe, .int r_de, .int r_da, .int r_re, .int r_ga, .int r_rc, .int r_rk, .int r_me, .int r_le]))] sz) := by
  refine Met.ofW (cc := c_T_readInto) (maxL := 2) (ret := (some .int)) (by decide) rfl ?_
  intro p e s m args below meth c s₁ B hml hv
  obtain ⟨rfl, hsz, hZ, hP, hK, hD0⟩ := hv
  have hx := B.exec
  have hb := B.bytes
  have hr := B.returns
  have hts0 := atoms_spec (ws := ws_T_readInto) B.pre
  have hts : ∀ w ∈ TT, w.before _ s = true := fun w h => hts0 w (List.mem_cons_of_mem _ h)
  have hown : s.vm.findClass "LoanRules$RuleText" = some m.cls := findClass_of_methodNamed B.named
  have hlocks := B.notSynchronized
  subst hsz
  have hD := hD0.self (sz := s.heap.size)
  generalize hAe : va_A [(a_tx, .inr (4, [.ref a_sg, .int w_ln, .int w_pl, .int w_wr])), (a_sg, .inl (k_sg, 120, .inl f_sg)), (a_to, .inr (3, [.int r_ki, .int r_ty, .int r_pe, .int r_de, .int r_da, .int r_re, .int r_ga, .int r_rc, .int r_rk, .int r_me, .int r_le]))] s.heap.size = A at hD hZ ⊢
  have hA : ∀ q : Nat, s.heap.size ≤ q → A q := fun q h => by rw [← hAe]; exact Or.inr h
  clear hAe hD0
  have hS : va_S A s.heap s.heap [] := va_S.rf
  replace hP : va_P (dC, dI) vwCl [(a_tx, .inr (4, [.ref a_sg, .int w_ln, .int w_pl, .int w_wr])), (a_sg, .inl (k_sg, 120, .inl f_sg)), (a_to, .inr (3, [.int r_ki, .int r_ty, .int r_pe, .int r_de, .int r_da, .int r_re, .int r_ga, .int r_rc, .int r_rk, .int r_me, .int r_le]))] s.heap := hP
  have hl := lv_entry ([.ref a_tx, .ref a_to]) (n := 2) (Nat.le_of_ble_eq_true rfl)
  rw [lg_entry_eq]
  generalize (lg_sl ([.ref a_tx, .ref a_to]) ++ List.replicate (2 - (lg_sl ([.ref a_tx, .ref a_to])).length) Slot.unset).toArray = ls at hl ⊢
  replace hl : lv_has ls 2 [(0, .ref a_tx), (1, .ref a_to)] := hl
  obtain ⟨z, hz⟩ : ∃ z, z = g_Cg_readInto w_ln f_sg r_de r_da r_re r_ga r_rc r_rk := ⟨_, rfl⟩
  have hE := hz
  rw [g_Cg_readInto] at hE
  refine lv_aload_n hx hb d_T_readInto_0 rfl (lv_at hl 0 rfl) ?_
  refine lv_iconst (v := 0) hx hb d_T_readInto_1 (by decide) ?_
  refine va_put (D := (dC, dI)) (ci := 4) (v := .int 0) (ty := .int) (C := "LoanRules$RuleText") (T := Fz_T) (N := 4) hx hb hts it_T tz_T tz_T_ok nz_T hown hK hP hD hS 0 rfl rfl 2 (by decide) (hts _ tw_74) (fun _ h9 => h9) rfl (by decide +kernel) rfl rfl (Nat.le_of_ble_eq_true rfl) d_T_readInto_2 (fun H locs hP hD hS => ?_)
  replace hP : va_P (dC, dI) vwCl [(a_tx, .inr (4, [.ref a_sg, .int w_ln, .int 0, .int w_wr])), (a_sg, .inl (k_sg, 120, .inl f_sg)), (a_to, .inr (3, [.int r_ki, .int r_ty, .int r_pe, .int r_de, .int r_da, .int r_re, .int r_ga, .int r_rc, .int r_rk, .int r_me, .int r_le]))] H := hP
  replace hD : va_D A [(a_tx, .inr (4, [.ref a_sg, .int w_ln, .int 0, .int w_wr])), (a_sg, .inl (k_sg, 120, .inl f_sg)), (a_to, .inr (3, [.int r_ki, .int r_ty, .int r_pe, .int r_de, .int r_da, .int r_re, .int r_ga, .int r_rc, .int r_rk, .int r_me, .int r_le]))] := hD
  refine lv_aload_n hx hb d_T_readInto_5 rfl (lv_at hl 0 rfl) ?_
  refine lv_iconst (v := (-1)) hx hb d_T_readInto_6 (by decide) ?_
  refine va_put (D := (dC, dI)) (ci := 4) (v := .int (-1)) (ty := .int) (C := "LoanRules$RuleText") (T := Fz_T) (N := 4) hx hb hts it_T tz_T tz_T_ok nz_T hown hK hP hD hS 0 rfl rfl 3 (by decide) (hts _ tw_75) (fun _ h9 => h9) rfl (by decide +kernel) rfl rfl (Nat.le_of_ble_eq_true rfl) d_T_readInto_7 (fun H locs hP hD hS => ?_)
  replace hP : va_P (dC, dI) vwCl [(a_tx, .inr (4, [.ref a_sg, .int w_ln, .int 0, .int (-1)])), (a_sg, .inl (k_sg, 120, .inl f_sg)), (a_to, .inr (3, [.int r_ki, .int r_ty, .int r_pe, .int r_de, .int r_da, .int r_re, .int r_ga, .int r_rc, .int r_rk, .int r_me, .int r_le]))] H := hP
  replace hD : va_D A [(a_tx, .inr (4, [.ref a_sg, .int w_ln, .int 0, .int (-1)])), (a_sg, .inl (k_sg, 120, .inl f_sg)), (a_to, .inr (3, [.int r_ki, .int r_ty, .int r_pe, .int r_de, .int r_da, .int r_re, .int r_ga, .int r_rc, .int r_rk, .int r_me, .int r_le]))] := hD
  refine lv_aload_n hx hb d_T_readInto_10 rfl (lv_at hl 1 rfl) ?_
  refine lv_aload_n hx hb d_T_readInto_11 rfl (lv_at hl 0 rfl) ?_
  refine va_ldcS hx hb hown (zs_T_25 hZ) d_T_readInto_12 ?_
  refine lv_iconst (v := 1) hx hb d_T_readInto_14 (by decide) ?_
  refine lv_bipush (v := 9) hx hb d_T_readInto_15 (by decide) ?_
  have hPc := hP.sub (ws' := [(a_tx, .inr (4, [.ref a_sg, .int w_ln, .int 0, .int (-1)])), (a_sg, .inl (k_sg, 120, .inl f_sg))]) [0, 1] rfl
  have hKc := hK.sub (tys' := [(k_sg, .char)]) [0] rfl
  have hDc := hD.sub (ws' := [(a_tx, .inr (4, [.ref a_sg, .int w_ln, .int 0, .int (-1)])), (a_sg, .inl (k_sg, 120, .inl f_sg))]) [0, 1] (by decide) rfl
  have hFc := va_free (wc := [(a_tx, .inr (4, [.ref a_sg, .int w_ln, .int 0, .int (-1)])), (a_sg, .inl (k_sg, 120, .inl f_sg))]) hD hS hA [0, 1] rfl
  refine va_calli (va_runV (As := [.ref (adK 8), .int 1, .int 9]) (rest := [.ref a_to]) ⟨hx, hb, hml, hown, hts⟩ (c_Cg_readCondition l dC dI adK adV (a_tx := a_tx) (iw := 8) (p0 := 1) (p1 := 9) (a_sg := a_sg) (w_ln := w_ln) (w_pl := 0) (w_wr := (-1)) (k_sg := k_sg) (f_sg := f_sg) (sz := H.size) (by decide) hln (by decide)) (cwV 3 hts (gV tw_231 tw_233 tw_0 tw_43 tw_234) rfl rfl rfl (by decide +kernel) ⟨(Nat.le_of_ble_eq_true rfl), (Nat.le_of_ble_eq_true rfl)⟩) ⟨fun a U g mk q => by obtain ⟨q0, q1, qZ, qP, qK, qD⟩ := q; exact ⟨q0, q1, zz_call qZ, qP, va_K.moved (u := U) (U := U.calling g mk a) (Vm.Alike.refl U.vm) qK, qD⟩, va_recv hKc hPc (ci := 4) (q0 := 0) rfl rfl, fun U hU hW => ⟨rfl, by rw [hU], zz_rw hS hFc hU hW hZ, by rw [hU]; exact hPc, va_K.moved hW.alike hKc, hDc.weaken (fun _ _ _ _ => trivial)⟩⟩ rfl rfl hl.1 rfl (lv_room (Nat.le_of_ble_eq_true rfl)) d_T_readInto_17 ⟨(Nat.le_of_ble_eq_true rfl), (Nat.le_of_ble_eq_true rfl)⟩) hS (fun q _ h => hFc q h) hFc (fun r_1 u t H1 locs ht hvm hw_2 hB hz1 hk1 hS => ?_)
  generalize hg_x_3 : g_Cg_readCondition 1 9 8 w_ln 0 (-1) f_sg = x_3 at hw_2 hB hE
  rw [bv_eq] at hE
  obtain ⟨hP1, hK1, hD1⟩ := hB
  rw [ht] at hP1
  have hK1 := va_K.moved hvm.symm hK1
  obtain rfl : r_1 = x_3.1 := hw_2
  obtain ⟨hP, hD⟩ := va_join (wr := [(a_to, .inr (3, [.int r_ki, .int r_ty, .int r_pe, .int r_de, .int r_da, .int r_re, .int r_ga, .int r_rc, .int r_rk, .int r_me, .int r_le]))]) (w1 := [(a_tx, .inr (4, [.ref a_sg, .int w_ln, .int x_3.2.1, .int x_3.2.2])), (a_sg, .inl (k_sg, 120, .inl f_sg))]) hP hD [0, 1] [2] rfl rfl (by decide) (by decide) hk1 hFc hP1 hD1
  replace hK := (hK.sub (tys' := []) [] rfl).app hK1
  generalize H1 = H at hP hS ⊢
  replace hP := hP.sub (ws' := [(a_tx, .inr (4, [.ref a_sg, .int w_ln, .int x_3.2.1, .int x_3.2.2])), (a_sg, .inl (k_sg, 120, .inl f_sg)), (a_to, .inr (3, [.int r_ki, .int r_ty, .int r_pe, .int r_de, .int r_da, .int r_re, .int r_ga, .int r_rc, .int r_rk, .int r_me, .int r_le]))]) [1, 2, 0] rfl
  replace hD := hD.sub (ws' := [(a_tx, .inr (4, [.ref a_sg, .int w_ln, .int x_3.2.1, .int x_3.2.2])), (a_sg, .inl (k_sg, 120, .inl f_sg)), (a_to, .inr (3, [.int r_ki, .int r_ty, .int r_pe, .int r_de, .int r_da, .int r_re, .int r_ga, .int r_rc, .int r_rk, .int r_me, .int r_le]))]) [1, 2, 0] (by decide) rfl
  replace hK := hK.sub (tys' := [(k_sg, .char)]) [0] rfl
  refine va_put (D := (dC, dI)) (ci := 3) (v := .int x_3.1) (ty := .int) (C := "LoanRules$Rule") (T := Fz_R) (N := 11) hx hb hts it_R tz_R tz_R_ok nz_R hown hK hP hD hS 2 rfl rfl 0 (by decide) (hts _ tw_173) (fun _ h9 => h9) rfl (by decide +kernel) rfl rfl (Nat.le_of_ble_eq_true rfl) d_T_readInto_20 (fun H locs hP hD hS => ?_)
  replace hP : va_P (dC, dI) vwCl [(a_tx, .inr (4, [.ref a_sg, .int w_ln, .int x_3.2.1, .int x_3.2.2])), (a_sg, .inl (k_sg, 120, .inl f_sg)), (a_to, .inr (3, [.int x_3.1, .int r_ty, .int r_pe, .int r_de, .int r_da, .int r_re, .int r_ga, .int r_rc, .int r_rk, .int r_me, .int r_le]))] H := hP
  replace hD : va_D A [(a_tx, .inr (4, [.ref a_sg, .int w_ln, .int x_3.2.1, .int x_3.2.2])), (a_sg, .inl (k_sg, 120, .inl f_sg)), (a_to, .inr (3, [.int x_3.1, .int r_ty, .int r_pe, .int r_de, .int r_da, .int r_re, .int r_ga, .int r_rc, .int r_rk, .int r_me, .int r_le]))] := hD
  refine lv_aload_n hx hb d_T_readInto_23 rfl (lv_at hl 1 rfl) ?_
  refine lv_aload_n hx hb d_T_readInto_24 rfl (lv_at hl 0 rfl) ?_
  refine va_ldcS hx hb hown (zs_T_35 hZ) d_T_readInto_25 ?_
  refine lv_iconst (v := 1) hx hb d_T_readInto_27 (by decide) ?_
  refine lv_bipush (v := 9) hx hb d_T_readInto_28 (by decide) ?_
  have hPc := hP.sub (ws' := [(a_tx, .inr (4, [.ref a_sg, .int w_ln, .int x_3.2.1, .int x_3.2.2])), (a_sg, .inl (k_sg, 120, .inl f_sg))]) [0, 1] rfl
  have hKc := hK.sub (tys' := [(k_sg, .char)]) [0] rfl
  have hDc := hD.sub (ws' := [(a_tx, .inr (4, [.ref a_sg, .int w_ln, .int x_3.2.1, .int x_3.2.2])), (a_sg, .inl (k_sg, 120, .inl f_sg))]) [0, 1] (by decide) rfl
  have hFc := va_free (wc := [(a_tx, .inr (4, [.ref a_sg, .int w_ln, .int x_3.2.1, .int x_3.2.2])), (a_sg, .inl (k_sg, 120, .inl f_sg))]) hD hS hA [0, 1] rfl
  refine va_calli (va_runV (As := [.ref (adK 9), .int 1, .int 9]) (rest := [.ref a_to]) ⟨hx, hb, hml, hown, hts⟩ (c_Cg_readCondition l dC dI adK adV (a_tx := a_tx) (iw := 9) (p0 := 1) (p1 := 9) (a_sg := a_sg) (w_ln := w_ln) (w_pl := x_3.2.1) (w_wr := x_3.2.2) (k_sg := k_sg) (f_sg := f_sg) (sz := H.size) (by decide) hln (ga21 hg_x_3 (rcn_at (by decide) hln (by decide)))) (cwV 3 hts (gV tw_231 tw_233 tw_0 tw_43 tw_234) rfl rfl rfl (by decide +kernel) ⟨(Nat.le_of_ble_eq_true rfl), (Nat.le_of_ble_eq_true rfl)⟩) ⟨fun a U g mk q => by obtain ⟨q0, q1, qZ, qP, qK, qD⟩ := q; exact ⟨q0, q1, zz_call qZ, qP, va_K.moved (u := U) (U := U.calling g mk a) (Vm.Alike.refl U.vm) qK, qD⟩, va_recv hKc hPc (ci := 4) (q0 := 0) rfl rfl, fun U hU hW => ⟨rfl, by rw [hU], zz_rw hS hFc hU hW hZ, by rw [hU]; exact hPc, va_K.moved hW.alike hKc, hDc.weaken (fun _ _ _ _ => trivial)⟩⟩ rfl rfl hl.1 rfl (lv_room (Nat.le_of_ble_eq_true rfl)) d_T_readInto_30 ⟨(Nat.le_of_ble_eq_true rfl), (Nat.le_of_ble_eq_true rfl)⟩) hS (fun q _ h => hFc q h) hFc (fun r_4 u t H1 locs ht hvm hw_5 hB hz1 hk1 hS => ?_)
  generalize hg_x_6 : g_Cg_readCondition 1 9 9 w_ln x_3.2.1 x_3.2.2 f_sg = x_6 at hw_5 hB hE
  rw [bv_eq] at hE
  obtain ⟨hP1, hK1, hD1⟩ := hB
  rw [ht] at hP1
  have hK1 := va_K.moved hvm.symm hK1
  obtain rfl : r_4 = x_6.1 := hw_5
  obtain ⟨hP, hD⟩ := va_join (wr := [(a_to, .inr (3, [.int x_3.1, .int r_ty, .int r_pe, .int r_de, .int r_da, .int r_re, .int r_ga, .int r_rc, .int r_rk, .int r_me, .int r_le]))]) (w1 := [(a_tx, .inr (4, [.ref a_sg, .int w_ln, .int x_6.2.1, .int x_6.2.2])), (a_sg, .inl (k_sg, 120, .inl f_sg))]) hP hD [0, 1] [2] rfl rfl (by decide) (by decide) hk1 hFc hP1 hD1
  replace hK := (hK.sub (tys' := []) [] rfl).app hK1
  generalize H1 = H at hP hS ⊢
  replace hP := hP.sub (ws' := [(a_tx, .inr (4, [.ref a_sg, .int w_ln, .int x_6.2.1, .int x_6.2.2])), (a_sg, .inl (k_sg, 120, .inl f_sg)), (a_to, .inr (3, [.int x_3.1, .int r_ty, .int r_pe, .int r_de, .int r_da, .int r_re, .int r_ga, .int r_rc, .int r_rk, .int r_me, .int r_le]))]) [1, 2, 0] rfl
  replace hD := hD.sub (ws' := [(a_tx, .inr (4, [.ref a_sg, .int w_ln, .int x_6.2.1, .int x_6.2.2])), (a_sg, .inl (k_sg, 120, .inl f_sg)), (a_to, .inr (3, [.int x_3.1, .int r_ty, .int r_pe, .int r_de, .int r_da, .int r_re, .int r_ga, .int r_rc, .int r_rk, .int r_me, .int r_le]))]) [1, 2, 0] (by decide) rfl
  replace hK := hK.sub (tys' := [(k_sg, .char)]) [0] rfl
  refine va_put (D := (dC, dI)) (ci := 3) (v := .int x_6.1) (ty := .int) (C := "LoanRules$Rule") (T := Fz_R) (N := 11) hx hb hts it_R tz_R tz_R_ok nz_R hown hK hP hD hS 2 rfl rfl 1 (by decide) (hts _ tw_176) (fun _ h9 => h9) rfl (by decide +kernel) rfl rfl (Nat.le_of_ble_eq_true rfl) d_T_readInto_33 (fun H locs hP hD hS => ?_)
  replace hP : va_P (dC, dI) vwCl [(a_tx, .inr (4, [.ref a_sg, .int w_ln, .int x_6.2.1, .int x_6.2.2])), (a_sg, .inl (k_sg, 120, .inl f_sg)), (a_to, .inr (3, [.int x_3.1, .int x_6.1, .int r_pe, .int r_de, .int r_da, .int r_re, .int r_ga, .int r_rc, .int r_rk, .int r_me, .int r_le]))] H := hP
  replace hD : va_D A [(a_tx, .inr (4, [.ref a_sg, .int w_ln, .int x_6.2.1, .int x_6.2.2])), (a_sg, .inl (k_sg, 120, .inl f_sg)), (a_to, .inr (3, [.int x_3.1, .int x_6.1, .int r_pe, .int r_de, .int r_da, .int r_re, .int r_ga, .int r_rc, .int r_rk, .int r_me, .int r_le]))] := hD
  refine lv_aload_n hx hb d_T_readInto_36 rfl (lv_at hl 1 rfl) ?_
  refine lv_aload_n hx hb d_T_readInto_37 rfl (lv_at hl 0 rfl) ?_
  refine va_ldcS hx hb hown (zs_T_39 hZ) d_T_readInto_38 ?_
  refine lv_iconst (v := 2) hx hb d_T_readInto_40 (by decide) ?_
  refine lv_bipush (v := 49) hx hb d_T_readInto_41 (by decide) ?_
  have hPc := hP.sub (ws' := [(a_tx, .inr (4, [.ref a_sg, .int w_ln, .int x_6.2.1, .int x_6.2.2])), (a_sg, .inl (k_sg, 120, .inl f_sg))]) [0, 1] rfl
  have hKc := hK.sub (tys' := [(k_sg, .char)]) [0] rfl
  have hDc := hD.sub (ws' := [(a_tx, .inr (4, [.ref a_sg, .int w_ln, .int x_6.2.1, .int x_6.2.2])), (a_sg, .inl (k_sg, 120, .inl f_sg))]) [0, 1] (by decide) rfl
  have hFc := va_free (wc := [(a_tx, .inr (4, [.ref a_sg, .int w_ln, .int x_6.2.1, .int x_6.2.2])), (a_sg, .inl (k_sg, 120, .inl f_sg))]) hD hS hA [0, 1] rfl
  refine va_calli (va_runV (As := [.ref (adK 10), .int 2, .int 49]) (rest := [.ref a_to]) ⟨hx, hb, hml, hown, hts⟩ (c_Cg_readCondition l dC dI adK adV (a_tx := a_tx) (iw := 10) (p0 := 2) (p1 := 49) (a_sg := a_sg) (w_ln := w_ln) (w_pl := x_6.2.1) (w_wr := x_6.2.2) (k_sg := k_sg) (f_sg := f_sg) (sz := H.size) (by decide) hln (ga21 hg_x_6 (rcn_at (by decide) hln (ga21 hg_x_3 (rcn_at (by decide) hln (by decide)))))) (cwV 3 hts (gV tw_231 tw_233 tw_0 tw_43 tw_234) rfl rfl rfl (by decide +kernel) ⟨(Nat.le_of_ble_eq_true rfl), (Nat.le_of_ble_eq_true rfl)⟩) ⟨fun a U g mk q => by obtain ⟨q0, q1, qZ, qP, qK, qD⟩ := q; exact ⟨q0, q1, zz_call qZ, qP, va_K.moved (u := U) (U := U.calling g mk a) (Vm.Alike.refl U.vm) qK, qD⟩, va_recv hKc hPc (ci := 4) (q0 := 0) rfl rfl, fun U hU hW => ⟨rfl, by rw [hU], zz_rw hS hFc hU hW hZ, by rw [hU]; exact hPc, va_K.moved hW.alike hKc, hDc.weaken (fun _ _ _ _ => trivial)⟩⟩ rfl rfl hl.1 rfl (lv_room (Nat.le_of_ble_eq_true rfl)) d_T_readInto_43 ⟨(Nat.le_of_ble_eq_true rfl), (Nat.le_of_ble_eq_true rfl)⟩) hS (fun q _ h => hFc q h) hFc (fun r_7 u t H1 locs ht hvm hw_8 hB hz1 hk1 hS => ?_)
  generalize hg_x_9 : g_Cg_readCondition 2 49 10 w_ln x_6.2.1 x_6.2.2 f_sg = x_9 at hw_8 hB hE
  rw [bv_eq] at hE
  obtain ⟨hP1, hK1, hD1⟩ := hB
  rw [ht] at hP1
  have hK1 := va_K.moved hvm.symm hK1
  obtain rfl : r_7 = x_9.1 := hw_8
  obtain ⟨hP, hD⟩ := va_join (wr := [(a_to, .inr (3, [.int x_3.1, .int x_6.1, .int r_pe, .int r_de, .int r_da, .int r_re, .int r_ga, .int r_rc, .int r_rk, .int r_me, .int r_le]))]) (w1 := [(a_tx, .inr (4, [.ref a_sg, .int w_ln, .int x_9.2.1, .int x_9.2.2])), (a_sg, .inl (k_sg, 120, .inl f_sg))]) hP hD [0, 1] [2] rfl rfl (by decide) (by decide) hk1 hFc hP1 hD1
  replace hK := (hK.sub (tys' := []) [] rfl).app hK1
  generalize H1 = H at hP hS ⊢
  replace hP := hP.sub (ws' := [(a_tx, .inr (4, [.ref a_sg, .int w_ln, .int x_9.2.1, .int x_9.2.2])), (a_sg, .inl (k_sg, 120, .inl f_sg)), (a_to, .inr (3, [.int x_3.1, .int x_6.1, .int r_pe, .int r_de, .int r_da, .int r_re, .int r_ga, .int r_rc, .int r_rk, .int r_me, .int r_le]))]) [1, 2, 0] rfl
  replace hD := hD.sub (ws' := [(a_tx, .inr (4, [.ref a_sg, .int w_ln, .int x_9.2.1, .int x_9.2.2])), (a_sg, .inl (k_sg, 120, .inl f_sg)), (a_to, .inr (3, [.int x_3.1, .int x_6.1, .int r_pe, .int r_de, .int r_da, .int r_re, .int r_ga, .int r_rc, .int r_rk, .int r_me, .int r_le]))]) [1, 2, 0] (by decide) rfl
  replace hK := hK.sub (tys' := [(k_sg, .char)]) [0] rfl
  refine va_put (D := (dC, dI)) (ci := 3) (v := .int x_9.1) (ty := .int) (C := "LoanRules$Rule") (T := Fz_R) (N := 11) hx hb hts it_R tz_R tz_R_ok nz_R hown hK hP hD hS 2 rfl rfl 2 (by decide) (hts _ tw_179) (fun _ h9 => h9) rfl (by decide +kernel) rfl rfl (Nat.le_of_ble_eq_true rfl) d_T_readInto_46 (fun H locs hP hD hS => ?_)
  replace hP : va_P (dC, dI) vwCl [(a_tx, .inr (4, [.ref a_sg, .int w_ln, .int x_9.2.1, .int x_9.2.2])), (a_sg, .inl (k_sg, 120, .inl f_sg)), (a_to, .inr (3, [.int x_3.1, .int x_6.1, .int x_9.1, .int r_de, .int r_da, .int r_re, .int r_ga, .int r_rc, .int r_rk, .int r_me, .int r_le]))] H := hP
  replace hD : va_D A [(a_tx, .inr (4, [.ref a_sg, .int w_ln, .int x_9.2.1, .int x_9.2.2])), (a_sg, .inl (k_sg, 120, .inl f_sg)), (a_to, .inr (3, [.int x_3.1, .int x_6.1, .int x_9.1, .int r_de, .int r_da, .int r_re, .int r_ga, .int r_rc, .int r_rk, .int r_me, .int r_le]))] := hD
  refine lv_aload_n hx hb d_T_readInto_49 rfl (lv_at hl 0 rfl) ?_
  refine lv_aload_n hx hb d_T_readInto_50 rfl (lv_at hl 1 rfl) ?_
  have hPc := hP.sub (ws' := [(a_tx, .inr (4, [.ref a_sg, .int w_ln, .int x_9.2.1, .int x_9.2.2])), (a_sg, .inl (k_sg, 120, .inl f_sg)), (a_to, .inr (3, [.int x_3.1, .int x_6.1, .int x_9.1, .int r_de, .int r_da, .int r_re, .int r_ga, .int r_rc, .int r_rk, .int r_me, .int r_le]))]) [0, 1, 2] rfl
  have hKc := hK.sub (tys' := [(k_sg, .char)]) [0] rfl
  have hDc := hD.sub (ws' := [(a_tx, .inr (4, [.ref a_sg, .int w_ln, .int x_9.2.1, .int x_9.2.2])), (a_sg, .inl (k_sg, 120, .inl f_sg)), (a_to, .inr (3, [.int x_3.1, .int x_6.1, .int x_9.1, .int r_de, .int r_da, .int r_re, .int r_ga, .int r_rc, .int r_rk, .int r_me, .int r_le]))]) [0, 1, 2] (by decide) rfl
  have hFc := va_free (wc := [(a_tx, .inr (4, [.ref a_sg, .int w_ln, .int x_9.2.1, .int x_9.2.2])), (a_sg, .inl (k_sg, 120, .inl f_sg)), (a_to, .inr (3, [.int x_3.1, .int x_6.1, .int x_9.1, .int r_de, .int r_da, .int r_re, .int r_ga, .int r_rc, .int r_rk, .int r_me, .int r_le]))]) hD hS hA [0, 1, 2] rfl
  refine va_callv (va_runV (As := [.ref a_to]) (rest := []) ⟨hx, hb, hml, hown, hts⟩ (c_Cg_readDeed l dC dI adK adV (a_tx := a_tx) (a_to := a_to) (a_sg := a_sg) (w_ln := w_ln) (w_pl := x_9.2.1) (w_wr := x_9.2.2) (k_sg := k_sg) (f_sg := f_sg) (r_ki := x_3.1) (r_ty := x_6.1) (r_pe := x_9.1) (r_de := r_de) (r_da := r_da) (r_re := r_re) (r_ga := r_ga) (r_rc := r_rc) (r_rk := r_rk) (r_me := r_me) (r_le := r_le) (sz := H.size) hln (ga21 hg_x_9 (rcn_at (by decide) hln (ga21 hg_x_6 (rcn_at (by decide) hln (ga21 hg_x_3 (rcn_at (by decide) hln (by decide)))))))) (cwV 1 hts (gV tw_311 tw_313 tw_6 tw_43 tw_314) rfl rfl rfl (by decide +kernel) ⟨(Nat.le_of_ble_eq_true rfl), (Nat.le_of_ble_eq_true rfl)⟩) ⟨fun a U g mk q => by obtain ⟨q0, q1, qZ, qP, qK, qD⟩ := q; exact ⟨q0, q1, zz_call qZ, qP, va_K.moved (u := U) (U := U.calling g mk a) (Vm.Alike.refl U.vm) qK, qD⟩, va_recv hKc hPc (ci := 4) (q0 := 0) rfl rfl, fun U hU hW => ⟨rfl, by rw [hU], zz_rw hS hFc hU hW hZ, by rw [hU]; exact hPc, va_K.moved hW.alike hKc, hDc.weaken (fun _ _ _ _ => trivial)⟩⟩ rfl rfl hl.1 rfl (lv_room (Nat.le_of_ble_eq_true rfl)) d_T_readInto_51 ⟨(Nat.le_of_ble_eq_true rfl), (Nat.le_of_ble_eq_true rfl)⟩) hS (fun q _ h => hFc q h) hFc (fun u t H1 locs ht hvm hw_10 hB hz1 hk1 hS => ?_)
  generalize hg_x_11 : g_Cg_readDeed w_ln x_9.2.1 x_9.2.2 f_sg r_de r_da = x_11 at hw_10 hB hE
  rw [bv_eq] at hE
  obtain ⟨hP1, hK1, hD1⟩ := hB
  rw [ht] at hP1
  have hK1 := va_K.moved hvm.symm hK1
  obtain ⟨hP, hD⟩ := va_join (wr := []) (w1 := [(a_tx, .inr (4, [.ref a_sg, .int w_ln, .int x_11.1, .int x_11.2.1])), (a_sg, .inl (k_sg, 120, .inl f_sg)), (a_to, .inr (3, [.int x_3.1, .int x_6.1, .int x_9.1, .int x_11.2.2.1, .int x_11.2.2.2, .int r_re, .int r_ga, .int r_rc, .int r_rk, .int r_me, .int r_le]))]) hP hD [0, 1, 2] [] rfl rfl (by decide) (by decide) hk1 hFc hP1 hD1
  replace hK := (hK.sub (tys' := []) [] rfl).app hK1
  generalize H1 = H at hP hS ⊢
  replace hP := hP.sub (ws' := [(a_tx, .inr (4, [.ref a_sg, .int w_ln, .int x_11.1, .int x_11.2.1])), (a_sg, .inl (k_sg, 120, .inl f_sg)), (a_to, .inr (3, [.int x_3.1, .int x_6.1, .int x_9.1, .int x_11.2.2.1, .int x_11.2.2.2, .int r_re, .int r_ga, .int r_rc, .int r_rk, .int r_me, .int r_le]))]) [0, 1, 2] rfl
  replace hD := hD.sub (ws' := [(a_tx, .inr (4, [.ref a_sg, .int w_ln, .int x_11.1, .int x_11.2.1])), (a_sg, .inl (k_sg, 120, .inl f_sg)), (a_to, .inr (3, [.int x_3.1, .int x_6.1, .int x_9.1, .int x_11.2.2.1, .int x_11.2.2.2, .int r_re, .int r_ga, .int r_rc, .int r_rk, .int r_me, .int r_le]))]) [0, 1, 2] (by decide) rfl
  replace hK := hK.sub (tys' := [(k_sg, .char)]) [0] rfl
  refine lv_aload_n hx hb d_T_readInto_54 rfl (lv_at hl 0 rfl) ?_
  refine lv_aload_n hx hb d_T_readInto_55 rfl (lv_at hl 1 rfl) ?_
  have hPc := hP.sub (ws' := [(a_tx, .inr (4, [.ref a_sg, .int w_ln, .int x_11.1, .int x_11.2.1])), (a_sg, .inl (k_sg, 120, .inl f_sg)), (a_to, .inr (3, [.int x_3.1, .int x_6.1, .int x_9.1, .int x_11.2.2.1, .int x_11.2.2.2, .int r_re, .int r_ga, .int r_rc, .int r_rk, .int r_me, .int r_le]))]) [0, 1, 2] rfl
  have hKc := hK.sub (tys' := [(k_sg, .char)]) [0] rfl
  have hDc := hD.sub (ws' := [(a_tx, .inr (4, [.ref a_sg, .int w_ln, .int x_11.1, .int x_11.2.1])), (a_sg, .inl (k_sg, 120, .inl f_sg)), (a_to, .inr (3, [.int x_3.1, .int x_6.1, .int x_9.1, .int x_11.2.2.1, .int x_11.2.2.2, .int r_re, .int r_ga, .int r_rc, .int r_rk, .int r_me, .int r_le]))]) [0, 1, 2] (by decide) rfl
  have hFc := va_free (wc := [(a_tx, .inr (4, [.ref a_sg, .int w_ln, .int x_11.1, .int x_11.2.1])), (a_sg, .inl (k_sg, 120, .inl f_sg)), (a_to, .inr (3, [.int x_3.1, .int x_6.1, .int x_9.1, .int x_11.2.2.1, .int x_11.2.2.2, .int r_re, .int r_ga, .int r_rc, .int r_rk, .int r_me, .int r_le]))]) hD hS hA [0, 1, 2] rfl
  refine va_callv (va_runV (As := [.ref a_to]) (rest := []) ⟨hx, hb, hml, hown, hts⟩ (c_Cg_readRest l dC dI adK adV (a_tx := a_tx) (a_to := a_to) (a_sg := a_sg) (w_ln := w_ln) (w_pl := x_11.1) (w_wr := x_11.2.1) (k_sg := k_sg) (f_sg := f_sg) (r_ki := x_3.1) (r_ty := x_6.1) (r_pe := x_9.1) (r_de := x_11.2.2.1) (r_da := x_11.2.2.2) (r_re := r_re) (r_ga := r_ga) (r_rc := r_rc) (r_rk := r_rk) (r_me := r_me) (r_le := r_le) (sz := H.size) hln (ga1 hg_x_11 (rdd_at hln (ga21 hg_x_9 (rcn_at (by decide) hln (ga21 hg_x_6 (rcn_at (by decide) hln (ga21 hg_x_3 (rcn_at (by decide) hln (by decide)))))))))) (cwV 1 hts (gV tw_327 tw_329 tw_9 tw_43 tw_330) rfl rfl rfl (by decide +kernel) ⟨(Nat.le_of_ble_eq_true rfl), (Nat.le_of_ble_eq_true rfl)⟩) ⟨fun a U g mk q => by obtain ⟨q0, q1, qZ, qP, qK, qD⟩ := q; exact ⟨q0, q1, zz_call qZ, qP, va_K.moved (u := U) (U := U.calling g mk a) (Vm.Alike.refl U.vm) qK, qD⟩, va_recv hKc hPc (ci := 4) (q0 := 0) rfl rfl, fun U hU hW => ⟨rfl, by rw [hU], zz_rw hS hFc hU hW hZ, by rw [hU]; exact hPc, va_K.moved hW.alike hKc, hDc.weaken (fun _ _ _ _ => trivial)⟩⟩ rfl rfl hl.1 rfl (lv_room (Nat.le_of_ble_eq_true rfl)) d_T_readInto_56 ⟨(Nat.le_of_ble_eq_true rfl), (Nat.le_of_ble_eq_true rfl)⟩) hS (fun q _ h => hFc q h) hFc (fun u t H1 locs ht hvm hw_12 hB hz1 hk1 hS => ?_)
  generalize hg_x_13 : g_Cg_readRest w_ln x_11.1 x_11.2.1 f_sg x_11.2.2.1 r_re r_ga r_rc r_rk = x_13 at hw_12 hB hE
  rw [bv_eq] at hE
  obtain ⟨hP1, hK1, hD1⟩ := hB
  rw [ht] at hP1
  have hK1 := va_K.moved hvm.symm hK1
  obtain ⟨hP, hD⟩ := va_join (wr := []) (w1 := [(a_tx, .inr (4, [.ref a_sg, .int w_ln, .int x_13.1, .int x_13.2.1])), (a_sg, .inl (k_sg, 120, .inl f_sg)), (a_to, .inr (3, [.int x_3.1, .int x_6.1, .int x_9.1, .int x_11.2.2.1, .int x_11.2.2.2, .int x_13.2.2.1, .int x_13.2.2.2.1, .int x_13.2.2.2.2.1, .int x_13.2.2.2.2.2, .int r_me, .int r_le]))]) hP hD [0, 1, 2] [] rfl rfl (by decide) (by decide) hk1 hFc hP1 hD1
  replace hK := (hK.sub (tys' := []) [] rfl).app hK1
  generalize H1 = H at hP hS ⊢
  replace hP := hP.sub (ws' := [(a_tx, .inr (4, [.ref a_sg, .int w_ln, .int x_13.1, .int x_13.2.1])), (a_sg, .inl (k_sg, 120, .inl f_sg)), (a_to, .inr (3, [.int x_3.1, .int x_6.1, .int x_9.1, .int x_11.2.2.1, .int x_11.2.2.2, .int x_13.2.2.1, .int x_13.2.2.2.1, .int x_13.2.2.2.2.1, .int x_13.2.2.2.2.2, .int r_me, .int r_le]))]) [0, 1, 2] rfl
  replace hD := hD.sub (ws' := [(a_tx, .inr (4, [.ref a_sg, .int w_ln, .int x_13.1, .int x_13.2.1])), (a_sg, .inl (k_sg, 120, .inl f_sg)), (a_to, .inr (3, [.int x_3.1, .int x_6.1, .int x_9.1, .int x_11.2.2.1, .int x_11.2.2.2, .int x_13.2.2.1, .int x_13.2.2.2.1, .int x_13.2.2.2.2.1, .int x_13.2.2.2.2.2, .int r_me, .int r_le]))]) [0, 1, 2] (by decide) rfl
  replace hK := hK.sub (tys' := [(k_sg, .char)]) [0] rfl
  refine lv_aload_n hx hb d_T_readInto_59 rfl (lv_at hl 0 rfl) ?_
  refine va_get (D := (dC, dI)) (ci := 4) (v := .int x_13.2.1) (C := "LoanRules$RuleText") (T := Fz_T) (N := 4) hx hb hts it_T hown hK hP 0 rfl rfl 3 (by decide) (hts _ tw_75) (fun _ h9 => h9) rfl d_T_readInto_60 ?_
  have hP9 := hP.sub (ws' := [(a_tx, .inr (4, [.ref a_sg, .int w_ln, .int x_13.1, .int x_13.2.1])), (a_sg, .inl (k_sg, 120, .inl f_sg)), (a_to, .inr (3, [.int x_3.1, .int x_6.1, .int x_9.1, .int x_11.2.2.1, .int x_11.2.2.2, .int x_13.2.2.1, .int x_13.2.2.2.1, .int x_13.2.2.2.2.1, .int x_13.2.2.2.2.2, .int r_me, .int r_le]))]) [0, 1, 2] rfl
  have hD9 := hD.sub (ws' := [(a_tx, .inr (4, [.ref a_sg, .int w_ln, .int x_13.1, .int x_13.2.1])), (a_sg, .inl (k_sg, 120, .inl f_sg)), (a_to, .inr (3, [.int x_3.1, .int x_6.1, .int x_9.1, .int x_11.2.2.1, .int x_11.2.2.2, .int x_13.2.2.1, .int x_13.2.2.2.1, .int x_13.2.2.2.2.1, .int x_13.2.2.2.2.2, .int r_me, .int r_le]))]) [0, 1, 2] (by decide) rfl
  have hK9 := hK.sub (tys' := [(k_sg, .char)]) [0] rfl
  exact W.iret (v := x_13.2.1) hx hb hr (fun t ht hW => ⟨⟨x_13.2.1, (), rfl, by rw [← hz, hE], by rw [ht, ← hz, hE]; exact hP9, va_K.moved hW.alike hK9, by rw [← hz, hE]; exact hD9⟩, hS.F ht⟩) hS.2.2 d_T_readInto_63
set_option maxHeartbeats 4000000 in
set_option maxRecDepth 100000 in
theorem c_Cg_Rule_init (l : Launch) (dC : Nat → ClassId) (dI : Nat → Nat → Nat) (adK adV : Nat → Nat) (a_to : Nat) (r_ki : Int32) (r_ty : Int32) (r_pe : Int32) (r_de : Int32) (r_da : Int32) (r_re : Int32) (r_ga : Int32) (r_rc : Int32) (r_rk : Int32) (r_me : Int32) (r_le : Int32) (sz : Nat) : Met l y_R_init ws_R_init ({ frames := 1, cells := 0, slots := 0, locals := 12 }) (va_Pc [.ref a_to] (fun U => U.heap.size = sz ∧ zz adK adV (va_A [(a_to, .inr (3, [.int r_ki, .int r_ty, .int r_pe, .int r_de, .int r_da, .int r_re, .int r_ga, .int r_rc, .int r_rk, .int r_me, .int r_le]))] sz) U ∧ va_P (dC, dI) vwCl [(a_to, .inr (3, [.int r_ki, .int r_ty, .int r_pe, .int r_de, .int r_da, .int r_re, .int r_ga, .int r_rc, .int r_rk, .int r_me, .int r_le]))] U.heap ∧ va_K (dC, dI) vwCl [] U ∧ va_D (fun _ => True) [(a_to, .inr (3, [.int r_ki, .int r_ty, .int r_pe, .int r_de, .int r_da, .int r_re, .int r_ga, .int r_rc, .int r_rk, .int r_me, .int r_le]))])) (va_Qv (fun _ : Unit => True) (fun (_ : Unit) (t : State) => va_P (dC, dI) vwCl [(a_to, .inr (3, [.int (-1), .int (-1), .int (-1), .int 2, .int 0, .int 0, .int 0, .int 7, .int 0, .int 0, .int 0]))] t.heap ∧ va_K (dC, dI) vwCl [] t ∧ va_D (va_A [(a_to, .inr (3, [.int r_ki, .int r_ty, .int r_pe, .int r_de, .int r_da, .int r_re, .int r_ga, .int r_rc, .int r_rk, .int r_me, .int r_le]))] sz) [(a_to, .inr (3, [.int (-1), .int (-1), .int (-1), .int 2, .int 0, .int 0, .int 0, .int 7, .int 0, .int 0, .int 0]))]) (va_A [(a_to, .inr (3, [.int r_ki, .int r_ty, .int r_pe, .int r_de, .int r_da, .int r_re, .int r_ga, .int r_rc, .int r_rk, .int r_me, .int r_le]))] sz)) 0 0 (va_A [(a_to, .inr (3, [.int r_ki, .int r_ty, .int r_pe, .int r_de, .int r_da, .int r_re, .int r_ga, .int r_rc, .int r_rk, .int r_me, .int r_le]))] sz) := by
  refine Met.ofW (cc := c_R_init) (maxL := 1) (ret := none) (by decide) rfl ?_
  intro p e s m args below meth c s₁ B hml hv
  obtain ⟨rfl, hsz, hZ, hP, hK, hD0⟩ := hv
  have hx := B.exec
  have hb := B.bytes
  have hr := B.returns
  have hts0 := atoms_spec (ws := ws_R_init) B.pre
  have hts : ∀ w ∈ TT, w.before _ s = true := fun w h => hts0 w (List.mem_cons_of_mem _ h)
  have hown : s.vm.findClass "LoanRules$Rule" = some m.cls := findClass_of_methodNamed B.named
  have hlocks := B.notSynchronized
  have hin : meth.name = "<init>" := (name_of_methodNamed B.named B.method).1
  subst hsz
  have hD := hD0.self (sz := s.heap.size)
  generalize hAe : va_A [(a_to, .inr (3, [.int r_ki, .int r_ty, .int r_pe, .int r_de, .int r_da, .int r_re, .int r_ga, .int r_rc, .int r_rk, .int r_me, .int r_le]))] s.heap.size = A at hD hZ ⊢
  have hA : ∀ q : Nat, s.heap.size ≤ q → A q := fun q h => by rw [← hAe]; exact Or.inr h
  clear hAe hD0
  have hS : va_S A s.heap s.heap [] := va_S.rf
  replace hP : va_P (dC, dI) vwCl [(a_to, .inr (3, [.int r_ki, .int r_ty, .int r_pe, .int r_de, .int r_da, .int r_re, .int r_ga, .int r_rc, .int r_rk, .int r_me, .int r_le]))] s.heap := hP
  have hl := lv_entry ([.ref a_to]) (n := 1) (Nat.le_of_ble_eq_true rfl)
  rw [lg_entry_eq]
  generalize (lg_sl ([.ref a_to]) ++ List.replicate (1 - (lg_sl ([.ref a_to])).length) Slot.unset).toArray = ls at hl ⊢
  replace hl : lv_has ls 1 [(0, .ref a_to)] := hl
  refine lv_aload_n hx hb d_R_init_0 rfl (lv_at hl 0 rfl) ?_
  refine W.objInit hx hb hown (hts _ tw_171) (hts _ tw_64) (hts _ tw_65) rfl (by rw [hml]; exact hl.1) rfl d_R_init_1 (Nat.le_of_ble_eq_true rfl) (Nat.le_of_ble_eq_true rfl) ?_
  refine W.eq (g2 := F0 m 4 ls []) rfl ?_
  refine lv_aload_n hx hb d_R_init_4 rfl (lv_at hl 0 rfl) ?_
  refine lv_iconst (v := (-1)) hx hb d_R_init_5 (by decide) ?_
  refine va_put (D := (dC, dI)) (ci := 3) (v := .int (-1)) (ty := .int) (C := "LoanRules$Rule") (T := Fz_R) (N := 11) hx hb hts it_R tz_R tz_R_ok nz_R hown hK hP hD hS 0 rfl rfl 0 (by decide) (hts _ tw_172) (fun _ h9 => h9) rfl (by decide +kernel) rfl rfl (Nat.le_of_ble_eq_true rfl) d_R_init_6 (fun H locs hP hD hS => ?_)
  replace hP : va_P (dC, dI) vwCl [(a_to, .inr (3, [.int (-1), .int r_ty, .int r_pe, .int r_de, .int r_da, .int r_re, .int r_ga, .int r_rc, .int r_rk, .int r_me, .int r_le]))] H := hP
  replace hD : va_D A [(a_to, .inr (3, [.int (-1), .int r_ty, .int r_pe, .int r_de, .int r_da, .int r_re, .int r_ga, .int r_rc, .int r_rk, .int r_me, .int r_le]))] := hD
  refine lv_aload_n hx hb d_R_init_9 rfl (lv_at hl 0 rfl) ?_
  refine lv_iconst (v := (-1)) hx hb d_R_init_10 (by decide) ?_
  refine va_put (D := (dC, dI)) (ci := 3) (v := .int (-1)) (ty := .int) (C := "LoanRules$Rule") (T := Fz_R) (N := 11) hx hb hts it_R tz_R tz_R_ok nz_R hown hK hP hD hS 0 rfl rfl 1 (by decide) (hts _ tw_175) (fun _ h9 => h9) rfl (by decide +kernel) rfl rfl (Nat.le_of_ble_eq_true rfl) d_R_init_11 (fun H locs hP hD hS => ?_)
  replace hP : va_P (dC, dI) vwCl [(a_to, .inr (3, [.int (-1), .int (-1), .int r_pe, .int r_de, .int r_da, .int r_re, .int r_ga, .int r_rc, .int r_rk, .int r_me, .int r_le]))] H := hP
  replace hD : va_D A [(a_to, .inr (3, [.int (-1), .int (-1), .int r_pe, .int r_de, .int r_da, .int r_re, .int r_ga, .int r_rc, .int r_rk, .int r_me, .int r_le]))] := hD
  refine lv_aload_n hx hb d_R_init_14 rfl (lv_at hl 0 rfl) ?_
  refine lv_iconst (v := (-1)) hx hb d_R_init_15 (by decide) ?_
  refine va_put (D := (dC, dI)) (ci := 3) (v := .int (-1)) (ty := .int) (C := "LoanRules$Rule") (T := Fz_R) (N := 11) hx hb hts it_R tz_R tz_R_ok nz_R hown hK hP hD hS 0 rfl rfl 2 (by decide) (hts _ tw_178) (fun _ h9 => h9) rfl (by decide +kernel) rfl rfl (Nat.le_of_ble_eq_true rfl) d_R_init_16 (fun H locs hP hD hS => ?_)
  replace hP : va_P (dC, dI) vwCl [(a_to, .inr (3, [.int (-1), .int (-1), .int (-1), .int r_de, .int r_da, .int r_re, .int r_ga, .int r_rc, .int r_rk, .int r_me, .int r_le]))] H := hP
  replace hD : va_D A [(a_to, .inr (3, [.int (-1), .int (-1), .int (-1), .int r_de, .int r_da, .int r_re, .int r_ga, .int r_rc, .int r_rk, .int r_me, .int r_le]))] := hD
  refine lv_aload_n hx hb d_R_init_19 rfl (lv_at hl 0 rfl) ?_
  refine lv_iconst (v := 2) hx hb d_R_init_20 (by decide) ?_
  refine va_put (D := (dC, dI)) (ci := 3) (v := .int 2) (ty := .int) (C := "LoanRules$Rule") (T := Fz_R) (N := 11) hx hb hts it_R tz_R tz_R_ok nz_R hown hK hP hD hS 0 rfl rfl 3 (by decide) (hts _ tw_181) (fun _ h9 => h9) rfl (by decide +kernel) rfl rfl (Nat.le_of_ble_eq_true rfl) d_R_init_21 (fun H locs hP hD hS => ?_)
  replace hP : va_P (dC, dI) vwCl [(a_to, .inr (3, [.int (-1), .int (-1), .int (-1), .int 2, .int r_da, .int r_re, .int r_ga, .int r_rc, .int r_rk, .int r_me, .int r_le]))] H := hP
  replace hD : va_D A [(a_to, .inr (3, [.int (-1), .int (-1), .int (-1), .int 2, .int r_da, .int r_re, .int r_ga, .int r_rc, .int r_rk, .int r_me, .int r_le]))] := hD
  refine lv_aload_n hx hb d_R_init_24 rfl (lv_at hl 0 rfl) ?_
  refine lv_iconst (v := 0) hx hb d_R_init_25 (by decide) ?_
  refine va_put (D := (dC, dI)) (ci := 3) (v := .int 0) (ty := .int) (C := "LoanRules$Rule") (T := Fz_R) (N := 11) hx hb hts it_R tz_R tz_R_ok nz_R hown hK hP hD hS 0 rfl rfl 4 (by decide) (hts _ tw_184) (fun _ h9 => h9) rfl (by decide +kernel) rfl rfl (Nat.le_of_ble_eq_true rfl) d_R_init_26 (fun H locs hP hD hS => ?_)
  replace hP : va_P (dC, dI) vwCl [(a_to, .inr (3, [.int (-1), .int (-1), .int (-1), .int 2, .int 0, .int r_re, .int r_ga, .int r_rc, .int r_rk, .int r_me, .int r_le]))] H := hP
  replace hD : va_D A [(a_to, .inr (3, [.int (-1), .int (-1), .int (-1), .int 2, .int 0, .int r_re, .int r_ga, .int r_rc, .int r_rk, .int r_me, .int r_le]))] := hD
  refine lv_aload_n hx hb d_R_init_29 rfl (lv_at hl 0 rfl) ?_
  refine lv_iconst (v := 0) hx hb d_R_init_30 (by decide) ?_
  refine va_put (D := (dC, dI)) (ci := 3) (v := .int 0) (ty := .int) (C := "LoanRules$Rule") (T := Fz_R) (N := 11) hx hb hts it_R tz_R tz_R_ok nz_R hown hK hP hD hS 0 rfl rfl 5 (by decide) (hts _ tw_187) (fun _ h9 => h9) rfl (by decide +kernel) rfl rfl (Nat.le_of_ble_eq_true rfl) d_R_init_31 (fun H locs hP hD hS => ?_)
  replace hP : va_P (dC, dI) vwCl [(a_to, .inr (3, [.int (-1), .int (-1), .int (-1), .int 2, .int 0, .int 0, .int r_ga, .int r_rc, .int r_rk, .int r_me, .int r_le]))] H := hP
  replace hD : va_D A [(a_to, .inr (3, [.int (-1), .int (-1), .int (-1), .int 2, .int 0, .int 0, .int r_ga, .int r_rc, .int r_rk, .int r_me, .int r_le]))] := hD
  refine lv_aload_n hx hb d_R_init_34 rfl (lv_at hl 0 rfl) ?_
  refine lv_iconst (v := 0) hx hb d_R_init_35 (by decide) ?_
  refine va_put (D := (dC, dI)) (ci := 3) (v := .int 0) (ty := .int) (C := "LoanRules$Rule") (T := Fz_R) (N := 11) hx hb hts it_R tz_R tz_R_ok nz_R hown hK hP hD hS 0 rfl rfl 6 (by decide) (hts _ tw_190) (fun _ h9 => h9) rfl (by decide +kernel) rfl rfl (Nat.le_of_ble_eq_true rfl) d_R_init_36 (fun H locs hP hD hS => ?_)
  replace hP : va_P (dC, dI) vwCl [(a_to, .inr (3, [.int (-1), .int (-1), .int (-1), .int 2, .int 0, .int 0, .int 0, .int r_rc, .int r_rk, .int r_me, .int r_le]))] H := hP
  replace hD : va_D A [(a_to, .inr (3, [.int (-1), .int (-1), .int (-1), .int 2, .int 0, .int 0, .int 0, .int r_rc, .int r_rk, .int r_me, .int r_le]))] := hD
  refine lv_aload_n hx hb d_R_init_39 rfl (lv_at hl 0 rfl) ?_
  refine lv_bipush (v := 7) hx hb d_R_init_40 (by decide) ?_
  refine va_put (D := (dC, dI)) (ci := 3) (v := .int 7) (ty := .int) (C := "LoanRules$Rule") (T := Fz_R) (N := 11) hx hb hts it_R tz_R tz_R_ok nz_R hown hK hP hD hS 0 rfl rfl 7 (by decide) (hts _ tw_193) (fun _ h9 => h9) rfl (by decide +kernel) rfl rfl (Nat.le_of_ble_eq_true rfl) d_R_init_42 (fun H locs hP hD hS => ?_)
  replace hP : va_P (dC, dI) vwCl [(a_to, .inr (3, [.int (-1), .int (-1), .int (-1), .int 2, .int 0, .int 0, .int 0, .int 7, .int r_rk, .int r_me, .int r_le]))] H := hP
  replace hD : va_D A [(a_to, .inr (3, [.int (-1), .int (-1), .int (-1), .int 2, .int 0, .int 0, .int 0, .int 7, .int r_rk, .int r_me, .int r_le]))] := hD
  refine lv_aload_n hx hb d_R_init_45 rfl (lv_at hl 0 rfl) ?_
  refine lv_iconst (v := 0) hx hb d_R_init_46 (by decide) ?_
  refine va_put (D := (dC, dI)) (ci := 3) (v := .int 0) (ty := .int) (C := "LoanRules$Rule") (T := Fz_R) (N := 11) hx hb hts it_R tz_R tz_R_ok nz_R hown hK hP hD hS 0 rfl rfl 8 (by decide) (hts _ tw_196) (fun _ h9 => h9) rfl (by decide +kernel) rfl rfl (Nat.le_of_ble_eq_true rfl) d_R_init_47 (fun H locs hP hD hS => ?_)
  replace hP : va_P (dC, dI) vwCl [(a_to, .inr (3, [.int (-1), .int (-1), .int (-1), .int 2, .int 0, .int 0, .int 0, .int 7, .int 0, .int r_me, .int r_le]))] H := hP
  replace hD : va_D A [(a_to, .inr (3, [.int (-1), .int (-1), .int (-1), .int 2, .int 0, .int 0, .int 0, .int 7, .int 0, .int r_me, .int r_le]))] := hD
  refine lv_aload_n hx hb d_R_init_50 rfl (lv_at hl 0 rfl) ?_
  refine lv_iconst (v := 0) hx hb d_R_init_51 (by decide) ?_
  refine va_put (D := (dC, dI)) (ci := 3) (v := .int 0) (ty := .boolean) (C := "LoanRules$Rule") (T := Fz_R) (N := 11) hx hb hts it_R tz_R tz_R_ok nz_R hown hK hP hD hS 0 rfl rfl 9 (by decide) (hts _ tw_199) (fun _ h9 => h9) rfl (by decide +kernel) rfl rfl (Nat.le_of_ble_eq_true rfl) d_R_init_52 (fun H locs hP hD hS => ?_)
  replace hP : va_P (dC, dI) vwCl [(a_to, .inr (3, [.int (-1), .int (-1), .int (-1), .int 2, .int 0, .int 0, .int 0, .int 7, .int 0, .int 0, .int r_le]))] H := hP
  replace hD : va_D A [(a_to, .inr (3, [.int (-1), .int (-1), .int (-1), .int 2, .int 0, .int 0, .int 0, .int 7, .int 0, .int 0, .int r_le]))] := hD
  refine lv_aload_n hx hb d_R_init_55 rfl (lv_at hl 0 rfl) ?_
  refine lv_iconst (v := 0) hx hb d_R_init_56 (by decide) ?_
  refine va_put (D := (dC, dI)) (ci := 3) (v := .int 0) (ty := .boolean) (C := "LoanRules$Rule") (T := Fz_R) (N := 11) hx hb hts it_R tz_R tz_R_ok nz_R hown hK hP hD hS 0 rfl rfl 10 (by decide) (hts _ tw_201) (fun _ h9 => h9) rfl (by decide +kernel) rfl rfl (Nat.le_of_ble_eq_true rfl) d_R_init_57 (fun H locs hP hD hS => ?_)
  replace hP : va_P (dC, dI) vwCl [(a_to, .inr (3, [.int (-1), .int (-1), .int (-1), .int 2, .int 0, .int 0, .int 0, .int 7, .int 0, .int 0, .int 0]))] H := hP
  replace hD : va_D A [(a_to, .inr (3, [.int (-1), .int (-1), .int (-1), .int 2, .int 0, .int 0, .int 0, .int 7, .int 0, .int 0, .int 0]))] := hD
  have hP9 := hP.sub (ws' := [(a_to, .inr (3, [.int (-1), .int (-1), .int (-1), .int 2, .int 0, .int 0, .int 0, .int 7, .int 0, .int 0, .int 0]))]) [0] rfl
  have hD9 := hD.sub (ws' := [(a_to, .inr (3, [.int (-1), .int (-1), .int (-1), .int 2, .int 0, .int 0, .int 0, .int 7, .int 0, .int 0, .int 0]))]) [0] (by decide) rfl
  have hK9 := hK.sub (tys' := []) [] rfl
  exact W.vret hx hb hr (fun t ht hW => ⟨⟨(), rfl, trivial, by rw [ht]; exact hP9, va_K.moved hW.alike hK9, hD9⟩, hS.F ht⟩) hS.2.2 d_R_init_60
def g_Cg_sign (p0 : Int32) (w_ln : Int32) (f_sg : Nat → Int32) : Int32 × (Nat → Int32) :=
  bv (g_Cg_collect p0 w_ln f_sg) (fun x_2 =>
    (x_2.1, x_2.2))
set_option maxHeartbeats 4000000 in
set_option maxRecDepth 100000 in
theorem c_Cg_sign (l : Launch) (dC : Nat → ClassId) (dI : Nat → Nat → Nat) (adK adV : Nat → Nat) (a_h : Nat) (a_tx : Nat) (a_sg : Nat) (k_sg : ClassId) (p0 : Int32) (a_cru : Nat) (w_nr : Int32) (a_cd : Nat) (a_td : Nat) (a_cki : Nat) (a_cca : Nat) (a_cty : Nat) (a_cio : Nat) (a_cex : Nat) (a_clo : Nat) (w_nl : Int32) (a_cfi : Nat) (w_nf : Int32) (a_ccl : Nat) (w_nc : Int32) (w_ln : Int32) (w_pl : Int32) (w_wr : Int32) (f_sg : Nat → Int32) (sz : Nat) (hln : 0 ≤ w_ln.toInt ∧ w_ln.toInt ≤ 120) : Met l y_C_sign ws_C_sign ({ frames := 1, cells := 0, slots := 0, locals := 21 }) (va_Pc [.ref a_h, .int p0] (fun U => U.heap.size = sz ∧ zz adK adV (va_A [(a_h, .inr (0, [.ref a_tx, .ref a_cru, .int w_nr, .ref a_cd, .ref a_td, .ref a_cki, .ref a_cca, .ref a_cty, .ref a_cio, .ref a_cex, .ref a_clo, .int w_nl, .ref a_cfi, .int w_nf, .ref a_ccl, .int w_nc])), (a_tx, .inr (4, [.ref a_sg, .int w_ln, .int w_pl, .int w_wr])), (a_sg, .inl (k_sg, 120, .inl f_sg))] sz) U ∧ va_P (dC, dI) vwCl [(a_h, .inr (0, [.ref a_tx, .ref a_cru, .int w_nr, .ref a_cd, .ref a_td, .ref a_cki, .ref a_cca, .ref a_cty, .ref a_cio, .ref a_cex, .ref a_clo, .int w_nl, .ref a_cfi, .int w_nf, .ref a_ccl, .int w_nc])), (a_tx, .inr (4, [.ref a_sg, .int w_ln, .int w_pl, .int w_wr])), (a_sg, .inl (k_sg, 120, .inl f_sg))] U.heap ∧ va_K (dC, dI) vwCl [(k_sg, .char)] U ∧ va_D (fun _ => True) [(a_h, .inr (0, [.ref a_tx, .ref a_cru, .int w_nr, .ref a_cd, .ref a_td, .ref a_cki, .ref a_cca, .ref a_cty, .ref a_cio, .ref a_cex, .ref a_clo, .int w_nl, .ref a_cfi, .int w_nf, .ref a_ccl, .int w_nc])), (a_tx, .inr (4, [.ref a_sg, .int w_ln, .int w_pl, .int w_wr])), (a_sg, .inl (k_sg, 120, .inl f_sg))])) (va_Qv (fun _ : Unit => True) (fun (_ : Unit) (t : State) => va_P (dC, dI) vwCl [(a_h, .inr (0, [.ref a_tx, .ref a_cru, .int w_nr, .ref a_cd, .ref a_td, .ref a_cki, .ref a_cca, .ref a_cty, .ref a_cio, .ref a_cex, .ref a_clo, .int w_nl, .ref a_cfi, .int w_nf, .ref a_ccl, .int w_nc])), (a_tx, .inr (4, [.ref a_sg, .int ((g_Cg_sign p0 w_ln f_sg).1), .int w_pl, .int w_wr])), (a_sg, .inl (k_sg, 120, .inl ((g_Cg_sign p0 w_ln f_sg).2)))] t.heap ∧ va_K (dC, dI) vwCl [(k_sg, .char)] t ∧ va_D (va_A [(a_h, .inr (0, [.ref a_tx, .ref a_cru, .int w_nr, .ref a_cd, .ref a_td, .ref a_cki, .ref a_cca, .ref a_cty, .ref a_cio, .ref a_cex, .ref a_clo, .int w_nl, .ref a_cfi, .int w_nf, .ref a_ccl, .int w_nc])), (a_tx, .inr (4, [.ref a_sg, .int w_ln, .int w_pl, .int w_wr])), (a_sg, .inl (k_sg, 120, .inl f_sg))] sz) [(a_h, .inr (0, [.ref a_tx, .ref a_cru, .int w_nr, .ref a_cd, .ref a_td, .ref a_cki, .ref a_cca, .ref a_cty, .ref a_cio, .ref a_cex, .ref a_clo, .int w_nl, .ref a_cfi, .int w_nf, .ref a_ccl, .int w_nc])), (a_tx, .inr (4, [.ref a_sg, .int ((g_Cg_sign p0 w_ln f_sg).1), .int w_pl, .int w_wr])), (a_sg, .inl (k_sg, 120, .inl ((g_Cg_sign p0 w_ln f_sg).2)))]) (va_A [(a_h, .inr (0, [.ref a_tx, .ref a_cru, .int w_nr, .ref a_cd, .ref a_td, .ref a_cki, .ref a_cca, .ref a_cty, .ref a_cio, .ref a_cex, .ref a_clo, .int w_nl, .ref a_cfi, .int w_nf, .ref a_ccl, .int w_nc])), (a_tx, .inr (4, [.ref a_sg, .int w_ln, .int w_pl, .int w_wr])), (a_sg, .inl (k_sg, 120, .inl f_sg))] sz)) 0 0 (va_A [(a_h, .inr (0, [.ref a_tx, .ref a_cru, .int w_nr, .ref a_cd, .ref a_td, .ref a_cki, .ref a_cca, .ref a_cty, .ref a_cio, .ref a_cex, .ref a_clo, .int w_nl, .ref a_cfi, .int w_nf, .ref a_ccl, .int w_nc])), (a_tx, .inr (4, [.ref a_sg, .int w_ln, .int w_pl, .int w_wr])), (a_sg, .inl (k_sg, 120, .inl f_sg))] sz) := by
  refine Met.ofW (cc := c_C_sign) (maxL := 2) (ret := none) (by decide) rfl ?_
  intro p e s m args below meth c s₁ B hml hv
  obtain ⟨rfl, hsz, hZ, hP, hK, hD0⟩ := hv
  have hx := B.exec
  have hb := B.bytes
  have hr := B.returns
  have hts0 := atoms_spec (ws := ws_C_sign) B.pre
  have hts : ∀ w ∈ TT, w.before _ s = true := fun w h => hts0 w (List.mem_cons_of_mem _ h)
  have hown : s.vm.findClass "LoanRules" = some m.cls := findClass_of_methodNamed B.named
  have hlocks := B.notSynchronized
  subst hsz
  have hD := hD0.self (sz := s.heap.size)
  generalize hAe : va_A [(a_h, .inr (0, [.ref a_tx, .ref a_cru, .int w_nr, .ref a_cd, .ref a_td, .ref a_cki, .ref a_cca, .ref a_cty, .ref a_cio, .ref a_cex, .ref a_clo, .int w_nl, .ref a_cfi, .int w_nf, .ref a_ccl, .int w_nc])), (a_tx, .inr (4, [.ref a_sg, .int w_ln, .int w_pl, .int w_wr])), (a_sg, .inl (k_sg, 120, .inl f_sg))] s.heap.size = A at hD hZ ⊢
  have hA : ∀ q : Nat, s.heap.size ≤ q → A q := fun q h => by rw [← hAe]; exact Or.inr h
  clear hAe hD0
  have hS : va_S A s.heap s.heap [] := va_S.rf
  replace hP : va_P (dC, dI) vwCl [(a_h, .inr (0, [.ref a_tx, .ref a_cru, .int w_nr, .ref a_cd, .ref a_td, .ref a_cki, .ref a_cca, .ref a_cty, .ref a_cio, .ref a_cex, .ref a_clo, .int w_nl, .ref a_cfi, .int w_nf, .ref a_ccl, .int w_nc])), (a_tx, .inr (4, [.ref a_sg, .int w_ln, .int w_pl, .int w_wr])), (a_sg, .inl (k_sg, 120, .inl f_sg))] s.heap := hP
  have hl := lv_entry ([.ref a_h, .int p0]) (n := 2) (Nat.le_of_ble_eq_true rfl)
  rw [lg_entry_eq]
  generalize (lg_sl ([.ref a_h, .int p0]) ++ List.replicate (2 - (lg_sl ([.ref a_h, .int p0])).length) Slot.unset).toArray = ls at hl ⊢
  replace hl : lv_has ls 2 [(0, .ref a_h), (1, .int p0)] := hl
  obtain ⟨z, hz⟩ : ∃ z, z = g_Cg_sign p0 w_ln f_sg := ⟨_, rfl⟩
  have hE := hz
  rw [g_Cg_sign] at hE
  refine lv_aload_n hx hb d_C_sign_0 rfl (lv_at hl 0 rfl) ?_
  refine va_get (D := (dC, dI)) (ci := 0) (v := .ref a_tx) (C := "LoanRules") (T := Fz_C) (N := 16) hx hb hts it_C hown hK hP 0 rfl rfl 0 (by decide) (hts _ tw_104) (fun _ h9 => h9) rfl d_C_sign_1 ?_
  refine lv_iload_n hx hb d_C_sign_4 rfl (lv_at hl 1 rfl) ?_
  have hPc := hP.sub (ws' := [(a_tx, .inr (4, [.ref a_sg, .int w_ln, .int w_pl, .int w_wr])), (a_sg, .inl (k_sg, 120, .inl f_sg))]) [1, 2] rfl
  have hKc := hK.sub (tys' := [(k_sg, .char)]) [0] rfl
  have hDc := hD.sub (ws' := [(a_tx, .inr (4, [.ref a_sg, .int w_ln, .int w_pl, .int w_wr])), (a_sg, .inl (k_sg, 120, .inl f_sg))]) [1, 2] (by decide) rfl
  have hFc := va_free (wc := [(a_tx, .inr (4, [.ref a_sg, .int w_ln, .int w_pl, .int w_wr])), (a_sg, .inl (k_sg, 120, .inl f_sg))]) hD hS hA [1, 2] rfl
  refine va_callv (va_runV (As := [.int p0]) (rest := []) ⟨hx, hb, hml, hown, hts⟩ (c_Cg_collect l dC dI adK adV (a_tx := a_tx) (p0 := p0) (a_sg := a_sg) (w_ln := w_ln) (w_pl := w_pl) (w_wr := w_wr) (k_sg := k_sg) (f_sg := f_sg) (sz := s.heap.size) hln) (cwV 1 hts (gV tw_159 tw_160 tw_161 tw_43 tw_162) rfl rfl rfl (by decide +kernel) ⟨(Nat.le_of_ble_eq_true rfl), (Nat.le_of_ble_eq_true rfl)⟩) ⟨fun a U g mk q => by obtain ⟨q0, q1, qZ, qP, qK, qD⟩ := q; exact ⟨q0, q1, zz_call qZ, qP, va_K.moved (u := U) (U := U.calling g mk a) (Vm.Alike.refl U.vm) qK, qD⟩, va_recv hKc hPc (ci := 4) (q0 := 0) rfl rfl, fun U hU hW => ⟨rfl, by rw [hU], zz_rw hS hFc hU hW hZ, by rw [hU]; exact hPc, va_K.moved hW.alike hKc, hDc.weaken (fun _ _ _ _ => trivial)⟩⟩ rfl rfl hl.1 rfl (lv_room (Nat.le_of_ble_eq_true rfl)) d_C_sign_5 ⟨(Nat.le_of_ble_eq_true rfl), (Nat.le_of_ble_eq_true rfl)⟩) hS (fun q _ h => hFc q h) hFc (fun u t H1 locs ht hvm hw_1 hB hz1 hk1 hS => ?_)
  generalize hg_x_2 : g_Cg_collect p0 w_ln f_sg = x_2 at hw_1 hB hE
  rw [bv_eq] at hE
  obtain ⟨hP1, hK1, hD1⟩ := hB
  rw [ht] at hP1
  have hK1 := va_K.moved hvm.symm hK1
  obtain ⟨hP, hD⟩ := va_join (wr := [(a_h, .inr (0, [.ref a_tx, .ref a_cru, .int w_nr, .ref a_cd, .ref a_td, .ref a_cki, .ref a_cca, .ref a_cty, .ref a_cio, .ref a_cex, .ref a_clo, .int w_nl, .ref a_cfi, .int w_nf, .ref a_ccl, .int w_nc]))]) (w1 := [(a_tx, .inr (4, [.ref a_sg, .int x_2.1, .int w_pl, .int w_wr])), (a_sg, .inl (k_sg, 120, .inl x_2.2))]) hP hD [1, 2] [0] rfl rfl (by decide) (by decide) hk1 hFc hP1 hD1
  replace hK := (hK.sub (tys' := []) [] rfl).app hK1
  generalize H1 = H at hP hS ⊢
  replace hP := hP.sub (ws' := [(a_h, .inr (0, [.ref a_tx, .ref a_cru, .int w_nr, .ref a_cd, .ref a_td, .ref a_cki, .ref a_cca, .ref a_cty, .ref a_cio, .ref a_cex, .ref a_clo, .int w_nl, .ref a_cfi, .int w_nf, .ref a_ccl, .int w_nc])), (a_tx, .inr (4, [.ref a_sg, .int x_2.1, .int w_pl, .int w_wr])), (a_sg, .inl (k_sg, 120, .inl x_2.2))]) [0, 1, 2] rfl
  replace hD := hD.sub (ws' := [(a_h, .inr (0, [.ref a_tx, .ref a_cru, .int w_nr, .ref a_cd, .ref a_td, .ref a_cki, .ref a_cca, .ref a_cty, .ref a_cio, .ref a_cex, .ref a_clo, .int w_nl, .ref a_cfi, .int w_nf, .ref a_ccl, .int w_nc])), (a_tx, .inr (4, [.ref a_sg, .int x_2.1, .int w_pl, .int w_wr])), (a_sg, .inl (k_sg, 120, .inl x_2.2))]) [0, 1, 2] (by decide) rfl
  replace hK := hK.sub (tys' := [(k_sg, .char)]) [0] rfl
  have hP9 := hP.sub (ws' := [(a_h, .inr (0, [.ref a_tx, .ref a_cru, .int w_nr, .ref a_cd, .ref a_td, .ref a_cki, .ref a_cca, .ref a_cty, .ref a_cio, .ref a_cex, .ref a_clo, .int w_nl, .ref a_cfi, .int w_nf, .ref a_ccl, .int w_nc])), (a_tx, .inr (4, [.ref a_sg, .int x_2.1, .int w_pl, .int w_wr])), (a_sg, .inl (k_sg, 120, .inl x_2.2))]) [0, 1, 2] rfl
  have hD9 := hD.sub (ws' := [(a_h, .inr (0, [.ref a_tx, .ref a_cru, .int w_nr, .ref a_cd, .ref a_td, .ref a_cki, .ref a_cca, .ref a_cty, .ref a_cio, .ref a_cex, .ref a_clo, .int w_nl, .ref a_cfi, .int w_nf, .ref a_ccl, .int w_nc])), (a_tx, .inr (4, [.ref a_sg, .int x_2.1, .int w_pl, .int w_wr])), (a_sg, .inl (k_sg, 120, .inl x_2.2))]) [0, 1, 2] (by decide) rfl
  have hK9 := hK.sub (tys' := [(k_sg, .char)]) [0] rfl
  exact W.vret hx hb hr (fun t ht hW => ⟨⟨(), rfl, trivial, by rw [ht, ← hz, hE]; exact hP9, va_K.moved hW.alike hK9, by rw [← hz, hE]; exact hD9⟩, hS.F ht⟩) hS.2.2 d_C_sign_8
