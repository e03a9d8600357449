theorem rdd_at {w_ln w_pl w_wr r_de r_da : Int32} {f_sg : Nat → Int32} (hln : i120 w_ln) (hpl : i120 w_pl) : i120 (g_Cg_readDeed w_ln w_pl w_wr f_sg r_de r_da).1 := by
  unfold g_Cg_readDeed
  repeat' (first | with_reducible refine pt_i (fun t : Int32 × Int32 × Int32 × Int32 => i120 t.1) (fun _ => ?_) (fun _ => ?_) | with_reducible refine pt_v (fun t : Int32 × Int32 × Int32 × Int32 => i120 t.1) ?_)
  all_goals first | with_reducible exact rln_at hln (twd_at (by decide) hln hpl) | with_reducible exact twd_at (by decide) hln (twd_at (by decide) hln hpl) | with_reducible exact twd_at (by decide) hln (twd_at (by decide) hln (twd_at (by decide) hln hpl))
def g_Cg_readRest (w_ln : Int32) (w_pl : Int32) (w_wr : Int32) (f_sg : Nat → Int32) (r_de : Int32) (r_re : Int32) (r_ga : Int32) (r_rc : Int32) (r_rk : Int32) : Int32 × Int32 × Int32 × Int32 × Int32 × Int32 :=
  if (g_Cg_lends r_de) = 0 then
    bv (g_Cg_readOption r_rk 4 w_ln w_pl w_wr f_sg) (fun x_6 =>
      if (g_Cg_signAt x_6.2.1 w_ln f_sg) = (-1) then
        (x_6.2.1, x_6.2.2, r_re, r_ga, r_rc, x_6.1)
      else
        bv (g_Cg_takeSpace w_ln x_6.2.1 x_6.2.2 f_sg) (fun x_11 =>
          bv (g_Cg_markWrong x_11.1 x_11.2) (fun x_13 =>
            (x_11.1, x_13, r_re, r_ga, r_rc, x_6.1))))
  else
    bv (g_Cg_readOption r_re 5 w_ln w_pl w_wr f_sg) (fun x_16 =>
      bv (g_Cg_readOption r_ga 6 w_ln x_16.2.1 x_16.2.2 f_sg) (fun x_19 =>
        bv (g_Cg_readOption r_rc 7 w_ln x_19.2.1 x_19.2.2 f_sg) (fun x_22 =>
          bv (g_Cg_readOption r_rk 4 w_ln x_22.2.1 x_22.2.2 f_sg) (fun x_25 =>
            if (g_Cg_signAt x_25.2.1 w_ln f_sg) = (-1) then
              (x_25.2.1, x_25.2.2, x_16.1, x_19.1, x_22.1, x_25.1)
            else
              bv (g_Cg_takeSpace w_ln x_25.2.1 x_25.2.2 f_sg) (fun x_30 =>
                bv (g_Cg_markWrong x_30.1 x_30.2) (fun x_32 =>
                  (x_30.1, x_32, x_16.1, x_19.1, x_22.1, x_25.1)))))))
set_option maxHeartbeats 4000000 in
set_option maxRecDepth 100000 in
theorem c_Cg_readRest (l : Launch) (dC : Nat → ClassId) (dI : Nat → Nat → Nat) (adK adV : Nat → Nat) (a_tx : Nat) (a_sg : Nat) (a_to : Nat) (k_sg : ClassId) (w_ln : Int32) (w_pl : Int32) (w_wr : Int32) (f_sg : Nat → Int32) (r_ki : Int32) (r_ty : Int32) (r_pe : Int32) (r_de : Int32) (r_da : Int32) (r_re : Int32) (r_ga : Int32) (r_rc : Int32) (r_rk : Int32) (r_me : Int32) (r_le : Int32) (sz : Nat) (hln : 0 ≤ w_ln.toInt ∧ w_ln.toInt ≤ 120) (hpl : 0 ≤ w_pl.toInt ∧ w_pl.toInt ≤ 120) : Met l y_T_readRest ws_T_readRest ({ frames := 7, cells := 0, slots := 0, locals := 150 }) (va_Pc [.ref a_tx, .ref a_to] (fun U => U.heap.size = sz ∧ zz adK adV (va_A [(a_tx, .inr (4, [.ref a_sg, .int w_ln, .int w_pl, .int w_wr])), (a_sg, .inl (k_sg, 120, .inl f_sg)), (a_to, .inr (3, [.int r_ki, .int r_ty, .int r_pe, .int r_de, .int r_da, .int r_re, .int r_ga, .int r_rc, .int r_rk, .int r_me, .int r_le]))] sz) U ∧ va_P (dC, dI) vwCl [(a_tx, .inr (4, [.ref a_sg, .int w_ln, .int w_pl, .int w_wr])), (a_sg, .inl (k_sg, 120, .inl f_sg)), (a_to, .inr (3, [.int r_ki, .int r_ty, .int r_pe, .int r_de, .int r_da, .int r_re, .int r_ga, .int r_rc, .int r_rk, .int r_me, .int r_le]))] U.heap ∧ va_K (dC, dI) vwCl [(k_sg, .char)] U ∧ va_D (fun _ => True) [(a_tx, .inr (4, [.ref a_sg, .int w_ln, .int w_pl, .int w_wr])), (a_sg, .inl (k_sg, 120, .inl f_sg)), (a_to, .inr (3, [.int r_ki, .int r_ty, .int r_pe, .int r_de, .int r_da, .int r_re, .int r_ga, .int r_rc, .int r_rk, .int r_me, .int r_le]))])) (va_Qv (fun _ : Unit => True) (fun (_ : Unit) (t : State) => va_P (dC, dI) vwCl [(a_tx, .inr (4, [.ref a_sg, .int w_ln, .int ((g_Cg_readRest w_ln w_pl w_wr f_sg r_de r_re r_ga r_rc r_rk).1), .int ((g_Cg_readRest w_ln w_pl w_wr f_sg r_de r_re r_ga r_rc r_rk).2.1)])), (a_sg, .inl (k_sg, 120, .inl f_sg)), (a_to, .inr (3, [.int r_ki, .int r_ty, .int r_pe, .int r_de, .int r_da, .int ((g_Cg_readRest w_ln w_pl w_wr f_sg r_de r_re r_ga r_rc r_rk).2.2.1), .int ((g_Cg_readRest w_ln w_pl w_wr f_sg r_de r_re r_ga r_rc r_rk).2.2.2.1), .int ((g_Cg_readRest w_ln w_pl w_wr f_sg r_de r_re r_ga r_rc r_rk).2.2.2.2.1), .int ((g_Cg_readRest w_ln w_pl w_wr f_sg r_de r_re r_ga r_rc r_rk).2.2.2.2.2), .int r_me, .int r_le]))] t.heap ∧ va_K (dC, dI) vwCl [(k_sg, .char)] t ∧ va_D (va_A [(a_tx, .inr (4, [.ref a_sg, .int w_ln, .int w_pl, .int w_wr])), (a_sg, .inl (k_sg, 120, .inl f_sg)), (a_to, .inr (3, [.int r_ki, .int r_ty, .int r_pe, .int r_de, .int r_da, .int r_re, .int r_ga, .int r_rc, .int r_rk, .int r_me, .int r_le]))] sz) [(a_tx, .inr (4, [.ref a_sg, .int w_ln, .int ((g_Cg_readRest w_ln w_pl w_wr f_sg r_de r_re r_ga r_rc r_rk).1), .int ((g_Cg_readRest w_ln w_pl w_wr f_sg r_de r_re r_ga r_rc r_rk).2.1)])), (a_sg, .inl (k_sg, 120, .inl f_sg)), (a_to, .inr (3, [.int r_ki, .int r_ty, .int r_pe, .int r_de, .int r_da, .int ((g_Cg_readRest w_ln w_pl w_wr f_sg r_de r_re r_ga r_rc r_rk).2.2.1), .int ((g_Cg_readRest w_ln w_pl w_wr f_sg r_de r_re r_ga r_rc r_rk).2.2.2.1), .int ((g_Cg_readRest w_ln w_pl w_wr f_sg r_de r_re r_ga r_rc r_rk).2.2.2.2.1), .int ((g_Cg_readRest w_ln w_pl w_wr f_sg r_de r_re r_ga r_rc r_rk).2.2.2.2.2), .int r_me, .int r_le]))]) (va_A [(a_tx, .inr (4, [.ref a_sg, .int w_ln, .int w_pl, .int w_wr])), (a_sg, .inl (k_sg, 120, .inl f_sg)), (a_to, .inr (3, [.int r_ki, .int r_ty, .int r_pe, .int r_de, .int r_da, .int r_re, .int r_ga, .int r_rc, .int r_rk, .int r_me, .int r_le]))] sz)) 0 0 (va_A [(a_tx, .inr (4, [.ref a_sg, .int w_ln, .int w_pl, .int w_wr])), (a_sg, .inl (k_sg, 120, .inl f_sg)), (a_to, .inr (3, [.int r_ki, .int r_ty, .int r_pe, .int r_de, .int r_da, .int r_re, .int r_ga, .int r_rc, .int r_rk, .int r_me, .int r_le]))] sz) := by
  refine Met.ofW (cc := c_T_readRest) (maxL := 2) (ret := none) (by decide) rfl ?_
  intro p e s m args below meth c s₁ B hml hv
  obtain ⟨rfl, hsz, hZ, hP, hK, hD0⟩ := hv
  have hx := B.exec
  have hb := B.bytes
  have hr := B.returns
  have hts0 := atoms_spec (ws := ws_T_readRest) B.pre
  have hts : ∀ w ∈ TT, w.before _ s = true := fun w h => hts0 w (List.mem_cons_of_mem _ h)
  have hown : s.vm.findClass "LoanRules$RuleText" = some m.cls := findClass_of_methodNamed B.named
  have hlocks := B.notSynchronized
  subst hsz
  have hD := hD0.self (sz := s.heap.size)
  generalize hAe : va_A [(a_tx, .inr (4, [.ref a_sg, .int w_ln, .int w_pl, .int w_wr])), (a_sg, .inl (k_sg, 120, .inl f_sg)), (a_to, .inr (3, [.int r_ki, .int r_ty, .int r_pe, .int r_de, .int r_da, .int r_re, .int r_ga, .int r_rc, .int r_rk, .int r_me, .int r_le]))] s.heap.size = A at hD hZ ⊢
  have hA : ∀ q : Nat, s.heap.size ≤ q → A q := fun q h => by rw [← hAe]; exact Or.inr h
  clear hAe hD0
  have hS : va_S A s.heap s.heap [] := va_S.rf
  replace hP : va_P (dC, dI) vwCl [(a_tx, .inr (4, [.ref a_sg, .int w_ln, .int w_pl, .int w_wr])), (a_sg, .inl (k_sg, 120, .inl f_sg)), (a_to, .inr (3, [.int r_ki, .int r_ty, .int r_pe, .int r_de, .int r_da, .int r_re, .int r_ga, .int r_rc, .int r_rk, .int r_me, .int r_le]))] s.heap := hP
  have hl := lv_entry ([.ref a_tx, .ref a_to]) (n := 2) (Nat.le_of_ble_eq_true rfl)
  rw [lg_entry_eq]
  generalize (lg_sl ([.ref a_tx, .ref a_to]) ++ List.replicate (2 - (lg_sl ([.ref a_tx, .ref a_to])).length) Slot.unset).toArray = ls at hl ⊢
  replace hl : lv_has ls 2 [(0, .ref a_tx), (1, .ref a_to)] := hl
  obtain ⟨z, hz⟩ : ∃ z, z = g_Cg_readRest w_ln w_pl w_wr f_sg r_de r_re r_ga r_rc r_rk := ⟨_, rfl⟩
  have hE := hz
  rw [g_Cg_readRest] at hE
  refine lv_aload_n hx hb d_T_readRest_0 rfl (lv_at hl 1 rfl) ?_
  have hPc := hP.sub (ws' := [(a_to, .inr (3, [.int r_ki, .int r_ty, .int r_pe, .int r_de, .int r_da, .int r_re, .int r_ga, .int r_rc, .int r_rk, .int r_me, .int r_le]))]) [2] rfl
  have hKc := hK.sub (tys' := []) [] rfl
  refine vp_callSi (va_Run.run (va_runV (As := []) (rest := []) ⟨hx, hb, hml, hown, hts⟩ (c_Cg_lends l dC dI adK adV (a_to := a_to) (r_ki := r_ki) (r_ty := r_ty) (r_pe := r_pe) (r_de := r_de) (r_da := r_da) (r_re := r_re) (r_ga := r_ga) (r_rc := r_rc) (r_rk := r_rk) (r_me := r_me) (r_le := r_le)) (cwV 0 hts (gV tw_331 tw_332 tw_333 tw_47 tw_334) rfl rfl rfl (by decide +kernel) ⟨(Nat.le_of_ble_eq_true rfl), (Nat.le_of_ble_eq_true rfl)⟩) ⟨fun a U g mk q => by obtain ⟨q0, qZ, qP, qK⟩ := q; exact ⟨q0, zz_call qZ, qP, va_K.moved (u := U) (U := U.calling g mk a) (Vm.Alike.refl U.vm) qK⟩, va_recv hKc hPc (ci := 3) (q0 := 0) rfl rfl, fun U hU hW => ⟨rfl, zz_ro hS hU hW hZ, by rw [hU]; exact hPc, va_K.moved hW.alike hKc⟩⟩ rfl rfl hl.1 rfl (lv_room (Nat.le_of_ble_eq_true rfl)) d_T_readRest_1 ⟨(Nat.le_of_ble_eq_true rfl), (Nat.le_of_ble_eq_true rfl)⟩)) (fun r_1 hw_2 => ?_)
  clear hPc hKc
  subst hw_2
  refine lv_if_eq (tgt := 49) hx hb d_T_readRest_4 (by decide) (fun c_3 => ?_) (fun c_3 => ?_)
  · rw [if_pos c_3] at hE
    refine lv_aload_n hx hb d_T_readRest_49 rfl (lv_at hl 1 rfl) ?_
    refine lv_aload_n hx hb d_T_readRest_50 rfl (lv_at hl 0 rfl) ?_
    refine va_ldcS hx hb hown (zs_T_107 hZ) d_T_readRest_51 ?_
    refine lv_aload_n hx hb d_T_readRest_53 rfl (lv_at hl 1 rfl) ?_
    refine va_get (D := (dC, dI)) (ci := 3) (v := .int r_rk) (C := "LoanRules$Rule") (T := Fz_R) (N := 11) hx hb hts it_R hown hK hP 2 rfl rfl 8 (by decide) (hts _ tw_197) (fun _ h9 => h9) rfl d_T_readRest_54 ?_
    have hPc := hP.sub (ws' := [(a_tx, .inr (4, [.ref a_sg, .int w_ln, .int w_pl, .int w_wr])), (a_sg, .inl (k_sg, 120, .inl f_sg))]) [0, 1] rfl
    have hKc := hK.sub (tys' := [(k_sg, .char)]) [0] rfl
    have hDc := hD.sub (ws' := [(a_tx, .inr (4, [.ref a_sg, .int w_ln, .int w_pl, .int w_wr])), (a_sg, .inl (k_sg, 120, .inl f_sg))]) [0, 1] (by decide) rfl
    have hFc := va_free (wc := [(a_tx, .inr (4, [.ref a_sg, .int w_ln, .int w_pl, .int w_wr])), (a_sg, .inl (k_sg, 120, .inl f_sg))]) hD hS hA [0, 1] rfl
    refine va_calli (va_runV (As := [.ref (adK 4), .int r_rk]) (rest := [.ref a_to]) ⟨hx, hb, hml, hown, hts⟩ (c_Cg_readOption l dC dI adK adV (a_tx := a_tx) (iw := 4) (p0 := r_rk) (a_sg := a_sg) (w_ln := w_ln) (w_pl := w_pl) (w_wr := w_wr) (k_sg := k_sg) (f_sg := f_sg) (sz := s.heap.size) (by decide) hln hpl) (cwV 2 hts (gV tw_336 tw_338 tw_10 tw_43 tw_339) rfl rfl rfl (by decide +kernel) ⟨(Nat.le_of_ble_eq_true rfl), (Nat.le_of_ble_eq_true rfl)⟩) ⟨fun a U g mk q => by obtain ⟨q0, q1, qZ, qP, qK, qD⟩ := q; exact ⟨q0, q1, zz_call qZ, qP, va_K.moved (u := U) (U := U.calling g mk a) (Vm.Alike.refl U.vm) qK, qD⟩, va_recv hKc hPc (ci := 4) (q0 := 0) rfl rfl, fun U hU hW => ⟨rfl, by rw [hU], zz_rw hS hFc hU hW hZ, by rw [hU]; exact hPc, va_K.moved hW.alike hKc, hDc.weaken (fun _ _ _ _ => trivial)⟩⟩ rfl rfl hl.1 rfl (lv_room (Nat.le_of_ble_eq_true rfl)) d_T_readRest_57 ⟨(Nat.le_of_ble_eq_true rfl), (Nat.le_of_ble_eq_true rfl)⟩) hS (fun q _ h => hFc q h) hFc (fun r_4 u t H1 locs ht hvm hw_5 hB hz1 hk1 hS => ?_)
    generalize hg_x_6 : g_Cg_readOption r_rk 4 w_ln w_pl w_wr f_sg = x_6 at hw_5 hB hE
    rw [bv_eq] at hE
    obtain ⟨hP1, hK1, hD1⟩ := hB
    rw [ht] at hP1
    have hK1 := va_K.moved hvm.symm hK1
    obtain rfl : r_4 = x_6.1 := hw_5
    obtain ⟨hP, hD⟩ := va_join (wr := [(a_to, .inr (3, [.int r_ki, .int r_ty, .int r_pe, .int r_de, .int r_da, .int r_re, .int r_ga, .int r_rc, .int r_rk, .int r_me, .int r_le]))]) (w1 := [(a_tx, .inr (4, [.ref a_sg, .int w_ln, .int x_6.2.1, .int x_6.2.2])), (a_sg, .inl (k_sg, 120, .inl f_sg))]) hP hD [0, 1] [2] rfl rfl (by decide) (by decide) hk1 hFc hP1 hD1
    replace hK := (hK.sub (tys' := []) [] rfl).app hK1
    generalize H1 = H at hP hS ⊢
    replace hP := hP.sub (ws' := [(a_tx, .inr (4, [.ref a_sg, .int w_ln, .int x_6.2.1, .int x_6.2.2])), (a_sg, .inl (k_sg, 120, .inl f_sg)), (a_to, .inr (3, [.int r_ki, .int r_ty, .int r_pe, .int r_de, .int r_da, .int r_re, .int r_ga, .int r_rc, .int r_rk, .int r_me, .int r_le]))]) [1, 2, 0] rfl
    replace hD := hD.sub (ws' := [(a_tx, .inr (4, [.ref a_sg, .int w_ln, .int x_6.2.1, .int x_6.2.2])), (a_sg, .inl (k_sg, 120, .inl f_sg)), (a_to, .inr (3, [.int r_ki, .int r_ty, .int r_pe, .int r_de, .int r_da, .int r_re, .int r_ga, .int r_rc, .int r_rk, .int r_me, .int r_le]))]) [1, 2, 0] (by decide) rfl
    replace hK := hK.sub (tys' := [(k_sg, .char)]) [0] rfl
    refine va_put (D := (dC, dI)) (ci := 3) (v := .int x_6.1) (ty := .int) (C := "LoanRules$Rule") (T := Fz_R) (N := 11) hx hb hts it_R tz_R tz_R_ok nz_R hown hK hP hD hS 2 rfl rfl 8 (by decide) (hts _ tw_197) (fun _ h9 => h9) rfl (by decide +kernel) rfl rfl (Nat.le_of_ble_eq_true rfl) d_T_readRest_60 (fun H locs hP hD hS => ?_)
    replace hP : va_P (dC, dI) vwCl [(a_tx, .inr (4, [.ref a_sg, .int w_ln, .int x_6.2.1, .int x_6.2.2])), (a_sg, .inl (k_sg, 120, .inl f_sg)), (a_to, .inr (3, [.int r_ki, .int r_ty, .int r_pe, .int r_de, .int r_da, .int r_re, .int r_ga, .int r_rc, .int x_6.1, .int r_me, .int r_le]))] H := hP
    replace hD : va_D A [(a_tx, .inr (4, [.ref a_sg, .int w_ln, .int x_6.2.1, .int x_6.2.2])), (a_sg, .inl (k_sg, 120, .inl f_sg)), (a_to, .inr (3, [.int r_ki, .int r_ty, .int r_pe, .int r_de, .int r_da, .int r_re, .int r_ga, .int r_rc, .int x_6.1, .int r_me, .int r_le]))] := hD
    refine lv_aload_n hx hb d_T_readRest_63 rfl (lv_at hl 0 rfl) ?_
    refine lv_aload_n hx hb d_T_readRest_64 rfl (lv_at hl 0 rfl) ?_
    refine va_get (D := (dC, dI)) (ci := 4) (v := .int x_6.2.1) (C := "LoanRules$RuleText") (T := Fz_T) (N := 4) hx hb hts it_T hown hK hP 0 rfl rfl 2 (by decide) (hts _ tw_74) (fun _ h9 => h9) rfl d_T_readRest_65 ?_
    have hPc := hP.sub (ws' := [(a_tx, .inr (4, [.ref a_sg, .int w_ln, .int x_6.2.1, .int x_6.2.2])), (a_sg, .inl (k_sg, 120, .inl f_sg))]) [0, 1] rfl
    have hKc := hK.sub (tys' := [(k_sg, .char)]) [0] rfl
    refine vp_callSi (va_Run.run (va_runV (As := [.int x_6.2.1]) (rest := []) ⟨hx, hb, hml, hown, hts⟩ (c_Cg_signAt l dC dI adK adV (a_tx := a_tx) (p0 := x_6.2.1) (a_sg := a_sg) (w_ln := w_ln) (w_pl := x_6.2.1) (w_wr := x_6.2.2) (k_sg := k_sg) (f_sg := f_sg)) (cwV 1 hts (gV tw_249 tw_251 tw_2 tw_43 tw_252) rfl rfl rfl (by decide +kernel) ⟨(Nat.le_of_ble_eq_true rfl), (Nat.le_of_ble_eq_true rfl)⟩) ⟨fun a U g mk q => by obtain ⟨q0, qZ, qP, qK⟩ := q; exact ⟨q0, zz_call qZ, qP, va_K.moved (u := U) (U := U.calling g mk a) (Vm.Alike.refl U.vm) qK⟩, va_recv hKc hPc (ci := 4) (q0 := 0) rfl rfl, fun U hU hW => ⟨rfl, zz_ro hS hU hW hZ, by rw [hU]; exact hPc, va_K.moved hW.alike hKc⟩⟩ rfl rfl hl.1 rfl (lv_room (Nat.le_of_ble_eq_true rfl)) d_T_readRest_68 ⟨(Nat.le_of_ble_eq_true rfl), (Nat.le_of_ble_eq_true rfl)⟩)) (fun r_7 hw_8 => ?_)
    clear hPc hKc
    subst hw_8
    refine lv_iconst (v := (-1)) hx hb d_T_readRest_71 (by decide) ?_
    refine lv_icmp_eq (tgt := 87) hx hb d_T_readRest_72 (by decide) (fun c_9 => ?_) (fun c_9 => ?_)
    · rw [if_pos c_9] at hE
      have hP9 := hP.sub (ws' := [(a_tx, .inr (4, [.ref a_sg, .int w_ln, .int x_6.2.1, .int x_6.2.2])), (a_sg, .inl (k_sg, 120, .inl f_sg)), (a_to, .inr (3, [.int r_ki, .int r_ty, .int r_pe, .int r_de, .int r_da, .int r_re, .int r_ga, .int r_rc, .int x_6.1, .int r_me, .int r_le]))]) [0, 1, 2] rfl
      have hD9 := hD.sub (ws' := [(a_tx, .inr (4, [.ref a_sg, .int w_ln, .int x_6.2.1, .int x_6.2.2])), (a_sg, .inl (k_sg, 120, .inl f_sg)), (a_to, .inr (3, [.int r_ki, .int r_ty, .int r_pe, .int r_de, .int r_da, .int r_re, .int r_ga, .int r_rc, .int x_6.1, .int r_me, .int r_le]))]) [0, 1, 2] (by decide) rfl
      have hK9 := hK.sub (tys' := [(k_sg, .char)]) [0] rfl
      exact W.vret hx hb hr (fun t ht hW => ⟨⟨(), rfl, trivial, by rw [ht, ← hz, hE]; exact hP9, va_K.moved hW.alike hK9, by rw [← hz, hE]; exact hD9⟩, hS.F ht⟩) hS.2.2 d_T_readRest_87
    · rw [if_neg c_9] at hE
      refine lv_aload_n hx hb d_T_readRest_75 rfl (lv_at hl 0 rfl) ?_
      have hPc := hP.sub (ws' := [(a_tx, .inr (4, [.ref a_sg, .int w_ln, .int x_6.2.1, .int x_6.2.2])), (a_sg, .inl (k_sg, 120, .inl f_sg))]) [0, 1] rfl
      have hKc := hK.sub (tys' := [(k_sg, .char)]) [0] rfl
      have hDc := hD.sub (ws' := [(a_tx, .inr (4, [.ref a_sg, .int w_ln, .int x_6.2.1, .int x_6.2.2])), (a_sg, .inl (k_sg, 120, .inl f_sg))]) [0, 1] (by decide) rfl
      have hFc := va_free (wc := [(a_tx, .inr (4, [.ref a_sg, .int w_ln, .int x_6.2.1, .int x_6.2.2])), (a_sg, .inl (k_sg, 120, .inl f_sg))]) hD hS hA [0, 1] rfl
      refine va_callv (va_runV (As := []) (rest := []) ⟨hx, hb, hml, hown, hts⟩ (c_Cg_takeSpace l dC dI adK adV (a_tx := a_tx) (a_sg := a_sg) (w_ln := w_ln) (w_pl := x_6.2.1) (w_wr := x_6.2.2) (k_sg := k_sg) (f_sg := f_sg) (sz := H.size)) (cwV 0 hts (gV tw_298 tw_300 tw_4 tw_43 tw_301) rfl rfl rfl (by decide +kernel) ⟨(Nat.le_of_ble_eq_true rfl), (Nat.le_of_ble_eq_true rfl)⟩) ⟨fun a U g mk q => by obtain ⟨q0, q1, qZ, qP, qK, qD⟩ := q; exact ⟨q0, q1, zz_call qZ, qP, va_K.moved (u := U) (U := U.calling g mk a) (Vm.Alike.refl U.vm) qK, qD⟩, va_recv hKc hPc (ci := 4) (q0 := 0) rfl rfl, fun U hU hW => ⟨rfl, by rw [hU], zz_rw hS hFc hU hW hZ, by rw [hU]; exact hPc, va_K.moved hW.alike hKc, hDc.weaken (fun _ _ _ _ => trivial)⟩⟩ rfl rfl hl.1 rfl (lv_room (Nat.le_of_ble_eq_true rfl)) d_T_readRest_76 ⟨(Nat.le_of_ble_eq_true rfl), (Nat.le_of_ble_eq_true rfl)⟩) hS (fun q _ h => hFc q h) hFc (fun u t H1 locs ht hvm hw_10 hB hz1 hk1 hS => ?_)
      generalize hg_x_11 : g_Cg_takeSpace w_ln x_6.2.1 x_6.2.2 f_sg = x_11 at hw_10 hB hE
      rw [bv_eq] at hE
      obtain ⟨hP1, hK1, hD1⟩ := hB
      rw [ht] at hP1
      have hK1 := va_K.moved hvm.symm hK1
      obtain ⟨hP, hD⟩ := va_join (wr := [(a_to, .inr (3, [.int r_ki, .int r_ty, .int r_pe, .int r_de, .int r_da, .int r_re, .int r_ga, .int r_rc, .int x_6.1, .int r_me, .int r_le]))]) (w1 := [(a_tx, .inr (4, [.ref a_sg, .int w_ln, .int x_11.1, .int x_11.2])), (a_sg, .inl (k_sg, 120, .inl f_sg))]) hP hD [0, 1] [2] rfl rfl (by decide) (by decide) hk1 hFc hP1 hD1
      replace hK := (hK.sub (tys' := []) [] rfl).app hK1
      generalize H1 = H at hP hS ⊢
      replace hP := hP.sub (ws' := [(a_tx, .inr (4, [.ref a_sg, .int w_ln, .int x_11.1, .int x_11.2])), (a_sg, .inl (k_sg, 120, .inl f_sg)), (a_to, .inr (3, [.int r_ki, .int r_ty, .int r_pe, .int r_de, .int r_da, .int r_re, .int r_ga, .int r_rc, .int x_6.1, .int r_me, .int r_le]))]) [1, 2, 0] rfl
      replace hD := hD.sub (ws' := [(a_tx, .inr (4, [.ref a_sg, .int w_ln, .int x_11.1, .int x_11.2])), (a_sg, .inl (k_sg, 120, .inl f_sg)), (a_to, .inr (3, [.int r_ki, .int r_ty, .int r_pe, .int r_de, .int r_da, .int r_re, .int r_ga, .int r_rc, .int x_6.1, .int r_me, .int r_le]))]) [1, 2, 0] (by decide) rfl
      replace hK := hK.sub (tys' := [(k_sg, .char)]) [0] rfl
      refine lv_aload_n hx hb d_T_readRest_79 rfl (lv_at hl 0 rfl) ?_
      refine lv_aload_n hx hb d_T_readRest_80 rfl (lv_at hl 0 rfl) ?_
      refine va_get (D := (dC, dI)) (ci := 4) (v := .int x_11.1) (C := "LoanRules$RuleText") (T := Fz_T) (N := 4) hx hb hts it_T hown hK hP 0 rfl rfl 2 (by decide) (hts _ tw_74) (fun _ h9 => h9) rfl d_T_readRest_81 ?_
      have hPc := hP.sub (ws' := [(a_tx, .inr (4, [.ref a_sg, .int w_ln, .int x_11.1, .int x_11.2]))]) [0] rfl
      have hKc := hK.sub (tys' := []) [] rfl
      have hDc := hD.sub (ws' := [(a_tx, .inr (4, [.ref a_sg, .int w_ln, .int x_11.1, .int x_11.2]))]) [0] (by decide) rfl
      have hFc := va_free (wc := [(a_tx, .inr (4, [.ref a_sg, .int w_ln, .int x_11.1, .int x_11.2]))]) hD hS hA [0] rfl
      refine va_callv (va_runV (As := [.int x_11.1]) (rest := []) ⟨hx, hb, hml, hown, hts⟩ (c_Cg_markWrong l dC dI adK adV (a_tx := a_tx) (p0 := x_11.1) (a_sg := a_sg) (w_ln := w_ln) (w_pl := x_11.1) (w_wr := x_11.2) (sz := H.size)) (cwV 1 hts (gV tw_302 tw_304 tw_5 tw_43 tw_305) rfl rfl rfl (by decide +kernel) ⟨(Nat.le_of_ble_eq_true rfl), (Nat.le_of_ble_eq_true rfl)⟩) ⟨fun a U g mk q => by obtain ⟨q0, q1, qZ, qP, qK, qD⟩ := q; exact ⟨q0, q1, zz_call qZ, qP, va_K.moved (u := U) (U := U.calling g mk a) (Vm.Alike.refl U.vm) qK, qD⟩, va_recv hKc hPc (ci := 4) (q0 := 0) rfl rfl, fun U hU hW => ⟨rfl, by rw [hU], zz_rw hS hFc hU hW hZ, by rw [hU]; exact hPc, va_K.moved hW.alike hKc, hDc.weaken (fun _ _ _ _ => trivial)⟩⟩ rfl rfl hl.1 rfl (lv_room (Nat.le_of_ble_eq_true rfl)) d_T_readRest_84 ⟨(Nat.le_of_ble_eq_true rfl), (Nat.le_of_ble_eq_true rfl)⟩) hS (fun q _ h => hFc q h) hFc (fun u t H1 locs ht hvm hw_12 hB hz1 hk1 hS => ?_)
      generalize hg_x_13 : g_Cg_markWrong x_11.1 x_11.2 = x_13 at hw_12 hB hE
      rw [bv_eq] at hE
      obtain ⟨hP1, hK1, hD1⟩ := hB
      rw [ht] at hP1
      have hK1 := va_K.moved hvm.symm hK1
      obtain ⟨hP, hD⟩ := va_join (wr := [(a_sg, .inl (k_sg, 120, .inl f_sg)), (a_to, .inr (3, [.int r_ki, .int r_ty, .int r_pe, .int r_de, .int r_da, .int r_re, .int r_ga, .int r_rc, .int x_6.1, .int r_me, .int r_le]))]) (w1 := [(a_tx, .inr (4, [.ref a_sg, .int w_ln, .int x_11.1, .int x_13]))]) hP hD [0] [1, 2] rfl rfl (by decide) (by decide) hk1 hFc hP1 hD1
      replace hK := (hK.sub (tys' := [(k_sg, .char)]) [0] rfl).app hK1
      generalize H1 = H at hP hS ⊢
      replace hP := hP.sub (ws' := [(a_tx, .inr (4, [.ref a_sg, .int w_ln, .int x_11.1, .int x_13])), (a_sg, .inl (k_sg, 120, .inl f_sg)), (a_to, .inr (3, [.int r_ki, .int r_ty, .int r_pe, .int r_de, .int r_da, .int r_re, .int r_ga, .int r_rc, .int x_6.1, .int r_me, .int r_le]))]) [2, 0, 1] rfl
      replace hD := hD.sub (ws' := [(a_tx, .inr (4, [.ref a_sg, .int w_ln, .int x_11.1, .int x_13])), (a_sg, .inl (k_sg, 120, .inl f_sg)), (a_to, .inr (3, [.int r_ki, .int r_ty, .int r_pe, .int r_de, .int r_da, .int r_re, .int r_ga, .int r_rc, .int x_6.1, .int r_me, .int r_le]))]) [2, 0, 1] (by decide) rfl
      replace hK := hK.sub (tys' := [(k_sg, .char)]) [0] rfl
      have hP9 := hP.sub (ws' := [(a_tx, .inr (4, [.ref a_sg, .int w_ln, .int x_11.1, .int x_13])), (a_sg, .inl (k_sg, 120, .inl f_sg)), (a_to, .inr (3, [.int r_ki, .int r_ty, .int r_pe, .int r_de, .int r_da, .int r_re, .int r_ga, .int r_rc, .int x_6.1, .int r_me, .int r_le]))]) [0, 1, 2] rfl
      have hD9 := hD.sub (ws' := [(a_tx, .inr (4, [.ref a_sg, .int w_ln, .int x_11.1, .int x_13])), (a_sg, .inl (k_sg, 120, .inl f_sg)), (a_to, .inr (3, [.int r_ki, .int r_ty, .int r_pe, .int r_de, .int r_da, .int r_re, .int r_ga, .int r_rc, .int x_6.1, .int r_me, .int r_le]))]) [0, 1, 2] (by decide) rfl
      have hK9 := hK.sub (tys' := [(k_sg, .char)]) [0] rfl
      exact W.vret hx hb hr (fun t ht hW => ⟨⟨(), rfl, trivial, by rw [ht, ← hz, hE]; exact hP9, va_K.moved hW.alike hK9, by rw [← hz, hE]; exact hD9⟩, hS.F ht⟩) hS.2.2 d_T_readRest_87
  · rw [if_neg c_3] at hE
    refine lv_aload_n hx hb d_T_readRest_7 rfl (lv_at hl 1 rfl) ?_
    refine lv_aload_n hx hb d_T_readRest_8 rfl (lv_at hl 0 rfl) ?_
    refine va_ldcS hx hb hown (zs_T_89 hZ) d_T_readRest_9 ?_
    refine lv_aload_n hx hb d_T_readRest_11 rfl (lv_at hl 1 rfl) ?_
    refine va_get (D := (dC, dI)) (ci := 3) (v := .int r_re) (C := "LoanRules$Rule") (T := Fz_R) (N := 11) hx hb hts it_R hown hK hP 2 rfl rfl 5 (by decide) (hts _ tw_188) (fun _ h9 => h9) rfl d_T_readRest_12 ?_
    have hPc := hP.sub (ws' := [(a_tx, .inr (4, [.ref a_sg, .int w_ln, .int w_pl, .int w_wr])), (a_sg, .inl (k_sg, 120, .inl f_sg))]) [0, 1] rfl
    have hKc := hK.sub (tys' := [(k_sg, .char)]) [0] rfl
    have hDc := hD.sub (ws' := [(a_tx, .inr (4, [.ref a_sg, .int w_ln, .int w_pl, .int w_wr])), (a_sg, .inl (k_sg, 120, .inl f_sg))]) [0, 1] (by decide) rfl
    have hFc := va_free (wc := [(a_tx, .inr (4, [.ref a_sg, .int w_ln, .int w_pl, .int w_wr])), (a_sg, .inl (k_sg, 120, .inl f_sg))]) hD hS hA [0, 1] rfl
    refine va_calli (va_runV (As := [.ref (adK 5), .int r_re]) (rest := [.ref a_to]) ⟨hx, hb, hml, hown, hts⟩ (c_Cg_readOption l dC dI adK adV (a_tx := a_tx) (iw := 5) (p0 := r_re) (a_sg := a_sg) (w_ln := w_ln) (w_pl := w_pl) (w_wr := w_wr) (k_sg := k_sg) (f_sg := f_sg) (sz := s.heap.size) (by decide) hln hpl) (cwV 2 hts (gV tw_336 tw_338 tw_10 tw_43 tw_339) rfl rfl rfl (by decide +kernel) ⟨(Nat.le_of_ble_eq_true rfl), (Nat.le_of_ble_eq_true rfl)⟩) ⟨fun a U g mk q => by obtain ⟨q0, q1, qZ, qP, qK, qD⟩ := q; exact ⟨q0, q1, zz_call qZ, qP, va_K.moved (u := U) (U := U.calling g mk a) (Vm.Alike.refl U.vm) qK, qD⟩, va_recv hKc hPc (ci := 4) (q0 := 0) rfl rfl, fun U hU hW => ⟨rfl, by rw [hU], zz_rw hS hFc hU hW hZ, by rw [hU]; exact hPc, va_K.moved hW.alike hKc, hDc.weaken (fun _ _ _ _ => trivial)⟩⟩ rfl rfl hl.1 rfl (lv_room (Nat.le_of_ble_eq_true rfl)) d_T_readRest_15 ⟨(Nat.le_of_ble_eq_true rfl), (Nat.le_of_ble_eq_true rfl)⟩) hS (fun q _ h => hFc q h) hFc (fun r_14 u t H1 locs ht hvm hw_15 hB hz1 hk1 hS => ?_)
    generalize hg_x_16 : g_Cg_readOption r_re 5 w_ln w_pl w_wr f_sg = x_16 at hw_15 hB hE
    rw [bv_eq] at hE
    obtain ⟨hP1, hK1, hD1⟩ := hB
    rw [ht] at hP1
    have hK1 := va_K.moved hvm.symm hK1
    obtain rfl : r_14 = x_16.1 := hw_15
    obtain ⟨hP, hD⟩ := va_join (wr := [(a_to, .inr (3, [.int r_ki, .int r_ty, .int r_pe, .int r_de, .int r_da, .int r_re, .int r_ga, .int r_rc, .int r_rk, .int r_me, .int r_le]))]) (w1 := [(a_tx, .inr (4, [.ref a_sg, .int w_ln, .int x_16.2.1, .int x_16.2.2])), (a_sg, .inl (k_sg, 120, .inl f_sg))]) hP hD [0, 1] [2] rfl rfl (by decide) (by decide) hk1 hFc hP1 hD1
    replace hK := (hK.sub (tys' := []) [] rfl).app hK1
    generalize H1 = H at hP hS ⊢
    replace hP := hP.sub (ws' := [(a_tx, .inr (4, [.ref a_sg, .int w_ln, .int x_16.2.1, .int x_16.2.2])), (a_sg, .inl (k_sg, 120, .inl f_sg)), (a_to, .inr (3, [.int r_ki, .int r_ty, .int r_pe, .int r_de, .int r_da, .int r_re, .int r_ga, .int r_rc, .int r_rk, .int r_me, .int r_le]))]) [1, 2, 0] rfl
    replace hD := hD.sub (ws' := [(a_tx, .inr (4, [.ref a_sg, .int w_ln, .int x_16.2.1, .int x_16.2.2])), (a_sg, .inl (k_sg, 120, .inl f_sg)), (a_to, .inr (3, [.int r_ki, .int r_ty, .int r_pe, .int r_de, .int r_da, .int r_re, .int r_ga, .int r_rc, .int r_rk, .int r_me, .int r_le]))]) [1, 2, 0] (by decide) rfl
    replace hK := hK.sub (tys' := [(k_sg, .char)]) [0] rfl
    refine va_put (D := (dC, dI)) (ci := 3) (v := .int x_16.1) (ty := .int) (C := "LoanRules$Rule") (T := Fz_R) (N := 11) hx hb hts it_R tz_R tz_R_ok nz_R hown hK hP hD hS 2 rfl rfl 5 (by decide) (hts _ tw_188) (fun _ h9 => h9) rfl (by decide +kernel) rfl rfl (Nat.le_of_ble_eq_true rfl) d_T_readRest_18 (fun H locs hP hD hS => ?_)
    replace hP : va_P (dC, dI) vwCl [(a_tx, .inr (4, [.ref a_sg, .int w_ln, .int x_16.2.1, .int x_16.2.2])), (a_sg, .inl (k_sg, 120, .inl f_sg)), (a_to, .inr (3, [.int r_ki, .int r_ty, .int r_pe, .int r_de, .int r_da, .int x_16.1, .int r_ga, .int r_rc, .int r_rk, .int r_me, .int r_le]))] H := hP
    replace hD : va_D A [(a_tx, .inr (4, [.ref a_sg, .int w_ln, .int x_16.2.1, .int x_16.2.2])), (a_sg, .inl (k_sg, 120, .inl f_sg)), (a_to, .inr (3, [.int r_ki, .int r_ty, .int r_pe, .int r_de, .int r_da, .int x_16.1, .int r_ga, .int r_rc, .int r_rk, .int r_me, .int r_le]))] := hD
    refine lv_aload_n hx hb d_T_readRest_21 rfl (lv_at hl 1 rfl) ?_
    refine lv_aload_n hx hb d_T_readRest_22 rfl (lv_at hl 0 rfl) ?_
    refine va_ldcS hx hb hown (zs_T_98 hZ) d_T_readRest_23 ?_
    refine lv_aload_n hx hb d_T_readRest_25 rfl (lv_at hl 1 rfl) ?_
    refine va_get (D := (dC, dI)) (ci := 3) (v := .int r_ga) (C := "LoanRules$Rule") (T := Fz_R) (N := 11) hx hb hts it_R hown hK hP 2 rfl rfl 6 (by decide) (hts _ tw_191) (fun _ h9 => h9) rfl d_T_readRest_26 ?_
    have hPc := hP.sub (ws' := [(a_tx, .inr (4, [.ref a_sg, .int w_ln, .int x_16.2.1, .int x_16.2.2])), (a_sg, .inl (k_sg, 120, .inl f_sg))]) [0, 1] rfl
    have hKc := hK.sub (tys' := [(k_sg, .char)]) [0] rfl
    have hDc := hD.sub (ws' := [(a_tx, .inr (4, [.ref a_sg, .int w_ln, .int x_16.2.1, .int x_16.2.2])), (a_sg, .inl (k_sg, 120, .inl f_sg))]) [0, 1] (by decide) rfl
    have hFc := va_free (wc := [(a_tx, .inr (4, [.ref a_sg, .int w_ln, .int x_16.2.1, .int x_16.2.2])), (a_sg, .inl (k_sg, 120, .inl f_sg))]) hD hS hA [0, 1] rfl
    refine va_calli (va_runV (As := [.ref (adK 6), .int r_ga]) (rest := [.ref a_to]) ⟨hx, hb, hml, hown, hts⟩ (c_Cg_readOption l dC dI adK adV (a_tx := a_tx) (iw := 6) (p0 := r_ga) (a_sg := a_sg) (w_ln := w_ln) (w_pl := x_16.2.1) (w_wr := x_16.2.2) (k_sg := k_sg) (f_sg := f_sg) (sz := H.size) (by decide) hln (ga21 hg_x_16 (rop_at (by decide) hln hpl))) (cwV 2 hts (gV tw_336 tw_338 tw_10 tw_43 tw_339) rfl rfl rfl (by decide +kernel) ⟨(Nat.le_of_ble_eq_true rfl), (Nat.le_of_ble_eq_true rfl)⟩) ⟨fun a U g mk q => by obtain ⟨q0, q1, qZ, qP, qK, qD⟩ := q; exact ⟨q0, q1, zz_call qZ, qP, va_K.moved (u := U) (U := U.calling g mk a) (Vm.Alike.refl U.vm) qK, qD⟩, va_recv hKc hPc (ci := 4) (q0 := 0) rfl rfl, fun U hU hW => ⟨rfl, by rw [hU], zz_rw hS hFc hU hW hZ, by rw [hU]; exact hPc, va_K.moved hW.alike hKc, hDc.weaken (fun _ _ _ _ => trivial)⟩⟩ rfl rfl hl.1 rfl (lv_room (Nat.le_of_ble_eq_true rfl)) d_T_readRest_29 ⟨(Nat.le_of_ble_eq_true rfl), (Nat.le_of_ble_eq_true rfl)⟩) hS (fun q _ h => hFc q h) hFc (fun r_17 u t H1 locs ht hvm hw_18 hB hz1 hk1 hS => ?_)
    generalize hg_x_19 : g_Cg_readOption r_ga 6 w_ln x_16.2.1 x_16.2.2 f_sg = x_19 at hw_18 hB hE
    rw [bv_eq] at hE
    obtain ⟨hP1, hK1, hD1⟩ := hB
    rw [ht] at hP1
    have hK1 := va_K.moved hvm.symm hK1
    obtain rfl : r_17 = x_19.1 := hw_18
    obtain ⟨hP, hD⟩ := va_join (wr := [(a_to, .inr (3, [.int r_ki, .int r_ty, .int r_pe, .int r_de, .int r_da, .int x_16.1, .int r_ga, .int r_rc, .int r_rk, .int r_me, .int r_le]))]) (w1 := [(a_tx, .inr (4, [.ref a_sg, .int w_ln, .int x_19.2.1, .int x_19.2.2])), (a_sg, .inl (k_sg, 120, .inl f_sg))]) hP hD [0, 1] [2] rfl rfl (by decide) (by decide) hk1 hFc hP1 hD1
    replace hK := (hK.sub (tys' := []) [] rfl).app hK1
    generalize H1 = H at hP hS ⊢
    replace hP := hP.sub (ws' := [(a_tx, .inr (4, [.ref a_sg, .int w_ln, .int x_19.2.1, .int x_19.2.2])), (a_sg, .inl (k_sg, 120, .inl f_sg)), (a_to, .inr (3, [.int r_ki, .int r_ty, .int r_pe, .int r_de, .int r_da, .int x_16.1, .int r_ga, .int r_rc, .int r_rk, .int r_me, .int r_le]))]) [1, 2, 0] rfl
    replace hD := hD.sub (ws' := [(a_tx, .inr (4, [.ref a_sg, .int w_ln, .int x_19.2.1, .int x_19.2.2])), (a_sg, .inl (k_sg, 120, .inl f_sg)), (a_to, .inr (3, [.int r_ki, .int r_ty, .int r_pe, .int r_de, .int r_da, .int x_16.1, .int r_ga, .int r_rc, .int r_rk, .int r_me, .int r_le]))]) [1, 2, 0] (by decide) rfl
    replace hK := hK.sub (tys' := [(k_sg, .char)]) [0] rfl
    refine va_put (D := (dC, dI)) (ci := 3) (v := .int x_19.1) (ty := .int) (C := "LoanRules$Rule") (T := Fz_R) (N := 11) hx hb hts it_R tz_R tz_R_ok nz_R hown hK hP hD hS 2 rfl rfl 6 (by decide) (hts _ tw_191) (fun _ h9 => h9) rfl (by decide +kernel) rfl rfl (Nat.le_of_ble_eq_true rfl) d_T_readRest_32 (fun H locs hP hD hS => ?_)
    replace hP : va_P (dC, dI) vwCl [(a_tx, .inr (4, [.ref a_sg, .int w_ln, .int x_19.2.1, .int x_19.2.2])), (a_sg, .inl (k_sg, 120, .inl f_sg)), (a_to, .inr (3, [.int r_ki, .int r_ty, .int r_pe, .int r_de, .int r_da, .int x_16.1, .int x_19.1, .int r_rc, .int r_rk, .int r_me, .int r_le]))] H := hP
    replace hD : va_D A [(a_tx, .inr (4, [.ref a_sg, .int w_ln, .int x_19.2.1, .int x_19.2.2])), (a_sg, .inl (k_sg, 120, .inl f_sg)), (a_to, .inr (3, [.int r_ki, .int r_ty, .int r_pe, .int r_de, .int r_da, .int x_16.1, .int x_19.1, .int r_rc, .int r_rk, .int r_me, .int r_le]))] := hD
    refine lv_aload_n hx hb d_T_readRest_35 rfl (lv_at hl 1 rfl) ?_
    refine lv_aload_n hx hb d_T_readRest_36 rfl (lv_at hl 0 rfl) ?_
    refine va_ldcS hx hb hown (zs_T_102 hZ) d_T_readRest_37 ?_
    refine lv_aload_n hx hb d_T_readRest_39 rfl (lv_at hl 1 rfl) ?_
    refine va_get (D := (dC, dI)) (ci := 3) (v := .int r_rc) (C := "LoanRules$Rule") (T := Fz_R) (N := 11) hx hb hts it_R hown hK hP 2 rfl rfl 7 (by decide) (hts _ tw_194) (fun _ h9 => h9) rfl d_T_readRest_40 ?_
    have hPc := hP.sub (ws' := [(a_tx, .inr (4, [.ref a_sg, .int w_ln, .int x_19.2.1, .int x_19.2.2])), (a_sg, .inl (k_sg, 120, .inl f_sg))]) [0, 1] rfl
    have hKc := hK.sub (tys' := [(k_sg, .char)]) [0] rfl
    have hDc := hD.sub (ws' := [(a_tx, .inr (4, [.ref a_sg, .int w_ln, .int x_19.2.1, .int x_19.2.2])), (a_sg, .inl (k_sg, 120, .inl f_sg))]) [0, 1] (by decide) rfl
    have hFc := va_free (wc := [(a_tx, .inr (4, [.ref a_sg, .int w_ln, .int x_19.2.1, .int x_19.2.2])), (a_sg, .inl (k_sg, 120, .inl f_sg))]) hD hS hA [0, 1] rfl
    refine va_calli (va_runV (As := [.ref (adK 7), .int r_rc]) (rest := [.ref a_to]) ⟨hx, hb, hml, hown, hts⟩ (c_Cg_readOption l dC dI adK adV (a_tx := a_tx) (iw := 7) (p0 := r_rc) (a_sg := a_sg) (w_ln := w_ln) (w_pl := x_19.2.1) (w_wr := x_19.2.2) (k_sg := k_sg) (f_sg := f_sg) (sz := H.size) (by decide) hln (ga21 hg_x_19 (rop_at (by decide) hln (ga21 hg_x_16 (rop_at (by decide) hln hpl))))) (cwV 2 hts (gV tw_336 tw_338 tw_10 tw_43 tw_339) rfl rfl rfl (by decide +kernel) ⟨(Nat.le_of_ble_eq_true rfl), (Nat.le_of_ble_eq_true rfl)⟩) ⟨fun a U g mk q => by obtain ⟨q0, q1, qZ, qP, qK, qD⟩ := q; exact ⟨q0, q1, zz_call qZ, qP, va_K.moved (u := U) (U := U.calling g mk a) (Vm.Alike.refl U.vm) qK, qD⟩, va_recv hKc hPc (ci := 4) (q0 := 0) rfl rfl, fun U hU hW => ⟨rfl, by rw [hU], zz_rw hS hFc hU hW hZ, by rw [hU]; exact hPc, va_K.moved hW.alike hKc, hDc.weaken (fun _ _ _ _ => trivial)⟩⟩ rfl rfl hl.1 rfl (lv_room (Nat.le_of_ble_eq_true rfl)) d_T_readRest_43 ⟨(Nat.le_of_ble_eq_true rfl), (Nat.le_of_ble_eq_true rfl)⟩) hS (fun q _ h => hFc q h) hFc (fun r_20 u t H1 locs ht hvm hw_21 hB hz1 hk1 hS => ?_)
    generalize hg_x_22 : g_Cg_readOption r_rc 7 w_ln x_19.2.1 x_19.2.2 f_sg = x_22 at hw_21 hB hE
    rw [bv_eq] at hE
    obtain ⟨hP1, hK1, hD1⟩ := hB
    rw [ht] at hP1
    have hK1 := va_K.moved hvm.symm hK1
    obtain rfl : r_20 = x_22.1 := hw_21
    obtain ⟨hP, hD⟩ := va_join (wr := [(a_to, .inr (3, [.int r_ki, .int r_ty, .int r_pe, .int r_de, .int r_da, .int x_16.1, .int x_19.1, .int r_rc, .int r_rk, .int r_me, .int r_le]))]) (w1 := [(a_tx, .inr (4, [.ref a_sg, .int w_ln, .int x_22.2.1, .int x_22.2.2])), (a_sg, .inl (k_sg, 120, .inl f_sg))]) hP hD [0, 1] [2] rfl rfl (by decide) (by decide) hk1 hFc hP1 hD1
    replace hK := (hK.sub (tys' := []) [] rfl).app hK1
    generalize H1 = H at hP hS ⊢
    replace hP := hP.sub (ws' := [(a_tx, .inr (4, [.ref a_sg, .int w_ln, .int x_22.2.1, .int x_22.2.2])), (a_sg, .inl (k_sg, 120, .inl f_sg)), (a_to, .inr (3, [.int r_ki, .int r_ty, .int r_pe, .int r_de, .int r_da, .int x_16.1, .int x_19.1, .int r_rc, .int r_rk, .int r_me, .int r_le]))]) [1, 2, 0] rfl
    replace hD := hD.sub (ws' := [(a_tx, .inr (4, [.ref a_sg, .int w_ln, .int x_22.2.1, .int x_22.2.2])), (a_sg, .inl (k_sg, 120, .inl f_sg)), (a_to, .inr (3, [.int r_ki, .int r_ty, .int r_pe, .int r_de, .int r_da, .int x_16.1, .int x_19.1, .int r_rc, .int r_rk, .int r_me, .int r_le]))]) [1, 2, 0] (by decide) rfl
    replace hK := hK.sub (tys' := [(k_sg, .char)]) [0] rfl
    refine va_put (D := (dC, dI)) (ci := 3) (v := .int x_22.1) (ty := .int) (C := "LoanRules$Rule") (T := Fz_R) (N := 11) hx hb hts it_R tz_R tz_R_ok nz_R hown hK hP hD hS 2 rfl rfl 7 (by decide) (hts _ tw_194) (fun _ h9 => h9) rfl (by decide +kernel) rfl rfl (Nat.le_of_ble_eq_true rfl) d_T_readRest_46 (fun H locs hP hD hS => ?_)
    replace hP : va_P (dC, dI) vwCl [(a_tx, .inr (4, [.ref a_sg, .int w_ln, .int x_22.2.1, .int x_22.2.2])), (a_sg, .inl (k_sg, 120, .inl f_sg)), (a_to, .inr (3, [.int r_ki, .int r_ty, .int r_pe, .int r_de, .int r_da, .int x_16.1, .int x_19.1, .int x_22.1, .int r_rk, .int r_me, .int r_le]))] H := hP
    replace hD : va_D A [(a_tx, .inr (4, [.ref a_sg, .int w_ln, .int x_22.2.1, .int x_22.2.2])), (a_sg, .inl (k_sg, 120, .inl f_sg)), (a_to, .inr (3, [.int r_ki, .int r_ty, .int r_pe, .int r_de, .int r_da, .int x_16.1, .int x_19.1, .int x_22.1, .int r_rk, .int r_me, .int r_le]))] := hD
    refine lv_aload_n hx hb d_T_readRest_49 rfl (lv_at hl 1 rfl) ?_
    refine lv_aload_n hx hb d_T_readRest_50 rfl (lv_at hl 0 rfl) ?_
    refine va_ldcS hx hb hown (zs_T_107 hZ) d_T_readRest_51 ?_
    refine lv_aload_n hx hb d_T_readRest_53 rfl (lv_at hl 1 rfl) ?_
    refine va_get (D := (dC, dI)) (ci := 3) (v := .int r_rk) (C := "LoanRules$Rule") (T := Fz_R) (N := 11) hx hb hts it_R hown hK hP 2 rfl rfl 8 (by decide) (hts _ tw_197) (fun _ h9 => h9) rfl d_T_readRest_54 ?_
    have hPc := hP.sub (ws' := [(a_tx, .inr (4, [.ref a_sg, .int w_ln, .int x_22.2.1, .int x_22.2.2])), (a_sg, .inl (k_sg, 120, .inl f_sg))]) [0, 1] rfl
    have hKc := hK.sub (tys' := [(k_sg, .char)]) [0] rfl
    have hDc := hD.sub (ws' := [(a_tx, .inr (4, [.ref a_sg, .int w_ln, .int x_22.2.1, .int x_22.2.2])), (a_sg, .inl (k_sg, 120, .inl f_sg))]) [0, 1] (by decide) rfl
    have hFc := va_free (wc := [(a_tx, .inr (4, [.ref a_sg, .int w_ln, .int x_22.2.1, .int x_22.2.2])), (a_sg, .inl (k_sg, 120, .inl f_sg))]) hD hS hA [0, 1] rfl
    refine va_calli (va_runV (As := [.ref (adK 4), .int r_rk]) (rest := [.ref a_to]) ⟨hx, hb, hml, hown, hts⟩ (c_Cg_readOption l dC dI adK adV (a_tx := a_tx) (iw := 4) (p0 := r_rk) (a_sg := a_sg) (w_ln := w_ln) (w_pl := x_22.2.1) (w_wr := x_22.2.2) (k_sg := k_sg) (f_sg := f_sg) (sz := H.size) (by decide) hln (ga21 hg_x_22 (rop_at (by decide) hln (ga21 hg_x_19 (rop_at (by decide) hln (ga21 hg_x_16 (rop_at (by decide) hln hpl))))))) (cwV 2 hts (gV tw_336 tw_338 tw_10 tw_43 tw_339) rfl rfl rfl (by decide +kernel) ⟨(Nat.le_of_ble_eq_true rfl), (Nat.le_of_ble_eq_true rfl)⟩) ⟨fun a U g mk q => by obtain ⟨q0, q1, qZ, qP, qK, qD⟩ := q; exact ⟨q0, q1, zz_call qZ, qP, va_K.moved (u := U) (U := U.calling g mk a) (Vm.Alike.refl U.vm) qK, qD⟩, va_recv hKc hPc (ci := 4) (q0 := 0) rfl rfl, fun U hU hW => ⟨rfl, by rw [hU], zz_rw hS hFc hU hW hZ, by rw [hU]; exact hPc, va_K.moved hW.alike hKc, hDc.weaken (fun _ _ _ _ => trivial)⟩⟩ rfl rfl hl.1 rfl (lv_room (Nat.le_of_ble_eq_true rfl)) d_T_readRest_57 ⟨(Nat.le_of_ble_eq_true rfl), (Nat.le_of_ble_eq_true rfl)⟩) hS (fun q _ h => hFc q h) hFc (fun r_23 u t H1 locs ht hvm hw_24 hB hz1 hk1 hS => ?_)
    generalize hg_x_25 : g_Cg_readOption r_rk 4 w_ln x_22.2.1 x_22.2.2 f_sg = x_25 at hw_24 hB hE
    rw [bv_eq] at hE
    obtain ⟨hP1, hK1, hD1⟩ := hB
    rw [ht] at hP1
    have hK1 := va_K.moved hvm.symm hK1
    obtain rfl : r_23 = x_25.1 := hw_24
    obtain ⟨hP, hD⟩ := va_join (wr := [(a_to, .inr (3, [.int r_ki, .int r_ty, .int r_pe, .int r_de, .int r_da, .int x_16.1, .int x_19.1, .int x_22.1, .int r_rk, .int r_me, .int r_le]))]) (w1 := [(a_tx, .inr (4, [.ref a_sg, .int w_ln, .int x_25.2.1, .int x_25.2.2])), (a_sg, .inl (k_sg, 120, .inl f_sg))]) hP hD [0, 1] [2] rfl rfl (by decide) (by decide) hk1 hFc hP1 hD1
    replace hK := (hK.sub (tys' := []) [] rfl).app hK1
    generalize H1 = H at hP hS ⊢
    replace hP := hP.sub (ws' := [(a_tx, .inr (4, [.ref a_sg, .int w_ln, .int x_25.2.1, .int x_25.2.2])), (a_sg, .inl (k_sg, 120, .inl f_sg)), (a_to, .inr (3, [.int r_ki, .int r_ty, .int r_pe, .int r_de, .int r_da, .int x_16.1, .int x_19.1, .int x_22.1, .int r_rk, .int r_me, .int r_le]))]) [1, 2, 0] rfl
    replace hD := hD.sub (ws' := [(a_tx, .inr (4, [.ref a_sg, .int w_ln, .int x_25.2.1, .int x_25.2.2])), (a_sg, .inl (k_sg, 120, .inl f_sg)), (a_to, .inr (3, [.int r_ki, .int r_ty, .int r_pe, .int r_de, .int r_da, .int x_16.1, .int x_19.1, .int x_22.1, .int r_rk, .int r_me, .int r_le]))]) [1, 2, 0] (by decide) rfl
    replace hK := hK.sub (tys' := [(k_sg, .char)]) [0] rfl
    refine va_put (D := (dC, dI)) (ci := 3) (v := .int x_25.1) (ty := .int) (C := "LoanRules$Rule") (T := Fz_R) (N := 11) hx hb hts it_R tz_R tz_R_ok nz_R hown hK hP hD hS 2 rfl rfl 8 (by decide) (hts _ tw_197) (fun _ h9 => h9) rfl (by decide +kernel) rfl rfl (Nat.le_of_ble_eq_true rfl) d_T_readRest_60 (fun H locs hP hD hS => ?_)
    replace hP : va_P (dC, dI) vwCl [(a_tx, .inr (4, [.ref a_sg, .int w_ln, .int x_25.2.1, .int x_25.2.2])), (a_sg, .inl (k_sg, 120, .inl f_sg)), (a_to, .inr (3, [.int r_ki, .int r_ty, .int r_pe, .int r_de, .int r_da, .int x_16.1, .int x_19.1, .int x_22.1, .int x_25.1, .int r_me, .int r_le]))] H := hP
    replace hD : va_D A [(a_tx, .inr (4, [.ref a_sg, .int w_ln, .int x_25.2.1, .int x_25.2.2])), (a_sg, .inl (k_sg, 120, .inl f_sg)), (a_to, .inr (3, [.int r_ki, .int r_ty, .int r_pe, .int r_de, .int r_da, .int x_16.1, .int x_19.1, .int x_22.1, .int x_25.1, .int r_me, .int r_le]))] := hD
    refine lv_aload_n hx hb d_T_readRest_63 rfl (lv_at hl 0 rfl) ?_
    refine lv_aload_n hx hb d_T_readRest_64 rfl (lv_at hl 0 rfl) ?_
    refine va_get (D := (dC, dI)) (ci := 4) (v := .int x_25.2.1) (C := "LoanRules$RuleText") (T := Fz_T) (N := 4) hx hb hts it_T hown hK hP 0 rfl rfl 2 (by decide) (hts _ tw_74) (fun _ h9 => h9) rfl d_T_readRest_65 ?_
    have hPc := hP.sub (ws' := [(a_tx, .inr (4, [.ref a_sg, .int w_ln, .int x_25.2.1, .int x_25.2.2])), (a_sg, .inl (k_sg, 120, .inl f_sg))]) [0, 1] rfl
    have hKc := hK.sub (tys' := [(k_sg, .char)]) [0] rfl
    refine vp_callSi (va_Run.run (va_runV (As := [.int x_25.2.1]) (rest := []) ⟨hx, hb, hml, hown, hts⟩ (c_Cg_signAt l dC dI adK adV (a_tx := a_tx) (p0 := x_25.2.1) (a_sg := a_sg) (w_ln := w_ln) (w_pl := x_25.2.1) (w_wr := x_25.2.2) (k_sg := k_sg) (f_sg := f_sg)) (cwV 1 hts (gV tw_249 tw_251 tw_2 tw_43 tw_252) rfl rfl rfl (by decide +kernel) ⟨(Nat.le_of_ble_eq_true rfl), (Nat.le_of_ble_eq_true rfl)⟩) ⟨fun a U g mk q => by obtain ⟨q0, qZ, qP, qK⟩ := q; exact ⟨q0, zz_call qZ, qP, va_K.moved (u := U) (U := U.calling g mk a) (Vm.Alike.refl U.vm) qK⟩, va_recv hKc hPc (ci := 4) (q0 := 0) rfl rfl, fun U hU hW => ⟨rfl, zz_ro hS hU hW hZ, by rw [hU]; exact hPc, va_K.moved hW.alike hKc⟩⟩ rfl rfl hl.1 rfl (lv_room (Nat.le_of_ble_eq_true rfl)) d_T_readRest_68 ⟨(Nat.le_of_ble_eq_true rfl), (Nat.le_of_ble_eq_true rfl)⟩)) (fun r_26 hw_27 => ?_)
    clear hPc hKc
    subst hw_27
    refine lv_iconst (v := (-1)) hx hb d_T_readRest_71 (by decide) ?_
    refine lv_icmp_eq (tgt := 87) hx hb d_T_readRest_72 (by decide) (fun c_28 => ?_) (fun c_28 => ?_)
    · rw [if_pos c_28] at hE
      have hP9 := hP.sub (ws' := [(a_tx, .inr (4, [.ref a_sg, .int w_ln, .int x_25.2.1, .int x_25.2.2])), (a_sg, .inl (k_sg, 120, .inl f_sg)), (a_to, .inr (3, [.int r_ki, .int r_ty, .int r_pe, .int r_de, .int r_da, .int x_16.1, .int x_19.1, .int x_22.1, .int x_25.1, .int r_me, .int r_le]))]) [0, 1, 2] rfl
      have hD9 := hD.sub (ws' := [(a_tx, .inr (4, [.ref a_sg, .int w_ln, .int x_25.2.1, .int x_25.2.2])), (a_sg, .inl (k_sg, 120, .inl f_sg)), (a_to, .inr (3, [.int r_ki, .int r_ty, .int r_pe, .int r_de, .int r_da, .int x_16.1, .int x_19.1, .int x_22.1, .int x_25.1, .int r_me, .int r_le]))]) [0, 1, 2] (by decide) rfl
      have hK9 := hK.sub (tys' := [(k_sg, .char)]) [0] rfl
      exact W.vret hx hb hr (fun t ht hW => ⟨⟨(), rfl, trivial, by rw [ht, ← hz, hE]; exact hP9, va_K.moved hW.alike hK9, by rw [← hz, hE]; exact hD9⟩, hS.F ht⟩) hS.2.2 d_T_readRest_87
    · rw [if_neg c_28] at hE
      refine lv_aload_n hx hb d_T_readRest_75 rfl (lv_at hl 0 rfl) ?_
      have hPc := hP.sub (ws' := [(a_tx, .inr (4, [.ref a_sg, .int w_ln, .int x_25.2.1, .int x_25.2.2])), (a_sg, .inl (k_sg, 120, .inl f_sg))]) [0, 1] rfl
      have hKc := hK.sub (tys' := [(k_sg, .char)]) [0] rfl
      have hDc := hD.sub (ws' := [(a_tx, .inr (4, [.ref a_sg, .int w_ln, .int x_25.2.1, .int x_25.2.2])), (a_sg, .inl (k_sg, 120, .inl f_sg))]) [0, 1] (by decide) rfl
      have hFc := va_free (wc := [(a_tx, .inr (4, [.ref a_sg, .int w_ln, .int x_25.2.1, .int x_25.2.2])), (a_sg, .inl (k_sg, 120, .inl f_sg))]) hD hS hA [0, 1] rfl
      refine va_callv (va_runV (As := []) (rest := []) ⟨hx, hb, hml, hown, hts⟩ (c_Cg_takeSpace l dC dI adK adV (a_tx := a_tx) (a_sg := a_sg) (w_ln := w_ln) (w_pl := x_25.2.1) (w_wr := x_25.2.2) (k_sg := k_sg) (f_sg := f_sg) (sz := H.size)) (cwV 0 hts (gV tw_298 tw_300 tw_4 tw_43 tw_301) rfl rfl rfl (by decide +kernel) ⟨(Nat.le_of_ble_eq_true rfl), (Nat.le_of_ble_eq_true rfl)⟩) ⟨fun a U g mk q => by obtain ⟨q0, q1, qZ, qP, qK, qD⟩ := q; exact ⟨q0, q1, zz_call qZ, qP, va_K.moved (u := U) (U := U.calling g mk a) (Vm.Alike.refl U.vm) qK, qD⟩, va_recv hKc hPc (ci := 4) (q0 := 0) rfl rfl, fun U hU hW => ⟨rfl, by rw [hU], zz_rw hS hFc hU hW hZ, by rw [hU]; exact hPc, va_K.moved hW.alike hKc, hDc.weaken (fun _ _ _ _ => trivial)⟩⟩ rfl rfl hl.1 rfl (lv_room (Nat.le_of_ble_eq_true rfl)) d_T_readRest_76 ⟨(Nat.le_of_ble_eq_true rfl), (Nat.le_of_ble_eq_true rfl)⟩) hS (fun q _ h => hFc q h) hFc (fun u t H1 locs ht hvm hw_29 hB hz1 hk1 hS => ?_)
      generalize hg_x_30 : g_Cg_takeSpace w_ln x_25.2.1 x_25.2.2 f_sg = x_30 at hw_29 hB hE
      rw [bv_eq] at hE
      obtain ⟨hP1, hK1, hD1⟩ := hB
      rw [ht] at hP1
      have hK1 := va_K.moved hvm.symm hK1
      obtain ⟨hP, hD⟩ := va_join (wr := [(a_to, .inr (3, [.int r_ki, .int r_ty, .int r_pe, .int r_de, .int r_da, .int x_16.1, .int x_19.1, .int x_22.1, .int x_25.1, .int r_me, .int r_le]))]) (w1 := [(a_tx, .inr (4, [.ref a_sg, .int w_ln, .int x_30.1, .int x_30.2])), (a_sg, .inl (k_sg, 120, .inl f_sg))]) hP hD [0, 1] [2] rfl rfl (by decide) (by decide) hk1 hFc hP1 hD1
      replace hK := (hK.sub (tys' := []) [] rfl).app hK1
      generalize H1 = H at hP hS ⊢
      replace hP := hP.sub (ws' := [(a_tx, .inr (4, [.ref a_sg, .int w_ln, .int x_30.1, .int x_30.2])), (a_sg, .inl (k_sg, 120, .inl f_sg)), (a_to, .inr (3, [.int r_ki, .int r_ty, .int r_pe, .int r_de, .int r_da, .int x_16.1, .int x_19.1, .int x_22.1, .int x_25.1, .int r_me, .int r_le]))]) [1, 2, 0] rfl
      replace hD := hD.sub (ws' := [(a_tx, .inr (4, [.ref a_sg, .int w_ln, .int x_30.1, .int x_30.2])), (a_sg, .inl (k_sg, 120, .inl f_sg)), (a_to, .inr (3, [.int r_ki, .int r_ty, .int r_pe, .int r_de, .int r_da, .int x_16.1, .int x_19.1, .int x_22.1, .int x_25.1, .int r_me, .int r_le]))]) [1, 2, 0] (by decide) rfl
      replace hK := hK.sub (tys' := [(k_sg, .char)]) [0] rfl
      refine lv_aload_n hx hb d_T_readRest_79 rfl (lv_at hl 0 rfl) ?_
      refine lv_aload_n hx hb d_T_readRest_80 rfl (lv_at hl 0 rfl) ?_
      refine va_get (D := (dC, dI)) (ci := 4) (v := .int x_30.1) (C := "LoanRules$RuleText") (T := Fz_T) (N := 4) hx hb hts it_T hown hK hP 0 rfl rfl 2 (by decide) (hts _ tw_74) (fun _ h9 => h9) rfl d_T_readRest_81 ?_
      have hPc := hP.sub (ws' := [(a_tx, .inr (4, [.ref a_sg, .int w_ln, .int x_30.1, .int x_30.2]))]) [0] rfl
      have hKc := hK.sub (tys' := []) [] rfl
      have hDc := hD.sub (ws' := [(a_tx, .inr (4, [.ref a_sg, .int w_ln, .int x_30.1, .int x_30.2]))]) [0] (by decide) rfl
      have hFc := va_free (wc := [(a_tx, .inr (4, [.ref a_sg, .int w_ln, .int x_30.1, .int x_30.2]))]) hD hS hA [0] rfl
      refine va_callv (va_runV (As := [.int x_30.1]) (rest := []) ⟨hx, hb, hml, hown, hts⟩ (c_Cg_markWrong l dC dI adK adV (a_tx := a_tx) (p0 := x_30.1) (a_sg := a_sg) (w_ln := w_ln) (w_pl := x_30.1) (w_wr := x_30.2) (sz := H.size)) (cwV 1 hts (gV tw_302 tw_304 tw_5 tw_43 tw_305) rfl rfl rfl (by decide +kernel) ⟨(Nat.le_of_ble_eq_true rfl), (Nat.le_of_ble_eq_true rfl)⟩) ⟨fun a U g mk q => by obtain ⟨q0, q1, qZ, qP, qK, qD⟩ := q; exact ⟨q0, q1, zz_call qZ, qP, va_K.moved (u := U) (U := U.calling g mk a) (Vm.Alike.refl U.vm) qK, qD⟩, va_recv hKc hPc (ci := 4) (q0 := 0) rfl rfl, fun U hU hW => ⟨rfl, by rw [hU], zz_rw hS hFc hU hW hZ, by rw [hU]; exact hPc, va_K.moved hW.alike hKc, hDc.weaken (fun _ _ _ _ => trivial)⟩⟩ rfl rfl hl.1 rfl (lv_room (Nat.le_of_ble_eq_true rfl)) d_T_readRest_84 ⟨(Nat.le_of_ble_eq_true rfl), (Nat.le_of_ble_eq_true rfl)⟩) hS (fun q _ h => hFc q h) hFc (fun u t H1 locs ht hvm hw_31 hB hz1 hk1 hS => ?_)
      generalize hg_x_32 : g_Cg_markWrong x_30.1 x_30.2 = x_32 at hw_31 hB hE
      rw [bv_eq] at hE
      obtain ⟨hP1, hK1, hD1⟩ := hB
      rw [ht] at hP1
      have hK1 := va_K.moved hvm.symm hK1
      obtain ⟨hP, hD⟩ := va_join (wr := [(a_sg, .inl (k_sg, 120, .inl f_sg)), (a_to, .inr (3, [.int r_ki, .int r_ty, .int r_pe, .int r_de, .int r_da, .int x_16.1, .int x_19.1, .int x_22.1, .int x_25.1, .int r_me, .int r_le]))]) (w1 := [(a_tx, .inr (4, [.ref a_sg, .int w_ln, .int x_30.1, .int x_32]))]) hP hD [0] [1, 2] rfl rfl (by decide) (by decide) hk1 hFc hP1 hD1
      replace hK := (hK.sub (tys' := [(k_sg, .char)]) [0] rfl).app hK1
      generalize H1 = H at hP hS ⊢
      replace hP := hP.sub (ws' := [(a_tx, .inr (4, [.ref a_sg, .int w_ln, .int x_30.1, .int x_32])), (a_sg, .inl (k_sg, 120, .inl f_sg)), (a_to, .inr (3, [.int r_ki, .int r_ty, .int r_pe, .int r_de, .int r_da, .int x_16.1, .int x_19.1, .int x_22.1, .int x_25.1, .int r_me, .int r_le]))]) [2, 0, 1] rfl
      replace hD := hD.sub (ws' := [(a_tx, .inr (4, [.ref a_sg, .int w_ln, .int x_30.1, .int x_32])), (a_sg, .inl (k_sg, 120, .inl f_sg)), (a_to, .inr (3, [.int r_ki, .int r_ty, .int r_pe, .int r_de, .int r_da, .int x_16.1, .int x_19.1, .int x_22.1, .int x_25.1, .int r_me, .int r_le]))]) [2, 0, 1] (by decide) rfl
      replace hK := hK.sub (tys' := [(k_sg, .char)]) [0] rfl
      have hP9 := hP.sub (ws' := [(a_tx, .inr (4, [.ref a_sg, .int w_ln, .int x_30.1, .int x_32])), (a_sg, .inl (k_sg, 120, .inl f_sg)), (a_to, .inr (3, [.int r_ki, .int r_ty, .int r_pe, .int r_de, .int r_da, .int x_16.1, .int x_19.1, .int x_22.1, .int x_25.1, .int r_me, .int r_le]))]) [0, 1, 2] rfl
      have hD9 := hD.sub (ws' := [(a_tx, .inr (4, [.ref a_sg, .int w_ln, .int x_30.1, .int x_32])), (a_sg, .inl (k_sg, 120, .inl f_sg)), (a_to, .inr (3, [.int r_ki, .int r_ty, .int r_pe, .int r_de, .int r_da, .int x_16.1, .int x_19.1, .int x_22.1, .int x_25.1, .int r_me, .int r_le]))]) [0, 1, 2] (by decide) rfl
      have hK9 := hK.sub (tys' := [(k_sg, .char)]) [0] rfl
      exact W.vret hx hb hr (fun t ht hW => ⟨⟨(), rfl, trivial, by rw [ht, ← hz, hE]; exact hP9, va_K.moved hW.alike hK9, by rw [← hz, hE]; exact hD9⟩, hS.F ht⟩) hS.2.2 d_T_readRest_87
def g_Cg_readInto (w_ln : Int32) (f_sg : Nat → Int32) (r_de : Int32) (r_da : Int32) (r_re : Int32) (r_ga : Int32) (r_rc : Int32) (r_rk : Int32) : Int32 × Int32 × Int32 × Int32 × Int32 × Int32 × Int32 × Int32 × Int32 × Int32 × Int32 × Int32 :=
  bv (g_Cg_readCondition 1 9 8 w_ln 0 (-1) f_sg) (fun x_3 =>
    bv (g_Cg_readCondition 1 9 9 w_ln x_3.2.1 x_3.2.2 f_sg) (fun x_6 =>
      bv (g_Cg_readCondition 2 49 10 w_ln x_6.2.1 x_6.2.2 f_sg) (fun x_9 =>
        bv (g_Cg_readDeed w_ln x_9.2.1 x_9.2.2 f_sg r_de r_da) (fun x_11 =>
          bv (g_Cg_readRest w_ln x_11.1 x_11.2.1 f_sg x_11.2.2.1 r_re r_ga r_rc r_rk) (fun x_13 =>
            (x_13.2.1, x_13.1, x_13.2.1, x_3.1, x_6.1, x_9.1, x_11.2.2.1, x_11.2.2.2, x_13.2.2.1, x_13.2.2.2.1, x_13.2.2.2.2.1, x_13.2.2.2.2.2))))))
set_option maxHeartbeats 4000000 in
set_option maxRecDepth 100000 in
theorem c_Cg_readInto (l : Launch) (dC : Nat → ClassId) (dI : Nat → Nat → Nat) (adK adV : Nat → Nat) (a_tx : Nat) (a_sg : Nat) (a_to : Nat) (k_sg : ClassId) (w_ln : Int32) (w_pl : Int32) (w_wr : Int32) (f_sg : Nat → Int32) (r_ki : Int32) (r_ty : Int32) (r_pe : Int32) (r_de : Int32) (r_da : Int32) (r_re : Int32) (r_ga : Int32) (r_rc : Int32) (r_rk : Int32) (r_me : Int32) (r_le : Int32) (sz : Nat) (hln : 0 ≤ w_ln.toInt ∧ w_ln.toInt ≤ 120) : Met l y_T_readInto ws_T_readInto ({ frames := 8, cells := 0, slots := 0, locals := 171 }) (va_Pc [.ref a_tx, .ref a_to] (fun U => U.heap.size = sz ∧ zz adK adV (va_A [(a_tx, .inr (4, [.ref a_sg, .int w_ln, .int w_pl, .int w_wr])), (a_sg, .inl (k_sg, 120, .inl f_sg)), (a_to, .inr (3, [.int r_ki, .int r_ty, .int r_pe, .int r_de, .int r_da, .int r_re, .int r_ga, .int r_rc, .int r_rk, .int r_me, .int r_le]))] sz) U ∧ va_P (dC, dI) vwCl [(a_tx, .inr (4, [.ref a_sg, .int w_ln, .int w_pl, .int w_wr])), (a_sg, .inl (k_sg, 120, .inl f_sg)), (a_to, .inr (3, [.int r_ki, .int r_ty, .int r_pe, .int r_de, .int r_da, .int r_re, .int r_ga, .int r_rc, .int r_rk, .int r_me, .int r_le]))] U.heap ∧ va_K (dC, dI) vwCl [(k_sg, .char)] U ∧ va_D (fun _ => True) [(a_tx, .inr (4, [.ref a_sg, .int w_ln, .int w_pl, .int w_wr])), (a_sg, .inl (k_sg, 120, .inl f_sg)), (a_to, .inr (3, [.int r_ki, .int r_ty, .int r_pe, .int r_de, .int r_da, .int r_re, .int r_ga, .int r_rc, .int r_rk, .int r_me, .int r_le]))])) (va_Qi (fun (r : Int32) (_ : Unit) => r = (g_Cg_readInto w_ln f_sg r_de r_da r_re r_ga r_rc r_rk).1) (fun (_ : Unit) (t : State) => va_P (dC, dI) vwCl [(a_tx, .inr (4, [.ref a_sg, .int w_ln, .int ((g_Cg_readInto w_ln f_sg r_de r_da r_re r_ga r_rc r_rk).2.1), .int ((g_Cg_readInto w_ln f_sg r_de r_da r_re r_ga r_rc r_rk).2.2.1)])), (a_sg, .inl (k_sg, 120, .inl f_sg)), (a_to, .inr (3, [.int ((g_Cg_readInto w_ln f_sg r_de r_da r_re r_ga r_rc r_rk).2.2.2.1), .int ((g_Cg_readInto w_ln f_sg r_de r_da r_re r_ga r_rc r_rk).2.2.2.2.1), .int ((g_Cg_readInto w_ln f_sg r_de r_da r_re r_ga r_rc r_rk).2.2.2.2.2.1), .int ((g_Cg_readInto w_ln f_sg r_de r_da r_re r_ga r_rc r_rk).2.2.2.2.2.2.1), .int ((g_Cg_readInto w_ln f_sg r_de r_da r_re r_ga r_rc r_rk).2.2.2.2.2.2.2.1), .int ((g_Cg_readInto w_ln f_sg r_de r_da r_re r_ga r_rc r_rk).2.2.2.2.2.2.2.2.1), .int ((g_Cg_readInto w_ln f_sg r_de r_da r_re r_ga r_rc r_rk).2.2.2.2.2.2.2.2.2.1), .int ((g_Cg_readInto w_ln f_sg r_de r_da r_re r_ga r_rc r_rk).2.2.2.2.2.2.2.2.2.2.1), .int ((g_Cg_readInto w_ln f_sg r_de r_da r_re r_ga r_rc r_rk).2.2.2.2.2.2.2.2.2.2.2), .int r_me, .int r_le]))] t.heap ∧ va_K (dC, dI) vwCl [(k_sg, .char)] t ∧ va_D (va_A [(a_tx, .inr (4, [.ref a_sg, .int w_ln, .int w_pl, .int w_wr])), (a_sg, .inl (k_sg, 120, .inl f_sg)), (a_to, .inr (3, [.int r_ki, .int r_ty, .int r_pe, .int r_de, .int r_da, .int r_re, .int r_ga, .int r_rc, .int r_rk, .int r_me, .int r_le]))] sz) [(a_tx, .inr (4, [.ref a_sg, .int w_ln, .int ((g_Cg_readInto w_ln f_sg r_de r_da r_re r_ga r_rc r_rk).2.1), .int ((g_Cg_readInto w_ln f_sg r_de r_da r_re r_ga r_rc r_rk).2.2.1)])), (a_sg, .inl (k_sg, 120, .inl f_sg)), (a_to, .inr (3, [.int ((g_Cg_readInto w_ln f_sg r_de r_da r_re r_ga r_rc r_rk).2.2.2.1), .int ((g_Cg_readInto w_ln f_sg r_de r_da r_re r_ga r_rc r_rk).2.2.2.2.1), .int ((g_Cg_readInto w_ln f_sg r_de r_da r_re r_ga r_rc r_rk).2.2.2.2.2.1), .int ((g_Cg_readInto w_ln f_sg r_de r_da r_re r_ga r_rc r_rk).2.2.2.2.2.2.1), .int ((g_Cg_readInto w_ln f_sg r_de r_da r_re r_ga r_rc r_rk).2.2.2.2.2.2.2.1), .int ((g_Cg_readInto w_ln f_sg r_de r_da r_re r_ga r_rc r_rk).2.2.2.2.2.2.2.2.1), .int ((g_Cg_readInto w_ln f_sg r_de r_da r_re r_ga r_rc r_rk).2.2.2.2.2.2.2.2.2.1), .int ((g_Cg_readInto w_ln f_sg r_de r_da r_re r_ga r_rc r_rk).2.2.2.2.2.2.2.2.2.2.1), .int ((g_Cg_readInto w_ln f_sg r_de r_da r_re r_ga r_rc r_rk).2.2.2.2.2.2.2.2.2.2.2), .int r_me, .int r_le]))]) (va_A [(a_tx, .inr (4, [.ref a_sg, .int w_ln, .int w_pl, .int w_wr])), (a_sg, .inl (k_sg, 120, .inl f_sg)), (a_to, .inr (3, [.int r_ki, .int r_ty, .int r_pe, .int r_de, .int r_da, .int r_re, .int r_ga, .int r_rc, .int r_rk, .int r_me, .int r_le]))] sz)) 0 0 (va_A [(a_tx, .inr (4, [.ref a_sg, .int w_ln, .int w_pl, .int w_wr])), (a_sg, .inl (k_sg, 120, .inl f_sg)), (a_to, .inr (3, [.int r_ki, .int r_ty, .int r_pe, .int r_de, .int r_da, .int r_re, .int r_ga, .int r_rc, .int r_rk, .int r_me, .int r_le]))] sz) := by
  refine Met.ofW (cc := c_T_readInto) (maxL := 2) (ret := (some .int)) (by decide) rfl ?_
  intro p e s m args below meth c s₁ B hml hv
  obtain ⟨rfl, hsz, hZ, hP, hK, hD0⟩ := hv
  have hx := B.exec
  have hb := B.bytes
  have hr := B.returns
  have hts0 := atoms_spec (ws := ws_T_readInto) B.pre
  have hts : ∀ w ∈ TT, w.before _ s = true := fun w h => hts0 w (List.mem_cons_of_mem _ h)
  have hown : s.vm.findClass "LoanRules$RuleText" = some m.cls := findClass_of_methodNamed B.named
  have hlocks := B.notSynchronized
  subst hsz
  have hD := hD0.self (sz := s.heap.size)
  generalize hAe : va_A [(a_tx, .inr (4, [.ref a_sg, .int w_ln, .int w_pl, .int w_wr])), (a_sg, .inl (k_sg, 120, .inl f_sg)), (a_to, .inr (3, [.int r_ki, .int r_ty, .int r_pe, .int r_de, .int r_da, .int r_re, .int r_ga, .int r_rc, .int r_rk, .int r_me, .int r_le]))] s.heap.size = A at hD hZ ⊢
  have hA : ∀ q : Nat, s.heap.size ≤ q → A q := fun q h => by rw [← hAe]; exact Or.inr h
  clear hAe hD0
  have hS : va_S A s.heap s.heap [] := va_S.rf
  replace hP : va_P (dC, dI) vwCl [(a_tx, .inr (4, [.ref a_sg, .int w_ln, .int w_pl, .int w_wr])), (a_sg, .inl (k_sg, 120, .inl f_sg)), (a_to, .inr (3, [.int r_ki, .int r_ty, .int r_pe, .int r_de, .int r_da, .int r_re, .int r_ga, .int r_rc, .int r_rk, .int r_me, .int r_le]))] s.heap := hP
  have hl := lv_entry ([.ref a_tx, .ref a_to]) (n := 2) (Nat.le_of_ble_eq_true rfl)
  rw [lg_entry_eq]
  generalize (lg_sl ([.ref a_tx, .ref a_to]) ++ List.replicate (2 - (lg_sl ([.ref a_tx, .ref a_to])).length) Slot.unset).toArray = ls at hl ⊢
  replace hl : lv_has ls 2 [(0, .ref a_tx), (1, .ref a_to)] := hl
  obtain ⟨z, hz⟩ : ∃ z, z = g_Cg_readInto w_ln f_sg r_de r_da r_re r_ga r_rc r_rk := ⟨_, rfl⟩
  have hE := hz
  rw [g_Cg_readInto] at hE
  refine lv_aload_n hx hb d_T_readInto_0 rfl (lv_at hl 0 rfl) ?_
  refine lv_iconst (v := 0) hx hb d_T_readInto_1 (by decide) ?_
  refine va_put (D := (dC, dI)) (ci := 4) (v := .int 0) (ty := .int) (C := "LoanRules$RuleText") (T := Fz_T) (N := 4) hx hb hts it_T tz_T tz_T_ok nz_T hown hK hP hD hS 0 rfl rfl 2 (by decide) (hts _ tw_74) (fun _ h9 => h9) rfl (by decide +kernel) rfl rfl (Nat.le_of_ble_eq_true rfl) d_T_readInto_2 (fun H locs hP hD hS => ?_)
  replace hP : va_P (dC, dI) vwCl [(a_tx, .inr (4, [.ref a_sg, .int w_ln, .int 0, .int w_wr])), (a_sg, .inl (k_sg, 120, .inl f_sg)), (a_to, .inr (3, [.int r_ki, .int r_ty, .int r_pe, .int r_de, .int r_da, .int r_re, .int r_ga, .int r_rc, .int r_rk, .int r_me, .int r_le]))] H := hP
  replace hD : va_D A [(a_tx, .inr (4, [.ref a_sg, .int w_ln, .int 0, .int w_wr])), (a_sg, .inl (k_sg, 120, .inl f_sg)), (a_to, .inr (3, [.int r_ki, .int r_ty, .int r_pe, .int r_de, .int r_da, .int r_re, .int r_ga, .int r_rc, .int r_rk, .int r_me, .int r_le]))] := hD
  refine lv_aload_n hx hb d_T_readInto_5 rfl (lv_at hl 0 rfl) ?_
  refine lv_iconst (v := (-1)) hx hb d_T_readInto_6 (by decide) ?_
  refine va_put (D := (dC, dI)) (ci := 4) (v := .int (-1)) (ty := .int) (C := "LoanRules$RuleText") (T := Fz_T) (N := 4) hx hb hts it_T tz_T tz_T_ok nz_T hown hK hP hD hS 0 rfl rfl 3 (by decide) (hts _ tw_75) (fun _ h9 => h9) rfl (by decide +kernel) rfl rfl (Nat.le_of_ble_eq_true rfl) d_T_readInto_7 (fun H locs hP hD hS => ?_)
  replace hP : va_P (dC, dI) vwCl [(a_tx, .inr (4, [.ref a_sg, .int w_ln, .int 0, .int (-1)])), (a_sg, .inl (k_sg, 120, .inl f_sg)), (a_to, .inr (3, [.int r_ki, .int r_ty, .int r_pe, .int r_de, .int r_da, .int r_re, .int r_ga, .int r_rc, .int r_rk, .int r_me, .int r_le]))] H := hP
  replace hD : va_D A [(a_tx, .inr (4, [.ref a_sg, .int w_ln, .int 0, .int (-1)])), (a_sg, .inl (k_sg, 120, .inl f_sg)), (a_to, .inr (3, [.int r_ki, .int r_ty, .int r_pe, .int r_de, .int r_da, .int r_re, .int r_ga, .int r_rc, .int r_rk, .int r_me, .int r_le]))] := hD
  refine lv_aload_n hx hb d_T_readInto_10 rfl (lv_at hl 1 rfl) ?_
  refine lv_aload_n hx hb d_T_readInto_11 rfl (lv_at hl 0 rfl) ?_
  refine va_ldcS hx hb hown (zs_T_25 hZ) d_T_readInto_12 ?_
  refine lv_iconst (v := 1) hx hb d_T_readInto_14 (by decide) ?_
  refine lv_bipush (v := 9) hx hb d_T_readInto_15 (by decide) ?_
  have hPc := hP.sub (ws' := [(a_tx, .inr (4, [.ref a_sg, .int w_ln, .int 0, .int (-1)])), (a_sg, .inl (k_sg, 120, .inl f_sg))]) [0, 1] rfl
  have hKc := hK.sub (tys' := [(k_sg, .char)]) [0] rfl
  have hDc := hD.sub (ws' := [(a_tx, .inr (4, [.ref a_sg, .int w_ln, .int 0, .int (-1)])), (a_sg, .inl (k_sg, 120, .inl f_sg))]) [0, 1] (by decide) rfl
  have hFc := va_free (wc := [(a_tx, .inr (4, [.ref a_sg, .int w_ln, .int 0, .int (-1)])), (a_sg, .inl (k_sg, 120, .inl f_sg))]) hD hS hA [0, 1] rfl
  refine va_calli (va_runV (As := [.ref (adK 8), .int 1, .int 9]) (rest := [.ref a_to]) ⟨hx, hb, hml, hown, hts⟩ (c_Cg_readCondition l dC dI adK adV (a_tx := a_tx) (iw := 8) (p0 := 1) (p1 := 9) (a_sg := a_sg) (w_ln := w_ln) (w_pl := 0) (w_wr := (-1)) (k_sg := k_sg) (f_sg := f_sg) (sz := H.size) (by decide) hln (by decide)) (cwV 3 hts (gV tw_231 tw_233 tw_0 tw_43 tw_234) rfl rfl rfl (by decide +kernel) ⟨(Nat.le_of_ble_eq_true rfl), (Nat.le_of_ble_eq_true rfl)⟩) ⟨fun a U g mk q => by obtain ⟨q0, q1, qZ, qP, qK, qD⟩ := q; exact ⟨q0, q1, zz_call qZ, qP, va_K.moved (u := U) (U := U.calling g mk a) (Vm.Alike.refl U.vm) qK, qD⟩, va_recv hKc hPc (ci := 4) (q0 := 0) rfl rfl, fun U hU hW => ⟨rfl, by rw [hU], zz_rw hS hFc hU hW hZ, by rw [hU]; exact hPc, va_K.moved hW.alike hKc, hDc.weaken (fun _ _ _ _ => trivial)⟩⟩ rfl rfl hl.1 rfl (lv_room (Nat.le_of_ble_eq_true rfl)) d_T_readInto_17 ⟨(Nat.le_of_ble_eq_true rfl), (Nat.le_of_ble_eq_true rfl)⟩) hS (fun q _ h => hFc q h) hFc (fun r_1 u t H1 locs ht hvm hw_2 hB hz1 hk1 hS => ?_)
  generalize hg_x_3 : g_Cg_readCondition 1 9 8 w_ln 0 (-1) f_sg = x_3 at hw_2 hB hE
  rw [bv_eq] at hE
  obtain ⟨hP1, hK1, hD1⟩ := hB
  rw [ht] at hP1
  have hK1 := va_K.moved hvm.symm hK1
  obtain rfl : r_1 = x_3.1 := hw_2
  obtain ⟨hP, hD⟩ := va_join (wr := [(a_to, .inr (3, [.int r_ki, .int r_ty, .int r_pe, .int r_de, .int r_da, .int r_re, .int r_ga, .int r_rc, .int r_rk, .int r_me, .int r_le]))]) (w1 := [(a_tx, .inr (4, [.ref a_sg, .int w_ln, .int x_3.2.1, .int x_3.2.2])), (a_sg, .inl (k_sg, 120, .inl f_sg))]) hP hD [0, 1] [2] rfl rfl (by decide) (by decide) hk1 hFc hP1 hD1
  replace hK := (hK.sub (tys' := []) [] rfl).app hK1
  generalize H1 = H at hP hS ⊢
  replace hP := hP.sub (ws' := [(a_tx, .inr (4, [.ref a_sg, .int w_ln, .int x_3.2.1, .int x_3.2.2])), (a_sg, .inl (k_sg, 120, .inl f_sg)), (a_to, .inr (3, [.int r_ki, .int r_ty, .int r_pe, .int r_de, .int r_da, .int r_re, .int r_ga, .int r_rc, .int r_rk, .int r_me, .int r_le]))]) [1, 2, 0] rfl
  replace hD := hD.sub (ws' := [(a_tx, .inr (4, [.ref a_sg, .int w_ln, .int x_3.2.1, .int x_3.2.2])), (a_sg, .inl (k_sg, 120, .inl f_sg)), (a_to, .inr (3, [.int r_ki, .int r_ty, .int r_pe, .int r_de, .int r_da, .int r_re, .int r_ga, .int r_rc, .int r_rk, .int r_me, .int r_le]))]) [1, 2, 0] (by decide) rfl
  replace hK := hK.sub (tys' := [(k_sg, .char)]) [0] rfl
  refine va_put (D := (dC, dI)) (ci := 3) (v := .int x_3.1) (ty := .int) (C := "LoanRules$Rule") (T := Fz_R) (N := 11) hx hb hts it_R tz_R tz_R_ok nz_R hown hK hP hD hS 2 rfl rfl 0 (by decide) (hts _ tw_173) (fun _ h9 => h9) rfl (by decide +kernel) rfl rfl (Nat.le_of_ble_eq_true rfl) d_T_readInto_20 (fun H locs hP hD hS => ?_)
  replace hP : va_P (dC, dI) vwCl [(a_tx, .inr (4, [.ref a_sg, .int w_ln, .int x_3.2.1, .int x_3.2.2])), (a_sg, .inl (k_sg, 120, .inl f_sg)), (a_to, .inr (3, [.int x_3.1, .int r_ty, .int r_pe, .int r_de, .int r_da, .int r_re, .int r_ga, .int r_rc, .int r_rk, .int r_me, .int r_le]))] H := hP
  replace hD : va_D A [(a_tx, .inr (4, [.ref a_sg, .int w_ln, .int x_3.2.1, .int x_3.2.2])), (a_sg, .inl (k_sg, 120, .inl f_sg)), (a_to, .inr (3, [.int x_3.1, .int r_ty, .int r_pe, .int r_de, .int r_da, .int r_re, .int r_ga, .int r_rc, .int r_rk, .int r_me, .int r_le]))] := hD
  refine lv_aload_n hx hb d_T_readInto_23 rfl (lv_at hl 1 rfl) ?_
  refine lv_aload_n hx hb d_T_readInto_24 rfl (lv_at hl 0 rfl) ?_
  refine va_ldcS hx hb hown (zs_T_35 hZ) d_T_readInto_25 ?_
  refine lv_iconst (v := 1) hx hb d_T_readInto_27 (by decide) ?_
  refine lv_bipush (v := 9) hx hb d_T_readInto_28 (by decide) ?_
  have hPc := hP.sub (ws' := [(a_tx, .inr (4, [.ref a_sg, .int w_ln, .int x_3.2.1, .int x_3.2.2])), (a_sg, .inl (k_sg, 120, .inl f_sg))]) [0, 1] rfl
  have hKc := hK.sub (tys' := [(k_sg, .char)]) [0] rfl
  have hDc := hD.sub (ws' := [(a_tx, .inr (4, [.ref a_sg, .int w_ln, .int x_3.2.1, .int x_3.2.2])), (a_sg, .inl (k_sg, 120, .inl f_sg))]) [0, 1] (by decide) rfl
  have hFc := va_free (wc := [(a_tx, .inr (4, [.ref a_sg, .int w_ln, .int x_3.2.1, .int x_3.2.2])), (a_sg, .inl (k_sg, 120, .inl f_sg))]) hD hS hA [0, 1] rfl
  refine va_calli (va_runV (As := [.ref (adK 9), .int 1, .int 9]) (rest := [.ref a_to]) ⟨hx, hb, hml, hown, hts⟩ (c_Cg_readCondition l dC dI adK adV (a_tx := a_tx) (iw := 9) (p0 := 1) (p1 := 9) (a_sg := a_sg) (w_ln := w_ln) (w_pl := x_3.2.1) (w_wr := x_3.2.2) (k_sg := k_sg) (f_sg := f_sg) (sz := H.size) (by decide) hln (ga21 hg_x_3 (rcn_at (by decide) hln (by decide)))) (cwV 3 hts (gV tw_231 tw_233 tw_0 tw_43 tw_234) rfl rfl rfl (by decide +kernel) ⟨(Nat.le_of_ble_eq_true rfl), (Nat.le_of_ble_eq_true rfl)⟩) ⟨fun a U g mk q => by obtain ⟨q0, q1, qZ, qP, qK, qD⟩ := q; exact ⟨q0, q1, zz_call qZ, qP, va_K.moved (u := U) (U := U.calling g mk a) (Vm.Alike.refl U.vm) qK, qD⟩, va_recv hKc hPc (ci := 4) (q0 := 0) rfl rfl, fun U hU hW => ⟨rfl, by rw [hU], zz_rw hS hFc hU hW hZ, by rw [hU]; exact hPc, va_K.moved hW.alike hKc, hDc.weaken (fun _ _ _ _ => trivial)⟩⟩ rfl rfl hl.1 rfl (lv_room (Nat.le_of_ble_eq_true rfl)) d_T_readInto_30 ⟨(Nat.le_of_ble_eq_true rfl), (Nat.le_of_ble_eq_true rfl)⟩) hS (fun q _ h => hFc q h) hFc (fun r_4 u t H1 locs ht hvm hw_5 hB hz1 hk1 hS => ?_)
  generalize hg_x_6 : g_Cg_readCondition 1 9 9 w_ln x_3.2.1 x_3.2.2 f_sg = x_6 at hw_5 hB hE
  rw [bv_eq] at hE
  obtain ⟨hP1, hK1, hD1⟩ := hB
  rw [ht] at hP1
  have hK1 := va_K.moved hvm.symm hK1
  obtain rfl : r_4 = x_6.1 := hw_5
  obtain ⟨hP, hD⟩ := va_join (wr := [(a_to, .inr (3, [.int x_3.1, .int r_ty, .int r_pe, .int r_de, .int r_da, .int r_re, .int r_ga, .int r_rc, .int r_rk, .int r_me, .int r_le]))]) (w1 := [(a_tx, .inr (4, [.ref a_sg, .int w_ln, .int x_6.2.1, .int x_6.2.2])), (a_sg, .inl (k_sg, 120, .inl f_sg))]) hP hD [0, 1] [2] rfl rfl (by decide) (by decide) hk1 hFc hP1 hD1
  replace hK := (hK.sub (tys' := []) [] rfl).app hK1
  generalize H1 = H at hP hS ⊢
  replace hP := hP.sub (ws' := [(a_tx, .inr (4, [.ref a_sg, .int w_ln, .int x_6.2.1, .int x_6.2.2])), (a_sg, .inl (k_sg, 120, .inl f_sg)), (a_to, .inr (3, [.int x_3.1, .int r_ty, .int r_pe, .int r_de, .int r_da, .int r_re, .int r_ga, .int r_rc, .int r_rk, .int r_me, .int r_le]))]) [1, 2, 0] rfl
  replace hD := hD.sub (ws' := [(a_tx, .inr (4, [.ref a_sg, .int w_ln, .int x_6.2.1, .int x_6.2.2])), (a_sg, .inl (k_sg, 120, .inl f_sg)), (a_to, .inr (3, [.int x_3.1, .int r_ty, .int r_pe, .int r_de, .int r_da, .int r_re, .int r_ga, .int r_rc, .int r_rk, .int r_me, .int r_le]))]) [1, 2, 0] (by decide) rfl
  replace hK := hK.sub (tys' := [(k_sg, .char)]) [0] rfl
  refine va_put (D := (dC, dI)) (ci := 3) (v := .int x_6.1) (ty := .int) (C := "LoanRules$Rule") (T := Fz_R) (N := 11) hx hb hts it_R tz_R tz_R_ok nz_R hown hK hP hD hS 2 rfl rfl 1 (by decide) (hts _ tw_176) (fun _ h9 => h9) rfl (by decide +kernel) rfl rfl (Nat.le_of_ble_eq_true rfl) d_T_readInto_33 (fun H locs hP hD hS => ?_)
  replace hP : va_P (dC, dI) vwCl [(a_tx, .inr (4, [.ref a_sg, .int w_ln, .int x_6.2.1, .int x_6.2.2])), (a_sg, .inl (k_sg, 120, .inl f_sg)), (a_to, .inr (3, [.int x_3.1, .int x_6.1, .int r_pe, .int r_de, .int r_da, .int r_re, .int r_ga, .int r_rc, .int r_rk, .int r_me, .int r_le]))] H := hP
  replace hD : va_D A [(a_tx, .inr (4, [.ref a_sg, .int w_ln, .int x_6.2.1, .int x_6.2.2])), (a_sg, .inl (k_sg, 120, .inl f_sg)), (a_to, .inr (3, [.int x_3.1, .int x_6.1, .int r_pe, .int r_de, .int r_da, .int r_re, .int r_ga, .int r_rc, .int r_rk, .int r_me, .int r_le]))] := hD
  refine lv_aload_n hx hb d_T_readInto_36 rfl (lv_at hl 1 rfl) ?_
  refine lv_aload_n hx hb d_T_readInto_37 rfl (lv_at hl 0 rfl) ?_
  refine va_ldcS hx hb hown (zs_T_39 hZ) d_T_readInto_38 ?_
  refine lv_iconst (v := 2) hx hb d_T_readInto_40 (by decide) ?_
  refine lv_bipush (v := 49) hx hb d_T_readInto_41 (by decide) ?_
  have hPc := hP.sub (ws' := [(a_tx, .inr (4, [.ref a_sg, .int w_ln, .int x_6.2.1, .int x_6.2.2])), (a_sg, .inl (k_sg, 120, .inl f_sg))]) [0, 1] rfl
  have hKc := hK.sub (tys' := [(k_sg, .char)]) [0] rfl
  have hDc := hD.sub (ws' := [(a_tx, .inr (4, [.ref a_sg, .int w_ln, .int x_6.2.1, .int x_6.2.2])), (a_sg, .inl (k_sg, 120, .inl f_sg))]) [0, 1] (by decide) rfl
  have hFc := va_free (wc := [(a_tx, .inr (4, [.ref a_sg, .int w_ln, .int x_6.2.1, .int x_6.2.2])), (a_sg, .inl (k_sg, 120, .inl f_sg))]) hD hS hA [0, 1] rfl
  refine va_calli (va_runV (As := [.ref (adK 10), .int 2, .int 49]) (rest := [.ref a_to]) ⟨hx, hb, hml, hown, hts⟩ (c_Cg_readCondition l dC dI adK adV (a_tx := a_tx) (iw := 10) (p0 := 2) (p1 := 49) (a_sg := a_sg) (w_ln := w_ln) (w_pl := x_6.2.1) (w_wr := x_6.2.2) (k_sg := k_sg) (f_sg := f_sg) (sz := H.size) (by decide) hln (ga21 hg_x_6 (rcn_at (by decide) hln (ga21 hg_x_3 (rcn_at (by decide) hln (by decide)))))) (cwV 3 hts (gV tw_231 tw_233 tw_0 tw_43 tw_234) rfl rfl rfl (by decide +kernel) ⟨(Nat.le_of_ble_eq_true rfl), (Nat.le_of_ble_eq_true rfl)⟩) ⟨fun a U g mk q => by obtain ⟨q0, q1, qZ, qP, qK, qD⟩ := q; exact ⟨q0, q1, zz_call qZ, qP, va_K.moved (u := U) (U := U.calling g mk a) (Vm.Alike.refl U.vm) qK, qD⟩, va_recv hKc hPc (ci := 4) (q0 := 0) rfl rfl, fun U hU hW => ⟨rfl, by rw [hU], zz_rw hS hFc hU hW hZ, by rw [hU]; exact hPc, va_K.moved hW.alike hKc, hDc.weaken (fun _ _ _ _ => trivial)⟩⟩ rfl rfl hl.1 rfl (lv_room (Nat.le_of_ble_eq_true rfl)) d_T_readInto_43 ⟨(Nat.le_of_ble_eq_true rfl), (Nat.le_of_ble_eq_true rfl)⟩) hS (fun q _ h => hFc q h) hFc (fun r_7 u t H1 locs ht hvm hw_8 hB hz1 hk1 hS => ?_)
  generalize hg_x_9 : g_Cg_readCondition 2 49 10 w_ln x_6.2.1 x_6.2.2 f_sg = x_9 at hw_8 hB hE
  rw [bv_eq] at hE
  obtain ⟨hP1, hK1, hD1⟩ := hB
  rw [ht] at hP1
  have hK1 := va_K.moved hvm.symm hK1
  obtain rfl : r_7 = x_9.1 := hw_8
  obtain ⟨hP, hD⟩ := va_join (wr := [(a_to, .inr (3, [.int x_3.1, .int x_6.1, .int r_pe, .int r_de, .int r_da, .int r_re, .int r_ga, .int r_rc, .int r_rk, .int r_me, .int r_le]))]) (w1 := [(a_tx, .inr (4, [.ref a_sg, .int w_ln, .int x_9.2.1, .int x_9.2.2])), (a_sg, .inl (k_sg, 120, .inl f_sg))]) hP hD [0, 1] [2] rfl rfl (by decide) (by decide) hk1 hFc hP1 hD1
  replace hK := (hK.sub (tys' := []) [] rfl).app hK1
  generalize H1 = H at hP hS ⊢
  replace hP := hP.sub (ws' := [(a_tx, .inr (4, [.ref a_sg, .int w_ln, .int x_9.2.1, .int x_9.2.2])), (a_sg, .inl (k_sg, 120, .inl f_sg)), (a_to, .inr (3, [.int x_3.1, .int x_6.1, .int r_pe, .int r_de, .int r_da, .int r_re, .int r_ga, .int r_rc, .int r_rk, .int r_me, .int r_le]))]) [1, 2, 0] rfl
  replace hD := hD.sub (ws' := [(a_tx, .inr (4, [.ref a_sg, .int w_ln, .int x_9.2.1, .int x_9.2.2])), (a_sg, .inl (k_sg, 120, .inl f_sg)), (a_to, .inr (3, [.int x_3.1, .int x_6.1, .int r_pe, .int r_de, .int r_da, .int r_re, .int r_ga, .int r_rc, .int r_rk, .int r_me, .int r_le]))]) [1, 2, 0] (by decide) rfl
  replace hK := hK.sub (tys' := [(k_sg, .char)]) [0] rfl
  refine va_put (D := (dC, dI)) (ci := 3) (v := .int x_9.1) (ty := .int) (C := "LoanRules$Rule") (T := Fz_R) (N := 11) hx hb hts it_R tz_R tz_R_ok nz_R hown hK hP hD hS 2 rfl rfl 2 (by decide) (hts _ tw_179) (fun _ h9 => h9) rfl (by decide +kernel) rfl rfl (Nat.le_of_ble_eq_true rfl) d_T_readInto_46 (fun H locs hP hD hS => ?_)
  replace hP : va_P (dC, dI) vwCl [(a_tx, .inr (4, [.ref a_sg, .int w_ln, .int x_9.2.1, .int x_9.2.2])), (a_sg, .inl (k_sg, 120, .inl f_sg)), (a_to, .inr (3, [.int x_3.1, .int x_6.1, .int x_9.1, .int r_de, .int r_da, .int r_re, .int r_ga, .int r_rc, .int r_rk, .int r_me, .int r_le]))] H := hP
  replace hD : va_D A [(a_tx, .inr (4, [.ref a_sg, .int w_ln, .int x_9.2.1, .int x_9.2.2])), (a_sg, .inl (k_sg, 120, .inl f_sg)), (a_to, .inr (3, [.int x_3.1, .int x_6.1, .int x_9.1, .int r_de, .int r_da, .int r_re, .int r_ga, .int r_rc, .int r_rk, .int r_me, .int r_le]))] := hD
  refine lv_aload_n hx hb d_T_readInto_49 rfl (lv_at hl 0 rfl) ?_
  refine lv_aload_n hx hb d_T_readInto_50 rfl (lv_at hl 1 rfl) ?_
  have hPc := hP.sub (ws' := [(a_tx, .inr (4, [.ref a_sg, .int w_ln, .int x_9.2.1, .int x_9.2.2])), (a_sg, .inl (k_sg, 120, .inl f_sg)), (a_to, .inr (3, [.int x_3.1, .int x_6.1, .int x_9.1, .int r_de, .int r_da, .int r_re, .int r_ga, .int r_rc, .int r_rk, .int r_me, .int r_le]))]) [0, 1, 2] rfl
  have hKc := hK.sub (tys' := [(k_sg, .char)]) [0] rfl
  have hDc := hD.sub (ws' := [(a_tx, .inr (4, [.ref a_sg, .int w_ln, .int x_9.2.1, .int x_9.2.2])), (a_sg, .inl (k_sg, 120, .inl f_sg)), (a_to, .inr (3, [.int x_3.1, .int x_6.1, .int x_9.1, .int r_de, .int r_da, .int r_re, .int r_ga, .int r_rc, .int r_rk, .int r_me, .int r_le]))]) [0, 1, 2] (by decide) rfl
  have hFc := va_free (wc := [(a_tx, .inr (4, [.ref a_sg, .int w_ln, .int x_9.2.1, .int x_9.2.2])), (a_sg, .inl (k_sg, 120, .inl f_sg)), (a_to, .inr (3, [.int x_3.1, .int x_6.1, .int x_9.1, .int r_de, .int r_da, .int r_re, .int r_ga, .int r_rc, .int r_rk, .int r_me, .int r_le]))]) hD hS hA [0, 1, 2] rfl
  refine va_callv (va_runV (As := [.ref a_to]) (rest := []) ⟨hx, hb, hml, hown, hts⟩ (c_Cg_readDeed l dC dI adK adV (a_tx := a_tx) (a_to := a_to) (a_sg := a_sg) (w_ln := w_ln) (w_pl := x_9.2.1) (w_wr := x_9.2.2) (k_sg := k_sg) (f_sg := f_sg) (r_ki := x_3.1) (r_ty := x_6.1) (r_pe := x_9.1) (r_de := r_de) (r_da := r_da) (r_re := r_re) (r_ga := r_ga) (r_rc := r_rc) (r_rk := r_rk) (r_me := r_me) (r_le := r_le) (sz := H.size) hln (ga21 hg_x_9 (rcn_at (by decide) hln (ga21 hg_x_6 (rcn_at (by decide) hln (ga21 hg_x_3 (rcn_at (by decide) hln (by decide)))))))) (cwV 1 hts (gV tw_311 tw_313 tw_6 tw_43 tw_314) rfl rfl rfl (by decide +kernel) ⟨(Nat.le_of_ble_eq_true rfl), (Nat.le_of_ble_eq_true rfl)⟩) ⟨fun a U g mk q => by obtain ⟨q0, q1, qZ, qP, qK, qD⟩ := q; exact ⟨q0, q1, zz_call qZ, qP, va_K.moved (u := U) (U := U.calling g mk a) (Vm.Alike.refl U.vm) qK, qD⟩, va_recv hKc hPc (ci := 4) (q0 := 0) rfl rfl, fun U hU hW => ⟨rfl, by rw [hU], zz_rw hS hFc hU hW hZ, by rw [hU]; exact hPc, va_K.moved hW.alike hKc, hDc.weaken (fun _ _ _ _ => trivial)⟩⟩ rfl rfl hl.1 rfl (lv_room (Nat.le_of_ble_eq_true rfl)) d_T_readInto_51 ⟨(Nat.le_of_ble_eq_true rfl), (Nat.le_of_ble_eq_true rfl)⟩) hS (fun q _ h => hFc q h) hFc (fun u t H1 locs ht hvm hw_10 hB hz1 hk1 hS => ?_)
  generalize hg_x_11 : g_Cg_readDeed w_ln x_9.2.1 x_9.2.2 f_sg r_de r_da = x_11 at hw_10 hB hE
  rw [bv_eq] at hE
  obtain ⟨hP1, hK1, hD1⟩ := hB
  rw [ht] at hP1
  have hK1 := va_K.moved hvm.symm hK1
  obtain ⟨hP, hD⟩ := va_join (wr := []) (w1 := [(a_tx, .inr (4, [.ref a_sg, .int w_ln, .int x_11.1, .int x_11.2.1])), (a_sg, .inl (k_sg, 120, .inl f_sg)), (a_to, .inr (3, [.int x_3.1, .int x_6.1, .int x_9.1, .int x_11.2.2.1, .int x_11.2.2.2, .int r_re, .int r_ga, .int r_rc, .int r_rk, .int r_me, .int r_le]))]) hP hD [0, 1, 2] [] rfl rfl (by decide) (by decide) hk1 hFc hP1 hD1
  replace hK := (hK.sub (tys' := []) [] rfl).app hK1
  generalize H1 = H at hP hS ⊢
  replace hP := hP.sub (ws' := [(a_tx, .inr (4, [.ref a_sg, .int w_ln, .int x_11.1, .int x_11.2.1])), (a_sg, .inl (k_sg, 120, .inl f_sg)), (a_to, .inr (3, [.int x_3.1, .int x_6.1, .int x_9.1, .int x_11.2.2.1, .int x_11.2.2.2, .int r_re, .int r_ga, .int r_rc, .int r_rk, .int r_me, .int r_le]))]) [0, 1, 2] rfl
  replace hD := hD.sub (ws' := [(a_tx, .inr (4, [.ref a_sg, .int w_ln, .int x_11.1, .int x_11.2.1])), (a_sg, .inl (k_sg, 120, .inl f_sg)), (a_to, .inr (3, [.int x_3.1, .int x_6.1, .int x_9.1, .int x_11.2.2.1, .int x_11.2.2.2, .int r_re, .int r_ga, .int r_rc, .int r_rk, .int r_me, .int r_le]))]) [0, 1, 2] (by decide) rfl
  replace hK := hK.sub (tys' := [(k_sg, .char)]) [0] rfl
  refine lv_aload_n hx hb d_T_readInto_54 rfl (lv_at hl 0 rfl) ?_
  refine lv_aload_n hx hb d_T_readInto_55 rfl (lv_at hl 1 rfl) ?_
  have hPc := hP.sub (ws' := [(a_tx, .inr (4, [.ref a_sg, .int w_ln, .int x_11.1, .int x_11.2.1])), (a_sg, .inl (k_sg, 120, .inl f_sg)), (a_to, .inr (3, [.int x_3.1, .int x_6.1, .int x_9.1, .int x_11.2.2.1, .int x_11.2.2.2, .int r_re, .int r_ga, .int r_rc, .int r_rk, .int r_me, .int r_le]))]) [0, 1, 2] rfl
  have hKc := hK.sub (tys' := [(k_sg, .char)]) [0] rfl
  have hDc := hD.sub (ws' := [(a_tx, .inr (4, [.ref a_sg, .int w_ln, .int x_11.1, .int x_11.2.1])), (a_sg, .inl (k_sg, 120, .inl f_sg)), (a_to, .inr (3, [.int x_3.1, .int x_6.1, .int x_9.1, .int x_11.2.2.1, .int x_11.2.2.2, .int r_re, .int r_ga, .int r_rc, .int r_rk, .int r_me, .int r_le]))]) [0, 1, 2] (by decide) rfl
  have hFc := va_free (wc := [(a_tx, .inr (4, [.ref a_sg, .int w_ln, .int x_11.1, .int x_11.2.1])), (a_sg, .inl (k_sg, 120, .inl f_sg)), (a_to, .inr (3, [.int x_3.1, .int x_6.1, .int x_9.1, .int x_11.2.2.1, .int x_11.2.2.2, .int r_re, .int r_ga, .int r_rc, .int r_rk, .int r_me, .int r_le]))]) hD hS hA [0, 1, 2] rfl
  refine va_callv (va_runV (As := [.ref a_to]) (rest := []) ⟨hx, hb, hml, hown, hts⟩ (c_Cg_readRest l dC dI adK adV (a_tx := a_tx) (a_to := a_to) (a_sg := a_sg) (w_ln := w_ln) (w_pl := x_11.1) (w_wr := x_11.2.1) (k_sg := k_sg) (f_sg := f_sg) (r_ki := x_3.1) (r_ty := x_6.1) (r_pe := x_9.1) (r_de := x_11.2.2.1) (r_da := x_11.2.2.2) (r_re := r_re) (r_ga := r_ga) (r_rc := r_rc) (r_rk := r_rk) (r_me := r_me) (r_le := r_le) (sz := H.size) hln (ga1 hg_x_11 (rdd_at hln (ga21 hg_x_9 (rcn_at (by decide) hln (ga21 hg_x_6 (rcn_at (by decide) hln (ga21 hg_x_3 (rcn_at (by decide) hln (by decide)))))))))) (cwV 1 hts (gV tw_327 tw_329 tw_9 tw_43 tw_330) rfl rfl rfl (by decide +kernel) ⟨(Nat.le_of_ble_eq_true rfl), (Nat.le_of_ble_eq_true rfl)⟩) ⟨fun a U g mk q => by obtain ⟨q0, q1, qZ, qP, qK, qD⟩ := q; exact ⟨q0, q1, zz_call qZ, qP, va_K.moved (u := U) (U := U.calling g mk a) (Vm.Alike.refl U.vm) qK, qD⟩, va_recv hKc hPc (ci := 4) (q0 := 0) rfl rfl, fun U hU hW => ⟨rfl, by rw [hU], zz_rw hS hFc hU hW hZ, by rw [hU]; exact hPc, va_K.moved hW.alike hKc, hDc.weaken (fun _ _ _ _ => trivial)⟩⟩ rfl rfl hl.1 rfl (lv_room (Nat.le_of_ble_eq_true rfl)) d_T_readInto_56 ⟨(Nat.le_of_ble_eq_true rfl), (Nat.le_of_ble_eq_true rfl)⟩) hS (fun q _ h => hFc q h) hFc (fun u t H1 locs ht hvm hw_12 hB hz1 hk1 hS => ?_)
  generalize hg_x_13 : g_Cg_readRest w_ln x_11.1 x_11.2.1 f_sg x_11.2.2.1 r_re r_ga r_rc r_rk = x_13 at hw_12 hB hE
  rw [bv_eq] at hE
  obtain ⟨hP1, hK1, hD1⟩ := hB
  rw [ht] at hP1
  have hK1 := va_K.moved hvm.symm hK1
  obtain ⟨hP, hD⟩ := va_join (wr := []) (w1 := [(a_tx, .inr (4, [.ref a_sg, .int w_ln, .int x_13.1, .int x_13.2.1])), (a_sg, .inl (k_sg, 120, .inl f_sg)), (a_to, .inr (3, [.int x_3.1, .int x_6.1, .int x_9.1, .int x_11.2.2.1, .int x_11.2.2.2, .int x_13.2.2.1, .int x_13.2.2.2.1, .int x_13.2.2.2.2.1, .int x_13.2.2.2.2.2, .int r_me, .int r_le]))]) hP hD [0, 1, 2] [] rfl rfl (by decide) (by decide) hk1 hFc hP1 hD1
  replace hK := (hK.sub (tys' := []) [] rfl).app hK1
  generalize H1 = H at hP hS ⊢
  replace hP := hP.sub (ws' := [(a_tx, .inr (4, [.ref a_sg, .int w_ln, .int x_13.1, .int x_13.2.1])), (a_sg, .inl (k_sg, 120, .inl f_sg)), (a_to, .inr (3, [.int x_3.1, .int x_6.1, .int x_9.1, .int x_11.2.2.1, .int x_11.2.2.2, .int x_13.2.2.1, .int x_13.2.2.2.1, .int x_13.2.2.2.2.1, .int x_13.2.2.2.2.2, .int r_me, .int r_le]))]) [0, 1, 2] rfl
  replace hD := hD.sub (ws' := [(a_tx, .inr (4, [.ref a_sg, .int w_ln, .int x_13.1, .int x_13.2.1])), (a_sg, .inl (k_sg, 120, .inl f_sg)), (a_to, .inr (3, [.int x_3.1, .int x_6.1, .int x_9.1, .int x_11.2.2.1, .int x_11.2.2.2, .int x_13.2.2.1, .int x_13.2.2.2.1, .int x_13.2.2.2.2.1, .int x_13.2.2.2.2.2, .int r_me, .int r_le]))]) [0, 1, 2] (by decide) rfl
  replace hK := hK.sub (tys' := [(k_sg, .char)]) [0] rfl
  refine lv_aload_n hx hb d_T_readInto_59 rfl (lv_at hl 0 rfl) ?_
  refine va_get (D := (dC, dI)) (ci := 4) (v := .int x_13.2.1) (C := "LoanRules$RuleText") (T := Fz_T) (N := 4) hx hb hts it_T hown hK hP 0 rfl rfl 3 (by decide) (hts _ tw_75) (fun _ h9 => h9) rfl d_T_readInto_60 ?_
  have hP9 := hP.sub (ws' := [(a_tx, .inr (4, [.ref a_sg, .int w_ln, .int x_13.1, .int x_13.2.1])), (a_sg, .inl (k_sg, 120, .inl f_sg)), (a_to, .inr (3, [.int x_3.1, .int x_6.1, .int x_9.1, .int x_11.2.2.1, .int x_11.2.2.2, .int x_13.2.2.1, .int x_13.2.2.2.1, .int x_13.2.2.2.2.1, .int x_13.2.2.2.2.2, .int r_me, .int r_le]))]) [0, 1, 2] rfl
  have hD9 := hD.sub (ws' := [(a_tx, .inr (4, [.ref a_sg, .int w_ln, .int x_13.1, .int x_13.2.1])), (a_sg, .inl (k_sg, 120, .inl f_sg)), (a_to, .inr (3, [.int x_3.1, .int x_6.1, .int x_9.1, .int x_11.2.2.1, .int x_11.2.2.2, .int x_13.2.2.1, .int x_13.2.2.2.1, .int x_13.2.2.2.2.1, .int x_13.2.2.2.2.2, .int r_me, .int r_le]))]) [0, 1, 2] (by decide) rfl
  have hK9 := hK.sub (tys' := [(k_sg, .char)]) [0] rfl
  exact W.iret (v := x_13.2.1) hx hb hr (fun t ht hW => ⟨⟨x_13.2.1, (), rfl, by rw [← hz, hE], by rw [ht, ← hz, hE]; exact hP9, va_K.moved hW.alike hK9, by rw [← hz, hE]; exact hD9⟩, hS.F ht⟩) hS.2.2 d_T_readInto_63
