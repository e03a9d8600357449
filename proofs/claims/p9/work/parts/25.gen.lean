set_option maxHeartbeats 4000000 in
set_option maxRecDepth 100000 in
theorem c_Cg_Rule_init (l : Launch) (dC : Nat → ClassId) (dI : Nat → Nat → Nat) (adK adV : Nat → Nat) (a_to : Nat) (r_ki : Int32) (r_ty : Int32) (r_pe : Int32) (r_de : Int32) (r_da : Int32) (r_re : Int32) (r_ga : Int32) (r_rc : Int32) (r_rk : Int32) (r_me : Int32) (r_le : Int32) (sz : Nat) : Met l y_R_init ws_R_init ({ frames := 1, cells := 0, slots := 0, locals := 12 }) (va_Pc [.ref a_to] (fun U => U.heap.size = sz ∧ zz adK adV (va_A [(a_to, .inr (3, [.int r_ki, .int r_ty, .int r_pe, .int r_de, .int r_da, .int r_re, .int r_ga, .int r_rc, .int r_rk, .int r_me, .int r_le]))] sz) U ∧ va_P (dC, dI) vwCl [(a_to, .inr (3, [.int r_ki, .int r_ty, .int r_pe, .int r_de, .int r_da, .int r_re, .int r_ga, .int r_rc, .int r_rk, .int r_me, .int r_le]))] U.heap ∧ va_K (dC, dI) vwCl [] U ∧ va_D (fun _ => True) [(a_to, .inr (3, [.int r_ki, .int r_ty, .int r_pe, .int r_de, .int r_da, .int r_re, .int r_ga, .int r_rc, .int r_rk, .int r_me, .int r_le]))])) (va_Qv (fun _ : Unit => True) (fun (_ : Unit) (t : State) => va_P (dC, dI) vwCl [(a_to, .inr (3, [.int (-1), .int (-1), .int (-1), .int 2, .int 0, .int 0, .int 0, .int 7, .int 0, .int 0, .int 0]))] t.heap ∧ va_K (dC, dI) vwCl [] t ∧ va_D (va_A [(a_to, .inr (3, [.int r_ki, .int r_ty, .int r_pe, .int r_de, .int r_da, .int r_re, .int r_ga, .int r_rc, .int r_rk, .int r_me, .int r_le]))] sz) [(a_to, .inr (3, [.int (-1), .int (-1), .int (-1), .int 2, .int 0, .int 0, .int 0, .int 7, .int 0, .int 0, .int 0]))]) (va_A [(a_to, .inr (3, [.int r_ki, .int r_ty, .int r_pe, .int r_de, .int r_da, .int r_re, .int r_ga, .int r_rc, .int r_rk, .int r_me, .int r_le]))] sz)) 0 0 (va_A [(a_to, .inr (3, [.int r_ki, .int r_ty, .int r_pe, .int r_de, .int r_da, .int r_re, .int r_ga, .int r_rc, .int r_rk, .int r_me, .int r_le]))] sz) := by
  refine Met.ofW (cc := c_R_init) (maxL := 1) (ret := none) (by decide) rfl ?_
  intro p e s m args below meth c s₁ B hml hv
  obtain ⟨rfl, hsz, hZ, hP, hK, hD0⟩ := hv
  have hx := B.exec
  have hb := B.bytes
  have hr := B.returns
  have hts0 := atoms_spec (ws := ws_R_init) B.pre
  have hts : ∀ w ∈ TT, w.before _ s = true := fun w h => hts0 w (List.mem_cons_of_mem _ h)
  have hown : s.vm.findClass "LoanRules$Rule" = some m.cls := findClass_of_methodNamed B.named
  have hlocks := B.notSynchronized
  have hin : meth.name = "<init>" := (name_of_methodNamed B.named B.method).1
  subst hsz
  have hD := hD0.self (sz := s.heap.size)
  generalize hAe : va_A [(a_to, .inr (3, [.int r_ki, .int r_ty, .int r_pe, .int r_de, .int r_da, .int r_re, .int r_ga, .int r_rc, .int r_rk, .int r_me, .int r_le]))] s.heap.size = A at hD hZ ⊢
  have hA : ∀ q : Nat, s.heap.size ≤ q → A q := fun q h => by rw [← hAe]; exact Or.inr h
  clear hAe hD0
  have hS : va_S A s.heap s.heap [] := va_S.rf
  replace hP : va_P (dC, dI) vwCl [(a_to, .inr (3, [.int r_ki, .int r_ty, .int r_pe, .int r_de, .int r_da, .int r_re, .int r_ga, .int r_rc, .int r_rk, .int r_me, .int r_le]))] s.heap := hP
  have hl := lv_entry ([.ref a_to]) (n := 1) (Nat.le_of_ble_eq_true rfl)
  rw [lg_entry_eq]
  generalize (lg_sl ([.ref a_to]) ++ List.replicate (1 - (lg_sl ([.ref a_to])).length) Slot.unset).toArray = ls at hl ⊢
  replace hl : lv_has ls 1 [(0, .ref a_to)] := hl
  refine lv_aload_n hx hb d_R_init_0 rfl (lv_at hl 0 rfl) ?_
  refine W.objInit hx hb hown (hts _ tw_171) (hts _ tw_64) (hts _ tw_65) rfl (by rw [hml]; exact hl.1) rfl d_R_init_1 (Nat.le_of_ble_eq_true rfl) (Nat.le_of_ble_eq_true rfl) ?_
  refine W.eq (g2 := F0 m 4 ls []) rfl ?_
  refine lv_aload_n hx hb d_R_init_4 rfl (lv_at hl 0 rfl) ?_
  refine lv_iconst (v := (-1)) hx hb d_R_init_5 (by decide) ?_
  refine va_put (D := (dC, dI)) (ci := 3) (v := .int (-1)) (ty := .int) (C := "LoanRules$Rule") (T := Fz_R) (N := 11) hx hb hts it_R tz_R tz_R_ok nz_R hown hK hP hD hS 0 rfl rfl 0 (by decide) (hts _ tw_172) (fun _ h9 => h9) rfl (by decide +kernel) rfl rfl (Nat.le_of_ble_eq_true rfl) d_R_init_6 (fun H locs hP hD hS => ?_)
  replace hP : va_P (dC, dI) vwCl [(a_to, .inr (3, [.int (-1), .int r_ty, .int r_pe, .int r_de, .int r_da, .int r_re, .int r_ga, .int r_rc, .int r_rk, .int r_me, .int r_le]))] H := hP
  replace hD : va_D A [(a_to, .inr (3, [.int (-1), .int r_ty, .int r_pe, .int r_de, .int r_da, .int r_re, .int r_ga, .int r_rc, .int r_rk, .int r_me, .int r_le]))] := hD
  refine lv_aload_n hx hb d_R_init_9 rfl (lv_at hl 0 rfl) ?_
  refine lv_iconst (v := (-1)) hx hb d_R_init_10 (by decide) ?_
  refine va_put (D := (dC, dI)) (ci := 3) (v := .int (-1)) (ty := .int) (C := "LoanRules$Rule") (T := Fz_R) (N := 11) hx hb hts it_R tz_R tz_R_ok nz_R hown hK hP hD hS 0 rfl rfl 1 (by decide) (hts _ tw_175) (fun _ h9 => h9) rfl (by decide +kernel) rfl rfl (Nat.le_of_ble_eq_true rfl) d_R_init_11 (fun H locs hP hD hS => ?_)
  replace hP : va_P (dC, dI) vwCl [(a_to, .inr (3, [.int (-1), .int (-1), .int r_pe, .int r_de, .int r_da, .int r_re, .int r_ga, .int r_rc, .int r_rk, .int r_me, .int r_le]))] H := hP
  replace hD : va_D A [(a_to, .inr (3, [.int (-1), .int (-1), .int r_pe, .int r_de, .int r_da, .int r_re, .int r_ga, .int r_rc, .int r_rk, .int r_me, .int r_le]))] := hD
  refine lv_aload_n hx hb d_R_init_14 rfl (lv_at hl 0 rfl) ?_
  refine lv_iconst (v := (-1)) hx hb d_R_init_15 (by decide) ?_
  refine va_put (D := (dC, dI)) (ci := 3) (v := .int (-1)) (ty := .int) (C := "LoanRules$Rule") (T := Fz_R) (N := 11) hx hb hts it_R tz_R tz_R_ok nz_R hown hK hP hD hS 0 rfl rfl 2 (by decide) (hts _ tw_178) (fun _ h9 => h9) rfl (by decide +kernel) rfl rfl (Nat.le_of_ble_eq_true rfl) d_R_init_16 (fun H locs hP hD hS => ?_)
  replace hP : va_P (dC, dI) vwCl [(a_to, .inr (3, [.int (-1), .int (-1), .int (-1), .int r_de, .int r_da, .int r_re, .int r_ga, .int r_rc, .int r_rk, .int r_me, .int r_le]))] H := hP
  replace hD : va_D A [(a_to, .inr (3, [.int (-1), .int (-1), .int (-1), .int r_de, .int r_da, .int r_re, .int r_ga, .int r_rc, .int r_rk, .int r_me, .int r_le]))] := hD
  refine lv_aload_n hx hb d_R_init_19 rfl (lv_at hl 0 rfl) ?_
  refine lv_iconst (v := 2) hx hb d_R_init_20 (by decide) ?_
  refine va_put (D := (dC, dI)) (ci := 3) (v := .int 2) (ty := .int) (C := "LoanRules$Rule") (T := Fz_R) (N := 11) hx hb hts it_R tz_R tz_R_ok nz_R hown hK hP hD hS 0 rfl rfl 3 (by decide) (hts _ tw_181) (fun _ h9 => h9) rfl (by decide +kernel) rfl rfl (Nat.le_of_ble_eq_true rfl) d_R_init_21 (fun H locs hP hD hS => ?_)
  replace hP : va_P (dC, dI) vwCl [(a_to, .inr (3, [.int (-1), .int (-1), .int (-1), .int 2, .int r_da, .int r_re, .int r_ga, .int r_rc, .int r_rk, .int r_me, .int r_le]))] H := hP
  replace hD : va_D A [(a_to, .inr (3, [.int (-1), .int (-1), .int (-1), .int 2, .int r_da, .int r_re, .int r_ga, .int r_rc, .int r_rk, .int r_me, .int r_le]))] := hD
  refine lv_aload_n hx hb d_R_init_24 rfl (lv_at hl 0 rfl) ?_
  refine lv_iconst (v := 0) hx hb d_R_init_25 (by decide) ?_
  refine va_put (D := (dC, dI)) (ci := 3) (v := .int 0) (ty := .int) (C := "LoanRules$Rule") (T := Fz_R) (N := 11) hx hb hts it_R tz_R tz_R_ok nz_R hown hK hP hD hS 0 rfl rfl 4 (by decide) (hts _ tw_184) (fun _ h9 => h9) rfl (by decide +kernel) rfl rfl (Nat.le_of_ble_eq_true rfl) d_R_init_26 (fun H locs hP hD hS => ?_)
  replace hP : va_P (dC, dI) vwCl [(a_to, .inr (3, [.int (-1), .int (-1), .int (-1), .int 2, .int 0, .int r_re, .int r_ga, .int r_rc, .int r_rk, .int r_me, .int r_le]))] H := hP
  replace hD : va_D A [(a_to, .inr (3, [.int (-1), .int (-1), .int (-1), .int 2, .int 0, .int r_re, .int r_ga, .int r_rc, .int r_rk, .int r_me, .int r_le]))] := hD
  refine lv_aload_n hx hb d_R_init_29 rfl (lv_at hl 0 rfl) ?_
  refine lv_iconst (v := 0) hx hb d_R_init_30 (by decide) ?_
  refine va_put (D := (dC, dI)) (ci := 3) (v := .int 0) (ty := .int) (C := "LoanRules$Rule") (T := Fz_R) (N := 11) hx hb hts it_R tz_R tz_R_ok nz_R hown hK hP hD hS 0 rfl rfl 5 (by decide) (hts _ tw_187) (fun _ h9 => h9) rfl (by decide +kernel) rfl rfl (Nat.le_of_ble_eq_true rfl) d_R_init_31 (fun H locs hP hD hS => ?_)
  replace hP : va_P (dC, dI) vwCl [(a_to, .inr (3, [.int (-1), .int (-1), .int (-1), .int 2, .int 0, .int 0, .int r_ga, .int r_rc, .int r_rk, .int r_me, .int r_le]))] H := hP
  replace hD : va_D A [(a_to, .inr (3, [.int (-1), .int (-1), .int (-1), .int 2, .int 0, .int 0, .int r_ga, .int r_rc, .int r_rk, .int r_me, .int r_le]))] := hD
  refine lv_aload_n hx hb d_R_init_34 rfl (lv_at hl 0 rfl) ?_
  refine lv_iconst (v := 0) hx hb d_R_init_35 (by decide) ?_
  refine va_put (D := (dC, dI)) (ci := 3) (v := .int 0) (ty := .int) (C := "LoanRules$Rule") (T := Fz_R) (N := 11) hx hb hts it_R tz_R tz_R_ok nz_R hown hK hP hD hS 0 rfl rfl 6 (by decide) (hts _ tw_190) (fun _ h9 => h9) rfl (by decide +kernel) rfl rfl (Nat.le_of_ble_eq_true rfl) d_R_init_36 (fun H locs hP hD hS => ?_)
  replace hP : va_P (dC, dI) vwCl [(a_to, .inr (3, [.int (-1), .int (-1), .int (-1), .int 2, .int 0, .int 0, .int 0, .int r_rc, .int r_rk, .int r_me, .int r_le]))] H := hP
  replace hD : va_D A [(a_to, .inr (3, [.int (-1), .int (-1), .int (-1), .int 2, .int 0, .int 0, .int 0, .int r_rc, .int r_rk, .int r_me, .int r_le]))] := hD
  refine lv_aload_n hx hb d_R_init_39 rfl (lv_at hl 0 rfl) ?_
  refine lv_bipush (v := 7) hx hb d_R_init_40 (by decide) ?_
  refine va_put (D := (dC, dI)) (ci := 3) (v := .int 7) (ty := .int) (C := "LoanRules$Rule") (T := Fz_R) (N := 11) hx hb hts it_R tz_R tz_R_ok nz_R hown hK hP hD hS 0 rfl rfl 7 (by decide) (hts _ tw_193) (fun _ h9 => h9) rfl (by decide +kernel) rfl rfl (Nat.le_of_ble_eq_true rfl) d_R_init_42 (fun H locs hP hD hS => ?_)
  replace hP : va_P (dC, dI) vwCl [(a_to, .inr (3, [.int (-1), .int (-1), .int (-1), .int 2, .int 0, .int 0, .int 0, .int 7, .int r_rk, .int r_me, .int r_le]))] H := hP
  replace hD : va_D A [(a_to, .inr (3, [.int (-1), .int (-1), .int (-1), .int 2, .int 0, .int 0, .int 0, .int 7, .int r_rk, .int r_me, .int r_le]))] := hD
  refine lv_aload_n hx hb d_R_init_45 rfl (lv_at hl 0 rfl) ?_
  refine lv_iconst (v := 0) hx hb d_R_init_46 (by decide) ?_
  refine va_put (D := (dC, dI)) (ci := 3) (v := .int 0) (ty := .int) (C := "LoanRules$Rule") (T := Fz_R) (N := 11) hx hb hts it_R tz_R tz_R_ok nz_R hown hK hP hD hS 0 rfl rfl 8 (by decide) (hts _ tw_196) (fun _ h9 => h9) rfl (by decide +kernel) rfl rfl (Nat.le_of_ble_eq_true rfl) d_R_init_47 (fun H locs hP hD hS => ?_)
  replace hP : va_P (dC, dI) vwCl [(a_to, .inr (3, [.int (-1), .int (-1), .int (-1), .int 2, .int 0, .int 0, .int 0, .int 7, .int 0, .int r_me, .int r_le]))] H := hP
  replace hD : va_D A [(a_to, .inr (3, [.int (-1), .int (-1), .int (-1), .int 2, .int 0, .int 0, .int 0, .int 7, .int 0, .int r_me, .int r_le]))] := hD
  refine lv_aload_n hx hb d_R_init_50 rfl (lv_at hl 0 rfl) ?_
  refine lv_iconst (v := 0) hx hb d_R_init_51 (by decide) ?_
  refine va_put (D := (dC, dI)) (ci := 3) (v := .int 0) (ty := .boolean) (C := "LoanRules$Rule") (T := Fz_R) (N := 11) hx hb hts it_R tz_R tz_R_ok nz_R hown hK hP hD hS 0 rfl rfl 9 (by decide) (hts _ tw_199) (fun _ h9 => h9) rfl (by decide +kernel) rfl rfl (Nat.le_of_ble_eq_true rfl) d_R_init_52 (fun H locs hP hD hS => ?_)
  replace hP : va_P (dC, dI) vwCl [(a_to, .inr (3, [.int (-1), .int (-1), .int (-1), .int 2, .int 0, .int 0, .int 0, .int 7, .int 0, .int 0, .int r_le]))] H := hP
  replace hD : va_D A [(a_to, .inr (3, [.int (-1), .int (-1), .int (-1), .int 2, .int 0, .int 0, .int 0, .int 7, .int 0, .int 0, .int r_le]))] := hD
  refine lv_aload_n hx hb d_R_init_55 rfl (lv_at hl 0 rfl) ?_
  refine lv_iconst (v := 0) hx hb d_R_init_56 (by decide) ?_
  refine va_put (D := (dC, dI)) (ci := 3) (v := .int 0) (ty := .boolean) (C := "LoanRules$Rule") (T := Fz_R) (N := 11) hx hb hts it_R tz_R tz_R_ok nz_R hown hK hP hD hS 0 rfl rfl 10 (by decide) (hts _ tw_201) (fun _ h9 => h9) rfl (by decide +kernel) rfl rfl (Nat.le_of_ble_eq_true rfl) d_R_init_57 (fun H locs hP hD hS => ?_)
  replace hP : va_P (dC, dI) vwCl [(a_to, .inr (3, [.int (-1), .int (-1), .int (-1), .int 2, .int 0, .int 0, .int 0, .int 7, .int 0, .int 0, .int 0]))] H := hP
  replace hD : va_D A [(a_to, .inr (3, [.int (-1), .int (-1), .int (-1), .int 2, .int 0, .int 0, .int 0, .int 7, .int 0, .int 0, .int 0]))] := hD
  have hP9 := hP.sub (ws' := [(a_to, .inr (3, [.int (-1), .int (-1), .int (-1), .int 2, .int 0, .int 0, .int 0, .int 7, .int 0, .int 0, .int 0]))]) [0] rfl
  have hD9 := hD.sub (ws' := [(a_to, .inr (3, [.int (-1), .int (-1), .int (-1), .int 2, .int 0, .int 0, .int 0, .int 7, .int 0, .int 0, .int 0]))]) [0] (by decide) rfl
  have hK9 := hK.sub (tys' := []) [] rfl
  exact W.vret hx hb hr (fun t ht hW => ⟨⟨(), rfl, trivial, by rw [ht]; exact hP9, va_K.moved hW.alike hK9, hD9⟩, hS.F ht⟩) hS.2.2 d_R_init_60
def g_Cg_sign (p0 : Int32) (w_ln : Int32) (f_sg : Nat → Int32) : Int32 × (Nat → Int32) :=
  bv (g_Cg_collect p0 w_ln f_sg) (fun x_2 =>
    (x_2.1, x_2.2))
set_option maxHeartbeats 4000000 in
set_option maxRecDepth 100000 in
theorem c_Cg_sign (l : Launch) (dC : Nat → ClassId) (dI : Nat → Nat → Nat) (adK adV : Nat → Nat) (a_h : Nat) (a_tx : Nat) (a_sg : Nat) (k_sg : ClassId) (p0 : Int32) (a_cru : Nat) (w_nr : Int32) (a_cd : Nat) (a_td : Nat) (a_cki : Nat) (a_cca : Nat) (a_cty : Nat) (a_cio : Nat) (a_cex : Nat) (a_clo : Nat) (w_nl : Int32) (a_cfi : Nat) (w_nf : Int32) (a_ccl : Nat) (w_nc : Int32) (w_ln : Int32) (w_pl : Int32) (w_wr : Int32) (f_sg : Nat → Int32) (sz : Nat) (hln : 0 ≤ w_ln.toInt ∧ w_ln.toInt ≤ 120) : Met l y_C_sign ws_C_sign ({ frames := 1, cells := 0, slots := 0, locals := 21 }) (va_Pc [.ref a_h, .int p0] (fun U => U.heap.size = sz ∧ zz adK adV (va_A [(a_h, .inr (0, [.ref a_tx, .ref a_cru, .int w_nr, .ref a_cd, .ref a_td, .ref a_cki, .ref a_cca, .ref a_cty, .ref a_cio, .ref a_cex, .ref a_clo, .int w_nl, .ref a_cfi, .int w_nf, .ref a_ccl, .int w_nc])), (a_tx, .inr (4, [.ref a_sg, .int w_ln, .int w_pl, .int w_wr])), (a_sg, .inl (k_sg, 120, .inl f_sg))] sz) U ∧ va_P (dC, dI) vwCl [(a_h, .inr (0, [.ref a_tx, .ref a_cru, .int w_nr, .ref a_cd, .ref a_td, .ref a_cki, .ref a_cca, .ref a_cty, .ref a_cio, .ref a_cex, .ref a_clo, .int w_nl, .ref a_cfi, .int w_nf, .ref a_ccl, .int w_nc])), (a_tx, .inr (4, [.ref a_sg, .int w_ln, .int w_pl, .int w_wr])), (a_sg, .inl (k_sg, 120, .inl f_sg))] U.heap ∧ va_K (dC, dI) vwCl [(k_sg, .char)] U ∧ va_D (fun _ => True) [(a_h, .inr (0, [.ref a_tx, .ref a_cru, .int w_nr, .ref a_cd, .ref a_td, .ref a_cki, .ref a_cca, .ref a_cty, .ref a_cio, .ref a_cex, .ref a_clo, .int w_nl, .ref a_cfi, .int w_nf, .ref a_ccl, .int w_nc])), (a_tx, .inr (4, [.ref a_sg, .int w_ln, .int w_pl, .int w_wr])), (a_sg, .inl (k_sg, 120, .inl f_sg))])) (va_Qv (fun _ : Unit => True) (fun (_ : Unit) (t : State) => va_P (dC, dI) vwCl [(a_h, .inr (0, [.ref a_tx, .ref a_cru, .int w_nr, .ref a_cd, .ref a_td, .ref a_cki, .ref a_cca, .ref a_cty, .ref a_cio, .ref a_cex, .ref a_clo, .int w_nl, .ref a_cfi, .int w_nf, .ref a_ccl, .int w_nc])), (a_tx, .inr (4, [.ref a_sg, .int ((g_Cg_sign p0 w_ln f_sg).1), .int w_pl, .int w_wr])), (a_sg, .inl (k_sg, 120, .inl ((g_Cg_sign p0 w_ln f_sg).2)))] t.heap ∧ va_K (dC, dI) vwCl [(k_sg, .char)] t ∧ va_D (va_A [(a_h, .inr (0, [.ref a_tx, .ref a_cru, .int w_nr, .ref a_cd, .ref a_td, .ref a_cki, .ref a_cca, .ref a_cty, .ref a_cio, .ref a_cex, .ref a_clo, .int w_nl, .ref a_cfi, .int w_nf, .ref a_ccl, .int w_nc])), (a_tx, .inr (4, [.ref a_sg, .int w_ln, .int w_pl, .int w_wr])), (a_sg, .inl (k_sg, 120, .inl f_sg))] sz) [(a_h, .inr (0, [.ref a_tx, .ref a_cru, .int w_nr, .ref a_cd, .ref a_td, .ref a_cki, .ref a_cca, .ref a_cty, .ref a_cio, .ref a_cex, .ref a_clo, .int w_nl, .ref a_cfi, .int w_nf, .ref a_ccl, .int w_nc])), (a_tx, .inr (4, [.ref a_sg, .int ((g_Cg_sign p0 w_ln f_sg).1), .int w_pl, .int w_wr])), (a_sg, .inl (k_sg, 120, .inl ((g_Cg_sign p0 w_ln f_sg).2)))]) (va_A [(a_h, .inr (0, [.ref a_tx, .ref a_cru, .int w_nr, .ref a_cd, .ref a_td, .ref a_cki, .ref a_cca, .ref a_cty, .ref a_cio, .ref a_cex, .ref a_clo, .int w_nl, .ref a_cfi, .int w_nf, .ref a_ccl, .int w_nc])), (a_tx, .inr (4, [.ref a_sg, .int w_ln, .int w_pl, .int w_wr])), (a_sg, .inl (k_sg, 120, .inl f_sg))] sz)) 0 0 (va_A [(a_h, .inr (0, [.ref a_tx, .ref a_cru, .int w_nr, .ref a_cd, .ref a_td, .ref a_cki, .ref a_cca, .ref a_cty, .ref a_cio, .ref a_cex, .ref a_clo, .int w_nl, .ref a_cfi, .int w_nf, .ref a_ccl, .int w_nc])), (a_tx, .inr (4, [.ref a_sg, .int w_ln, .int w_pl, .int w_wr])), (a_sg, .inl (k_sg, 120, .inl f_sg))] sz) := by
  refine Met.ofW (cc := c_C_sign) (maxL := 2) (ret := none) (by decide) rfl ?_
  intro p e s m args below meth c s₁ B hml hv
  obtain ⟨rfl, hsz, hZ, hP, hK, hD0⟩ := hv
  have hx := B.exec
  have hb := B.bytes
  have hr := B.returns
  have hts0 := atoms_spec (ws := ws_C_sign) B.pre
  have hts : ∀ w ∈ TT, w.before _ s = true := fun w h => hts0 w (List.mem_cons_of_mem _ h)
  have hown : s.vm.findClass "LoanRules" = some m.cls := findClass_of_methodNamed B.named
  have hlocks := B.notSynchronized
  subst hsz
  have hD := hD0.self (sz := s.heap.size)
  generalize hAe : va_A [(a_h, .inr (0, [.ref a_tx, .ref a_cru, .int w_nr, .ref a_cd, .ref a_td, .ref a_cki, .ref a_cca, .ref a_cty, .ref a_cio, .ref a_cex, .ref a_clo, .int w_nl, .ref a_cfi, .int w_nf, .ref a_ccl, .int w_nc])), (a_tx, .inr (4, [.ref a_sg, .int w_ln, .int w_pl, .int w_wr])), (a_sg, .inl (k_sg, 120, .inl f_sg))] s.heap.size = A at hD hZ ⊢
  have hA : ∀ q : Nat, s.heap.size ≤ q → A q := fun q h => by rw [← hAe]; exact Or.inr h
  clear hAe hD0
  have hS : va_S A s.heap s.heap [] := va_S.rf
  replace hP : va_P (dC, dI) vwCl [(a_h, .inr (0, [.ref a_tx, .ref a_cru, .int w_nr, .ref a_cd, .ref a_td, .ref a_cki, .ref a_cca, .ref a_cty, .ref a_cio, .ref a_cex, .ref a_clo, .int w_nl, .ref a_cfi, .int w_nf, .ref a_ccl, .int w_nc])), (a_tx, .inr (4, [.ref a_sg, .int w_ln, .int w_pl, .int w_wr])), (a_sg, .inl (k_sg, 120, .inl f_sg))] s.heap := hP
  have hl := lv_entry ([.ref a_h, .int p0]) (n := 2) (Nat.le_of_ble_eq_true rfl)
  rw [lg_entry_eq]
  generalize (lg_sl ([.ref a_h, .int p0]) ++ List.replicate (2 - (lg_sl ([.ref a_h, .int p0])).length) Slot.unset).toArray = ls at hl ⊢
  replace hl : lv_has ls 2 [(0, .ref a_h), (1, .int p0)] := hl
  obtain ⟨z, hz⟩ : ∃ z, z = g_Cg_sign p0 w_ln f_sg := ⟨_, rfl⟩
  have hE := hz
  rw [g_Cg_sign] at hE
  refine lv_aload_n hx hb d_C_sign_0 rfl (lv_at hl 0 rfl) ?_
  refine va_get (D := (dC, dI)) (ci := 0) (v := .ref a_tx) (C := "LoanRules") (T := Fz_C) (N := 16) hx hb hts it_C hown hK hP 0 rfl rfl 0 (by decide) (hts _ tw_104) (fun _ h9 => h9) rfl d_C_sign_1 ?_
  refine lv_iload_n hx hb d_C_sign_4 rfl (lv_at hl 1 rfl) ?_
  have hPc := hP.sub (ws' := [(a_tx, .inr (4, [.ref a_sg, .int w_ln, .int w_pl, .int w_wr])), (a_sg, .inl (k_sg, 120, .inl f_sg))]) [1, 2] rfl
  have hKc := hK.sub (tys' := [(k_sg, .char)]) [0] rfl
  have hDc := hD.sub (ws' := [(a_tx, .inr (4, [.ref a_sg, .int w_ln, .int w_pl, .int w_wr])), (a_sg, .inl (k_sg, 120, .inl f_sg))]) [1, 2] (by decide) rfl
  have hFc := va_free (wc := [(a_tx, .inr (4, [.ref a_sg, .int w_ln, .int w_pl, .int w_wr])), (a_sg, .inl (k_sg, 120, .inl f_sg))]) hD hS hA [1, 2] rfl
  refine va_callv (va_runV (As := [.int p0]) (rest := []) ⟨hx, hb, hml, hown, hts⟩ (c_Cg_collect l dC dI adK adV (a_tx := a_tx) (p0 := p0) (a_sg := a_sg) (w_ln := w_ln) (w_pl := w_pl) (w_wr := w_wr) (k_sg := k_sg) (f_sg := f_sg) (sz := s.heap.size) hln) (cwV 1 hts (gV tw_159 tw_160 tw_161 tw_43 tw_162) rfl rfl rfl (by decide +kernel) ⟨(Nat.le_of_ble_eq_true rfl), (Nat.le_of_ble_eq_true rfl)⟩) ⟨fun a U g mk q => by obtain ⟨q0, q1, qZ, qP, qK, qD⟩ := q; exact ⟨q0, q1, zz_call qZ, qP, va_K.moved (u := U) (U := U.calling g mk a) (Vm.Alike.refl U.vm) qK, qD⟩, va_recv hKc hPc (ci := 4) (q0 := 0) rfl rfl, fun U hU hW => ⟨rfl, by rw [hU], zz_rw hS hFc hU hW hZ, by rw [hU]; exact hPc, va_K.moved hW.alike hKc, hDc.weaken (fun _ _ _ _ => trivial)⟩⟩ rfl rfl hl.1 rfl (lv_room (Nat.le_of_ble_eq_true rfl)) d_C_sign_5 ⟨(Nat.le_of_ble_eq_true rfl), (Nat.le_of_ble_eq_true rfl)⟩) hS (fun q _ h => hFc q h) hFc (fun u t H1 locs ht hvm hw_1 hB hz1 hk1 hS => ?_)
  generalize hg_x_2 : g_Cg_collect p0 w_ln f_sg = x_2 at hw_1 hB hE
  rw [bv_eq] at hE
  obtain ⟨hP1, hK1, hD1⟩ := hB
  rw [ht] at hP1
  have hK1 := va_K.moved hvm.symm hK1
  obtain ⟨hP, hD⟩ := va_join (wr := [(a_h, .inr (0, [.ref a_tx, .ref a_cru, .int w_nr, .ref a_cd, .ref a_td, .ref a_cki, .ref a_cca, .ref a_cty, .ref a_cio, .ref a_cex, .ref a_clo, .int w_nl, .ref a_cfi, .int w_nf, .ref a_ccl, .int w_nc]))]) (w1 := [(a_tx, .inr (4, [.ref a_sg, .int x_2.1, .int w_pl, .int w_wr])), (a_sg, .inl (k_sg, 120, .inl x_2.2))]) hP hD [1, 2] [0] rfl rfl (by decide) (by decide) hk1 hFc hP1 hD1
  replace hK := (hK.sub (tys' := []) [] rfl).app hK1
  generalize H1 = H at hP hS ⊢
  replace hP := hP.sub (ws' := [(a_h, .inr (0, [.ref a_tx, .ref a_cru, .int w_nr, .ref a_cd, .ref a_td, .ref a_cki, .ref a_cca, .ref a_cty, .ref a_cio, .ref a_cex, .ref a_clo, .int w_nl, .ref a_cfi, .int w_nf, .ref a_ccl, .int w_nc])), (a_tx, .inr (4, [.ref a_sg, .int x_2.1, .int w_pl, .int w_wr])), (a_sg, .inl (k_sg, 120, .inl x_2.2))]) [0, 1, 2] rfl
  replace hD := hD.sub (ws' := [(a_h, .inr (0, [.ref a_tx, .ref a_cru, .int w_nr, .ref a_cd, .ref a_td, .ref a_cki, .ref a_cca, .ref a_cty, .ref a_cio, .ref a_cex, .ref a_clo, .int w_nl, .ref a_cfi, .int w_nf, .ref a_ccl, .int w_nc])), (a_tx, .inr (4, [.ref a_sg, .int x_2.1, .int w_pl, .int w_wr])), (a_sg, .inl (k_sg, 120, .inl x_2.2))]) [0, 1, 2] (by decide) rfl
  replace hK := hK.sub (tys' := [(k_sg, .char)]) [0] rfl
  have hP9 := hP.sub (ws' := [(a_h, .inr (0, [.ref a_tx, .ref a_cru, .int w_nr, .ref a_cd, .ref a_td, .ref a_cki, .ref a_cca, .ref a_cty, .ref a_cio, .ref a_cex, .ref a_clo, .int w_nl, .ref a_cfi, .int w_nf, .ref a_ccl, .int w_nc])), (a_tx, .inr (4, [.ref a_sg, .int x_2.1, .int w_pl, .int w_wr])), (a_sg, .inl (k_sg, 120, .inl x_2.2))]) [0, 1, 2] rfl
  have hD9 := hD.sub (ws' := [(a_h, .inr (0, [.ref a_tx, .ref a_cru, .int w_nr, .ref a_cd, .ref a_td, .ref a_cki, .ref a_cca, .ref a_cty, .ref a_cio, .ref a_cex, .ref a_clo, .int w_nl, .ref a_cfi, .int w_nf, .ref a_ccl, .int w_nc])), (a_tx, .inr (4, [.ref a_sg, .int x_2.1, .int w_pl, .int w_wr])), (a_sg, .inl (k_sg, 120, .inl x_2.2))]) [0, 1, 2] (by decide) rfl
  have hK9 := hK.sub (tys' := [(k_sg, .char)]) [0] rfl
  exact W.vret hx hb hr (fun t ht hW => ⟨⟨(), rfl, trivial, by rw [ht, ← hz, hE]; exact hP9, va_K.moved hW.alike hK9, by rw [← hz, hE]; exact hD9⟩, hS.F ht⟩) hS.2.2 d_C_sign_8
theorem nz_Cg_holds {p0 : Int32} {f_cw : Nat → Int64} : b01 (g_Cg_holds p0 f_cw) := by
  unfold g_Cg_holds
  repeat' (first | with_reducible refine b01_i1 (fun _ => ?_) (fun _ => ?_))
  all_goals first | with_reducible exact b01_0 | with_reducible exact b01_1
def g_Cg_closed (p0 : Int32) (p1 : Int32) (f_cw : Nat → Int64) : Int32 × (Nat → Int64) :=
  if (g_Cg_isDay p0) = 0 then
    (0, f_cw)
  else
    bv (g_Cg_put p0 p1 f_cw) (fun x_7 =>
      (g_Cg_holds p0 f_cw, x_7))
set_option maxHeartbeats 4000000 in
set_option maxRecDepth 100000 in
theorem c_Cg_closed (l : Launch) (dC : Nat → ClassId) (dI : Nat → Nat → Nat) (adK adV : Nat → Nat) (a_h : Nat) (a_cd : Nat) (a_cw : Nat) (k_cw : ClassId) (p0 : Int32) (p1 : Int32) (a_tx : Nat) (a_cru : Nat) (w_nr : Int32) (a_td : Nat) (a_cki : Nat) (a_cca : Nat) (a_cty : Nat) (a_cio : Nat) (a_cex : Nat) (a_clo : Nat) (w_nl : Int32) (a_cfi : Nat) (w_nf : Int32) (a_ccl : Nat) (w_nc : Int32) (f_cw : Nat → Int64) (sz : Nat) : Met l y_C_closed ws_C_closed ({ frames := 2, cells := 0, slots := 0, locals := 44 }) (va_Pc [.ref a_h, .int p0, .int p1] (fun U => U.heap.size = sz ∧ zz adK adV (va_A [(a_h, .inr (0, [.ref a_tx, .ref a_cru, .int w_nr, .ref a_cd, .ref a_td, .ref a_cki, .ref a_cca, .ref a_cty, .ref a_cio, .ref a_cex, .ref a_clo, .int w_nl, .ref a_cfi, .int w_nf, .ref a_ccl, .int w_nc])), (a_cd, .inr (1, [.ref a_cw])), (a_cw, .inl (k_cw, 157, .inr (.inl f_cw)))] sz) U ∧ va_P (dC, dI) vwCl [(a_h, .inr (0, [.ref a_tx, .ref a_cru, .int w_nr, .ref a_cd, .ref a_td, .ref a_cki, .ref a_cca, .ref a_cty, .ref a_cio, .ref a_cex, .ref a_clo, .int w_nl, .ref a_cfi, .int w_nf, .ref a_ccl, .int w_nc])), (a_cd, .inr (1, [.ref a_cw])), (a_cw, .inl (k_cw, 157, .inr (.inl f_cw)))] U.heap ∧ va_K (dC, dI) vwCl [(k_cw, .long)] U ∧ va_D (fun _ => True) [(a_h, .inr (0, [.ref a_tx, .ref a_cru, .int w_nr, .ref a_cd, .ref a_td, .ref a_cki, .ref a_cca, .ref a_cty, .ref a_cio, .ref a_cex, .ref a_clo, .int w_nl, .ref a_cfi, .int w_nf, .ref a_ccl, .int w_nc])), (a_cd, .inr (1, [.ref a_cw])), (a_cw, .inl (k_cw, 157, .inr (.inl f_cw)))])) (va_Qi (fun (r : Int32) (_ : Unit) => r = (g_Cg_closed p0 p1 f_cw).1) (fun (_ : Unit) (t : State) => va_P (dC, dI) vwCl [(a_h, .inr (0, [.ref a_tx, .ref a_cru, .int w_nr, .ref a_cd, .ref a_td, .ref a_cki, .ref a_cca, .ref a_cty, .ref a_cio, .ref a_cex, .ref a_clo, .int w_nl, .ref a_cfi, .int w_nf, .ref a_ccl, .int w_nc])), (a_cd, .inr (1, [.ref a_cw])), (a_cw, .inl (k_cw, 157, .inr (.inl ((g_Cg_closed p0 p1 f_cw).2))))] t.heap ∧ va_K (dC, dI) vwCl [(k_cw, .long)] t ∧ va_D (va_A [(a_h, .inr (0, [.ref a_tx, .ref a_cru, .int w_nr, .ref a_cd, .ref a_td, .ref a_cki, .ref a_cca, .ref a_cty, .ref a_cio, .ref a_cex, .ref a_clo, .int w_nl, .ref a_cfi, .int w_nf, .ref a_ccl, .int w_nc])), (a_cd, .inr (1, [.ref a_cw])), (a_cw, .inl (k_cw, 157, .inr (.inl f_cw)))] sz) [(a_h, .inr (0, [.ref a_tx, .ref a_cru, .int w_nr, .ref a_cd, .ref a_td, .ref a_cki, .ref a_cca, .ref a_cty, .ref a_cio, .ref a_cex, .ref a_clo, .int w_nl, .ref a_cfi, .int w_nf, .ref a_ccl, .int w_nc])), (a_cd, .inr (1, [.ref a_cw])), (a_cw, .inl (k_cw, 157, .inr (.inl ((g_Cg_closed p0 p1 f_cw).2))))]) (va_A [(a_h, .inr (0, [.ref a_tx, .ref a_cru, .int w_nr, .ref a_cd, .ref a_td, .ref a_cki, .ref a_cca, .ref a_cty, .ref a_cio, .ref a_cex, .ref a_clo, .int w_nl, .ref a_cfi, .int w_nf, .ref a_ccl, .int w_nc])), (a_cd, .inr (1, [.ref a_cw])), (a_cw, .inl (k_cw, 157, .inr (.inl f_cw)))] sz)) 0 0 (va_A [(a_h, .inr (0, [.ref a_tx, .ref a_cru, .int w_nr, .ref a_cd, .ref a_td, .ref a_cki, .ref a_cca, .ref a_cty, .ref a_cio, .ref a_cex, .ref a_clo, .int w_nl, .ref a_cfi, .int w_nf, .ref a_ccl, .int w_nc])), (a_cd, .inr (1, [.ref a_cw])), (a_cw, .inl (k_cw, 157, .inr (.inl f_cw)))] sz) := by
  refine Met.ofW (cc := c_C_closed) (maxL := 4) (ret := (some .boolean)) (by decide) rfl ?_
  intro p e s m args below meth c s₁ B hml hv
  obtain ⟨rfl, hsz, hZ, hP, hK, hD0⟩ := hv
  have hx := B.exec
  have hb := B.bytes
  have hr := B.returns
  have hts0 := atoms_spec (ws := ws_C_closed) B.pre
  have hts : ∀ w ∈ TT, w.before _ s = true := fun w h => hts0 w (List.mem_cons_of_mem _ h)
  have hown : s.vm.findClass "LoanRules" = some m.cls := findClass_of_methodNamed B.named
  have hlocks := B.notSynchronized
  subst hsz
  have hD := hD0.self (sz := s.heap.size)
  generalize hAe : va_A [(a_h, .inr (0, [.ref a_tx, .ref a_cru, .int w_nr, .ref a_cd, .ref a_td, .ref a_cki, .ref a_cca, .ref a_cty, .ref a_cio, .ref a_cex, .ref a_clo, .int w_nl, .ref a_cfi, .int w_nf, .ref a_ccl, .int w_nc])), (a_cd, .inr (1, [.ref a_cw])), (a_cw, .inl (k_cw, 157, .inr (.inl f_cw)))] s.heap.size = A at hD hZ ⊢
  have hA : ∀ q : Nat, s.heap.size ≤ q → A q := fun q h => by rw [← hAe]; exact Or.inr h
  clear hAe hD0
  have hS : va_S A s.heap s.heap [] := va_S.rf
  replace hP : va_P (dC, dI) vwCl [(a_h, .inr (0, [.ref a_tx, .ref a_cru, .int w_nr, .ref a_cd, .ref a_td, .ref a_cki, .ref a_cca, .ref a_cty, .ref a_cio, .ref a_cex, .ref a_clo, .int w_nl, .ref a_cfi, .int w_nf, .ref a_ccl, .int w_nc])), (a_cd, .inr (1, [.ref a_cw])), (a_cw, .inl (k_cw, 157, .inr (.inl f_cw)))] s.heap := hP
  have hl := lv_entry ([.ref a_h, .int p0, .int p1]) (n := 4) (Nat.le_of_ble_eq_true rfl)
  rw [lg_entry_eq]
  generalize (lg_sl ([.ref a_h, .int p0, .int p1]) ++ List.replicate (4 - (lg_sl ([.ref a_h, .int p0, .int p1])).length) Slot.unset).toArray = ls at hl ⊢
  replace hl : lv_has ls 4 [(0, .ref a_h), (1, .int p0), (2, .int p1)] := hl
  obtain ⟨z, hz⟩ : ∃ z, z = g_Cg_closed p0 p1 f_cw := ⟨_, rfl⟩
  have hE := hz
  rw [g_Cg_closed] at hE
  refine lv_iload_n hx hb d_C_closed_0 rfl (lv_at hl 1 rfl) ?_
  have hPc := hP.sub (ws' := []) [] rfl
  have hKc := hK.sub (tys' := []) [] rfl
  refine vp_callSi (va_Run.run (va_runS (As := [.int p0]) (rest := []) ⟨hx, hb, hml, hown, hts⟩ (c_Cg_isDay l dC dI adK adV (p0 := p0)) (va_cwS 1 hts (gS tw_352 tw_353 tw_42 tw_354) rfl rfl rfl (by decide +kernel) ⟨(Nat.le_of_ble_eq_true rfl), (Nat.le_of_ble_eq_true rfl)⟩) ⟨fun a U g mk q => by obtain ⟨q0, qZ, qP, qK⟩ := q; exact ⟨q0, zz_call qZ, qP, va_K.moved (u := U) (U := U.calling g mk a) (Vm.Alike.refl U.vm) qK⟩, fun U hU hW => ⟨rfl, zz_ro hS hU hW hZ, by rw [hU]; exact hPc, va_K.moved hW.alike hKc⟩⟩ rfl rfl hl.1 rfl (lv_room (Nat.le_of_ble_eq_true rfl)) d_C_closed_1 ⟨(Nat.le_of_ble_eq_true rfl), (Nat.le_of_ble_eq_true rfl)⟩)) (fun r_1 hw_2 => ?_)
  clear hPc hKc
  subst hw_2
  refine lv_if_ne (tgt := 9) hx hb d_C_closed_4 (by decide) (fun c_3 => ?_) (fun c_3 => ?_)
  · rw [if_neg c_3] at hE
    refine lv_aload_n hx hb d_C_closed_9 rfl (lv_at hl 0 rfl) ?_
    refine va_get (D := (dC, dI)) (ci := 0) (v := .ref a_cd) (C := "LoanRules") (T := Fz_C) (N := 16) hx hb hts it_C hown hK hP 0 rfl rfl 3 (by decide) (hts _ tw_107) (fun _ h9 => h9) rfl d_C_closed_10 ?_
    refine lv_iload_n hx hb d_C_closed_13 rfl (lv_at hl 1 rfl) ?_
    have hPc := hP.sub (ws' := [(a_cd, .inr (1, [.ref a_cw])), (a_cw, .inl (k_cw, 157, .inr (.inl f_cw)))]) [1, 2] rfl
    have hKc := hK.sub (tys' := [(k_cw, .long)]) [0] rfl
    refine vp_callSi (va_Run.run (va_runV (As := [.int p0]) (rest := []) ⟨hx, hb, hml, hown, hts⟩ (c_Cg_holds l dC dI adK adV (a_cd := a_cd) (p0 := p0) (a_cw := a_cw) (k_cw := k_cw) (f_cw := f_cw)) (cwV 1 hts (gV tw_355 tw_356 tw_357 tw_44 tw_358) rfl rfl rfl (by decide +kernel) ⟨(Nat.le_of_ble_eq_true rfl), (Nat.le_of_ble_eq_true rfl)⟩) ⟨fun a U g mk q => by obtain ⟨q0, qZ, qP, qK⟩ := q; exact ⟨q0, zz_call qZ, qP, va_K.moved (u := U) (U := U.calling g mk a) (Vm.Alike.refl U.vm) qK⟩, va_recv hKc hPc (ci := 1) (q0 := 0) rfl rfl, fun U hU hW => ⟨rfl, zz_ro hS hU hW hZ, by rw [hU]; exact hPc, va_K.moved hW.alike hKc⟩⟩ rfl rfl hl.1 rfl (lv_room (Nat.le_of_ble_eq_true rfl)) d_C_closed_14 ⟨(Nat.le_of_ble_eq_true rfl), (Nat.le_of_ble_eq_true rfl)⟩)) (fun r_4 hw_5 => ?_)
    clear hPc hKc
    subst hw_5
    refine lv_istore_n (lv' := [(3, .int (g_Cg_holds p0 f_cw)), (0, .ref a_h), (1, .int p0), (2, .int p1)]) hx hb d_C_closed_17 rfl hl (by decide) rfl (fun ls hl => ?_)
    refine lv_aload_n hx hb d_C_closed_18 rfl (lv_at hl 1 rfl) ?_
    refine va_get (D := (dC, dI)) (ci := 0) (v := .ref a_cd) (C := "LoanRules") (T := Fz_C) (N := 16) hx hb hts it_C hown hK hP 0 rfl rfl 3 (by decide) (hts _ tw_107) (fun _ h9 => h9) rfl d_C_closed_19 ?_
    refine lv_iload_n hx hb d_C_closed_22 rfl (lv_at hl 2 rfl) ?_
    refine lv_iload_n hx hb d_C_closed_23 rfl (lv_at hl 3 rfl) ?_
    have hPc := hP.sub (ws' := [(a_cd, .inr (1, [.ref a_cw])), (a_cw, .inl (k_cw, 157, .inr (.inl f_cw)))]) [1, 2] rfl
    have hKc := hK.sub (tys' := [(k_cw, .long)]) [0] rfl
    have hDc := hD.sub (ws' := [(a_cd, .inr (1, [.ref a_cw])), (a_cw, .inl (k_cw, 157, .inr (.inl f_cw)))]) [1, 2] (by decide) rfl
    have hFc := va_free (wc := [(a_cd, .inr (1, [.ref a_cw])), (a_cw, .inl (k_cw, 157, .inr (.inl f_cw)))]) hD hS hA [1, 2] rfl
    refine va_callv (va_runV (As := [.int p0, .int p1]) (rest := []) ⟨hx, hb, hml, hown, hts⟩ (c_Cg_put l dC dI adK adV (a_cd := a_cd) (p0 := p0) (p1 := p1) (a_cw := a_cw) (k_cw := k_cw) (f_cw := f_cw) (sz := s.heap.size)) (cwV 2 hts (gV tw_360 tw_361 tw_362 tw_44 tw_363) rfl rfl rfl (by decide +kernel) ⟨(Nat.le_of_ble_eq_true rfl), (Nat.le_of_ble_eq_true rfl)⟩) ⟨fun a U g mk q => by obtain ⟨q0, q1, qZ, qP, qK, qD⟩ := q; exact ⟨q0, q1, zz_call qZ, qP, va_K.moved (u := U) (U := U.calling g mk a) (Vm.Alike.refl U.vm) qK, qD⟩, va_recv hKc hPc (ci := 1) (q0 := 0) rfl rfl, fun U hU hW => ⟨rfl, by rw [hU], zz_rw hS hFc hU hW hZ, by rw [hU]; exact hPc, va_K.moved hW.alike hKc, hDc.weaken (fun _ _ _ _ => trivial)⟩⟩ rfl rfl hl.1 rfl (lv_room (Nat.le_of_ble_eq_true rfl)) d_C_closed_24 ⟨(Nat.le_of_ble_eq_true rfl), (Nat.le_of_ble_eq_true rfl)⟩) hS (fun q _ h => hFc q h) hFc (fun u t H1 locs ht hvm hw_6 hB hz1 hk1 hS => ?_)
    generalize hg_x_7 : g_Cg_put p0 p1 f_cw = x_7 at hw_6 hB hE
    rw [bv_eq] at hE
    obtain ⟨hP1, hK1, hD1⟩ := hB
    rw [ht] at hP1
    have hK1 := va_K.moved hvm.symm hK1
    obtain ⟨hP, hD⟩ := va_join (wr := [(a_h, .inr (0, [.ref a_tx, .ref a_cru, .int w_nr, .ref a_cd, .ref a_td, .ref a_cki, .ref a_cca, .ref a_cty, .ref a_cio, .ref a_cex, .ref a_clo, .int w_nl, .ref a_cfi, .int w_nf, .ref a_ccl, .int w_nc]))]) (w1 := [(a_cd, .inr (1, [.ref a_cw])), (a_cw, .inl (k_cw, 157, .inr (.inl x_7)))]) hP hD [1, 2] [0] rfl rfl (by decide) (by decide) hk1 hFc hP1 hD1
    replace hK := (hK.sub (tys' := []) [] rfl).app hK1
    generalize H1 = H at hP hS ⊢
    replace hP := hP.sub (ws' := [(a_h, .inr (0, [.ref a_tx, .ref a_cru, .int w_nr, .ref a_cd, .ref a_td, .ref a_cki, .ref a_cca, .ref a_cty, .ref a_cio, .ref a_cex, .ref a_clo, .int w_nl, .ref a_cfi, .int w_nf, .ref a_ccl, .int w_nc])), (a_cd, .inr (1, [.ref a_cw])), (a_cw, .inl (k_cw, 157, .inr (.inl x_7)))]) [0, 1, 2] rfl
    replace hD := hD.sub (ws' := [(a_h, .inr (0, [.ref a_tx, .ref a_cru, .int w_nr, .ref a_cd, .ref a_td, .ref a_cki, .ref a_cca, .ref a_cty, .ref a_cio, .ref a_cex, .ref a_clo, .int w_nl, .ref a_cfi, .int w_nf, .ref a_ccl, .int w_nc])), (a_cd, .inr (1, [.ref a_cw])), (a_cw, .inl (k_cw, 157, .inr (.inl x_7)))]) [0, 1, 2] (by decide) rfl
    replace hK := hK.sub (tys' := [(k_cw, .long)]) [0] rfl
    refine lv_iload_n hx hb d_C_closed_27 rfl (lv_at hl 0 rfl) ?_
    have hP9 := hP.sub (ws' := [(a_h, .inr (0, [.ref a_tx, .ref a_cru, .int w_nr, .ref a_cd, .ref a_td, .ref a_cki, .ref a_cca, .ref a_cty, .ref a_cio, .ref a_cex, .ref a_clo, .int w_nl, .ref a_cfi, .int w_nf, .ref a_ccl, .int w_nc])), (a_cd, .inr (1, [.ref a_cw])), (a_cw, .inl (k_cw, 157, .inr (.inl x_7)))]) [0, 1, 2] rfl
    have hD9 := hD.sub (ws' := [(a_h, .inr (0, [.ref a_tx, .ref a_cru, .int w_nr, .ref a_cd, .ref a_td, .ref a_cki, .ref a_cca, .ref a_cty, .ref a_cio, .ref a_cex, .ref a_clo, .int w_nl, .ref a_cfi, .int w_nf, .ref a_ccl, .int w_nc])), (a_cd, .inr (1, [.ref a_cw])), (a_cw, .inl (k_cw, 157, .inr (.inl x_7)))]) [0, 1, 2] (by decide) rfl
    have hK9 := hK.sub (tys' := [(k_cw, .long)]) [0] rfl
    exact W.zret (v := g_Cg_holds p0 f_cw) hx hb hr (nzI nz_Cg_holds) (fun t ht hW => ⟨⟨g_Cg_holds p0 f_cw, (), rfl, by rw [← hz, hE], by rw [ht, ← hz, hE]; exact hP9, va_K.moved hW.alike hK9, by rw [← hz, hE]; exact hD9⟩, hS.F ht⟩) hS.2.2 d_C_closed_28
  · rw [if_pos c_3] at hE
    refine lv_iconst (v := 0) hx hb d_C_closed_7 (by decide) ?_
    have hP9 := hP.sub (ws' := [(a_h, .inr (0, [.ref a_tx, .ref a_cru, .int w_nr, .ref a_cd, .ref a_td, .ref a_cki, .ref a_cca, .ref a_cty, .ref a_cio, .ref a_cex, .ref a_clo, .int w_nl, .ref a_cfi, .int w_nf, .ref a_ccl, .int w_nc])), (a_cd, .inr (1, [.ref a_cw])), (a_cw, .inl (k_cw, 157, .inr (.inl f_cw)))]) [0, 1, 2] rfl
    have hD9 := hD.sub (ws' := [(a_h, .inr (0, [.ref a_tx, .ref a_cru, .int w_nr, .ref a_cd, .ref a_td, .ref a_cki, .ref a_cca, .ref a_cty, .ref a_cio, .ref a_cex, .ref a_clo, .int w_nl, .ref a_cfi, .int w_nf, .ref a_ccl, .int w_nc])), (a_cd, .inr (1, [.ref a_cw])), (a_cw, .inl (k_cw, 157, .inr (.inl f_cw)))]) [0, 1, 2] (by decide) rfl
    have hK9 := hK.sub (tys' := [(k_cw, .long)]) [0] rfl
    exact W.zret (v := 0) hx hb hr rfl (fun t ht hW => ⟨⟨0, (), rfl, by rw [← hz, hE], by rw [ht, ← hz, hE]; exact hP9, va_K.moved hW.alike hK9, by rw [← hz, hE]; exact hD9⟩, hS.F ht⟩) hS.2.2 d_C_closed_8
def g_Cg_term (p0 : Int32) (f_tw : Nat → Int64) : Int32 × (Nat → Int64) :=
  if (g_Cg_isDay p0) = 0 then
    (0, f_tw)
  else
    if (g_Cg_holds p0 f_tw) = 0 then
      bv (g_Cg_put p0 1 f_tw) (fun x_8 =>
        (1, x_8))
    else
      (0, f_tw)
set_option maxHeartbeats 4000000 in
set_option maxRecDepth 100000 in
theorem c_Cg_term (l : Launch) (dC : Nat → ClassId) (dI : Nat → Nat → Nat) (adK adV : Nat → Nat) (a_h : Nat) (a_td : Nat) (a_tw : Nat) (k_tw : ClassId) (p0 : Int32) (a_tx : Nat) (a_cru : Nat) (w_nr : Int32) (a_cd : Nat) (a_cki : Nat) (a_cca : Nat) (a_cty : Nat) (a_cio : Nat) (a_cex : Nat) (a_clo : Nat) (w_nl : Int32) (a_cfi : Nat) (w_nf : Int32) (a_ccl : Nat) (w_nc : Int32) (f_tw : Nat → Int64) (sz : Nat) : Met l y_C_term ws_C_term ({ frames := 2, cells := 0, slots := 0, locals := 44 }) (va_Pc [.ref a_h, .int p0] (fun U => U.heap.size = sz ∧ zz adK adV (va_A [(a_h, .inr (0, [.ref a_tx, .ref a_cru, .int w_nr, .ref a_cd, .ref a_td, .ref a_cki, .ref a_cca, .ref a_cty, .ref a_cio, .ref a_cex, .ref a_clo, .int w_nl, .ref a_cfi, .int w_nf, .ref a_ccl, .int w_nc])), (a_td, .inr (1, [.ref a_tw])), (a_tw, .inl (k_tw, 157, .inr (.inl f_tw)))] sz) U ∧ va_P (dC, dI) vwCl [(a_h, .inr (0, [.ref a_tx, .ref a_cru, .int w_nr, .ref a_cd, .ref a_td, .ref a_cki, .ref a_cca, .ref a_cty, .ref a_cio, .ref a_cex, .ref a_clo, .int w_nl, .ref a_cfi, .int w_nf, .ref a_ccl, .int w_nc])), (a_td, .inr (1, [.ref a_tw])), (a_tw, .inl (k_tw, 157, .inr (.inl f_tw)))] U.heap ∧ va_K (dC, dI) vwCl [(k_tw, .long)] U ∧ va_D (fun _ => True) [(a_h, .inr (0, [.ref a_tx, .ref a_cru, .int w_nr, .ref a_cd, .ref a_td, .ref a_cki, .ref a_cca, .ref a_cty, .ref a_cio, .ref a_cex, .ref a_clo, .int w_nl, .ref a_cfi, .int w_nf, .ref a_ccl, .int w_nc])), (a_td, .inr (1, [.ref a_tw])), (a_tw, .inl (k_tw, 157, .inr (.inl f_tw)))])) (va_Qi (fun (r : Int32) (_ : Unit) => r = (g_Cg_term p0 f_tw).1) (fun (_ : Unit) (t : State) => va_P (dC, dI) vwCl [(a_h, .inr (0, [.ref a_tx, .ref a_cru, .int w_nr, .ref a_cd, .ref a_td, .ref a_cki, .ref a_cca, .ref a_cty, .ref a_cio, .ref a_cex, .ref a_clo, .int w_nl, .ref a_cfi, .int w_nf, .ref a_ccl, .int w_nc])), (a_td, .inr (1, [.ref a_tw])), (a_tw, .inl (k_tw, 157, .inr (.inl ((g_Cg_term p0 f_tw).2))))] t.heap ∧ va_K (dC, dI) vwCl [(k_tw, .long)] t ∧ va_D (va_A [(a_h, .inr (0, [.ref a_tx, .ref a_cru, .int w_nr, .ref a_cd, .ref a_td, .ref a_cki, .ref a_cca, .ref a_cty, .ref a_cio, .ref a_cex, .ref a_clo, .int w_nl, .ref a_cfi, .int w_nf, .ref a_ccl, .int w_nc])), (a_td, .inr (1, [.ref a_tw])), (a_tw, .inl (k_tw, 157, .inr (.inl f_tw)))] sz) [(a_h, .inr (0, [.ref a_tx, .ref a_cru, .int w_nr, .ref a_cd, .ref a_td, .ref a_cki, .ref a_cca, .ref a_cty, .ref a_cio, .ref a_cex, .ref a_clo, .int w_nl, .ref a_cfi, .int w_nf, .ref a_ccl, .int w_nc])), (a_td, .inr (1, [.ref a_tw])), (a_tw, .inl (k_tw, 157, .inr (.inl ((g_Cg_term p0 f_tw).2))))]) (va_A [(a_h, .inr (0, [.ref a_tx, .ref a_cru, .int w_nr, .ref a_cd, .ref a_td, .ref a_cki, .ref a_cca, .ref a_cty, .ref a_cio, .ref a_cex, .ref a_clo, .int w_nl, .ref a_cfi, .int w_nf, .ref a_ccl, .int w_nc])), (a_td, .inr (1, [.ref a_tw])), (a_tw, .inl (k_tw, 157, .inr (.inl f_tw)))] sz)) 0 0 (va_A [(a_h, .inr (0, [.ref a_tx, .ref a_cru, .int w_nr, .ref a_cd, .ref a_td, .ref a_cki, .ref a_cca, .ref a_cty, .ref a_cio, .ref a_cex, .ref a_clo, .int w_nl, .ref a_cfi, .int w_nf, .ref a_ccl, .int w_nc])), (a_td, .inr (1, [.ref a_tw])), (a_tw, .inl (k_tw, 157, .inr (.inl f_tw)))] sz) := by
  refine Met.ofW (cc := c_C_term) (maxL := 2) (ret := (some .int)) (by decide) rfl ?_
  intro p e s m args below meth c s₁ B hml hv
  obtain ⟨rfl, hsz, hZ, hP, hK, hD0⟩ := hv
  have hx := B.exec
  have hb := B.bytes
  have hr := B.returns
  have hts0 := atoms_spec (ws := ws_C_term) B.pre
  have hts : ∀ w ∈ TT, w.before _ s = true := fun w h => hts0 w (List.mem_cons_of_mem _ h)
  have hown : s.vm.findClass "LoanRules" = some m.cls := findClass_of_methodNamed B.named
  have hlocks := B.notSynchronized
  subst hsz
  have hD := hD0.self (sz := s.heap.size)
  generalize hAe : va_A [(a_h, .inr (0, [.ref a_tx, .ref a_cru, .int w_nr, .ref a_cd, .ref a_td, .ref a_cki, .ref a_cca, .ref a_cty, .ref a_cio, .ref a_cex, .ref a_clo, .int w_nl, .ref a_cfi, .int w_nf, .ref a_ccl, .int w_nc])), (a_td, .inr (1, [.ref a_tw])), (a_tw, .inl (k_tw, 157, .inr (.inl f_tw)))] s.heap.size = A at hD hZ ⊢
  have hA : ∀ q : Nat, s.heap.size ≤ q → A q := fun q h => by rw [← hAe]; exact Or.inr h
  clear hAe hD0
  have hS : va_S A s.heap s.heap [] := va_S.rf
  replace hP : va_P (dC, dI) vwCl [(a_h, .inr (0, [.ref a_tx, .ref a_cru, .int w_nr, .ref a_cd, .ref a_td, .ref a_cki, .ref a_cca, .ref a_cty, .ref a_cio, .ref a_cex, .ref a_clo, .int w_nl, .ref a_cfi, .int w_nf, .ref a_ccl, .int w_nc])), (a_td, .inr (1, [.ref a_tw])), (a_tw, .inl (k_tw, 157, .inr (.inl f_tw)))] s.heap := hP
  have hl := lv_entry ([.ref a_h, .int p0]) (n := 2) (Nat.le_of_ble_eq_true rfl)
  rw [lg_entry_eq]
  generalize (lg_sl ([.ref a_h, .int p0]) ++ List.replicate (2 - (lg_sl ([.ref a_h, .int p0])).length) Slot.unset).toArray = ls at hl ⊢
  replace hl : lv_has ls 2 [(0, .ref a_h), (1, .int p0)] := hl
  obtain ⟨z, hz⟩ : ∃ z, z = g_Cg_term p0 f_tw := ⟨_, rfl⟩
  have hE := hz
  rw [g_Cg_term] at hE
  refine lv_iload_n hx hb d_C_term_0 rfl (lv_at hl 1 rfl) ?_
  have hPc := hP.sub (ws' := []) [] rfl
  have hKc := hK.sub (tys' := []) [] rfl
  refine vp_callSi (va_Run.run (va_runS (As := [.int p0]) (rest := []) ⟨hx, hb, hml, hown, hts⟩ (c_Cg_isDay l dC dI adK adV (p0 := p0)) (va_cwS 1 hts (gS tw_352 tw_353 tw_42 tw_354) rfl rfl rfl (by decide +kernel) ⟨(Nat.le_of_ble_eq_true rfl), (Nat.le_of_ble_eq_true rfl)⟩) ⟨fun a U g mk q => by obtain ⟨q0, qZ, qP, qK⟩ := q; exact ⟨q0, zz_call qZ, qP, va_K.moved (u := U) (U := U.calling g mk a) (Vm.Alike.refl U.vm) qK⟩, fun U hU hW => ⟨rfl, zz_ro hS hU hW hZ, by rw [hU]; exact hPc, va_K.moved hW.alike hKc⟩⟩ rfl rfl hl.1 rfl (lv_room (Nat.le_of_ble_eq_true rfl)) d_C_term_1 ⟨(Nat.le_of_ble_eq_true rfl), (Nat.le_of_ble_eq_true rfl)⟩)) (fun r_1 hw_2 => ?_)
  clear hPc hKc
  subst hw_2
  refine lv_if_eq (tgt := 18) hx hb d_C_term_4 (by decide) (fun c_3 => ?_) (fun c_3 => ?_)
  · rw [if_pos c_3] at hE
    refine lv_iconst (v := 0) hx hb d_C_term_18 (by decide) ?_
    have hP9 := hP.sub (ws' := [(a_h, .inr (0, [.ref a_tx, .ref a_cru, .int w_nr, .ref a_cd, .ref a_td, .ref a_cki, .ref a_cca, .ref a_cty, .ref a_cio, .ref a_cex, .ref a_clo, .int w_nl, .ref a_cfi, .int w_nf, .ref a_ccl, .int w_nc])), (a_td, .inr (1, [.ref a_tw])), (a_tw, .inl (k_tw, 157, .inr (.inl f_tw)))]) [0, 1, 2] rfl
    have hD9 := hD.sub (ws' := [(a_h, .inr (0, [.ref a_tx, .ref a_cru, .int w_nr, .ref a_cd, .ref a_td, .ref a_cki, .ref a_cca, .ref a_cty, .ref a_cio, .ref a_cex, .ref a_clo, .int w_nl, .ref a_cfi, .int w_nf, .ref a_ccl, .int w_nc])), (a_td, .inr (1, [.ref a_tw])), (a_tw, .inl (k_tw, 157, .inr (.inl f_tw)))]) [0, 1, 2] (by decide) rfl
    have hK9 := hK.sub (tys' := [(k_tw, .long)]) [0] rfl
    exact W.iret (v := 0) hx hb hr (fun t ht hW => ⟨⟨0, (), rfl, by rw [← hz, hE], by rw [ht, ← hz, hE]; exact hP9, va_K.moved hW.alike hK9, by rw [← hz, hE]; exact hD9⟩, hS.F ht⟩) hS.2.2 d_C_term_19
  · rw [if_neg c_3] at hE
    refine lv_aload_n hx hb d_C_term_7 rfl (lv_at hl 0 rfl) ?_
    refine va_get (D := (dC, dI)) (ci := 0) (v := .ref a_td) (C := "LoanRules") (T := Fz_C) (N := 16) hx hb hts it_C hown hK hP 0 rfl rfl 4 (by decide) (hts _ tw_108) (fun _ h9 => h9) rfl d_C_term_8 ?_
    refine lv_iload_n hx hb d_C_term_11 rfl (lv_at hl 1 rfl) ?_
    have hPc := hP.sub (ws' := [(a_td, .inr (1, [.ref a_tw])), (a_tw, .inl (k_tw, 157, .inr (.inl f_tw)))]) [1, 2] rfl
    have hKc := hK.sub (tys' := [(k_tw, .long)]) [0] rfl
    refine vp_callSi (va_Run.run (va_runV (As := [.int p0]) (rest := []) ⟨hx, hb, hml, hown, hts⟩ (c_Cg_holds l dC dI adK adV (a_cd := a_td) (p0 := p0) (a_cw := a_tw) (k_cw := k_tw) (f_cw := f_tw)) (cwV 1 hts (gV tw_355 tw_356 tw_357 tw_44 tw_358) rfl rfl rfl (by decide +kernel) ⟨(Nat.le_of_ble_eq_true rfl), (Nat.le_of_ble_eq_true rfl)⟩) ⟨fun a U g mk q => by obtain ⟨q0, qZ, qP, qK⟩ := q; exact ⟨q0, zz_call qZ, qP, va_K.moved (u := U) (U := U.calling g mk a) (Vm.Alike.refl U.vm) qK⟩, va_recv hKc hPc (ci := 1) (q0 := 0) rfl rfl, fun U hU hW => ⟨rfl, zz_ro hS hU hW hZ, by rw [hU]; exact hPc, va_K.moved hW.alike hKc⟩⟩ rfl rfl hl.1 rfl (lv_room (Nat.le_of_ble_eq_true rfl)) d_C_term_12 ⟨(Nat.le_of_ble_eq_true rfl), (Nat.le_of_ble_eq_true rfl)⟩)) (fun r_4 hw_5 => ?_)
    clear hPc hKc
    subst hw_5
    refine lv_if_eq (tgt := 20) hx hb d_C_term_15 (by decide) (fun c_6 => ?_) (fun c_6 => ?_)
    · rw [if_pos c_6] at hE
      refine lv_aload_n hx hb d_C_term_20 rfl (lv_at hl 0 rfl) ?_
      refine va_get (D := (dC, dI)) (ci := 0) (v := .ref a_td) (C := "LoanRules") (T := Fz_C) (N := 16) hx hb hts it_C hown hK hP 0 rfl rfl 4 (by decide) (hts _ tw_108) (fun _ h9 => h9) rfl d_C_term_21 ?_
      refine lv_iload_n hx hb d_C_term_24 rfl (lv_at hl 1 rfl) ?_
      refine lv_iconst (v := 1) hx hb d_C_term_25 (by decide) ?_
      have hPc := hP.sub (ws' := [(a_td, .inr (1, [.ref a_tw])), (a_tw, .inl (k_tw, 157, .inr (.inl f_tw)))]) [1, 2] rfl
      have hKc := hK.sub (tys' := [(k_tw, .long)]) [0] rfl
      have hDc := hD.sub (ws' := [(a_td, .inr (1, [.ref a_tw])), (a_tw, .inl (k_tw, 157, .inr (.inl f_tw)))]) [1, 2] (by decide) rfl
      have hFc := va_free (wc := [(a_td, .inr (1, [.ref a_tw])), (a_tw, .inl (k_tw, 157, .inr (.inl f_tw)))]) hD hS hA [1, 2] rfl
      refine va_callv (va_runV (As := [.int p0, .int 1]) (rest := []) ⟨hx, hb, hml, hown, hts⟩ (c_Cg_put l dC dI adK adV (a_cd := a_td) (p0 := p0) (p1 := 1) (a_cw := a_tw) (k_cw := k_tw) (f_cw := f_tw) (sz := s.heap.size)) (cwV 2 hts (gV tw_360 tw_361 tw_362 tw_44 tw_363) rfl rfl rfl (by decide +kernel) ⟨(Nat.le_of_ble_eq_true rfl), (Nat.le_of_ble_eq_true rfl)⟩) ⟨fun a U g mk q => by obtain ⟨q0, q1, qZ, qP, qK, qD⟩ := q; exact ⟨q0, q1, zz_call qZ, qP, va_K.moved (u := U) (U := U.calling g mk a) (Vm.Alike.refl U.vm) qK, qD⟩, va_recv hKc hPc (ci := 1) (q0 := 0) rfl rfl, fun U hU hW => ⟨rfl, by rw [hU], zz_rw hS hFc hU hW hZ, by rw [hU]; exact hPc, va_K.moved hW.alike hKc, hDc.weaken (fun _ _ _ _ => trivial)⟩⟩ rfl rfl hl.1 rfl (lv_room (Nat.le_of_ble_eq_true rfl)) d_C_term_26 ⟨(Nat.le_of_ble_eq_true rfl), (Nat.le_of_ble_eq_true rfl)⟩) hS (fun q _ h => hFc q h) hFc (fun u t H1 locs ht hvm hw_7 hB hz1 hk1 hS => ?_)
      generalize hg_x_8 : g_Cg_put p0 1 f_tw = x_8 at hw_7 hB hE
      rw [bv_eq] at hE
      obtain ⟨hP1, hK1, hD1⟩ := hB
      rw [ht] at hP1
      have hK1 := va_K.moved hvm.symm hK1
      obtain ⟨hP, hD⟩ := va_join (wr := [(a_h, .inr (0, [.ref a_tx, .ref a_cru, .int w_nr, .ref a_cd, .ref a_td, .ref a_cki, .ref a_cca, .ref a_cty, .ref a_cio, .ref a_cex, .ref a_clo, .int w_nl, .ref a_cfi, .int w_nf, .ref a_ccl, .int w_nc]))]) (w1 := [(a_td, .inr (1, [.ref a_tw])), (a_tw, .inl (k_tw, 157, .inr (.inl x_8)))]) hP hD [1, 2] [0] rfl rfl (by decide) (by decide) hk1 hFc hP1 hD1
      replace hK := (hK.sub (tys' := []) [] rfl).app hK1
      generalize H1 = H at hP hS ⊢
      replace hP := hP.sub (ws' := [(a_h, .inr (0, [.ref a_tx, .ref a_cru, .int w_nr, .ref a_cd, .ref a_td, .ref a_cki, .ref a_cca, .ref a_cty, .ref a_cio, .ref a_cex, .ref a_clo, .int w_nl, .ref a_cfi, .int w_nf, .ref a_ccl, .int w_nc])), (a_td, .inr (1, [.ref a_tw])), (a_tw, .inl (k_tw, 157, .inr (.inl x_8)))]) [0, 1, 2] rfl
      replace hD := hD.sub (ws' := [(a_h, .inr (0, [.ref a_tx, .ref a_cru, .int w_nr, .ref a_cd, .ref a_td, .ref a_cki, .ref a_cca, .ref a_cty, .ref a_cio, .ref a_cex, .ref a_clo, .int w_nl, .ref a_cfi, .int w_nf, .ref a_ccl, .int w_nc])), (a_td, .inr (1, [.ref a_tw])), (a_tw, .inl (k_tw, 157, .inr (.inl x_8)))]) [0, 1, 2] (by decide) rfl
      replace hK := hK.sub (tys' := [(k_tw, .long)]) [0] rfl
      refine lv_iconst (v := 1) hx hb d_C_term_29 (by decide) ?_
      have hP9 := hP.sub (ws' := [(a_h, .inr (0, [.ref a_tx, .ref a_cru, .int w_nr, .ref a_cd, .ref a_td, .ref a_cki, .ref a_cca, .ref a_cty, .ref a_cio, .ref a_cex, .ref a_clo, .int w_nl, .ref a_cfi, .int w_nf, .ref a_ccl, .int w_nc])), (a_td, .inr (1, [.ref a_tw])), (a_tw, .inl (k_tw, 157, .inr (.inl x_8)))]) [0, 1, 2] rfl
      have hD9 := hD.sub (ws' := [(a_h, .inr (0, [.ref a_tx, .ref a_cru, .int w_nr, .ref a_cd, .ref a_td, .ref a_cki, .ref a_cca, .ref a_cty, .ref a_cio, .ref a_cex, .ref a_clo, .int w_nl, .ref a_cfi, .int w_nf, .ref a_ccl, .int w_nc])), (a_td, .inr (1, [.ref a_tw])), (a_tw, .inl (k_tw, 157, .inr (.inl x_8)))]) [0, 1, 2] (by decide) rfl
      have hK9 := hK.sub (tys' := [(k_tw, .long)]) [0] rfl
      exact W.iret (v := 1) hx hb hr (fun t ht hW => ⟨⟨1, (), rfl, by rw [← hz, hE], by rw [ht, ← hz, hE]; exact hP9, va_K.moved hW.alike hK9, by rw [← hz, hE]; exact hD9⟩, hS.F ht⟩) hS.2.2 d_C_term_30
    · rw [if_neg c_6] at hE
      refine lv_iconst (v := 0) hx hb d_C_term_18 (by decide) ?_
      have hP9 := hP.sub (ws' := [(a_h, .inr (0, [.ref a_tx, .ref a_cru, .int w_nr, .ref a_cd, .ref a_td, .ref a_cki, .ref a_cca, .ref a_cty, .ref a_cio, .ref a_cex, .ref a_clo, .int w_nl, .ref a_cfi, .int w_nf, .ref a_ccl, .int w_nc])), (a_td, .inr (1, [.ref a_tw])), (a_tw, .inl (k_tw, 157, .inr (.inl f_tw)))]) [0, 1, 2] rfl
      have hD9 := hD.sub (ws' := [(a_h, .inr (0, [.ref a_tx, .ref a_cru, .int w_nr, .ref a_cd, .ref a_td, .ref a_cki, .ref a_cca, .ref a_cty, .ref a_cio, .ref a_cex, .ref a_clo, .int w_nl, .ref a_cfi, .int w_nf, .ref a_ccl, .int w_nc])), (a_td, .inr (1, [.ref a_tw])), (a_tw, .inl (k_tw, 157, .inr (.inl f_tw)))]) [0, 1, 2] (by decide) rfl
      have hK9 := hK.sub (tys' := [(k_tw, .long)]) [0] rfl
      exact W.iret (v := 0) hx hb hr (fun t ht hW => ⟨⟨0, (), rfl, by rw [← hz, hE], by rw [ht, ← hz, hE]; exact hP9, va_K.moved hW.alike hK9, by rw [← hz, hE]; exact hD9⟩, hS.F ht⟩) hS.2.2 d_C_term_19
def g_Cg_row (p0 : Int32) (p1 : Int32) (p2 : Int32) (f_cki : Nat → Int32) (f_cty : Nat → Int32) : Int32 × (Nat → Int32) × (Nat → Int32) :=
  if p2 < 0 then
    (0, f_cki, f_cty)
  else
    if p2 ≤ 9 then
      if p0 = 0 then
        if (g_Cg_isPerson p1) = 0 then
          if p0 = 1 then
            if (g_Cg_isItem p1) = 0 then
              (0, f_cki, f_cty)
            else
              (1, f_cki, upd f_cty p1.toNatClampNeg p2)
          else
            (0, f_cki, f_cty)
        else
          (1, upd f_cki p1.toNatClampNeg p2, f_cty)
      else
        if p0 = 1 then
          if (g_Cg_isItem p1) = 0 then
            (0, f_cki, f_cty)
          else
            (1, f_cki, upd f_cty p1.toNatClampNeg p2)
        else
          (0, f_cki, f_cty)
    else
      (0, f_cki, f_cty)
set_option maxHeartbeats 4000000 in
set_option maxRecDepth 100000 in
theorem c_Cg_row (l : Launch) (dC : Nat → ClassId) (dI : Nat → Nat → Nat) (adK adV : Nat → Nat) (a_h : Nat) (a_cki : Nat) (a_cty : Nat) (k_cki : ClassId) (k_cty : ClassId) (p0 : Int32) (p1 : Int32) (p2 : Int32) (a_tx : Nat) (a_cru : Nat) (w_nr : Int32) (a_cd : Nat) (a_td : Nat) (a_cca : Nat) (a_cio : Nat) (a_cex : Nat) (a_clo : Nat) (w_nl : Int32) (a_cfi : Nat) (w_nf : Int32) (a_ccl : Nat) (w_nc : Int32) (f_cki : Nat → Int32) (f_cty : Nat → Int32) (sz : Nat) : Met l y_C_row ws_C_row ({ frames := 1, cells := 0, slots := 0, locals := 20 }) (va_Pc [.ref a_h, .int p0, .int p1, .int p2] (fun U => U.heap.size = sz ∧ zz adK adV (va_A [(a_h, .inr (0, [.ref a_tx, .ref a_cru, .int w_nr, .ref a_cd, .ref a_td, .ref a_cki, .ref a_cca, .ref a_cty, .ref a_cio, .ref a_cex, .ref a_clo, .int w_nl, .ref a_cfi, .int w_nf, .ref a_ccl, .int w_nc])), (a_cki, .inl (k_cki, 50, .inl f_cki)), (a_cty, .inl (k_cty, 50, .inl f_cty))] sz) U ∧ va_P (dC, dI) vwCl [(a_h, .inr (0, [.ref a_tx, .ref a_cru, .int w_nr, .ref a_cd, .ref a_td, .ref a_cki, .ref a_cca, .ref a_cty, .ref a_cio, .ref a_cex, .ref a_clo, .int w_nl, .ref a_cfi, .int w_nf, .ref a_ccl, .int w_nc])), (a_cki, .inl (k_cki, 50, .inl f_cki)), (a_cty, .inl (k_cty, 50, .inl f_cty))] U.heap ∧ va_K (dC, dI) vwCl [(k_cki, .int), (k_cty, .int)] U ∧ va_D (fun _ => True) [(a_h, .inr (0, [.ref a_tx, .ref a_cru, .int w_nr, .ref a_cd, .ref a_td, .ref a_cki, .ref a_cca, .ref a_cty, .ref a_cio, .ref a_cex, .ref a_clo, .int w_nl, .ref a_cfi, .int w_nf, .ref a_ccl, .int w_nc])), (a_cki, .inl (k_cki, 50, .inl f_cki)), (a_cty, .inl (k_cty, 50, .inl f_cty))])) (va_Qi (fun (r : Int32) (_ : Unit) => r = (g_Cg_row p0 p1 p2 f_cki f_cty).1) (fun (_ : Unit) (t : State) => va_P (dC, dI) vwCl [(a_h, .inr (0, [.ref a_tx, .ref a_cru, .int w_nr, .ref a_cd, .ref a_td, .ref a_cki, .ref a_cca, .ref a_cty, .ref a_cio, .ref a_cex, .ref a_clo, .int w_nl, .ref a_cfi, .int w_nf, .ref a_ccl, .int w_nc])), (a_cki, .inl (k_cki, 50, .inl ((g_Cg_row p0 p1 p2 f_cki f_cty).2.1))), (a_cty, .inl (k_cty, 50, .inl ((g_Cg_row p0 p1 p2 f_cki f_cty).2.2)))] t.heap ∧ va_K (dC, dI) vwCl [(k_cki, .int), (k_cty, .int)] t ∧ va_D (va_A [(a_h, .inr (0, [.ref a_tx, .ref a_cru, .int w_nr, .ref a_cd, .ref a_td, .ref a_cki, .ref a_cca, .ref a_cty, .ref a_cio, .ref a_cex, .ref a_clo, .int w_nl, .ref a_cfi, .int w_nf, .ref a_ccl, .int w_nc])), (a_cki, .inl (k_cki, 50, .inl f_cki)), (a_cty, .inl (k_cty, 50, .inl f_cty))] sz) [(a_h, .inr (0, [.ref a_tx, .ref a_cru, .int w_nr, .ref a_cd, .ref a_td, .ref a_cki, .ref a_cca, .ref a_cty, .ref a_cio, .ref a_cex, .ref a_clo, .int w_nl, .ref a_cfi, .int w_nf, .ref a_ccl, .int w_nc])), (a_cki, .inl (k_cki, 50, .inl ((g_Cg_row p0 p1 p2 f_cki f_cty).2.1))), (a_cty, .inl (k_cty, 50, .inl ((g_Cg_row p0 p1 p2 f_cki f_cty).2.2)))]) (va_A [(a_h, .inr (0, [.ref a_tx, .ref a_cru, .int w_nr, .ref a_cd, .ref a_td, .ref a_cki, .ref a_cca, .ref a_cty, .ref a_cio, .ref a_cex, .ref a_clo, .int w_nl, .ref a_cfi, .int w_nf, .ref a_ccl, .int w_nc])), (a_cki, .inl (k_cki, 50, .inl f_cki)), (a_cty, .inl (k_cty, 50, .inl f_cty))] sz)) 0 0 (va_A [(a_h, .inr (0, [.ref a_tx, .ref a_cru, .int w_nr, .ref a_cd, .ref a_td, .ref a_cki, .ref a_cca, .ref a_cty, .ref a_cio, .ref a_cex, .ref a_clo, .int w_nl, .ref a_cfi, .int w_nf, .ref a_ccl, .int w_nc])), (a_cki, .inl (k_cki, 50, .inl f_cki)), (a_cty, .inl (k_cty, 50, .inl f_cty))] sz) := by
  refine Met.ofW (cc := c_C_row) (maxL := 4) (ret := (some .int)) (by decide) rfl ?_
  intro p e s m args below meth c s₁ B hml hv
  obtain ⟨rfl, hsz, hZ, hP, hK, hD0⟩ := hv
  have hx := B.exec
  have hb := B.bytes
  have hr := B.returns
  have hts0 := atoms_spec (ws := ws_C_row) B.pre
  have hts : ∀ w ∈ TT, w.before _ s = true := fun w h => hts0 w (List.mem_cons_of_mem _ h)
  have hown : s.vm.findClass "LoanRules" = some m.cls := findClass_of_methodNamed B.named
  have hlocks := B.notSynchronized
  subst hsz
  have hD := hD0.self (sz := s.heap.size)
  generalize hAe : va_A [(a_h, .inr (0, [.ref a_tx, .ref a_cru, .int w_nr, .ref a_cd, .ref a_td, .ref a_cki, .ref a_cca, .ref a_cty, .ref a_cio, .ref a_cex, .ref a_clo, .int w_nl, .ref a_cfi, .int w_nf, .ref a_ccl, .int w_nc])), (a_cki, .inl (k_cki, 50, .inl f_cki)), (a_cty, .inl (k_cty, 50, .inl f_cty))] s.heap.size = A at hD hZ ⊢
  have hA : ∀ q : Nat, s.heap.size ≤ q → A q := fun q h => by rw [← hAe]; exact Or.inr h
  clear hAe hD0
  have hS : va_S A s.heap s.heap [] := va_S.rf
  replace hP : va_P (dC, dI) vwCl [(a_h, .inr (0, [.ref a_tx, .ref a_cru, .int w_nr, .ref a_cd, .ref a_td, .ref a_cki, .ref a_cca, .ref a_cty, .ref a_cio, .ref a_cex, .ref a_clo, .int w_nl, .ref a_cfi, .int w_nf, .ref a_ccl, .int w_nc])), (a_cki, .inl (k_cki, 50, .inl f_cki)), (a_cty, .inl (k_cty, 50, .inl f_cty))] s.heap := hP
  have hl := lv_entry ([.ref a_h, .int p0, .int p1, .int p2]) (n := 4) (Nat.le_of_ble_eq_true rfl)
  rw [lg_entry_eq]
  generalize (lg_sl ([.ref a_h, .int p0, .int p1, .int p2]) ++ List.replicate (4 - (lg_sl ([.ref a_h, .int p0, .int p1, .int p2])).length) Slot.unset).toArray = ls at hl ⊢
  replace hl : lv_has ls 4 [(0, .ref a_h), (1, .int p0), (2, .int p1), (3, .int p2)] := hl
  obtain ⟨z, hz⟩ : ∃ z, z = g_Cg_row p0 p1 p2 f_cki f_cty := ⟨_, rfl⟩
  have hE := hz
  rw [g_Cg_row] at hE
  refine lv_iload_n hx hb d_C_row_0 rfl (lv_at hl 3 rfl) ?_
  refine lv_if_lt (tgt := 10) hx hb d_C_row_1 (by decide) (fun c_1 => ?_) (fun c_1 => ?_)
  · rw [if_pos c_1] at hE
    refine lv_iconst (v := 0) hx hb d_C_row_10 (by decide) ?_
    have hP9 := hP.sub (ws' := [(a_h, .inr (0, [.ref a_tx, .ref a_cru, .int w_nr, .ref a_cd, .ref a_td, .ref a_cki, .ref a_cca, .ref a_cty, .ref a_cio, .ref a_cex, .ref a_clo, .int w_nl, .ref a_cfi, .int w_nf, .ref a_ccl, .int w_nc])), (a_cki, .inl (k_cki, 50, .inl f_cki)), (a_cty, .inl (k_cty, 50, .inl f_cty))]) [0, 1, 2] rfl
    have hD9 := hD.sub (ws' := [(a_h, .inr (0, [.ref a_tx, .ref a_cru, .int w_nr, .ref a_cd, .ref a_td, .ref a_cki, .ref a_cca, .ref a_cty, .ref a_cio, .ref a_cex, .ref a_clo, .int w_nl, .ref a_cfi, .int w_nf, .ref a_ccl, .int w_nc])), (a_cki, .inl (k_cki, 50, .inl f_cki)), (a_cty, .inl (k_cty, 50, .inl f_cty))]) [0, 1, 2] (by decide) rfl
    have hK9 := hK.sub (tys' := [(k_cki, .int), (k_cty, .int)]) [0, 1] rfl
    exact W.iret (v := 0) hx hb hr (fun t ht hW => ⟨⟨0, (), rfl, by rw [← hz, hE], by rw [ht, ← hz, hE]; exact hP9, va_K.moved hW.alike hK9, by rw [← hz, hE]; exact hD9⟩, hS.F ht⟩) hS.2.2 d_C_row_11
  · rw [if_neg c_1] at hE
    refine lv_iload_n hx hb d_C_row_4 rfl (lv_at hl 3 rfl) ?_
    refine lv_bipush (v := 9) hx hb d_C_row_5 (by decide) ?_
    refine lv_icmp_le (tgt := 12) hx hb d_C_row_7 (by decide) (fun c_2 => ?_) (fun c_2 => ?_)
    · rw [if_pos c_2] at hE
      refine lv_iload_n hx hb d_C_row_12 rfl (lv_at hl 1 rfl) ?_
      refine lv_if_ne (tgt := 32) hx hb d_C_row_13 (by decide) (fun c_3 => ?_) (fun c_3 => ?_)
      · rw [if_neg c_3] at hE
        refine lv_iload_n hx hb d_C_row_32 rfl (lv_at hl 1 rfl) ?_
        refine lv_iconst (v := 1) hx hb d_C_row_33 (by decide) ?_
        refine lv_icmp_ne (tgt := 53) hx hb d_C_row_34 (by decide) (fun c_4 => ?_) (fun c_4 => ?_)
        · rw [if_neg c_4] at hE
          refine lv_iconst (v := 0) hx hb d_C_row_53 (by decide) ?_
          have hP9 := hP.sub (ws' := [(a_h, .inr (0, [.ref a_tx, .ref a_cru, .int w_nr, .ref a_cd, .ref a_td, .ref a_cki, .ref a_cca, .ref a_cty, .ref a_cio, .ref a_cex, .ref a_clo, .int w_nl, .ref a_cfi, .int w_nf, .ref a_ccl, .int w_nc])), (a_cki, .inl (k_cki, 50, .inl f_cki)), (a_cty, .inl (k_cty, 50, .inl f_cty))]) [0, 1, 2] rfl
          have hD9 := hD.sub (ws' := [(a_h, .inr (0, [.ref a_tx, .ref a_cru, .int w_nr, .ref a_cd, .ref a_td, .ref a_cki, .ref a_cca, .ref a_cty, .ref a_cio, .ref a_cex, .ref a_clo, .int w_nl, .ref a_cfi, .int w_nf, .ref a_ccl, .int w_nc])), (a_cki, .inl (k_cki, 50, .inl f_cki)), (a_cty, .inl (k_cty, 50, .inl f_cty))]) [0, 1, 2] (by decide) rfl
          have hK9 := hK.sub (tys' := [(k_cki, .int), (k_cty, .int)]) [0, 1] rfl
          exact W.iret (v := 0) hx hb hr (fun t ht hW => ⟨⟨0, (), rfl, by rw [← hz, hE], by rw [ht, ← hz, hE]; exact hP9, va_K.moved hW.alike hK9, by rw [← hz, hE]; exact hD9⟩, hS.F ht⟩) hS.2.2 d_C_row_54
        · rw [if_pos c_4] at hE
          refine lv_iload_n hx hb d_C_row_37 rfl (lv_at hl 2 rfl) ?_
          have hPc := hP.sub (ws' := []) [] rfl
          have hKc := hK.sub (tys' := []) [] rfl
          refine vp_callSi (va_Run.run (va_runS (As := [.int p1]) (rest := []) ⟨hx, hb, hml, hown, hts⟩ (c_Cg_isItem l dC dI adK adV (p0 := p1)) (va_cwS 1 hts (gS tw_376 tw_377 tw_42 tw_378) rfl rfl rfl (by decide +kernel) ⟨(Nat.le_of_ble_eq_true rfl), (Nat.le_of_ble_eq_true rfl)⟩) ⟨fun a U g mk q => by obtain ⟨q0, qZ, qP, qK⟩ := q; exact ⟨q0, zz_call qZ, qP, va_K.moved (u := U) (U := U.calling g mk a) (Vm.Alike.refl U.vm) qK⟩, fun U hU hW => ⟨rfl, zz_ro hS hU hW hZ, by rw [hU]; exact hPc, va_K.moved hW.alike hKc⟩⟩ rfl rfl hl.1 rfl (lv_room (Nat.le_of_ble_eq_true rfl)) d_C_row_38 ⟨(Nat.le_of_ble_eq_true rfl), (Nat.le_of_ble_eq_true rfl)⟩)) (fun r_5 hw_6 => ?_)
          clear hPc hKc
          subst hw_6
          refine lv_if_eq (tgt := 53) hx hb d_C_row_41 (by decide) (fun c_7 => ?_) (fun c_7 => ?_)
          · rw [if_pos c_7] at hE
            refine lv_iconst (v := 0) hx hb d_C_row_53 (by decide) ?_
            have hP9 := hP.sub (ws' := [(a_h, .inr (0, [.ref a_tx, .ref a_cru, .int w_nr, .ref a_cd, .ref a_td, .ref a_cki, .ref a_cca, .ref a_cty, .ref a_cio, .ref a_cex, .ref a_clo, .int w_nl, .ref a_cfi, .int w_nf, .ref a_ccl, .int w_nc])), (a_cki, .inl (k_cki, 50, .inl f_cki)), (a_cty, .inl (k_cty, 50, .inl f_cty))]) [0, 1, 2] rfl
            have hD9 := hD.sub (ws' := [(a_h, .inr (0, [.ref a_tx, .ref a_cru, .int w_nr, .ref a_cd, .ref a_td, .ref a_cki, .ref a_cca, .ref a_cty, .ref a_cio, .ref a_cex, .ref a_clo, .int w_nl, .ref a_cfi, .int w_nf, .ref a_ccl, .int w_nc])), (a_cki, .inl (k_cki, 50, .inl f_cki)), (a_cty, .inl (k_cty, 50, .inl f_cty))]) [0, 1, 2] (by decide) rfl
            have hK9 := hK.sub (tys' := [(k_cki, .int), (k_cty, .int)]) [0, 1] rfl
            exact W.iret (v := 0) hx hb hr (fun t ht hW => ⟨⟨0, (), rfl, by rw [← hz, hE], by rw [ht, ← hz, hE]; exact hP9, va_K.moved hW.alike hK9, by rw [← hz, hE]; exact hD9⟩, hS.F ht⟩) hS.2.2 d_C_row_54
          · rw [if_neg c_7] at hE
            refine lv_aload_n hx hb d_C_row_44 rfl (lv_at hl 0 rfl) ?_
            refine va_get (D := (dC, dI)) (ci := 0) (v := .ref a_cty) (C := "LoanRules") (T := Fz_C) (N := 16) hx hb hts it_C hown hK hP 0 rfl rfl 7 (by decide) (hts _ tw_111) (fun _ h9 => h9) rfl d_C_row_45 ?_
            refine lv_iload_n hx hb d_C_row_48 rfl (lv_at hl 2 rfl) ?_
            refine lv_iload_n hx hb d_C_row_49 rfl (lv_at hl 3 rfl) ?_
            have i_8 : vp_in p1 50 := ix50 (itemC c_7)
            refine va_iast (D := (dC, dI)) hx hb hK hP hD hS 2 1 rfl rfl i_8 d_C_row_50 (fun H locs hP hD hS => ?_)
            replace hP : va_P (dC, dI) vwCl [(a_h, .inr (0, [.ref a_tx, .ref a_cru, .int w_nr, .ref a_cd, .ref a_td, .ref a_cki, .ref a_cca, .ref a_cty, .ref a_cio, .ref a_cex, .ref a_clo, .int w_nl, .ref a_cfi, .int w_nf, .ref a_ccl, .int w_nc])), (a_cki, .inl (k_cki, 50, .inl f_cki)), (a_cty, .inl (k_cty, 50, .inl (upd f_cty p1.toNatClampNeg p2)))] H := hP
            replace hD : va_D A [(a_h, .inr (0, [.ref a_tx, .ref a_cru, .int w_nr, .ref a_cd, .ref a_td, .ref a_cki, .ref a_cca, .ref a_cty, .ref a_cio, .ref a_cex, .ref a_clo, .int w_nl, .ref a_cfi, .int w_nf, .ref a_ccl, .int w_nc])), (a_cki, .inl (k_cki, 50, .inl f_cki)), (a_cty, .inl (k_cty, 50, .inl (upd f_cty p1.toNatClampNeg p2)))] := hD
            refine lv_iconst (v := 1) hx hb d_C_row_51 (by decide) ?_
            have hP9 := hP.sub (ws' := [(a_h, .inr (0, [.ref a_tx, .ref a_cru, .int w_nr, .ref a_cd, .ref a_td, .ref a_cki, .ref a_cca, .ref a_cty, .ref a_cio, .ref a_cex, .ref a_clo, .int w_nl, .ref a_cfi, .int w_nf, .ref a_ccl, .int w_nc])), (a_cki, .inl (k_cki, 50, .inl f_cki)), (a_cty, .inl (k_cty, 50, .inl (upd f_cty p1.toNatClampNeg p2)))]) [0, 1, 2] rfl
            have hD9 := hD.sub (ws' := [(a_h, .inr (0, [.ref a_tx, .ref a_cru, .int w_nr, .ref a_cd, .ref a_td, .ref a_cki, .ref a_cca, .ref a_cty, .ref a_cio, .ref a_cex, .ref a_clo, .int w_nl, .ref a_cfi, .int w_nf, .ref a_ccl, .int w_nc])), (a_cki, .inl (k_cki, 50, .inl f_cki)), (a_cty, .inl (k_cty, 50, .inl (upd f_cty p1.toNatClampNeg p2)))]) [0, 1, 2] (by decide) rfl
            have hK9 := hK.sub (tys' := [(k_cki, .int), (k_cty, .int)]) [0, 1] rfl
            exact W.iret (v := 1) hx hb hr (fun t ht hW => ⟨⟨1, (), rfl, by rw [← hz, hE], by rw [ht, ← hz, hE]; exact hP9, va_K.moved hW.alike hK9, by rw [← hz, hE]; exact hD9⟩, hS.F ht⟩) hS.2.2 d_C_row_52
      · rw [if_pos c_3] at hE
        refine lv_iload_n hx hb d_C_row_16 rfl (lv_at hl 2 rfl) ?_
        have hPc := hP.sub (ws' := []) [] rfl
        have hKc := hK.sub (tys' := []) [] rfl
        refine vp_callSi (va_Run.run (va_runS (As := [.int p1]) (rest := []) ⟨hx, hb, hml, hown, hts⟩ (c_Cg_isPerson l dC dI adK adV (p0 := p1)) (va_cwS 1 hts (gS tw_373 tw_374 tw_42 tw_375) rfl rfl rfl (by decide +kernel) ⟨(Nat.le_of_ble_eq_true rfl), (Nat.le_of_ble_eq_true rfl)⟩) ⟨fun a U g mk q => by obtain ⟨q0, qZ, qP, qK⟩ := q; exact ⟨q0, zz_call qZ, qP, va_K.moved (u := U) (U := U.calling g mk a) (Vm.Alike.refl U.vm) qK⟩, fun U hU hW => ⟨rfl, zz_ro hS hU hW hZ, by rw [hU]; exact hPc, va_K.moved hW.alike hKc⟩⟩ rfl rfl hl.1 rfl (lv_room (Nat.le_of_ble_eq_true rfl)) d_C_row_17 ⟨(Nat.le_of_ble_eq_true rfl), (Nat.le_of_ble_eq_true rfl)⟩)) (fun r_9 hw_10 => ?_)
        clear hPc hKc
        subst hw_10
        refine lv_if_eq (tgt := 32) hx hb d_C_row_20 (by decide) (fun c_11 => ?_) (fun c_11 => ?_)
        · rw [if_pos c_11] at hE
          refine lv_iload_n hx hb d_C_row_32 rfl (lv_at hl 1 rfl) ?_
          refine lv_iconst (v := 1) hx hb d_C_row_33 (by decide) ?_
          refine lv_icmp_ne (tgt := 53) hx hb d_C_row_34 (by decide) (fun c_12 => ?_) (fun c_12 => ?_)
          · rw [if_neg c_12] at hE
            refine lv_iconst (v := 0) hx hb d_C_row_53 (by decide) ?_
            have hP9 := hP.sub (ws' := [(a_h, .inr (0, [.ref a_tx, .ref a_cru, .int w_nr, .ref a_cd, .ref a_td, .ref a_cki, .ref a_cca, .ref a_cty, .ref a_cio, .ref a_cex, .ref a_clo, .int w_nl, .ref a_cfi, .int w_nf, .ref a_ccl, .int w_nc])), (a_cki, .inl (k_cki, 50, .inl f_cki)), (a_cty, .inl (k_cty, 50, .inl f_cty))]) [0, 1, 2] rfl
            have hD9 := hD.sub (ws' := [(a_h, .inr (0, [.ref a_tx, .ref a_cru, .int w_nr, .ref a_cd, .ref a_td, .ref a_cki, .ref a_cca, .ref a_cty, .ref a_cio, .ref a_cex, .ref a_clo, .int w_nl, .ref a_cfi, .int w_nf, .ref a_ccl, .int w_nc])), (a_cki, .inl (k_cki, 50, .inl f_cki)), (a_cty, .inl (k_cty, 50, .inl f_cty))]) [0, 1, 2] (by decide) rfl
            have hK9 := hK.sub (tys' := [(k_cki, .int), (k_cty, .int)]) [0, 1] rfl
            exact W.iret (v := 0) hx hb hr (fun t ht hW => ⟨⟨0, (), rfl, by rw [← hz, hE], by rw [ht, ← hz, hE]; exact hP9, va_K.moved hW.alike hK9, by rw [← hz, hE]; exact hD9⟩, hS.F ht⟩) hS.2.2 d_C_row_54
          · rw [if_pos c_12] at hE
            refine lv_iload_n hx hb d_C_row_37 rfl (lv_at hl 2 rfl) ?_
            have hPc := hP.sub (ws' := []) [] rfl
            have hKc := hK.sub (tys' := []) [] rfl
            refine vp_callSi (va_Run.run (va_runS (As := [.int p1]) (rest := []) ⟨hx, hb, hml, hown, hts⟩ (c_Cg_isItem l dC dI adK adV (p0 := p1)) (va_cwS 1 hts (gS tw_376 tw_377 tw_42 tw_378) rfl rfl rfl (by decide +kernel) ⟨(Nat.le_of_ble_eq_true rfl), (Nat.le_of_ble_eq_true rfl)⟩) ⟨fun a U g mk q => by obtain ⟨q0, qZ, qP, qK⟩ := q; exact ⟨q0, zz_call qZ, qP, va_K.moved (u := U) (U := U.calling g mk a) (Vm.Alike.refl U.vm) qK⟩, fun U hU hW => ⟨rfl, zz_ro hS hU hW hZ, by rw [hU]; exact hPc, va_K.moved hW.alike hKc⟩⟩ rfl rfl hl.1 rfl (lv_room (Nat.le_of_ble_eq_true rfl)) d_C_row_38 ⟨(Nat.le_of_ble_eq_true rfl), (Nat.le_of_ble_eq_true rfl)⟩)) (fun r_13 hw_14 => ?_)
            clear hPc hKc
            subst hw_14
            refine lv_if_eq (tgt := 53) hx hb d_C_row_41 (by decide) (fun c_15 => ?_) (fun c_15 => ?_)
            · rw [if_pos c_15] at hE
              refine lv_iconst (v := 0) hx hb d_C_row_53 (by decide) ?_
              have hP9 := hP.sub (ws' := [(a_h, .inr (0, [.ref a_tx, .ref a_cru, .int w_nr, .ref a_cd, .ref a_td, .ref a_cki, .ref a_cca, .ref a_cty, .ref a_cio, .ref a_cex, .ref a_clo, .int w_nl, .ref a_cfi, .int w_nf, .ref a_ccl, .int w_nc])), (a_cki, .inl (k_cki, 50, .inl f_cki)), (a_cty, .inl (k_cty, 50, .inl f_cty))]) [0, 1, 2] rfl
              have hD9 := hD.sub (ws' := [(a_h, .inr (0, [.ref a_tx, .ref a_cru, .int w_nr, .ref a_cd, .ref a_td, .ref a_cki, .ref a_cca, .ref a_cty, .ref a_cio, .ref a_cex, .ref a_clo, .int w_nl, .ref a_cfi, .int w_nf, .ref a_ccl, .int w_nc])), (a_cki, .inl (k_cki, 50, .inl f_cki)), (a_cty, .inl (k_cty, 50, .inl f_cty))]) [0, 1, 2] (by decide) rfl
              have hK9 := hK.sub (tys' := [(k_cki, .int), (k_cty, .int)]) [0, 1] rfl
              exact W.iret (v := 0) hx hb hr (fun t ht hW => ⟨⟨0, (), rfl, by rw [← hz, hE], by rw [ht, ← hz, hE]; exact hP9, va_K.moved hW.alike hK9, by rw [← hz, hE]; exact hD9⟩, hS.F ht⟩) hS.2.2 d_C_row_54
            · rw [if_neg c_15] at hE
              refine lv_aload_n hx hb d_C_row_44 rfl (lv_at hl 0 rfl) ?_
              refine va_get (D := (dC, dI)) (ci := 0) (v := .ref a_cty) (C := "LoanRules") (T := Fz_C) (N := 16) hx hb hts it_C hown hK hP 0 rfl rfl 7 (by decide) (hts _ tw_111) (fun _ h9 => h9) rfl d_C_row_45 ?_
              refine lv_iload_n hx hb d_C_row_48 rfl (lv_at hl 2 rfl) ?_
              refine lv_iload_n hx hb d_C_row_49 rfl (lv_at hl 3 rfl) ?_
              have i_16 : vp_in p1 50 := ix50 (itemC c_15)
              refine va_iast (D := (dC, dI)) hx hb hK hP hD hS 2 1 rfl rfl i_16 d_C_row_50 (fun H locs hP hD hS => ?_)
              replace hP : va_P (dC, dI) vwCl [(a_h, .inr (0, [.ref a_tx, .ref a_cru, .int w_nr, .ref a_cd, .ref a_td, .ref a_cki, .ref a_cca, .ref a_cty, .ref a_cio, .ref a_cex, .ref a_clo, .int w_nl, .ref a_cfi, .int w_nf, .ref a_ccl, .int w_nc])), (a_cki, .inl (k_cki, 50, .inl f_cki)), (a_cty, .inl (k_cty, 50, .inl (upd f_cty p1.toNatClampNeg p2)))] H := hP
              replace hD : va_D A [(a_h, .inr (0, [.ref a_tx, .ref a_cru, .int w_nr, .ref a_cd, .ref a_td, .ref a_cki, .ref a_cca, .ref a_cty, .ref a_cio, .ref a_cex, .ref a_clo, .int w_nl, .ref a_cfi, .int w_nf, .ref a_ccl, .int w_nc])), (a_cki, .inl (k_cki, 50, .inl f_cki)), (a_cty, .inl (k_cty, 50, .inl (upd f_cty p1.toNatClampNeg p2)))] := hD
              refine lv_iconst (v := 1) hx hb d_C_row_51 (by decide) ?_
              have hP9 := hP.sub (ws' := [(a_h, .inr (0, [.ref a_tx, .ref a_cru, .int w_nr, .ref a_cd, .ref a_td, .ref a_cki, .ref a_cca, .ref a_cty, .ref a_cio, .ref a_cex, .ref a_clo, .int w_nl, .ref a_cfi, .int w_nf, .ref a_ccl, .int w_nc])), (a_cki, .inl (k_cki, 50, .inl f_cki)), (a_cty, .inl (k_cty, 50, .inl (upd f_cty p1.toNatClampNeg p2)))]) [0, 1, 2] rfl
              have hD9 := hD.sub (ws' := [(a_h, .inr (0, [.ref a_tx, .ref a_cru, .int w_nr, .ref a_cd, .ref a_td, .ref a_cki, .ref a_cca, .ref a_cty, .ref a_cio, .ref a_cex, .ref a_clo, .int w_nl, .ref a_cfi, .int w_nf, .ref a_ccl, .int w_nc])), (a_cki, .inl (k_cki, 50, .inl f_cki)), (a_cty, .inl (k_cty, 50, .inl (upd f_cty p1.toNatClampNeg p2)))]) [0, 1, 2] (by decide) rfl
              have hK9 := hK.sub (tys' := [(k_cki, .int), (k_cty, .int)]) [0, 1] rfl
              exact W.iret (v := 1) hx hb hr (fun t ht hW => ⟨⟨1, (), rfl, by rw [← hz, hE], by rw [ht, ← hz, hE]; exact hP9, va_K.moved hW.alike hK9, by rw [← hz, hE]; exact hD9⟩, hS.F ht⟩) hS.2.2 d_C_row_52
        · rw [if_neg c_11] at hE
          refine lv_aload_n hx hb d_C_row_23 rfl (lv_at hl 0 rfl) ?_
          refine va_get (D := (dC, dI)) (ci := 0) (v := .ref a_cki) (C := "LoanRules") (T := Fz_C) (N := 16) hx hb hts it_C hown hK hP 0 rfl rfl 5 (by decide) (hts _ tw_109) (fun _ h9 => h9) rfl d_C_row_24 ?_
          refine lv_iload_n hx hb d_C_row_27 rfl (lv_at hl 2 rfl) ?_
          refine lv_iload_n hx hb d_C_row_28 rfl (lv_at hl 3 rfl) ?_
          have i_17 : vp_in p1 50 := ix50 (persC c_11)
          refine va_iast (D := (dC, dI)) hx hb hK hP hD hS 1 0 rfl rfl i_17 d_C_row_29 (fun H locs hP hD hS => ?_)
          replace hP : va_P (dC, dI) vwCl [(a_h, .inr (0, [.ref a_tx, .ref a_cru, .int w_nr, .ref a_cd, .ref a_td, .ref a_cki, .ref a_cca, .ref a_cty, .ref a_cio, .ref a_cex, .ref a_clo, .int w_nl, .ref a_cfi, .int w_nf, .ref a_ccl, .int w_nc])), (a_cki, .inl (k_cki, 50, .inl (upd f_cki p1.toNatClampNeg p2))), (a_cty, .inl (k_cty, 50, .inl f_cty))] H := hP
          replace hD : va_D A [(a_h, .inr (0, [.ref a_tx, .ref a_cru, .int w_nr, .ref a_cd, .ref a_td, .ref a_cki, .ref a_cca, .ref a_cty, .ref a_cio, .ref a_cex, .ref a_clo, .int w_nl, .ref a_cfi, .int w_nf, .ref a_ccl, .int w_nc])), (a_cki, .inl (k_cki, 50, .inl (upd f_cki p1.toNatClampNeg p2))), (a_cty, .inl (k_cty, 50, .inl f_cty))] := hD
          refine lv_iconst (v := 1) hx hb d_C_row_30 (by decide) ?_
          have hP9 := hP.sub (ws' := [(a_h, .inr (0, [.ref a_tx, .ref a_cru, .int w_nr, .ref a_cd, .ref a_td, .ref a_cki, .ref a_cca, .ref a_cty, .ref a_cio, .ref a_cex, .ref a_clo, .int w_nl, .ref a_cfi, .int w_nf, .ref a_ccl, .int w_nc])), (a_cki, .inl (k_cki, 50, .inl (upd f_cki p1.toNatClampNeg p2))), (a_cty, .inl (k_cty, 50, .inl f_cty))]) [0, 1, 2] rfl
          have hD9 := hD.sub (ws' := [(a_h, .inr (0, [.ref a_tx, .ref a_cru, .int w_nr, .ref a_cd, .ref a_td, .ref a_cki, .ref a_cca, .ref a_cty, .ref a_cio, .ref a_cex, .ref a_clo, .int w_nl, .ref a_cfi, .int w_nf, .ref a_ccl, .int w_nc])), (a_cki, .inl (k_cki, 50, .inl (upd f_cki p1.toNatClampNeg p2))), (a_cty, .inl (k_cty, 50, .inl f_cty))]) [0, 1, 2] (by decide) rfl
          have hK9 := hK.sub (tys' := [(k_cki, .int), (k_cty, .int)]) [0, 1] rfl
          exact W.iret (v := 1) hx hb hr (fun t ht hW => ⟨⟨1, (), rfl, by rw [← hz, hE], by rw [ht, ← hz, hE]; exact hP9, va_K.moved hW.alike hK9, by rw [← hz, hE]; exact hD9⟩, hS.F ht⟩) hS.2.2 d_C_row_31
    · rw [if_neg c_2] at hE
      refine lv_iconst (v := 0) hx hb d_C_row_10 (by decide) ?_
      have hP9 := hP.sub (ws' := [(a_h, .inr (0, [.ref a_tx, .ref a_cru, .int w_nr, .ref a_cd, .ref a_td, .ref a_cki, .ref a_cca, .ref a_cty, .ref a_cio, .ref a_cex, .ref a_clo, .int w_nl, .ref a_cfi, .int w_nf, .ref a_ccl, .int w_nc])), (a_cki, .inl (k_cki, 50, .inl f_cki)), (a_cty, .inl (k_cty, 50, .inl f_cty))]) [0, 1, 2] rfl
      have hD9 := hD.sub (ws' := [(a_h, .inr (0, [.ref a_tx, .ref a_cru, .int w_nr, .ref a_cd, .ref a_td, .ref a_cki, .ref a_cca, .ref a_cty, .ref a_cio, .ref a_cex, .ref a_clo, .int w_nl, .ref a_cfi, .int w_nf, .ref a_ccl, .int w_nc])), (a_cki, .inl (k_cki, 50, .inl f_cki)), (a_cty, .inl (k_cty, 50, .inl f_cty))]) [0, 1, 2] (by decide) rfl
      have hK9 := hK.sub (tys' := [(k_cki, .int), (k_cty, .int)]) [0, 1] rfl
      exact W.iret (v := 0) hx hb hr (fun t ht hW => ⟨⟨0, (), rfl, by rw [← hz, hE], by rw [ht, ← hz, hE]; exact hP9, va_K.moved hW.alike hK9, by rw [← hz, hE]; exact hD9⟩, hS.F ht⟩) hS.2.2 d_C_row_11
