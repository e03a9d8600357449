theorem tnp_v {p p1 w_ln w_pl w_wr : Int32} {f : Nat → Int32} (hp : p.toInt ≤ 3) (hln : i120 w_ln) (hpl : i120 w_pl) : r999 (g_Cg_takeNumber p p1 w_ln w_pl w_wr f).1 := by
  have h0 := tsp_at (w_wr := w_wr) (f_sg := f) hln hpl
  have h := gl_num_v (p0 := p) (f := f) hp hln 121 (g_Cg_takeSpace w_ln w_pl w_wr f).1 (g_Cg_takeSpace w_ln w_pl w_wr f).1 0 h0.1 (Int.le_refl _) h0.2 (by refine ⟨by decide, by decide, fun _ => by decide, fun _ => by decide, fun _ => by decide⟩)
  unfold g_Cg_takeNumber
  repeat' (first | with_reducible refine pt_i (fun t : Int32 × Int32 × Int32 => r999 t.1) (fun _ => ?_) (fun _ => ?_) | with_reducible refine pt_v (fun t : Int32 × Int32 × Int32 => r999 t.1) ?_)
  all_goals with_reducible exact h
abbrev m1 (x : Int32) : Prop := -1 ≤ x.toInt
theorem m1_9 {x : Int32} (h : r999 x) : m1 x := by
  have := h.1
  show -1 ≤ x.toInt
  omega
theorem rcn_v {iw : Nat} {p p1 w_ln w_pl w_wr : Int32} {f : Nat → Int32} (hp : p.toInt ≤ 3) (hiw : iw < nst) (hln : i120 w_ln) (hpl : i120 w_pl) : m1 (g_Cg_readCondition p p1 iw w_ln w_pl w_wr f).1 := by
  have h := twd_at (f_sg := f) hiw hln hpl
  unfold g_Cg_readCondition
  repeat' (first | with_reducible refine pt_i (fun t : Int32 × Int32 × Int32 => m1 t.1) (fun _ => ?_) (fun _ => ?_) | with_reducible refine pt_v (fun t : Int32 × Int32 × Int32 => m1 t.1) ?_)
  · show -1 ≤ (-1 : Int32).toInt
    decide
  · with_reducible exact m1_9 (tnp_v hp hln h)
abbrev d03 (x : Int32) : Prop := 0 ≤ x.toInt ∧ x.toInt ≤ 3
theorem rln_d {w_ln w_pl w_wr r_da : Int32} {f : Nat → Int32} : d03 (g_Cg_readLength w_ln w_pl w_wr f r_da).2.2.1 := by
  unfold g_Cg_readLength
  repeat' (first | with_reducible refine pt_i (fun t : Int32 × Int32 × Int32 × Int32 => d03 t.2.2.1) (fun _ => ?_) (fun _ => ?_) | with_reducible refine pt_v (fun t : Int32 × Int32 × Int32 × Int32 => d03 t.2.2.1) ?_)
  · with_reducible exact (by decide : d03 0)
  · with_reducible exact (by decide : d03 1)
theorem rdd_d {w_ln w_pl w_wr r_de r_da : Int32} {f : Nat → Int32} (h : d03 r_de) : d03 (g_Cg_readDeed w_ln w_pl w_wr f r_de r_da).2.2.1 := by
  unfold g_Cg_readDeed
  repeat' (first | with_reducible refine pt_i (fun t : Int32 × Int32 × Int32 × Int32 => d03 t.2.2.1) (fun _ => ?_) (fun _ => ?_) | with_reducible refine pt_v (fun t : Int32 × Int32 × Int32 × Int32 => d03 t.2.2.1) ?_)
  all_goals first | with_reducible exact h | with_reducible exact (by decide : d03 3) | with_reducible exact (by decide : d03 2) | with_reducible exact rln_d
theorem rrs_g {w_ln w_pl w_wr r_de r_re r_ga r_rc r_rk : Int32} {f : Nat → Int32} (hln : i120 w_ln) (hpl : i120 w_pl) (hp : r999 r_ga) : r999 (g_Cg_readRest w_ln w_pl w_wr f r_de r_re r_ga r_rc r_rk).2.2.2.1 := by
  unfold g_Cg_readRest
  repeat' (first | with_reducible refine pt_i (fun t : Int32 × Int32 × Int32 × Int32 × Int32 × Int32 => r999 t.2.2.2.1) (fun _ => ?_) (fun _ => ?_) | with_reducible refine pt_v (fun t : Int32 × Int32 × Int32 × Int32 × Int32 × Int32 => r999 t.2.2.2.1) ?_)
  all_goals first | with_reducible exact hp | with_reducible exact rop_v (by decide) hln (rop_at (by decide) hln hpl) hp
abbrev fOK (F : Nat → Nat → Int32) (r : Nat) : Prop := m1 (F 0 r) ∧ m1 (F 1 r) ∧ m1 (F 2 r) ∧ d03 (F 3 r) ∧ r999 (F 6 r)
def RU (w_nr v_n : Int32) (F : Nat → Nat → Int32) (R me le : Nat → Int32) : Prop := w_nr = v_n ∧ (∀ r, r < nN v_n → ∀ k, k < 9 → F k r = R (10 * r + k)) ∧ (∀ r, r < nN v_n → F 9 r = me r) ∧ (∀ r, r < nN v_n → F 3 r = 3 → F 10 r = le r) ∧ (∀ r, nN v_n ≤ r → me r = 0 ∧ le r = 0) ∧ (∀ r, r < nN v_n → fOK F r)
theorem ru_lo {w_nr v_n : Int32} {F : Nat → Nat → Int32} {R R' me le : Nat → Int32} (hL : LO (nN v_n) R R') (h : RU w_nr v_n F R me le) : RU w_nr v_n F R' me le := by
  obtain ⟨h1, h2, h3, h4, h5, h6⟩ := h
  refine ⟨h1, fun r hr k hk => ?_, h3, h4, h5, h6⟩
  rw [h2 r hr k hk, hL (10 * r + k) (by omega)]
theorem fp_n (F : Nat → Nat → Int32) (n : Nat) (l : List Int32) (a b : Nat) : fpush F n l a b = if b = n then l.getD a 0 else F a b := rfl
theorem row9_at {vn : Int32} {R : Nat → Int32} {y : T12} (hvn : 0 ≤ vn.toInt ∧ vn.toInt ≤ 40) : ∀ k, k < 9 → row9 vn R y (10 * nN vn + k) = [y.2.2.2.1, y.2.2.2.2.1, y.2.2.2.2.2.1, y.2.2.2.2.2.2.1, y.2.2.2.2.2.2.2.1, y.2.2.2.2.2.2.2.2.1, y.2.2.2.2.2.2.2.2.2.1, y.2.2.2.2.2.2.2.2.2.2.1, y.2.2.2.2.2.2.2.2.2.2.2, 0, 0].getD k 0 := by
  intro k hk
  have i0 : ((10 * vn) + 0).toNatClampNeg = 10 * nN vn + 0 := ix10n hvn (by decide)
  have i1 : ((10 * vn) + 1).toNatClampNeg = 10 * nN vn + 1 := ix10n hvn (by decide)
  have i2 : ((10 * vn) + 2).toNatClampNeg = 10 * nN vn + 2 := ix10n hvn (by decide)
  have i3 : ((10 * vn) + 3).toNatClampNeg = 10 * nN vn + 3 := ix10n hvn (by decide)
  have i4 : ((10 * vn) + 4).toNatClampNeg = 10 * nN vn + 4 := ix10n hvn (by decide)
  have i5 : ((10 * vn) + 5).toNatClampNeg = 10 * nN vn + 5 := ix10n hvn (by decide)
  have i6 : ((10 * vn) + 6).toNatClampNeg = 10 * nN vn + 6 := ix10n hvn (by decide)
  have i7 : ((10 * vn) + 7).toNatClampNeg = 10 * nN vn + 7 := ix10n hvn (by decide)
  have i8 : ((10 * vn) + 8).toNatClampNeg = 10 * nN vn + 8 := ix10n hvn (by decide)
  unfold row9
  rw [i0, i1, i2, i3, i4, i5, i6, i7, i8]
  simp only [ud_get]
  rcases (by omega : k = 0 ∨ k = 1 ∨ k = 2 ∨ k = 3 ∨ k = 4 ∨ k = 5 ∨ k = 6 ∨ k = 7 ∨ k = 8) with e | e | e | e | e | e | e | e | e <;> subst e
  all_goals repeat (first | rw [if_pos (by omega)] | rw [if_neg (by omega)])
  all_goals rfl
theorem ru_rule {w_ln w_nr v_sz v_wr v_n : Int32} {f_sg f_sa R me le : Nat → Int32} {F : Nat → Nat → Int32} (hsz : i120 v_sz) (hvn : 0 ≤ v_n.toInt ∧ v_n.toInt ≤ 40) (hA : RA w_ln v_sz f_sg f_sa) (h : RU w_nr v_n F R me le) : RU (g_Cg_rule w_nr w_ln f_sg F).2.1 (g_Mg_rule v_sz v_wr v_n f_sa R).2.2.2.2.2.1 (g_Cg_rule w_nr w_ln f_sg F).2.2.2.2.2 (g_Mg_rule v_sz v_wr v_n f_sa R).2.2.2.2.2.2 me le := by
  have hlo := reads_lo (f := R) (sz := v_sz) (wr := v_wr) (sa := f_sa) (R := R) hvn (fun j _ => rfl)
  have hl := ru_lo hlo h
  obtain ⟨h1, h2, h3, h4, h5, h6⟩ := hl
  obtain ⟨e2, hT⟩ := hA
  subst h1 e2
  unfold g_Cg_rule g_Mg_rule
  rw [bv_eq, bv_eq]
  rcases reads_eq (wr := v_wr) (R := R) hsz hT hvn with ⟨a, b, c⟩ | ⟨a, b⟩
  · have na : ¬ (g_Mg_reads w_ln v_wr w_nr f_sa R).1 = 0 := by rw [a]; decide
    rw [if_pos b, if_neg na]
    by_cases c2 : w_nr = 40
    · rw [if_neg (fun q => (lt40 hvn).mp q c2), if_pos c2]
      exact ⟨rfl, h2, h3, h4, h5, h6⟩
    · rw [if_pos ((lt40 hvn).mpr c2), if_neg c2]
      have hlt := li_lt.mp ((lt40 hvn).mpr c2)
      rw [e40] at hlt
      have en : nN (w_nr + 1) = nN w_nr + 1 := nN_1 hvn.1 (by omega)
      have y0 := rcn_v (iw := 8) (p := 1) (p1 := 9) (w_pl := 0) (w_wr := -1) (f := f_sg) (by decide) (by decide) hsz (by decide)
      have p1 := rcn_at (iw := 8) (p0 := 1) (p1 := 9) (w_pl := 0) (w_wr := -1) (f_sg := f_sg) (by decide) hsz (by decide)
      generalize hx3 : g_Cg_readCondition 1 9 8 w_ln 0 (-1) f_sg = x3 at y0 p1
      have y1 := rcn_v (iw := 9) (p := 1) (p1 := 9) (w_wr := x3.2.2) (f := f_sg) (by decide) (by decide) hsz p1
      have p2 := rcn_at (iw := 9) (p0 := 1) (p1 := 9) (w_wr := x3.2.2) (f_sg := f_sg) (by decide) hsz p1
      generalize hx6 : g_Cg_readCondition 1 9 9 w_ln x3.2.1 x3.2.2 f_sg = x6 at y1 p2
      have y2 := rcn_v (iw := 10) (p := 2) (p1 := 49) (w_wr := x6.2.2) (f := f_sg) (by decide) (by decide) hsz p2
      have p3 := rcn_at (iw := 10) (p0 := 2) (p1 := 49) (w_wr := x6.2.2) (f_sg := f_sg) (by decide) hsz p2
      generalize hx9 : g_Cg_readCondition 2 49 10 w_ln x6.2.1 x6.2.2 f_sg = x9 at y2 p3
      have y3 := rdd_d (w_ln := w_ln) (w_pl := x9.2.1) (w_wr := x9.2.2) (r_de := 2) (r_da := 0) (f := f_sg) (by decide)
      have p4 := rdd_at (w_wr := x9.2.2) (r_de := 2) (r_da := 0) (f_sg := f_sg) hsz p3
      generalize hx11 : g_Cg_readDeed w_ln x9.2.1 x9.2.2 f_sg 2 0 = x11 at y3 p4
      have y6 := rrs_g (w_wr := x11.2.1) (r_de := x11.2.2.1) (r_re := 0) (r_ga := 0) (r_rc := 7) (r_rk := 0) (f := f_sg) hsz p4 (by decide)
      have ey : g_Cg_readInto w_ln f_sg 2 0 0 0 7 0 = ((g_Cg_readRest w_ln x11.1 x11.2.1 f_sg x11.2.2.1 0 0 7 0).2.1, (g_Cg_readRest w_ln x11.1 x11.2.1 f_sg x11.2.2.1 0 0 7 0).1, (g_Cg_readRest w_ln x11.1 x11.2.1 f_sg x11.2.2.1 0 0 7 0).2.1, x3.1, x6.1, x9.1, x11.2.2.1, x11.2.2.2, (g_Cg_readRest w_ln x11.1 x11.2.1 f_sg x11.2.2.1 0 0 7 0).2.2.1, (g_Cg_readRest w_ln x11.1 x11.2.1 f_sg x11.2.2.1 0 0 7 0).2.2.2.1, (g_Cg_readRest w_ln x11.1 x11.2.1 f_sg x11.2.2.1 0 0 7 0).2.2.2.2.1, (g_Cg_readRest w_ln x11.1 x11.2.1 f_sg x11.2.2.1 0 0 7 0).2.2.2.2.2) := by
        unfold g_Cg_readInto
        rw [hx3, bv_eq, hx6, bv_eq, hx9, bv_eq, hx11, bv_eq, bv_eq]
      generalize hyy : g_Cg_readInto w_ln f_sg 2 0 0 0 7 0 = y at *
      have hrow := row9_at (R := (gl_rd0 11 w_nr 0 R).2) (y := y) hvn
      rw [← c] at hrow
      refine ⟨rfl, fun r hr k hk => ?_, fun r hr => ?_, fun r hr => ?_, fun r hr => ?_, fun r hr => ?_⟩
      · have hr2 : r < nN (w_nr + 1) := hr
        rw [en] at hr2
        show fpush F (nN w_nr) _ k r = _
        rw [fp_n]
        by_cases q : r = nN w_nr
        · subst q
          rw [if_pos rfl]
          exact (hrow k hk).symm
        · rw [if_neg q]
          exact h2 r (by omega) k hk
      · have hr2 : r < nN (w_nr + 1) := hr
        rw [en] at hr2
        show fpush F (nN w_nr) _ 9 r = _
        rw [fp_n]
        by_cases q : r = nN w_nr
        · rw [if_pos q]
          exact ((h5 r (by omega)).1).symm
        · rw [if_neg q]
          exact h3 r (by omega)
      · have hr2 : r < nN (w_nr + 1) := hr
        rw [en] at hr2
        show fpush F (nN w_nr) _ 3 r = 3 → fpush F (nN w_nr) _ 10 r = _
        rw [fp_n, fp_n]
        by_cases q : r = nN w_nr
        · rw [if_pos q, if_pos q]
          exact fun _ => ((h5 r (by omega)).2).symm
        · rw [if_neg q, if_neg q]
          exact h4 r (by omega)
      · have hr2 : nN (w_nr + 1) ≤ r := hr
        rw [en] at hr2
        exact h5 r (by omega)
      · have hr2 : r < nN (w_nr + 1) := hr
        rw [en] at hr2
        by_cases q : r = nN w_nr
        · show m1 (fpush F (nN w_nr) _ 0 r) ∧ m1 (fpush F (nN w_nr) _ 1 r) ∧ m1 (fpush F (nN w_nr) _ 2 r) ∧ d03 (fpush F (nN w_nr) _ 3 r) ∧ r999 (fpush F (nN w_nr) _ 6 r)
          rw [fp_n, fp_n, fp_n, fp_n, fp_n, if_pos q, if_pos q, if_pos q, if_pos q, if_pos q, ey]
          exact ⟨y0, y1, y2, y3, y6⟩
        · show m1 (fpush F (nN w_nr) _ 0 r) ∧ m1 (fpush F (nN w_nr) _ 1 r) ∧ m1 (fpush F (nN w_nr) _ 2 r) ∧ d03 (fpush F (nN w_nr) _ 3 r) ∧ r999 (fpush F (nN w_nr) _ 6 r)
          rw [fp_n, fp_n, fp_n, fp_n, fp_n, if_neg q, if_neg q, if_neg q, if_neg q, if_neg q]
          exact h6 r (by omega)
  · rw [if_neg b, if_pos a]
    exact ⟨rfl, h2, h3, h4, h5, h6⟩
theorem u2_n (F : Nat → Nat → Int32) (k j : Nat) (v : Int32) (a b : Nat) : up2 F k j v a b = if a = k then (if b = j then v else F a b) else F a b := rfl
theorem ru_met {w_nr v_n : Int32} {F : Nat → Nat → Int32} {R me le : Nat → Int32} {j : Nat} (hj : j < nN v_n) (h : RU w_nr v_n F R me le) : RU w_nr v_n (up2 F 9 j 1) R (upd me j (vp_nar .boolean 1)) le := by
  obtain ⟨h1, h2, h3, h4, h5, h6⟩ := h
  have u : ∀ a b, a ≠ 9 → up2 F 9 j 1 a b = F a b := fun a b q => by rw [u2_n, if_neg q]
  refine ⟨h1, fun r hr k hk => ?_, fun r hr => ?_, fun r hr => ?_, fun r hr => ?_, fun r hr => ?_⟩
  · rw [u k r (by omega)]
    exact h2 r hr k hk
  · rw [u2_n, if_pos rfl, ud_get]
    by_cases q : r = j
    · rw [if_pos q, if_pos q]
      rfl
    · rw [if_neg q, if_neg q]
      exact h3 r hr
  · rw [u 3 r (by omega), u 10 r (by omega)]
    exact h4 r hr
  · rw [ud_get, if_neg (by omega)]
    exact h5 r hr
  · exact h6 r hr
theorem ru_tup {w_nr v_n p0 p1 : Int32} {F : Nat → Nat → Int32} {R me le : Nat → Int32} (hp : b01 p1) (h : RU w_nr v_n F R me le) : RU w_nr v_n (g_Cg_throwsUp p0 p1 w_nr F).2 R me (g_Mg_throwsUp p0 p1 v_n le).2.2 := by
  obtain ⟨h1, h2, h3, h4, h5, h6⟩ := h
  subst h1
  have hn : vp_nar .boolean p1 = p1 := by
    rcases hp with e | e <;> rw [e] <;> rfl
  unfold g_Cg_throwsUp g_Mg_throwsUp
  by_cases c : g_Mg_isRule p0 w_nr = 0
  · rw [if_pos c, if_neg (fun q => rin_is.mp q c)]
    exact ⟨rfl, h2, h3, h4, h5, h6⟩
  · have hr := rin_is.mpr c
    have e0 := cl_nn hr.1
    have e1 := cl_nn (x := w_nr) (by omega)
    have hlt : nN p0 < nN w_nr := by
      show p0.toNatClampNeg < w_nr.toNatClampNeg
      omega
    rw [if_neg c, if_pos hr]
    by_cases c2 : F 3 (nN p0) = 3
    · rw [if_pos c2]
      show RU w_nr w_nr (up2 F 10 (nN p0) p1) R me (upd le (nN p0) (vp_nar .boolean p1))
      rw [hn]
      have u : ∀ a b, a ≠ 10 → up2 F 10 (nN p0) p1 a b = F a b := fun a b q => by rw [u2_n, if_neg q]
      refine ⟨rfl, fun r hr k hk => ?_, fun r hr => ?_, fun r hr => ?_, fun r hr => ?_, fun r hr => ?_⟩
      · rw [u k r (by omega)]
        exact h2 r hr k hk
      · rw [u 9 r (by omega)]
        exact h3 r hr
      · rw [u 3 r (by omega), u2_n, if_pos rfl, ud_get]
        by_cases q : r = nN p0
        · rw [if_pos q, if_pos q]
          exact fun _ => rfl
        · rw [if_neg q, if_neg q]
          exact h4 r hr
      · rw [ud_get, if_neg (by omega)]
        exact h5 r hr
      · exact h6 r hr
    · rw [if_neg c2]
      show RU w_nr w_nr F R me (upd le (nN p0) (vp_nar .boolean p1))
      refine ⟨rfl, h2, h3, fun r hr q3 => ?_, fun r hr => ?_, h6⟩
      · rw [ud_get, if_neg (fun q => c2 (by rw [← q]; exact q3))]
        exact h4 r hr q3
      · rw [ud_get, if_neg (by omega)]
        exact h5 r hr

