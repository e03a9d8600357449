def RI (R : Nat → Int32) : Prop := ∀ j, j < 40 → r999 (R (10 * j + 4)) ∧ r999 (R (10 * j + 7))
def LI (nl : Int32) (f : Nat → Int32) : Prop := ∀ j : Nat, 0 < j → (j : Int) ≤ nl.toInt → (0 ≤ (f (7 * j)).toInt ∧ (f (7 * j)).toInt < 50) ∧ (0 ≤ (f (7 * j + 1)).toInt ∧ (f (7 * j + 1)).toInt < 40) ∧ ((f (7 * j + 6)).toInt < 0 → -50 ≤ (f (7 * j + 6)).toInt)
def MI (k : Nat) (v_sz v_n v_nl v_nf v_nc : Int32) (f_ru f_cl f_lo f_le : Nat → Int32) : Prop := (0 ≤ v_sz.toInt ∧ v_sz.toInt ≤ 120) ∧ (0 ≤ v_n.toInt ∧ v_n.toInt ≤ 40) ∧ (0 ≤ v_nl.toInt ∧ v_nl.toInt ≤ 200) ∧ (0 ≤ v_nf.toInt ∧ v_nf.toInt ≤ 40) ∧ (0 ≤ v_nc.toInt ∧ v_nc.toInt ≤ k) ∧ RI f_ru ∧ (∀ j, b01 (f_cl j)) ∧ LI v_nl f_lo ∧ (∀ j, b01 (f_le j))
theorem ix10n {v c : Int32} (hv : 0 ≤ v.toInt ∧ v.toInt ≤ 40) (hc : 0 ≤ c.toInt ∧ c.toInt < 10) : ((10 * v) + c).toNatClampNeg = 10 * v.toNatClampNeg + c.toNatClampNeg := by
  have e1 : (10 * v).toInt = 10 * v.toInt := by rw [li_mul (by rw [li_10]; omega) (by rw [li_10]; omega), li_10]
  have e2 : ((10 * v) + c).toInt = 10 * v.toInt + c.toInt := by rw [li_add (by rw [e1]; omega) (by rw [e1]; omega), e1]
  have h1 := cl_nn (x := (10 * v) + c) (by omega)
  have h2 := cl_nn hv.1
  have h3 := cl_nn hc.1
  omega
theorem ix7n {x c : Int32} (hx : 0 < x.toInt ∧ x.toInt ≤ 200) (hc : 0 ≤ c.toInt ∧ c.toInt ≤ 6) : ((7 * x) + c).toNatClampNeg = 7 * x.toNatClampNeg + c.toNatClampNeg := by
  have e2 := ix7e hx hc
  have h1 := cl_nn (x := (7 * x) + c) (by omega)
  have h2 := cl_nn (x := x) (by omega)
  have h3 := cl_nn hc.1
  omega
theorem ix7nz {x : Int32} (hx : 0 < x.toInt ∧ x.toInt ≤ 200) : (7 * x).toNatClampNeg = 7 * x.toNatClampNeg := by
  have e2 := ix7ze hx
  have h1 := cl_nn (x := 7 * x) (by omega)
  have h2 := cl_nn (x := x) (by omega)
  omega
theorem ri4 {f : Nat → Int32} (h : RI f) : ∀ r : Int32, 0 ≤ r.toInt → r.toInt < 40 → 0 ≤ (f ((10 * r) + 4).toNatClampNeg).toInt ∧ (f ((10 * r) + 4).toNatClampNeg).toInt ≤ 999 := by
  intro r h0 h1
  rw [ix10n (by omega) (by decide)]
  have h2 := cl_nn h0
  exact (h r.toNatClampNeg (by omega)).1
theorem ri7 {f : Nat → Int32} (h : RI f) : ∀ r : Int32, 0 ≤ r.toInt → r.toInt < 40 → 0 ≤ (f ((10 * r) + 7).toNatClampNeg).toInt ∧ (f ((10 * r) + 7).toNatClampNeg).toInt ≤ 999 := by
  intro r h0 h1
  rw [ix10n (by omega) (by decide)]
  have h2 := cl_nn h0
  exact (h r.toNatClampNeg (by omega)).2
theorem li_0f {nl : Int32} {f : Nat → Int32} (hn : nl.toInt ≤ 200) (h : LI nl f) : ∀ x : Int32, 0 < x.toInt → x.toInt ≤ nl.toInt → 0 ≤ (f (7 * x).toNatClampNeg).toInt ∧ (f (7 * x).toNatClampNeg).toInt < 50 := by
  intro x h0 h1
  rw [ix7nz (by omega)]
  have h2 := cl_nn (x := x) (by omega)
  exact (h x.toNatClampNeg (by omega) (by omega)).1
theorem li_1f {nl : Int32} {f : Nat → Int32} (hn : nl.toInt ≤ 200) (h : LI nl f) : ∀ x : Int32, 0 < x.toInt → x.toInt ≤ nl.toInt → 0 ≤ (f ((7 * x) + 1).toNatClampNeg).toInt ∧ (f ((7 * x) + 1).toNatClampNeg).toInt < 40 := by
  intro x h0 h1
  rw [ix7n (by omega) (by decide)]
  have h2 := cl_nn (x := x) (by omega)
  exact (h x.toNatClampNeg (by omega) (by omega)).2.1
theorem li_6f {nl : Int32} {f : Nat → Int32} (hn : nl.toInt ≤ 200) (h : LI nl f) : ∀ x : Int32, 0 < x.toInt → x.toInt ≤ nl.toInt → (f ((7 * x) + 6).toNatClampNeg).toInt < 0 → -50 ≤ (f ((7 * x) + 6).toNatClampNeg).toInt := by
  intro x h0 h1
  rw [ix7n (by omega) (by decide)]
  have h2 := cl_nn (x := x) (by omega)
  exact (h x.toNatClampNeg (by omega) (by omega)).2.2
theorem ri_upd {R : Nat → Int32} {n c v : Int32} (hn : 0 ≤ n.toInt ∧ n.toInt ≤ 40) (hc : 0 ≤ c.toInt ∧ c.toInt < 10) (hv : (c.toInt = 4 ∨ c.toInt = 7) → r999 v) (h : RI R) : RI (upd R ((10 * n) + c).toNatClampNeg v) := by
  intro j hj
  rw [ix10n hn hc]
  have h3 := cl_nn hc.1
  have h4 := h j hj
  unfold upd
  constructor
  · split
    · exact hv (by omega)
    · exact h4.1
  · split
    · exact hv (by omega)
    · exact h4.2
theorem li_upd {nl x c v : Int32} {f : Nat → Int32} (hx : 0 < x.toInt ∧ x.toInt ≤ 200) (hc : 2 ≤ c.toInt ∧ c.toInt ≤ 5) (h : LI nl f) : LI nl (upd f ((7 * x) + c).toNatClampNeg v) := by
  intro j h0 h1
  rw [ix7n hx (by omega)]
  have h3 := cl_nn (x := c) (by omega)
  have h4 := h j h0 h1
  unfold upd
  rw [if_neg (by omega), if_neg (by omega), if_neg (by omega)]
  exact h4
theorem li_up6 {nl x : Int32} {f : Nat → Int32} (hx : 0 < x.toInt ∧ x.toInt ≤ 200) (h : LI nl f) : LI nl (upd f ((7 * x) + 6).toNatClampNeg 0) := by
  intro j h0 h1
  rw [ix7n hx (by decide)]
  have e6 : (6 : Int32).toNatClampNeg = 6 := by decide
  rw [e6]
  have h4 := h j h0 h1
  unfold upd
  rw [if_neg (by omega), if_neg (by omega)]
  refine ⟨h4.1, h4.2.1, ?_⟩
  split
  · intro q; exact absurd q (by decide)
  · exact h4.2.2
theorem li_new {nl it r d1 d2 p : Int32} {f : Nat → Int32} (hn : 0 ≤ nl.toInt ∧ nl.toInt < 200) (hi : 0 ≤ it.toInt ∧ it.toInt < 50) (hr : v40 r) (hp : 0 ≤ p.toInt ∧ p.toInt < 50) (h : LI nl f) : LI (nl + 1) (upd (upd (upd (upd (upd f (7 * (nl + 1)).toNatClampNeg it) ((7 * (nl + 1)) + 1).toNatClampNeg r) ((7 * (nl + 1)) + 2).toNatClampNeg d1) ((7 * (nl + 1)) + 4).toNatClampNeg d2) ((7 * (nl + 1)) + 6).toNatClampNeg ((-1) - p)) := by
  have e : (nl + 1).toInt = nl.toInt + 1 := li_inc (by omega) (by omega)
  have hx : 0 < (nl + 1).toInt ∧ (nl + 1).toInt ≤ 200 := by omega
  have hN := cl_nn (x := nl + 1) (by omega)
  intro j h0 h1
  rw [ix7nz hx, ix7n hx (by decide), ix7n hx (by decide), ix7n hx (by decide), ix7n hx (by decide)]
  have e1 : (1 : Int32).toNatClampNeg = 1 := by decide
  have e2 : (2 : Int32).toNatClampNeg = 2 := by decide
  have e4 : (4 : Int32).toNatClampNeg = 4 := by decide
  have e6 : (6 : Int32).toNatClampNeg = 6 := by decide
  rw [e1, e2, e4, e6]
  have em : (-1 : Int32).toInt = -1 := by decide
  have ep : ((-1) - p).toInt = -1 - p.toInt := by rw [li_sub (by rw [em]; omega) (by rw [em]; omega), em]
  by_cases c : j = (nl + 1).toNatClampNeg
  · subst c
    refine ⟨?_, ?_, ?_⟩
    · simp only [upd]
      rw [if_neg (by omega), if_neg (by omega), if_neg (by omega), if_neg (by omega), if_pos trivial]
      exact hi
    · simp only [upd]
      rw [if_neg (by omega), if_neg (by omega), if_neg (by omega), if_pos trivial]
      exact hr
    · simp only [upd]
      rw [if_pos trivial]
      intro _
      rw [ep]
      clear ep em e1 e2 e4 e6
      omega
  · have h4 := h j h0 (by omega)
    refine ⟨?_, ?_, ?_⟩
    · simp only [upd]
      rw [if_neg (by omega), if_neg (by omega), if_neg (by omega), if_neg (by omega), if_neg (by omega)]
      exact h4.1
    · simp only [upd]
      rw [if_neg (by omega), if_neg (by omega), if_neg (by omega), if_neg (by omega), if_neg (by omega)]
      exact h4.2.1
    · simp only [upd]
      rw [if_neg (by omega), if_neg (by omega), if_neg (by omega), if_neg (by omega), if_neg (by omega)]
      exact h4.2.2
theorem lookD {a sz : Int32} {f : Nat → Int32} (h : ¬ g_Mg_isDigit (g_Mg_look a sz f) = 0) : 48 ≤ (g_Mg_look a sz f).toInt ∧ (g_Mg_look a sz f).toInt ≤ 57 := isd_s h
theorem gl_number_v {sz : Int32} {f : Nat → Int32} (hsz : i120 sz) : ∀ (n : Nat) (a fd v : Int32), 0 ≤ fd.toInt → fd.toInt ≤ a.toInt → a.toInt ≤ 120 → (0 ≤ v.toInt ∧ v.toInt ≤ 9999 ∧ (a.toInt - fd.toInt = 0 → v.toInt ≤ 0) ∧ (a.toInt - fd.toInt = 1 → v.toInt ≤ 9) ∧ (a.toInt - fd.toInt = 2 → v.toInt ≤ 99) ∧ (a.toInt - fd.toInt = 3 → v.toInt ≤ 999)) → 0 ≤ (gl_number n sz f a fd v).2.2.toInt := by
  intro n
  induction n with
  | zero => intro a fd v _ _ _ h; exact h.1
  | succ n ih =>
    intro a fd v h0 h1 h2 h
    have hl := hsz.2
    rw [gl_number]
    split
    · exact h.1
    · rename_i c2
      have hd := lookD c2
      have hlt := lk_dig c2
      have ea : (a + 1).toInt = a.toInt + 1 := li_inc (by omega) (by omega)
      have es : (a - fd).toInt = a.toInt - fd.toInt := li_sub (by omega) (by omega)
      have e3 : (3 : Int32).toInt = 3 := by decide
      split
      · rename_i c3
        rw [li_le, es, e3] at c3
        have e48 : (48 : Int32).toInt = 48 := by decide
        have hv : v.toInt ≤ 999 := by omega
        have em : (10 * v).toInt = 10 * v.toInt := by rw [li_mul (by rw [li_10]; omega) (by rw [li_10]; omega), li_10]
        have e5 : (10 * v + g_Mg_look a sz f).toInt = 10 * v.toInt + (g_Mg_look a sz f).toInt := by rw [li_add (by rw [em]; omega) (by rw [em]; omega), em]
        have ev : (10 * v + g_Mg_look a sz f - 48).toInt = 10 * v.toInt + (g_Mg_look a sz f).toInt - 48 := by rw [li_sub (by rw [e5, e48]; omega) (by rw [e5, e48]; omega), e5, e48]
        refine ih _ _ _ h0 (by omega) (by omega) ⟨?_, ?_, ?_, ?_, ?_, ?_⟩ <;> omega
      · rename_i c3
        rw [li_le, es, e3] at c3
        have e9 : (9999 : Int32).toInt = 9999 := by decide
        refine ih _ _ _ h0 (by omega) (by omega) ⟨?_, ?_, ?_, ?_, ?_, ?_⟩ <;> omega
theorem number_ri {p0 p1 p2 v_sz v_at v_wr v_n : Int32} {f_sa f_ru : Nat → Int32} (hsz : i120 v_sz) (hat : i120 v_at) (hn : 0 ≤ v_n.toInt ∧ v_n.toInt ≤ 40) (hp : 0 ≤ p0.toInt ∧ p0.toInt < 10) (h2 : p2.toInt ≤ 999) (h : RI f_ru) : RI (g_Mg_number p0 p1 p2 v_sz v_at v_wr v_n f_sa f_ru).2.2.2 := by
  have h0 := space_at (v_wr := v_wr) (f_sa := f_sa) hsz hat
  have hv := gl_number_v (f := f_sa) hsz 121 (g_Mg_space v_sz v_at v_wr f_sa).2.1 (g_Mg_space v_sz v_at v_wr f_sa).2.1 0 h0.1 (Int.le_refl _) h0.2 (by refine ⟨by decide, by decide, fun _ => by decide, fun _ => by decide, fun _ => by decide, fun _ => by decide⟩)
  unfold g_Mg_number
  with_reducible refine pt_v (fun t : Int32 × Int32 × Int32 × (Nat → Int32) => RI t.2.2.2) ?_
  with_reducible refine pt_i (fun t : Int32 × Int32 × Int32 × (Nat → Int32) => RI t.2.2.2) (fun _ => h) (fun _ => ?_)
  with_reducible refine pt_v (fun t : Int32 × Int32 × Int32 × (Nat → Int32) => RI t.2.2.2) ?_
  with_reducible refine pt_i (fun t : Int32 × Int32 × Int32 × (Nat → Int32) => RI t.2.2.2) (fun _ => h) (fun _ => ?_)
  with_reducible refine pt_i (fun t : Int32 × Int32 × Int32 × (Nat → Int32) => RI t.2.2.2) (fun _ => h) (fun _ => ?_)
  with_reducible refine pt_i (fun t : Int32 × Int32 × Int32 × (Nat → Int32) => RI t.2.2.2) (fun c => ?_) (fun _ => h)
  rw [li_le] at c
  exact ri_upd hn hp (fun _ => ⟨hv, by omega⟩) h
theorem lends_ri {v_sz v_at v_wr v_n : Int32} {f_sa f_ru : Nat → Int32} (hsz : i120 v_sz) (hat : i120 v_at) (hn : 0 ≤ v_n.toInt ∧ v_n.toInt ≤ 40) (h : RI f_ru) : RI (g_Mg_lends v_sz v_at v_wr v_n f_sa f_ru).2.2.2 := by
  have h1 := number_ri (p0 := 4) (p1 := 3) (p2 := 999) (v_wr := v_wr) (f_sa := f_sa) hsz hat hn (by decide) (by decide) h
  unfold g_Mg_lends
  repeat' (first | with_reducible refine pt_i (fun t : Int32 × Int32 × Int32 × (Nat → Int32) => RI t.2.2.2) (fun _ => ?_) (fun _ => ?_) | with_reducible refine pt_v (fun t : Int32 × Int32 × Int32 × (Nat → Int32) => RI t.2.2.2) ?_)
  all_goals first | with_reducible exact h | with_reducible exact h1 | exact ri_upd hn (by decide) (fun q => absurd q (by decide)) h
theorem one_ri {p0 v_sz v_at v_wr v_n : Int32} {f_sa f_ru : Nat → Int32} (hsz : i120 v_sz) (hat : i120 v_at) (hn : 0 ≤ v_n.toInt ∧ v_n.toInt ≤ 40) (h : RI f_ru) : RI (g_Mg_one p0 v_sz v_at v_wr v_n f_sa f_ru).2.2.2 := by
  unfold g_Mg_one
  repeat' (first | with_reducible refine pt_i (fun t : Int32 × Int32 × Int32 × (Nat → Int32) => RI t.2.2.2) (fun _ => ?_) (fun _ => ?_) | with_reducible refine pt_v (fun t : Int32 × Int32 × Int32 × (Nat → Int32) => RI t.2.2.2) ?_)
  all_goals first | with_reducible exact number_ri hsz hat hn (by decide) (by decide) h | with_reducible exact lends_ri hsz hat hn h | exact ri_upd hn (by decide) (fun q => absurd q (by decide)) h
theorem rd0_ri {v_n : Int32} (hn : 0 ≤ v_n.toInt ∧ v_n.toInt ≤ 40) : ∀ (n : Nat) (k : Int32) (R : Nat → Int32), 0 ≤ k.toInt ∧ k.toInt ≤ 10 → RI R → RI (gl_rd0 n v_n k R).2 := by
  intro n
  induction n with
  | zero => intro k R _ h; exact h
  | succ n ih =>
    intro k R hk h
    rw [gl_rd0]
    refine pt_i (fun t : Int32 × (Nat → Int32) => RI t.2) (fun _ => h) (fun c => ?_)
    have hk2 := li_s10 hk c
    have hk3 := li_lt10 hk c
    refine pt_i (fun t : Int32 × (Nat → Int32) => RI t.2) (fun _ => pt_i (fun t : Int32 × (Nat → Int32) => RI t.2) (fun _ => ih _ _ hk2 (ri_upd hn hk3 (fun _ => by decide) h)) (fun _ => ih _ _ hk2 (ri_upd hn hk3 (fun _ => by decide) h))) (fun c2 => ih _ _ hk2 (ri_upd hn hk3 (fun q => ?_) h))
    have e3 : (3 : Int32).toInt = 3 := by decide
    rw [li_le, e3] at c2
    omega
theorem rd1_ri {v_sz v_n : Int32} {f_sa : Nat → Int32} (hsz : i120 v_sz) (hn : 0 ≤ v_n.toInt ∧ v_n.toInt ≤ 40) : ∀ (n : Nat) (la a wr : Int32) (R : Nat → Int32), i120 a → RI R → RI (gl_rd1 n v_sz v_n f_sa la a wr R).2.2.2.2 := by
  intro n
  induction n with
  | zero => intro la a wr R _ h; exact h
  | succ n ih =>
    intro la a wr R ha h
    have hs := space_at (v_wr := wr) (f_sa := f_sa) hsz ha
    rw [gl_rd1]
    repeat' (first | with_reducible refine pt_i (fun t : Nat × Int32 × Int32 × Int32 × (Nat → Int32) => RI t.2.2.2.2) (fun _ => ?_) (fun _ => ?_) | with_reducible refine pt_v (fun t : Nat × Int32 × Int32 × Int32 × (Nat → Int32) => RI t.2.2.2.2) ?_)
    all_goals first | with_reducible exact h | with_reducible exact one_ri hsz (pass_at hsz ha) hn h | with_reducible exact one_ri hsz (pass_at hsz hs) hn h | with_reducible exact ih _ _ _ _ (one_at hsz (pass_at hsz ha)) (one_ri hsz (pass_at hsz ha) hn h) | with_reducible exact ih _ _ _ _ (one_at hsz (pass_at hsz hs)) (one_ri hsz (pass_at hsz hs) hn h)
theorem reads_ri {v_sz v_wr v_n : Int32} {f_sa f_ru : Nat → Int32} (hsz : i120 v_sz) (hn : 0 ≤ v_n.toInt ∧ v_n.toInt ≤ 40) (h : RI f_ru) : RI (g_Mg_reads v_sz v_wr v_n f_sa f_ru).2.2.2 := by
  have h1 := rd1_ri (f_sa := f_sa) hsz hn 12 0 0 v_wr (gl_rd0 11 v_n 0 f_ru).2 (by decide) (rd0_ri hn 11 0 f_ru (by decide) h)
  unfold g_Mg_reads
  repeat' (first | with_reducible refine pt_i (fun t : Int32 × Int32 × Int32 × (Nat → Int32) => RI t.2.2.2) (fun _ => ?_) (fun _ => ?_) | with_reducible refine pt_v (fun t : Int32 × Int32 × Int32 × (Nat → Int32) => RI t.2.2.2) ?_)
  all_goals with_reducible exact h1
section MIs
variable {k : Nat} {v_sz v_n v_nl v_nf v_nc : Int32} {f_ru f_cl f_lo f_le : Nat → Int32}
theorem mi_k (h : MI k v_sz v_n v_nl v_nf v_nc f_ru f_cl f_lo f_le) : MI (k + 1) v_sz v_n v_nl v_nf v_nc f_ru f_cl f_lo f_le := by
  obtain ⟨h1, h2, h3, h4, h5, h6⟩ := h
  exact ⟨h1, h2, h3, h4, by omega, h6⟩
theorem mi_sign {p : Int32} {f : Nat → Int32} (h : MI k v_sz v_n v_nl v_nf v_nc f_ru f_cl f_lo f_le) : MI (k + 1) (g_Mg_sign p v_sz f).2.1 v_n v_nl v_nf v_nc f_ru f_cl f_lo f_le := by
  refine ⟨?_, (mi_k h).2⟩
  have h1 := h.1
  have e120 : (120 : Int32).toInt = 120 := by decide
  unfold g_Mg_sign
  split
  · exact h1
  · rename_i c
    rw [li_le, e120] at c
    show 0 ≤ (v_sz + 1).toInt ∧ (v_sz + 1).toInt ≤ 120
    rw [li_inc (by omega) (by omega)]; omega
theorem mi_rule {v_wr : Int32} {f : Nat → Int32} (h : MI k v_sz v_n v_nl v_nf v_nc f_ru f_cl f_lo f_le) : MI (k + 1) (g_Mg_rule v_sz v_wr v_n f f_ru).2.2.1 (g_Mg_rule v_sz v_wr v_n f f_ru).2.2.2.2.2.1 v_nl v_nf v_nc (g_Mg_rule v_sz v_wr v_n f f_ru).2.2.2.2.2.2 f_cl f_lo f_le := by
  have hk := mi_k h
  obtain ⟨h1, h2, h3, h4, h5, h6, h7⟩ := h
  have hr := reads_ri (v_wr := v_wr) (f_sa := f) h1 h2 h6
  have hz : MI (k + 1) 0 v_n v_nl v_nf v_nc (g_Mg_reads v_sz v_wr v_n f f_ru).2.2.2 f_cl f_lo f_le := ⟨by decide, h2, h3, h4, hk.2.2.2.2.1, hr, h7⟩
  unfold g_Mg_rule
  with_reducible refine pt_v (fun t : Int32 × Int32 × Int32 × Int32 × Int32 × Int32 × (Nat → Int32) => MI (k + 1) t.2.2.1 t.2.2.2.2.2.1 v_nl v_nf v_nc t.2.2.2.2.2.2 f_cl f_lo f_le) ?_
  with_reducible refine pt_i (fun t : Int32 × Int32 × Int32 × Int32 × Int32 × Int32 × (Nat → Int32) => MI (k + 1) t.2.2.1 t.2.2.2.2.2.1 v_nl v_nf v_nc t.2.2.2.2.2.2 f_cl f_lo f_le) (fun _ => hz) (fun _ => ?_)
  with_reducible refine pt_i (fun t : Int32 × Int32 × Int32 × Int32 × Int32 × Int32 × (Nat → Int32) => MI (k + 1) t.2.2.1 t.2.2.2.2.2.1 v_nl v_nf v_nc t.2.2.2.2.2.2 f_cl f_lo f_le) (fun _ => hz) (fun c => ?_)
  have e40 : (40 : Int32).toInt = 40 := by decide
  have n40 : v_n.toInt ≠ 40 := fun q => c (Int32.toInt_inj.mp (by rw [q, e40]))
  refine ⟨show 0 ≤ (0 : Int32).toInt ∧ (0 : Int32).toInt ≤ 120 by decide, ?_, h3, h4, hk.2.2.2.2.1, hr, h7⟩
  show 0 ≤ (v_n + 1).toInt ∧ (v_n + 1).toInt ≤ 40
  rw [li_inc (by omega) (by omega)]; omega
theorem nar_b (x : Int32) : b01 (vp_nar .boolean x) := by
  have h : vp_nar .boolean x = x &&& 1 := rfl
  rw [h]
  obtain ⟨j, hj, e⟩ := pk_andE x (m := 1) 1 (by decide)
  rw [e]
  have : ∀ j, j < 2 → (nI j = 0 ∨ nI j = 1) := by decide
  exact this j hj
theorem b_upd {f : Nat → Int32} {i : Nat} {v : Int32} (hv : b01 v) (h : ∀ j, b01 (f j)) : ∀ j, b01 (upd f i v j) := by
  intro j
  unfold upd
  split
  · exact hv
  · exact h j
theorem mi_closed {p0 p1 : Int32} (h : MI k v_sz v_n v_nl v_nf v_nc f_ru f_cl f_lo f_le) : MI (k + 1) v_sz v_n v_nl v_nf v_nc f_ru (g_Mg_closed p0 p1 f_cl).2.2 f_lo f_le := by
  have hk := mi_k h
  obtain ⟨h1, h2, h3, h4, h5, h6, h7, h8⟩ := hk
  refine ⟨h1, h2, h3, h4, h5, h6, ?_, h8⟩
  unfold g_Mg_closed
  split
  · exact h7
  · exact b_upd (nar_b p1) h7
theorem mi_throwsUp {p0 p1 : Int32} (h : MI k v_sz v_n v_nl v_nf v_nc f_ru f_cl f_lo f_le) : MI (k + 1) v_sz v_n v_nl v_nf v_nc f_ru f_cl f_lo (g_Mg_throwsUp p0 p1 v_n f_le).2.2 := by
  have hk := mi_k h
  obtain ⟨h1, h2, h3, h4, h5, h6, h7, h8, h9⟩ := hk
  refine ⟨h1, h2, h3, h4, h5, h6, h7, h8, ?_⟩
  unfold g_Mg_throwsUp
  split
  · exact h9
  · exact b_upd (nar_b p1) h9
theorem mi_renew {p0 p1 : Int32} {f_bl f_te : Nat → Int32} (h : MI k v_sz v_n v_nl v_nf v_nc f_ru f_cl f_lo f_le) : MI (k + 1) v_sz v_n v_nl v_nf v_nc f_ru f_cl (g_Mg_renew p0 p1 v_nl f_ru f_bl f_lo f_cl f_te).2.2 f_le := by
  have hk := mi_k h
  obtain ⟨h1, h2, h3, h4, h5, h6, h7, h8, h9⟩ := hk
  refine ⟨h1, h2, h3, h4, h5, h6, h7, ?_, h9⟩
  unfold g_Mg_renew
  with_reducible refine pt_i (fun t : Int32 × Int32 × (Nat → Int32) => LI v_nl t.2.2) (fun _ => h8) (fun c => ?_)
  have ho := (outM c h3).1
  repeat' (first | with_reducible refine pt_i (fun t : Int32 × Int32 × (Nat → Int32) => LI v_nl t.2.2) (fun _ => ?_) (fun _ => ?_))
  all_goals first | with_reducible exact h8 | with_reducible exact li_upd ho (by decide) (li_upd ho (by decide) (li_upd ho (by decide) h8))
theorem mi_recall {p0 p1 : Int32} (h : MI k v_sz v_n v_nl v_nf v_nc f_ru f_cl f_lo f_le) : MI (k + 1) v_sz v_n v_nl v_nf v_nc f_ru f_cl (g_Mg_recall p0 p1 v_nl f_ru f_lo f_cl).2.2 f_le := by
  have hk := mi_k h
  obtain ⟨h1, h2, h3, h4, h5, h6, h7, h8, h9⟩ := hk
  refine ⟨h1, h2, h3, h4, h5, h6, h7, ?_, h9⟩
  unfold g_Mg_recall
  with_reducible refine pt_i (fun t : Int32 × Int32 × (Nat → Int32) => LI v_nl t.2.2) (fun _ => h8) (fun c => ?_)
  have ho := (outM c h3).1
  repeat' (first | with_reducible refine pt_i (fun t : Int32 × Int32 × (Nat → Int32) => LI v_nl t.2.2) (fun _ => ?_) (fun _ => ?_))
  all_goals first | with_reducible exact h8 | with_reducible exact li_upd ho (by decide) (li_upd ho (by decide) h8)
theorem mi_back {p0 : Int32} {f_ho : Nat → Int32} (h : MI k v_sz v_n v_nl v_nf v_nc f_ru f_cl f_lo f_le) : MI (k + 1) v_sz v_n v_nl v_nf v_nc f_ru f_cl (g_Mg_back p0 v_nl f_lo f_ho).2.2.1 f_le := by
  have hk := mi_k h
  obtain ⟨h1, h2, h3, h4, h5, h6, h7, h8, h9⟩ := hk
  refine ⟨h1, h2, h3, h4, h5, h6, h7, ?_, h9⟩
  unfold g_Mg_back
  with_reducible refine pt_i (fun t : Int32 × Int32 × (Nat → Int32) × (Nat → Int32) => LI v_nl t.2.2.1) (fun _ => h8) (fun c => ?_)
  exact li_up6 (outM c h3).1 h8
theorem clashes_k {v_nf : Int32} {f_fi f_cz : Nat → Int32} (hk : k < 1000) (h : 0 ≤ v_nc.toInt ∧ v_nc.toInt ≤ k) : 0 ≤ (g_Mg_clashes v_nf v_nc f_ru f_fi f_cz).1.toInt ∧ (g_Mg_clashes v_nf v_nc f_ru f_fi f_cz).1.toInt ≤ (k + 1 : Nat) := by
  have h0 : 0 ≤ v_nc.toInt ∧ v_nc.toInt ≤ (k + 1 : Nat) := by omega
  have h1 : 0 ≤ (v_nc + 1).toInt ∧ (v_nc + 1).toInt ≤ (k + 1 : Nat) := by rw [li_inc (by omega) (by omega)]; omega
  unfold g_Mg_clashes
  repeat' (first | with_reducible refine pt_i (fun t : Int32 × (Nat → Int32) => 0 ≤ t.1.toInt ∧ t.1.toInt ≤ (k + 1 : Nat)) (fun _ => ?_) (fun _ => ?_) | with_reducible refine pt_v (fun t : Int32 × (Nat → Int32) => 0 ≤ t.1.toInt ∧ t.1.toInt ≤ (k + 1 : Nat)) ?_)
  all_goals first | with_reducible exact h0 | with_reducible exact h1
set_option maxHeartbeats 1000000 in
theorem mi_lend {p0 p1 p2 : Int32} {f_me f_te f_ki f_ty f_bl f_ex f_ho f_fi f_cz : Nat → Int32} (hkk : k < 1000) (h : MI k v_sz v_n v_nl v_nf v_nc f_ru f_cl f_lo f_le) : MI (k + 1) v_sz v_n (g_Mg_lend p0 p1 p2 v_n v_nl v_nf v_nc f_ru f_me f_le f_cl f_te f_ki f_ty f_bl f_ex f_lo f_ho f_fi f_cz).2.2.1 (g_Mg_lend p0 p1 p2 v_n v_nl v_nf v_nc f_ru f_me f_le f_cl f_te f_ki f_ty f_bl f_ex f_lo f_ho f_fi f_cz).2.2.2.1 (g_Mg_lend p0 p1 p2 v_n v_nl v_nf v_nc f_ru f_me f_le f_cl f_te f_ki f_ty f_bl f_ex f_lo f_ho f_fi f_cz).2.2.2.2.1 f_ru f_cl (g_Mg_lend p0 p1 p2 v_n v_nl v_nf v_nc f_ru f_me f_le f_cl f_te f_ki f_ty f_bl f_ex f_lo f_ho f_fi f_cz).2.2.2.2.2.2.1 f_le := by
  have hk := mi_k h
  obtain ⟨h1, h2, h3, h4, h5, h6, h7, h8, h9⟩ := h
  have hf := find_ok (p0 := p0) (p1 := p1) (p2 := p2) (f_ru := f_ru) (f_ki := f_ki) (f_ty := f_ty) (f_ex := f_ex) (f_fi := f_fi) h2.2
  generalize hP : (fun t : Int32 × Int32 × Int32 × Int32 × Int32 × (Nat → Int32) × (Nat → Int32) × (Nat → Int32) × (Nat → Int32) × (Nat → Int32) => MI (k + 1) v_sz v_n t.2.2.1 t.2.2.2.1 t.2.2.2.2.1 f_ru f_cl t.2.2.2.2.2.2.1 f_le) = P
  have hg : P (g_Mg_lend p0 p1 p2 v_n v_nl v_nf v_nc f_ru f_me f_le f_cl f_te f_ki f_ty f_bl f_ex f_lo f_ho f_fi f_cz) := by
    unfold g_Mg_lend
    have u0 : ∀ a b c d e g, P (a, b, v_nl, v_nf, v_nc, c, f_lo, d, e, g) := fun a b c d e g => by rw [← hP]; exact hk
    with_reducible refine pt_i P (fun _ => u0 _ _ _ _ _ _) (fun c1 => ?_)
    with_reducible refine pt_i P (fun _ => u0 _ _ _ _ _ _) (fun c2 => ?_)
    with_reducible refine pt_i P (fun _ => u0 _ _ _ _ _ _) (fun _ => ?_)
    with_reducible refine pt_i P (fun _ => ?_) (fun _ => u0 _ _ _ _ _ _)
    with_reducible refine pt_i P (fun _ => u0 _ _ _ _ _ _) (fun c3 => ?_)
    with_reducible refine pt_i P (fun _ => ?_) (fun _ => u0 _ _ _ _ _ _)
    with_reducible refine pt_v P ?_
    generalize g_Mg_find p0 p1 p2 v_n f_ru f_ki f_ty f_ex f_fi = x at hf ⊢
    have u1 : ∀ a b c d e g, P (a, b, v_nl, x.1, v_nc, c, f_lo, d, e, g) := fun a b c d e g => by rw [← hP]; exact ⟨hk.1, hk.2.1, hk.2.2.1, hf.1, hk.2.2.2.2⟩
    with_reducible refine pt_i P (fun _ => u1 _ _ _ _ _ _) (fun c4 => ?_)
    with_reducible refine pt_v P ?_
    have hcl := clashes_k (v_nf := x.1) (f_ru := f_ru) (f_fi := x.2) (f_cz := f_cz) hkk h5
    generalize g_Mg_clashes x.1 v_nc f_ru x.2 f_cz = y at hcl ⊢
    have u2 : ∀ a b c d e g, P (a, b, v_nl, x.1, y.1, c, f_lo, d, e, g) := fun a b c d e g => by rw [← hP]; exact ⟨hk.1, hk.2.1, hk.2.2.1, hf.1, hcl, hk.2.2.2.2.2⟩
    have e200 : (200 : Int32).toInt = 200 := by decide
    have n200 : v_nl.toInt ≠ 200 := fun q => c3 (Int32.toInt_inj.mp (by rw [q, e200]))
    have hnl : 0 ≤ (v_nl + 1).toInt ∧ (v_nl + 1).toInt ≤ 200 := by rw [li_inc (by omega) (by omega)]; omega
    have u3 : ∀ a b c d e g d1 d2, P (a, b, v_nl + 1, x.1, y.1, c, upd (upd (upd (upd (upd f_lo (7 * (v_nl + 1)).toNatClampNeg p1) ((7 * (v_nl + 1)) + 1).toNatClampNeg (x.2 (0 : Int32).toNatClampNeg)) ((7 * (v_nl + 1)) + 2).toNatClampNeg d1) ((7 * (v_nl + 1)) + 4).toNatClampNeg d2) ((7 * (v_nl + 1)) + 6).toNatClampNeg ((-1) - p0), d, e, g) := fun a b c d e g d1 d2 => by
      rw [← hP]
      exact ⟨hk.1, hk.2.1, hnl, hf.1, hcl, h6, h7, li_new (by omega) (persM c2) (f0w hf c4) (persM c1) h8, h9⟩
    repeat' (first | with_reducible refine pt_i P (fun _ => ?_) (fun _ => ?_))
    all_goals first | with_reducible exact u2 _ _ _ _ _ _ | with_reducible exact u3 _ _ _ _ _ _ _ _
  rw [← hP] at hg
  exact hg
end MIs
section CLs
variable {w_ln w_nr w_nl w_nc : Int32} {F : Nat → Nat → Int32} {rho : Nat → Nat}
theorem nclash_k {w_nf : Int32} {f_cfi f_ccl : Nat → Int32} (h : 0 ≤ w_nc.toInt ∧ w_nc.toInt ≤ 780) : 0 ≤ (g_Cg_noteClash w_nr w_nf w_nc f_cfi f_ccl F).1.toInt ∧ (g_Cg_noteClash w_nr w_nf w_nc f_cfi f_ccl F).1.toInt ≤ 780 := by
  have e : (780 : Int32).toInt = 780 := by decide
  have h1 : ¬ (780 : Int32) ≤ w_nc → 0 ≤ (w_nc + 1).toInt ∧ (w_nc + 1).toInt ≤ 780 := by
    intro c
    rw [li_le, e] at c
    rw [li_inc (by omega) (by omega)]; omega
  unfold g_Cg_noteClash
  with_reducible refine pt_i (fun t : Int32 × (Nat → Int32) => 0 ≤ t.1.toInt ∧ t.1.toInt ≤ 780) (fun _ => h) (fun _ => ?_)
  with_reducible refine pt_i (fun t : Int32 × (Nat → Int32) => 0 ≤ t.1.toInt ∧ t.1.toInt ≤ 780) (fun _ => ?_) (fun _ => h)
  with_reducible refine pt_v (fun t : Int32 × (Nat → Int32) => 0 ≤ t.1.toInt ∧ t.1.toInt ≤ 780) ?_
  with_reducible refine pt_i (fun t : Int32 × (Nat → Int32) => 0 ≤ t.1.toInt ∧ t.1.toInt ≤ 780) (fun _ => ?_) (fun _ => h)
  with_reducible exact pt_i (fun t : Int32 × (Nat → Int32) => 0 ≤ t.1.toInt ∧ t.1.toInt ≤ 780) (fun _ => h) (fun c => h1 c)
abbrev TL : Type := Int32 × Int32 × Int32 × Int32 × (Nat → Int32) × (Nat → Int32) × (Nat → Int32) × (Nat → Nat → Int32) × (Nat → Nat → Int32) × (Nat → Nat) × Int32
set_option maxHeartbeats 1000000 in
theorem ci_lend {p0 p1 p2 w_nf : Int32} {f_cw f_tw : Nat → Int64} {f_cki f_cca f_cty f_cio f_cex f_cfi f_ccl : Nat → Int32} {G : Nat → Nat → Int32} {x : TL} (hx : g_Cg_lend p0 p1 p2 w_nr w_nl w_nf w_nc f_cw f_tw f_cki f_cca f_cty f_cio f_cex f_cfi f_ccl F G rho = x) (h : CI w_ln w_nr w_nl w_nc F rho) : CI w_ln w_nr x.2.1 x.2.2.2.1 x.2.2.2.2.2.2.2.1 x.2.2.2.2.2.2.2.2.2.1 ∧ b01 x.2.2.2.2.2.2.2.2.2.2 := by
  subst hx
  generalize hP : (fun t : TL => CI w_ln w_nr t.2.1 t.2.2.2.1 t.2.2.2.2.2.2.2.1 t.2.2.2.2.2.2.2.2.2.1 ∧ b01 t.2.2.2.2.2.2.2.2.2.2) = P
  have hg : P (g_Cg_lend p0 p1 p2 w_nr w_nl w_nf w_nc f_cw f_tw f_cki f_cca f_cty f_cio f_cex f_cfi f_ccl F G rho) := by
    unfold g_Cg_lend
    have u0 : ∀ a b c d e g, P (a, w_nl, b, w_nc, c, d, e, F, g, rho, 0) := fun a b c d e g => by rw [← hP]; exact ⟨h, b01_0⟩
    with_reducible refine pt_i P (fun _ => u0 _ _ _ _ _ _) (fun _ => ?_)
    with_reducible refine pt_i P (fun _ => u0 _ _ _ _ _ _) (fun _ => ?_)
    with_reducible refine pt_i P (fun _ => u0 _ _ _ _ _ _) (fun _ => ?_)
    with_reducible refine pt_i P (fun _ => ?_) (fun _ => u0 _ _ _ _ _ _)
    with_reducible refine pt_i P (fun c1 => ?_) (fun _ => u0 _ _ _ _ _ _)
    with_reducible refine pt_i P (fun _ => ?_) (fun _ => u0 _ _ _ _ _ _)
    with_reducible refine pt_v P ?_
    generalize g_Cg_gatherFitting p0 p1 p2 w_nr f_cki f_cty f_cex f_cfi F = x
    with_reducible refine pt_i P (fun c2 => ?_) (fun _ => u0 _ _ _ _ _ _)
    with_reducible refine pt_v P ?_
    generalize g_Cg_fittingAt 0 x.1 x.2 = r at c2 ⊢
    have hcl := nclash_k (w_nr := w_nr) (w_nf := x.1) (F := up2 F 9 (nN r) 1) (f_cfi := x.2) (f_ccl := f_ccl) h.2.2.2.1
    generalize g_Cg_noteClash w_nr x.1 w_nc x.2 f_ccl (up2 F 9 (nN r) 1) = y at hcl ⊢
    have hu : CI w_ln w_nr w_nl y.1 (up2 F 9 (nN r) 1) rho := by
      have h0 : CI w_ln w_nr w_nl y.1 F rho := ⟨h.1, h.2.1, h.2.2.1, hcl, h.2.2.2.2⟩
      exact ci_up (by decide) (by decide) (fun q => absurd q (by decide)) h0
    have u1 : ∀ a b c d e g, P (a, w_nl, b, y.1, c, d, e, up2 F 9 (nN r) 1, g, rho, 0) := fun a b c d e g => by rw [← hP]; exact ⟨hu, b01_0⟩
    have u2 : ∀ a b c d e g, P (a, w_nl, b, y.1, c, d, e, up2 F 9 (nN r) 1, g, rho, 1) := fun a b c d e g => by rw [← hP]; exact ⟨hu, b01_1⟩
    have e200 : (200 : Int32).toInt = 200 := by decide
    rw [li_lt, e200] at c1
    have hnl := h.2.2.1
    have ei : (w_nl + 1).toInt = w_nl.toInt + 1 := li_inc (by omega) (by omega)
    have en : nN (w_nl + 1) = nN w_nl + 1 := nN_1 hnl.1 (by omega)
    have hu3 : CI w_ln w_nr (w_nl + 1) y.1 (up2 F 9 (nN r) 1) (va_up rho (nN w_nl) (nN r)) := by
      refine ⟨hu.1, hu.2.1, by omega, hcl, fun i hi => ?_, hu.2.2.2.2.2⟩
      rw [en] at hi
      unfold va_up
      split
      · exact rIn_lt c2
      · exact h.2.2.2.2.1 i (by omega)
    have u3 : ∀ a b c d e g, P (a, w_nl + 1, b, y.1, c, d, e, up2 F 9 (nN r) 1, g, va_up rho (nN w_nl) (nN r), 0) := fun a b c d e g => by rw [← hP]; exact ⟨hu3, b01_0⟩
    repeat' (first | with_reducible refine pt_i P (fun _ => ?_) (fun _ => ?_))
    all_goals first | with_reducible exact u1 _ _ _ _ _ _ | with_reducible exact u2 _ _ _ _ _ _ | with_reducible exact u3 _ _ _ _ _ _
  rw [← hP] at hg
  exact hg
end CLs
theorem row_at (x : Int32) : x = 0 ∨ x = 1 ∨ (¬ x = 0 ∧ ¬ x = 1 ∧ (x < 0 ∨ 1 < x)) := by
  by_cases h0 : x = 0
  · exact Or.inl h0
  · by_cases h1 : x = 1
    · exact Or.inr (Or.inl h1)
    · refine Or.inr (Or.inr ⟨h0, h1, ?_⟩)
      rw [li_lt, li_lt, li_0, li_1]
      have n0 : x.toInt ≠ 0 := fun q => h0 (Int32.toInt_inj.mp (by rw [q, li_0]))
      have n1 : x.toInt ≠ 1 := fun q => h1 (Int32.toInt_inj.mp (by rw [q, li_1]))
      omega
theorem eq_isP (x : Int32) : g_Cg_isPerson x = g_Mg_isPerson x := rfl
theorem eq_isI (x : Int32) : g_Cg_isItem x = g_Mg_isPerson x := rfl
theorem eq_rowG (x y z : Int32) (f1 f2 f3 f4 : Nat → Int32) : (g_Cg_row x y z f1 f2).1 = (g_Mg_row x y z f3 f4).1 := by
  unfold g_Cg_row g_Mg_row
  rw [eq_isI, eq_isP]
  rcases row_at x with rfl | rfl | ⟨h0, h1, h⟩
  · by_cases hp : g_Mg_isPerson y = 0 <;> by_cases hz : z < 0 <;> by_cases h9 : z ≤ 9 <;> simp (decide := true) [hp, hz, h9]
  · by_cases hp : g_Mg_isPerson y = 0 <;> by_cases hz : z < 0 <;> by_cases h9 : z ≤ 9 <;> simp (decide := true) [hp, hz, h9]
  · rcases h with h | h
    · by_cases hz : z < 0 <;> by_cases h9 : z ≤ 9 <;> simp (decide := true) [h0, h1, h, hz, h9]
    · have h5 : ¬ x < 0 := by
        rw [li_lt, li_1] at h
        rw [li_lt, li_0]
        omega
      by_cases hz : z < 0 <;> by_cases h9 : z ≤ 9 <;> simp (decide := true) [h0, h1, h, h5, hz, h9]

