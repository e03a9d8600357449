theorem ixq {v c : Int32} (hv : 0 ≤ v.toInt ∧ v.toInt ≤ 40) (hc : 0 ≤ c.toInt ∧ c.toInt < 10) : ((10 * v) + c).toNatClampNeg = 10 * nN v + c.toNatClampNeg := ix10n hv hc
def LO (N : Nat) (f R : Nat → Int32) : Prop := ∀ j, j < 10 * N → R j = f j
abbrev Q4 : Type := Int32 × Int32 × Int32 × (Nat → Int32)
theorem lo_upd {f R : Nat → Int32} {n c v : Int32} (hn : 0 ≤ n.toInt ∧ n.toInt ≤ 40) (hc : 0 ≤ c.toInt ∧ c.toInt < 10) (h : LO (nN n) f R) : LO (nN n) f (upd R ((10 * n) + c).toNatClampNeg v) := by
  intro j hj
  rw [ixq hn hc, ud_get, if_neg (by omega)]
  exact h j hj
theorem number_lo {f : Nat → Int32} {p0 p1 p2 v_sz v_at v_wr v_n : Int32} {f_sa f_ru : Nat → Int32} (hn : 0 ≤ v_n.toInt ∧ v_n.toInt ≤ 40) (hp : 0 ≤ p0.toInt ∧ p0.toInt < 10) (h : LO (nN v_n) f f_ru) : LO (nN v_n) f (g_Mg_number p0 p1 p2 v_sz v_at v_wr v_n f_sa f_ru).2.2.2 := by
  unfold g_Mg_number
  with_reducible refine pt_v (fun t : Q4 => LO (nN v_n) f t.2.2.2) ?_
  with_reducible refine pt_i (fun t : Q4 => LO (nN v_n) f t.2.2.2) (fun _ => h) (fun _ => ?_)
  with_reducible refine pt_v (fun t : Q4 => LO (nN v_n) f t.2.2.2) ?_
  with_reducible refine pt_i (fun t : Q4 => LO (nN v_n) f t.2.2.2) (fun _ => h) (fun _ => ?_)
  with_reducible refine pt_i (fun t : Q4 => LO (nN v_n) f t.2.2.2) (fun _ => h) (fun _ => ?_)
  with_reducible refine pt_i (fun t : Q4 => LO (nN v_n) f t.2.2.2) (fun c => ?_) (fun _ => h)
  exact lo_upd hn hp h
theorem lends_lo {f : Nat → Int32} {v_sz v_at v_wr v_n : Int32} {f_sa f_ru : Nat → Int32} (hn : 0 ≤ v_n.toInt ∧ v_n.toInt ≤ 40) (h : LO (nN v_n) f f_ru) : LO (nN v_n) f (g_Mg_lends v_sz v_at v_wr v_n f_sa f_ru).2.2.2 := by
  have h1 := number_lo (p0 := 4) (p1 := 3) (p2 := 999) (v_sz := v_sz) (v_at := v_at) (v_wr := v_wr) (f_sa := f_sa) hn (by decide) h
  unfold g_Mg_lends
  repeat' (first | with_reducible refine pt_i (fun t : Q4 => LO (nN v_n) f t.2.2.2) (fun _ => ?_) (fun _ => ?_) | with_reducible refine pt_v (fun t : Q4 => LO (nN v_n) f t.2.2.2) ?_)
  all_goals first | with_reducible exact h | with_reducible exact h1 | exact lo_upd hn (by decide) h
theorem one_lo {f : Nat → Int32} {p0 v_sz v_at v_wr v_n : Int32} {f_sa f_ru : Nat → Int32} (hn : 0 ≤ v_n.toInt ∧ v_n.toInt ≤ 40) (h : LO (nN v_n) f f_ru) : LO (nN v_n) f (g_Mg_one p0 v_sz v_at v_wr v_n f_sa f_ru).2.2.2 := by
  unfold g_Mg_one
  repeat' (first | with_reducible refine pt_i (fun t : Q4 => LO (nN v_n) f t.2.2.2) (fun _ => ?_) (fun _ => ?_) | with_reducible refine pt_v (fun t : Q4 => LO (nN v_n) f t.2.2.2) ?_)
  all_goals first | with_reducible exact number_lo hn (by decide) h | with_reducible exact lends_lo hn h | exact lo_upd hn (by decide) h
theorem rd1_lo {f : Nat → Int32} {v_sz v_n : Int32} {f_sa : Nat → Int32} (hn : 0 ≤ v_n.toInt ∧ v_n.toInt ≤ 40) : ∀ (n : Nat) (la a wr : Int32) (R : Nat → Int32), LO (nN v_n) f R → LO (nN v_n) f (gl_rd1 n v_sz v_n f_sa la a wr R).2.2.2.2 := by
  intro n
  induction n with
  | zero => intro la a wr R h; exact h
  | succ n ih =>
    intro la a wr R h
    rw [gl_rd1]
    repeat' (first | with_reducible refine pt_i (fun t : Nat × Int32 × Int32 × Int32 × (Nat → Int32) => LO (nN v_n) f t.2.2.2.2) (fun _ => ?_) (fun _ => ?_) | with_reducible refine pt_v (fun t : Nat × Int32 × Int32 × Int32 × (Nat → Int32) => LO (nN v_n) f t.2.2.2.2) ?_)
    all_goals first | with_reducible exact h | with_reducible exact one_lo hn h | with_reducible exact ih _ _ _ _ (one_lo hn h)
def dfl (c : Nat) : Int32 := if 3 ≤ c then (if c = 7 then 7 else 0) else -1
theorem rd0_k : ∀ k, k < 10 → (¬ (10 : Int32) ≤ nI k) ∧ ((3 : Int32) ≤ nI k ↔ 3 ≤ k) ∧ (nI k = 7 ↔ k = 7) ∧ (0 ≤ (nI k).toInt ∧ (nI k).toInt < 10) ∧ (nI k).toNatClampNeg = k := by decide +kernel
theorem rd0_s {n k : Nat} {vn : Int32} {R : Nat → Int32} (hvn : 0 ≤ vn.toInt ∧ vn.toInt ≤ 40) (hk : k < 10) : gl_rd0 (n + 1) vn (nI k) R = gl_rd0 n vn (nI (k + 1)) (upd R (10 * nN vn + k) (dfl k)) := by
  obtain ⟨k1, k2, k3, k4, k5⟩ := rd0_k k hk
  have e : ((10 * vn) + nI k).toNatClampNeg = 10 * nN vn + k := by rw [ixq hvn k4, k5]
  rw [gl_rd0, if_neg k1, e, nI_1]
  unfold dfl
  by_cases c : 3 ≤ k
  · rw [if_pos (k2.mpr c), if_pos c]
    by_cases c2 : k = 7
    · rw [if_pos (k3.mpr c2), if_pos c2]
    · rw [if_neg (mt k3.mp c2), if_neg c2]
  · rw [if_neg (mt k2.mp c), if_neg c]
theorem rd0_at {vn : Int32} (hvn : 0 ≤ vn.toInt ∧ vn.toInt ≤ 40) : ∀ (n k : Nat) (R : Nat → Int32) (j : Nat), k ≤ 10 → 10 < n + k → (gl_rd0 n vn (nI k) R).2 j = if 10 * nN vn + k ≤ j ∧ j < 10 * nN vn + 10 then dfl (j - 10 * nN vn) else R j := by
  intro n
  induction n with
  | zero => intro k R j h1 h2; omega
  | succ n ih =>
    intro k R j h1 h2
    by_cases c : k = 10
    · subst c
      rw [gl_rd0, if_pos (by decide), if_neg (by omega)]
    · rw [rd0_s hvn (by omega), ih (k + 1) _ j (by omega) (by omega), ud_get]
      by_cases q : j = 10 * nN vn + k
      · rw [if_neg (by omega), if_pos q, if_pos (by omega)]
        congr 1
        omega
      · rw [if_neg q]
        by_cases q2 : 10 * nN vn + (k + 1) ≤ j ∧ j < 10 * nN vn + 10
        · rw [if_pos q2, if_pos (by omega)]
        · rw [if_neg q2, if_neg (by omega)]
abbrev T12 : Type := Int32 × Int32 × Int32 × Int32 × Int32 × Int32 × Int32 × Int32 × Int32 × Int32 × Int32 × Int32
def row9 (vn : Int32) (R : Nat → Int32) (y : T12) : Nat → Int32 := upd (upd (upd (upd (upd (upd (upd (upd (upd R ((10 * vn) + 0).toNatClampNeg y.2.2.2.1) ((10 * vn) + 1).toNatClampNeg y.2.2.2.2.1) ((10 * vn) + 2).toNatClampNeg y.2.2.2.2.2.1) ((10 * vn) + 3).toNatClampNeg y.2.2.2.2.2.2.1) ((10 * vn) + 4).toNatClampNeg y.2.2.2.2.2.2.2.1) ((10 * vn) + 5).toNatClampNeg y.2.2.2.2.2.2.2.2.1) ((10 * vn) + 6).toNatClampNeg y.2.2.2.2.2.2.2.2.2.1) ((10 * vn) + 7).toNatClampNeg y.2.2.2.2.2.2.2.2.2.2.1) ((10 * vn) + 8).toNatClampNeg y.2.2.2.2.2.2.2.2.2.2.2
theorem kk_w {sz de da re ga rc rk : Int32} {sg : Nat → Int32} : (g_Cg_readInto sz sg de da re ga rc rk).1 = kkw sz sg de da re ga rc rk 0 (-1) := by
  unfold g_Cg_readInto kkw ktw kpw kdw
  rw [bv_eq, bv_eq, bv_eq, bv_eq, bv_eq] <;> with_reducible rfl
theorem kk_R {sz vn de da re ga rc rk : Int32} {sg R : Nat → Int32} : row9 vn R (g_Cg_readInto sz sg de da re ga rc rk) = kkR sz vn sg de da re ga rc rk 0 (-1) R := by
  unfold row9 g_Cg_readInto kkR ktR kpR kdR rrR
  rw [bv_eq, bv_eq, bv_eq, bv_eq, bv_eq] <;> with_reducible rfl
theorem d_ix {vn c v : Int32} {R : Nat → Int32} (hvn : 0 ≤ vn.toInt ∧ vn.toInt ≤ 40) (hc : 0 ≤ c.toInt ∧ c.toInt < 10) (hv : dfl c.toNatClampNeg = v) : (gl_rd0 11 vn 0 R).2 ((10 * vn) + c).toNatClampNeg = v := by
  have h : (gl_rd0 11 vn 0 R).2 ((10 * vn) + c).toNatClampNeg = _ := rd0_at hvn 11 0 R ((10 * vn) + c).toNatClampNeg (by omega) (by omega)
  have e := ixq hvn hc
  have e2 := cl_nn hc.1
  rw [h, if_pos (by rw [e]; omega), e, ← hv]
  congr 1
  omega
theorem reads_eq {sz vn wr : Int32} {sg sa R : Nat → Int32} (hsz : i120 sz) (hT : TX sz sg sa) (hvn : 0 ≤ vn.toInt ∧ vn.toInt ≤ 40) : ((g_Mg_reads sz wr vn sa R).1 = 1 ∧ (g_Cg_readInto sz sg 2 0 0 0 7 0).1 = -1 ∧ (g_Mg_reads sz wr vn sa R).2.2.2 = row9 vn (gl_rd0 11 vn 0 R).2 (g_Cg_readInto sz sg 2 0 0 0 7 0)) ∨ ((g_Mg_reads sz wr vn sa R).1 = 0 ∧ ¬ (g_Cg_readInto sz sg 2 0 0 0 7 0).1 = -1) := by
  have h : RS (gl_rd1 12 sz vn sa 0 0 wr (gl_rd0 11 vn 0 R).2) (kkw sz sg 2 0 0 0 7 0 0 (-1)) (kkR sz vn sg 2 0 0 0 7 0 0 (-1) (gl_rd0 11 vn 0 R).2) := by
    rw [rd1_0 (Or.inr (by decide)) (by decide)]
    exact ph_k (n := 1) (a := 0) hsz hT hvn (by omega) (d_ix hvn (by decide) (by decide)) (d_ix hvn (by decide) (by decide)) (d_ix hvn (by decide) (by decide)) ⟨d_ix hvn (by decide) (by decide), d_ix hvn (by decide) (by decide), d_ix hvn (by decide) (by decide), d_ix hvn (by decide) (by decide), d_ix hvn (by decide) (by decide), d_ix hvn (by decide) (by decide)⟩
  rw [← kk_R, ← kk_w] at h
  unfold g_Mg_reads
  rw [bv_eq, bv_eq]
  rcases h with ⟨a, b, c⟩ | ⟨a, b⟩
  · rw [if_pos a]
    exact Or.inl ⟨rfl, b, c⟩
  · rw [if_neg a]
    refine Or.inr ⟨?_, b⟩
    exact pt_i (fun t : Q4 => t.1 = 0) (fun _ => rfl) (fun _ => pt_i (fun t : Q4 => t.1 = 0) (fun _ => rfl) (fun _ => rfl))
theorem reads_lo {f : Nat → Int32} {sz vn wr : Int32} {sa R : Nat → Int32} (hvn : 0 ≤ vn.toInt ∧ vn.toInt ≤ 40) (h : LO (nN vn) f R) : LO (nN vn) f (g_Mg_reads sz wr vn sa R).2.2.2 := by
  have h0 : LO (nN vn) f (gl_rd0 11 vn 0 R).2 := by
    intro j hj
    refine (rd0_at hvn 11 0 R j (by omega) (by omega)).trans ?_
    rw [if_neg (by omega)]
    exact h j hj
  have h1 := rd1_lo (v_sz := sz) (f_sa := sa) hvn 12 0 0 wr (gl_rd0 11 vn 0 R).2 h0
  unfold g_Mg_reads
  repeat' (first | with_reducible refine pt_i (fun t : Q4 => LO (nN vn) f t.2.2.2) (fun _ => ?_) (fun _ => ?_) | with_reducible refine pt_v (fun t : Q4 => LO (nN vn) f t.2.2.2) ?_)
  all_goals with_reducible exact h1

