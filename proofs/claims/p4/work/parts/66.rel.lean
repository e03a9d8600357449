set_option maxHeartbeats 200000 in
theorem ixq {v c : Int32} (hv : 0 ≤ v.toInt ∧ v.toInt ≤ 40) (hc : 0 ≤ c.toInt ∧ c.toInt < 10) : ((10 * v) + c).toNatClampNeg = 10 * nN v + c.toNatClampNeg := ix10n hv hc
def LO (N : Nat) (f R : Nat → Int32) : Prop := ∀ j, j < 10 * N → R j = f j
abbrev Q4 : Type := Int32 × Int32 × Int32 × (Nat → Int32)
set_option maxHeartbeats 200000 in
theorem lo_upd {f R : Nat → Int32} {n c v : Int32} (hn : 0 ≤ n.toInt ∧ n.toInt ≤ 40) (hc : 0 ≤ c.toInt ∧ c.toInt < 10) (h : LO (nN n) f R) : LO (nN n) f (upd R ((10 * n) + c).toNatClampNeg v) := by
  intro j hj
  rw [ixq hn hc, ud_get, if_neg (by omega)]
  exact h j hj
set_option maxHeartbeats 200000 in
theorem number_lo {f : Nat → Int32} {p0 p1 p2 v_sz v_at v_wr v_n : Int32} {f_sa f_ru : Nat → Int32} (hn : 0 ≤ v_n.toInt ∧ v_n.toInt ≤ 40) (hp : 0 ≤ p0.toInt ∧ p0.toInt < 10) (h : LO (nN v_n) f f_ru) : LO (nN v_n) f (g_Mg_number p0 p1 p2 v_sz v_at v_wr v_n f_sa f_ru).2.2.2 := by
  unfold g_Mg_number
  with_reducible refine pt_v (fun t : Q4 => LO (nN v_n) f t.2.2.2) ?_
  with_reducible refine pt_i (fun t : Q4 => LO (nN v_n) f t.2.2.2) (fun _ => h) (fun _ => ?_)
  with_reducible refine pt_v (fun t : Q4 => LO (nN v_n) f t.2.2.2) ?_
  with_reducible refine pt_i (fun t : Q4 => LO (nN v_n) f t.2.2.2) (fun _ => h) (fun _ => ?_)
  with_reducible refine pt_i (fun t : Q4 => LO (nN v_n) f t.2.2.2) (fun _ => h) (fun _ => ?_)
  with_reducible refine pt_i (fun t : Q4 => LO (nN v_n) f t.2.2.2) (fun c => ?_) (fun _ => h)
  exact lo_upd hn hp h
set_option maxHeartbeats 200000 in
theorem lends_lo {f : Nat → Int32} {v_sz v_at v_wr v_n : Int32} {f_sa f_ru : Nat → Int32} (hn : 0 ≤ v_n.toInt ∧ v_n.toInt ≤ 40) (h : LO (nN v_n) f f_ru) : LO (nN v_n) f (g_Mg_lends v_sz v_at v_wr v_n f_sa f_ru).2.2.2 := by
  have h1 := number_lo (p0 := 4) (p1 := 3) (p2 := 999) (v_sz := v_sz) (v_at := v_at) (v_wr := v_wr) (f_sa := f_sa) hn (by decide) h
  unfold g_Mg_lends
  repeat' (first | with_reducible refine pt_i (fun t : Q4 => LO (nN v_n) f t.2.2.2) (fun _ => ?_) (fun _ => ?_) | with_reducible refine pt_v (fun t : Q4 => LO (nN v_n) f t.2.2.2) ?_)
  all_goals first | with_reducible exact h | with_reducible exact h1 | exact lo_upd hn (by decide) h
set_option maxHeartbeats 200000 in
theorem one_lo {f : Nat → Int32} {p0 v_sz v_at v_wr v_n : Int32} {f_sa f_ru : Nat → Int32} (hn : 0 ≤ v_n.toInt ∧ v_n.toInt ≤ 40) (h : LO (nN v_n) f f_ru) : LO (nN v_n) f (g_Mg_one p0 v_sz v_at v_wr v_n f_sa f_ru).2.2.2 := by
  unfold g_Mg_one
  repeat' (first | with_reducible refine pt_i (fun t : Q4 => LO (nN v_n) f t.2.2.2) (fun _ => ?_) (fun _ => ?_) | with_reducible refine pt_v (fun t : Q4 => LO (nN v_n) f t.2.2.2) ?_)
  all_goals first | with_reducible exact number_lo hn (by decide) h | with_reducible exact lends_lo hn h | exact lo_upd hn (by decide) h
set_option maxHeartbeats 200000 in
theorem rd1_lo {f : Nat → Int32} {v_sz v_n : Int32} {f_sa : Nat → Int32} (hn : 0 ≤ v_n.toInt ∧ v_n.toInt ≤ 40) : ∀ (n : Nat) (la a wr : Int32) (R : Nat → Int32), LO (nN v_n) f R → LO (nN v_n) f (gl_rd1 n v_sz v_n f_sa la a wr R).2.2.2.2 := by
  intro n
  induction n with
  | zero => intro la a wr R h; exact h
  | succ n ih =>
    intro la a wr R h
    rw [gl_rd1]
    repeat' (first | with_reducible refine pt_i (fun t : Nat × Int32 × Int32 × Int32 × (Nat → Int32) => LO (nN v_n) f t.2.2.2.2) (fun _ => ?_) (fun _ => ?_) | with_reducible refine pt_v (fun t : Nat × Int32 × Int32 × Int32 × (Nat → Int32) => LO (nN v_n) f t.2.2.2.2) ?_)
    all_goals first | with_reducible exact h | with_reducible exact one_lo hn h | with_reducible exact ih _ _ _ _ (one_lo hn h)
def dfl (c : Nat) : Int32 := if 3 ≤ c then (if c = 7 then 7 else 0) else -1
set_option maxHeartbeats 200000 in
theorem rd0_k : ∀ k, k < 10 → (¬ (10 : Int32) ≤ nI k) ∧ ((3 : Int32) ≤ nI k ↔ 3 ≤ k) ∧ (nI k = 7 ↔ k = 7) ∧ (0 ≤ (nI k).toInt ∧ (nI k).toInt < 10) ∧ (nI k).toNatClampNeg = k := by decide +kernel
set_option maxHeartbeats 200000 in
theorem rd0_s {n k : Nat} {vn : Int32} {R : Nat → Int32} (hvn : 0 ≤ vn.toInt ∧ vn.toInt ≤ 40) (hk : k < 10) : gl_rd0 (n + 1) vn (nI k) R = gl_rd0 n vn (nI (k + 1)) (upd R (10 * nN vn + k) (dfl k)) := by
  obtain ⟨k1, k2, k3, k4, k5⟩ := rd0_k k hk
  have e : ((10 * vn) + nI k).toNatClampNeg = 10 * nN vn + k := by rw [ixq hvn k4, k5]
  rw [gl_rd0, if_neg k1, e, nI_1]
  unfold dfl
  by_cases c : 3 ≤ k
  · rw [if_pos (k2.mpr c), if_pos c]
    by_cases c2 : k = 7
    · rw [if_pos (k3.mpr c2), if_pos c2]
    · rw [if_neg (mt k3.mp c2), if_neg c2]
  · rw [if_neg (mt k2.mp c), if_neg c]
set_option maxHeartbeats 200000 in
theorem rd0_at {vn : Int32} (hvn : 0 ≤ vn.toInt ∧ vn.toInt ≤ 40) : ∀ (n k : Nat) (R : Nat → Int32) (j : Nat), k ≤ 10 → 10 < n + k → (gl_rd0 n vn (nI k) R).2 j = if 10 * nN vn + k ≤ j ∧ j < 10 * nN vn + 10 then dfl (j - 10 * nN vn) else R j := by
  intro n
  induction n with
  | zero => intro k R j h1 h2; omega
  | succ n ih =>
    intro k R j h1 h2
    by_cases c : k = 10
    · subst c
      rw [gl_rd0, if_pos (by decide), if_neg (by omega)]
    · rw [rd0_s hvn (by omega), ih (k + 1) _ j (by omega) (by omega), ud_get]
      by_cases q : j = 10 * nN vn + k
      · rw [if_neg (by omega), if_pos q, if_pos (by omega)]
        congr 1
        omega
      · rw [if_neg q]
        by_cases q2 : 10 * nN vn + (k + 1) ≤ j ∧ j < 10 * nN vn + 10
        · rw [if_pos q2, if_pos (by omega)]
        · rw [if_neg q2, if_neg (by omega)]
abbrev T12 : Type := Int32 × Int32 × Int32 × Int32 × Int32 × Int32 × Int32 × Int32 × Int32 × Int32 × Int32 × Int32
def row9 (vn : Int32) (R : Nat → Int32) (y : T12) : Nat → Int32 := upd (upd (upd (upd (upd (upd (upd (upd (upd R ((10 * vn) + 0).toNatClampNeg y.2.2.2.1) ((10 * vn) + 1).toNatClampNeg y.2.2.2.2.1) ((10 * vn) + 2).toNatClampNeg y.2.2.2.2.2.1) ((10 * vn) + 3).toNatClampNeg y.2.2.2.2.2.2.1) ((10 * vn) + 4).toNatClampNeg y.2.2.2.2.2.2.2.1) ((10 * vn) + 5).toNatClampNeg y.2.2.2.2.2.2.2.2.1) ((10 * vn) + 6).toNatClampNeg y.2.2.2.2.2.2.2.2.2.1) ((10 * vn) + 7).toNatClampNeg y.2.2.2.2.2.2.2.2.2.2.1) ((10 * vn) + 8).toNatClampNeg y.2.2.2.2.2.2.2.2.2.2.2
set_option maxHeartbeats 200000 in
theorem kk_w {sz de da re ga rc rk : Int32} {sg : Nat → Int32} : (g_Cg_readInto sz sg de da re ga rc rk).1 = kkw sz sg de da re ga rc rk 0 (-1) := by
  unfold g_Cg_readInto kkw ktw kpw kdw
  rw [bv_eq, bv_eq, bv_eq, bv_eq, bv_eq] <;> with_reducible rfl
set_option maxHeartbeats 200000 in
theorem kk_R {sz vn de da re ga rc rk : Int32} {sg R : Nat → Int32} : row9 vn R (g_Cg_readInto sz sg de da re ga rc rk) = kkR sz vn sg de da re ga rc rk 0 (-1) R := by
  unfold row9 g_Cg_readInto kkR ktR kpR kdR rrR
  rw [bv_eq, bv_eq, bv_eq, bv_eq, bv_eq] <;> with_reducible rfl
set_option maxHeartbeats 200000 in
theorem d_ix {vn c v : Int32} {R : Nat → Int32} (hvn : 0 ≤ vn.toInt ∧ vn.toInt ≤ 40) (hc : 0 ≤ c.toInt ∧ c.toInt < 10) (hv : dfl c.toNatClampNeg = v) : (gl_rd0 11 vn 0 R).2 ((10 * vn) + c).toNatClampNeg = v := by
  have h : (gl_rd0 11 vn 0 R).2 ((10 * vn) + c).toNatClampNeg = _ := rd0_at hvn 11 0 R ((10 * vn) + c).toNatClampNeg (by omega) (by omega)
  have e := ixq hvn hc
  have e2 := cl_nn hc.1
  rw [h, if_pos (by rw [e]; omega), e, ← hv]
  congr 1
  omega
set_option maxHeartbeats 200000 in
theorem reads_eq {sz vn wr : Int32} {sg sa R : Nat → Int32} (hsz : i120 sz) (hT : TX sz sg sa) (hvn : 0 ≤ vn.toInt ∧ vn.toInt ≤ 40) : ((g_Mg_reads sz wr vn sa R).1 = 1 ∧ (g_Cg_readInto sz sg 2 0 0 0 7 0).1 = -1 ∧ (g_Mg_reads sz wr vn sa R).2.2.2 = row9 vn (gl_rd0 11 vn 0 R).2 (g_Cg_readInto sz sg 2 0 0 0 7 0)) ∨ ((g_Mg_reads sz wr vn sa R).1 = 0 ∧ ¬ (g_Cg_readInto sz sg 2 0 0 0 7 0).1 = -1) := by
  have h : RS (gl_rd1 12 sz vn sa 0 0 wr (gl_rd0 11 vn 0 R).2) (kkw sz sg 2 0 0 0 7 0 0 (-1)) (kkR sz vn sg 2 0 0 0 7 0 0 (-1) (gl_rd0 11 vn 0 R).2) := by
    rw [rd1_0 (Or.inr (by decide)) (by decide)]
    exact ph_k (n := 1) (a := 0) hsz hT hvn (by omega) (d_ix hvn (by decide) (by decide)) (d_ix hvn (by decide) (by decide)) (d_ix hvn (by decide) (by decide)) ⟨d_ix hvn (by decide) (by decide), d_ix hvn (by decide) (by decide), d_ix hvn (by decide) (by decide), d_ix hvn (by decide) (by decide), d_ix hvn (by decide) (by decide), d_ix hvn (by decide) (by decide)⟩
  rw [← kk_R, ← kk_w] at h
  unfold g_Mg_reads
  rw [bv_eq, bv_eq]
  rcases h with ⟨a, b, c⟩ | ⟨a, b⟩
  · rw [if_pos a]
    exact Or.inl ⟨rfl, b, c⟩
  · rw [if_neg a]
    refine Or.inr ⟨?_, b⟩
    exact pt_i (fun t : Q4 => t.1 = 0) (fun _ => rfl) (fun _ => pt_i (fun t : Q4 => t.1 = 0) (fun _ => rfl) (fun _ => rfl))
set_option maxHeartbeats 200000 in
theorem reads_lo {f : Nat → Int32} {sz vn wr : Int32} {sa R : Nat → Int32} (hvn : 0 ≤ vn.toInt ∧ vn.toInt ≤ 40) (h : LO (nN vn) f R) : LO (nN vn) f (g_Mg_reads sz wr vn sa R).2.2.2 := by
  have h0 : LO (nN vn) f (gl_rd0 11 vn 0 R).2 := by
    intro j hj
    refine (rd0_at hvn 11 0 R j (by omega) (by omega)).trans ?_
    rw [if_neg (by omega)]
    exact h j hj
  have h1 := rd1_lo (v_sz := sz) (f_sa := sa) hvn 12 0 0 wr (gl_rd0 11 vn 0 R).2 h0
  unfold g_Mg_reads
  repeat' (first | with_reducible refine pt_i (fun t : Q4 => LO (nN vn) f t.2.2.2) (fun _ => ?_) (fun _ => ?_) | with_reducible refine pt_v (fun t : Q4 => LO (nN vn) f t.2.2.2) ?_)
  all_goals with_reducible exact h1
set_option maxHeartbeats 200000 in
theorem b8_a (p : Int32) {i : Nat} (hi : i < 32) : (p &&& 255).toBitVec.getLsbD i = (decide (i < 8) && p.toBitVec.getLsbD i) := by
  rw [Int32.toBitVec_and, BitVec.getLsbD_and, Bool.and_comm]
  congr 1
  exact (by decide +kernel : ∀ i, i < 32 → (255 : Int32).toBitVec.getLsbD i = decide (i < 8)) i hi
set_option maxHeartbeats 200000 in
theorem b8_s (p : Int32) {i : Nat} (hi : i < 8) : (p.toInt8.toInt32).toBitVec.getLsbD i = p.toBitVec.getLsbD i := by
  show ((p.toBitVec.signExtend 8).signExtend 32).getLsbD i = _
  rw [BitVec.getLsbD_signExtend, BitVec.getLsbD_signExtend]
  simp [hi, show i < 32 by omega]
set_option maxHeartbeats 200000 in
theorem sg_by (p : Int32) : (vp_nar .byte p.toInt8.toInt32) &&& 255 = p &&& 255 := by
  rw [vp_nar_byte]
  apply Int32.toBitVec_inj.mp
  apply BitVec.eq_of_getLsbD_eq
  intro i hi
  rw [b8_a _ hi, b8_a _ hi]
  by_cases c : i < 8
  · rw [b8_s _ c, b8_s _ c]
  · rw [decide_eq_false c, Bool.false_and, Bool.false_and]
set_option maxHeartbeats 200000 in
theorem sg_ch : ∀ m, m ≤ 255 → vp_nar .char (((nI m).toUInt32 % 65536).toInt32) = nI m := by
  intro m hm
  rw [vp_nar_char]
  exact (by decide +kernel : ∀ m, m < 256 → (((nI m).toUInt32 % 65536).toInt32).toUInt32.toUInt16.toUInt32.toInt32 = nI m) m (by omega)
set_option maxHeartbeats 200000 in
theorem sg_new (p : Int32) : vp_nar .char (((p &&& 255).toUInt32 % 65536).toInt32) = (vp_nar .byte p.toInt8.toInt32) &&& 255 := by
  rw [sg_by]
  obtain ⟨m, hm, e⟩ := a255 p
  rw [e]
  exact sg_ch m hm
def RA (w_ln v_sz : Int32) (f_sg f_sa : Nat → Int32) : Prop := w_ln = v_sz ∧ TX v_sz f_sg f_sa
set_option maxHeartbeats 200000 in
theorem ra_sign {p w_ln v_sz : Int32} {f_sg f_sa : Nat → Int32} (hsz : i120 v_sz) (h : RA w_ln v_sz f_sg f_sa) : RA (g_Cg_sign p w_ln f_sg).1 (g_Mg_sign p v_sz f_sa).2.1 (g_Cg_sign p w_ln f_sg).2 (g_Mg_sign p v_sz f_sa).2.2 := by
  obtain ⟨e, hT⟩ := h
  obtain ⟨z0, z1⟩ := hsz
  subst e
  unfold g_Cg_sign g_Cg_collect g_Mg_sign
  rw [bv_eq]
  by_cases c : 120 ≤ w_ln
  · rw [if_pos c, if_pos c]
    exact ⟨rfl, hT⟩
  · rw [if_neg c, if_neg c]
    refine ⟨rfl, fun i hi => ?_⟩
    have e1 : (w_ln + 1).toInt = w_ln.toInt + 1 := li_inc (by omega) (by omega)
    have e2 := cl_nn z0
    have hi2 : (i : Int) < (w_ln + 1).toInt := hi
    show upd f_sg w_ln.toNatClampNeg _ i = (upd f_sa w_ln.toNatClampNeg _ i) &&& 255
    rw [ud_get, ud_get]
    by_cases q : i = w_ln.toNatClampNeg
    · rw [if_pos q, if_pos q]
      exact sg_new p
    · rw [if_neg q, if_neg q]
      exact hT i (by omega)
set_option maxHeartbeats 200000 in
theorem ra_0 {w v : Int32} {f g : Nat → Int32} (h : w = 0) (h2 : v = 0) : RA w v f g := by
  subst h h2
  refine ⟨rfl, fun i hi => ?_⟩
  rw [li_0] at hi
  omega
def R13 (w_ln w_nr : Int32) (f_sg : Nat → Int32) (v_sz v_n : Int32) (f_sa : Nat → Int32) : Prop := RA w_ln v_sz f_sg f_sa ∧ w_nr = v_n
set_option maxHeartbeats 200000 in
theorem r13_0 : R13 0 0 (fun _ => 0) 0 0 (fun _ => 0) := ⟨ra_0 rfl rfl, rfl⟩
set_option maxHeartbeats 200000 in
theorem r13_sign {p w_ln w_nr v_sz v_n : Int32} {f_sg f_sa : Nat → Int32} (hsz : i120 v_sz) (h : R13 w_ln w_nr f_sg v_sz v_n f_sa) : R13 (g_Cg_sign p w_ln f_sg).1 w_nr (g_Cg_sign p w_ln f_sg).2 (g_Mg_sign p v_sz f_sa).2.1 v_n (g_Mg_sign p v_sz f_sa).2.2 := ⟨ra_sign hsz h.1, h.2⟩
set_option maxHeartbeats 200000 in
theorem cr_ln {w_nr w_ln : Int32} {f : Nat → Int32} {F : Nat → Nat → Int32} : (g_Cg_rule w_nr w_ln f F).2.2.1 = 0 := by
  unfold g_Cg_rule
  rw [bv_eq]
  refine pt_i (fun t : Int32 × Int32 × Int32 × Int32 × Int32 × (Nat → Nat → Int32) => t.2.2.1 = 0) (fun _ => ?_) (fun _ => rfl)
  exact pt_i (fun t : Int32 × Int32 × Int32 × Int32 × Int32 × (Nat → Nat → Int32) => t.2.2.1 = 0) (fun _ => rfl) (fun _ => rfl)
set_option maxHeartbeats 200000 in
theorem mr_sz {v_sz v_wr v_n : Int32} {f R : Nat → Int32} : (g_Mg_rule v_sz v_wr v_n f R).2.2.1 = 0 := by
  unfold g_Mg_rule
  rw [bv_eq]
  refine pt_i (fun t : Int32 × Int32 × Int32 × Int32 × Int32 × Int32 × (Nat → Int32) => t.2.2.1 = 0) (fun _ => rfl) (fun _ => ?_)
  exact pt_i (fun t : Int32 × Int32 × Int32 × Int32 × Int32 × Int32 × (Nat → Int32) => t.2.2.1 = 0) (fun _ => rfl) (fun _ => rfl)
set_option maxHeartbeats 200000 in
theorem e40 : (40 : Int32).toInt = 40 := by decide
set_option maxHeartbeats 200000 in
theorem lt40 {x : Int32} (h : 0 ≤ x.toInt ∧ x.toInt ≤ 40) : x < 40 ↔ ¬ x = 40 := by
  rw [li_lt, e40]
  constructor
  · intro q e
    rw [e, e40] at q
    omega
  · intro q
    have : x.toInt ≠ 40 := fun e => q (Int32.toInt_inj.mp (by rw [e, e40]))
    omega
set_option maxHeartbeats 200000 in
theorem rule_n {w_ln w_nr v_sz v_wr v_n : Int32} {f_sg f_sa f_ru : Nat → Int32} {F : Nat → Nat → Int32} (hsz : i120 v_sz) (hvn : 0 ≤ v_n.toInt ∧ v_n.toInt ≤ 40) (h : RA w_ln v_sz f_sg f_sa) (e : w_nr = v_n) : (g_Cg_rule w_nr w_ln f_sg F).2.1 = (g_Mg_rule v_sz v_wr v_n f_sa f_ru).2.2.2.2.2.1 := by
  obtain ⟨e2, hT⟩ := h
  subst e e2
  unfold g_Cg_rule g_Mg_rule
  rw [bv_eq, bv_eq]
  rcases reads_eq (wr := v_wr) (R := f_ru) hsz hT hvn with ⟨a, b, c⟩ | ⟨a, b⟩
  · have na : ¬ (g_Mg_reads w_ln v_wr w_nr f_sa f_ru).1 = 0 := by rw [a]; decide
    rw [if_pos b, if_neg na]
    by_cases c2 : w_nr = 40
    · rw [if_neg (fun q => (lt40 hvn).mp q c2), if_pos c2]
    · rw [if_pos ((lt40 hvn).mpr c2), if_neg c2]
  · rw [if_neg b, if_pos a]
set_option maxHeartbeats 200000 in
theorem r13_rule {w_ln w_nr v_sz v_wr v_n : Int32} {f_sg f_sa f_ru : Nat → Int32} {F : Nat → Nat → Int32} (hsz : i120 v_sz) (hvn : 0 ≤ v_n.toInt ∧ v_n.toInt ≤ 40) (h : R13 w_ln w_nr f_sg v_sz v_n f_sa) : R13 (g_Cg_rule w_nr w_ln f_sg F).2.2.1 (g_Cg_rule w_nr w_ln f_sg F).2.1 f_sg (g_Mg_rule v_sz v_wr v_n f_sa f_ru).2.2.1 (g_Mg_rule v_sz v_wr v_n f_sa f_ru).2.2.2.2.2.1 f_sa := ⟨ra_0 cr_ln mr_sz, rule_n hsz hvn h.1 h.2⟩
set_option maxHeartbeats 200000 in
theorem rin_is {x n : Int32} : rIn x n ↔ ¬ g_Mg_isRule x n = 0 := by
  unfold g_Mg_isRule
  by_cases c1 : x < 0
  · rw [if_pos c1]
    rw [li_lt, li_0] at c1
    exact ⟨fun q => by omega, fun q => absurd rfl q⟩
  · rw [if_neg c1]
    rw [li_lt, li_0] at c1
    by_cases c2 : n ≤ x
    · rw [if_pos c2]
      rw [li_le] at c2
      exact ⟨fun q => by omega, fun q => absurd rfl q⟩
    · rw [if_neg c2]
      rw [li_le] at c2
      exact ⟨fun _ => by decide, fun _ => by omega⟩
set_option maxHeartbeats 200000 in
theorem eq_exceptG {p0 p1 p2 n : Int32} {f g : Nat → Int32} : (g_Cg_except p0 p1 p2 n f).1 = (g_Mg_except p0 p1 p2 n g).1 := by
  unfold g_Cg_except g_Mg_except
  rw [eq_isP]
  by_cases c1 : g_Mg_isPerson p0 = 0
  · rw [if_pos c1, if_pos c1]
  · rw [if_neg c1, if_neg c1]
    by_cases c2 : g_Mg_isRule p1 n = 0
    · rw [if_pos c2, if_neg (fun q => rin_is.mp q c2)]
    · rw [if_neg c2, if_pos (rin_is.mpr c2)]
      by_cases c3 : 0 ≤ p2
      · rw [if_pos c3]
        by_cases c4 : p2 ≤ 9999
        · rw [if_pos c4]
        · rw [if_neg c4]
      · rw [if_neg c3]
set_option maxHeartbeats 200000 in
theorem eq_exceptH {p0 p1 p2 w_ln w_nr v_sz v_n : Int32} {f_sg f_sa f g : Nat → Int32} (h : R13 w_ln w_nr f_sg v_sz v_n f_sa) : (g_Cg_except p0 p1 p2 w_nr f).1 = (g_Mg_except p0 p1 p2 v_n g).1 := by
  rw [h.2]
  exact eq_exceptG
