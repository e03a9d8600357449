theorem b8_a (p : Int32) {i : Nat} (hi : i < 32) : (p &&& 255).toBitVec.getLsbD i = (decide (i < 8) && p.toBitVec.getLsbD i) := by
  rw [Int32.toBitVec_and, BitVec.getLsbD_and, Bool.and_comm]
  congr 1
  exact (by decide +kernel : ∀ i, i < 32 → (255 : Int32).toBitVec.getLsbD i = decide (i < 8)) i hi
theorem b8_s (p : Int32) {i : Nat} (hi : i < 8) : (p.toInt8.toInt32).toBitVec.getLsbD i = p.toBitVec.getLsbD i := by
  show ((p.toBitVec.signExtend 8).signExtend 32).getLsbD i = _
  rw [BitVec.getLsbD_signExtend, BitVec.getLsbD_signExtend]
  simp [hi, show i < 32 by omega]
theorem sg_by (p : Int32) : (vp_nar .byte p.toInt8.toInt32) &&& 255 = p &&& 255 := by
  rw [vp_nar_byte]
  apply Int32.toBitVec_inj.mp
  apply BitVec.eq_of_getLsbD_eq
  intro i hi
  rw [b8_a _ hi, b8_a _ hi]
  by_cases c : i < 8
  · rw [b8_s _ c, b8_s _ c]
  · rw [decide_eq_false c, Bool.false_and, Bool.false_and]
theorem sg_ch : ∀ m, m ≤ 255 → vp_nar .char (((nI m).toUInt32 % 65536).toInt32) = nI m := by
  intro m hm
  rw [vp_nar_char]
  exact (by decide +kernel : ∀ m, m < 256 → (((nI m).toUInt32 % 65536).toInt32).toUInt32.toUInt16.toUInt32.toInt32 = nI m) m (by omega)
theorem sg_new (p : Int32) : vp_nar .char (((p &&& 255).toUInt32 % 65536).toInt32) = (vp_nar .byte p.toInt8.toInt32) &&& 255 := by
  rw [sg_by]
  obtain ⟨m, hm, e⟩ := a255 p
  rw [e]
  exact sg_ch m hm
def RA (w_ln v_sz : Int32) (f_sg f_sa : Nat → Int32) : Prop := w_ln = v_sz ∧ TX v_sz f_sg f_sa
theorem ra_sign {p w_ln v_sz : Int32} {f_sg f_sa : Nat → Int32} (hsz : i120 v_sz) (h : RA w_ln v_sz f_sg f_sa) : RA (g_Cg_sign p w_ln f_sg).1 (g_Mg_sign p v_sz f_sa).2.1 (g_Cg_sign p w_ln f_sg).2 (g_Mg_sign p v_sz f_sa).2.2 := by
  obtain ⟨e, hT⟩ := h
  obtain ⟨z0, z1⟩ := hsz
  subst e
  unfold g_Cg_sign g_Cg_collect g_Mg_sign
  rw [bv_eq]
  by_cases c : 120 ≤ w_ln
  · rw [if_pos c, if_pos c]
    exact ⟨rfl, hT⟩
  · rw [if_neg c, if_neg c]
    refine ⟨rfl, fun i hi => ?_⟩
    have e1 : (w_ln + 1).toInt = w_ln.toInt + 1 := li_inc (by omega) (by omega)
    have e2 := cl_nn z0
    have hi2 : (i : Int) < (w_ln + 1).toInt := hi
    show upd f_sg w_ln.toNatClampNeg _ i = (upd f_sa w_ln.toNatClampNeg _ i) &&& 255
    rw [ud_get, ud_get]
    by_cases q : i = w_ln.toNatClampNeg
    · rw [if_pos q, if_pos q]
      exact sg_new p
    · rw [if_neg q, if_neg q]
      exact hT i (by omega)
theorem ra_0 {w v : Int32} {f g : Nat → Int32} (h : w = 0) (h2 : v = 0) : RA w v f g := by
  subst h h2
  refine ⟨rfl, fun i hi => ?_⟩
  rw [li_0] at hi
  omega
def R13 (w_ln w_nr : Int32) (f_sg : Nat → Int32) (v_sz v_n : Int32) (f_sa : Nat → Int32) : Prop := RA w_ln v_sz f_sg f_sa ∧ w_nr = v_n
theorem r13_0 : R13 0 0 (fun _ => 0) 0 0 (fun _ => 0) := ⟨ra_0 rfl rfl, rfl⟩
theorem r13_sign {p w_ln w_nr v_sz v_n : Int32} {f_sg f_sa : Nat → Int32} (hsz : i120 v_sz) (h : R13 w_ln w_nr f_sg v_sz v_n f_sa) : R13 (g_Cg_sign p w_ln f_sg).1 w_nr (g_Cg_sign p w_ln f_sg).2 (g_Mg_sign p v_sz f_sa).2.1 v_n (g_Mg_sign p v_sz f_sa).2.2 := ⟨ra_sign hsz h.1, h.2⟩
theorem cr_ln {w_nr w_ln : Int32} {f : Nat → Int32} {F : Nat → Nat → Int32} : (g_Cg_rule w_nr w_ln f F).2.2.1 = 0 := by
  unfold g_Cg_rule
  rw [bv_eq]
  refine pt_i (fun t : Int32 × Int32 × Int32 × Int32 × Int32 × (Nat → Nat → Int32) => t.2.2.1 = 0) (fun _ => ?_) (fun _ => rfl)
  exact pt_i (fun t : Int32 × Int32 × Int32 × Int32 × Int32 × (Nat → Nat → Int32) => t.2.2.1 = 0) (fun _ => rfl) (fun _ => rfl)
theorem mr_sz {v_sz v_wr v_n : Int32} {f R : Nat → Int32} : (g_Mg_rule v_sz v_wr v_n f R).2.2.1 = 0 := by
  unfold g_Mg_rule
  rw [bv_eq]
  refine pt_i (fun t : Int32 × Int32 × Int32 × Int32 × Int32 × Int32 × (Nat → Int32) => t.2.2.1 = 0) (fun _ => rfl) (fun _ => ?_)
  exact pt_i (fun t : Int32 × Int32 × Int32 × Int32 × Int32 × Int32 × (Nat → Int32) => t.2.2.1 = 0) (fun _ => rfl) (fun _ => rfl)
theorem e40 : (40 : Int32).toInt = 40 := by decide
theorem lt40 {x : Int32} (h : 0 ≤ x.toInt ∧ x.toInt ≤ 40) : x < 40 ↔ ¬ x = 40 := by
  rw [li_lt, e40]
  constructor
  · intro q e
    rw [e, e40] at q
    omega
  · intro q
    have : x.toInt ≠ 40 := fun e => q (Int32.toInt_inj.mp (by rw [e, e40]))
    omega
theorem rule_n {w_ln w_nr v_sz v_wr v_n : Int32} {f_sg f_sa f_ru : Nat → Int32} {F : Nat → Nat → Int32} (hsz : i120 v_sz) (hvn : 0 ≤ v_n.toInt ∧ v_n.toInt ≤ 40) (h : RA w_ln v_sz f_sg f_sa) (e : w_nr = v_n) : (g_Cg_rule w_nr w_ln f_sg F).2.1 = (g_Mg_rule v_sz v_wr v_n f_sa f_ru).2.2.2.2.2.1 := by
  obtain ⟨e2, hT⟩ := h
  subst e e2
  unfold g_Cg_rule g_Mg_rule
  rw [bv_eq, bv_eq]
  rcases reads_eq (wr := v_wr) (R := f_ru) hsz hT hvn with ⟨a, b, c⟩ | ⟨a, b⟩
  · have na : ¬ (g_Mg_reads w_ln v_wr w_nr f_sa f_ru).1 = 0 := by rw [a]; decide
    rw [if_pos b, if_neg na]
    by_cases c2 : w_nr = 40
    · rw [if_neg (fun q => (lt40 hvn).mp q c2), if_pos c2]
    · rw [if_pos ((lt40 hvn).mpr c2), if_neg c2]
  · rw [if_neg b, if_pos a]
theorem r13_rule {w_ln w_nr v_sz v_wr v_n : Int32} {f_sg f_sa f_ru : Nat → Int32} {F : Nat → Nat → Int32} (hsz : i120 v_sz) (hvn : 0 ≤ v_n.toInt ∧ v_n.toInt ≤ 40) (h : R13 w_ln w_nr f_sg v_sz v_n f_sa) : R13 (g_Cg_rule w_nr w_ln f_sg F).2.2.1 (g_Cg_rule w_nr w_ln f_sg F).2.1 f_sg (g_Mg_rule v_sz v_wr v_n f_sa f_ru).2.2.1 (g_Mg_rule v_sz v_wr v_n f_sa f_ru).2.2.2.2.2.1 f_sa := ⟨ra_0 cr_ln mr_sz, rule_n hsz hvn h.1 h.2⟩
theorem rin_is {x n : Int32} : rIn x n ↔ ¬ g_Mg_isRule x n = 0 := by
  unfold g_Mg_isRule
  by_cases c1 : x < 0
  · rw [if_pos c1]
    rw [li_lt, li_0] at c1
    exact ⟨fun q => by omega, fun q => absurd rfl q⟩
  · rw [if_neg c1]
    rw [li_lt, li_0] at c1
    by_cases c2 : n ≤ x
    · rw [if_pos c2]
      rw [li_le] at c2
      exact ⟨fun q => by omega, fun q => absurd rfl q⟩
    · rw [if_neg c2]
      rw [li_le] at c2
      exact ⟨fun _ => by decide, fun _ => by omega⟩
theorem eq_exceptG {p0 p1 p2 n : Int32} {f g : Nat → Int32} : (g_Cg_except p0 p1 p2 n f).1 = (g_Mg_except p0 p1 p2 n g).1 := by
  unfold g_Cg_except g_Mg_except
  rw [eq_isP]
  by_cases c1 : g_Mg_isPerson p0 = 0
  · rw [if_pos c1, if_pos c1]
  · rw [if_neg c1, if_neg c1]
    by_cases c2 : g_Mg_isRule p1 n = 0
    · rw [if_pos c2, if_neg (fun q => rin_is.mp q c2)]
    · rw [if_neg c2, if_pos (rin_is.mpr c2)]
      by_cases c3 : 0 ≤ p2
      · rw [if_pos c3]
        by_cases c4 : p2 ≤ 9999
        · rw [if_pos c4]
        · rw [if_neg c4]
      · rw [if_neg c3]
theorem eq_exceptH {p0 p1 p2 w_ln w_nr v_sz v_n : Int32} {f_sg f_sa f g : Nat → Int32} (h : R13 w_ln w_nr f_sg v_sz v_n f_sa) : (g_Cg_except p0 p1 p2 w_nr f).1 = (g_Mg_except p0 p1 p2 v_n g).1 := by
  rw [h.2]
  exact eq_exceptG

