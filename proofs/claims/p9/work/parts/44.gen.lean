theorem dz_nf {x : Bool} (h : ¬ x = true) : x = false := by cases x <;> first | rfl | exact absurd rfl h
theorem dz_bit {w : Int64} {s : UInt64} {j : Nat} (hj : j < 64) (hs : s.toNat = j) : ((w.toUInt64 >>> s).toInt64 &&& 1) = 0 ↔ w.toBitVec.getLsbD j = false := by
  have e : (w.toUInt64 >>> s).toInt64.toBitVec = w.toBitVec >>> j := by
    apply BitVec.eq_of_toNat_eq
    show (w.toUInt64 >>> s).toNat = _
    rw [UInt64.toNat_shiftRight, hs, Nat.mod_eq_of_lt hj, BitVec.toNat_ushiftRight]
    rfl
  rw [← Int64.toBitVec_inj, Int64.toBitVec_and, e]
  show w.toBitVec >>> j &&& 1#64 = 0#64 ↔ _
  constructor
  · intro h
    have t := congrArg (fun x => x.getLsbD 0) h
    simpa using t
  · intro h
    apply BitVec.eq_of_getLsbD_eq
    intro i hi
    cases i with
    | zero => simp [h]
    | succ i => simp
theorem dz_tb (n : Nat) : (lN n).toBitVec = BitVec.ofNat 64 n := rfl
theorem dz_c : ∀ k, k < 64 → ((nI k).toInt64 &&& 63) = lN k := by decide +kernel
theorem dz_cu : ∀ k, k < 64 → ((nI k).toInt64.toUInt64 &&& Int64.toUInt64 63) = UInt64.ofNat k := by decide +kernel
theorem dz_u {n : Nat} (h : n < 2 ^ 64) : (UInt64.ofNat n).toNat = n := Nat.mod_eq_of_lt h
theorem dz_m : ∀ k, k < 64 → ((1 : Int64) <<< ((nI k).toInt64 &&& 63)).toBitVec = BitVec.twoPow 64 k := by decide +kernel
theorem dz_or {w m : Int64} {k t : Nat} (hk : k < 64) (hm : m.toBitVec = BitVec.twoPow 64 k) : (w ||| m).toBitVec.getLsbD t = if t = k then true else w.toBitVec.getLsbD t := by
  rw [Int64.toBitVec_or, hm, BitVec.getLsbD_or, BitVec.getLsbD_twoPow]
  by_cases e : t = k
  · subst e; simp [hk]
  · rw [if_neg e]; simp [Ne.symm e]
theorem dz_and {w m : Int64} {k t : Nat} (hk : k < 64) (ht : t < 64) (hm : m.toBitVec = BitVec.twoPow 64 k) : (w &&& (m ^^^ (-1))).toBitVec.getLsbD t = if t = k then false else w.toBitVec.getLsbD t := by
  have ha : (-1 : Int64).toBitVec = BitVec.allOnes 64 := by decide
  rw [Int64.toBitVec_and, Int64.toBitVec_xor, hm, ha, BitVec.getLsbD_and, BitVec.getLsbD_xor, BitVec.getLsbD_twoPow, BitVec.getLsbD_allOnes]
  by_cases e : t = k
  · subst e; simp [hk]
  · rw [if_neg e]; simp [Ne.symm e, ht]
theorem vl_get (f : Nat → Int64) (k : Nat) (x : Int64) (j : Nat) : vp_updL f k x j = if j = k then x else f j := rfl
theorem ud_get (f : Nat → Int32) (k : Nat) (x : Int32) (j : Nat) : upd f k x j = if j = k then x else f j := rfl
theorem eq_isD (x : Int32) : g_Cg_isDay x = g_Mg_isDay x := rfl
theorem dy_of {x : Int32} (h : ¬ g_Mg_isDay x = 0) : ∃ j : Nat, j < 10000 ∧ x = nI j := by
  unfold g_Mg_isDay at h
  by_cases c1 : x < 0
  · rw [if_pos c1] at h; exact absurd rfl h
  · rw [if_neg c1] at h
    by_cases c2 : 10000 ≤ x
    · rw [if_pos c2] at h; exact absurd rfl h
    · obtain ⟨j, hj, e⟩ := nI_of c1
      refine ⟨j, ?_, e⟩
      rw [li_le, e, nI_toInt hj, li_10000] at c2
      omega
theorem dy_is {j : Nat} (h : j < 10000) : g_Mg_isDay (nI j) = 1 := by
  unfold g_Mg_isDay
  rw [if_neg (nI_pos (by omega)), if_neg]
  rw [li_le, nI_toInt (by omega), li_10000]
  omega
def dyb (f : Nat → Int64) (j : Nat) : Bool := (f (j / 64)).toBitVec.getLsbD (j % 64)
theorem dyb_get (f : Nat → Int64) (j : Nat) : dyb f j = (f (j / 64)).toBitVec.getLsbD (j % 64) := rfl
theorem dy_d {j : Nat} (h : j < 10100) : (nI j / 64 : Int32).toNatClampNeg = j / 64 := by
  have e1 : (nI j / 64 : Int32) = nI (j / 64) := pk_div (d := 64) (by omega) (by omega) (by omega)
  rw [e1, nI_clamp (by omega)]
theorem dy_r {j : Nat} (h : j < 10100) : (nI j - nI j / 64 * 64 : Int32) = nI (j % 64) := pk_rem (d := 64) (by omega) (by omega) (by omega)
theorem hd_eq {f : Nat → Int64} {j : Nat} (h : j < 10000) : g_Cg_holds (nI j) f = if dyb f j = true then 1 else 0 := by
  unfold g_Cg_holds
  rw [eq_isD, dy_is h, if_neg (by decide), dy_d (by omega), dy_r (by omega), dz_cu _ (by omega)]
  have dq : (lg_cmp (((f (j / 64)).toUInt64 >>> UInt64.ofNat (j % 64)).toInt64 &&& 1) 0 = 0) ↔ dyb f j = false := by
    rw [lg_cmp_eq]; exact dz_bit (by omega) (dz_u (by omega))
  by_cases c : dyb f j = true
  · rw [if_pos c, if_neg (mt dq.mp (by rw [c]; decide))]
  · rw [if_neg c, if_pos (dq.mpr (dz_nf c))]
theorem dyb_put {f : Nat → Int64} {i j : Nat} {p : Int32} (hi : i < 10000) : dyb (g_Cg_put (nI i) p f) j = if j = i then decide (¬ p = 0) else dyb f j := by
  unfold g_Cg_put
  rw [eq_isD, dy_is hi, if_neg (by decide), dy_d (by omega), dy_r (by omega)]
  have hk : i % 64 < 64 := by omega
  have ht : j % 64 < 64 := by omega
  by_cases c : p = 0
  · rw [if_pos c, dyb_get, vl_get]
    by_cases q : j / 64 = i / 64
    · rw [if_pos q, dz_and hk ht (dz_m _ hk)]
      by_cases q2 : j = i
      · rw [if_pos (by rw [q2]), if_pos q2]; simp [c]
      · rw [if_neg (by omega : ¬ j % 64 = i % 64), if_neg q2, ← q]; rfl
    · rw [if_neg q, if_neg (fun h => q (by rw [h]))]; rfl
  · rw [if_neg c, dyb_get, vl_get]
    by_cases q : j / 64 = i / 64
    · rw [if_pos q, dz_or hk (dz_m _ hk)]
      by_cases q2 : j = i
      · rw [if_pos (by rw [q2]), if_pos q2]; simp [c]
      · rw [if_neg (by omega : ¬ j % 64 = i % 64), if_neg q2, ← q]; rfl
    · rw [if_neg q, if_neg (fun h => q (by rw [h]))]; rfl
def DB (f : Nat → Int64) (g : Nat → Int32) : Prop := ∀ j, j < 10000 → g_Cg_holds (nI j) f = g j
theorem db_put {f : Nat → Int64} {g : Nat → Int32} {i : Nat} {p : Int32} (hi : i < 10000) (hp : b01 p) (h : DB f g) : DB (g_Cg_put (nI i) p f) (upd g (nI i).toNatClampNeg (vp_nar .boolean p)) := by
  intro j hj
  rw [hd_eq hj, dyb_put hi, nI_clamp (by omega), ud_get]
  by_cases e : j = i
  · rw [if_pos e, if_pos e]
    rcases hp with rfl | rfl
    · first | rfl | decide +kernel
    · first | rfl | decide +kernel
  · rw [if_neg e, if_neg e, ← h j hj, hd_eq hj]
theorem db_closed {p0 p1 : Int32} {f : Nat → Int64} {g : Nat → Int32} (hp : b01 p1) (h : DB f g) : DB (g_Cg_closed p0 p1 f).2 (g_Mg_closed p0 p1 g).2.2 := by
  unfold g_Cg_closed g_Mg_closed
  rw [eq_isD]
  by_cases c : g_Mg_isDay p0 = 0
  · rw [if_pos c, if_pos c]; exact h
  · rw [if_neg c, if_neg c]
    obtain ⟨i, hi, rfl⟩ := dy_of c
    show DB (g_Cg_put (nI i) p1 f) (upd g (nI i).toNatClampNeg (vp_nar .boolean p1))
    exact db_put hi hp h
theorem eq_closedG {p0 p1 : Int32} {f : Nat → Int64} {g : Nat → Int32} (h : DB f g) : (g_Cg_closed p0 p1 f).1 = (g_Mg_closed p0 p1 g).1 := by
  unfold g_Cg_closed g_Mg_closed
  rw [eq_isD]
  by_cases c : g_Mg_isDay p0 = 0
  · rw [if_pos c, if_pos c]
  · rw [if_neg c, if_neg c]
    obtain ⟨i, hi, rfl⟩ := dy_of c
    show g_Cg_holds (nI i) f = g (nI i).toNatClampNeg
    rw [h i hi, nI_clamp (by omega)]
theorem db_term {p0 : Int32} {f : Nat → Int64} {g : Nat → Int32} (h : DB f g) : DB (g_Cg_term p0 f).2 (g_Mg_term p0 g).2.2 := by
  unfold g_Cg_term g_Mg_term
  rw [eq_isD]
  by_cases c : g_Mg_isDay p0 = 0
  · rw [if_pos c, if_pos c]; exact h
  · rw [if_neg c, if_neg c]
    obtain ⟨i, hi, rfl⟩ := dy_of c
    have e : g_Cg_holds (nI i) f = g (nI i).toNatClampNeg := by rw [h i hi, nI_clamp (by omega)]
    rw [e]
    by_cases c2 : g (nI i).toNatClampNeg = 0
    · rw [if_pos c2, if_pos c2]
      show DB (g_Cg_put (nI i) 1 f) (upd g (nI i).toNatClampNeg (vp_nar .boolean 1))
      exact db_put hi b01_1 h
    · rw [if_neg c2, if_neg c2]; exact h
theorem eq_termG {p0 : Int32} {f : Nat → Int64} {g : Nat → Int32} (h : DB f g) : (g_Cg_term p0 f).1 = (g_Mg_term p0 g).1 := by
  unfold g_Cg_term g_Mg_term
  rw [eq_isD]
  by_cases c : g_Mg_isDay p0 = 0
  · rw [if_pos c, if_pos c]
  · rw [if_neg c, if_neg c]
    obtain ⟨i, hi, rfl⟩ := dy_of c
    have e : g_Cg_holds (nI i) f = g (nI i).toNatClampNeg := by rw [h i hi, nI_clamp (by omega)]
    rw [e]
    by_cases c2 : g (nI i).toNatClampNeg = 0
    · rw [if_pos c2, if_pos c2]; rfl
    · rw [if_neg c2, if_neg c2]
theorem db_0 : DB (fun _ => 0) (fun _ => 0) := by
  intro j hj
  have e : dyb (fun _ => 0) j = false := by
    show (0 : Int64).toBitVec.getLsbD (j % 64) = false
    simp
  rw [hd_eq hj, e]
  rfl

