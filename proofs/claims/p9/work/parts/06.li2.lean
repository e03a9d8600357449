theorem f0v {nf : Int32} {f : Nat → Int32} (h : ∀ j : Nat, (j : Int) < nf.toInt → v40 (f j)) (c : ¬ nf < 2) : v40 (f (0 : Int32).toNatClampNeg) := by
  have e2 : (2 : Int32).toInt = 2 := by decide
  rw [li_lt, e2] at c
  exact h 0 (by omega)
theorem f1v {nf : Int32} {f : Nat → Int32} (h : ∀ j : Nat, (j : Int) < nf.toInt → v40 (f j)) (c : ¬ nf < 2) : v40 (f (1 : Int32).toNatClampNeg) := by
  have e2 : (2 : Int32).toInt = 2 := by decide
  rw [li_lt, e2] at c
  exact h 1 (by omega)
theorem li_c3 {k nc : Int32} (hk : 0 ≤ k.toInt ∧ k.toInt ≤ 799) (c : ¬ nc ≤ k) (h : 0 ≤ nc.toInt ∧ nc.toInt ≤ 799) : 0 ≤ k.toInt ∧ k.toInt ≤ 799 := hk
theorem li_s3 {k nc : Int32} (hk : 0 ≤ k.toInt ∧ k.toInt ≤ 799) (c : ¬ nc ≤ k) (h : 0 ≤ nc.toInt ∧ nc.toInt ≤ 799) : 0 ≤ (k + 1).toInt ∧ (k + 1).toInt ≤ 799 := by
  rw [li_le] at c; rw [li_inc (by omega) (by omega)]; omega
theorem li_m3 {k nc : Int32} {n : Nat} (hk : 0 ≤ k.toInt ∧ k.toInt ≤ 799) (c : ¬ nc ≤ k) (h : 0 ≤ nc.toInt ∧ nc.toInt ≤ 799) (hm : 800 - k.toInt.toNat ≤ n + 1) : 800 - (k + 1).toInt.toNat ≤ n := by
  rw [li_le] at c; rw [li_inc (by omega) (by omega)]; omega
theorem ix_bl {x nl : Int32} {f : Nat → Int32} (h : (0 < x.toInt ∧ x.toInt ≤ 200) ∧ x.toInt ≤ nl.toInt ∧ (f ((7 * x) + 6).toNatClampNeg).toInt < 0) (hl6 : ∀ x : Int32, 0 < x.toInt → x.toInt ≤ nl.toInt → (f ((7 * x) + 6).toNatClampNeg).toInt < 0 → -50 ≤ (f ((7 * x) + 6).toNatClampNeg).toInt) : vp_in ((-1) - (f ((7 * x) + 6).toNatClampNeg)) 50 := by
  have h1 := hl6 x h.1.1 h.2.1 h.2.2
  have h2 := h.2.2
  have e : (-1 : Int32).toInt = -1 := by decide
  rw [vp_in_iff, li_sub (by rw [e]; omega) (by rw [e]; omega), e]; omega
theorem li_n0 {x : Int32} (c : ¬ x < 0) : 0 ≤ x.toInt := by
  rw [li_lt, li_0] at c; omega
