theorem up2_94 {F : Nat → Nat → Int32} {i j : Nat} {v : Int32} (h : 0 ≤ (F 4 i).toInt ∧ (F 4 i).toInt ≤ 999) : 0 ≤ (up2 F 9 j v 4 i).toInt ∧ (up2 F 9 j v 4 i).toInt ≤ 999 := by
  have e : up2 F 9 j v 4 i = F 4 i := by simp [up2]
  rw [e]; exact h
theorem li_a2 {x : Int32} (h : 0 ≤ x.toInt ∧ x.toInt ≤ 200) (c : x < 200) : 0 ≤ x.toInt ∧ x.toInt < 200 := by
  have e : (200 : Int32).toInt = 200 := by decide
  rw [li_lt, e] at c; omega

