abbrev nN (x : Int32) : Nat := x.toNatClampNeg
abbrev rcell (F : Nat → Nat → Int32) (j : Nat) : va_E := .inr (3, [.int (F 0 j), .int (F 1 j), .int (F 2 j), .int (F 3 j), .int (F 4 j), .int (F 5 j), .int (F 6 j), .int (F 7 j), .int (F 8 j), .int (F 9 j), .int (F 10 j)])
abbrev lcell (aR : Nat → Nat) (G : Nat → Nat → Int32) (rho : Nat → Nat) (j : Nat) : va_E := .inr (2, [.int (G 0 j), .int (G 1 j), .ref (aR (rho j)), .int (G 3 j), .int (G 4 j), .int (G 5 j), .int (G 6 j), .int (G 7 j)])
def pR (n : Nat) (aR : Nat → Nat) (F : Nat → Nat → Int32) : va_W := (List.range n).map (fun j => (aR j, rcell F j))
def pL (n : Nat) (aL aR : Nat → Nat) (G : Nat → Nat → Int32) (rho : Nat → Nat) : va_W := (List.range n).map (fun j => (aL j, lcell aR G rho j))
def plz (nR : Nat) (aR : Nat → Nat) (F : Nat → Nat → Int32) (nL : Nat) (aL : Nat → Nat) (G : Nat → Nat → Int32) (rho : Nat → Nat) : va_W := pR nR aR F ++ pL nL aL aR G rho
def up2 (F : Nat → Nat → Int32) (k j : Nat) (v : Int32) : Nat → Nat → Int32 := fun a b => if a = k then (if b = j then v else F a b) else F a b
def fpush (F : Nat → Nat → Int32) (n : Nat) (l : List Int32) : Nat → Nat → Int32 := fun a b => if b = n then l.getD a 0 else F a b
theorem pR_len (n : Nat) (aR : Nat → Nat) (F : Nat → Nat → Int32) : (pR n aR F).length = n := by simp [pR]
theorem pL_len (n : Nat) (aL aR : Nat → Nat) (G : Nat → Nat → Int32) (rho : Nat → Nat) : (pL n aL aR G rho).length = n := by simp [pL]
theorem rng_get {α : Type} {n j : Nat} (f : Nat → α) (h : j < n) : ((List.range n).map f)[j]? = some (f j) := by
  rw [List.getElem?_map, List.getElem?_range h]; rfl
theorem rng_set {α : Type} {n j : Nat} {f g : Nat → α} {x : α} (h : j < n) (hx : g j = x) (he : ∀ i, i ≠ j → g i = f i) : ((List.range n).map f).set j x = (List.range n).map g := by
  apply List.ext_getElem?
  intro i
  by_cases hi : i = j
  · subst hi
    rw [List.getElem?_set_self (by simp; exact h), rng_get g h, hx]
  · rw [List.getElem?_set_ne (Ne.symm hi)]
    by_cases hn : i < n
    · rw [rng_get f hn, rng_get g hn, he i hi]
    · rw [List.getElem?_eq_none (by simp; omega), List.getElem?_eq_none (by simp; omega)]
section PZ
variable {X : va_W} {nR nL j : Nat} {aR aL rho : Nat → Nat} {F G : Nat → Nat → Int32} {D : va_G} {cl : List vw_C} {H : Heap} {A : Nat → Prop}
theorem plz_r (h : j < nR) : (X ++ plz nR aR F nL aL G rho)[X.length + j]? = some (aR j, rcell F j) := by
  rw [List.getElem?_append_right (by omega), Nat.add_sub_cancel_left]
  unfold plz
  rw [List.getElem?_append_left (by rw [pR_len]; exact h)]
  exact rng_get _ h
theorem plz_l (h : j < nL) : (X ++ plz nR aR F nL aL G rho)[X.length + (nR + j)]? = some (aL j, lcell aR G rho j) := by
  rw [List.getElem?_append_right (by omega), Nat.add_sub_cancel_left]
  unfold plz
  rw [List.getElem?_append_right (by rw [pR_len]; omega), pR_len, Nat.add_sub_cancel_left]
  exact rng_get _ h
theorem plz_rset {F' : Nat → Nat → Int32} {e : va_E} (h : j < nR) (he : rcell F' j = e) (hn : ∀ i, i ≠ j → rcell F' i = rcell F i) : (X ++ plz nR aR F nL aL G rho).set (X.length + j) (aR j, e) = X ++ plz nR aR F' nL aL G rho := by
  rw [List.set_append, if_neg (by omega), Nat.add_sub_cancel_left]
  unfold plz
  rw [List.set_append, if_pos (by rw [pR_len]; exact h)]
  congr 2
  exact rng_set (g := fun j => (aR j, rcell F' j)) h (by rw [he]) (fun i hi => by rw [hn i hi])
theorem plz_lset {G' : Nat → Nat → Int32} {e : va_E} (h : j < nL) (he : lcell aR G' rho j = e) (hn : ∀ i, i ≠ j → lcell aR G' rho i = lcell aR G rho i) : (X ++ plz nR aR F nL aL G rho).set (X.length + (nR + j)) (aL j, e) = X ++ plz nR aR F nL aL G' rho := by
  rw [List.set_append, if_neg (by omega), Nat.add_sub_cancel_left]
  unfold plz
  rw [List.set_append, if_neg (by rw [pR_len]; omega), pR_len, Nat.add_sub_cancel_left]
  congr 2
  exact rng_set (g := fun j => (aL j, lcell aR G' rho j)) h (by rw [he]) (fun i hi => by rw [hn i hi])
theorem up2_ne {k i a : Nat} {v : Int32} (h : i ≠ j) : up2 F k j v a i = F a i := by simp [up2, h]
theorem rc_ne {k : Nat} {v : Int32} (i : Nat) (h : i ≠ j) : rcell (up2 F k j v) i = rcell F i := by simp only [rcell, up2_ne h]
theorem lc_ne {k : Nat} {v : Int32} (i : Nat) (h : i ≠ j) : lcell aR (up2 G k j v) rho i = lcell aR G rho i := by simp only [lcell, up2_ne h]
theorem vP_rput (k : Nat) (v : Int32) {fs : List Value} (h : j < nR) (he : rcell (up2 F k j v) j = .inr (3, fs)) (hP : va_P D cl ((X ++ plz nR aR F nL aL G rho).set (X.length + j) (aR j, .inr (3, fs))) H) : va_P D cl (X ++ plz nR aR (up2 F k j v) nL aL G rho) H := by
  rw [plz_rset h he rc_ne] at hP; exact hP
theorem vD_rput (k : Nat) (v : Int32) {fs : List Value} (h : j < nR) (he : rcell (up2 F k j v) j = .inr (3, fs)) (hP : va_D A ((X ++ plz nR aR F nL aL G rho).set (X.length + j) (aR j, .inr (3, fs)))) : va_D A (X ++ plz nR aR (up2 F k j v) nL aL G rho) := by
  rw [plz_rset h he rc_ne] at hP; exact hP
theorem vP_lput (k : Nat) (v : Int32) {fs : List Value} (h : j < nL) (he : lcell aR (up2 G k j v) rho j = .inr (2, fs)) (hP : va_P D cl ((X ++ plz nR aR F nL aL G rho).set (X.length + (nR + j)) (aL j, .inr (2, fs))) H) : va_P D cl (X ++ plz nR aR F nL aL (up2 G k j v) rho) H := by
  rw [plz_lset h he lc_ne] at hP; exact hP
theorem vD_lput (k : Nat) (v : Int32) {fs : List Value} (h : j < nL) (he : lcell aR (up2 G k j v) rho j = .inr (2, fs)) (hP : va_D A ((X ++ plz nR aR F nL aL G rho).set (X.length + (nR + j)) (aL j, .inr (2, fs)))) : va_D A (X ++ plz nR aR F nL aL (up2 G k j v) rho) := by
  rw [plz_lset h he lc_ne] at hP; exact hP
theorem vP_one {pl : va_W} {k : Nat} {q : Nat × va_E} (hP : va_P D cl (X ++ pl) H) (hk : (X ++ pl)[k]? = some q) : va_P D cl (X ++ [q]) H := by
  refine va_P.app (fun i x hx => hP i x ?_) (fun i x hx => ?_)
  · rw [List.getElem?_append_left (List.getElem?_eq_some_iff.mp hx).1]; exact hx
  · have h1 : i < 1 := (List.getElem?_eq_some_iff.mp hx).1
    obtain rfl : i = 0 := by omega
    cases hx
    exact hP k q hk
/-- four parts: the middle two change places -/
theorem sw4 {a b c d : va_W} (k : Nat) (q : Nat × va_E) (hk : (((a ++ c) ++ b) ++ d)[k]? = some q) : (((a ++ b) ++ c) ++ d)[if k < a.length + b.length + c.length then (if k < a.length then k else if k < a.length + c.length then k + b.length else k - c.length) else k]? = some q := by
  by_cases h : k < a.length + b.length + c.length
  · rw [if_pos h]
    rw [List.getElem?_append_left (by rw [List.length_append, List.length_append]; omega)] at hk
    have h1 := va_swapG (a := a) (b := b) (c := c) k q hk
    rw [List.getElem?_append_left (List.getElem?_eq_some_iff.mp h1).1]
    exact h1
  · rw [if_neg h]
    rw [List.getElem?_append_right (by rw [List.length_append, List.length_append]; omega), List.length_append, List.length_append] at hk
    rw [List.getElem?_append_right (by rw [List.length_append, List.length_append]; omega), List.length_append, List.length_append]
    rw [show a.length + b.length + c.length = a.length + c.length + b.length by omega]
    exact hk
theorem vP_sw4 {a b c d : va_W} (h : va_P D cl (((a ++ b) ++ c) ++ d) H) : va_P D cl (((a ++ c) ++ b) ++ d) H := h.by _ sw4
theorem vD_sw4 {a b c d : va_W} (h : va_D A (((a ++ b) ++ c) ++ d)) : va_D A (((a ++ c) ++ b) ++ d) := by
  refine h.by _ sw4 (fun i j hi hj e => ?_)
  simp only [List.length_append] at hi hj
  by_cases h1 : i < a.length <;> by_cases h2 : j < a.length <;> by_cases h3 : i < a.length + c.length <;> by_cases h4 : j < a.length + c.length <;> by_cases h5 : i < a.length + b.length + c.length <;> by_cases h6 : j < a.length + b.length + c.length <;> simp only [h1, h2, h3, h4, h5, h6, if_true, if_false] at e <;> omega
theorem pR_push {q : Nat} {v0 v1 v2 v3 v4 v5 v6 v7 v8 v9 v10 : Int32} : pR nR aR F ++ [(q, .inr (3, [.int v0, .int v1, .int v2, .int v3, .int v4, .int v5, .int v6, .int v7, .int v8, .int v9, .int v10]))] = pR (nR + 1) (va_up aR nR q) (fpush F nR [v0, v1, v2, v3, v4, v5, v6, v7, v8, v9, v10]) := by
  unfold pR
  rw [List.range_succ, List.map_append]
  congr 1
  · apply List.map_congr_left
    intro i hi
    have hn : i ≠ nR := by have := List.mem_range.mp hi; omega
    rw [va_up_ne _ _ hn]
    simp [rcell, fpush, hn]
  · simp [rcell, fpush, va_up_self]
theorem pL_up {q : Nat} (hr : ∀ i, i < nL → rho i < nR) : pL nL aL (va_up aR nR q) G rho = pL nL aL aR G rho := by
  unfold pL
  apply List.map_congr_left
  intro i hi
  have h1 := hr i (List.mem_range.mp hi)
  simp only [lcell, va_up_ne aR q (show rho i ≠ nR by omega)]
theorem pL_push {q r : Nat} {v0 v1 v3 v4 v5 v6 v7 : Int32} : pL nL aL aR G rho ++ [(q, .inr (2, [.int v0, .int v1, .ref (aR r), .int v3, .int v4, .int v5, .int v6, .int v7]))] = pL (nL + 1) (va_up aL nL q) aR (fpush G nL [v0, v1, 0, v3, v4, v5, v6, v7]) (va_up rho nL r) := by
  unfold pL
  rw [List.range_succ, List.map_append]
  congr 1
  · apply List.map_congr_left
    intro i hi
    have hn : i ≠ nL := by have := List.mem_range.mp hi; omega
    rw [va_up_ne _ _ hn]
    simp [lcell, fpush, hn, va_up_ne rho r hn]
  · simp [lcell, fpush, va_up_self]
theorem plz_pr {q : Nat} {v0 v1 v2 v3 v4 v5 v6 v7 v8 v9 v10 : Int32} (hr : ∀ i, i < nL → rho i < nR) : (((X ++ pR nR aR F) ++ [(q, .inr (3, [.int v0, .int v1, .int v2, .int v3, .int v4, .int v5, .int v6, .int v7, .int v8, .int v9, .int v10]))]) ++ pL nL aL aR G rho) = X ++ plz (nR + 1) (va_up aR nR q) (fpush F nR [v0, v1, v2, v3, v4, v5, v6, v7, v8, v9, v10]) nL aL G rho := by
  unfold plz
  rw [← pR_push, pL_up hr]
  simp only [List.append_assoc]
theorem plz_ap {N : va_W} : (X ++ N) ++ plz nR aR F nL aL G rho = (((X ++ N) ++ pR nR aR F) ++ pL nL aL aR G rho) := by
  unfold plz
  simp only [List.append_assoc]
theorem vP_pushr {q : Nat} {v0 v1 v2 v3 v4 v5 v6 v7 v8 v9 v10 : Int32} (hr : ∀ i, i < nL → rho i < nR) (h : va_P D cl ((X ++ [(q, .inr (3, [.int v0, .int v1, .int v2, .int v3, .int v4, .int v5, .int v6, .int v7, .int v8, .int v9, .int v10]))]) ++ plz nR aR F nL aL G rho) H) : va_P D cl (X ++ plz (nR + 1) (va_up aR nR q) (fpush F nR [v0, v1, v2, v3, v4, v5, v6, v7, v8, v9, v10]) nL aL G rho) H := by
  rw [plz_ap] at h
  have h2 := vP_sw4 h
  rw [plz_pr hr] at h2
  exact h2
theorem vD_pushr {q : Nat} {v0 v1 v2 v3 v4 v5 v6 v7 v8 v9 v10 : Int32} (hr : ∀ i, i < nL → rho i < nR) (h : va_D A ((X ++ [(q, .inr (3, [.int v0, .int v1, .int v2, .int v3, .int v4, .int v5, .int v6, .int v7, .int v8, .int v9, .int v10]))]) ++ plz nR aR F nL aL G rho)) : va_D A (X ++ plz (nR + 1) (va_up aR nR q) (fpush F nR [v0, v1, v2, v3, v4, v5, v6, v7, v8, v9, v10]) nL aL G rho) := by
  rw [plz_ap] at h
  have h2 := vD_sw4 h
  rw [plz_pr hr] at h2
  exact h2
theorem plz_pl {q r : Nat} {v0 v1 v3 v4 v5 v6 v7 : Int32} : ((X ++ plz nR aR F nL aL G rho) ++ [(q, .inr (2, [.int v0, .int v1, .ref (aR r), .int v3, .int v4, .int v5, .int v6, .int v7]))]) = X ++ plz nR aR F (nL + 1) (va_up aL nL q) (fpush G nL [v0, v1, 0, v3, v4, v5, v6, v7]) (va_up rho nL r) := by
  unfold plz
  rw [← pL_push]
  simp only [List.append_assoc]
theorem vP_pushl {q r : Nat} {v0 v1 v3 v4 v5 v6 v7 : Int32} (h : va_P D cl ((X ++ [(q, .inr (2, [.int v0, .int v1, .ref (aR r), .int v3, .int v4, .int v5, .int v6, .int v7]))]) ++ plz nR aR F nL aL G rho) H) : va_P D cl (X ++ plz nR aR F (nL + 1) (va_up aL nL q) (fpush G nL [v0, v1, 0, v3, v4, v5, v6, v7]) (va_up rho nL r)) H := by
  have h2 := h.swap
  rw [plz_pl] at h2
  exact h2
theorem vD_pushl {q r : Nat} {v0 v1 v3 v4 v5 v6 v7 : Int32} (h : va_D A ((X ++ [(q, .inr (2, [.int v0, .int v1, .ref (aR r), .int v3, .int v4, .int v5, .int v6, .int v7]))]) ++ plz nR aR F nL aL G rho)) : va_D A (X ++ plz nR aR F (nL + 1) (va_up aL nL q) (fpush G nL [v0, v1, 0, v3, v4, v5, v6, v7]) (va_up rho nL r)) := by
  have h2 := h.swap
  rw [plz_pl] at h2
  exact h2
end PZ
def ruA (n : Nat) (a : Nat → Nat) : Nat → Option Nat := fun j => if j < n then some (a j) else none
theorem ruA_up {n q : Nat} {a : Nat → Nat} : va_up (ruA n a) n (some q) = ruA (n + 1) (va_up a n q) := by
  funext j
  by_cases h : j = n
  · subst h; simp [va_up, ruA]
  · by_cases h2 : j < n
    · simp [va_up, ruA, h, h2, Nat.lt_succ_of_lt h2]
    · have h3 : ¬ j < n + 1 := by omega
      simp [va_up, ruA, h, h2, h3]
abbrev rIn (x n : Int32) : Prop := 0 ≤ x.toInt ∧ x.toInt < n.toInt
theorem rIn_lt {x n : Int32} (h : rIn x n) : nN x < nN n := by
  have h1 := cl_nn h.1
  have h2 := cl_nn (x := n) (by have := h.1; have := h.2; omega)
  have h3 := h.2
  show x.toNatClampNeg < n.toNatClampNeg
  omega
abbrev hIn (x n : Int32) (G : Nat → Nat → Int32) : Prop := 1 ≤ x.toInt ∧ x.toInt ≤ n.toInt ∧ G 7 (nN (x - 1)) = 0
theorem h1_lt {x n : Int32} (h0 : 1 ≤ x.toInt) (h1 : x.toInt ≤ n.toInt) : nN (x - 1) < nN n := by
  have hx : (x - 1).toInt = x.toInt - 1 := li_dec (by omega) (by have := Int32.toInt_lt x; omega)
  have h2 := cl_nn (x := x - 1) (by omega)
  have h3 := cl_nn (x := n) (by omega)
  show (x - 1).toNatClampNeg < n.toNatClampNeg
  omega
theorem hIn_lt {x n : Int32} {G : Nat → Nat → Int32} (h : hIn x n G) : nN (x - 1) < nN n := h1_lt h.1 h.2.1
theorem nN_1 {n : Int32} (h0 : 0 ≤ n.toInt) (h1 : n.toInt < 2147483647) : nN (n + 1) = nN n + 1 := by
  have hx : (n + 1).toInt = n.toInt + 1 := li_inc (by omega) h1
  have h2 := cl_nn (x := n + 1) (by omega)
  have h3 := cl_nn h0
  show (n + 1).toNatClampNeg = n.toNatClampNeg + 1
  omega
theorem narrow_b {r : Int32} (h : b01 r) : narrow .boolean (.int r) = .int r := nzI h
theorem fits_b {r : Int32} (h : b01 r) : fits .boolean (.int r) = true := by
  rcases h with rfl | rfl <;> rfl
theorem rul_some {x n : Int32} {a : Nat → Nat} (hn : n.toInt ≤ 40) (h : rIn x n) : g_Cg_ruleAt x n (ruA (nN n) a) = some (a (nN x)) := by
  unfold g_Cg_ruleAt
  have h0 := h.1
  have h1 := h.2
  have e40 : (40 : Int32).toInt = 40 := by decide
  rw [if_neg (by rw [li_lt, li_0]; omega), if_neg (by rw [li_le]; omega), if_neg (by rw [li_le, e40]; omega)]
  unfold ruA
  rw [if_pos (rIn_lt h)]
theorem rul_none {x n : Int32} {f : Nat → Option Nat} (h : ¬ rIn x n) : g_Cg_ruleAt x n f = none := by
  unfold g_Cg_ruleAt
  split
  · rfl
  · rename_i h1
    split
    · rfl
    · rename_i h2
      exfalso
      apply h
      rw [li_lt, li_0] at h1
      rw [li_le] at h2
      exact ⟨by omega, by omega⟩
theorem ixex {p r n : Int32} (hp : 0 ≤ p.toInt ∧ p.toInt < 50) (hr : rIn r n) (hn : 0 ≤ n.toInt ∧ n.toInt ≤ 40) : vp_in (p * 40 + r) 2000 := by
  have h1 := hr.1
  have h2 := hr.2
  have e40 : (40 : Int32).toInt = 40 := by decide
  have e : (p * 40).toInt = p.toInt * 40 := by rw [li_mul (by rw [e40]; omega) (by rw [e40]; omega), e40]
  have e2 : (p * 40 + r).toInt = p.toInt * 40 + r.toInt := by rw [li_add (by rw [e]; omega) (by rw [e]; omega), e]
  rw [vp_in_iff, e2]; omega
theorem gl_first_lt {p1 : Int32} {f : Nat → Int64} : ∀ (n : Nat) (x : Int32) (nh : Int64), 0 ≤ x.toInt ∧ x.toInt < 20000 → 0 ≤ (gl_first n p1 f x nh).2.1.toInt ∧ (gl_first n p1 f x nh).2.1.toInt < 20000 := by
  intro n
  induction n with
  | zero => intro x nh h; exact h
  | succ n ih =>
    intro x nh h
    rw [gl_first]
    refine pt_i (fun t : Nat × Int32 × Int64 => 0 ≤ t.2.1.toInt ∧ t.2.1.toInt < 20000) (fun _ => h) (fun c => ?_)
    refine pt_i (fun t : Nat × Int32 × Int64 => 0 ≤ t.2.1.toInt ∧ t.2.1.toInt < 20000) (fun _ => ih _ _ (li_so h c)) (fun _ => ?_)
    exact pt_i (fun t : Nat × Int32 × Int64 => 0 ≤ t.2.1.toInt ∧ t.2.1.toInt < 20000) (fun _ => h) (fun _ => ih _ _ (li_s0 h c))
theorem ff_lt {p0 p1 : Int32} {f : Nat → Int64} (h : p0.toInt < 20000) : -1 ≤ (g_Cg_firstFrom p0 p1 f).toInt ∧ (g_Cg_firstFrom p0 p1 f).toInt < 20000 := by
  have hm := li_max h
  have e1 : (-1 : Int32).toInt = -1 := by decide
  have h1 := gl_first_lt (p1 := p1) (f := f) 20001 _ (-1) hm
  have h2 := gl_first_lt (p1 := p1) (f := f) 20001 _ 0 hm
  unfold g_Cg_firstFrom
  with_reducible refine pt_i (fun t : Int32 => -1 ≤ t.toInt ∧ t.toInt < 20000) (fun _ => ?_) (fun _ => ?_)
  · with_reducible refine pt_v (fun t : Int32 => -1 ≤ t.toInt ∧ t.toInt < 20000) ?_
    with_reducible refine pt_i (fun t : Int32 => -1 ≤ t.toInt ∧ t.toInt < 20000) (fun _ => ?_) (fun _ => ?_)
    · rw [e1]; omega
    · omega
  · with_reducible refine pt_v (fun t : Int32 => -1 ≤ t.toInt ∧ t.toInt < 20000) ?_
    with_reducible refine pt_i (fun t : Int32 => -1 ≤ t.toInt ∧ t.toInt < 20000) (fun _ => ?_) (fun _ => ?_)
    · rw [e1]; omega
    · omega
theorem li_b40 {x : Int32} (c1 : ¬ x < 0) (c2 : x < 40) : 0 ≤ x.toInt ∧ x.toInt < 40 := by
  have e : (40 : Int32).toInt = 40 := by decide
  rw [li_lt, li_0] at c1
  rw [li_lt, e] at c2
  omega
theorem in40m {x : Int32} (h : 0 ≤ x.toInt ∧ x.toInt < 40) (c : ¬ x ≤ 0) : vp_in (x - 1) 40 := by
  rw [li_le, li_0] at c
  rw [vp_in_iff, li_dec (by omega) (by omega)]; omega
theorem li_dm {x : Int32} (h : 0 ≤ x.toInt ∧ x.toInt < 40) (c : ¬ x ≤ 0) : 0 ≤ (x + (-1)).toInt ∧ (x + (-1)).toInt < 40 := by
  rw [li_le, li_0] at c
  rw [li_decm (by omega) (by omega)]; omega
theorem li_dmm {x : Int32} {n : Nat} (h : 0 ≤ x.toInt ∧ x.toInt < 40) (c : ¬ x ≤ 0) (hm : x.toInt.toNat + 1 ≤ n + 1) : (x + (-1)).toInt.toNat + 1 ≤ n := by
  rw [li_le, li_0] at c
  rw [li_decm (by omega) (by omega)]; omega
theorem li_s780 {x : Int32} (h : 0 ≤ x.toInt ∧ x.toInt ≤ 780) (c : ¬ (780 : Int32) ≤ x) : 0 ≤ (x + 1).toInt ∧ (x + 1).toInt ≤ 780 := by
  have e : (780 : Int32).toInt = 780 := by decide
  rw [li_le, e] at c
  rw [li_inc (by omega) (by omega)]; omega
theorem li_m780 {x : Int32} {n : Nat} (h : 0 ≤ x.toInt ∧ x.toInt ≤ 780) (c : ¬ (780 : Int32) ≤ x) (hm : 781 - x.toInt.toNat ≤ n + 1) : 781 - (x + 1).toInt.toNat ≤ n := by
  have e : (780 : Int32).toInt = 780 := by decide
  rw [li_le, e] at c
  rw [li_inc (by omega) (by omega)]; omega
theorem li_dayB {d k : Int32} (h : 0 ≤ d.toInt ∧ d.toInt < 10000) (h2 : 0 ≤ k.toInt ∧ k.toInt ≤ 999) : (d + k).toInt < 20000 := (li_day h h2).2

