theorem ix10nz {v : Int32} (hv : 0 ≤ v.toInt ∧ v.toInt ≤ 40) : (10 * v).toNatClampNeg = 10 * v.toNatClampNeg := by
  have e1 : (10 * v).toInt = 10 * v.toInt := by rw [li_mul (by rw [li_10]; omega) (by rw [li_10]; omega), li_10]
  have h1 := cl_nn (x := 10 * v) (by omega)
  have h2 := cl_nn hv.1
  omega
theorem ix40n {p r : Int32} (hp : 0 ≤ p.toInt ∧ p.toInt < 50) (hr : 0 ≤ r.toInt ∧ r.toInt < 40) : ((p * 40) + r).toInt = 40 * p.toInt + r.toInt := by
  have e1 : (p * 40).toInt = 40 * p.toInt := by rw [li_mul (by rw [e40]; omega) (by rw [e40]; omega), e40]; omega
  rw [li_add (by rw [e1]; omega) (by rw [e1]; omega), e1]
theorem lt_m1 {x : Int32} (h : m1 x) : (x < 0) ↔ (x = -1) := by
  have h' : -1 ≤ x.toInt := h
  rw [li_lt, li_0]
  constructor
  · intro q
    exact Int32.toInt_inj.mp (by rw [em1]; omega)
  · intro q
    rw [q, em1]
    omega
theorem fit_pure {a a' b b' c c' : Prop} [Decidable a] [Decidable a'] [Decidable b] [Decidable b'] [Decidable c] [Decidable c'] (E : Int32) : (if a then (if b then (if c then E else if c' then E else 0) else if b' then (if c then E else if c' then E else 0) else 0) else if a' then (if b then (if c then E else if c' then E else 0) else if b' then (if c then E else if c' then E else 0) else 0) else 0) = if (if a then (if b then (if c then 1 else if c' then 1 else 0) else if b' then (if c then 1 else if c' then 1 else 0) else 0) else if a' then (if b then (if c then 1 else if c' then 1 else 0) else if b' then (if c then 1 else if c' then 1 else 0) else 0) else 0 : Int32) = 0 then 0 else E := by
  by_cases h1 : a <;> by_cases h2 : a' <;> by_cases h3 : b <;> by_cases h4 : b' <;> by_cases h5 : c <;> by_cases h6 : c' <;> simp [h1, h2, h3, h4, h5, h6]
theorem isP_r {x : Int32} (h : ¬ g_Mg_isPerson x = 0) : 0 ≤ x.toInt ∧ x.toInt < 50 := by
  have e50 : (50 : Int32).toInt = 50 := by decide
  unfold g_Mg_isPerson at h
  by_cases c1 : x < 0
  · rw [if_pos c1] at h
    exact absurd rfl h
  rw [if_neg c1] at h
  by_cases c2 : 50 ≤ x
  · rw [if_pos c2] at h
    exact absurd rfl h
  rw [li_lt, li_0] at c1
  rw [li_le, e50] at c2
  omega
theorem exc_eq {p0 x : Int32} {d : Nat} {cex ex : Nat → Int32} (hp : 0 ≤ p0.toInt ∧ p0.toInt < 50) (hx : 0 ≤ x.toInt ∧ x.toInt < 40) (hd : d < 10000) (h : RX cex ex) : (if nI d < ex ((40 * p0) + x).toNatClampNeg then (0 : Int32) else 1) = if g_Cg_isExcepted p0 x (nI d) cex = 0 then 1 else 0 := by
  have e2000 : (2000 : Int32).toInt = 2000 := by decide
  have ei := ix40n hp hx
  have hi := cl_nn (x := (p0 * 40) + x) (by omega)
  rw [Int32.mul_comm 40 p0]
  have eI : g_Cg_isExcepted p0 x (nI d) cex = if cex ((p0 * 40) + x).toNatClampNeg < nI d then 0 else 1 := by
    unfold g_Cg_isExcepted
    rw [if_neg (by rw [li_lt, li_0]; omega), if_neg (by rw [li_le, e2000]; omega)]
  rw [eI]
  have hr := h ((p0 * 40) + x).toNatClampNeg (by omega) d (by omega) (by omega)
  by_cases c : nI d < ex ((p0 * 40) + x).toNatClampNeg
  · rw [if_pos c]
    rw [li_lt, nI_toInt (by omega)] at c
    have h3 := hr.mp c
    have c' : ¬ cex ((p0 * 40) + x).toNatClampNeg < nI d := by rw [li_lt, nI_toInt (by omega)]; omega
    rw [if_neg c']
    rfl
  · rw [if_neg c]
    rw [li_lt, nI_toInt (by omega)] at c
    have h3 := mt hr.mpr c
    have c' : cex ((p0 * 40) + x).toNatClampNeg < nI d := by rw [li_lt, nI_toInt (by omega)]; omega
    rw [if_pos c']
    rfl
theorem fit_eq {w_nr v_n p0 p1 : Int32} {F : Nat → Nat → Int32} {R me le ki ty cex ex : Nat → Int32} {r d : Nat} (hvn : 0 ≤ v_n.toInt ∧ v_n.toInt ≤ 40) (hU : RU w_nr v_n F R me le) (hX : RX cex ex) (hp : ¬ g_Mg_isPerson p0 = 0) (hp1 : ¬ g_Mg_isPerson p1 = 0) (hd : d < 10000) (hr : r < nN v_n) : g_Mg_fitsFor (nI r) p0 p1 (nI d) R ki ty ex = if g_Cg_fits p0 p1 ki ty (F 0 r) (F 1 r) (F 2 r) = 0 then 0 else (if g_Cg_isExcepted p0 (nI r) (nI d) cex = 0 then 1 else 0) := by
  have an : ((nN v_n : Nat) : Int) = v_n.toInt := cl_nn hvn.1
  have er : (nI r).toInt = r := nI_toInt (by omega)
  have ec : (nI r).toNatClampNeg = r := nI_clamp (by omega)
  have i0 : (10 * nI r).toNatClampNeg = 10 * r + 0 := by rw [ix10nz (by omega), ec] <;> rfl
  have i1 : ((10 * nI r) + 1).toNatClampNeg = 10 * r + 1 := by rw [ix10n (by omega) (by decide), ec]; rfl
  have i2 : ((10 * nI r) + 2).toNatClampNeg = 10 * r + 2 := by rw [ix10n (by omega) (by decide), ec]; rfl
  obtain ⟨-, h2, -, -, -, h6⟩ := hU
  obtain ⟨f0, f1, f2, -, -⟩ := h6 r hr
  unfold g_Mg_fitsFor g_Cg_fits
  rw [eq_isP, eq_isI, if_neg hp, if_neg hp1, i0, i1, i2, ← h2 r hr 0 (by omega), ← h2 r hr 1 (by omega), ← h2 r hr 2 (by omega), exc_eq (isP_r hp) (by omega) hd hX]
  simp only [lt_m1 f0, lt_m1 f1, lt_m1 f2]
  exact fit_pure _
section GF
variable {w_nr v_n : Int32} {F : Nat → Nat → Int32} {R me le : Nat → Int32}
theorem rank_eq (hvn : 0 ≤ v_n.toInt ∧ v_n.toInt ≤ 40) (hU : RU w_nr v_n F R me le) {x : Int32} (hx : rIn x v_n) : g_Cg_rankOf x w_nr F = R ((10 * x) + 8).toNatClampNeg := by
  have e : w_nr = v_n := hU.1
  have a0 := cl_nn hx.1
  have a1 := cl_nn hvn.1
  have hx1 := hx.2
  unfold g_Cg_rankOf
  rw [e, if_pos hx, ix10n (by omega) (by decide)]
  exact hU.2.1 (nN x) (by show x.toNatClampNeg < v_n.toNatClampNeg; omega) 8 (by omega)
theorem ins_eq (hvn : 0 ≤ v_n.toInt ∧ v_n.toInt ≤ 40) (hU : RU w_nr v_n F R me le) {x : Int32} (hx : rIn x v_n) : ∀ (n : Nat) (k : Int32) (fj : Nat → Int32), 0 ≤ k.toInt ∧ k.toInt ≤ 40 → (∀ j : Nat, (j : Int) < k.toInt → rIn (fj j) v_n) → gl_cins n (F 8 (nN x)) w_nr F k fj = gl_ins n R x k fj := by
  have e : w_nr = v_n := hU.1
  have e8 : F 8 (nN x) = R ((10 * x) + 8).toNatClampNeg := by
    have q := rank_eq hvn hU hx
    unfold g_Cg_rankOf at q
    rw [e, if_pos hx] at q
    exact q
  intro n
  induction n with
  | zero => intro k fj _ _; rfl
  | succ n ih =>
    intro k fj hk hf
    rw [gl_cins, gl_ins]
    by_cases c : k ≤ 0
    · rw [if_pos c, if_pos c]
    rw [if_neg c, if_neg c]
    rw [li_le, li_0] at c
    have e1 : (k - 1).toInt = k.toInt - 1 := li_dec (by omega) (by omega)
    have e1' : (k + (-1)).toInt = k.toInt - 1 := li_decm (by omega) (by omega)
    have a1 := cl_nn (x := k - 1) (by omega)
    have a2 := cl_nn (x := k) (by omega)
    rw [rank_eq hvn hU (hf (k - 1).toNatClampNeg (by omega)), e8]
    by_cases c2 : R ((10 * x) + 8).toNatClampNeg ≤ R ((10 * fj (k - 1).toNatClampNeg) + 8).toNatClampNeg
    · rw [if_pos c2, if_pos c2]
    · rw [if_neg c2, if_neg c2, ← e8]
      refine ih _ _ (by omega) (fun j hj => ?_)
      rw [ud_get, if_neg (by omega)]
      exact hf j (by omega)
theorem ins_pr {P : Int32 → Prop} {x : Int32} {nf : Nat} (hnf : nf ≤ 40) : ∀ (n k : Nat) (fj : Nat → Int32), k ≤ nf → (∀ j, j ≤ nf → j ≠ k → P (fj j)) → ∃ (k' : Nat) (fj' : Nat → Int32), gl_ins n R x (nI k) fj = (nI k', fj') ∧ k' ≤ nf ∧ ∀ j, j ≤ nf → j ≠ k' → P (fj' j) := by
  intro n
  induction n with
  | zero => intro k fj hk h; exact ⟨k, fj, rfl, hk, h⟩
  | succ n ih =>
    intro k fj hk h
    rw [gl_ins]
    by_cases c : nI k ≤ 0
    · rw [if_pos c]
      exact ⟨k, fj, rfl, hk, h⟩
    rw [if_neg c]
    rw [li_le, li_0, nI_toInt (by omega)] at c
    by_cases c2 : R ((10 * x) + 8).toNatClampNeg ≤ R ((10 * fj (nI k - 1).toNatClampNeg) + 8).toNatClampNeg
    · rw [if_pos c2]
      exact ⟨k, fj, rfl, hk, h⟩
    rw [if_neg c2]
    obtain ⟨k, rfl⟩ : ∃ q, k = q + 1 := ⟨k - 1, by omega⟩
    have e1 : nI (k + 1) - 1 = nI k := nI_pred k
    have e2 : nI (k + 1) + (-1) = nI k := by
      rw [← e1, Int32.sub_eq_add_neg]
    rw [e1, e2, nI_clamp (by omega), nI_clamp (by omega)]
    refine ih k _ (by omega) (fun j hj hjk => ?_)
    rw [ud_get]
    by_cases q : j = k + 1
    · rw [if_pos q]
      exact h k (by omega) (by omega)
    · rw [if_neg q]
      exact h j hj q
theorem gat_eq {p0 p1 : Int32} {ki ty cex ex : Nat → Int32} {d : Nat} (hvn : 0 ≤ v_n.toInt ∧ v_n.toInt ≤ 40) (hU : RU w_nr v_n F R me le) (hX : RX cex ex) (hp : ¬ g_Mg_isPerson p0 = 0) (hp1 : ¬ g_Mg_isPerson p1 = 0) (hd : d < 10000) : ∀ (m q q' r nf : Nat) (fi : Nat → Int32), r + m = 40 → m < q → nN v_n < q' + r → nf ≤ r → (∀ j, j < nf → rIn (fi j) v_n) → ∃ (nf' : Nat) (fi' : Nat → Int32), (gl_cgat q p0 p1 (nI d) w_nr ki ty cex F (nI r) (nI nf) fi).2 = (nI nf', fi') ∧ (gl_find q' p0 p1 (nI d) v_n R ki ty ex (nI r) (nI nf) fi).2 = (nI nf', fi') ∧ nf' ≤ 40 ∧ ∀ j, j < nf' → rIn (fi' j) v_n := by
  have an : ((nN v_n : Nat) : Int) = v_n.toInt := cl_nn hvn.1
  have e : w_nr = v_n := hU.1
  intro m
  induction m with
  | zero =>
    intro q q' r nf fi hr hq hq' hnf hf
    obtain ⟨q, rfl⟩ : ∃ z, q = z + 1 := ⟨q - 1, by omega⟩
    refine ⟨nf, fi, ?_, ?_, by omega, hf⟩
    · rw [gl_cgat, if_pos (by rw [li_le, e40, nI_toInt (by omega)]; omega)]
    · cases q' with
      | zero => rfl
      | succ q' => rw [gl_find, if_pos (by rw [li_le, nI_toInt (by omega)]; omega)]
  | succ m ih =>
    intro q q' r nf fi hr hq hq' hnf hf
    obtain ⟨q, rfl⟩ : ∃ z, q = z + 1 := ⟨q - 1, by omega⟩
    have er : (nI r).toInt = r := nI_toInt (by omega)
    rw [gl_cgat, if_neg (by rw [li_le, e40, er]; omega)]
    by_cases c : r < nN v_n
    · obtain ⟨q', rfl⟩ : ∃ z, q' = z + 1 := ⟨q' - 1, by omega⟩
      have hi : rIn (nI r) v_n := ⟨by rw [er]; omega, by rw [er]; omega⟩
      have hi' : rIn (nI r) w_nr := by rw [e]; exact hi
      have en : nN (nI r) = r := nI_clamp (by omega)
      have cn : ¬ v_n ≤ nI r := by rw [li_le, er]; omega
      rw [if_pos hi', en, gl_find, if_neg cn, fit_eq hvn hU hX hp hp1 hd c]
      by_cases c2 : g_Cg_fits p0 p1 ki ty (F 0 r) (F 1 r) (F 2 r) = 0
      · rw [if_pos c2, if_pos c2, if_pos rfl, nI_1]
        exact ih q q' (r + 1) nf fi (by omega) (by omega) (by omega) (by omega) hf
      · rw [if_neg c2, if_neg c2]
        by_cases c3 : g_Cg_isExcepted p0 (nI r) (nI d) cex = 0
        · rw [if_pos c3, if_pos c3, if_neg (by decide)]
          have hins := ins_eq hvn hU hi 41 (nI nf) fi (by rw [nI_toInt (by omega)]; omega) (fun j hj => hf j (by rw [nI_toInt (by omega)] at hj; omega))
          rw [en] at hins
          obtain ⟨k', fj', g1, g2, g3⟩ := ins_pr (R := R) (P := fun z => rIn z v_n) (x := nI r) (nf := nf) (by omega) 41 nf fi (Nat.le_refl _) (fun j hj hjk => hf j (by omega))
          have eC : g_Cg_insertByRank (nI r) (F 8 r) w_nr (nI nf) fi F = (nI (nf + 1), upd fj' k' (nI r)) := by
            unfold g_Cg_insertByRank
            rw [if_neg (nI_pos (by omega)), if_pos (by rw [li_lt, e40, nI_toInt (by omega)]; omega), hins, g1, bv_eq, nI_1]
            show (nI (nf + 1), upd fj' (nI k').toNatClampNeg (nI r)) = _
            rw [nI_clamp (by omega)]
          rw [eC, bv_eq, g1, bv_eq, nI_1, nI_1]
          show ∃ (nf' : Nat) (fi' : Nat → Int32), (gl_cgat q p0 p1 (nI d) w_nr ki ty cex F (nI (r + 1)) (nI (nf + 1)) (upd fj' k' (nI r))).2 = (nI nf', fi') ∧ (gl_find q' p0 p1 (nI d) v_n R ki ty ex (nI (r + 1)) (nI (nf + 1)) (upd fj' (nI k').toNatClampNeg (nI r))).2 = (nI nf', fi') ∧ nf' ≤ 40 ∧ ∀ j, j < nf' → rIn (fi' j) v_n
          rw [nI_clamp (by omega)]
          refine ih q q' (r + 1) (nf + 1) _ (by omega) (by omega) (by omega) (by omega) (fun j hj => ?_)
          rw [ud_get]
          by_cases z : j = k'
          · rw [if_pos z]
            exact hi
          · rw [if_neg z]
            exact g3 j (by omega) z
        · rw [if_neg c3, if_neg c3, if_pos rfl, nI_1]
          exact ih q q' (r + 1) nf fi (by omega) (by omega) (by omega) (by omega) hf
    · have hi' : ¬ rIn (nI r) w_nr := fun z => by
        rw [e] at z
        have := z.2
        rw [er] at this
        omega
      rw [if_neg hi', nI_1]
      have e2 : ∀ q'' r' : Nat, r ≤ r' → r' < 100 → (gl_find q'' p0 p1 (nI d) v_n R ki ty ex (nI r') (nI nf) fi).2 = (nI nf, fi) := by
        intro q'' r' h1 h2
        cases q'' with
        | zero => rfl
        | succ q'' => rw [gl_find, if_pos (by rw [li_le, nI_toInt (by omega)]; omega)]
      obtain ⟨nf', fi', z1, z2, z3, z4⟩ := ih q 0 (r + 1) nf fi (by omega) (by omega) (by omega) (by omega) hf
      refine ⟨nf', fi', z1, ?_, z3, z4⟩
      rw [e2 q' r (Nat.le_refl _) (by omega), ← e2 0 (r + 1) (by omega) (by omega)]
      exact z2
theorem gather_eq {p0 p1 : Int32} {ki ty cex ex fi : Nat → Int32} {d : Nat} (hvn : 0 ≤ v_n.toInt ∧ v_n.toInt ≤ 40) (hU : RU w_nr v_n F R me le) (hX : RX cex ex) (hp : ¬ g_Mg_isPerson p0 = 0) (hp1 : ¬ g_Mg_isPerson p1 = 0) (hd : d < 10000) : ∃ (nf' : Nat) (fi' : Nat → Int32), g_Cg_gatherFitting p0 p1 (nI d) w_nr ki ty cex fi F = (nI nf', fi') ∧ g_Mg_find p0 p1 (nI d) v_n R ki ty ex fi = (nI nf', fi') ∧ nf' ≤ 40 ∧ ∀ j, j < nf' → rIn (fi' j) v_n := by
  have an : ((nN v_n : Nat) : Int) = v_n.toInt := cl_nn hvn.1
  obtain ⟨nf', fi', z1, z2, z3, z4⟩ := gat_eq hvn hU hX hp hp1 hd 40 41 41 0 0 fi (by omega) (by omega) (by omega) (by omega) (fun j hj => by omega)
  refine ⟨nf', fi', ?_, ?_, z3, z4⟩
  · unfold g_Cg_gatherFitting
    rw [bv_eq]
    exact z1
  · unfold g_Mg_find
    rw [bv_eq]
    exact z2
end GF
theorem cl_eq {w_nf w_nc : Int32} {fi ccl cz : Nat → Int32} {a b : Int32} (ha : v40 a) (hb : v40 b) (hnc : 0 ≤ w_nc.toInt ∧ w_nc.toInt ≤ 779) (h : ∀ i : Nat, (i : Int) < w_nc.toInt → v40 (cz (2 * i)) ∧ v40 (cz (2 * i + 1)) ∧ ccl i = (cz (2 * i) * 40) + cz (2 * i + 1)) (e0 : g_Cg_fittingAt 0 w_nf fi = a) (e1 : g_Cg_fittingAt 1 w_nf fi = b) (f0 : fi (0 : Int32).toNatClampNeg = a) (f1 : fi (1 : Int32).toNatClampNeg = b) : ∀ (m q q' k : Nat), k + m = nN w_nc → m < q → m < q' → ((gl_cncl q w_nf w_nc fi ccl (nI k)).1 = 0 ↔ (gl_clashes q' w_nc fi cz (nI k)).1 = 0) := by
  have an : ((nN w_nc : Nat) : Int) = w_nc.toInt := cl_nn hnc.1
  have e780 : (780 : Int32).toInt = 780 := by decide
  intro m
  induction m with
  | zero =>
    intro q q' k hk hq hq'
    obtain ⟨q, rfl⟩ : ∃ z, q = z + 1 := ⟨q - 1, by omega⟩
    obtain ⟨q', rfl⟩ : ∃ z, q' = z + 1 := ⟨q' - 1, by omega⟩
    have c : w_nc ≤ nI k := by rw [li_le, nI_toInt (by omega)]; omega
    rw [gl_cncl, gl_clashes, if_pos c, if_pos c]
  | succ m ih =>
    intro q q' k hk hq hq'
    obtain ⟨q, rfl⟩ : ∃ z, q = z + 1 := ⟨q - 1, by omega⟩
    obtain ⟨q', rfl⟩ : ∃ z, q' = z + 1 := ⟨q' - 1, by omega⟩
    have ek : (nI k).toInt = k := nI_toInt (by omega)
    have ec : (nI k).toNatClampNeg = k := nI_clamp (by omega)
    have c : ¬ w_nc ≤ nI k := by rw [li_le, ek]; omega
    have j0 : (2 * nI k).toNatClampNeg = 2 * k := by rw [ix2nz (by omega), ec]
    have j1 : ((2 * nI k) + 1).toNatClampNeg = 2 * k + 1 := by rw [ix2n (by omega) (by decide), ec]; rfl
    obtain ⟨q1, q2, q3⟩ := h k (by omega)
    rw [gl_cncl, gl_clashes, if_neg c, if_neg c, if_neg (by rw [li_le, e780, ek]; omega), e0, e1, f0, f1, ec, j0, j1, q3, nI_1]
    have hp := pair_i q1 q2 ha hb
    by_cases z1 : cz (2 * k) = a
    · by_cases z2 : cz (2 * k + 1) = b
      · rw [if_pos (hp.mpr ⟨z1, z2⟩), if_pos z1, if_pos z2]
      · rw [if_neg (fun q => z2 (hp.mp q).2), if_pos z1, if_neg z2]
        exact ih q q' (k + 1) (by omega) (by omega) (by omega)
    · rw [if_neg (fun q => z1 (hp.mp q).1), if_neg z1]
      exact ih q q' (k + 1) (by omega) (by omega) (by omega)
theorem clash_ok {w_nr v_n w_nc v_nc : Int32} {F : Nat → Nat → Int32} {R me le ccl cz fi : Nat → Int32} {nf : Nat} (hvn : 0 ≤ v_n.toInt ∧ v_n.toInt ≤ 40) (hU : RU w_nr v_n F R me le) (hnc : 0 ≤ v_nc.toInt ∧ v_nc.toInt ≤ 700) (h : RCl w_nc v_nc ccl cz) (hnf : nf ≤ 40) (hf : ∀ j, j < nf → rIn (fi j) v_n) : RCl (g_Cg_noteClash w_nr (nI nf) w_nc fi ccl F).1 (g_Mg_clashes (nI nf) v_nc R fi cz).1 (g_Cg_noteClash w_nr (nI nf) w_nc fi ccl F).2 (g_Mg_clashes (nI nf) v_nc R fi cz).2 := by
  obtain ⟨h1, h2⟩ := h
  subst h1
  have an : ((nN w_nc : Nat) : Int) = w_nc.toInt := cl_nn hnc.1
  have l2 : (2 : Int32).toInt = 2 := by decide
  have e780 : (780 : Int32).toInt = 780 := by decide
  have en : (nI nf).toInt = nf := nI_toInt (by omega)
  unfold g_Cg_noteClash g_Mg_clashes
  by_cases c : nI nf < 2
  · have ef : g_Cg_fittingAt 1 (nI nf) fi = -1 := by
      unfold g_Cg_fittingAt
      rw [li_lt, l2, en] at c
      rw [if_neg (by decide), if_pos (by rw [li_le, en, li_1]; omega)]
    rw [if_pos c, if_pos ef]
    exact ⟨rfl, h2⟩
  · have c' : 2 ≤ nf := by
      rw [li_lt, l2, en] at c
      omega
    have r0 := hf 0 (by omega)
    have r1 := hf 1 (by omega)
    have e0 : g_Cg_fittingAt 0 (nI nf) fi = fi 0 := by
      unfold g_Cg_fittingAt
      rw [if_neg (by decide), if_neg (by rw [li_le, en, li_0]; omega), if_neg (by decide)]
      rfl
    have e1 : g_Cg_fittingAt 1 (nI nf) fi = fi 1 := by
      unfold g_Cg_fittingAt
      rw [if_neg (by decide), if_neg (by rw [li_le, en, li_1]; omega), if_neg (by decide)]
      rfl
    have a1 : v40 (fi 1) := ⟨r1.1, by have := r1.2; omega⟩
    have a0 : v40 (fi 0) := ⟨r0.1, by have := r0.2; omega⟩
    have n1 : ¬ fi 1 = -1 := fun q => by have := a1.1; rw [q, em1] at this; omega
    have z0 : fi (0 : Int32).toNatClampNeg = fi 0 := rfl
    have z1 : fi (1 : Int32).toNatClampNeg = fi 1 := rfl
    have hq := cl_eq (ccl := ccl) a0 a1 (by omega) h2 e0 e1 z0 z1 (nN w_nc) 782 801 0 (by omega) (by omega) (by omega)
    have hq' : (gl_cncl 782 (nI nf) w_nc fi ccl 0).1 = 0 ↔ (gl_clashes 801 w_nc fi cz 0).1 = 0 := hq
    rw [if_neg c, e0, e1, if_neg n1, rank_eq hvn hU r0, rank_eq hvn hU r1, z0, z1]
    by_cases c2 : R ((10 * fi 0) + 8).toNatClampNeg = R ((10 * fi 1) + 8).toNatClampNeg
    · rw [if_pos c2, if_pos c2, bv_eq, bv_eq]
      by_cases c3 : (gl_clashes 801 w_nc fi cz 0).1 = 0
      · rw [if_pos c3, if_pos (hq'.mpr c3), if_neg (by rw [li_le, e780]; omega)]
        have ew : w_nc.toNatClampNeg = nN w_nc := rfl
        have j0 : (2 * w_nc).toNatClampNeg = 2 * nN w_nc := ix2nz (by omega)
        have j1 : ((2 * w_nc) + 1).toNatClampNeg = 2 * nN w_nc + 1 := ix2n (by omega) (by decide)
        have e3 : (w_nc + 1).toInt = w_nc.toInt + 1 := li_inc (by omega) (by omega)
        rw [j0, j1]
        refine ⟨rfl, fun i hi => ?_⟩
        have hi2 : (i : Int) < (w_nc + 1).toInt := hi
        show v40 (upd (upd cz (2 * nN w_nc) (fi 0)) (2 * nN w_nc + 1) (fi 1) (2 * i)) ∧ v40 (upd (upd cz (2 * nN w_nc) (fi 0)) (2 * nN w_nc + 1) (fi 1) (2 * i + 1)) ∧ upd ccl (nN w_nc) ((fi 0 * 40) + fi 1) i = (upd (upd cz (2 * nN w_nc) (fi 0)) (2 * nN w_nc + 1) (fi 1) (2 * i) * 40) + upd (upd cz (2 * nN w_nc) (fi 0)) (2 * nN w_nc + 1) (fi 1) (2 * i + 1)
        simp only [ud_get]
        by_cases z : i = nN w_nc
        · rw [if_neg (by omega), if_pos (by omega), if_pos (by omega), if_pos z]
          exact ⟨a0, a1, rfl⟩
        · rw [if_neg (by omega), if_neg (by omega), if_neg (by omega), if_neg (by omega), if_neg z]
          exact h2 i (by omega)
      · rw [if_neg c3, if_neg (mt hq'.mp c3)]
        exact ⟨rfl, h2⟩
    · rw [if_neg c2, if_neg c2]
      exact ⟨rfl, h2⟩

