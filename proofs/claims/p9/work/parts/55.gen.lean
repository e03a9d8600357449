def RX (cex ex : Nat → Int32) : Prop := ∀ i, i < 2000 → ∀ d : Int, 0 ≤ d → d < 10000 → (d < (ex i).toInt ↔ d ≤ (cex i).toInt)
theorem rx_ex {p0 p1 p2 n : Int32} {f g : Nat → Int32} (h : RX f g) : RX (g_Cg_except p0 p1 p2 n f).2 (g_Mg_except p0 p1 p2 n g).2.2 := by
  unfold g_Cg_except g_Mg_except
  rw [eq_isP]
  by_cases c1 : g_Mg_isPerson p0 = 0
  · rw [if_pos c1, if_pos c1]
    exact h
  rw [if_neg c1, if_neg c1]
  by_cases c2 : g_Mg_isRule p1 n = 0
  · rw [if_pos c2, if_neg (fun q => rin_is.mp q c2)]
    exact h
  rw [if_neg c2, if_pos (rin_is.mpr c2), Int32.mul_comm 40 p0]
  have key : ∀ z : Int32, (∀ d : Int, 0 ≤ d → d < 10000 → (d < z.toInt ↔ d ≤ p2.toInt)) → RX (upd f ((p0 * 40) + p1).toNatClampNeg p2) (upd g ((p0 * 40) + p1).toNatClampNeg z) := by
    intro z hz i hi d h0 h1
    rw [ud_get, ud_get]
    by_cases q : i = ((p0 * 40) + p1).toNatClampNeg
    · rw [if_pos q, if_pos q]
      exact hz d h0 h1
    · rw [if_neg q, if_neg q]
      exact h i hi d h0 h1
  have e9 : (9999 : Int32).toInt = 9999 := by decide
  by_cases c3 : 0 ≤ p2
  · rw [if_pos c3]
    rw [li_le, li_0] at c3
    by_cases c4 : p2 ≤ 9999
    · rw [if_pos c4]
      rw [li_le, e9] at c4
      refine key _ (fun d h0 h1 => ?_)
      rw [li_inc (by omega) (by omega)]
      omega
    · rw [if_neg c4]
      rw [li_le, e9] at c4
      refine key _ (fun d h0 h1 => ?_)
      rw [li_10000]
      omega
  · rw [if_neg c3]
    rw [li_le, li_0] at c3
    refine key _ (fun d h0 h1 => ?_)
    rw [li_0]
    omega
def RTb (cki ki cty ty cca bl : Nat → Int32) : Prop := cki = ki ∧ cty = ty ∧ cca = bl ∧ ∀ j, 0 ≤ (bl j).toInt ∧ (bl j).toInt ≤ 9
theorem re_row {x y z : Int32} {f1 f2 : Nat → Int32} : (g_Cg_row x y z f1 f2).2 = (g_Mg_row x y z f1 f2).2.2 := by
  unfold g_Cg_row g_Mg_row
  rw [eq_isP, eq_isI]
  by_cases cz : z < 0
  · rw [if_pos cz]
    by_cases a1 : x < 0
    · rw [if_pos a1]
    rw [if_neg a1]
    by_cases a2 : 1 < x
    · rw [if_pos a2]
    rw [if_neg a2]
    by_cases a3 : g_Mg_isPerson y = 0
    · rw [if_pos a3]
    rw [if_neg a3, if_pos cz]
  rw [if_neg cz]
  by_cases cz2 : z ≤ 9
  · rw [if_pos cz2]
    rcases row_at x with e | e | ⟨e1, e2, e3⟩
    · subst e
      rw [if_pos rfl, if_neg (show ¬ (0 : Int32) < 0 by decide), if_neg (show ¬ (1 : Int32) < 0 by decide)]
      by_cases a3 : g_Mg_isPerson y = 0
      · rw [if_pos a3, if_neg (show ¬ (0 : Int32) = 1 by decide), if_pos a3]
      · rw [if_neg a3, if_neg a3, if_neg cz, if_pos cz2, if_pos rfl]
    · subst e
      rw [if_neg (show ¬ (1 : Int32) = 0 by decide), if_pos rfl, if_neg (show ¬ (1 : Int32) < 0 by decide), if_neg (show ¬ (1 : Int32) < 1 by decide)]
      by_cases a3 : g_Mg_isPerson y = 0
      · rw [if_pos a3, if_pos a3]
      · rw [if_neg a3, if_neg a3, if_neg cz, if_pos cz2, if_neg (show ¬ (1 : Int32) = 0 by decide)]
    · rw [if_neg e1, if_neg e2]
      by_cases a1 : x < 0
      · rw [if_pos a1]
      rw [if_neg a1, if_pos (e3.resolve_left a1)]
  · rw [if_neg cz2]
    by_cases a1 : x < 0
    · rw [if_pos a1]
    rw [if_neg a1]
    by_cases a2 : 1 < x
    · rw [if_pos a2]
    rw [if_neg a2]
    by_cases a3 : g_Mg_isPerson y = 0
    · rw [if_pos a3]
    rw [if_neg a3, if_neg cz, if_neg cz2]
theorem rt_row {x y z : Int32} {cki ki cty ty cca bl : Nat → Int32} (h : RTb cki ki cty ty cca bl) : RTb (g_Cg_row x y z cki cty).2.1 (g_Mg_row x y z ki ty).2.2.1 (g_Cg_row x y z cki cty).2.2 (g_Mg_row x y z ki ty).2.2.2 cca bl := by
  obtain ⟨h1, h2, h3, h4⟩ := h
  subst h1 h2
  have e := re_row (x := x) (y := y) (z := z) (f1 := cki) (f2 := cty)
  exact ⟨congrArg Prod.fst e, congrArg Prod.snd e, h3, h4⟩
theorem rt_block {p0 p1 : Int32} {cki ki cty ty cca bl : Nat → Int32} (h : RTb cki ki cty ty cca bl) : RTb cki ki cty ty (g_Cg_block p0 p1 cca).2 (g_Mg_block p0 p1 bl).2.2 := by
  obtain ⟨h1, h2, h3, h4⟩ := h
  subst h3
  have e9 : (9 : Int32).toInt = 9 := by decide
  unfold g_Cg_block g_Mg_block
  rw [eq_isP]
  by_cases c1 : g_Mg_isPerson p0 = 0
  · rw [if_pos c1, if_pos c1]
    exact ⟨h1, h2, rfl, h4⟩
  rw [if_neg c1, if_neg c1]
  by_cases c2 : p1 < 0
  · rw [if_pos c2, if_pos c2]
    exact ⟨h1, h2, rfl, h4⟩
  rw [if_neg c2, if_neg c2]
  by_cases c3 : p1 ≤ 9
  · rw [if_pos c3, if_pos c3]
    refine ⟨h1, h2, rfl, fun j => ?_⟩
    show 0 ≤ (upd cca p0.toNatClampNeg p1 j).toInt ∧ (upd cca p0.toNatClampNeg p1 j).toInt ≤ 9
    rw [ud_get]
    by_cases q : j = p0.toNatClampNeg
    · rw [if_pos q]
      rw [li_lt, li_0] at c2
      rw [li_le, e9] at c3
      omega
    · rw [if_neg q]
      exact h4 j
  · rw [if_neg c3, if_neg c3]
    exact ⟨h1, h2, rfl, h4⟩
def RG (w_nf v_nf v_n : Int32) (cfi fi : Nat → Int32) : Prop := w_nf = v_nf ∧ cfi = fi ∧ ∀ j : Nat, (j : Int) < v_nf.toInt → rIn (fi j) v_n
def RCl (w_nc v_nc : Int32) (ccl cz : Nat → Int32) : Prop := w_nc = v_nc ∧ ∀ i : Nat, (i : Int) < v_nc.toInt → v40 (cz (2 * i)) ∧ v40 (cz (2 * i + 1)) ∧ ccl i = (cz (2 * i) * 40) + cz (2 * i + 1)
theorem eq_explG {p0 w_nf v_nf v_n : Int32} {cfi fi : Nat → Int32} (hnf : 0 ≤ v_nf.toInt ∧ v_nf.toInt ≤ 40) (h : RG w_nf v_nf v_n cfi fi) : g_Cg_fittingAt p0 w_nf cfi = (g_Mg_explain p0 v_nf fi).1 := by
  obtain ⟨h1, h2, h3⟩ := h
  subst h1 h2
  unfold g_Cg_fittingAt g_Mg_explain
  by_cases c1 : p0 < 0
  · rw [if_pos c1, if_pos c1]
  rw [if_neg c1, if_neg c1]
  by_cases c2 : p0 < w_nf
  · rw [if_pos c2]
    rw [li_lt] at c2
    rw [if_neg (by rw [li_le]; omega), if_neg (by rw [li_le, e40]; omega)]
  · rw [if_neg c2]
    rw [li_lt] at c2
    rw [if_pos (by rw [li_le]; omega)]
theorem ix2n {x c : Int32} (hx : 0 ≤ x.toInt ∧ x.toInt ≤ 799) (hc : 0 ≤ c.toInt ∧ c.toInt ≤ 1) : ((2 * x) + c).toNatClampNeg = 2 * x.toNatClampNeg + c.toNatClampNeg := by
  have l2 : (2 : Int32).toInt = 2 := by decide
  have e1 : (2 * x).toInt = 2 * x.toInt := by rw [li_mul (by rw [l2]; omega) (by rw [l2]; omega), l2]
  have e2 : ((2 * x) + c).toInt = 2 * x.toInt + c.toInt := by rw [li_add (by rw [e1]; omega) (by rw [e1]; omega), e1]
  have h1 := cl_nn (x := (2 * x) + c) (by omega)
  have h2 := cl_nn hx.1
  have h3 := cl_nn hc.1
  omega
theorem ix2nz {x : Int32} (hx : 0 ≤ x.toInt ∧ x.toInt ≤ 799) : (2 * x).toNatClampNeg = 2 * x.toNatClampNeg := by
  have l2 : (2 : Int32).toInt = 2 := by decide
  have e1 : (2 * x).toInt = 2 * x.toInt := by rw [li_mul (by rw [l2]; omega) (by rw [l2]; omega), l2]
  have h1 := cl_nn (x := 2 * x) (by omega)
  have h2 := cl_nn hx.1
  omega
theorem pair_n {a b : Int32} (ha : v40 a) (hb : v40 b) : ∃ i j : Nat, i < 40 ∧ j < 40 ∧ a = nI i ∧ b = nI j ∧ (a * 40) + b = nI (40 * i + j) := by
  obtain ⟨i, hi, ei⟩ := nI_of (x := a) (by rw [li_lt, li_0]; have := ha.1; omega)
  obtain ⟨j, hj, ej⟩ := nI_of (x := b) (by rw [li_lt, li_0]; have := hb.1; omega)
  have a2 := ha.2
  have b2 := hb.2
  rw [ei, nI_toInt hi] at a2
  rw [ej, nI_toInt hj] at b2
  refine ⟨i, j, by omega, by omega, ei, ej, ?_⟩
  apply Int32.toInt_inj.mp
  have e1 : (a * 40).toInt = 40 * i := by rw [li_mul (by rw [ei, nI_toInt hi, e40]; omega) (by rw [ei, nI_toInt hi, e40]; omega), ei, nI_toInt hi, e40]; omega
  have e2 : b.toInt = j := by rw [ej, nI_toInt hj]
  rw [li_add (by rw [e1, e2]; omega) (by rw [e1, e2]; omega), e1, e2, nI_toInt (by omega)]
  omega
theorem pair_q {a b : Int32} (ha : v40 a) (hb : v40 b) : ((a * 40) + b) / 40 = a ∧ ((a * 40) + b) - ((a * 40) + b) / 40 * 40 = b := by
  obtain ⟨i, j, hi, hj, ei, ej, e⟩ := pair_n ha hb
  have d1 : (nI (40 * i + j) / 40 : Int32) = nI ((40 * i + j) / 40) := pk_div (d := 40) (by omega) (by omega) (by omega)
  have d2 : (nI (40 * i + j) - nI (40 * i + j) / 40 * 40 : Int32) = nI ((40 * i + j) % 40) := pk_rem (d := 40) (by omega) (by omega) (by omega)
  rw [e, d2, d1, ei, ej]
  refine ⟨?_, ?_⟩
  · congr 1
    omega
  · congr 1
    omega
theorem pair_i {a b a' b' : Int32} (ha : v40 a) (hb : v40 b) (ha' : v40 a') (hb' : v40 b') : ((a * 40) + b = (a' * 40) + b') ↔ (a = a' ∧ b = b') := by
  constructor
  · intro e
    have q := pair_q ha hb
    have q' := pair_q ha' hb'
    rw [e] at q
    exact ⟨q.1.symm.trans q'.1, q.2.symm.trans q'.2⟩
  · intro e
    rw [e.1, e.2]
theorem eq_clashG {p0 p1 w_nc v_nc : Int32} {ccl cz : Nat → Int32} (hnc : 0 ≤ v_nc.toInt ∧ v_nc.toInt ≤ 779) (h : RCl w_nc v_nc ccl cz) : g_Cg_clash p0 p1 w_nc ccl = (g_Mg_clash p0 p1 v_nc cz).1 := by
  obtain ⟨h1, h2⟩ := h
  subst h1
  have e780 : (780 : Int32).toInt = 780 := by decide
  unfold g_Cg_clash g_Mg_clash
  by_cases c1 : p0 < 0
  · rw [if_pos c1, if_pos c1]
  rw [if_neg c1, if_neg c1]
  by_cases c2 : w_nc ≤ p0
  · rw [if_pos c2, if_pos c2]
  rw [if_neg c2, if_neg c2]
  rw [li_lt, li_0] at c1
  rw [li_le] at c2
  have a0 := cl_nn (x := p0) (by omega)
  rw [if_pos (by rw [li_lt, e780]; omega)]
  obtain ⟨q1, q2, q3⟩ := h2 p0.toNatClampNeg (by omega)
  rw [q3, (pair_q q1 q2).2, (pair_q q1 q2).1]
  by_cases d0 : p1 = 0
  · subst d0
    rw [if_pos rfl, if_neg (by decide), if_pos (by decide)]
    show _ = cz ((2 * p0) + 0).toNatClampNeg
    rw [ix2n (by omega) (by decide)]
    rfl
  rw [if_neg d0]
  by_cases d1 : p1 = 1
  · subst d1
    rw [if_pos rfl, if_neg (by decide), if_pos (by decide)]
    show _ = cz ((2 * p0) + 1).toNatClampNeg
    rw [ix2n (by omega) (by decide)]
    rfl
  rw [if_neg d1]
  by_cases d2 : p1 < 0
  · rw [if_pos d2]
  rw [if_neg d2, if_neg]
  intro d3
  rcases row_at p1 with e | e | ⟨-, -, e⟩
  · exact d0 e
  · exact d1 e
  · rw [li_lt, li_lt, li_0, li_1] at e
    rw [li_lt, li_0] at d2
    rw [li_le, li_1] at d3
    omega
theorem eq_neverL {p0 n : Int32} {F : Nat → Nat → Int32} {me : Nat → Int32} (hn : 0 ≤ n.toInt ∧ n.toInt ≤ 40) (h : ∀ r, r < nN n → F 9 r = me r) (hp : ¬ p0 < 0) : ∀ (m q q' r : Nat) (u : Int32), r + m = 40 → m < q → nN n < q' + r → ((gl_cnever q p0 n F u (nI r)).1 = 0 ∧ (gl_never q' p0 n me u (nI r)).1 = 0) ∨ (¬ (gl_cnever q p0 n F u (nI r)).1 = 0 ∧ ¬ (gl_never q' p0 n me u (nI r)).1 = 0 ∧ (gl_cnever q p0 n F u (nI r)).2.2 = (gl_never q' p0 n me u (nI r)).2.2) := by
  have an := cl_nn hn.1
  have an2 : ((nN n : Nat) : Int) = n.toInt := an
  intro m
  induction m with
  | zero =>
    intro q q' r u hr hq hq'
    obtain ⟨q, rfl⟩ : ∃ z, q = z + 1 := ⟨q - 1, by omega⟩
    refine Or.inl ⟨?_, ?_⟩
    · rw [gl_cnever, if_pos (by rw [li_le, e40, nI_toInt (by omega)]; omega)]
    · cases q' with
      | zero => rfl
      | succ q' => rw [gl_never, if_pos (by rw [li_le, nI_toInt (by omega)]; omega)]
  | succ m ih =>
    intro q q' r u hr hq hq'
    obtain ⟨q, rfl⟩ : ∃ z, q = z + 1 := ⟨q - 1, by omega⟩
    have er : (nI r).toInt = r := nI_toInt (by omega)
    rw [gl_cnever, if_neg (by rw [li_le, e40, er]; omega)]
    by_cases c : r < nN n
    · obtain ⟨q', rfl⟩ : ∃ z, q' = z + 1 := ⟨q' - 1, by omega⟩
      have hi : rIn (nI r) n := ⟨by rw [er]; omega, by rw [er]; omega⟩
      have en : nN (nI r) = r := nI_clamp (by omega)
      have cn : ¬ n ≤ nI r := by rw [li_le, er]; omega
      rw [if_pos hi, gl_never, if_neg cn, if_neg hp, en, h r c, nI_clamp (by omega), nI_1]
      by_cases c2 : me r = 0
      · rw [if_pos c2, if_pos c2]
        by_cases c3 : u = p0
        · rw [if_pos c3, if_pos c3]
          exact Or.inr ⟨Nat.one_ne_zero, Nat.one_ne_zero, rfl⟩
        · rw [if_neg c3, if_neg c3]
          exact ih q q' (r + 1) _ (by omega) (by omega) (by omega)
      · rw [if_neg c2, if_neg c2]
        exact ih q q' (r + 1) _ (by omega) (by omega) (by omega)
    · have hi : ¬ rIn (nI r) n := fun z => by have := z.2; rw [er] at this; omega
      rw [if_neg hi, nI_1]
      have e2 : (gl_never q' p0 n me u (nI r)).1 = 0 := by
        cases q' with
        | zero => rfl
        | succ q' => rw [gl_never, if_pos (by rw [li_le, er]; omega)]
      rcases ih q 0 (r + 1) u (by omega) (by omega) (by omega) with ⟨z1, z2⟩ | ⟨z1, z2, z3⟩
      · exact Or.inl ⟨z1, e2⟩
      · exact absurd rfl z2
theorem nv_neg {p0 n : Int32} {F : Nat → Nat → Int32} (hp : p0 < 0) : ∀ (q r : Nat) (u : Int32), 0 ≤ u.toInt → u.toInt + q < 1000 → (gl_cnever q p0 n F u (nI r)).1 = 0 := by
  intro q
  induction q with
  | zero => intro r u _ _; rfl
  | succ q ih =>
    intro r u hu hq
    have e1 : (u + 1).toInt = u.toInt + 1 := li_inc (by omega) (by omega)
    rw [gl_cnever]
    refine pt_i (fun t : Nat × Int32 × Int32 => t.1 = 0) (fun _ => rfl) (fun _ => ?_)
    rw [nI_1]
    refine pt_i (fun t : Nat × Int32 × Int32 => t.1 = 0) (fun _ => ?_) (fun _ => ih _ _ hu (by omega))
    refine pt_i (fun t : Nat × Int32 × Int32 => t.1 = 0) (fun _ => ?_) (fun _ => ih _ _ hu (by omega))
    rw [li_lt, li_0] at hp
    rw [if_neg (fun e => by rw [e] at hu; omega)]
    exact ih _ _ (by omega) (by omega)
theorem eq_neverG {p0 w_nr v_n : Int32} {F : Nat → Nat → Int32} {R me le : Nat → Int32} (hn : 0 ≤ v_n.toInt ∧ v_n.toInt ≤ 40) (h : RU w_nr v_n F R me le) : g_Cg_never p0 w_nr F = (g_Mg_never p0 v_n me).1 := by
  obtain ⟨h1, -, h3, -, -, -⟩ := h
  subst h1
  have an : ((nN w_nr : Nat) : Int) = w_nr.toInt := cl_nn hn.1
  unfold g_Cg_never g_Mg_never
  rw [bv_eq, bv_eq]
  by_cases hp : p0 < 0
  · have e1 : (gl_cnever 41 p0 w_nr F 0 0).1 = 0 := nv_neg (n := w_nr) (F := F) hp 41 0 0 (by decide) (by decide)
    have e2 : (gl_never 41 p0 w_nr me 0 0).1 = 0 := by
      rw [gl_never]
      refine pt_i (fun t : Nat × Int32 × Int32 => t.1 = 0) (fun _ => rfl) (fun _ => ?_)
      rw [if_pos hp]
    rw [if_pos e1, if_pos e2]
  · have e := eq_neverL (p0 := p0) (F := F) (me := me) hn h3 hp 40 41 41 0 0 (by omega) (by omega) (by omega)
    have e' : ((gl_cnever 41 p0 w_nr F 0 0).1 = 0 ∧ (gl_never 41 p0 w_nr me 0 0).1 = 0) ∨ (¬ (gl_cnever 41 p0 w_nr F 0 0).1 = 0 ∧ ¬ (gl_never 41 p0 w_nr me 0 0).1 = 0 ∧ (gl_cnever 41 p0 w_nr F 0 0).2.2 = (gl_never 41 p0 w_nr me 0 0).2.2) := e
    rcases e' with ⟨z1, z2⟩ | ⟨z1, z2, z3⟩
    · rw [if_pos z1, if_pos z2]
    · rw [if_neg z1, if_neg z2]
      exact z3

