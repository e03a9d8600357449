def SF (P : Nat → Prop) (x : Nat) (r : Int32) : Prop := (∃ y : Nat, r = nI y ∧ x ≤ y ∧ y < 10000 ∧ P y ∧ ∀ z, x ≤ z → z < y → ¬ P z) ∨ (r = -1 ∧ ∀ z, x ≤ z → z < 10000 → ¬ P z)
theorem sf_uniq {P : Nat → Prop} {x : Nat} {r r' : Int32} (h : SF P x r) (h' : SF P x r') : r = r' := by
  rcases h with ⟨y, e, h1, h2, h3, h4⟩ | ⟨e, h1⟩
  · rcases h' with ⟨y', e', h1', h2', h3', h4'⟩ | ⟨e', h1'⟩
    · rcases Nat.lt_trichotomy y y' with q | q | q
      · exact absurd h3 (h4' y h1 q)
      · rw [e, e', q]
      · exact absurd h3' (h4 y' h1' q)
    · exact absurd h3 (h1' y h1 h2)
  · rcases h' with ⟨y', e', h1', h2', h3', h4'⟩ | ⟨e', h1'⟩
    · exact absurd h3' (h1 y' h1' h2')
    · rw [e, e']
theorem sf_step {P : Nat → Prop} {x : Nat} {r : Int32} (hx : ¬ P x) (h : SF P (x + 1) r) : SF P x r := by
  rcases h with ⟨y, e, h1, h2, h3, h4⟩ | ⟨e, h1⟩
  · refine Or.inl ⟨y, e, by omega, h2, h3, fun z hz hzy => ?_⟩
    by_cases q : z = x
    · rw [q]; exact hx
    · exact h4 z (by omega) hzy
  · refine Or.inr ⟨e, fun z hz hz2 => ?_⟩
    by_cases q : z = x
    · rw [q]; exact hx
    · exact h1 z (by omega) hz2
theorem sf_jump {P : Nat → Prop} {x w : Nat} {r : Int32} (hxw : x ≤ w) (hx : ∀ z, x ≤ z → z < w → z < 10000 → ¬ P z) (h : SF P w r) : SF P x r := by
  rcases h with ⟨y, e, h1, h2, h3, h4⟩ | ⟨e, h1⟩
  · refine Or.inl ⟨y, e, by omega, h2, h3, fun z hz hzy => ?_⟩
    by_cases q : z < w
    · exact hx z hz q (by omega)
    · exact h4 z (by omega) hzy
  · refine Or.inr ⟨e, fun z hz hz2 => ?_⟩
    by_cases q : z < w
    · exact hx z hz q hz2
    · exact h1 z (by omega) hz2
theorem le_10k {x : Nat} (h : x < 2 ^ 31) : (10000 : Int32) ≤ nI x ↔ 10000 ≤ x := by
  rw [li_le, nI_toInt h, li_10000]; omega
theorem go_sf {g : Nat → Int32} : ∀ (n x : Nat), x < 100000 → 10000 < n + x → SF (fun z => g z = 0) x (if 10000 ≤ gl_open n g (nI x) then -1 else gl_open n g (nI x)) := by
  intro n
  induction n with
  | zero =>
    intro x hx hn
    rw [gl_open]
    rw [if_pos ((le_10k (by omega)).mpr (by omega))]
    exact Or.inr ⟨rfl, fun z h1 h2 => by omega⟩
  | succ n ih =>
    intro x hx hn
    rw [gl_open]
    by_cases c : (10000 : Int32) ≤ nI x
    · have c' := (le_10k (by omega)).mp c
      rw [if_pos c, if_pos c]
      exact Or.inr ⟨rfl, fun z h1 h2 => by omega⟩
    · have c' : x < 10000 := by
        have := mt (le_10k (by omega)).mpr c
        omega
      rw [if_neg c, nI_clamp (by omega)]
      by_cases c2 : g x = 0
      · rw [if_pos c2, if_neg c]
        exact Or.inl ⟨x, rfl, by omega, c', c2, fun z h1 h2 => by omega⟩
      · rw [if_neg c2, nI_1]
        exact sf_step c2 (ih (x + 1) (by omega) (by omega))
theorem op_sf {g : Nat → Int32} {x : Nat} (hx : x < 100000) : SF (fun z => g z = 0) x (g_Mg_open (nI x) g) := by
  unfold g_Mg_open
  rw [bv_eq]
  exact go_sf 20001 x hx (by omega)
theorem du_sf {g : Nat → Int32} : ∀ (n x : Nat), x < 100000 → 10000 < n + x → SF (fun z => ¬ g z = 0) x (if 10000 ≤ gl_dueOf n g (nI x) then -1 else gl_dueOf n g (nI x)) := by
  intro n
  induction n with
  | zero =>
    intro x hx hn
    rw [gl_dueOf]
    rw [if_pos ((le_10k (by omega)).mpr (by omega))]
    exact Or.inr ⟨rfl, fun z h1 h2 => by omega⟩
  | succ n ih =>
    intro x hx hn
    rw [gl_dueOf]
    by_cases c : (10000 : Int32) ≤ nI x
    · have c' := (le_10k (by omega)).mp c
      rw [if_pos c, if_pos c]
      exact Or.inr ⟨rfl, fun z h1 h2 => by omega⟩
    · have c' : x < 10000 := by
        have := mt (le_10k (by omega)).mpr c
        omega
      rw [if_neg c, nI_clamp (by omega)]
      by_cases c2 : g x = 0
      · rw [if_pos c2, nI_1]
        exact sf_step (fun h => h c2) (ih (x + 1) (by omega) (by omega))
      · rw [if_neg c2, if_neg c]
        exact Or.inl ⟨x, rfl, by omega, c', c2, fun z h1 h2 => by omega⟩
theorem du_ge {g : Nat → Int32} : ∀ (n x : Nat), x < 100000 → ∃ y : Nat, gl_dueOf n g (nI x) = nI y ∧ y < 100001 + n := by
  intro n
  induction n with
  | zero => intro x hx; exact ⟨x, rfl, by omega⟩
  | succ n ih =>
    intro x hx
    rw [gl_dueOf]
    by_cases c : (10000 : Int32) ≤ nI x
    · rw [if_pos c]; exact ⟨x, rfl, by omega⟩
    · rw [if_neg c]
      have c' : x < 10000 := by
        have := mt (le_10k (by omega)).mpr c
        omega
      by_cases c2 : g (nI x).toNatClampNeg = 0
      · rw [if_pos c2, nI_1]
        obtain ⟨y, e, h⟩ := ih (x + 1) (by omega)
        exact ⟨y, e, by omega⟩
      · rw [if_neg c2]; exact ⟨x, rfl, by omega⟩
theorem or_wq : ∀ q, q < 157 → ∀ r, r < 64 → (64 * q + r) ||| 63 = 64 * q + 63 := by decide +kernel
theorem or_w {x : Nat} (h : x < 10000) : (nI x ||| 63) + 1 = nI (x / 64 * 64 + 64) := by
  have e : x ||| 63 = x / 64 * 64 + 63 := by
    have h1 := or_wq (x / 64) (by omega) (x % 64) (Nat.mod_lt _ (by decide))
    rw [show 64 * (x / 64) + x % 64 = x by omega] at h1
    rw [h1]; omega
  obtain ⟨h1, -, -⟩ := or63 x h
  rw [h1, nI_1, e]
theorem fi_sf {f : Nat → Int64} {p : Int32} {nh : Int64} (hw : ∀ x z : Nat, f (x / 64) = nh → z / 64 = x / 64 → z < 10000 → ¬ g_Cg_holds (nI z) f = p) : ∀ (n x : Nat), x < 100000 → 10000 < n + x → SF (fun z => g_Cg_holds (nI z) f = p) x (if (gl_first n p f (nI x) nh).1 = 0 then -1 else (gl_first n p f (nI x) nh).2.1) := by
  intro n
  induction n with
  | zero =>
    intro x hx hn
    rw [gl_first]
    rw [if_pos rfl]
    exact Or.inr ⟨rfl, fun z h1 h2 => by omega⟩
  | succ n ih =>
    intro x hx hn
    rw [gl_first]
    by_cases c : (10000 : Int32) ≤ nI x
    · have c' := (le_10k (by omega)).mp c
      rw [if_pos c, if_pos rfl]
      exact Or.inr ⟨rfl, fun z h1 h2 => by omega⟩
    · have c' : x < 10000 := by
        have := mt (le_10k (by omega)).mpr c
        omega
      rw [if_neg c, dy_d (by omega)]
      by_cases c2 : lg_cmp (f (x / 64)) nh = 0
      · rw [if_pos c2, or_w c']
        exact sf_jump (w := x / 64 * 64 + 64) (by omega) (fun z h1 h2 h3 => hw x z ((lg_cmp_eq _ _).mp c2) (by omega) h3) (ih _ (by omega) (by omega))
      · rw [if_neg c2]
        by_cases c3 : g_Cg_holds (nI x) f = p
        · rw [if_pos c3]
          show SF _ x (if (1 : Nat) = 0 then -1 else nI x)
          rw [if_neg (by decide)]
          exact Or.inl ⟨x, rfl, by omega, c', c3, fun z h1 h2 => by omega⟩
        · rw [if_neg c3, nI_1]
          exact sf_step c3 (ih (x + 1) (by omega) (by omega))
theorem hw_m1 {f : Nat → Int64} (x z : Nat) (h : f (x / 64) = -1) (hz : z / 64 = x / 64) (hz2 : z < 10000) : ¬ g_Cg_holds (nI z) f = 0 := by
  have e : dyb f z = true := by
    rw [dyb_get, hz, h]
    have ha : (-1 : Int64).toBitVec = BitVec.allOnes 64 := by decide
    rw [ha, BitVec.getLsbD_allOnes]
    exact decide_eq_true (by omega)
  rw [hd_eq hz2, if_pos e]
  decide
theorem hw_0 {f : Nat → Int64} (x z : Nat) (h : f (x / 64) = 0) (hz : z / 64 = x / 64) (hz2 : z < 10000) : ¬ g_Cg_holds (nI z) f = 1 := by
  have e : dyb f z = false := by
    rw [dyb_get, hz, h]
    show (0 : Int64).toBitVec.getLsbD (z % 64) = false
    simp
  rw [hd_eq hz2, e]
  decide
theorem ff0_sf {f : Nat → Int64} {x : Nat} (hx : x < 100000) : SF (fun z => g_Cg_holds (nI z) f = 0) x (g_Cg_firstFrom (nI x) 0 f) := by
  unfold g_Cg_firstFrom
  rw [if_pos rfl, if_neg (nI_pos (by omega)), bv_eq]
  exact fi_sf hw_m1 20001 x hx (by omega)
theorem ff1_sf {f : Nat → Int64} {x : Nat} (hx : x < 100000) : SF (fun z => g_Cg_holds (nI z) f = 1) x (g_Cg_firstFrom (nI x) 1 f) := by
  unfold g_Cg_firstFrom
  rw [if_neg (by decide), if_neg (nI_pos (by omega)), bv_eq]
  exact fi_sf hw_0 20001 x hx (by omega)
theorem sf_iff {P Q : Nat → Prop} {x : Nat} {r : Int32} (h : ∀ z, z < 10000 → (P z ↔ Q z)) (hs : SF P x r) : SF Q x r := by
  rcases hs with ⟨y, e, h1, h2, h3, h4⟩ | ⟨e, h1⟩
  · exact Or.inl ⟨y, e, h1, h2, (h y h2).mp h3, fun z hz hzy hq => h4 z hz hzy ((h z (by omega)).mpr hq)⟩
  · exact Or.inr ⟨e, fun z hz hz2 hq => h1 z hz hz2 ((h z hz2).mpr hq)⟩
theorem hd_01 {f : Nat → Int64} {z : Nat} (h : z < 10000) : g_Cg_holds (nI z) f = 1 ↔ ¬ g_Cg_holds (nI z) f = 0 := by
  rw [hd_eq h]
  by_cases c : dyb f z = true
  · rw [if_pos c]; decide
  · rw [if_neg c]; decide
theorem eq_open {f : Nat → Int64} {g : Nat → Int32} {x : Nat} (h : DB f g) (hx : x < 100000) : g_Cg_firstFrom (nI x) 0 f = g_Mg_open (nI x) g :=
  sf_uniq (ff0_sf hx) (sf_iff (fun z hz => by rw [h z hz]) (op_sf hx))
theorem eq_termx {f : Nat → Int64} {g : Nat → Int32} {x : Nat} (h : DB f g) (hx : x < 100000) : g_Cg_firstFrom (nI x) 1 f = if 10000 ≤ gl_dueOf 20001 g (nI x) then -1 else gl_dueOf 20001 g (nI x) :=
  sf_uniq (ff1_sf hx) (sf_iff (fun z hz => by rw [hd_01 hz, h z hz]) (du_sf 20001 x hx (by omega)))
theorem go_big {g : Nat → Int32} {x : Nat} (c : (10000 : Int32) ≤ nI x) (n : Nat) : gl_open (n + 1) g (nI x) = nI x := by
  rw [gl_open, if_pos c]
theorem op_big {g : Nat → Int32} {x : Nat} (hx : x < 2 ^ 31) (h : 10000 ≤ x) : g_Mg_open (nI x) g = -1 := by
  have c := (le_10k hx).mpr h
  have e : gl_open 20001 g (nI x) = nI x := go_big c 20000
  unfold g_Mg_open
  rw [e, bv_eq, if_pos c]
theorem sf_r {P : Nat → Prop} {x : Nat} {r : Int32} (h : SF P x r) : (∃ y : Nat, y < 10000 ∧ r = nI y) ∨ r = -1 := by
  rcases h with ⟨y, e, h1, h2, h3, h4⟩ | ⟨e, h1⟩
  · exact Or.inl ⟨y, h2, e⟩
  · exact Or.inr e
theorem op_r {g : Nat → Int32} {x : Nat} (hx : x < 100000) : (∃ y : Nat, y < 10000 ∧ g_Mg_open (nI x) g = nI y) ∨ g_Mg_open (nI x) g = -1 := sf_r (op_sf hx)
theorem nI_m1 {y : Nat} (h : y < 2 ^ 31) : ¬ nI y = -1 := by
  intro e
  have := congrArg Int32.toInt e
  rw [nI_toInt h, show (-1 : Int32).toInt = -1 by decide] at this
  omega
theorem eq_due {fw ft : Nat → Int64} {gc gt : Nat → Int32} {d : Nat} {de da : Int32} {n : Int32} {R : Nat → Int32} (hc : DB fw gc) (ht : DB ft gt) (hd : d < 10000) (e3 : R ((10 * n) + 3).toNatClampNeg = de) (e4 : de = 0 → R ((10 * n) + 4).toNatClampNeg = da) (hda : 0 ≤ da.toInt ∧ da.toInt ≤ 999) : g_Cg_dueDayByRule (nI d) fw ft de da = g_Mg_dueOf n (nI d) R gc gt := by
  unfold g_Cg_dueDayByRule g_Mg_dueOf
  rw [e3]
  by_cases c : de = 0
  · rw [if_pos c, if_pos c, e4 c]
    obtain ⟨a, ha, ea⟩ := nI_of (x := da) (by rw [li_lt, li_0]; omega)
    rw [ea, nI_toInt ha] at hda
    rw [ea, nI_add]
    exact eq_open hc (by omega)
  · rw [if_neg c, if_neg c, eq_termx ht (by omega), bv_eq]
    obtain ⟨y, ey, hy⟩ := du_ge (g := gt) 20001 d (by omega)
    rw [ey]
    by_cases q : (10000 : Int32) ≤ nI y
    · rw [if_pos q, if_pos rfl, op_big (by omega) ((le_10k (by omega)).mp q)]
    · rw [if_neg q, if_neg (nI_m1 (by omega))]
      exact eq_open hc (by have := mt (le_10k (x := y) (by omega)).mpr q; omega)
theorem due_r {gc gt : Nat → Int32} {d : Nat} {n : Int32} {R : Nat → Int32} (hd : d < 10000) (h4 : 0 ≤ (R ((10 * n) + 4).toNatClampNeg).toInt ∧ (R ((10 * n) + 4).toNatClampNeg).toInt ≤ 999) : (∃ y : Nat, y < 10000 ∧ g_Mg_dueOf n (nI d) R gc gt = nI y) ∨ g_Mg_dueOf n (nI d) R gc gt = -1 := by
  unfold g_Mg_dueOf
  by_cases c : R ((10 * n) + 3).toNatClampNeg = 0
  · rw [if_pos c]
    obtain ⟨a, ha, ea⟩ := nI_of (x := R ((10 * n) + 4).toNatClampNeg) (by rw [li_lt, li_0]; omega)
    rw [ea, nI_toInt ha] at h4
    rw [ea, nI_add]
    exact op_r (by omega)
  · rw [if_neg c, bv_eq]
    obtain ⟨y, ey, hy⟩ := du_ge (g := gt) 20001 d (by omega)
    rw [ey]
    by_cases q : 10000 ≤ y
    · exact Or.inr (op_big (by omega) q)
    · exact op_r (by omega)

