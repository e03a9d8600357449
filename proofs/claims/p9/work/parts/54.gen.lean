def LV (g : Nat → Int32) (r : Nat) (l : Nat → Int32) : Prop := g 1 = l 0 ∧ r = nN (l 1) ∧ g 4 = l 2 ∧ g 5 = l 3 ∧ g 3 = l 4 ∧ g 6 = l 5 ∧ b01 (l 5) ∧ (g 7 = 0 ↔ (l 6).toInt < 0) ∧ ((l 6).toInt < 0 → g 0 = -1 - l 6) ∧ (0 ≤ (l 4).toInt ∧ (l 4).toInt < 10000)
abbrev gc (G : Nat → Nat → Int32) (i : Nat) : Nat → Int32 := fun a => G a i
abbrev lc (lo : Nat → Int32) (i : Nat) : Nat → Int32 := fun c => lo (7 * (i + 1) + c)
def RLo (w_nl v_nl : Int32) (G : Nat → Nat → Int32) (rho : Nat → Nat) (lo : Nat → Int32) : Prop := w_nl = v_nl ∧ (∀ i, i < nN v_nl → LV (gc G i) (rho i) (lc lo i)) ∧ (∀ i, nN v_nl ≤ i → lc lo i 3 = 0 ∧ lc lo i 5 = 0)
theorem gc_up {G : Nat → Nat → Int32} {k i : Nat} {v : Int32} : gc (up2 G k i v) i = upd (gc G i) k v := by
  funext a
  show up2 G k i v a i = _
  rw [u2_n, ud_get]
  by_cases q : a = k
  · rw [if_pos q, if_pos q, if_pos rfl]
  · rw [if_neg q, if_neg q]
theorem gc_ne {G : Nat → Nat → Int32} {k i j : Nat} {v : Int32} (h : j ≠ i) : gc (up2 G k i v) j = gc G j := by
  funext a
  show up2 G k i v a j = G a j
  rw [u2_n, if_neg h]
  by_cases q : a = k
  · rw [if_pos q]
  · rw [if_neg q]
theorem lc_up {lo : Nat → Int32} {i c0 : Nat} {v : Int32} : lc (upd lo (7 * (i + 1) + c0) v) i = upd (lc lo i) c0 v := by
  funext c
  show upd lo (7 * (i + 1) + c0) v (7 * (i + 1) + c) = _
  rw [ud_get, ud_get]
  by_cases q : c = c0
  · rw [if_pos (by rw [q]), if_pos q]
  · rw [if_neg (by omega), if_neg q]
theorem lcq_ne {lo : Nat → Int32} {i j c0 c : Nat} {v : Int32} (h : j ≠ i) (h0 : c0 ≤ 6) (hc : c ≤ 6) : lc (upd lo (7 * (i + 1) + c0) v) j c = lc lo j c := by
  show upd lo (7 * (i + 1) + c0) v (7 * (j + 1) + c) = lo (7 * (j + 1) + c)
  rw [ud_get, if_neg (by omega)]
theorem lv_c {g l l' : Nat → Int32} {r : Nat} (h : ∀ c, c ≤ 6 → l' c = l c) (hv : LV g r l) : LV g r l' := by
  unfold LV at hv ⊢
  rw [h 0 (by omega), h 1 (by omega), h 2 (by omega), h 3 (by omega), h 4 (by omega), h 5 (by omega), h 6 (by omega)]
  exact hv
theorem rl_step {w_nl v_nl : Int32} {G G' : Nat → Nat → Int32} {rho : Nat → Nat} {lo lo' : Nat → Int32} {i : Nat} (hi : i < nN v_nl) (h : RLo w_nl v_nl G rho lo) (hG : ∀ j, j ≠ i → gc G' j = gc G j) (hl : ∀ j, j ≠ i → ∀ c, c ≤ 6 → lc lo' j c = lc lo j c) (hv : LV (gc G' i) (rho i) (lc lo' i)) : RLo w_nl v_nl G' rho lo' := by
  obtain ⟨h1, h2, h3⟩ := h
  refine ⟨h1, fun j hj => ?_, fun j hj => ?_⟩
  · by_cases q : j = i
    · rw [q]
      exact hv
    · rw [hG j q]
      exact lv_c (hl j q) (h2 j hj)
  · rw [hl j (by omega) 3 (by omega), hl j (by omega) 5 (by omega)]
    exact h3 j hj
theorem hin_at {p0 nl : Int32} {G : Nat → Nat → Int32} (hnl : 0 ≤ nl.toInt ∧ nl.toInt ≤ 200) (h1 : 1 ≤ p0.toInt) (h2 : p0.toInt ≤ nl.toInt) : nN (p0 - 1) < nN nl ∧ nN p0 = nN (p0 - 1) + 1 ∧ (7 * p0).toNatClampNeg = 7 * (nN (p0 - 1) + 1) ∧ (∀ c : Int32, 0 ≤ c.toInt ∧ c.toInt ≤ 6 → ((7 * p0) + c).toNatClampNeg = 7 * (nN (p0 - 1) + 1) + c.toNatClampNeg) := by
  have e1 : (p0 - 1).toInt = p0.toInt - 1 := li_dec (by omega) (by omega)
  have a1 := cl_nn (x := p0 - 1) (by omega)
  have a2 := cl_nn (x := p0) (by omega)
  have a3 := cl_nn (x := nl) (by omega)
  have e2 : nN p0 = nN (p0 - 1) + 1 := by
    show p0.toNatClampNeg = (p0 - 1).toNatClampNeg + 1
    omega
  refine ⟨?_, e2, ?_, fun c hc => ?_⟩
  · show (p0 - 1).toNatClampNeg < nl.toNatClampNeg
    omega
  · rw [ix7nz (by omega), ← e2]
  · rw [ix7n (by omega) hc, ← e2]
theorem out_iff {w_nl v_nl p0 : Int32} {G : Nat → Nat → Int32} {rho : Nat → Nat} {lo : Nat → Int32} (hnl : 0 ≤ v_nl.toInt ∧ v_nl.toInt ≤ 200) (h : RLo w_nl v_nl G rho lo) : hIn p0 w_nl G ↔ ¬ g_Mg_isOut p0 v_nl lo = 0 := by
  obtain ⟨h1, h2, h3⟩ := h
  subst h1
  unfold g_Mg_isOut
  by_cases c1 : p0 ≤ 0
  · rw [if_pos c1]
    rw [li_le, li_0] at c1
    exact ⟨fun q => by have := q.1; omega, fun q => absurd rfl q⟩
  · rw [if_neg c1]
    rw [li_le, li_0] at c1
    by_cases c2 : w_nl < p0
    · rw [if_pos c2]
      rw [li_lt] at c2
      exact ⟨fun q => by have := q.2.1; omega, fun q => absurd rfl q⟩
    · rw [if_neg c2]
      rw [li_lt] at c2
      obtain ⟨b1, b2, b3, b4⟩ := hin_at (p0 := p0) (G := G) hnl (by omega) (by omega)
      have hv := h2 _ b1
      have hx : (G 7 (nN (p0 - 1)) = 0 ↔ (lo (7 * (nN (p0 - 1) + 1) + 6)).toInt < 0) := hv.2.2.2.2.2.2.2.1
      rw [b4 6 (by decide)]
      by_cases c3 : 0 ≤ lo (7 * (nN (p0 - 1) + 1) + (6 : Int32).toNatClampNeg)
      · rw [if_pos c3]
        rw [li_le, li_0] at c3
        have c4 : 0 ≤ (lo (7 * (nN (p0 - 1) + 1) + 6)).toInt := c3
        exact ⟨fun q => by have := hx.mp q.2.2; omega, fun q => absurd rfl q⟩
      · rw [if_neg c3]
        rw [li_le, li_0] at c3
        have c4 : ¬ 0 ≤ (lo (7 * (nN (p0 - 1) + 1) + 6)).toInt := c3
        exact ⟨fun _ => by decide, fun _ => ⟨by omega, by omega, hx.mpr (by omega)⟩⟩
theorem eq_dueG {w_nl v_nl p0 : Int32} {G : Nat → Nat → Int32} {rho : Nat → Nat} {lo : Nat → Int32} (hnl : 0 ≤ v_nl.toInt ∧ v_nl.toInt ≤ 200) (h : RLo w_nl v_nl G rho lo) : g_Cg_due p0 w_nl G = (g_Mg_due p0 v_nl lo).1 := by
  have ho := out_iff (p0 := p0) hnl h
  unfold g_Cg_due g_Mg_due
  by_cases c : g_Mg_isOut p0 v_nl lo = 0
  · rw [if_pos c, if_neg (fun q => ho.mp q c)]
  · have hi := ho.mpr c
    obtain ⟨h1, h2, h3⟩ := h
    subst h1
    rw [if_neg c, if_pos hi]
    obtain ⟨b1, b2, b3, b4⟩ := hin_at (p0 := p0) (G := G) hnl hi.1 hi.2.1
    show _ = lo ((7 * p0) + 2).toNatClampNeg
    rw [b4 2 (by decide)]
    exact (h2 _ b1).2.2.1
def RO (cio ho : Nat → Int32) : Prop := ∀ i, i < 50 → (cio i = 0 ↔ ho i = 0)
theorem ro_upd {cio ho : Nat → Int32} {i : Nat} {a b : Int32} (hab : a = 0 ↔ b = 0) (h : RO cio ho) : RO (upd cio i a) (upd ho i b) := by
  intro j hj
  rw [ud_get, ud_get]
  by_cases q : j = i
  · rw [if_pos q, if_pos q]
    exact hab
  · rw [if_neg q, if_neg q]
    exact h j hj
theorem isP_of {x : Int32} (h : 0 ≤ x.toInt ∧ x.toInt < 50) : ¬ g_Mg_isPerson x = 0 := by
  have e50 : (50 : Int32).toInt = 50 := by decide
  unfold g_Mg_isPerson
  rw [if_neg (by rw [li_lt, li_0]; omega), if_neg (by rw [li_le, e50]; omega)]
  decide
section LN
variable {w_nl v_nl p0 p1 : Int32} {G : Nat → Nat → Int32} {rho : Nat → Nat} {lo ho cio : Nat → Int32}
set_option maxHeartbeats 8000000 in
theorem back_ok (hnl : 0 ≤ v_nl.toInt ∧ v_nl.toInt ≤ 200) (hLI : LI v_nl lo) (h : RLo w_nl v_nl G rho lo) (hO : RO cio ho) : (g_Cg_back p0 w_nl cio G).1 = (g_Mg_back p0 v_nl lo ho).1 ∧ RLo w_nl v_nl (g_Cg_back p0 w_nl cio G).2.2 rho (g_Mg_back p0 v_nl lo ho).2.2.1 ∧ RO (g_Cg_back p0 w_nl cio G).2.1 (g_Mg_back p0 v_nl lo ho).2.2.2 := by
  have hout := out_iff (p0 := p0) hnl h
  unfold g_Cg_back g_Mg_back
  by_cases c : g_Mg_isOut p0 v_nl lo = 0
  · rw [if_pos c, if_neg (fun q => hout.mp q c)]
    exact ⟨rfl, h, hO⟩
  · have hi := hout.mpr c
    have e1 : w_nl = v_nl := h.1
    subst e1
    rw [if_neg c, if_pos hi]
    obtain ⟨b1, b2, b3, b4⟩ := hin_at (p0 := p0) (G := G) hnl hi.1 hi.2.1
    have hv := h.2.1 _ b1
    obtain ⟨v0, v1, v2, v3, v4, v5, v6, v7, v8, v9⟩ := hv
    have a2 := cl_nn (x := p0) (by have := hi.1; omega)
    have hit := (hLI (nN (p0 - 1) + 1) (by omega) (by rw [← b2]; show (p0.toNatClampNeg : Int) ≤ _; have := hi.2.1; omega)).1
    have g1 : (up2 G 7 (nN (p0 - 1)) 1) 1 (nN (p0 - 1)) = lo (7 * (nN (p0 - 1) + 1)) := v0
    have hper : ¬ g_Cg_isItem (up2 G 7 (nN (p0 - 1)) 1 1 (nN (p0 - 1))) = 0 := by
      rw [g1]
      exact isP_of hit
    have e6 : ((7 * p0) + 6).toNatClampNeg = 7 * (nN (p0 - 1) + 1) + 6 := b4 6 (by decide)
    rw [if_neg hper, g1, e6, b3]
    have elo : upd lo (7 * (nN (p0 - 1) + 1) + 6) 0 (7 * (nN (p0 - 1) + 1)) = lo (7 * (nN (p0 - 1) + 1)) := by rw [ud_get, if_neg (by omega)]
    rw [elo]
    refine ⟨rfl, rl_step b1 h (fun j q => gc_ne q) (fun j q c hc => lcq_ne q (by omega) hc) ?_, ro_upd (by decide) hO⟩
    show LV (gc (up2 G 7 (nN (p0 - 1)) 1) (nN (p0 - 1))) _ (lc (upd lo (7 * (nN (p0 - 1) + 1) + 6) 0) (nN (p0 - 1)))
    rw [gc_up, lc_up]
    exact ⟨v0, v1, v2, v3, v4, v5, v6, by show (1 : Int32) = 0 ↔ (0 : Int32).toInt < 0; decide, fun q => absurd (show (0 : Int32).toInt < 0 from q) (by decide), v9⟩
theorem loan_ru {w_nr v_n x : Int32} {F : Nat → Nat → Int32} {R me le : Nat → Int32} {r : Nat} (hvn : 0 ≤ v_n.toInt ∧ v_n.toInt ≤ 40) (hU : RU w_nr v_n F R me le) (e : r = nN x) (hx : 0 ≤ x.toInt ∧ x.toInt < 40) (hr : r < nN v_n) : ∀ (c : Int32) (k : Nat), 0 ≤ c.toInt ∧ c.toInt < 10 → c.toNatClampNeg = k → k < 9 → R ((10 * x) + c).toNatClampNeg = F k r := by
  intro c k hc hk h9
  rw [ix10n (by omega) hc, hk, hU.2.1 r hr k h9, e]
set_option maxHeartbeats 8000000 in
theorem renew_ok {w_nr v_n w_ln w_nc : Int32} {F : Nat → Nat → Int32} {R me le cca bl cl te : Nat → Int32} {cw tw : Nat → Int64} (hvn : 0 ≤ v_n.toInt ∧ v_n.toInt ≤ 40) (hnl : 0 ≤ v_nl.toInt ∧ v_nl.toInt ≤ 200) (hC : CI w_ln w_nr w_nl w_nc F rho) (hLI : LI v_nl lo) (hU : RU w_nr v_n F R me le) (hB : DB cw cl) (hT : DB tw te) (hbl : cca = bl ∧ ∀ j, 0 ≤ (bl j).toInt ∧ (bl j).toInt ≤ 9) (h : RLo w_nl v_nl G rho lo) : (g_Cg_renew p0 p1 w_nl cca cw tw F G rho).1 = (g_Mg_renew p0 p1 v_nl R bl lo cl te).1 ∧ RLo w_nl v_nl (g_Cg_renew p0 p1 w_nl cca cw tw F G rho).2 rho (g_Mg_renew p0 p1 v_nl R bl lo cl te).2.2 := by
  have hout := out_iff (p0 := p0) hnl h
  unfold g_Cg_renew g_Mg_renew
  by_cases c : g_Mg_isOut p0 v_nl lo = 0
  · rw [if_pos c, if_neg (fun q => hout.mp q c)]
    exact ⟨rfl, h⟩
  have hi := hout.mpr c
  have e1 : w_nl = v_nl := h.1
  subst e1
  rw [if_neg c, if_pos hi, eq_isD]
  by_cases cd : g_Mg_isDay p1 = 0
  · rw [if_pos cd, if_pos cd]
    exact ⟨rfl, h⟩
  rw [if_neg cd, if_neg cd]
  obtain ⟨d, hd, ed⟩ := dy_of cd
  obtain ⟨b1, b2, b3, b4⟩ := hin_at (p0 := p0) (G := G) hnl hi.1 hi.2.1
  obtain ⟨v0, v1, v2, v3, v4, v5, v6, v7, v8, v9⟩ := h.2.1 _ b1
  have hi7 : G 7 (nN (p0 - 1)) = 0 := hi.2.2
  have a2 := cl_nn (x := p0) (by have := hi.1; omega)
  obtain ⟨li0, li1, li6⟩ := hLI (nN (p0 - 1) + 1) (by omega) (by rw [← b2]; show (p0.toNatClampNeg : Int) ≤ _; have := hi.2.1; omega)
  have i1 : ((7 * p0) + 1).toNatClampNeg = 7 * (nN (p0 - 1) + 1) + 1 := b4 1 (by decide)
  have i2 : ((7 * p0) + 2).toNatClampNeg = 7 * (nN (p0 - 1) + 1) + 2 := b4 2 (by decide)
  have i3 : ((7 * p0) + 3).toNatClampNeg = 7 * (nN (p0 - 1) + 1) + 3 := b4 3 (by decide)
  have i4 : ((7 * p0) + 4).toNatClampNeg = 7 * (nN (p0 - 1) + 1) + 4 := b4 4 (by decide)
  have i5 : ((7 * p0) + 5).toNatClampNeg = 7 * (nN (p0 - 1) + 1) + 5 := b4 5 (by decide)
  have i6 : ((7 * p0) + 6).toNatClampNeg = 7 * (nN (p0 - 1) + 1) + 6 := b4 6 (by decide)
  rw [i1, i2, i3, i4, i5, i6]
  generalize hI : nN (p0 - 1) = i at *
  have hrho : rho i < nN w_nr := hC.2.2.2.2.1 i b1
  have erw : w_nr = v_n := hU.1
  rw [erw] at hrho
  have v1' : rho i = nN (lo (7 * (i + 1) + 1)) := v1
  have hru := loan_ru hvn hU v1' li1 hrho
  have hneg : (lo (7 * (i + 1) + 6)).toInt < 0 := v7.mp hi7
  have hg0 : G 0 i = -1 - lo (7 * (i + 1) + 6) := v8 hneg
  have hl6 := li6 hneg
  have eg0 : (G 0 i).toInt = -1 - (lo (7 * (i + 1) + 6)).toInt := by rw [hg0, li_sub (by rw [em1]; omega) (by rw [em1]; omega), em1]
  have ecz : g_Cg_causeOf (G 0 i) cca = bl ((-1) - lo (7 * (i + 1) + 6)).toNatClampNeg := by
    unfold g_Cg_causeOf
    rw [eq_isP, if_neg (isP_of (by omega)), hbl.1, hg0]
  have hb0 := hbl.2 ((-1) - lo (7 * (i + 1) + 6)).toNatClampNeg
  rw [ecz]
  generalize hbb : bl ((-1) - lo (7 * (i + 1) + 6)).toNatClampNeg = bb at *
  have hbz : (bb = 0) ↔ (bb ≤ 0) := by
    rw [li_le, li_0]
    constructor
    · intro q; rw [q, li_0]; omega
    · intro q; exact Int32.toInt_inj.mp (by rw [li_0]; omega)
  rcases (Classical.em (bb ≤ 0)).symm with c1 | c1
  · rw [if_neg c1, if_neg (mt hbz.mp c1)]
    exact ⟨rfl, h⟩
  rw [if_pos c1, if_pos (hbz.mpr c1)]
  rw [hru 5 5 (by decide) (by decide) (by decide), hru 6 6 (by decide) (by decide) (by decide)]
  have ev3 : G 5 i = lo (7 * (i + 1) + 3) := v3
  have ev4 : G 3 i = lo (7 * (i + 1) + 4) := v4
  have ev5 : G 6 i = lo (7 * (i + 1) + 5) := v5
  have ev2 : G 4 i = lo (7 * (i + 1) + 2) := v2
  rw [ev3, ev4, ev5]
  rcases (Classical.em (lo (7 * (i + 1) + 3) < F 5 (rho i))).symm with c2 | c2
  · rw [if_neg c2, if_neg c2]
    exact ⟨rfl, h⟩
  rw [if_pos c2, if_pos c2]
  have h6 : r999 (F 6 (rho i)) := (hU.2.2.2.2.2 _ hrho).2.2.2.2
  have v9' : 0 ≤ (lo (7 * (i + 1) + 4)).toInt ∧ (lo (7 * (i + 1) + 4)).toInt < 10000 := v9
  have ep : p1.toInt = d := by rw [ed, nI_toInt (by omega)]
  have hgap : (F 6 (rho i) ≤ p1 - lo (7 * (i + 1) + 4)) ↔ (lo (7 * (i + 1) + 4) + F 6 (rho i) ≤ p1) := by
    obtain ⟨q1, q2⟩ := h6
    rw [li_le, li_le, li_sub (by omega) (by omega), li_add (by omega) (by omega)]
    omega
  rcases (Classical.em (lo (7 * (i + 1) + 4) + F 6 (rho i) ≤ p1)).symm with c3 | c3
  · rw [if_neg c3, if_neg (mt hgap.mp c3)]
    exact ⟨rfl, h⟩
  rw [if_pos c3, if_pos (hgap.mpr c3)]
  have v6' : b01 (lo (7 * (i + 1) + 5)) := v6
  have hrc : (lo (7 * (i + 1) + 5) = 0) ↔ ¬ (lo (7 * (i + 1) + 5) = 1) := by
    rcases v6' with q | q <;> rw [q] <;> decide
  by_cases c4 : lo (7 * (i + 1) + 5) = 1
  · rw [if_pos c4, if_neg (fun q => hrc.mp q c4)]
    exact ⟨rfl, h⟩
  rw [if_neg c4, if_pos (hrc.mpr c4)]
  have hda : 0 ≤ (F 4 (rho i)).toInt ∧ (F 4 (rho i)).toInt ≤ 999 := hC.2.2.2.2.2.1 _ (by rw [erw]; exact hrho)
  have hdue : g_Cg_dueDayByRule p1 cw tw (F 3 (rho i)) (F 4 (rho i)) = g_Mg_dueOf (lo (7 * (i + 1) + 1)) p1 R cl te := by
    rw [ed]
    exact eq_due hB hT hd (hru 3 3 (by decide) (by decide) (by decide)) (fun _ => hru 4 4 (by decide) (by decide) (by decide)) hda
  rw [hdue]
  generalize hq : g_Mg_dueOf (lo (7 * (i + 1) + 1)) p1 R cl te = q at *
  by_cases c5 : q = -1
  · rw [if_pos c5, if_pos c5]
    exact ⟨rfl, h⟩
  rw [if_neg c5, if_neg c5]
  have es : (upd lo (7 * (i + 1) + 2) (lo (7 * (i + 1) + 2))) (7 * (i + 1) + 3) = lo (7 * (i + 1) + 3) := by rw [ud_get, if_neg (by omega)]
  have es2 : (upd lo (7 * (i + 1) + 2) q) (7 * (i + 1) + 3) = lo (7 * (i + 1) + 3) := by rw [ud_get, if_neg (by omega)]
  have eg : (up2 (up2 G 5 i (lo (7 * (i + 1) + 3) + 1)) 3 i p1) 4 i = lo (7 * (i + 1) + 2) := ev2
  rw [eg, es, es2]
  have hstep : ∀ d' : Int32, RLo w_nl w_nl (up2 (up2 (up2 G 5 i (lo (7 * (i + 1) + 3) + 1)) 3 i p1) 4 i d') rho (upd (upd (upd lo (7 * (i + 1) + 2) d') (7 * (i + 1) + 3) (lo (7 * (i + 1) + 3) + 1)) (7 * (i + 1) + 4) p1) := by
    intro d'
    refine rl_step b1 h (fun j q => by rw [gc_ne q, gc_ne q, gc_ne q]) (fun j q c hc => by rw [lcq_ne q (by omega) hc, lcq_ne q (by omega) hc, lcq_ne q (by omega) hc]) ?_
    rw [gc_up, gc_up, gc_up, lc_up, lc_up, lc_up]
    exact ⟨v0, v1, rfl, rfl, rfl, v5, v6, v7, v8, by show 0 ≤ p1.toInt ∧ p1.toInt < 10000; omega⟩
  by_cases c6 : q ≤ lo (7 * (i + 1) + 2)
  · rw [if_pos c6, if_neg (by rw [li_lt]; rw [li_le] at c6; omega)]
    exact ⟨rfl, hstep _⟩
  · rw [if_neg c6, if_pos (by rw [li_lt]; rw [li_le] at c6; omega)]
    exact ⟨rfl, hstep _⟩
set_option maxHeartbeats 8000000 in
theorem recall_ok {w_nr v_n w_ln w_nc : Int32} {F : Nat → Nat → Int32} {R me le cl : Nat → Int32} {cw : Nat → Int64} (hvn : 0 ≤ v_n.toInt ∧ v_n.toInt ≤ 40) (hnl : 0 ≤ v_nl.toInt ∧ v_nl.toInt ≤ 200) (hC : CI w_ln w_nr w_nl w_nc F rho) (hLI : LI v_nl lo) (hU : RU w_nr v_n F R me le) (hB : DB cw cl) (h : RLo w_nl v_nl G rho lo) : (g_Cg_recall p0 p1 w_nl cw F G rho).1 = (g_Mg_recall p0 p1 v_nl R lo cl).1 ∧ RLo w_nl v_nl (g_Cg_recall p0 p1 w_nl cw F G rho).2 rho (g_Mg_recall p0 p1 v_nl R lo cl).2.2 := by
  have hout := out_iff (p0 := p0) hnl h
  unfold g_Cg_recall g_Mg_recall
  by_cases c : g_Mg_isOut p0 v_nl lo = 0
  · rw [if_pos c, if_neg (fun q => hout.mp q c)]
    exact ⟨rfl, h⟩
  have hi := hout.mpr c
  have e1 : w_nl = v_nl := h.1
  subst e1
  rw [if_neg c, if_pos hi, eq_isD]
  by_cases cd : g_Mg_isDay p1 = 0
  · rw [if_pos cd, if_pos cd]
    exact ⟨rfl, h⟩
  rw [if_neg cd, if_neg cd]
  obtain ⟨d, hd, ed⟩ := dy_of cd
  obtain ⟨b1, b2, b3, b4⟩ := hin_at (p0 := p0) (G := G) hnl hi.1 hi.2.1
  obtain ⟨v0, v1, v2, v3, v4, v5, v6, v7, v8, v9⟩ := h.2.1 _ b1
  have hi7 : G 7 (nN (p0 - 1)) = 0 := hi.2.2
  have a2 := cl_nn (x := p0) (by have := hi.1; omega)
  obtain ⟨li0, li1, li6⟩ := hLI (nN (p0 - 1) + 1) (by omega) (by rw [← b2]; show (p0.toNatClampNeg : Int) ≤ _; have := hi.2.1; omega)
  have i1 : ((7 * p0) + 1).toNatClampNeg = 7 * (nN (p0 - 1) + 1) + 1 := b4 1 (by decide)
  have i2 : ((7 * p0) + 2).toNatClampNeg = 7 * (nN (p0 - 1) + 1) + 2 := b4 2 (by decide)
  have i5 : ((7 * p0) + 5).toNatClampNeg = 7 * (nN (p0 - 1) + 1) + 5 := b4 5 (by decide)
  rw [i1, i2, i5]
  generalize hI : nN (p0 - 1) = i at *
  have hrho : rho i < nN w_nr := hC.2.2.2.2.1 i b1
  have erw : w_nr = v_n := hU.1
  have h7 := hC.2.2.2.2.2.2.1 _ hrho
  rw [erw] at hrho
  have v1' : rho i = nN (lo (7 * (i + 1) + 1)) := v1
  have hru := loan_ru hvn hU v1' li1 hrho
  have ev5 : G 6 i = lo (7 * (i + 1) + 5) := v5
  have ev2 : G 4 i = lo (7 * (i + 1) + 2) := v2
  rw [hru 7 7 (by decide) (by decide) (by decide), ev5]
  have v6' : b01 (lo (7 * (i + 1) + 5)) := v6
  have hrc : (lo (7 * (i + 1) + 5) = 0) ↔ ¬ (lo (7 * (i + 1) + 5) = 1) := by
    rcases v6' with q | q <;> rw [q] <;> decide
  by_cases c4 : lo (7 * (i + 1) + 5) = 1
  · rw [if_pos c4, if_neg (fun q => hrc.mp q c4)]
    exact ⟨rfl, h⟩
  rw [if_neg c4, if_pos (hrc.mpr c4)]
  have hop : g_Cg_firstFrom (p1 + F 7 (rho i)) 0 cw = g_Mg_open (p1 + F 7 (rho i)) cl := by
    obtain ⟨a, ha, ea⟩ := nI_of (x := F 7 (rho i)) (by rw [li_lt, li_0]; omega)
    rw [ea, nI_toInt ha] at h7
    rw [ed, ea, nI_add]
    exact eq_open hB (by omega)
  rw [hop]
  generalize hq : g_Mg_open (p1 + F 7 (rho i)) cl = q at *
  by_cases c5 : q = -1
  · rw [if_pos c5, if_pos c5]
    exact ⟨rfl, h⟩
  rw [if_neg c5, if_neg c5]
  have es : (upd lo (7 * (i + 1) + 5) 1) (7 * (i + 1) + 2) = lo (7 * (i + 1) + 2) := by rw [ud_get, if_neg (by omega)]
  have eg : (up2 G 6 i 1) 4 i = lo (7 * (i + 1) + 2) := ev2
  rw [eg, es]
  have hstep : ∀ d' : Int32, (up2 (up2 G 6 i 1) 4 i d') 4 i = (upd (upd lo (7 * (i + 1) + 5) 1) (7 * (i + 1) + 2) d') (7 * (i + 1) + 2) ∧ RLo w_nl w_nl (up2 (up2 G 6 i 1) 4 i d') rho (upd (upd lo (7 * (i + 1) + 5) 1) (7 * (i + 1) + 2) d') := by
    intro d'
    refine ⟨by rw [u2_n, if_pos rfl, if_pos rfl, ud_get, if_pos rfl], rl_step b1 h (fun j q => by rw [gc_ne q, gc_ne q]) (fun j q c hc => by rw [lcq_ne q (by omega) hc, lcq_ne q (by omega) hc]) ?_⟩
    rw [gc_up, gc_up, lc_up, lc_up]
    exact ⟨v0, v1, rfl, v3, v4, rfl, b01_1, v7, v8, v9⟩
  by_cases c6 : lo (7 * (i + 1) + 2) ≤ q
  · rw [if_pos c6, if_neg (by rw [li_lt]; rw [li_le] at c6; omega)]
    exact hstep _
  · rw [if_neg c6, if_pos (by rw [li_lt]; rw [li_le] at c6; omega)]
    exact hstep _
end LN

