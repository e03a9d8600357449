theorem ix7s {nl c : Int32} (hnl : 0 ≤ nl.toInt ∧ nl.toInt < 200) (hc : 0 ≤ c.toInt ∧ c.toInt ≤ 6) : ((7 * (nl + 1)) + c).toNatClampNeg = 7 * (nN nl + 1) + c.toNatClampNeg := by
  have e1 : (nl + 1).toInt = nl.toInt + 1 := li_inc (by omega) (by omega)
  rw [ix7n (by omega) hc]
  congr 2
  exact nN_1 hnl.1 (by omega)
theorem ix7sz {nl : Int32} (hnl : 0 ≤ nl.toInt ∧ nl.toInt < 200) : (7 * (nl + 1)).toNatClampNeg = 7 * (nN nl + 1) := by
  have e1 : (nl + 1).toInt = nl.toInt + 1 := li_inc (by omega) (by omega)
  rw [ix7nz (by omega)]
  congr 1
  exact nN_1 hnl.1 (by omega)
theorem neg_p {p : Int32} (hp : 0 ≤ p.toInt ∧ p.toInt < 50) : ((-1) - p : Int32).toInt = -1 - p.toInt ∧ -1 - p.toInt < 0 ∧ p = -1 - ((-1) - p) := by
  have e6 : ((-1) - p : Int32).toInt = -1 - p.toInt := by rw [li_sub (by rw [em1]; omega) (by rw [em1]; omega), em1]
  refine ⟨e6, by omega, ?_⟩
  apply Int32.toInt_inj.mp
  rw [li_sub (by rw [em1, e6]; omega) (by rw [em1, e6]; omega), em1, e6]
  omega
theorem vu_n (f : Nat → Nat) (k v j : Nat) : va_up f k v j = if j = k then v else f j := by
  unfold va_up
  rfl
set_option maxHeartbeats 8000000 in
theorem push_ok {nl p0 p1 p2 f du : Int32} {G : Nat → Nat → Int32} {rho : Nat → Nat} {lo : Nat → Int32} (hnl : 0 ≤ nl.toInt ∧ nl.toInt < 200) (hp : 0 ≤ p0.toInt ∧ p0.toInt < 50) (hd : 0 ≤ p2.toInt ∧ p2.toInt < 10000) (h : RLo nl nl G rho lo) : RLo (nl + 1) (nl + 1) (fpush G (nN nl) [p0, p1, 0, p2, du, 0, 0, 0]) (va_up rho (nN nl) (nN f)) (upd (upd (upd (upd (upd lo (7 * (nl + 1)).toNatClampNeg p1) ((7 * (nl + 1)) + 1).toNatClampNeg f) ((7 * (nl + 1)) + 2).toNatClampNeg du) ((7 * (nl + 1)) + 4).toNatClampNeg p2) ((7 * (nl + 1)) + 6).toNatClampNeg ((-1) - p0)) := by
  obtain ⟨-, h2, h3⟩ := h
  have en : nN (nl + 1) = nN nl + 1 := nN_1 hnl.1 (by omega)
  have i0 : (7 * (nl + 1)).toNatClampNeg = 7 * (nN nl + 1) + 0 := ix7sz hnl
  have i1 : ((7 * (nl + 1)) + 1).toNatClampNeg = 7 * (nN nl + 1) + 1 := ix7s hnl (by decide)
  have i2 : ((7 * (nl + 1)) + 2).toNatClampNeg = 7 * (nN nl + 1) + 2 := ix7s hnl (by decide)
  have i4 : ((7 * (nl + 1)) + 4).toNatClampNeg = 7 * (nN nl + 1) + 4 := ix7s hnl (by decide)
  have i6 : ((7 * (nl + 1)) + 6).toNatClampNeg = 7 * (nN nl + 1) + 6 := ix7s hnl (by decide)
  rw [i0, i1, i2, i4, i6]
  have hne : ∀ j, j ≠ nN nl → ∀ c, c ≤ 6 → lc (upd (upd (upd (upd (upd lo (7 * (nN nl + 1) + 0) p1) (7 * (nN nl + 1) + 1) f) (7 * (nN nl + 1) + 2) du) (7 * (nN nl + 1) + 4) p2) (7 * (nN nl + 1) + 6) ((-1) - p0)) j c = lc lo j c := by
    intro j q c hc
    rw [lcq_ne q (by omega) hc, lcq_ne q (by omega) hc, lcq_ne q (by omega) hc, lcq_ne q (by omega) hc, lcq_ne q (by omega) hc]
  refine ⟨rfl, fun j hj => ?_, fun j hj => ?_⟩
  · rw [en] at hj
    by_cases q : j = nN nl
    · subst q
      rw [lc_up, lc_up, lc_up, lc_up, lc_up, vu_n, if_pos rfl]
      have eg : gc (fpush G (nN nl) [p0, p1, 0, p2, du, 0, 0, 0]) (nN nl) = fun a => [p0, p1, 0, p2, du, 0, 0, 0].getD a 0 := by
        funext a
        show fpush G (nN nl) _ a (nN nl) = _
        rw [fp_n, if_pos rfl]
      rw [eg]
      obtain ⟨e6, e7, e8⟩ := neg_p hp
      have hz := h3 (nN nl) (Nat.le_refl _)
      refine ⟨rfl, rfl, rfl, hz.1.symm, rfl, hz.2.symm, ?_, ?_, ?_, hd⟩
      · show b01 (lc lo (nN nl) 5)
        rw [hz.2]
        exact b01_0
      · show (0 : Int32) = 0 ↔ ((-1) - p0 : Int32).toInt < 0
        rw [e6]
        exact ⟨fun _ => e7, fun _ => rfl⟩
      · intro _
        exact e8
    · have eg : gc (fpush G (nN nl) [p0, p1, 0, p2, du, 0, 0, 0]) j = gc G j := by
        funext a
        show fpush G (nN nl) _ a j = G a j
        rw [fp_n, if_neg q]
      rw [eg, vu_n, if_neg q]
      exact lv_c (hne j q) (h2 j (by omega))
  · rw [en] at hj
    rw [hne j (by omega) 3 (by omega), hne j (by omega) 5 (by omega)]
    exact h3 j (by omega)
theorem lends_q {x : Int32} (h : d03 x) : (g_Cg_lends x = 0) ↔ ¬ x ≤ 1 := by
  unfold g_Cg_lends
  rw [li_le, li_1]
  by_cases c0 : x = 0
  · rw [if_pos c0, c0, li_0]
    decide
  rw [if_neg c0]
  by_cases c1 : x = 1
  · rw [if_pos c1, c1, li_1]
    decide
  rw [if_neg c1]
  have n0 : x.toInt ≠ 0 := fun q => c0 (Int32.toInt_inj.mp (by rw [q, li_0]))
  have n1 : x.toInt ≠ 1 := fun q => c1 (Int32.toInt_inj.mp (by rw [q, li_1]))
  have := h.1
  exact ⟨fun _ => by omega, fun _ => rfl⟩
abbrev TM : Type := Int32 × Int32 × Int32 × Int32 × Int32 × (Nat → Int32) × (Nat → Int32) × (Nat → Int32) × (Nat → Int32) × (Nat → Int32)
def LOK (w_nr v_n : Int32) (R le : Nat → Int32) (x : TL) (y : TM) : Prop :=
  x.1 = y.1 ∧
  x.2.2.2.2.2.2.2.2.2.2 = y.2.1 ∧
  RU w_nr v_n x.2.2.2.2.2.2.2.1 R y.2.2.2.2.2.1 le ∧
  RLo x.2.1 y.2.2.1 x.2.2.2.2.2.2.2.2.1 x.2.2.2.2.2.2.2.2.2.1 y.2.2.2.2.2.2.1 ∧
  RO x.2.2.2.2.1 y.2.2.2.2.2.2.2.1 ∧
  RG x.2.2.1 y.2.2.2.1 v_n x.2.2.2.2.2.1 y.2.2.2.2.2.2.2.2.1 ∧
  RCl x.2.2.2.1 y.2.2.2.2.1 x.2.2.2.2.2.2.1 y.2.2.2.2.2.2.2.2.2
section LD
variable {p0 p1 p2 w_ln w_nr w_nl w_nf w_nc v_n v_nl v_nf v_nc : Int32} {cw tw : Nat → Int64} {cki cca cty cio cex cfi ccl R me le cl te ki ty bl ex lo ho fi cz : Nat → Int32} {F G : Nat → Nat → Int32} {rho : Nat → Nat}
set_option maxHeartbeats 8000000 in
theorem lend_ok (hvn : 0 ≤ v_n.toInt ∧ v_n.toInt ≤ 40) (hnl : 0 ≤ v_nl.toInt ∧ v_nl.toInt ≤ 200) (hnc : 0 ≤ v_nc.toInt ∧ v_nc.toInt ≤ 700) (hC : CI w_ln w_nr w_nl w_nc F rho) (hU : RU w_nr v_n F R me le) (hB : DB cw cl) (hT : DB tw te) (hTb : RTb cki ki cty ty cca bl) (hX : RX cex ex) (hL : RLo w_nl v_nl G rho lo) (hO : RO cio ho) (hG : RG w_nf v_nf v_n cfi fi) (hK : RCl w_nc v_nc ccl cz) : LOK w_nr v_n R le (g_Cg_lend p0 p1 p2 w_nr w_nl w_nf w_nc cw tw cki cca cty cio cex cfi ccl F G rho) (g_Mg_lend p0 p1 p2 v_n v_nl v_nf v_nc R me le cl te ki ty bl ex lo ho fi cz) := by
  obtain ⟨t1, t2, t3, t4⟩ := hTb
  subst t1 t2 t3
  have eg : cfi = fi := hG.2.1
  subst eg
  have el : w_nl = v_nl := hL.1
  subst el
  have an : ((nN v_n : Nat) : Int) = v_n.toInt := cl_nn hvn.1
  unfold g_Cg_lend g_Mg_lend
  rw [eq_isP, eq_isI, eq_isD]
  by_cases c1 : g_Mg_isPerson p0 = 0
  · rw [if_pos c1, if_pos c1]
    exact ⟨rfl, rfl, hU, hL, hO, hG, hK⟩
  rw [if_neg c1, if_neg c1]
  by_cases c2 : g_Mg_isPerson p1 = 0
  · rw [if_pos c2, if_pos c2]
    exact ⟨rfl, rfl, hU, hL, hO, hG, hK⟩
  rw [if_neg c2, if_neg c2]
  by_cases c3 : g_Mg_isDay p2 = 0
  · rw [if_pos c3, if_pos c3]
    exact ⟨rfl, rfl, hU, hL, hO, hG, hK⟩
  rw [if_neg c3, if_neg c3]
  obtain ⟨d, hd, ed⟩ := dy_of c3
  have hp0 := isP_r c1
  have hp1 := isP_r c2
  have ap1 := cl_nn hp1.1
  have ho1 := hO p1.toNatClampNeg (by omega)
  rcases (Classical.em (ho p1.toNatClampNeg = 0)).symm with c4 | c4
  · rw [if_neg c4, if_neg (mt ho1.mp c4)]
    exact ⟨rfl, rfl, hU, hL, hO, hG, hK⟩
  rw [if_pos c4, if_pos (ho1.mpr c4)]
  have e200 : (200 : Int32).toInt = 200 := by decide
  have h200 : w_nl < 200 ↔ ¬ w_nl = 200 := by
    rw [li_lt, e200]
    constructor
    · intro q e
      rw [e, e200] at q
      omega
    · intro q
      have : w_nl.toInt ≠ 200 := fun e => q (Int32.toInt_inj.mp (by rw [e, e200]))
      omega
  by_cases c5 : w_nl = 200
  · rw [if_pos c5, if_neg (fun q => h200.mp q c5)]
    exact ⟨rfl, rfl, hU, hL, hO, hG, hK⟩
  have c5' := h200.mpr c5
  rw [if_neg c5, if_pos c5']
  rw [li_lt, e200] at c5'
  have hb0 := t4 p0.toNatClampNeg
  have hbz : (cca p0.toNatClampNeg = 0) ↔ (cca p0.toNatClampNeg ≤ 0) := by
    rw [li_le, li_0]
    constructor
    · intro q; rw [q, li_0]; omega
    · intro q; exact Int32.toInt_inj.mp (by rw [li_0]; omega)
  rcases (Classical.em (cca p0.toNatClampNeg ≤ 0)).symm with c6 | c6
  · rw [if_neg c6, if_neg (mt hbz.mp c6)]
    exact ⟨rfl, rfl, hU, hL, hO, hG, hK⟩
  rw [if_pos c6, if_pos (hbz.mpr c6)]
  obtain ⟨nf', fi', g1, g2, g3, g4⟩ := gather_eq (ki := cki) (ty := cty) (fi := cfi) hvn hU hX c1 c2 hd
  rw [ed, g1, g2, bv_eq (nI nf', fi') _, bv_eq (nI nf', fi') _]
  have pr1 : ((nI nf', fi') : Int32 × (Nat → Int32)).1 = nI nf' := rfl
  have pr2 : ((nI nf', fi') : Int32 × (Nat → Int32)).2 = fi' := rfl
  rw [pr1, pr2]
  have enf : (nI nf').toInt = nf' := nI_toInt (by omega)
  have hG' : RG (nI nf') (nI nf') v_n fi' fi' := ⟨rfl, rfl, fun j hj => g4 j (by rw [enf] at hj; omega)⟩
  have ew : w_nr = v_n := hU.1
  by_cases c7 : nI nf' = 0
  · have hz : nf' = 0 := by
      have := congrArg Int32.toInt c7
      rw [enf, li_0] at this
      omega
    have ef : g_Cg_fittingAt 0 (nI nf') fi' = -1 := by
      unfold g_Cg_fittingAt
      rw [if_neg (by decide), if_pos (by rw [li_le, enf, li_0]; omega)]
    rw [if_pos c7, if_neg (fun q => by rw [ef] at q; have := q.1; rw [em1] at this; omega)]
    exact ⟨rfl, rfl, hU, hL, hO, hG', hK⟩
  have hpos : 0 < nf' := by
    by_cases z : nf' = 0
    · rw [z] at c7
      exact absurd rfl c7
    · omega
  have hr := g4 0 hpos
  have ef : g_Cg_fittingAt 0 (nI nf') fi' = fi' 0 := by
    unfold g_Cg_fittingAt
    rw [if_neg (by decide), if_neg (by rw [li_le, enf, li_0]; omega), if_neg (by decide)]
    rfl
  have hr' : rIn (fi' 0) w_nr := by rw [ew]; exact hr
  have ez : fi' (0 : Int32).toNatClampNeg = fi' 0 := rfl
  rw [if_neg c7, ef, if_pos hr', ez]
  generalize hf : fi' 0 = f at *
  have af := cl_nn hr.1
  have hlt : nN f < nN v_n := by
    have := hr.2
    show f.toNatClampNeg < v_n.toNatClampNeg
    have a2 := cl_nn hvn.1
    omega
  have hU' := ru_met hlt hU
  have hK' := clash_ok (fi := fi') hvn hU' hnc hK g3 g4
  generalize hcc : g_Cg_noteClash w_nr (nI nf') w_nc fi' ccl (up2 F 9 (nN f) 1) = y1 at *
  generalize hcm : g_Mg_clashes (nI nf') v_nc R fi' cz = y2 at *
  rw [bv_eq, bv_eq]
  have u3 : (up2 F 9 (nN f) 1) 3 (nN f) = F 3 (nN f) := rfl
  have u4 : (up2 F 9 (nN f) 1) 4 (nN f) = F 4 (nN f) := rfl
  have u10 : (up2 F 9 (nN f) 1) 10 (nN f) = F 10 (nN f) := rfl
  rw [u3, u4, u10]
  have hr3 : R ((10 * f) + 3).toNatClampNeg = F 3 (nN f) := by
    rw [ix10n (by have := hr.2; omega) (by decide)]
    exact (hU.2.1 (nN f) hlt 3 (by omega)).symm
  have hr4 : R ((10 * f) + 4).toNatClampNeg = F 4 (nN f) := by
    rw [ix10n (by have := hr.2; omega) (by decide)]
    exact (hU.2.1 (nN f) hlt 4 (by omega)).symm
  have hda : 0 ≤ (F 4 (nN f)).toInt ∧ (F 4 (nN f)).toInt ≤ 999 := hC.2.2.2.2.2.1 _ (by rw [ew]; exact hlt)
  have hdue : g_Cg_dueDayByRule (nI d) cw tw (F 3 (nN f)) (F 4 (nN f)) = g_Mg_dueOf f (nI d) R cl te := eq_due hB hT hd hr3 (fun _ => hr4) hda
  have h03 : d03 (F 3 (nN f)) := (hU.2.2.2.2.2 (nN f) hlt).2.2.2.1
  have hlq := lends_q h03
  rw [hr3, hdue]
  generalize hdd : g_Mg_dueOf f (nI d) R cl te = du at *
  have hpush : ∀ z : Int32, RLo (w_nl + 1) (w_nl + 1) (fpush G (nN w_nl) [p0, p1, 0, nI d, z, 0, 0, 0]) (va_up rho (nN w_nl) (nN f)) (upd (upd (upd (upd (upd lo (7 * (w_nl + 1)).toNatClampNeg p1) ((7 * (w_nl + 1)) + 1).toNatClampNeg f) ((7 * (w_nl + 1)) + 2).toNatClampNeg z) ((7 * (w_nl + 1)) + 4).toNatClampNeg (nI d)) ((7 * (w_nl + 1)) + 6).toNatClampNeg ((-1) - p0)) := fun z => push_ok (by omega) hp0 (by rw [nI_toInt (by omega)]; omega) hL
  have hO' : RO (upd cio p1.toNatClampNeg (vp_nar .boolean 1)) (upd ho p1.toNatClampNeg (w_nl + 1)) := by
    refine ro_upd ?_ hO
    have e1 : (w_nl + 1).toInt = w_nl.toInt + 1 := li_inc (by omega) (by omega)
    constructor
    · intro q
      exact absurd (show (1 : Int32) = 0 from q) (by decide)
    · intro q
      rw [q, li_0] at e1
      omega
  by_cases c8 : F 3 (nN f) = 3
  · have hle := hU.2.2.2.1 (nN f) hlt c8
    rw [if_pos c8, if_pos c8, hle]
    by_cases c9 : le (nN f) = 0
    · have n1 : ¬ F 3 (nN f) ≤ 1 := by rw [c8]; decide
      rw [if_pos c9, if_pos (hlq.mpr n1)]
      rw [if_pos c9, if_neg n1]
      exact ⟨rfl, rfl, hU', hL, hO, hG', hK'⟩
    · rw [if_neg c9]
      rw [if_neg c9]
      exact ⟨rfl, rfl, hU', hL, hO, hG', hK'⟩
  · rw [if_neg c8, if_neg c8]
    by_cases c9 : F 3 (nN f) ≤ 1
    · rw [if_pos c9, if_neg (fun q => hlq.mp q c9)]
      by_cases c10 : du = -1
      · rw [if_pos c10, if_pos c10]
        exact ⟨rfl, rfl, hU', hL, hO, hG', hK'⟩
      · rw [if_neg c10, if_neg c10]
        exact ⟨rfl, rfl, hU', hpush du, hO', hG', hK'⟩
    · rw [if_neg c9, if_pos (hlq.mpr c9)]
      exact ⟨rfl, rfl, hU', hL, hO, hG', hK'⟩
end LD

