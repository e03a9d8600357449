theorem ok_d : ∀ l, l < 4 → okS (nI l) (nI (ks_ 1)) = true ∧ okS (nI l) (nI (ks_ 2)) = true ∧ okS (nI l) (nI (ks_ 3)) = true := by decide +kernel
theorem no_d : ∀ l, l < 4 → ∀ iw, iw < 11 → 4 ≤ iw → iw ≤ 7 → ¬ okS (nI l) (nI (ks_ iw)) = true := by decide +kernel
theorem ln_2 : g_Cg_lends 2 = 0 := by decide
theorem ln_3 : g_Cg_lends 3 = 0 := by decide
theorem ln_0 : ¬ g_Cg_lends 0 = 0 := by decide
theorem ln_1 : ¬ g_Cg_lends 1 = 0 := by decide
section PD
variable {n : Nat} {sz vn wr : Int32} {sg sa R : Nat → Int32} {a l : Nat} {de da re ga rc rk : Int32}
theorem rs_go {la : Int32} {y : Int32 × Int32 × Int32 × (Nat → Int32)} {st b w : Int32} {Q R' : Nat → Int32} {kw : Int32} (e : y = (1, b, w, Q)) (h : RS (gl_rd1 n sz vn sa st b w Q) kw R') : RS (bv y (fun y => if y.1 = 0 then ((3, la, y.2.1, y.2.2.1, y.2.2.2) : XT) else gl_rd1 n sz vn sa st y.2.1 y.2.2.1 y.2.2.2)) kw R' := by
  rw [e, bv_eq]
  show RS (if (1 : Int32) = 0 then _ else gl_rd1 n sz vn sa st b w Q) kw R'
  rw [if_neg (by decide)]
  exact h
theorem rs_no {la : Int32} {y : Int32 × Int32 × Int32 × (Nat → Int32)} {st : Int32} {R' : Nat → Int32} {kw : Int32} (e : y.1 = 0) (h : ¬ kw = -1) : RS (bv y (fun y => if y.1 = 0 then ((3, la, y.2.1, y.2.2.1, y.2.2.2) : XT) else gl_rd1 n sz vn sa st y.2.1 y.2.2.1 y.2.2.2)) kw R' := by
  refine Or.inr ⟨?_, h⟩
  rw [bv_eq, if_pos e]
  exact (by decide : ¬ (3 : Nat) = 0)
set_option maxHeartbeats 4000000 in
theorem ph_deed (hsz : i120 sz) (hT : TX sz sg sa) (hvn : 0 ≤ vn.toInt ∧ vn.toInt ≤ 40) (ha : a ≤ 120) (hl : l < 4) (hno : ∀ iw, 8 ≤ iw → iw < 11 → okS (nI l) (nI (ks_ iw)) = true → ¬ WC (lk_ sz sa) iw a) (hD : DF vn R da re ga rc rk) : RS (bd (n + 7) sz vn sa (nI l) (nI a) wr R) (kdw sz sg de da re ga rc rk (nI a) (-1)) (kdR sz vn sg de da re ga rc rk (nI a) (-1) R) := by
  obtain ⟨h3, h4, h5, h6, h7, h8⟩ := hD
  obtain ⟨o1, o2, o3⟩ := ok_d l hl
  have e33 : (nI 3 : Int32) = 3 := rfl
  by_cases c1 : WC (lk_ sz sa) 1 a
  · have hle := (wr_le hsz (by decide) (by omega) (wc_wr c1)).2
    have e1 := tkw_p hsz hT (by decide) (by omega) c1
    have ed : g_Cg_readDeed sz (nI a) (-1) sg de da = g_Cg_readLength sz (nI (a + kl_ 1)) (-1) sg da := by
      unfold g_Cg_readDeed
      rw [e1, bv_eq]
      show (if (1 : Int32) = 0 then _ else _) = _
      rw [if_neg (by decide), bv_eq] <;> with_reducible rfl
    rw [bd_yes hsz (by decide) (by decide) (by omega) (wc_wr c1) o1, show nI (ks_ 1) = nI 4 from rfl, one_4]
    by_cases c2 : lk_ sz sa (a + kl_ 1) = 32 ∧ WC (lk_ sz sa) 0 (a + kl_ 1 + 1)
    · have hle2 := (wr_le hsz (by decide) (by omega) (wc_wr c2.2)).2
      have el : g_Cg_readLength sz (nI (a + kl_ 1)) (-1) sg da = (nI (a + kl_ 1 + 1 + kl_ 0), -1, 1, da) := by
        unfold g_Cg_readLength
        rw [tws_p hsz hT (by decide) hle c2.1 c2.2, bv_eq]
        show (if (1 : Int32) = 0 then _ else _) = _
        rw [if_neg (by decide)]
      obtain ⟨k1, k2⟩ := kd_e (vn := vn) (re := re) (ga := ga) (rc := rc) (rk := rk) (R := R) (ed.trans el)
      obtain ⟨r1, r2⟩ := rr_l (sz := sz) (vn := vn) (pl := nI (a + kl_ 1 + 1 + kl_ 0)) (w := -1) (re := re) (ga := ga) (rc := rc) (rk := rk) (sg := sg) (R := upd R ((10 * vn) + 3).toNatClampNeg 1) ln_1
      have u4 : upd (upd R ((10 * vn) + 3).toNatClampNeg 1) ((10 * vn) + 4).toNatClampNeg da = upd R ((10 * vn) + 3).toNatClampNeg 1 := upd_id ((un_ hvn (by decide) (by decide) (by decide)).trans h4)
      rw [k1, k2]
      rw [u4, r1, r2]
      exact rs_go (lends_t hsz hle c2.1 (wc_wr c2.2)) (ph7 (n := n + 1) hsz hT hvn hle2 ((un_ hvn (by decide) (by decide) (by decide)).trans h5) ((un_ hvn (by decide) (by decide) (by decide)).trans h6) ((un_ hvn (by decide) (by decide) (by decide)).trans h7) ((un_ hvn (by decide) (by decide) (by decide)).trans h8))
    · have el : g_Cg_readLength sz (nI (a + kl_ 1)) (-1) sg da = ((g_Cg_takeNumber 3 999 sz (nI (a + kl_ 1)) (-1) sg).2.1, (g_Cg_takeNumber 3 999 sz (nI (a + kl_ 1)) (-1) sg).2.2, 0, (g_Cg_takeNumber 3 999 sz (nI (a + kl_ 1)) (-1) sg).1) := by
        unfold g_Cg_readLength
        rw [tws_n hsz hT (by decide) hle c2, bv_eq]
        show (if (0 : Int32) = 0 then _ else _) = _
        rw [if_pos rfl, bv_eq] <;> with_reducible rfl
      rcases num_cases hsz hT (p := 3) (b := a + kl_ 1) (by omega) hle 999 with ⟨c, v, hc, -, -, s1, s2, hM, hC⟩ | ⟨hM, hC⟩
      · rw [e33] at hM hC
        have hC' : g_Cg_takeNumber 3 999 sz (nI (a + kl_ 1)) (-1) sg = (v, nI c, -1) := hC (-1)
        have hM' : g_Mg_number 4 3 999 sz (nI (a + kl_ 1)) wr vn sa R = (1, nI c, wr, upd R ((10 * vn) + 4).toNatClampNeg v) := hM 4 wr vn R
        have el2 : g_Cg_readLength sz (nI (a + kl_ 1)) (-1) sg da = (nI c, -1, 0, v) := by rw [el, hC']
        obtain ⟨k1, k2⟩ := kd_e (vn := vn) (re := re) (ga := ga) (rc := rc) (rk := rk) (R := R) (ed.trans el2)
        obtain ⟨r1, r2⟩ := rr_l (sz := sz) (vn := vn) (pl := nI c) (w := -1) (re := re) (ga := ga) (rc := rc) (rk := rk) (sg := sg) (R := upd R ((10 * vn) + 4).toNatClampNeg v) ln_0
        rw [k1, k2]
        rw [upd_id h3, r1, r2]
        exact rs_go ((lends_d (Or.inr s2)).trans hM') (ph7 (n := n + 1) hsz hT hvn hc ((un_ hvn (by decide) (by decide) (by decide)).trans h5) ((un_ hvn (by decide) (by decide) (by decide)).trans h6) ((un_ hvn (by decide) (by decide) (by decide)).trans h7) ((un_ hvn (by decide) (by decide) (by decide)).trans h8))
      · rw [e33] at hM hC
        have hC' : ¬ (g_Cg_takeNumber 3 999 sz (nI (a + kl_ 1)) (-1) sg).2.2 = -1 := hC (-1)
        have hM' : (g_Mg_number 4 3 999 sz (nI (a + kl_ 1)) wr vn sa R).1 = 0 := hM 4 wr vn R
        have hbad : ¬ kdw sz sg de da re ga rc rk (nI a) (-1) = -1 := by
          rw [(kd_e (vn := vn) (re := re) (ga := ga) (rc := rc) (rk := rk) (R := R) (ed.trans el)).1]
          exact rr_k hC'
        by_cases c3 : lk_ sz sa (a + kl_ 1) = 32 ∧ WR (lk_ sz sa) 0 (a + kl_ 1 + 1)
        · have hcap := il_ne (fun e => c2 ⟨c3.1, c3.2.1, e⟩)
          have hle2 := (wr_le hsz (by decide) (by omega) c3.2).2
          refine Or.inr ⟨?_, hbad⟩
          rw [lends_t hsz hle c3.1 c3.2, bv_eq]
          show ¬ (if (1 : Int32) = 0 then _ else gl_rd1 (n + 7) sz vn sa (nI 4) (nI (a + kl_ 1 + 1 + kl_ 0)) wr _).1 = 0
          rw [if_neg (by decide)]
          exact rd1_ns (Or.inl ((lt_sz (by omega)).mpr (lkx_lt (by omega) hcap.2))) (by decide) hcap.1
        · by_cases c4 : dgp (lk_ sz sa (a + kl_ 1 + 1))
          · exact rs_no (by rw [lends_d (Or.inr c4)]; exact hM') hbad
          · exact rs_no (lends_n hsz hle c3 c4 hM') hbad
  · have e1 := tkw_n hsz hT (by decide) (by omega) c1
    by_cases c2 : WC (lk_ sz sa) 2 a
    · have hle := (wr_le hsz (by decide) (by omega) (wc_wr c2)).2
      have ed : g_Cg_readDeed sz (nI a) (-1) sg de da = (nI (a + kl_ 2), -1, 2, da) := by
        unfold g_Cg_readDeed
        rw [e1, bv_eq]
        show (if (0 : Int32) = 0 then bv (g_Cg_takesWord 2 sz (nI a) sg) _ else _) = _
        rw [if_pos rfl, tkw_p hsz hT (by decide) (by omega) c2, bv_eq]
        show (if (1 : Int32) = 0 then _ else _) = _
        rw [if_neg (by decide)]
      obtain ⟨k1, k2⟩ := kd_e (vn := vn) (re := re) (ga := ga) (rc := rc) (rk := rk) (R := R) ed
      obtain ⟨r1, r2⟩ := rr_r (sz := sz) (vn := vn) (pl := nI (a + kl_ 2)) (w := -1) (rk := rk) (sg := sg) (R := upd R ((10 * vn) + 3).toNatClampNeg 2) hvn ln_2 ((un_ hvn (by decide) (by decide) (by decide)).trans h5) ((un_ hvn (by decide) (by decide) (by decide)).trans h6) ((un_ hvn (by decide) (by decide) (by decide)).trans h7)
      have u4 : upd (upd R ((10 * vn) + 3).toNatClampNeg 2) ((10 * vn) + 4).toNatClampNeg da = upd R ((10 * vn) + 3).toNatClampNeg 2 := upd_id ((un_ hvn (by decide) (by decide) (by decide)).trans h4)
      rw [k1, k2]
      rw [u4, r1, r2, bd_yes hsz (by decide) (by decide) (by omega) (wc_wr c2) o2]
      exact rs_go one_5 (ph10 (n := n + 4) hsz hT hle (by decide) (fun iw q1 q2 q3 q4 => absurd q4 (no_56 iw q2 q1 q3).1) ((un_ hvn (by decide) (by decide) (by decide)).trans h8))
    · have e2 := tkw_n hsz hT (by decide) (by omega) c2
      by_cases c3 : WC (lk_ sz sa) 3 a
      · have hle := (wr_le hsz (by decide) (by omega) (wc_wr c3)).2
        have ed : g_Cg_readDeed sz (nI a) (-1) sg de da = (nI (a + kl_ 3), -1, 3, da) := by
          unfold g_Cg_readDeed
          rw [e1, bv_eq]
          show (if (0 : Int32) = 0 then bv (g_Cg_takesWord 2 sz (nI a) sg) _ else _) = _
          rw [if_pos rfl, e2, bv_eq]
          show (if (0 : Int32) = 0 then bv (g_Cg_takesWord 3 sz (nI a) sg) _ else _) = _
          rw [if_pos rfl, tkw_p hsz hT (by decide) (by omega) c3, bv_eq]
          show (if (1 : Int32) = 0 then _ else _) = _
          rw [if_neg (by decide)]
        obtain ⟨k1, k2⟩ := kd_e (vn := vn) (re := re) (ga := ga) (rc := rc) (rk := rk) (R := R) ed
        obtain ⟨r1, r2⟩ := rr_r (sz := sz) (vn := vn) (pl := nI (a + kl_ 3)) (w := -1) (rk := rk) (sg := sg) (R := upd R ((10 * vn) + 3).toNatClampNeg 3) hvn ln_3 ((un_ hvn (by decide) (by decide) (by decide)).trans h5) ((un_ hvn (by decide) (by decide) (by decide)).trans h6) ((un_ hvn (by decide) (by decide) (by decide)).trans h7)
        have u4 : upd (upd R ((10 * vn) + 3).toNatClampNeg 3) ((10 * vn) + 4).toNatClampNeg da = upd R ((10 * vn) + 3).toNatClampNeg 3 := upd_id ((un_ hvn (by decide) (by decide) (by decide)).trans h4)
        rw [k1, k2]
        rw [u4, r1, r2, bd_yes hsz (by decide) (by decide) (by omega) (wc_wr c3) o3]
        exact rs_go one_6 (ph10 (n := n + 4) hsz hT hle (by decide) (fun iw q1 q2 q3 q4 => absurd q4 (no_56 iw q2 q1 q3).2) ((un_ hvn (by decide) (by decide) (by decide)).trans h8))
      · have e3 := tkw_n hsz hT (by decide) (by omega) c3
        have ed : g_Cg_readDeed sz (nI a) (-1) sg de da = (nI a, g_Cg_markWrong (nI a) (-1), de, da) := by
          unfold g_Cg_readDeed
          rw [e1, bv_eq]
          show (if (0 : Int32) = 0 then bv (g_Cg_takesWord 2 sz (nI a) sg) _ else _) = _
          rw [if_pos rfl, e2, bv_eq]
          show (if (0 : Int32) = 0 then bv (g_Cg_takesWord 3 sz (nI a) sg) _ else _) = _
          rw [if_pos rfl, e3, bv_eq]
          show (if (0 : Int32) = 0 then _ else _) = _
          rw [if_pos rfl, bv_eq] <;> with_reducible rfl
        have hbad : ¬ kdw sz sg de da re ga rc rk (nI a) (-1) = -1 := by
          rw [(kd_e (vn := vn) (re := re) (ga := ga) (rc := rc) (rk := rk) (R := R) ed).1]
          exact rr_k (mw_n (by rw [nI_toInt (by omega)]; omega))
        refine Or.inr ⟨?_, hbad⟩
        by_cases hex : ∃ iw, 1 ≤ iw ∧ iw < 11 ∧ WC (lk_ sz sa) iw a
        · obtain ⟨iw, q1, q2, q3⟩ := hex
          refine bd_bad hsz q2 q1 (by omega) (wc_wr q3) (fun q4 => ?_)
          by_cases p1 : iw = 1
          · rw [p1] at q3; exact c1 q3
          by_cases p2 : iw = 2
          · rw [p2] at q3; exact c2 q3
          by_cases p3 : iw = 3
          · rw [p3] at q3; exact c3 q3
          by_cases p4 : iw ≤ 7
          · exact no_d l hl iw q2 (by omega) p4 q4
          · exact hno iw (by omega) q2 q4 q3
        · exact bd_cap hsz (by omega) (fun iw q1 q2 q3 => hex ⟨iw, q1, q2, q3⟩)
theorem cond_ph (hsz : i120 sz) (hT : TX sz sg sa) {iw p : Nat} {mx idx p1 : Int32} (hiw : 8 ≤ iw ∧ iw ≤ 10) (ha : a ≤ 120) (hp : p ≤ 3) (hp1 : nI p = p1) (hok : okS (nI l) (nI (ks_ iw)) = true)
  (hone : ∀ (pl w : Int32) (Q : Nat → Int32), g_Mg_one (nI (ks_ iw)) sz pl w vn sa Q = g_Mg_number idx p1 mx sz pl w vn sa Q)
  (hR : R ((10 * vn) + idx).toNatClampNeg = -1) (Kw : Int32 → Int32 → Int32) (KR : Int32 → Int32 → (Nat → Int32) → (Nat → Int32)) (hbad : ∀ pl w, ¬ w = -1 → ¬ Kw pl w = -1)
  (h1 : ∀ (c : Nat) (v : Int32), c ≤ 120 → RS (bd n sz vn sa (nI (ks_ iw)) (nI c) wr (upd R ((10 * vn) + idx).toNatClampNeg v)) (Kw (nI c) (-1)) (KR (nI c) (-1) (upd R ((10 * vn) + idx).toNatClampNeg v)))
  (h2 : ¬ WC (lk_ sz sa) iw a → RS (bd (n + 1) sz vn sa (nI l) (nI a) wr R) (Kw (nI a) (-1)) (KR (nI a) (-1) R)) :
  RS (bd (n + 1) sz vn sa (nI l) (nI a) wr R) (Kw (g_Cg_readCondition p1 mx iw sz (nI a) (-1) sg).2.1 (g_Cg_readCondition p1 mx iw sz (nI a) (-1) sg).2.2) (KR (g_Cg_readCondition p1 mx iw sz (nI a) (-1) sg).2.1 (g_Cg_readCondition p1 mx iw sz (nI a) (-1) sg).2.2 (upd R ((10 * vn) + idx).toNatClampNeg (g_Cg_readCondition p1 mx iw sz (nI a) (-1) sg).1)) := by
  subst hp1
  have hks : ks_ iw < 4 ∧ 0 < ks_ iw := (by decide : ∀ iw, iw < 11 → 8 ≤ iw → ks_ iw < 4 ∧ 0 < ks_ iw) iw (by omega) hiw.1
  have hll := le_l (ks_ iw) (by omega)
  by_cases c : WC (lk_ sz sa) iw a
  · have hle := (wr_le hsz (by omega) (by omega) (wc_wr c)).2
    have e2 : g_Cg_readCondition (nI p) mx iw sz (nI a) (-1) sg = ((g_Cg_takeNumber (nI p) mx sz (nI (a + kl_ iw)) (-1) sg).1, g_Cg_takeSpace sz (g_Cg_takeNumber (nI p) mx sz (nI (a + kl_ iw)) (-1) sg).2.1 (g_Cg_takeNumber (nI p) mx sz (nI (a + kl_ iw)) (-1) sg).2.2 sg) := by
      unfold g_Cg_readCondition
      rw [tkw_p hsz hT (by omega) (by omega) c, bv_eq]
      show (if (1 : Int32) = 0 then _ else _) = _
      rw [if_neg (by decide), bv_eq, bv_eq] <;> with_reducible rfl
    rw [bd_yes hsz (by omega) (by omega) (by omega) (wc_wr c) hok, hone]
    rcases num_cases hsz hT (b := a + kl_ iw) hp hle mx with ⟨d, v, hd, -, -, -, -, hM, hC⟩ | ⟨hM, hC⟩
    · rw [hC (-1)] at e2
      have e3 : g_Cg_readCondition (nI p) mx iw sz (nI a) (-1) sg = (v, g_Cg_takeSpace sz (nI d) (-1) sg) := e2
      by_cases c2 : lk_ sz sa d = 32
      · have hdl := lkx_lt (sz := sz) (sa := sa) (i := d) (by omega) (by rw [c2]; decide)
        have z1 := hsz.2
        have et : g_Cg_takeSpace sz (nI d) (-1) sg = (nI (d + 1), -1) := by
          unfold g_Cg_takeSpace
          rw [sg_lk hsz hT (by omega), if_pos c2, nI_1]
        rw [et] at e3
        rw [e3]
        refine rs_go (hM idx wr vn R) ?_
        rw [rd1_sp (Or.inr (fun q => by have := hll.1.mp q; omega)) (fun q => by have := hll.2.mp q; omega) c2, nI_1]
        exact h1 (d + 1) v (by omega)
      · have hb2 : ¬ (g_Cg_takeSpace sz (nI d) (-1) sg).2 = -1 := by
          unfold g_Cg_takeSpace
          rw [sg_lk hsz hT (by omega), if_neg c2, bv_eq]
          with_reducible exact mw_n (q := nI d) (by rw [nI_toInt (by omega)]; omega)
        rw [e3]
        refine Or.inr ⟨?_, hbad _ _ hb2⟩
        rw [hM idx wr vn R, bv_eq]
        show ¬ (if (1 : Int32) = 0 then _ else gl_rd1 (n + 1) sz vn sa (nI (ks_ iw)) (nI d) wr _).1 = 0
        rw [if_neg (by decide)]
        exact rd1_ns (Or.inr (fun q => by have := hll.1.mp q; omega)) (fun q => by have := hll.2.mp q; omega) c2
    · refine rs_no (hM idx wr vn R) (hbad _ _ ?_)
      rw [e2]
      with_reducible exact ts_k (hC (-1))
  · have e2 : g_Cg_readCondition (nI p) mx iw sz (nI a) (-1) sg = (-1, nI a, -1) := by
      unfold g_Cg_readCondition
      rw [tkw_n hsz hT (by omega) (by omega) c, bv_eq]
      show (if (0 : Int32) = 0 then _ else _) = _
      rw [if_pos rfl]
    rw [e2]
    show RS _ (Kw (nI a) (-1)) (KR (nI a) (-1) (upd R ((10 * vn) + idx).toNatClampNeg (-1)))
    rw [upd_id hR]
    exact h2 c
def kpw (sz : Int32) (sg : Nat → Int32) (de da re ga rc rk pl w : Int32) : Int32 := kdw sz sg de da re ga rc rk (g_Cg_readCondition 2 49 10 sz pl w sg).2.1 (g_Cg_readCondition 2 49 10 sz pl w sg).2.2
def kpR (sz vn : Int32) (sg : Nat → Int32) (de da re ga rc rk pl w : Int32) (R : Nat → Int32) : Nat → Int32 := kdR sz vn sg de da re ga rc rk (g_Cg_readCondition 2 49 10 sz pl w sg).2.1 (g_Cg_readCondition 2 49 10 sz pl w sg).2.2 (upd R ((10 * vn) + 2).toNatClampNeg (g_Cg_readCondition 2 49 10 sz pl w sg).1)
def ktw (sz : Int32) (sg : Nat → Int32) (de da re ga rc rk pl w : Int32) : Int32 := kpw sz sg de da re ga rc rk (g_Cg_readCondition 1 9 9 sz pl w sg).2.1 (g_Cg_readCondition 1 9 9 sz pl w sg).2.2
def ktR (sz vn : Int32) (sg : Nat → Int32) (de da re ga rc rk pl w : Int32) (R : Nat → Int32) : Nat → Int32 := kpR sz vn sg de da re ga rc rk (g_Cg_readCondition 1 9 9 sz pl w sg).2.1 (g_Cg_readCondition 1 9 9 sz pl w sg).2.2 (upd R ((10 * vn) + 1).toNatClampNeg (g_Cg_readCondition 1 9 9 sz pl w sg).1)
def kkw (sz : Int32) (sg : Nat → Int32) (de da re ga rc rk pl w : Int32) : Int32 := ktw sz sg de da re ga rc rk (g_Cg_readCondition 1 9 8 sz pl w sg).2.1 (g_Cg_readCondition 1 9 8 sz pl w sg).2.2
def kkR (sz vn : Int32) (sg : Nat → Int32) (de da re ga rc rk pl w : Int32) (R : Nat → Int32) : Nat → Int32 := ktR sz vn sg de da re ga rc rk (g_Cg_readCondition 1 9 8 sz pl w sg).2.1 (g_Cg_readCondition 1 9 8 sz pl w sg).2.2 (upd R ((10 * vn) + 0).toNatClampNeg (g_Cg_readCondition 1 9 8 sz pl w sg).1)
theorem kp_k {sz de da re ga rc rk pl w : Int32} {sg : Nat → Int32} (h : ¬ w = -1) : ¬ kpw sz sg de da re ga rc rk pl w = -1 := by
  unfold kpw
  with_reducible exact kd_k (rc_k h)
theorem kt_k {sz de da re ga rc rk pl w : Int32} {sg : Nat → Int32} (h : ¬ w = -1) : ¬ ktw sz sg de da re ga rc rk pl w = -1 := by
  unfold ktw
  with_reducible exact kp_k (rc_k h)
theorem ok_p : ∀ l, l < 3 → okS (nI l) (nI (ks_ 10)) = true := by decide +kernel
theorem ok_y : ∀ l, l < 2 → okS (nI l) (nI (ks_ 9)) = true := by decide +kernel
theorem ok_k : okS (nI 0) (nI (ks_ 8)) = true := by decide +kernel
theorem no_p : ∀ iw, iw < 11 → 8 ≤ iw → ¬ okS (nI (ks_ 10)) (nI (ks_ iw)) = true := by decide +kernel
theorem no_y : ∀ iw, iw < 11 → 8 ≤ iw → iw ≠ 10 → ¬ okS (nI (ks_ 9)) (nI (ks_ iw)) = true := by decide +kernel
theorem no_k : ∀ iw, iw < 11 → 8 ≤ iw → iw ≠ 10 → iw ≠ 9 → ¬ okS (nI (ks_ 8)) (nI (ks_ iw)) = true := by decide +kernel
theorem ph_p (hsz : i120 sz) (hT : TX sz sg sa) (hvn : 0 ≤ vn.toInt ∧ vn.toInt ≤ 40) (ha : a ≤ 120) (hl : l < 3) (hno : ∀ iw, 8 ≤ iw → iw < 11 → iw ≠ 10 → okS (nI l) (nI (ks_ iw)) = true → ¬ WC (lk_ sz sa) iw a) (h2 : R ((10 * vn) + 2).toNatClampNeg = -1) (hD : DF vn R da re ga rc rk) : RS (bd (n + 8) sz vn sa (nI l) (nI a) wr R) (kpw sz sg de da re ga rc rk (nI a) (-1)) (kpR sz vn sg de da re ga rc rk (nI a) (-1) R) := by
  refine cond_ph (n := n + 7) hsz hT (iw := 10) (p := 2) (idx := 2) (by omega) ha (by omega) rfl (ok_p l hl) (fun _ _ _ => one_3) h2 (kdw sz sg de da re ga rc rk) (kdR sz vn sg de da re ga rc rk) (fun _ _ h => kd_k h) (fun c v hc => ph_deed hsz hT hvn hc (by decide) (fun iw q1 q2 q3 => absurd q3 (no_p iw q2 q1)) (df_u hvn (by decide) (by decide) hD)) (fun hc => ph_deed (n := n + 1) hsz hT hvn ha (by omega) (fun iw q1 q2 q3 q4 => ?_) hD)
  by_cases e : iw = 10
  · rw [e] at q4
    exact hc q4
  · exact hno iw q1 q2 e q3 q4
theorem ph_t (hsz : i120 sz) (hT : TX sz sg sa) (hvn : 0 ≤ vn.toInt ∧ vn.toInt ≤ 40) (ha : a ≤ 120) (hl : l < 2) (hno : ∀ iw, 8 ≤ iw → iw < 11 → iw ≠ 10 → iw ≠ 9 → okS (nI l) (nI (ks_ iw)) = true → ¬ WC (lk_ sz sa) iw a) (h1 : R ((10 * vn) + 1).toNatClampNeg = -1) (h2 : R ((10 * vn) + 2).toNatClampNeg = -1) (hD : DF vn R da re ga rc rk) : RS (bd (n + 9) sz vn sa (nI l) (nI a) wr R) (ktw sz sg de da re ga rc rk (nI a) (-1)) (ktR sz vn sg de da re ga rc rk (nI a) (-1) R) := by
  refine cond_ph (n := n + 8) hsz hT (iw := 9) (p := 1) (idx := 1) (by omega) ha (by omega) rfl (ok_y l hl) (fun _ _ _ => one_2) h1 (kpw sz sg de da re ga rc rk) (kpR sz vn sg de da re ga rc rk) (fun _ _ h => kp_k h) (fun c v hc => ph_p hsz hT hvn hc (by decide) (fun iw q1 q2 q3 q4 => absurd q4 (no_y iw q2 q1 q3)) ((un_ hvn (by decide) (by decide) (by decide)).trans h2) (df_u hvn (by decide) (by decide) hD)) (fun hc => ph_p (n := n + 1) hsz hT hvn ha (by omega) (fun iw q1 q2 q3 q4 q5 => ?_) h2 hD)
  by_cases e : iw = 9
  · rw [e] at q5
    exact hc q5
  · exact hno iw q1 q2 q3 e q4 q5
theorem ph_k (hsz : i120 sz) (hT : TX sz sg sa) (hvn : 0 ≤ vn.toInt ∧ vn.toInt ≤ 40) (ha : a ≤ 120) (h0 : R ((10 * vn) + 0).toNatClampNeg = -1) (h1 : R ((10 * vn) + 1).toNatClampNeg = -1) (h2 : R ((10 * vn) + 2).toNatClampNeg = -1) (hD : DF vn R da re ga rc rk) : RS (bd (n + 10) sz vn sa (nI 0) (nI a) wr R) (kkw sz sg de da re ga rc rk (nI a) (-1)) (kkR sz vn sg de da re ga rc rk (nI a) (-1) R) := by
  refine cond_ph (n := n + 9) hsz hT (iw := 8) (p := 1) (idx := 0) (by omega) ha (by omega) rfl ok_k (fun _ _ _ => one_1) h0 (ktw sz sg de da re ga rc rk) (ktR sz vn sg de da re ga rc rk) (fun _ _ h => kt_k h) (fun c v hc => ph_t hsz hT hvn hc (by decide) (fun iw q1 q2 q3 q4 q5 => absurd q5 (no_k iw q2 q1 q3 q4)) ((un_ hvn (by decide) (by decide) (by decide)).trans h1) ((un_ hvn (by decide) (by decide) (by decide)).trans h2) (df_u hvn (by decide) (by decide) hD)) (fun hc => ph_t (n := n + 1) hsz hT hvn ha (by omega) (fun iw q1 q2 q3 q4 q5 q6 => ?_) h1 h2 hD)
  by_cases e : iw = 8
  · rw [e] at q6
    exact hc q6
  · omega
end PD

