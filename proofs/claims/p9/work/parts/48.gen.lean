theorem le_l : ∀ l, l < 11 → ((4 : Int32) ≤ nI l ↔ 4 ≤ l) ∧ (nI l ≤ 0 ↔ l = 0) := by decide +kernel
theorem il_ne {x : Int32} (h : ¬ g_Cg_isLetter x = 0) : ¬ x = 32 ∧ ¬ x = -1 := by
  refine ⟨fun e => h (by rw [e]; decide), fun e => h (by rw [e]; decide)⟩
theorem num_ns {p0 p1 p2 sz wr vn a : Int32} {sa R : Nat → Int32} (h : ¬ g_Mg_look a sz sa = 32) : (g_Mg_number p0 p1 p2 sz a wr vn sa R).1 = 0 := by
  unfold g_Mg_number
  rw [sp_n h, bv_eq]
  show (if (0 : Int32) = 0 then ((0 : Int32), a, a, R) else _).1 = 0
  rw [if_pos rfl]
theorem one_cap {st sz wr vn a : Int32} {sa R : Nat → Int32} (h : ¬ g_Mg_look a sz sa = 32) : (g_Mg_one st sz a wr vn sa R).1 = 0 ∨ ∃ R', g_Mg_one st sz a wr vn sa R = (1, a, wr, R') := by
  unfold g_Mg_one
  by_cases c : st = 1
  · rw [if_pos c, bv_eq]; with_reducible exact Or.inl (num_ns h)
  rw [if_neg c]
  by_cases c : st = 2
  · rw [if_pos c, bv_eq]; with_reducible exact Or.inl (num_ns h)
  rw [if_neg c]
  by_cases c : st = 3
  · rw [if_pos c, bv_eq]; with_reducible exact Or.inl (num_ns h)
  rw [if_neg c]
  by_cases c : st = 4
  · have hl : (g_Mg_lends sz a wr vn sa R).1 = 0 := by
      unfold g_Mg_lends
      rw [if_neg h, bv_eq]
      with_reducible exact num_ns h
    rw [if_pos c, bv_eq]
    with_reducible exact Or.inl hl
  rw [if_neg c]
  by_cases c : st = 5
  · rw [if_pos c]; exact Or.inr ⟨_, rfl⟩
  rw [if_neg c]
  by_cases c : st = 6
  · rw [if_pos c]; exact Or.inr ⟨_, rfl⟩
  rw [if_neg c]
  by_cases c : st = 7
  · rw [if_pos c, bv_eq]; with_reducible exact Or.inl (num_ns h)
  rw [if_neg c]
  by_cases c : st = 8
  · rw [if_pos c, bv_eq]; with_reducible exact Or.inl (num_ns h)
  rw [if_neg c]
  by_cases c : st = 9
  · rw [if_pos c, bv_eq]; with_reducible exact Or.inl (num_ns h)
  rw [if_neg c, bv_eq]
  with_reducible exact Or.inl (num_ns h)
theorem wr_le {sz : Int32} {sa : Nat → Int32} {iw a : Nat} (hsz : i120 sz) (hiw : iw < 11) (ha : a ≤ 121) (h : WR (lk_ sz sa) iw a) : ((a + kl_ iw : Nat) : Int) ≤ sz.toInt ∧ a + kl_ iw ≤ 120 := by
  obtain ⟨z0, z1⟩ := hsz
  obtain ⟨-, -, k3, k4, -⟩ := kz_1 iw hiw
  have h1 := h.1 (kl_ iw - 1) (by omega)
  obtain ⟨-, h2, h3⟩ := kz_3 iw hiw (kl_ iw - 1) (by omega) (by omega)
  have h4 := lkx_lt (sz := sz) (sa := sa) (i := a + (kl_ iw - 1)) (by omega) (by rw [h1]; exact nI_m1 (by omega))
  omega
theorem lt_sz {sz : Int32} {i : Nat} (hi : i < 2 ^ 31) : nI i < sz ↔ (i : Int) < sz.toInt := by
  rw [li_lt, nI_toInt hi]
theorem bd_cap {n : Nat} {sz vn la wr : Int32} {sa R : Nat → Int32} (hsz : i120 sz) {a : Nat} (ha : a ≤ 121) (hno : ∀ iw, 1 ≤ iw → iw < 11 → ¬ WC (lk_ sz sa) iw a) : ¬ (bd (n + 1) sz vn sa la (nI a) wr R).1 = 0 := by
  by_cases h : okS la (g_Mg_step (g_Mg_word sz (nI a) sa)) = true
  · obtain ⟨iw, h1, h2, hw⟩ := step_inv hsz ha (okS_ne h).1
    rw [step_wr hsz h2 h1 ha hw] at h
    have hk := kz_4 iw h2 h1
    have hcap := il_ne (fun e => hno iw h1 h2 ⟨hw.1, e⟩)
    have hle := (wr_le hsz h2 ha hw).2
    rw [bd_yes hsz h2 h1 ha hw h]
    rcases one_cap (st := nI (ks_ iw)) (wr := wr) (vn := vn) (R := R) hcap.1 with e | ⟨R', e⟩
    · rw [bv_eq, if_pos e]
      exact (by decide : ¬ (3 : Nat) = 0)
    · rw [e, bv_eq]
      show ¬ (if (1 : Int32) = 0 then _ else gl_rd1 (n + 1) sz vn sa (nI (ks_ iw)) (nI (a + kl_ iw)) wr R').1 = 0
      rw [if_neg (by decide)]
      exact rd1_ns (Or.inl ((lt_sz (by omega)).mpr (lkx_lt (by omega) hcap.2))) (fun c => by have := ((le_l (ks_ iw) (by omega)).2).mp c; omega) hcap.1
  · exact bd_no h
def RS (x : XT) (w : Int32) (R : Nat → Int32) : Prop := (x.1 = 0 ∧ w = -1 ∧ x.2.2.2.2 = R) ∨ (¬ x.1 = 0 ∧ ¬ w = -1)
def fin_ (sz : Int32) (sg : Nat → Int32) (pl w : Int32) : Int32 := if g_Cg_signAt pl sz sg = -1 then w else g_Cg_markWrong (g_Cg_takeSpace sz pl w sg).1 (g_Cg_takeSpace sz pl w sg).2
theorem fin_k {sz pl w : Int32} {sg : Nat → Int32} (h : ¬ w = -1) : ¬ fin_ sz sg pl w = -1 := by
  unfold fin_
  refine pt_i (fun x : Int32 => ¬ x = -1) (fun _ => h) (fun _ => mw_k (ts_k h))
theorem fin_e {sz w : Int32} {sg sa : Nat → Int32} (hsz : i120 sz) (hT : TX sz sg sa) {b : Nat} (hb : b ≤ 120) (h : ¬ nI b < sz) : fin_ sz sg (nI b) w = w := by
  unfold fin_
  rw [sg_lk hsz hT (by omega), if_pos (lkx_out (by omega) (by rw [lt_sz (by omega)] at h; omega))]
theorem fin_m {sz w : Int32} {sg sa : Nat → Int32} (hsz : i120 sz) (hT : TX sz sg sa) {b : Nat} (hb : b ≤ 120) (h : nI b < sz) : ¬ fin_ sz sg (nI b) w = -1 := by
  unfold fin_
  have h1 := (lkx_in (sa := sa) hsz ((lt_sz (by omega)).mp h)).1
  rw [sg_lk hsz hT (by omega), if_neg (fun e => by rw [e, em1] at h1; omega)]
  exact mw_n (tsp_at hsz ⟨by rw [nI_toInt (by omega)]; omega, by rw [nI_toInt (by omega)]; omega⟩).1
theorem upd_id {R : Nat → Int32} {i : Nat} {v : Int32} (h : R i = v) : upd R i v = R := by
  funext j
  rw [ud_get]
  by_cases c : j = i
  · rw [if_pos c, c, h]
  · rw [if_neg c]
theorem opt_ph {n : Nat} {sz vn wr : Int32} {sg sa R : Nat → Int32} (hsz : i120 sz) (hT : TX sz sg sa) {iw b l : Nat} {idx dv : Int32} (hiw : 4 ≤ iw ∧ iw ≤ 7) (hb : b ≤ 120) (hl : 4 ≤ l ∧ l < 11) (hok : okS (nI l) (nI (ks_ iw)) = true)
  (hone : ∀ (pl w : Int32) (Q : Nat → Int32), g_Mg_one (nI (ks_ iw)) sz pl w vn sa Q = g_Mg_number idx 3 999 sz pl w vn sa Q)
  (hR : R ((10 * vn) + idx).toNatClampNeg = dv) (Kw : Int32 → Int32 → Int32) (KR : Int32 → Int32 → (Nat → Int32) → (Nat → Int32)) (hbad : ∀ pl w, ¬ w = -1 → ¬ Kw pl w = -1)
  (h1 : ∀ (c : Nat) (v : Int32), c ≤ 120 → RS (gl_rd1 n sz vn sa (nI (ks_ iw)) (nI c) wr (upd R ((10 * vn) + idx).toNatClampNeg v)) (Kw (nI c) (-1)) (KR (nI c) (-1) (upd R ((10 * vn) + idx).toNatClampNeg v)))
  (h2 : ¬ (lk_ sz sa b = 32 ∧ WC (lk_ sz sa) iw (b + 1)) → RS (gl_rd1 (n + 1) sz vn sa (nI l) (nI b) wr R) (Kw (nI b) (-1)) (KR (nI b) (-1) R)) :
  RS (gl_rd1 (n + 1) sz vn sa (nI l) (nI b) wr R) (Kw (g_Cg_readOption dv iw sz (nI b) (-1) sg).2.1 (g_Cg_readOption dv iw sz (nI b) (-1) sg).2.2) (KR (g_Cg_readOption dv iw sz (nI b) (-1) sg).2.1 (g_Cg_readOption dv iw sz (nI b) (-1) sg).2.2 (upd R ((10 * vn) + idx).toNatClampNeg (g_Cg_readOption dv iw sz (nI b) (-1) sg).1)) := by
  have hll := le_l l hl.2
  by_cases c : lk_ sz sa b = 32 ∧ WC (lk_ sz sa) iw (b + 1)
  · have hle := (wr_le hsz (by omega) (by omega) (wc_wr c.2)).2
    have e2 : g_Cg_readOption dv iw sz (nI b) (-1) sg = g_Cg_takeNumber 3 999 sz (nI (b + 1 + kl_ iw)) (-1) sg := by
      unfold g_Cg_readOption
      rw [tws_p hsz hT (by omega) hb c.1 c.2, bv_eq]
      show (if (1 : Int32) = 0 then _ else _) = _
      rw [if_neg (by decide), bv_eq] <;> with_reducible rfl
    have hbs : nI b < sz := (lt_sz (by omega)).mpr (lkx_lt (by omega) (by rw [c.1]; decide))
    have e3 : gl_rd1 (n + 1) sz vn sa (nI l) (nI b) wr R = bd n sz vn sa (nI l) (nI (b + 1)) wr R := by
      rw [rd1_sp (Or.inl hbs) (fun q => by have := hll.2.mp q; omega) c.1, nI_1]
    rw [e2, e3, bd_yes hsz (by omega) (by omega) (by omega) (wc_wr c.2) hok, hone]
    rcases num_cases hsz hT (p := 3) (b := b + 1 + kl_ iw) (by omega) hle 999 with ⟨d, v, hd, -, -, -, -, hM, hC⟩ | ⟨hM, hC⟩
    · have hM' : g_Mg_number idx 3 999 sz (nI (b + 1 + kl_ iw)) wr vn sa R = (1, nI d, wr, upd R ((10 * vn) + idx).toNatClampNeg v) := hM idx wr vn R
      have hC' : g_Cg_takeNumber 3 999 sz (nI (b + 1 + kl_ iw)) (-1) sg = (v, nI d, -1) := hC (-1)
      rw [hM', hC', bv_eq]
      show RS (if (1 : Int32) = 0 then _ else gl_rd1 n sz vn sa (nI (ks_ iw)) (nI d) wr (upd R ((10 * vn) + idx).toNatClampNeg v)) (Kw (nI d) (-1)) (KR (nI d) (-1) (upd R ((10 * vn) + idx).toNatClampNeg v))
      rw [if_neg (by decide)]
      exact h1 d v hd
    · have hM' : (g_Mg_number idx 3 999 sz (nI (b + 1 + kl_ iw)) wr vn sa R).1 = 0 := hM idx wr vn R
      refine Or.inr ⟨?_, hbad _ _ (hC (-1))⟩
      rw [bv_eq, if_pos hM']
      exact (by decide : ¬ (3 : Nat) = 0)
  · have e2 : g_Cg_readOption dv iw sz (nI b) (-1) sg = (dv, nI b, -1) := by
      unfold g_Cg_readOption
      rw [tws_n hsz hT (by omega) hb c, bv_eq]
      show (if (0 : Int32) = 0 then _ else _) = _
      rw [if_pos rfl]
    rw [e2]
    show RS _ (Kw (nI b) (-1)) (KR (nI b) (-1) (upd R ((10 * vn) + idx).toNatClampNeg dv))
    rw [upd_id hR]
    exact h2 c
theorem ph_end {n : Nat} {sz vn wr : Int32} {sg sa R : Nat → Int32} (hsz : i120 sz) (hT : TX sz sg sa) {c : Nat} (hc : c ≤ 120) : RS (gl_rd1 (n + 1) sz vn sa (nI 10) (nI c) wr R) (fin_ sz sg (nI c) (-1)) R := by
  by_cases h : nI c < sz
  · refine Or.inr ⟨?_, fin_m hsz hT hc h⟩
    by_cases h2 : lk_ sz sa c = 32
    · rw [rd1_sp (Or.inl h) (by decide) h2]
      apply bd_no
      intro e
      have e2 := (okS_ne e).2
      have e3 := step_le (g_Mg_word sz (nI c + 1) sa)
      rw [li_le, show (nI 10).toInt = 10 from by decide] at e2
      omega
    · exact rd1_ns (Or.inl h) (by decide) h2
  · exact Or.inl ⟨by rw [rd1_e h (by decide)], fin_e hsz hT hc h, by rw [rd1_e h (by decide)]⟩
theorem ph_no {n : Nat} {sz vn wr : Int32} {sg sa R : Nat → Int32} (hsz : i120 sz) (hT : TX sz sg sa) {b l : Nat} (hb : b ≤ 120) (hl : 4 ≤ l ∧ l < 11) (hno : ∀ iw, 1 ≤ iw → iw < 11 → okS (nI l) (nI (ks_ iw)) = true → ¬ (lk_ sz sa b = 32 ∧ WC (lk_ sz sa) iw (b + 1))) : RS (gl_rd1 (n + 2) sz vn sa (nI l) (nI b) wr R) (fin_ sz sg (nI b) (-1)) R := by
  have hll := le_l l hl.2
  by_cases h : nI b < sz
  · refine Or.inr ⟨?_, fin_m hsz hT hb h⟩
    have h0 : ¬ nI l ≤ 0 := fun q => by have := hll.2.mp q; omega
    by_cases h2 : lk_ sz sa b = 32
    · rw [rd1_sp (Or.inl h) h0 h2, nI_1]
      by_cases hex : ∃ iw, 1 ≤ iw ∧ iw < 11 ∧ WC (lk_ sz sa) iw (b + 1)
      · obtain ⟨iw, q1, q2, q3⟩ := hex
        exact bd_bad hsz q2 q1 (by omega) (wc_wr q3) (fun e => hno iw q1 q2 e ⟨h2, q3⟩)
      · exact bd_cap hsz (by omega) (fun iw q1 q2 q3 => hex ⟨iw, q1, q2, q3⟩)
    · exact rd1_ns (Or.inl h) h0 h2
  · exact Or.inl ⟨by rw [rd1_e h (hll.1.mpr hl.1)], fin_e hsz hT hb h, by rw [rd1_e h (hll.1.mpr hl.1)]⟩
theorem one_10 {sz vn pl w : Int32} {sa Q : Nat → Int32} : g_Mg_one (nI 10) sz pl w vn sa Q = g_Mg_number 8 3 999 sz pl w vn sa Q := by
  unfold g_Mg_one
  rw [if_neg (by decide), if_neg (by decide), if_neg (by decide), if_neg (by decide), if_neg (by decide), if_neg (by decide), if_neg (by decide), if_neg (by decide), if_neg (by decide)]
  rfl
theorem one_9 {sz vn pl w : Int32} {sa Q : Nat → Int32} : g_Mg_one (nI 9) sz pl w vn sa Q = g_Mg_number 7 3 999 sz pl w vn sa Q := by
  unfold g_Mg_one
  rw [if_neg (by decide), if_neg (by decide), if_neg (by decide), if_neg (by decide), if_neg (by decide), if_neg (by decide), if_neg (by decide), if_neg (by decide), if_pos (by decide)]
  rfl
theorem one_8 {sz vn pl w : Int32} {sa Q : Nat → Int32} : g_Mg_one (nI 8) sz pl w vn sa Q = g_Mg_number 6 3 999 sz pl w vn sa Q := by
  unfold g_Mg_one
  rw [if_neg (by decide), if_neg (by decide), if_neg (by decide), if_neg (by decide), if_neg (by decide), if_neg (by decide), if_neg (by decide), if_pos (by decide)]
  rfl
theorem one_7 {sz vn pl w : Int32} {sa Q : Nat → Int32} : g_Mg_one (nI 7) sz pl w vn sa Q = g_Mg_number 5 3 999 sz pl w vn sa Q := by
  unfold g_Mg_one
  rw [if_neg (by decide), if_neg (by decide), if_neg (by decide), if_neg (by decide), if_neg (by decide), if_neg (by decide), if_pos (by decide)]
  rfl
theorem one_1 {sz vn pl w : Int32} {sa Q : Nat → Int32} : g_Mg_one (nI 1) sz pl w vn sa Q = g_Mg_number 0 1 9 sz pl w vn sa Q := by
  unfold g_Mg_one
  rw [if_pos (by decide)]
  rfl
theorem one_2 {sz vn pl w : Int32} {sa Q : Nat → Int32} : g_Mg_one (nI 2) sz pl w vn sa Q = g_Mg_number 1 1 9 sz pl w vn sa Q := by
  unfold g_Mg_one
  rw [if_neg (by decide), if_pos (by decide)]
  rfl
theorem one_3 {sz vn pl w : Int32} {sa Q : Nat → Int32} : g_Mg_one (nI 3) sz pl w vn sa Q = g_Mg_number 2 2 49 sz pl w vn sa Q := by
  unfold g_Mg_one
  rw [if_neg (by decide), if_neg (by decide), if_pos (by decide)]
  rfl
theorem one_4 {sz vn pl w : Int32} {sa Q : Nat → Int32} : g_Mg_one (nI 4) sz pl w vn sa Q = g_Mg_lends sz pl w vn sa Q := by
  unfold g_Mg_one
  rw [if_neg (by decide), if_neg (by decide), if_neg (by decide), if_pos (by decide)]
  rfl
theorem one_5 {sz vn pl w : Int32} {sa Q : Nat → Int32} : g_Mg_one (nI 5) sz pl w vn sa Q = (1, pl, w, upd Q ((10 * vn) + 3).toNatClampNeg 2) := by
  unfold g_Mg_one
  rw [if_neg (by decide), if_neg (by decide), if_neg (by decide), if_neg (by decide), if_pos (by decide)]
theorem one_6 {sz vn pl w : Int32} {sa Q : Nat → Int32} : g_Mg_one (nI 6) sz pl w vn sa Q = (1, pl, w, upd Q ((10 * vn) + 3).toNatClampNeg 3) := by
  unfold g_Mg_one
  rw [if_neg (by decide), if_neg (by decide), if_neg (by decide), if_neg (by decide), if_neg (by decide), if_pos (by decide)]

