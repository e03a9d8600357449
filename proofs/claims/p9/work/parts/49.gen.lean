theorem un_ {vn c d v : Int32} {R : Nat → Int32} (hv : 0 ≤ vn.toInt ∧ vn.toInt ≤ 40) (hc : 0 ≤ c.toInt ∧ c.toInt < 10) (hd : 0 ≤ d.toInt ∧ d.toInt < 10) (h : c.toNatClampNeg ≠ d.toNatClampNeg) : upd R ((10 * vn) + c).toNatClampNeg v ((10 * vn) + d).toNatClampNeg = R ((10 * vn) + d).toNatClampNeg := by
  apply pk_un
  rw [ix10n hv hc, ix10n hv hd]
  omega
def k10w (sz : Int32) (sg : Nat → Int32) (rk pl w : Int32) : Int32 := fin_ sz sg (g_Cg_readOption rk 4 sz pl w sg).2.1 (g_Cg_readOption rk 4 sz pl w sg).2.2
def k10R (sz vn : Int32) (sg : Nat → Int32) (rk pl w : Int32) (R : Nat → Int32) : Nat → Int32 := upd R ((10 * vn) + 8).toNatClampNeg (g_Cg_readOption rk 4 sz pl w sg).1
def k9w (sz : Int32) (sg : Nat → Int32) (rc rk pl w : Int32) : Int32 := k10w sz sg rk (g_Cg_readOption rc 7 sz pl w sg).2.1 (g_Cg_readOption rc 7 sz pl w sg).2.2
def k9R (sz vn : Int32) (sg : Nat → Int32) (rc rk pl w : Int32) (R : Nat → Int32) : Nat → Int32 := k10R sz vn sg rk (g_Cg_readOption rc 7 sz pl w sg).2.1 (g_Cg_readOption rc 7 sz pl w sg).2.2 (upd R ((10 * vn) + 7).toNatClampNeg (g_Cg_readOption rc 7 sz pl w sg).1)
def k8w (sz : Int32) (sg : Nat → Int32) (ga rc rk pl w : Int32) : Int32 := k9w sz sg rc rk (g_Cg_readOption ga 6 sz pl w sg).2.1 (g_Cg_readOption ga 6 sz pl w sg).2.2
def k8R (sz vn : Int32) (sg : Nat → Int32) (ga rc rk pl w : Int32) (R : Nat → Int32) : Nat → Int32 := k9R sz vn sg rc rk (g_Cg_readOption ga 6 sz pl w sg).2.1 (g_Cg_readOption ga 6 sz pl w sg).2.2 (upd R ((10 * vn) + 6).toNatClampNeg (g_Cg_readOption ga 6 sz pl w sg).1)
def k7w (sz : Int32) (sg : Nat → Int32) (re ga rc rk pl w : Int32) : Int32 := k8w sz sg ga rc rk (g_Cg_readOption re 5 sz pl w sg).2.1 (g_Cg_readOption re 5 sz pl w sg).2.2
def k7R (sz vn : Int32) (sg : Nat → Int32) (re ga rc rk pl w : Int32) (R : Nat → Int32) : Nat → Int32 := k8R sz vn sg ga rc rk (g_Cg_readOption re 5 sz pl w sg).2.1 (g_Cg_readOption re 5 sz pl w sg).2.2 (upd R ((10 * vn) + 5).toNatClampNeg (g_Cg_readOption re 5 sz pl w sg).1)
theorem k10_k {sz rk pl w : Int32} {sg : Nat → Int32} (h : ¬ w = -1) : ¬ k10w sz sg rk pl w = -1 := fin_k (ro_k h)
theorem k9_k {sz rc rk pl w : Int32} {sg : Nat → Int32} (h : ¬ w = -1) : ¬ k9w sz sg rc rk pl w = -1 := k10_k (ro_k h)
theorem k8_k {sz ga rc rk pl w : Int32} {sg : Nat → Int32} (h : ¬ w = -1) : ¬ k8w sz sg ga rc rk pl w = -1 := k9_k (ro_k h)
theorem k7_k {sz re ga rc rk pl w : Int32} {sg : Nat → Int32} (h : ¬ w = -1) : ¬ k7w sz sg re ga rc rk pl w = -1 := k8_k (ro_k h)
theorem ok_10 : ∀ l, l < 10 → 4 ≤ l → okS (nI l) (nI (ks_ 4)) = true := by decide +kernel
theorem ok_9 : ∀ l, l < 10 → l = 4 ∨ l = 7 ∨ l = 8 → okS (nI l) (nI (ks_ 7)) = true := by decide +kernel
theorem ok_8 : ∀ l, l < 10 → l = 4 ∨ l = 7 → okS (nI l) (nI (ks_ 6)) = true := by decide +kernel
theorem ok_7 : okS (nI 4) (nI (ks_ 5)) = true := by decide +kernel
theorem no_9 : ∀ iw, iw < 11 → 1 ≤ iw → iw ≠ 4 → ¬ okS (nI (ks_ 7)) (nI (ks_ iw)) = true := by decide +kernel
theorem no_8 : ∀ iw, iw < 11 → 1 ≤ iw → iw ≠ 4 → iw ≠ 7 → ¬ okS (nI (ks_ 6)) (nI (ks_ iw)) = true := by decide +kernel
theorem no_7 : ∀ iw, iw < 11 → (1 ≤ iw ∧ iw ≠ 4 ∧ iw ≠ 7 ∧ iw ≠ 6) → ¬ okS (nI (ks_ 5)) (nI (ks_ iw)) = true := by decide +kernel
theorem no_4 : ∀ iw, iw < 11 → (1 ≤ iw ∧ iw ≠ 4 ∧ iw ≠ 7 ∧ iw ≠ 6 ∧ iw ≠ 5) → ¬ okS (nI 4) (nI (ks_ iw)) = true := by decide +kernel
theorem no_56 : ∀ iw, iw < 11 → 1 ≤ iw → iw ≠ 4 → ¬ okS (nI (ks_ 2)) (nI (ks_ iw)) = true ∧ ¬ okS (nI (ks_ 3)) (nI (ks_ iw)) = true := by decide +kernel
section PH
variable {n : Nat} {sz vn wr : Int32} {sg sa R : Nat → Int32} {b l : Nat} {re ga rc rk : Int32}
theorem ph10 (hsz : i120 sz) (hT : TX sz sg sa) (hb : b ≤ 120) (hl : 4 ≤ l ∧ l < 10) (hno : ∀ iw, 1 ≤ iw → iw < 11 → iw ≠ 4 → okS (nI l) (nI (ks_ iw)) = true → ¬ (lk_ sz sa b = 32 ∧ WC (lk_ sz sa) iw (b + 1))) (hR : R ((10 * vn) + 8).toNatClampNeg = rk) : RS (gl_rd1 (n + 3) sz vn sa (nI l) (nI b) wr R) (k10w sz sg rk (nI b) (-1)) (k10R sz vn sg rk (nI b) (-1) R) := by
  refine opt_ph (n := n + 2) hsz hT (iw := 4) (idx := 8) (by omega) hb (by omega) (ok_10 l hl.2 hl.1) (fun _ _ _ => one_10) hR (fin_ sz sg) (fun _ _ R => R) (fun _ _ h => fin_k h) (fun c v hc => ph_end hsz hT hc) (fun hc => ph_no (n := n + 1) hsz hT hb (by omega) (fun iw q1 q2 q3 q4 => ?_))
  by_cases e : iw = 4
  · rw [e] at q4
    exact hc q4
  · exact hno iw q1 q2 e q3 q4
theorem ph9 (hsz : i120 sz) (hT : TX sz sg sa) (hvn : 0 ≤ vn.toInt ∧ vn.toInt ≤ 40) (hb : b ≤ 120) (hl : l = 4 ∨ l = 7 ∨ l = 8) (hno : ∀ iw, 1 ≤ iw → iw < 11 → iw ≠ 4 → iw ≠ 7 → okS (nI l) (nI (ks_ iw)) = true → ¬ (lk_ sz sa b = 32 ∧ WC (lk_ sz sa) iw (b + 1))) (h7 : R ((10 * vn) + 7).toNatClampNeg = rc) (h8 : R ((10 * vn) + 8).toNatClampNeg = rk) : RS (gl_rd1 (n + 4) sz vn sa (nI l) (nI b) wr R) (k9w sz sg rc rk (nI b) (-1)) (k9R sz vn sg rc rk (nI b) (-1) R) := by
  refine opt_ph (n := n + 3) hsz hT (iw := 7) (idx := 7) (by omega) hb (by omega) (ok_9 l (by omega) hl) (fun _ _ _ => one_9) h7 (k10w sz sg rk) (k10R sz vn sg rk) (fun _ _ h => k10_k h) (fun c v hc => ph10 hsz hT hc (by decide) (fun iw q1 q2 q3 q4 => absurd q4 (no_9 iw q2 q1 q3)) ((un_ hvn (by decide) (by decide) (by decide)).trans h8)) (fun hc => ph10 (n := n + 1) hsz hT hb (by omega) (fun iw q1 q2 q3 q4 q5 => ?_) h8)
  by_cases e : iw = 7
  · rw [e] at q5
    exact hc q5
  · exact hno iw q1 q2 q3 e q4 q5
theorem ph8 (hsz : i120 sz) (hT : TX sz sg sa) (hvn : 0 ≤ vn.toInt ∧ vn.toInt ≤ 40) (hb : b ≤ 120) (hl : l = 4 ∨ l = 7) (hno : ∀ iw, 1 ≤ iw → iw < 11 → iw ≠ 4 → iw ≠ 7 → iw ≠ 6 → okS (nI l) (nI (ks_ iw)) = true → ¬ (lk_ sz sa b = 32 ∧ WC (lk_ sz sa) iw (b + 1))) (h6 : R ((10 * vn) + 6).toNatClampNeg = ga) (h7 : R ((10 * vn) + 7).toNatClampNeg = rc) (h8 : R ((10 * vn) + 8).toNatClampNeg = rk) : RS (gl_rd1 (n + 5) sz vn sa (nI l) (nI b) wr R) (k8w sz sg ga rc rk (nI b) (-1)) (k8R sz vn sg ga rc rk (nI b) (-1) R) := by
  refine opt_ph (n := n + 4) hsz hT (iw := 6) (idx := 6) (by omega) hb (by omega) (ok_8 l (by omega) hl) (fun _ _ _ => one_8) h6 (k9w sz sg rc rk) (k9R sz vn sg rc rk) (fun _ _ h => k9_k h) (fun c v hc => ph9 hsz hT hvn hc (by decide) (fun iw q1 q2 q3 q4 q5 => absurd q5 (no_8 iw q2 q1 q3 q4)) ((un_ hvn (by decide) (by decide) (by decide)).trans h7) ((un_ hvn (by decide) (by decide) (by decide)).trans h8)) (fun hc => ph9 (n := n + 1) hsz hT hvn hb (by omega) (fun iw q1 q2 q3 q4 q5 q6 => ?_) h7 h8)
  by_cases e : iw = 6
  · rw [e] at q6
    exact hc q6
  · exact hno iw q1 q2 q3 q4 e q5 q6
theorem ph7 (hsz : i120 sz) (hT : TX sz sg sa) (hvn : 0 ≤ vn.toInt ∧ vn.toInt ≤ 40) (hb : b ≤ 120) (h5 : R ((10 * vn) + 5).toNatClampNeg = re) (h6 : R ((10 * vn) + 6).toNatClampNeg = ga) (h7 : R ((10 * vn) + 7).toNatClampNeg = rc) (h8 : R ((10 * vn) + 8).toNatClampNeg = rk) : RS (gl_rd1 (n + 6) sz vn sa (nI 4) (nI b) wr R) (k7w sz sg re ga rc rk (nI b) (-1)) (k7R sz vn sg re ga rc rk (nI b) (-1) R) := by
  refine opt_ph (n := n + 5) hsz hT (iw := 5) (idx := 5) (by omega) hb (by omega) ok_7 (fun _ _ _ => one_7) h5 (k8w sz sg ga rc rk) (k8R sz vn sg ga rc rk) (fun _ _ h => k8_k h) (fun c v hc => ph8 hsz hT hvn hc (by decide) (fun iw q1 q2 q3 q4 q5 q6 => absurd q6 (no_7 iw q2 ⟨q1, q3, q4, q5⟩)) ((un_ hvn (by decide) (by decide) (by decide)).trans h6) ((un_ hvn (by decide) (by decide) (by decide)).trans h7) ((un_ hvn (by decide) (by decide) (by decide)).trans h8)) (fun hc => ph8 (n := n + 1) hsz hT hvn hb (by omega) (fun iw q1 q2 q3 q4 q5 q6 q7 => ?_) h6 h7 h8)
  by_cases e : iw = 5
  · rw [e] at q7
    exact hc q7
  · exact absurd q6 (no_4 iw q2 ⟨q1, q3, q4, q5, e⟩)
end PH
abbrev T6 : Type := Int32 × Int32 × Int32 × Int32 × Int32 × Int32
def rrR (vn : Int32) (R : Nat → Int32) (x : T6) : Nat → Int32 := upd (upd (upd (upd R ((10 * vn) + 5).toNatClampNeg x.2.2.1) ((10 * vn) + 6).toNatClampNeg x.2.2.2.1) ((10 * vn) + 7).toNatClampNeg x.2.2.2.2.1) ((10 * vn) + 8).toNatClampNeg x.2.2.2.2.2
theorem rr_l {sz vn pl w de re ga rc rk : Int32} {sg R : Nat → Int32} (h : ¬ g_Cg_lends de = 0) : (g_Cg_readRest sz pl w sg de re ga rc rk).2.1 = k7w sz sg re ga rc rk pl w ∧ rrR vn R (g_Cg_readRest sz pl w sg de re ga rc rk) = k7R sz vn sg re ga rc rk pl w R := by
  unfold g_Cg_readRest k7w k8w k9w k10w fin_ rrR k7R k8R k9R k10R
  rw [if_neg h]
  simp only [bv_eq]
  split
  · rename_i c
    try rw [if_pos c]
    with_reducible exact ⟨rfl, rfl⟩
  · rename_i c
    try rw [if_neg c]
    with_reducible exact ⟨rfl, rfl⟩
theorem rr_r {sz vn pl w de re ga rc rk : Int32} {sg R : Nat → Int32} (hvn : 0 ≤ vn.toInt ∧ vn.toInt ≤ 40) (h : g_Cg_lends de = 0) (h5 : R ((10 * vn) + 5).toNatClampNeg = re) (h6 : R ((10 * vn) + 6).toNatClampNeg = ga) (h7 : R ((10 * vn) + 7).toNatClampNeg = rc) : (g_Cg_readRest sz pl w sg de re ga rc rk).2.1 = k10w sz sg rk pl w ∧ rrR vn R (g_Cg_readRest sz pl w sg de re ga rc rk) = k10R sz vn sg rk pl w R := by
  have e : ∀ z : Int32, upd (upd (upd (upd R ((10 * vn) + 5).toNatClampNeg re) ((10 * vn) + 6).toNatClampNeg ga) ((10 * vn) + 7).toNatClampNeg rc) ((10 * vn) + 8).toNatClampNeg z = upd R ((10 * vn) + 8).toNatClampNeg z := by
    intro z
    rw [upd_id h5, upd_id h6, upd_id h7]
  unfold g_Cg_readRest k10w fin_ rrR k10R
  rw [if_pos h]
  simp only [bv_eq]
  split
  · rename_i c
    try rw [if_pos c]
    with_reducible exact ⟨rfl, e _⟩
  · rename_i c
    try rw [if_neg c]
    with_reducible exact ⟨rfl, e _⟩
theorem rr_k {sz pl w de re ga rc rk : Int32} {sg : Nat → Int32} (h : ¬ w = -1) : ¬ (g_Cg_readRest sz pl w sg de re ga rc rk).2.1 = -1 := by
  by_cases c : g_Cg_lends de = 0
  · unfold g_Cg_readRest
    rw [if_pos c]
    simp only [bv_eq]
    split
    · with_reducible exact ro_k h
    · with_reducible exact mw_k (ts_k (ro_k h))
  · rw [(rr_l (vn := 0) (R := fun _ => 0) c).1]
    exact k7_k h
def DF (vn : Int32) (R : Nat → Int32) (da re ga rc rk : Int32) : Prop := R ((10 * vn) + 3).toNatClampNeg = 0 ∧ R ((10 * vn) + 4).toNatClampNeg = da ∧ R ((10 * vn) + 5).toNatClampNeg = re ∧ R ((10 * vn) + 6).toNatClampNeg = ga ∧ R ((10 * vn) + 7).toNatClampNeg = rc ∧ R ((10 * vn) + 8).toNatClampNeg = rk
theorem df_u {vn c v da re ga rc rk : Int32} {R : Nat → Int32} (hvn : 0 ≤ vn.toInt ∧ vn.toInt ≤ 40) (hc : 0 ≤ c.toInt ∧ c.toInt < 10) (hc3 : c.toNatClampNeg < 3) (h : DF vn R da re ga rc rk) : DF vn (upd R ((10 * vn) + c).toNatClampNeg v) da re ga rc rk := by
  obtain ⟨h3, h4, h5, h6, h7, h8⟩ := h
  have k3 : (3 : Int32).toNatClampNeg = 3 := by decide
  have k4 : (4 : Int32).toNatClampNeg = 4 := by decide
  have k5 : (5 : Int32).toNatClampNeg = 5 := by decide
  have k6 : (6 : Int32).toNatClampNeg = 6 := by decide
  have k7 : (7 : Int32).toNatClampNeg = 7 := by decide
  have k8 : (8 : Int32).toNatClampNeg = 8 := by decide
  exact ⟨(un_ hvn hc (by decide) (by omega)).trans h3, (un_ hvn hc (by decide) (by omega)).trans h4, (un_ hvn hc (by decide) (by omega)).trans h5, (un_ hvn hc (by decide) (by omega)).trans h6, (un_ hvn hc (by decide) (by omega)).trans h7, (un_ hvn hc (by decide) (by omega)).trans h8⟩
def kdw (sz : Int32) (sg : Nat → Int32) (de da re ga rc rk pl w : Int32) : Int32 := (g_Cg_readRest sz (g_Cg_readDeed sz pl w sg de da).1 (g_Cg_readDeed sz pl w sg de da).2.1 sg (g_Cg_readDeed sz pl w sg de da).2.2.1 re ga rc rk).2.1
def kdR (sz vn : Int32) (sg : Nat → Int32) (de da re ga rc rk pl w : Int32) (R : Nat → Int32) : Nat → Int32 := rrR vn (upd (upd R ((10 * vn) + 3).toNatClampNeg (g_Cg_readDeed sz pl w sg de da).2.2.1) ((10 * vn) + 4).toNatClampNeg (g_Cg_readDeed sz pl w sg de da).2.2.2) (g_Cg_readRest sz (g_Cg_readDeed sz pl w sg de da).1 (g_Cg_readDeed sz pl w sg de da).2.1 sg (g_Cg_readDeed sz pl w sg de da).2.2.1 re ga rc rk)
theorem kd_k {sz de da re ga rc rk pl w : Int32} {sg : Nat → Int32} (h : ¬ w = -1) : ¬ kdw sz sg de da re ga rc rk pl w = -1 := by
  unfold kdw
  with_reducible exact rr_k (rd_k h)
theorem kd_e {sz vn de da re ga rc rk pl w x1 x2 x3 x4 : Int32} {sg R : Nat → Int32} (e : g_Cg_readDeed sz pl w sg de da = (x1, x2, x3, x4)) : kdw sz sg de da re ga rc rk pl w = (g_Cg_readRest sz x1 x2 sg x3 re ga rc rk).2.1 ∧ kdR sz vn sg de da re ga rc rk pl w R = rrR vn (upd (upd R ((10 * vn) + 3).toNatClampNeg x3) ((10 * vn) + 4).toNatClampNeg x4) (g_Cg_readRest sz x1 x2 sg x3 re ga rc rk) := by
  unfold kdw kdR
  rw [e]
  with_reducible exact ⟨rfl, rfl⟩
theorem lends_t {sz vn wr : Int32} {sa R : Nat → Int32} (hsz : i120 sz) {b : Nat} (hb : b ≤ 120) (h0 : lk_ sz sa b = 32) (hw : WR (lk_ sz sa) 0 (b + 1)) : g_Mg_lends sz (nI b) wr vn sa R = (1, nI (b + 1 + kl_ 0), wr, upd R ((10 * vn) + 3).toNatClampNeg 1) := by
  have hd : g_Mg_isDigit (lk_ sz sa (b + 1)) = 0 := by
    rw [show lk_ sz sa (b + 1) = nI (96 + kd_ 0 0) from hw.1 0 (by decide)]
    decide
  have hh : lg_cmp (g_Mg_word sz (nI (b + 1)) sa) 661069 = 0 := (lg_cmp_eq _ _).mpr ((hash_wr hsz (by decide) (by omega)).mpr hw)
  unfold g_Mg_lends
  rw [if_pos h0, nI_1, if_pos hd, if_pos hh, pass_wr (by decide) (by omega) hw, bv_eq]
theorem lends_n {sz vn wr : Int32} {sa R : Nat → Int32} (hsz : i120 sz) {b : Nat} (hb : b ≤ 120) (hw : ¬ (lk_ sz sa b = 32 ∧ WR (lk_ sz sa) 0 (b + 1))) (hd : ¬ dgp (lk_ sz sa (b + 1))) (hm : (g_Mg_number 4 3 999 sz (nI b) wr vn sa R).1 = 0) : (g_Mg_lends sz (nI b) wr vn sa R).1 = 0 := by
  unfold g_Mg_lends
  by_cases c : lk_ sz sa b = 32
  · have hd2 : g_Mg_isDigit (lk_ sz sa (b + 1)) = 0 := Classical.byContradiction (fun q => hd q)
    have hh : ¬ lg_cmp (g_Mg_word sz (nI (b + 1)) sa) 661069 = 0 := fun q => hw ⟨c, (hash_wr hsz (iw := 0) (by decide) (by omega)).mp ((lg_cmp_eq _ _).mp q)⟩
    rw [if_pos c, nI_1, if_pos hd2, if_neg hh]
  · rw [if_neg c, bv_eq]
    with_reducible exact hm
theorem lends_d {sz vn wr : Int32} {sa R : Nat → Int32} {b : Nat} (h : ¬ lk_ sz sa b = 32 ∨ dgp (lk_ sz sa (b + 1))) : g_Mg_lends sz (nI b) wr vn sa R = g_Mg_number 4 3 999 sz (nI b) wr vn sa R := by
  unfold g_Mg_lends
  by_cases c : lk_ sz sa b = 32
  · have hd : ¬ g_Mg_isDigit (lk_ sz sa (b + 1)) = 0 := h.resolve_left (fun q => q c)
    rw [if_pos c, nI_1, if_neg hd, bv_eq] <;> with_reducible rfl
  · rw [if_neg c, bv_eq] <;> with_reducible rfl

