def dgp (x : Int32) : Prop := ¬ g_Mg_isDigit x = 0
theorem dg_out {sz : Int32} {sa : Nat → Int32} (hsz : i120 sz) : ∀ i, 120 ≤ i → i < 120 + 200 → ¬ dgp (lk_ sz sa i) := by
  intro i h h2 hs
  obtain ⟨z0, z1⟩ := hsz
  rw [lkx_out (by omega) (by omega)] at hs
  exact hs rfl
theorem dg_lt {sz : Int32} {sa : Nat → Int32} {i : Nat} (hi : i < 2 ^ 31) (h : dgp (lk_ sz sa i)) : ¬ sz ≤ nI i := by
  intro c
  have e : lk_ sz sa i = -1 := lkx_out hi (by rw [li_le, nI_toInt hi] at c; exact c)
  rw [e] at h
  exact h rfl
theorem dg_val (v x : Int32) : ((10 * v) + x) - 48 = (v * 10) + (x - 48) := by
  rw [Int32.mul_comm, Int32.sub_eq_add_neg, Int32.sub_eq_add_neg, Int32.add_assoc]
theorem le3 {k a : Nat} (h : a ≤ k) (hk : k < 2 ^ 31) : (nI k - nI a ≤ 3) ↔ k - a ≤ 3 := by
  have e3 : (3 : Int32).toInt = 3 := by decide
  rw [nI_subI h hk, li_le, nI_toInt (by omega), e3]
  omega
theorem num_run {sz : Int32} {sg sa : Nat → Int32} (hsz : i120 sz) (hT : TX sz sg sa) {fd p : Nat} (hp : p ≤ 3) : ∀ (m n k : Nat) (v v' : Int32), m < n → fd ≤ k → k + m ≤ 400 → RunP dgp (lk_ sz sa) k m → (k + m ≤ fd + p → v = v') → ∃ x x', gl_number n sz sa (nI k) (nI fd) v = (nI (k + m), nI fd, x) ∧ gl_num n (nI p) sz sg (nI k) (nI fd) v' = (nI (k + m), nI fd, x') ∧ (k + m ≤ fd + p → x = x') := by
  intro m
  induction m with
  | zero =>
    intro n k v v' hn hk hm h hv
    obtain ⟨n, rfl⟩ : ∃ q, n = q + 1 := ⟨n - 1, by omega⟩
    have hd : g_Mg_isDigit (lk_ sz sa k) = 0 := Classical.byContradiction (fun c => h.2 c)
    refine ⟨v, v', ?_, ?_, hv⟩
    · rw [gl_number, if_pos hd] <;> rfl
    · rw [gl_num]
      by_cases c : sz ≤ nI k
      · rw [if_pos c] <;> rfl
      · have hd2 : g_Cg_isDigit (g_Cg_signAt (nI k) sz sg) = 0 := by rw [sg_lk hsz hT (by omega)]; exact hd
        rw [if_neg c, if_pos hd2] <;> rfl
  | succ m ih =>
    intro n k v v' hn hk hm h hv
    obtain ⟨n, rfl⟩ : ∃ q, n = q + 1 := ⟨n - 1, by omega⟩
    have hd : dgp (lk_ sz sa k) := h.1 0 (by omega)
    have hs := sg_lk hsz hT (i := k) (by omega)
    have hd2 : ¬ g_Cg_isDigit (lk_ sz sa k) = 0 := hd
    have e : k + (m + 1) = k + 1 + m := by omega
    rw [gl_number, if_neg hd, gl_num, if_neg (dg_lt (by omega) hd), hs, if_neg hd2, nI_1, e]
    have cp : (nI p ≤ nI k - nI fd) ↔ p ≤ k - fd := by rw [nI_subI hk (by omega), nI_leI (by omega) (by omega)]
    have c3 := le3 (k := k) (a := fd) hk (by omega)
    by_cases a1 : nI k - nI fd ≤ 3
    · rw [if_pos a1]
      by_cases a2 : nI p ≤ nI k - nI fd
      · rw [if_pos a2]
        exact ih n (k + 1) _ _ (by omega) (by omega) (by omega) (run_s h) (fun q => by have := cp.mp a2; omega)
      · rw [if_neg a2]
        refine ih n (k + 1) _ _ (by omega) (by omega) (by omega) (run_s h) (fun q => ?_)
        rw [hv (by omega)]
        exact dg_val _ _
    · rw [if_neg a1]
      have a3 := mt c3.mpr a1
      by_cases a2 : nI p ≤ nI k - nI fd
      · rw [if_pos a2]
        exact ih n (k + 1) _ _ (by omega) (by omega) (by omega) (run_s h) (fun q => by omega)
      · rw [if_neg a2]
        exact ih n (k + 1) _ _ (by omega) (by omega) (by omega) (run_s h) (fun q => by omega)
theorem sp_p {sz wr : Int32} {sa : Nat → Int32} {a : Int32} (h : g_Mg_look a sz sa = 32) : g_Mg_space sz a wr sa = (1, a + 1, wr) := by
  unfold g_Mg_space
  rw [if_pos h]
theorem sp_n {sz wr : Int32} {sa : Nat → Int32} {a : Int32} (h : ¬ g_Mg_look a sz sa = 32) : g_Mg_space sz a wr sa = (0, a, a) := by
  unfold g_Mg_space
  rw [if_neg h]
theorem mw_k {q w : Int32} (h : ¬ w = -1) : ¬ g_Cg_markWrong q w = -1 := by
  unfold g_Cg_markWrong
  rw [if_neg h]
  exact h
theorem mw_n {q w : Int32} (h : 0 ≤ q.toInt) : ¬ g_Cg_markWrong q w = -1 := by
  unfold g_Cg_markWrong
  by_cases c : w = -1
  · rw [if_pos c]
    intro e
    rw [e, em1] at h
    omega
  · rw [if_neg c]
    exact c
theorem ts_k {sz pl w : Int32} {sg : Nat → Int32} (h : ¬ w = -1) : ¬ (g_Cg_takeSpace sz pl w sg).2 = -1 := by
  unfold g_Cg_takeSpace
  refine pt_i (fun x : Int32 × Int32 => ¬ x.2 = -1) (fun _ => h) (fun _ => ?_)
  exact mw_k h
theorem tn_k {p mx sz pl w : Int32} {sg : Nat → Int32} (h : ¬ w = -1) : ¬ (g_Cg_takeNumber p mx sz pl w sg).2.2 = -1 := by
  have h1 : ¬ (g_Cg_takeSpace sz pl w sg).2 = -1 := ts_k h
  unfold g_Cg_takeNumber
  with_reducible refine pt_v (fun x : Int32 × Int32 × Int32 => ¬ x.2.2 = -1) ?_
  with_reducible refine pt_v (fun x : Int32 × Int32 × Int32 => ¬ x.2.2 = -1) ?_
  with_reducible refine pt_i (fun x : Int32 × Int32 × Int32 => ¬ x.2.2 = -1) (fun _ => pt_v (fun x : Int32 × Int32 × Int32 => ¬ x.2.2 = -1) (mw_k h1)) (fun _ => ?_)
  with_reducible refine pt_i (fun x : Int32 × Int32 × Int32 => ¬ x.2.2 = -1) (fun _ => pt_v (fun x : Int32 × Int32 × Int32 => ¬ x.2.2 = -1) (mw_k h1)) (fun _ => ?_)
  with_reducible refine pt_i (fun x : Int32 × Int32 × Int32 => ¬ x.2.2 = -1) (fun _ => h1) (fun _ => pt_v (fun x : Int32 × Int32 × Int32 => ¬ x.2.2 = -1) (mw_k h1))
theorem ro_k {p sz pl w : Int32} {iw : Nat} {sg : Nat → Int32} (h : ¬ w = -1) : ¬ (g_Cg_readOption p iw sz pl w sg).2.2 = -1 := by
  unfold g_Cg_readOption
  with_reducible refine pt_v (fun x : Int32 × Int32 × Int32 => ¬ x.2.2 = -1) ?_
  with_reducible refine pt_i (fun x : Int32 × Int32 × Int32 => ¬ x.2.2 = -1) (fun _ => h) (fun _ => ?_)
  with_reducible refine pt_v (fun x : Int32 × Int32 × Int32 => ¬ x.2.2 = -1) ?_
  with_reducible exact tn_k h
theorem rc_k {p mx sz pl w : Int32} {iw : Nat} {sg : Nat → Int32} (h : ¬ w = -1) : ¬ (g_Cg_readCondition p mx iw sz pl w sg).2.2 = -1 := by
  unfold g_Cg_readCondition
  with_reducible refine pt_v (fun x : Int32 × Int32 × Int32 => ¬ x.2.2 = -1) ?_
  with_reducible refine pt_i (fun x : Int32 × Int32 × Int32 => ¬ x.2.2 = -1) (fun _ => h) (fun _ => ?_)
  with_reducible refine pt_v (fun x : Int32 × Int32 × Int32 => ¬ x.2.2 = -1) ?_
  with_reducible refine pt_v (fun x : Int32 × Int32 × Int32 => ¬ x.2.2 = -1) ?_
  with_reducible exact ts_k (tn_k h)
theorem rl_k {sz pl w da : Int32} {sg : Nat → Int32} (h : ¬ w = -1) : ¬ (g_Cg_readLength sz pl w sg da).2.1 = -1 := by
  unfold g_Cg_readLength
  with_reducible refine pt_v (fun x : Int32 × Int32 × Int32 × Int32 => ¬ x.2.1 = -1) ?_
  with_reducible refine pt_i (fun x : Int32 × Int32 × Int32 × Int32 => ¬ x.2.1 = -1) (fun _ => ?_) (fun _ => h)
  with_reducible refine pt_v (fun x : Int32 × Int32 × Int32 × Int32 => ¬ x.2.1 = -1) ?_
  with_reducible exact tn_k h
theorem rd_k {sz pl w de da : Int32} {sg : Nat → Int32} (h : ¬ w = -1) : ¬ (g_Cg_readDeed sz pl w sg de da).2.1 = -1 := by
  unfold g_Cg_readDeed
  with_reducible refine pt_v (fun x : Int32 × Int32 × Int32 × Int32 => ¬ x.2.1 = -1) ?_
  with_reducible refine pt_i (fun x : Int32 × Int32 × Int32 × Int32 => ¬ x.2.1 = -1) (fun _ => ?_) (fun _ => ?_)
  · with_reducible refine pt_v (fun x : Int32 × Int32 × Int32 × Int32 => ¬ x.2.1 = -1) ?_
    with_reducible refine pt_i (fun x : Int32 × Int32 × Int32 × Int32 => ¬ x.2.1 = -1) (fun _ => ?_) (fun _ => h)
    with_reducible refine pt_v (fun x : Int32 × Int32 × Int32 × Int32 => ¬ x.2.1 = -1) ?_
    with_reducible refine pt_i (fun x : Int32 × Int32 × Int32 × Int32 => ¬ x.2.1 = -1) (fun _ => ?_) (fun _ => h)
    with_reducible refine pt_v (fun x : Int32 × Int32 × Int32 × Int32 => ¬ x.2.1 = -1) ?_
    with_reducible exact mw_k h
  · with_reducible refine pt_v (fun x : Int32 × Int32 × Int32 × Int32 => ¬ x.2.1 = -1) ?_
    with_reducible exact rl_k h
theorem num_cases {sz : Int32} {sg sa : Nat → Int32} (hsz : i120 sz) (hT : TX sz sg sa) {p b : Nat} (hp : p ≤ 3) (hb : b ≤ 120) (mx : Int32) : (∃ (c : Nat) (v : Int32), c ≤ 120 ∧ 0 ≤ v.toInt ∧ v.toInt ≤ mx.toInt ∧ lk_ sz sa b = 32 ∧ dgp (lk_ sz sa (b + 1)) ∧ (∀ (p0 wr vn : Int32) (R : Nat → Int32), g_Mg_number p0 (nI p) mx sz (nI b) wr vn sa R = (1, nI c, wr, upd R ((10 * vn) + p0).toNatClampNeg v)) ∧ (∀ wr : Int32, g_Cg_takeNumber (nI p) mx sz (nI b) wr sg = (v, nI c, wr))) ∨ ((∀ (p0 wr vn : Int32) (R : Nat → Int32), (g_Mg_number p0 (nI p) mx sz (nI b) wr vn sa R).1 = 0) ∧ (∀ wr : Int32, ¬ (g_Cg_takeNumber (nI p) mx sz (nI b) wr sg).2.2 = -1)) := by
  have hsl := sg_lk hsz hT (i := b) (by omega)
  by_cases c0 : lk_ sz sa b = 32
  · have hts : ∀ wr : Int32, g_Cg_takeSpace sz (nI b) wr sg = (nI (b + 1), wr) := by
      intro wr
      unfold g_Cg_takeSpace
      rw [hsl, if_pos c0, nI_1]
    obtain ⟨m, hm, hr⟩ := run_ex (P := dgp) (s := lk_ sz sa) (N := 120) (dg_out hsz) 120 (b + 1) (by omega) (by omega)
    obtain ⟨x, x', n1, n2, n3⟩ := num_run hsz hT (fd := b + 1) hp m 121 (b + 1) 0 0 (by omega) (by omega) (by omega) hr (fun _ => rfl)
    have es : nI (b + 1 + m) - nI (b + 1) = nI m := by
      rw [nI_subI (by omega) (by omega)]
      congr 1
      omega
    have hM : ∀ (p0 wr vn : Int32) (R : Nat → Int32), g_Mg_number p0 (nI p) mx sz (nI b) wr vn sa R = if nI (b + 1 + m) = nI (b + 1) then (0, nI (b + 1 + m), nI (b + 1), R) else if nI p < nI (b + 1 + m) - nI (b + 1) then (0, nI (b + 1 + m), nI (b + 1), R) else if x ≤ mx then (1, nI (b + 1 + m), wr, upd R ((10 * vn) + p0).toNatClampNeg x) else (0, nI (b + 1 + m), nI (b + 1), R) := by
      intro p0 wr vn R
      unfold g_Mg_number
      rw [sp_p c0, bv_eq, nI_1]
      show (if (1 : Int32) = 0 then _ else bv (gl_number 121 sz sa (nI (b + 1)) (nI (b + 1)) 0) _) = _
      rw [if_neg (by decide), n1, bv_eq] <;> rfl
    have hC : ∀ wr : Int32, g_Cg_takeNumber (nI p) mx sz (nI b) wr sg = if nI (b + 1 + m) - nI (b + 1) = 0 then (x', nI (b + 1 + m), g_Cg_markWrong (nI (b + 1)) wr) else if nI p < nI (b + 1 + m) - nI (b + 1) then (x', nI (b + 1 + m), g_Cg_markWrong (nI (b + 1)) wr) else if x' ≤ mx then (x', nI (b + 1 + m), wr) else (x', nI (b + 1 + m), g_Cg_markWrong (nI (b + 1)) wr) := by
      intro wr
      unfold g_Cg_takeNumber
      rw [hts, bv_eq]
      show bv (gl_num 121 (nI p) sz sg (nI (b + 1)) (nI (b + 1)) 0) _ = _
      rw [n2, bv_eq] <;> rfl
    have hmw : ∀ wr : Int32, ¬ g_Cg_markWrong (nI (b + 1)) wr = -1 := fun wr => mw_n (by rw [nI_toInt (by omega)]; omega)
    rw [es] at hM hC
    have q0 : (nI (b + 1 + m) = nI (b + 1)) ↔ m = 0 := by rw [nI_eq (by omega) (by omega)]; omega
    have q1 : (nI m = 0) ↔ m = 0 := by rw [show (0 : Int32) = nI 0 from rfl, nI_eq (by omega) (by omega)]
    have q2 : (nI p < nI m) ↔ p < m := nI_ltI (by omega) (by omega)
    by_cases a0 : m = 0
    · refine Or.inr ⟨fun p0 wr vn R => ?_, fun wr => ?_⟩
      · rw [hM, if_pos (q0.mpr a0)]
      · rw [hC, if_pos (q1.mpr a0)]; exact hmw wr
    · by_cases a1 : p < m
      · refine Or.inr ⟨fun p0 wr vn R => ?_, fun wr => ?_⟩
        · rw [hM, if_neg (mt q0.mp a0), if_pos (q2.mpr a1)]
        · rw [hC, if_neg (mt q1.mp a0), if_pos (q2.mpr a1)]; exact hmw wr
      · have ex : x = x' := n3 (by omega)
        by_cases a2 : x ≤ mx
        · refine Or.inl ⟨b + 1 + m, x, ?_, ?_, li_le.mp a2, c0, hr.1 0 (by omega), fun p0 wr vn R => ?_, fun wr => ?_⟩
          · have h1 := gl_number_at (f_sa := sa) hsz 121 (nI (b + 1)) (nI (b + 1)) 0
            have hd := dg_lt (sz := sz) (sa := sa) (i := b + 1) (by omega) (hr.1 0 (by omega))
            obtain ⟨z0, z1⟩ := hsz
            rw [li_le, nI_toInt (by omega)] at hd
            have h2 := (h1 ⟨by rw [nI_toInt (by omega)]; omega, by rw [nI_toInt (by omega)]; omega⟩).2
            rw [n1] at h2
            have h3 : (nI (b + 1 + m)).toInt ≤ 120 := h2
            rw [nI_toInt (by omega)] at h3
            omega
          · have hd := dg_lt (sz := sz) (sa := sa) (i := b + 1) (by omega) (hr.1 0 (by omega))
            have z1 := hsz.2
            rw [li_le, nI_toInt (by omega)] at hd
            have h1 := gl_number_v (f := sa) hsz 121 (nI (b + 1)) (nI (b + 1)) 0 (by rw [nI_toInt (by omega)]; omega) (Int.le_refl _) (by rw [nI_toInt (by omega)]; omega) (by refine ⟨by decide, by decide, fun _ => by decide, fun _ => by decide, fun _ => by decide, fun _ => by decide⟩)
            rw [n1] at h1
            exact h1
          · rw [hM, if_neg (mt q0.mp a0), if_neg (mt q2.mp a1), if_pos a2]
          · rw [hC, if_neg (mt q1.mp a0), if_neg (mt q2.mp a1), ← ex, if_pos a2]
        · refine Or.inr ⟨fun p0 wr vn R => ?_, fun wr => ?_⟩
          · rw [hM, if_neg (mt q0.mp a0), if_neg (mt q2.mp a1), if_neg a2]
          · rw [hC, if_neg (mt q1.mp a0), if_neg (mt q2.mp a1), ← ex, if_neg a2]; exact hmw wr
  · refine Or.inr ⟨fun p0 wr vn R => ?_, fun wr => ?_⟩
    · unfold g_Mg_number
      rw [sp_n c0, bv_eq]
      show (if (0 : Int32) = 0 then ((0 : Int32), nI b, nI b, R) else _).1 = 0
      rw [if_pos rfl]
    · have h1 : ¬ (g_Cg_takeSpace sz (nI b) wr sg).2 = -1 := by
        unfold g_Cg_takeSpace
        rw [hsl, if_neg c0]
        exact mw_n (by rw [nI_toInt (by omega)]; omega)
      unfold g_Cg_takeNumber
      with_reducible refine pt_v (fun x : Int32 × Int32 × Int32 => ¬ x.2.2 = -1) ?_
      with_reducible refine pt_v (fun x : Int32 × Int32 × Int32 => ¬ x.2.2 = -1) ?_
      with_reducible refine pt_i (fun x : Int32 × Int32 × Int32 => ¬ x.2.2 = -1) (fun _ => pt_v (fun x : Int32 × Int32 × Int32 => ¬ x.2.2 = -1) (mw_k h1)) (fun _ => ?_)
      with_reducible refine pt_i (fun x : Int32 × Int32 × Int32 => ¬ x.2.2 = -1) (fun _ => pt_v (fun x : Int32 × Int32 × Int32 => ¬ x.2.2 = -1) (mw_k h1)) (fun _ => ?_)
      with_reducible refine pt_i (fun x : Int32 × Int32 × Int32 => ¬ x.2.2 = -1) (fun _ => h1) (fun _ => pt_v (fun x : Int32 × Int32 × Int32 => ¬ x.2.2 = -1) (mw_k h1))
def okS (la st : Int32) : Bool := if st ≤ la then false else if 4 ≤ la then (if la = 5 then (if st = 10 then (if st = 0 then false else true) else false) else if la = 6 then (if st = 10 then (if st = 0 then false else true) else false) else (if st ≤ 6 then false else if st = 0 then false else true)) else (if 7 ≤ st then false else if st = 0 then false else true)
theorem chain_eq {T : Type} (la st : Int32) (r t : T) : (if st ≤ la then r else if 4 ≤ la then (if la = 5 then (if st = 10 then (if st = 0 then r else t) else r) else if la = 6 then (if st = 10 then (if st = 0 then r else t) else r) else (if st ≤ 6 then r else if st = 0 then r else t)) else (if 7 ≤ st then r else if st = 0 then r else t)) = if okS la st = true then t else r := by
  have ht : (if true = true then t else r) = t := rfl
  have hr : (if false = true then t else r) = r := rfl
  unfold okS
  by_cases c1 : st ≤ la
  · rw [if_pos c1, if_pos c1, hr]
  rw [if_neg c1, if_neg c1]
  by_cases c2 : 4 ≤ la
  · rw [if_pos c2, if_pos c2]
    by_cases c3 : la = 5
    · rw [if_pos c3, if_pos c3]
      by_cases c4 : st = 10
      · rw [if_pos c4, if_pos c4]
        by_cases c5 : st = 0
        · rw [if_pos c5, if_pos c5, hr]
        · rw [if_neg c5, if_neg c5, ht]
      · rw [if_neg c4, if_neg c4, hr]
    rw [if_neg c3, if_neg c3]
    by_cases c6 : la = 6
    · rw [if_pos c6, if_pos c6]
      by_cases c4 : st = 10
      · rw [if_pos c4, if_pos c4]
        by_cases c5 : st = 0
        · rw [if_pos c5, if_pos c5, hr]
        · rw [if_neg c5, if_neg c5, ht]
      · rw [if_neg c4, if_neg c4, hr]
    rw [if_neg c6, if_neg c6]
    by_cases c4 : st ≤ 6
    · rw [if_pos c4, if_pos c4, hr]
    rw [if_neg c4, if_neg c4]
    by_cases c5 : st = 0
    · rw [if_pos c5, if_pos c5, hr]
    · rw [if_neg c5, if_neg c5, ht]
  rw [if_neg c2, if_neg c2]
  by_cases c4 : 7 ≤ st
  · rw [if_pos c4, if_pos c4, hr]
  rw [if_neg c4, if_neg c4]
  by_cases c5 : st = 0
  · rw [if_pos c5, if_pos c5, hr]
  · rw [if_neg c5, if_neg c5, ht]
theorem okS_ne {la st : Int32} (h : okS la st = true) : ¬ st = 0 ∧ ¬ st ≤ la := by
  have hf : ¬ false = true := by decide
  have h0 := chain_eq la st (0 : Nat) 1
  rw [if_pos h] at h0
  have n1 : ¬ (0 : Nat) = 1 := by decide
  by_cases c1 : st ≤ la
  · rw [if_pos c1] at h0
    exact absurd h0 n1
  refine ⟨fun c0 => ?_, c1⟩
  rw [if_neg c1] at h0
  by_cases c2 : 4 ≤ la
  · rw [if_pos c2] at h0
    by_cases c3 : la = 5
    · rw [if_pos c3] at h0
      by_cases c4 : st = 10
      · rw [if_pos c4, if_pos c0] at h0
        exact absurd h0 n1
      · rw [if_neg c4] at h0
        exact absurd h0 n1
    rw [if_neg c3] at h0
    by_cases c6 : la = 6
    · rw [if_pos c6] at h0
      by_cases c4 : st = 10
      · rw [if_pos c4, if_pos c0] at h0
        exact absurd h0 n1
      · rw [if_neg c4] at h0
        exact absurd h0 n1
    rw [if_neg c6] at h0
    by_cases c4 : st ≤ 6
    · rw [if_pos c4] at h0
      exact absurd h0 n1
    rw [if_neg c4, if_pos c0] at h0
    exact absurd h0 n1
  rw [if_neg c2] at h0
  by_cases c4 : 7 ≤ st
  · rw [if_pos c4] at h0
    exact absurd h0 n1
  rw [if_neg c4, if_pos c0] at h0
  exact absurd h0 n1
abbrev XT : Type := Nat × Int32 × Int32 × Int32 × (Nat → Int32)
def bd (n : Nat) (sz vn : Int32) (sa : Nat → Int32) (la a wr : Int32) (R : Nat → Int32) : XT :=
  if okS la (g_Mg_step (g_Mg_word sz a sa)) = true then bv (g_Mg_pass sz a sa) (fun x => bv (g_Mg_one (g_Mg_step (g_Mg_word sz a sa)) sz x wr vn sa R) (fun y => if y.1 = 0 then (3, la, y.2.1, y.2.2.1, y.2.2.2) else gl_rd1 n sz vn sa (g_Mg_step (g_Mg_word sz a sa)) y.2.1 y.2.2.1 y.2.2.2)) else (2, la, a, wr, R)
theorem rd1_0 {n : Nat} {sz vn la a wr : Int32} {sa R : Nat → Int32} (h : a < sz ∨ ¬ 4 ≤ la) (h0 : la ≤ 0) : gl_rd1 (n + 1) sz vn sa la a wr R = bd n sz vn sa la a wr R := by
  rw [gl_rd1]
  by_cases c : a < sz
  · rw [if_pos c, if_pos h0, chain_eq]; rfl
  · rw [if_neg c, if_neg (h.resolve_left c), if_pos h0, chain_eq]; rfl
theorem rd1_e {n : Nat} {sz vn la a wr : Int32} {sa R : Nat → Int32} (h : ¬ a < sz) (h4 : 4 ≤ la) : gl_rd1 (n + 1) sz vn sa la a wr R = (0, la, a, wr, R) := by
  rw [gl_rd1, if_neg h, if_pos h4]
theorem rd1_sp {n : Nat} {sz vn la a wr : Int32} {sa R : Nat → Int32} (h : a < sz ∨ ¬ 4 ≤ la) (h0 : ¬ la ≤ 0) (hs : g_Mg_look a sz sa = 32) : gl_rd1 (n + 1) sz vn sa la a wr R = bd n sz vn sa la (a + 1) wr R := by
  rw [gl_rd1]
  by_cases c : a < sz
  · rw [if_pos c, if_neg h0, sp_p hs, bv_eq]
    dsimp only
    try rw [if_neg (show ¬ (1 : Int32) = 0 by decide)]
    rw [chain_eq]; rfl
  · rw [if_neg c, if_neg (h.resolve_left c), if_neg h0, sp_p hs, bv_eq]
    dsimp only
    try rw [if_neg (show ¬ (1 : Int32) = 0 by decide)]
    rw [chain_eq]; rfl
theorem rd1_ns {n : Nat} {sz vn la a wr : Int32} {sa R : Nat → Int32} (h : a < sz ∨ ¬ 4 ≤ la) (h0 : ¬ la ≤ 0) (hs : ¬ g_Mg_look a sz sa = 32) : ¬ (gl_rd1 (n + 1) sz vn sa la a wr R).1 = 0 := by
  rw [gl_rd1]
  by_cases c : a < sz
  · rw [if_pos c, if_neg h0, sp_n hs, bv_eq]
    show ¬ (if (0 : Int32) = 0 then ((1, la, a, a, R) : XT) else _).1 = 0
    rw [if_pos rfl]
    exact Nat.one_ne_zero
  · rw [if_neg c, if_neg (h.resolve_left c), if_neg h0, sp_n hs, bv_eq]
    show ¬ (if (0 : Int32) = 0 then ((1, la, a, a, R) : XT) else _).1 = 0
    rw [if_pos rfl]
    exact Nat.one_ne_zero
theorem bd_no {n : Nat} {sz vn la a wr : Int32} {sa R : Nat → Int32} (h : ¬ okS la (g_Mg_step (g_Mg_word sz a sa)) = true) : ¬ (bd n sz vn sa la a wr R).1 = 0 := by
  unfold bd
  rw [if_neg h]
  exact (by decide : ¬ (2 : Nat) = 0)
theorem bd_yes {n : Nat} {sz vn la wr : Int32} {sa R : Nat → Int32} (hsz : i120 sz) {iw a : Nat} (hiw : iw < 11) (h1 : 1 ≤ iw) (ha : a ≤ 121) (hw : WR (lk_ sz sa) iw a) (h : okS la (nI (ks_ iw)) = true) : bd n sz vn sa la (nI a) wr R = bv (g_Mg_one (nI (ks_ iw)) sz (nI (a + kl_ iw)) wr vn sa R) (fun y => if y.1 = 0 then ((3, la, y.2.1, y.2.2.1, y.2.2.2) : XT) else gl_rd1 n sz vn sa (nI (ks_ iw)) y.2.1 y.2.2.1 y.2.2.2) := by
  unfold bd
  rw [step_wr hsz hiw h1 ha hw, if_pos h, pass_wr hiw ha hw]
  rfl
theorem bd_bad {n : Nat} {sz vn la wr : Int32} {sa R : Nat → Int32} (hsz : i120 sz) {iw a : Nat} (hiw : iw < 11) (h1 : 1 ≤ iw) (ha : a ≤ 121) (hw : WR (lk_ sz sa) iw a) (h : ¬ okS la (nI (ks_ iw)) = true) : ¬ (bd n sz vn sa la (nI a) wr R).1 = 0 := by
  apply bd_no
  rw [step_wr hsz hiw h1 ha hw]
  exact h

