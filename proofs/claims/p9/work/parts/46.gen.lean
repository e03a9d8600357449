theorem e120 : (120 : Int32).toInt = 120 := by decide
theorem e97 : (97 : Int32).toInt = 97 := by decide
theorem e122 : (122 : Int32).toInt = 122 := by decide
theorem em1 : (-1 : Int32).toInt = -1 := by decide
abbrev lk_ (sz : Int32) (sa : Nat → Int32) (i : Nat) : Int32 := g_Mg_look (nI i) sz sa
def TX (sz : Int32) (sg sa : Nat → Int32) : Prop := ∀ i : Nat, (i : Int) < sz.toInt → sg i = sa i &&& 255
theorem a255 (x : Int32) : ∃ m : Nat, m ≤ 255 ∧ x &&& 255 = nI m := by
  refine ⟨x.toBitVec.toNat &&& 255, Nat.and_le_right, Int32.toBitVec_inj.mp (BitVec.eq_of_toNat_eq ?_)⟩
  have e1 : (x.toBitVec &&& 255#32).toNat = x.toBitVec.toNat &&& 255 := by
    rw [BitVec.toNat_and]
    rfl
  have e2 : (BitVec.ofNat 32 (x.toBitVec.toNat &&& 255)).toNat = x.toBitVec.toNat &&& 255 := by
    rw [BitVec.toNat_ofNat, Nat.mod_eq_of_lt (Nat.lt_of_le_of_lt Nat.and_le_right (by decide))]
  exact e1.trans e2.symm
theorem lkx_in {sz : Int32} {sa : Nat → Int32} {i : Nat} (hsz : i120 sz) (h : (i : Int) < sz.toInt) : 0 ≤ (lk_ sz sa i).toInt ∧ (lk_ sz sa i).toInt ≤ 255 := by
  obtain ⟨z0, z1⟩ := hsz
  obtain ⟨m, hm, e⟩ := a255 (sa i)
  have e2 : lk_ sz sa i = nI m := by
    show g_Mg_look (nI i) sz sa = _
    unfold g_Mg_look
    rw [if_neg (by rw [li_le, nI_toInt (by omega)]; omega), nI_clamp (by omega), e]
  rw [e2, nI_toInt (by omega)]
  omega
theorem lkx_out {sz : Int32} {sa : Nat → Int32} {i : Nat} (hi : i < 2 ^ 31) (h : sz.toInt ≤ (i : Int)) : lk_ sz sa i = -1 := by
  show g_Mg_look (nI i) sz sa = _
  unfold g_Mg_look
  rw [if_pos (by rw [li_le, nI_toInt hi]; exact h)]
theorem lkx_lt {sz : Int32} {sa : Nat → Int32} {i : Nat} (hi : i < 2 ^ 31) (h : ¬ lk_ sz sa i = -1) : (i : Int) < sz.toInt := by
  by_cases c : sz.toInt ≤ (i : Int)
  · exact absurd (lkx_out hi c) h
  · omega
theorem sg_lk {sz : Int32} {sg sa : Nat → Int32} (hsz : i120 sz) (hT : TX sz sg sa) {i : Nat} (hi : i < 2 ^ 31) : g_Cg_signAt (nI i) sz sg = lk_ sz sa i := by
  obtain ⟨z0, z1⟩ := hsz
  show _ = g_Mg_look (nI i) sz sa
  unfold g_Cg_signAt g_Mg_look
  rw [if_neg (nI_pos hi)]
  by_cases c : sz ≤ nI i
  · rw [if_pos c, if_pos c]
  · have c' : (i : Int) < sz.toInt := by
      rw [li_le, nI_toInt hi] at c
      omega
    rw [if_neg c, if_neg c, if_neg (by rw [li_le, nI_toInt hi, e120]; omega), nI_clamp hi, hT i c']
def RunP (P : Int32 → Prop) (s : Nat → Int32) (a m : Nat) : Prop := (∀ t, t < m → P (s (a + t))) ∧ ¬ P (s (a + m))
theorem run_ex {P : Int32 → Prop} {s : Nat → Int32} {N : Nat} (hN : ∀ i, N ≤ i → i < N + 200 → ¬ P (s i)) : ∀ n a, N ≤ a + n → a + n < N + 200 → ∃ m, m ≤ n ∧ RunP P s a m := by
  intro n
  induction n with
  | zero => intro a h h2; exact ⟨0, Nat.le_refl _, fun t ht => by omega, hN _ (by omega) (by omega)⟩
  | succ n ih =>
    intro a h h2
    by_cases c : P (s a)
    · obtain ⟨m, hm, h1, h2⟩ := ih (a + 1) (by omega) (by omega)
      refine ⟨m + 1, by omega, fun t ht => ?_, ?_⟩
      · cases t with
        | zero => exact c
        | succ t =>
          have e : a + (t + 1) = a + 1 + t := by omega
          rw [e]
          exact h1 t (by omega)
      · have e : a + (m + 1) = a + 1 + m := by omega
        rw [e]
        exact h2
    · exact ⟨0, by omega, fun t ht => by omega, c⟩
theorem run_s {P : Int32 → Prop} {s : Nat → Int32} {a m : Nat} (h : RunP P s a (m + 1)) : RunP P s (a + 1) m := by
  refine ⟨fun t ht => ?_, ?_⟩
  · have e : a + 1 + t = a + (t + 1) := by omega
    rw [e]
    exact h.1 (t + 1) (by omega)
  · have e : a + 1 + m = a + (m + 1) := by omega
    rw [e]
    exact h.2
def sm_ (x : Int32) : Prop := 97 ≤ x.toInt ∧ x.toInt ≤ 122
theorem sm_iff {x : Int32} : sm_ x ↔ ¬ x < 97 ∧ ¬ 122 < x := by
  unfold sm_
  rw [li_lt, li_lt, e97, e122]
  omega
theorem sm_out {sz : Int32} {sa : Nat → Int32} (hsz : i120 sz) : ∀ i, 120 ≤ i → i < 120 + 200 → ¬ sm_ (lk_ sz sa i) := by
  intro i h h2 hs
  obtain ⟨z0, z1⟩ := hsz
  rw [lkx_out (by omega) (by omega)] at hs
  unfold sm_ at hs
  rw [em1] at hs
  omega
theorem pass_run {sz : Int32} {sa : Nat → Int32} : ∀ (m n a : Nat), m < n → a + m < 1000 → RunP sm_ (lk_ sz sa) a m → gl_pass n sz sa (nI a) = nI (a + m) := by
  intro m
  induction m with
  | zero =>
    intro n a hn ha h
    obtain ⟨n, rfl⟩ : ∃ q, n = q + 1 := ⟨n - 1, by omega⟩
    rw [gl_pass]
    by_cases c : lk_ sz sa a < 97
    · rw [if_pos c] <;> rfl
    · rw [if_neg c]
      by_cases c2 : 122 < lk_ sz sa a
      · rw [if_pos c2] <;> rfl
      · exact absurd (sm_iff.mpr ⟨c, c2⟩) h.2
  | succ m ih =>
    intro n a hn ha h
    obtain ⟨n, rfl⟩ : ∃ q, n = q + 1 := ⟨n - 1, by omega⟩
    have hs : sm_ (lk_ sz sa a) := h.1 0 (by omega)
    have c := sm_iff.mp hs
    have e : a + (m + 1) = a + 1 + m := by omega
    rw [gl_pass, if_neg c.1, if_neg c.2, nI_1, ih n (a + 1) (by omega) (by omega) (run_s h), e]
def enc_ : List Nat → Nat
  | [] => 0
  | c :: r => 32 * enc_ r + c
def dgt_ (x : Int32) : Nat := x.toInt.toNat - 96
def racc (s : Nat → Int32) : List Nat → Nat → Nat → List Nat
  | acc, _, 0 => acc
  | acc, k, m + 1 => racc s (dgt_ (s k) :: acc) (k + 1) m
def wacc : List Nat → List Nat → List Nat
  | acc, [] => acc
  | acc, c :: l => wacc (c :: acc) l
def dig_ (l : List Nat) : Prop := ∀ c ∈ l, 1 ≤ c ∧ c < 32
theorem dig_0 : dig_ [] := by
  intro x hx
  cases hx
theorem dig_c {c : Nat} {l : List Nat} (h : 1 ≤ c ∧ c < 32) (hl : dig_ l) : dig_ (c :: l) := by
  intro x hx
  rcases List.mem_cons.mp hx with e | e
  · rw [e]; exact h
  · exact hl x e
theorem enc_lt : ∀ l : List Nat, dig_ l → enc_ l < 32 ^ l.length := by
  intro l
  induction l with
  | nil => intro _; exact Nat.one_pos
  | cons c r ih =>
    intro h
    have h1 := ih (fun x hx => h x (List.mem_cons_of_mem _ hx))
    have h2 := (h c (List.mem_cons_self ..)).2
    rw [List.length_cons, Nat.pow_succ]
    show 32 * enc_ r + c < _
    omega
theorem enc_inj : ∀ l1 l2 : List Nat, dig_ l1 → dig_ l2 → enc_ l1 = enc_ l2 → l1 = l2 := by
  intro l1
  induction l1 with
  | nil =>
    intro l2 _ h2 e
    cases l2 with
    | nil => rfl
    | cons c r =>
      have h3 := (h2 c (List.mem_cons_self ..)).1
      have e2 : (0 : Nat) = 32 * enc_ r + c := e
      omega
  | cons c r ih =>
    intro l2 h1 h2 e
    have q1 := h1 c (List.mem_cons_self ..)
    cases l2 with
    | nil =>
      have e2 : 32 * enc_ r + c = (0 : Nat) := e
      omega
    | cons c' r' =>
      have q2 := h2 c' (List.mem_cons_self ..)
      have e2 : 32 * enc_ r + c = 32 * enc_ r' + c' := e
      have ec : c = c' := by omega
      have er : enc_ r = enc_ r' := by omega
      rw [ec, ih r' (fun x hx => h1 x (List.mem_cons_of_mem _ hx)) (fun x hx => h2 x (List.mem_cons_of_mem _ hx)) er]
theorem racc_len {s : Nat → Int32} : ∀ (m k : Nat) (acc : List Nat), (racc s acc k m).length = acc.length + m := by
  intro m
  induction m with
  | zero => intro k acc; rfl
  | succ m ih =>
    intro k acc
    rw [racc, ih, List.length_cons]
    omega
theorem wacc_len : ∀ (l acc : List Nat), (wacc acc l).length = acc.length + l.length := by
  intro l
  induction l with
  | nil => intro acc; rfl
  | cons c l ih =>
    intro acc
    rw [wacc, ih, List.length_cons, List.length_cons]
    omega
theorem racc_inv {s : Nat → Int32} : ∀ (l : List Nat) (m k : Nat) (acc acc' : List Nat), acc.length = acc'.length → racc s acc k m = wacc acc' l → acc = acc' ∧ m = l.length ∧ ∀ t, t < m → dgt_ (s (k + t)) = l.getD t 0 := by
  intro l
  induction l with
  | nil =>
    intro m k acc acc' hl h
    have h2 := congrArg List.length h
    rw [racc_len, wacc_len, List.length_nil] at h2
    have hm : m = 0 := by omega
    subst hm
    exact ⟨h, rfl, fun t ht => by omega⟩
  | cons c l ih =>
    intro m k acc acc' hl h
    cases m with
    | zero =>
      have h2 := congrArg List.length h
      rw [racc_len, wacc_len, List.length_cons] at h2
      omega
    | succ m =>
      rw [racc, wacc] at h
      obtain ⟨e1, e2, e3⟩ := ih m (k + 1) _ _ (by rw [List.length_cons, List.length_cons, hl]) h
      have ea := (List.cons.inj e1).1
      have eb := (List.cons.inj e1).2
      refine ⟨eb, by rw [List.length_cons, e2], fun t ht => ?_⟩
      cases t with
      | zero => exact ea
      | succ t =>
        have e : k + (t + 1) = k + 1 + t := by omega
        rw [e, e3 t (by omega)]
        rfl
theorem racc_eq {s : Nat → Int32} : ∀ (l : List Nat) (k : Nat) (acc : List Nat), (∀ t, t < l.length → dgt_ (s (k + t)) = l.getD t 0) → racc s acc k l.length = wacc acc l := by
  intro l
  induction l with
  | nil => intro k acc _; rfl
  | cons c l ih =>
    intro k acc h
    have h0 : dgt_ (s k) = c := h 0 (by rw [List.length_cons]; omega)
    rw [List.length_cons, racc, wacc, h0]
    refine ih (k + 1) (c :: acc) (fun t ht => ?_)
    have e : k + 1 + t = k + (t + 1) := by omega
    rw [e, h (t + 1) (by rw [List.length_cons]; omega)]
    rfl
theorem nI_subI {k a : Nat} (h : a ≤ k) (hk : k < 2 ^ 31) : nI k - nI a = nI (k - a) := by
  obtain ⟨m, rfl⟩ : ∃ m, k = a + m := ⟨k - a, by omega⟩
  have e1 : (nI (a + m)).toInt = a + m := by rw [nI_toInt hk]; omega
  have e2 : (nI a).toInt = a := nI_toInt (by omega)
  have e3 : (nI (a + m - a)).toInt = m := by rw [nI_toInt (by omega)]; omega
  apply Int32.toInt_inj.mp
  rw [li_sub (by rw [e1, e2]; omega) (by rw [e1, e2]; omega), e1, e2, e3]
  omega
theorem le10 {k a : Nat} (h : a ≤ k) (hk : k < 2 ^ 31) : (nI k - nI a ≤ 10) ↔ k - a ≤ 10 := by
  rw [nI_subI h hk, li_le, nI_toInt (by omega), li_10]
  omega
theorem sm_n {x : Int32} (h : sm_ x) : x = nI (96 + dgt_ x) ∧ 1 ≤ dgt_ x ∧ dgt_ x < 32 := by
  unfold sm_ at h
  unfold dgt_
  refine ⟨?_, by omega, by omega⟩
  apply Int32.toInt_inj.mp
  rw [nI_toInt (by omega)]
  omega
theorem w_stop {sz la : Int32} {sa : Nat → Int32} {n k : Nat} {v : Int64} (hn : 0 < n) (h : ¬ sm_ (lk_ sz sa k)) : (gl_word n sz la sa v (nI k)).1 = v := by
  obtain ⟨n, rfl⟩ : ∃ q, n = q + 1 := ⟨n - 1, by omega⟩
  rw [gl_word]
  by_cases c : lk_ sz sa k < 97
  · rw [if_pos c]
  · rw [if_neg c]
    by_cases c2 : 122 < lk_ sz sa k
    · rw [if_pos c2]
    · exact absurd (sm_iff.mpr ⟨c, c2⟩) h
theorem word_run {sz : Int32} {sa : Nat → Int32} {a : Nat} : ∀ (m n k : Nat) (acc : List Nat), m < n → a ≤ k → k + m ≤ a + 11 → k + m < 1000 → dig_ acc → RunP sm_ (lk_ sz sa) k m → (gl_word n sz (nI a) sa (lN (enc_ acc)) (nI k)).1 = lN (enc_ (racc (lk_ sz sa) acc k m)) ∧ dig_ (racc (lk_ sz sa) acc k m) := by
  intro m
  induction m with
  | zero =>
    intro n k acc hn hk hm hkm hd h
    exact ⟨w_stop (by omega) h.2, hd⟩
  | succ m ih =>
    intro n k acc hn hk hm hkm hd h
    obtain ⟨n, rfl⟩ : ∃ q, n = q + 1 := ⟨n - 1, by omega⟩
    have hs : sm_ (lk_ sz sa k) := h.1 0 (by omega)
    have c := sm_iff.mp hs
    obtain ⟨q1, q2, q3⟩ := sm_n hs
    have hx : (lk_ sz sa k).toInt64 = lN (96 + dgt_ (lk_ sz sa k)) := by
      rw [← nI_l (by omega)]
      exact congrArg Int32.toInt64 q1
    have hv : ((lN (enc_ acc) * 32) + (lk_ sz sa k).toInt64) - 96 = lN (enc_ (dgt_ (lk_ sz sa k) :: acc)) := by
      have e32 : (32 : Int64) = lN 32 := rfl
      have e96 : (96 : Int64) = lN 96 := rfl
      have e9 : enc_ acc * 32 + (96 + dgt_ (lk_ sz sa k)) - 96 = 32 * enc_ acc + dgt_ (lk_ sz sa k) := by omega
      rw [hx, e32, e96, lN_mul, lN_add, lN_sub (by omega), e9]
      rfl
    rw [gl_word, if_neg c.1, if_neg c.2, if_pos ((le10 hk (by omega)).mpr (by omega)), hv, nI_1, racc]
    exact ih n (k + 1) _ (by omega) (by omega) (by omega) (by omega) (dig_c ⟨q2, q3⟩ hd) (run_s h)
theorem word_long {sz : Int32} {sa : Nat → Int32} {a : Nat} : ∀ (m n k : Nat) (v : Int64), 1 ≤ m → m < n → a ≤ k → a + 12 ≤ k + m → k + m < 1000 → RunP sm_ (lk_ sz sa) k m → (gl_word n sz (nI a) sa v (nI k)).1 = 1152921504606846976 := by
  intro m
  induction m with
  | zero => intro n k v h1; omega
  | succ m ih =>
    intro n k v _ hn hk hm hkm h
    obtain ⟨n, rfl⟩ : ∃ q, n = q + 1 := ⟨n - 1, by omega⟩
    have hs : sm_ (lk_ sz sa k) := h.1 0 (by omega)
    have c := sm_iff.mp hs
    have hr := run_s h
    rw [gl_word, if_neg c.1, if_neg c.2, nI_1]
    by_cases c3 : nI k - nI a ≤ 10
    · have c4 := (le10 hk (by omega)).mp c3
      rw [if_pos c3]
      exact ih n (k + 1) _ (by omega) (by omega) (by omega) (by omega) (by omega) hr
    · rw [if_neg c3]
      by_cases c4 : m = 0
      · subst c4
        exact w_stop (by omega) hr.2
      · exact ih n (k + 1) _ (by omega) (by omega) (by omega) (by omega) (by omega) hr
def kz_dg : List (List Nat) := [[20, 5, 18, 13], [12, 5, 14, 4], [18, 5, 6, 21, 19, 5], [6, 1, 9, 12], [18, 1, 14, 11], [18, 5, 14, 5, 23], [7, 1, 16], [18, 5, 3, 1, 12, 12], [11, 9, 14, 4], [20, 25, 16, 5], [16, 5, 18, 19, 15, 14]]
def kz_hs : List Nat := [661069, 398788, 609441381, 197932, 591307, 19052727, 7216, 609322380, 370116, 681477, 542723566]
def kz_st : List Nat := [0, 4, 5, 6, 10, 7, 8, 9, 1, 2, 3]
abbrev kl_ (iw : Nat) : Nat := kz_len.getD iw 0
abbrev kd_ (iw t : Nat) : Nat := (kz_dg.getD iw []).getD t 0
abbrev kh_ (iw : Nat) : Nat := kz_hs.getD iw 0
abbrev ks_ (iw : Nat) : Nat := kz_st.getD iw 0
theorem kz_1 : ∀ iw, iw < 11 → enc_ (wacc [] (kz_dg.getD iw [])) = kh_ iw ∧ (kz_dg.getD iw []).length = kl_ iw ∧ kl_ iw ≤ 6 ∧ 3 ≤ kl_ iw ∧ kh_ iw < 2147483648 := by decide +kernel
theorem kz_2 : ∀ iw, iw < 11 → ∀ c ∈ wacc [] (kz_dg.getD iw []), 1 ≤ c ∧ c < 32 := by decide +kernel
theorem kz_3 : ∀ iw, iw < 11 → ∀ t, t < 6 → t < kl_ iw → ((((kz_byt.getD iw []).getD t 0) &&& 255).toUInt32 % 65536).toInt32 = nI (96 + kd_ iw t) ∧ 1 ≤ kd_ iw t ∧ kd_ iw t < 27 := by decide +kernel
theorem kz_4 : ∀ iw, iw < 11 → 1 ≤ iw → g_Mg_step (lN (kh_ iw)) = nI (ks_ iw) ∧ 1 ≤ ks_ iw ∧ ks_ iw ≤ 10 := by decide +kernel
theorem kz_5 : ∀ iw, iw < 11 → ∀ iw', iw' < 11 → kh_ iw = kh_ iw' → iw = iw' := by decide +kernel
def WR (s : Nat → Int32) (iw a : Nat) : Prop := (∀ t, t < kl_ iw → s (a + t) = nI (96 + kd_ iw t)) ∧ ¬ sm_ (s (a + kl_ iw))
def WC (s : Nat → Int32) (iw a : Nat) : Prop := (∀ t, t < kl_ iw → s (a + t) = nI (96 + kd_ iw t)) ∧ g_Cg_isLetter (s (a + kl_ iw)) = 0
theorem nl_sm {x : Int32} (h : g_Cg_isLetter x = 0) : ¬ sm_ x := by
  intro hs
  have c := sm_iff.mp hs
  unfold g_Cg_isLetter at h
  rw [if_neg c.1, if_pos (by have := hs.2; rw [li_le, e122]; exact this)] at h
  exact absurd h (by decide)
theorem wc_wr {s : Nat → Int32} {iw a : Nat} (h : WC s iw a) : WR s iw a := ⟨h.1, nl_sm h.2⟩
theorem wr_run {s : Nat → Int32} {iw a : Nat} (hiw : iw < 11) (h : WR s iw a) : RunP sm_ s a (kl_ iw) := by
  refine ⟨fun t ht => ?_, h.2⟩
  have h6 := (kz_1 iw hiw).2.2.1
  obtain ⟨-, h1, h2⟩ := kz_3 iw hiw t (by omega) ht
  rw [h.1 t ht]
  unfold sm_
  rw [nI_toInt (by omega)]
  omega
theorem wr_dg {s : Nat → Int32} {iw a : Nat} (hiw : iw < 11) (h : WR s iw a) : ∀ t, t < kl_ iw → dgt_ (s (a + t)) = kd_ iw t := by
  intro t ht
  have h6 := (kz_1 iw hiw).2.2.1
  obtain ⟨-, h1, h2⟩ := kz_3 iw hiw t (by omega) ht
  rw [h.1 t ht]
  unfold dgt_
  rw [nI_toInt (by omega)]
  omega
theorem hash_wr {sz : Int32} {sa : Nat → Int32} (hsz : i120 sz) {iw a : Nat} (hiw : iw < 11) (ha : a ≤ 121) : g_Mg_word sz (nI a) sa = lN (kh_ iw) ↔ WR (lk_ sz sa) iw a := by
  obtain ⟨k1, k2, k3, k3b, k4⟩ := kz_1 iw hiw
  have k5 := kz_2 iw hiw
  constructor
  · intro h
    obtain ⟨m, hm, hr⟩ := run_ex (P := sm_) (s := lk_ sz sa) (N := 120) (sm_out hsz) 120 a (by omega) (by omega)
    have h2 : (gl_word 121 sz (nI a) sa 0 (nI a)).1 = lN (kh_ iw) := h
    by_cases c : m ≤ 11
    · obtain ⟨w1, w2⟩ := word_run (a := a) m 121 a [] (by omega) (by omega) (by omega) (by omega) dig_0 hr
      have w3 : lN (enc_ (racc (lk_ sz sa) [] a m)) = lN (kh_ iw) := w1.symm.trans h2
      have hb := enc_lt _ w2
      rw [racc_len, List.length_nil, Nat.zero_add] at hb
      have hp : 32 ^ m ≤ 32 ^ 11 := Nat.pow_le_pow_right (by decide) c
      have h11 : (32 : Nat) ^ 11 = 36028797018963968 := by decide
      have w4 := (pk_lEQ (by omega) (by omega)).mp w3
      rw [← k1] at w4
      obtain ⟨-, e2, e3⟩ := racc_inv _ m a [] [] rfl (enc_inj _ _ w2 k5 w4)
      rw [k2] at e2
      subst e2
      refine ⟨fun t ht => ?_, hr.2⟩
      rw [(sm_n (hr.1 t ht)).1, e3 t ht]
    · have w1 := word_long (a := a) m 121 a 0 (by omega) (by omega) (by omega) (by omega) (by omega) hr
      have w2 : lN 1152921504606846976 = lN (kh_ iw) := w1.symm.trans h2
      have w4 := (pk_lEQ (by omega) (by omega)).mp w2
      omega
  · intro h
    have hr := wr_run hiw h
    obtain ⟨w1, w2⟩ := word_run (a := a) (kl_ iw) 121 a [] (by omega) (by omega) (by omega) (by omega) dig_0 hr
    have e := racc_eq (s := lk_ sz sa) (kz_dg.getD iw []) a [] (fun t ht => wr_dg hiw h t (by rw [← k2]; exact ht))
    rw [k2] at e
    rw [e, k1] at w1
    exact w1
theorem step_wr {sz : Int32} {sa : Nat → Int32} (hsz : i120 sz) {iw a : Nat} (hiw : iw < 11) (h1 : 1 ≤ iw) (ha : a ≤ 121) (h : WR (lk_ sz sa) iw a) : g_Mg_step (g_Mg_word sz (nI a) sa) = nI (ks_ iw) := by
  rw [(hash_wr hsz hiw ha).mpr h]
  exact (kz_4 iw hiw h1).1
theorem pass_wr {sz : Int32} {sa : Nat → Int32} {iw a : Nat} (hiw : iw < 11) (ha : a ≤ 121) (h : WR (lk_ sz sa) iw a) : g_Mg_pass sz (nI a) sa = nI (a + kl_ iw) := by
  have k3 := (kz_1 iw hiw).2.2.1
  exact pass_run (kl_ iw) 121 a (by omega) (by omega) (wr_run hiw h)
theorem step_inv {sz : Int32} {sa : Nat → Int32} (hsz : i120 sz) {a : Nat} (ha : a ≤ 121) (h : ¬ g_Mg_step (g_Mg_word sz (nI a) sa) = 0) : ∃ iw, 1 ≤ iw ∧ iw < 11 ∧ WR (lk_ sz sa) iw a := by
  have key : ∀ H : Int64, ¬ g_Mg_step H = 0 → ∃ iw, 1 ≤ iw ∧ iw < 11 ∧ H = lN (kh_ iw) := by
    intro H hH
    unfold g_Mg_step at hH
    by_cases c : lg_cmp H 370116 = 0
    · exact ⟨8, by decide, by decide, (lg_cmp_eq _ _).mp c⟩
    rw [if_neg c] at hH
    by_cases c : lg_cmp H 681477 = 0
    · exact ⟨9, by decide, by decide, (lg_cmp_eq _ _).mp c⟩
    rw [if_neg c] at hH
    by_cases c : lg_cmp H 542723566 = 0
    · exact ⟨10, by decide, by decide, (lg_cmp_eq _ _).mp c⟩
    rw [if_neg c] at hH
    by_cases c : lg_cmp H 398788 = 0
    · exact ⟨1, by decide, by decide, (lg_cmp_eq _ _).mp c⟩
    rw [if_neg c] at hH
    by_cases c : lg_cmp H 609441381 = 0
    · exact ⟨2, by decide, by decide, (lg_cmp_eq _ _).mp c⟩
    rw [if_neg c] at hH
    by_cases c : lg_cmp H 197932 = 0
    · exact ⟨3, by decide, by decide, (lg_cmp_eq _ _).mp c⟩
    rw [if_neg c] at hH
    by_cases c : lg_cmp H 19052727 = 0
    · exact ⟨5, by decide, by decide, (lg_cmp_eq _ _).mp c⟩
    rw [if_neg c] at hH
    by_cases c : lg_cmp H 7216 = 0
    · exact ⟨6, by decide, by decide, (lg_cmp_eq _ _).mp c⟩
    rw [if_neg c] at hH
    by_cases c : lg_cmp H 609322380 = 0
    · exact ⟨7, by decide, by decide, (lg_cmp_eq _ _).mp c⟩
    rw [if_neg c] at hH
    by_cases c : lg_cmp H 591307 = 0
    · exact ⟨4, by decide, by decide, (lg_cmp_eq _ _).mp c⟩
    rw [if_neg c] at hH
    exact absurd rfl hH
  obtain ⟨iw, h1, h2, h3⟩ := key _ h
  exact ⟨iw, h1, h2, (hash_wr hsz h2 ha).mp h3⟩
theorem wr_uniq {sz : Int32} {sa : Nat → Int32} (hsz : i120 sz) {iw iw' a : Nat} (hiw : iw < 11) (hiw' : iw' < 11) (ha : a ≤ 121) (h : WR (lk_ sz sa) iw a) (h' : WR (lk_ sz sa) iw' a) : iw = iw' := by
  have e := ((hash_wr hsz hiw ha).mpr h).symm.trans ((hash_wr hsz hiw' ha).mpr h')
  have q1 := (kz_1 iw hiw).2.2.2.2
  have q2 := (kz_1 iw' hiw').2.2.2.2
  exact kz_5 iw hiw iw' hiw' ((pk_lEQ (by omega) (by omega)).mp e)
theorem tword_iff {sz : Int32} {sg sa : Nat → Int32} (hsz : i120 sz) (hT : TX sz sg sa) {iw a : Nat} (hiw : iw < 11) (ha : a ≤ 121) : ∀ (n q : Nat), q ≤ kl_ iw → kl_ iw < n + q → ((gl_tword n iw sz (nI a) sg (nI q)).1 = 0 ↔ ∀ t, q ≤ t → t < kl_ iw → lk_ sz sa (a + t) = nI (96 + kd_ iw t)) := by
  have k3 := (kz_1 iw hiw).2.2.1
  intro n
  induction n with
  | zero => intro q h1 h2; omega
  | succ n ih =>
    intro q h1 h2
    rw [gl_tword]
    by_cases c : nI (kz_len.getD iw 0) ≤ nI q
    · have c' : kl_ iw ≤ q := (nI_leI (by omega) (by omega)).mp c
      rw [if_pos c]
      exact ⟨fun _ t ht ht2 => by omega, fun _ => rfl⟩
    · have c' : q < kl_ iw := by
        have := mt (nI_leI (a := kl_ iw) (b := q) (by omega) (by omega)).mpr c
        omega
      rw [if_neg c, nI_add, sg_lk hsz hT (by omega), nI_clamp (by omega), (kz_3 iw hiw q (by omega) c').1]
      by_cases c2 : lk_ sz sa (a + q) = nI (96 + kd_ iw q)
      · rw [if_pos c2, nI_1, ih (q + 1) (by omega) (by omega)]
        constructor
        · intro h t ht ht2
          by_cases e : t = q
          · rw [e]; exact c2
          · exact h t (by omega) ht2
        · intro h t ht ht2
          exact h t (by omega) ht2
      · rw [if_neg c2]
        constructor
        · intro h
          exact absurd (show (1 : Nat) = 0 from h) (by decide)
        · intro h
          exact absurd (h q (Nat.le_refl _) c') c2
theorem tkw_p {sz : Int32} {sg sa : Nat → Int32} (hsz : i120 sz) (hT : TX sz sg sa) {iw a : Nat} (hiw : iw < 11) (ha : a ≤ 121) (h : WC (lk_ sz sa) iw a) : g_Cg_takesWord iw sz (nI a) sg = (1, nI (a + kl_ iw)) := by
  have k3 : kz_len.getD iw 0 ≤ 6 := (kz_1 iw hiw).2.2.1
  have k3' : kl_ iw ≤ 6 := k3
  have e := (tword_iff hsz hT hiw ha 10 0 (by omega) (by omega)).mpr (fun t _ ht => h.1 t ht)
  have e2 : (gl_tword 10 iw sz (nI a) sg 0).1 = 0 := e
  unfold g_Cg_takesWord
  rw [bv_eq, if_pos e2, nI_add, sg_lk hsz hT (by omega), if_pos h.2]
theorem tkw_n {sz : Int32} {sg sa : Nat → Int32} (hsz : i120 sz) (hT : TX sz sg sa) {iw a : Nat} (hiw : iw < 11) (ha : a ≤ 121) (h : ¬ WC (lk_ sz sa) iw a) : g_Cg_takesWord iw sz (nI a) sg = (0, nI a) := by
  have k3 : kz_len.getD iw 0 ≤ 6 := (kz_1 iw hiw).2.2.1
  have k3' : kl_ iw ≤ 6 := k3
  have e := tword_iff hsz hT hiw ha 10 0 (by omega) (by omega)
  unfold g_Cg_takesWord
  rw [bv_eq]
  by_cases c : (gl_tword 10 iw sz (nI a) sg 0).1 = 0
  · rw [if_pos c, nI_add, sg_lk hsz hT (by omega)]
    by_cases c2 : g_Cg_isLetter (lk_ sz sa (a + kl_ iw)) = 0
    · exact absurd ⟨fun t ht => e.mp c t (by omega) ht, c2⟩ h
    · rw [if_neg c2]
  · rw [if_neg c]
theorem tws_p {sz : Int32} {sg sa : Nat → Int32} (hsz : i120 sz) (hT : TX sz sg sa) {iw b : Nat} (hiw : iw < 11) (hb : b ≤ 120) (h0 : lk_ sz sa b = 32) (h : WC (lk_ sz sa) iw (b + 1)) : g_Cg_takesWordBehindSpace iw sz (nI b) sg = (1, nI (b + 1 + kl_ iw)) := by
  unfold g_Cg_takesWordBehindSpace
  rw [sg_lk hsz hT (by omega), if_pos h0, nI_1, tkw_p hsz hT hiw (by omega) h, bv_eq]
  show (if (1 : Int32) = 0 then _ else ((1 : Int32), nI (b + 1 + kl_ iw))) = _
  rw [if_neg (by decide)]
theorem tws_n {sz : Int32} {sg sa : Nat → Int32} (hsz : i120 sz) (hT : TX sz sg sa) {iw b : Nat} (hiw : iw < 11) (hb : b ≤ 120) (h : ¬ (lk_ sz sa b = 32 ∧ WC (lk_ sz sa) iw (b + 1))) : g_Cg_takesWordBehindSpace iw sz (nI b) sg = (0, nI b) := by
  unfold g_Cg_takesWordBehindSpace
  rw [sg_lk hsz hT (by omega)]
  by_cases c : lk_ sz sa b = 32
  · rw [if_pos c, nI_1, tkw_n hsz hT hiw (by omega) (fun hw => h ⟨c, hw⟩), bv_eq]
    show (if (0 : Int32) = 0 then ((0 : Int32), nI (b + 1) - 1) else _) = _
    rw [if_pos rfl, nI_pred]
  · rw [if_neg c]

