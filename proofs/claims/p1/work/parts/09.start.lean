theorem zm_of {own tx : String} {k : Nat} {A : Array Value} {U : State} (h1 : (Cond.stringRef own k tx).before A U = true) (h2 : (Cond.exactly (.string own k) "java/lang/String").before A U = true) : ∃ a : Nat, vk_R own k tx a U := by
  obtain ⟨a, c, cA, kA, q1, -⟩ := Cond.exactly_spec (args := A) (first := U) (o := none) (s := U) (idx := []) (t := .string own k) (cls := "java/lang/String") h2
  exact ⟨a, vk_R.of h1 q1⟩
def kz_ix : List Nat := [61, 66, 71, 107, 25, 35, 39]
def kz_tm (i : Nat) : Term := .string "LoanRules$RuleText" (kz_ix.getD i 0)
def kz_fl : List Cond := flatC (Jvm.Cond.and given_1 narrow_1)
theorem kz_a : ∀ i, i < nst → (Cond.exactly (kz_tm i) "java/lang/String") ∈ kz_fl := by decide +kernel
theorem kz_b : ∀ i, i < nst → (Cond.eq (.field (kz_tm i) "java/lang/String" "coder" "B") (.int 0)) ∈ kz_fl := by decide +kernel
theorem kz_c : ∀ i, i < nst → (Cond.arrayOf (.field (kz_tm i) "java/lang/String" "value" "[B") .byte) ∈ kz_fl := by decide +kernel
theorem kz_d : ∀ i, i < nst → (Cond.eq (.length (.field (kz_tm i) "java/lang/String" "value" "[B")) (.int (Int32.ofNat (kz_len.getD i 0)))) ∈ kz_fl := by decide +kernel
theorem kz_e : ∀ i, i < nst → ∀ j, j < kz_len.getD i 0 → (Cond.eq (.elem (.field (kz_tm i) "java/lang/String" "value" "[B") (.int (Int32.ofNat j))) (.int ((kz_byt.getD i []).getD j 0))) ∈ kz_fl := by decide +kernel
theorem kz_f : ∀ i, i < nst → ∀ j, j < nst → i ≠ j → (Cond.not (Cond.eq (kz_tm i) (kz_tm j))) ∈ kz_fl ∨ (Cond.not (Cond.eq (kz_tm j) (kz_tm i))) ∈ kz_fl := by decide +kernel
theorem kz_l : ∀ i, i < nst → kz_len.getD i 0 < 2 ^ 31 := by decide
theorem zz_start {b : Nat} {s : State} (hts : ∀ w ∈ lw_tbl, w.before #[Value.ref b] s = true) (hgv : (Jvm.Cond.and given_1 narrow_1).before #[Value.ref b] s = true) : ∃ adK adV : Nat → Nat, zz adK adV (fun q => s.heap.size ≤ q) s := by
  have hs : ∀ c ∈ kz_fl, c.before #[Value.ref b] s = true := flat_of_before _ hgv
  have hA : ∀ a : Nat, a < s.heap.size → ¬ (fun q : Nat => s.heap.size ≤ q) a := fun a h1 h2 => Nat.not_le.mpr h1 h2
  obtain ⟨adK, adV, hS, hE⟩ := vk_Sof (tm := kz_tm) (byt := kz_byt) kz_l (fun i hi => hs _ (kz_a i hi)) (fun i hi => hs _ (kz_b i hi)) (fun i hi => hs _ (kz_c i hi)) (fun i hi => hs _ (kz_d i hi)) (fun i hi j hj => hs _ (kz_e i hi j hj)) (fun i j hi hj hij => (kz_f i hi j hj hij).imp (fun h => hs _ h) (fun h => hs _ h)) hA
  refine ⟨adK, adV, ?_⟩
  unfold zz
  exact ⟨va_Nw.of rfl (hts _ (List.mem_of_getElem? (i := 359) (by decide +kernel : lw_tbl[359]? = some (Cond.methodLinkNest "LoanRules$DaySet" (15 : Nat) ({ cls := "LoanRules", name := "isDay", desc := "(I)Z" } : Jvm.MethodName) "LoanRules")))), va_Nw.of rfl (hts _ (List.mem_of_getElem? (i := 68) (by decide +kernel : lw_tbl[68]? = some (Cond.methodLinkNest "LoanRules" (11 : Nat) ({ cls := "LoanRules$RuleText", name := "<init>", desc := "()V" } : Jvm.MethodName) "LoanRules")))), va_Nw.of rfl (hts _ (List.mem_of_getElem? (i := 90) (by decide +kernel : lw_tbl[90]? = some (Cond.methodLinkNest "LoanRules" (28 : Nat) ({ cls := "LoanRules$DaySet", name := "<init>", desc := "()V" } : Jvm.MethodName) "LoanRules")))), va_Nw.of rfl (hts _ (List.mem_of_getElem? (i := 168) (by decide +kernel : lw_tbl[168]? = some (Cond.methodLinkNest "LoanRules" (84 : Nat) ({ cls := "LoanRules$Rule", name := "<init>", desc := "()V" } : Jvm.MethodName) "LoanRules")))), va_AO.of (hts _ (List.mem_of_getElem? (i := 100) (by decide +kernel : lw_tbl[100]? = some (Cond.arrayOver (FieldType.object "LoanRules$Loan"))))), va_AO.of (hts _ (List.mem_of_getElem? (i := 87) (by decide +kernel : lw_tbl[87]? = some (Cond.arrayOver (FieldType.object "LoanRules$Rule"))))), vk_R.of (hts _ (List.mem_of_getElem? (i := 230) (by decide +kernel : lw_tbl[230]? = some (Cond.stringRef "LoanRules$RuleText" (25 : Nat) "kind")))) (hE 4 (by decide)), vk_R.of (hts _ (List.mem_of_getElem? (i := 309) (by decide +kernel : lw_tbl[309]? = some (Cond.stringRef "LoanRules$RuleText" (35 : Nat) "type")))) (hE 5 (by decide)), vk_R.of (hts _ (List.mem_of_getElem? (i := 310) (by decide +kernel : lw_tbl[310]? = some (Cond.stringRef "LoanRules$RuleText" (39 : Nat) "person")))) (hE 6 (by decide)), vk_R.of (hts _ (List.mem_of_getElem? (i := 315) (by decide +kernel : lw_tbl[315]? = some (Cond.stringRef "LoanRules$RuleText" (61 : Nat) "lend")))) (hE 0 (by decide)), vk_R.of (hts _ (List.mem_of_getElem? (i := 325) (by decide +kernel : lw_tbl[325]? = some (Cond.stringRef "LoanRules$RuleText" (66 : Nat) "refuse")))) (hE 1 (by decide)), vk_R.of (hts _ (List.mem_of_getElem? (i := 326) (by decide +kernel : lw_tbl[326]? = some (Cond.stringRef "LoanRules$RuleText" (71 : Nat) "fail")))) (hE 2 (by decide)), vk_R.of (hts _ (List.mem_of_getElem? (i := 342) (by decide +kernel : lw_tbl[342]? = some (Cond.stringRef "LoanRules$RuleText" (107 : Nat) "rank")))) (hE 3 (by decide)), va_Zof (hts _ (List.mem_of_getElem? (i := 248) (by decide +kernel : lw_tbl[248]? = some (Cond.laysStatic "java/lang/String" "COMPACT_STRINGS" "Z")))) (hts _ (List.mem_of_getElem? (i := 48) (by decide +kernel : lw_tbl[48]? = some (Cond.initialized "java/lang/String")))) (va_eqt (hs _ (by decide +kernel))) hA, va_Zqof (hts _ (List.mem_of_getElem? (i := 268) (by decide +kernel : lw_tbl[268]? = some (Cond.laysStatic "jdk/internal/util/Preconditions" "SIOOBE_FORMATTER" "Ljava/util/function/BiFunction;")))) (hts _ (List.mem_of_getElem? (i := 50) (by decide +kernel : lw_tbl[50]? = some (Cond.initialized "jdk/internal/util/Preconditions")))) (hs _ (by decide +kernel)) hA, zt.of (hts _ (List.mem_of_getElem? (i := 514) (by decide +kernel : lw_tbl[514]? = some (Cond.laysStatic "java/lang/Throwable" "UNASSIGNED_STACK" "[Ljava/lang/StackTraceElement;")))) (hs _ (by decide +kernel)) hA, zt.of (hts _ (List.mem_of_getElem? (i := 516) (by decide +kernel : lw_tbl[516]? = some (Cond.laysStatic "java/lang/Throwable" "SUPPRESSED_SENTINEL" "Ljava/util/List;")))) (hs _ (by decide +kernel)) hA, va_Nw.of rfl (hts _ (List.mem_of_getElem? (i := 491) (by decide +kernel : lw_tbl[491]? = some (Cond.declares ({ cls := "java/lang/RuntimeException", name := "<init>", desc := "(Ljava/lang/String;)V" } : Jvm.MethodName))))), va_Nw.of rfl (hts _ (List.mem_of_getElem? (i := 493) (by decide +kernel : lw_tbl[493]? = some (Cond.declares ({ cls := "java/lang/Exception", name := "<init>", desc := "(Ljava/lang/String;)V" } : Jvm.MethodName))))), va_Nw.of rfl (hts _ (List.mem_of_getElem? (i := 495) (by decide +kernel : lw_tbl[495]? = some (Cond.declares ({ cls := "java/lang/Throwable", name := "<init>", desc := "(Ljava/lang/String;)V" } : Jvm.MethodName))))), va_Nw.of rfl (hts _ (List.mem_of_getElem? (i := 489) (by decide +kernel : lw_tbl[489]? = some (Cond.castable "java/lang/IllegalStateException" "java/lang/IllegalStateException")))), (zm_of (hts _ (List.mem_of_getElem? (i := 526) (by decide +kernel : lw_tbl[526]? = some (Cond.stringRef "LoanRules" (136 : Nat) "the rule of the loan fails")))) (hs (Cond.exactly (.string "LoanRules" 136) "java/lang/String") (by decide +kernel))), hS⟩
theorem eq_isDay (x : Int32) : g_isDay x = g_Mo_isDay x := rfl
theorem eq_isPerson (x : Int32) : g_isPerson x = g_Mo_isPerson x := rfl
theorem eq_isItem (x : Int32) : g_isItem x = g_Mo_isPerson x := rfl
theorem eq_term (x : Int32) : g_term x = g_Mo_term x := by
  unfold g_term g_Mo_term
  rw [eq_isDay]
theorem eq_block (x y : Int32) : g_block x y = g_Mo_block x y := by
  unfold g_block g_Mo_block
  rw [eq_isPerson]
theorem eq_lend0 (x y z : Int32) : g_lend x y z = g_Mo_lend x y z := by
  unfold g_lend g_Mo_lend
  rw [eq_isPerson, eq_isItem, eq_isDay]
theorem eq_lend (x y z : Int32) : lg_cmp (vp_updL (fun _ => 0) (0 : Int32).toNatClampNeg (g_lend x y z).toInt64 (0 : Int32).toNatClampNeg) (g_Mo_lend x y z).toInt64 = 0 := by
  rw [eq_lend0]
  have e : vp_updL (fun _ => 0) (0 : Int32).toNatClampNeg (g_Mo_lend x y z).toInt64 (0 : Int32).toNatClampNeg = (g_Mo_lend x y z).toInt64 := by simp [vp_updL]
  rw [e]
  unfold lg_cmp
  simp
theorem lk_01 (x : Int32) : x = 0 ∨ x = 1 ∨ (¬ x = 0 ∧ ¬ x = 1 ∧ (x < 0 ∨ 1 < x)) := by
  by_cases h0 : x = 0
  · exact Or.inl h0
  · by_cases h1 : x = 1
    · exact Or.inr (Or.inl h1)
    · refine Or.inr (Or.inr ⟨h0, h1, ?_⟩)
      rw [Int32.lt_iff_toInt_lt, Int32.lt_iff_toInt_lt]
      have e0 : (0 : Int32).toInt = 0 := by decide
      have e1 : (1 : Int32).toInt = 1 := by decide
      have n0 : x.toInt ≠ 0 := fun q => h0 (Int32.toInt_inj.mp (by rw [q, e0]))
      have n1 : x.toInt ≠ 1 := fun q => h1 (Int32.toInt_inj.mp (by rw [q, e1]))
      omega
theorem eq_row (x y z : Int32) : g_row x y z = g_Mo_row x y z := by
  unfold g_row g_Mo_row
  rw [eq_isItem, eq_isPerson]
  rcases lk_01 x with rfl | rfl | ⟨h0, h1, h⟩
  · by_cases hp : g_Mo_isPerson y = 0 <;> by_cases hz : z < 0 <;> by_cases h9 : z ≤ 9 <;> simp (decide := true) [hp, hz, h9]
  · by_cases hp : g_Mo_isPerson y = 0 <;> by_cases hz : z < 0 <;> by_cases h9 : z ≤ 9 <;> simp (decide := true) [hp, hz, h9]
  · rcases h with h | h
    · by_cases hz : z < 0 <;> by_cases h9 : z ≤ 9 <;> simp (decide := true) [h0, h1, h, hz, h9]
    · have h5 : ¬ x < 0 := by
        rw [Int32.lt_iff_toInt_lt] at h ⊢
        have e0 : (0 : Int32).toInt = 0 := by decide
        have e1 : (1 : Int32).toInt = 1 := by decide
        omega
      by_cases hz : z < 0 <;> by_cases h9 : z ≤ 9 <;> simp (decide := true) [h0, h1, h, h5, hz, h9]
theorem lk_Lb {L : Nat} (h : L ≤ 4) : Int32.ofNat L - 4 < 4 := by
  have : ∀ k, k < 5 → Int32.ofNat k - 4 < 4 := by decide
  exact this L (by omega)
theorem lk_L4 {L : Nat} (h : L ≤ 4) (c : ¬ Int32.ofNat L - 4 < 0) : L = 4 := by
  have : ∀ k, k < 5 → ¬ Int32.ofNat k - 4 < 0 → k = 4 := by decide
  exact this L (by omega) c
