def zt (C n d : String) (A : Nat → Prop) (U : State) (H : Heap) : Prop := ∃ (cf : ClassId) (kf : Class) (fi : Nat) (f : Field) (a : Nat) (cell : Cell) (v : Value), U.vm.findClass C = some cf ∧ U.fieldFound? C n d = some (cf, kf, fi, f) ∧ f.isStatic = true ∧ kf.statics = some a ∧ cell.vm.isStatics = true ∧ cell.cls = cf ∧ f.slot < cell.slots.size ∧ kf.staticTypes[f.slot]? = some f.type ∧ cell.slots[f.slot]? = some v ∧ v.isRef = true ∧ H[a]? = some cell ∧ ¬ A a
theorem zt.moved {C n d : String} {A : Nat → Prop} {u U : State} {H : Heap} (hvm : u.vm.Alike U.vm) (h : zt C n d A u H) : zt C n d A U H := by
  obtain ⟨cf, kf, fi, f, a, cell, v, h0, h1, h2, h3, h4, h5, h6, h7, h8⟩ := h
  obtain ⟨k', hi', he⟩ := State.fieldFound?_setVm hvm h1
  exact ⟨cf, k', fi, f, a, cell, v, by rw [hvm.findClass]; exact h0, hi', h2, by rw [he]; exact h3, h4, h5, h6, by rw [he]; exact h7, h8⟩
theorem zt.kept {C n d : String} {A : Nat → Prop} {U : State} {H H1 : Heap} (h : zt C n d A U H) (hq : ∀ a : Nat, a < H.size → ¬ A a → H1[a]? = H[a]?) : zt C n d A U H1 := by
  obtain ⟨cf, kf, fi, f, a, cell, v, h0, h1, h2, h3, h4, h5, h6, h7, h8, h9, h10, h11⟩ := h
  exact ⟨cf, kf, fi, f, a, cell, v, h0, h1, h2, h3, h4, h5, h6, h7, h8, h9, by rw [hq a (Array.getElem?_eq_some_iff.mp h10).1 h11]; exact h10, h11⟩
theorem zt.narrow {C n d : String} {A B : Nat → Prop} {U : State} {H : Heap} (h : zt C n d A U H) (hAB : ∀ q, B q → A q) : zt C n d B U H := by
  obtain ⟨cf, kf, fi, f, a, cell, v, h0, h1, h2, h3, h4, h5, h6, h7, h8, h9, h10, h11⟩ := h
  exact ⟨cf, kf, fi, f, a, cell, v, h0, h1, h2, h3, h4, h5, h6, h7, h8, h9, h10, fun z => h11 (hAB a z)⟩
theorem zt.of {args : Array Value} {s : State} {C n d : String} {A : Nat → Prop} (hl : (Cond.laysStatic C n d).before args s = true) (h : (Cond.isRef (.static C n d)).before args s = true) (hA : ∀ a : Nat, a < s.heap.size → ¬ A a) : zt C n d A s s.heap := by
  obtain ⟨c, k, i, f, a, cell, hc, hi, hst, ha, hcell, hs, hcls, hlt, hty⟩ := Cond.laysStatic_spec hl
  cases hv : (Term.static C n d).eval args s none [] s with
  | none => simp [Cond.before, Cond.holds, Cond.value, hv] at h
  | some w =>
    simp only [Cond.before, Cond.holds, Cond.value, hv] at h
    obtain ⟨hst', a', cell', ha', hcell', -, hslot⟩ := Term.static_spec hi hv
    cases ha.symm.trans ha'
    cases hcell.symm.trans hcell'
    refine ⟨c, k, i, f, a, cell, w, hc, hi, hst, ha, hs, hcls, hlt, hty, hslot, ?_, hcell, hA a (Array.getElem?_eq_some_iff.mp hcell).1⟩
    cases w <;> simp_all [Value.isRef]
theorem zt.lays {args : Array Value} {C n d : String} {A : Nat → Prop} {U U' : State} {H : Heap} (h : zt C n d A U H) (hv : U'.vm = U.vm) (hh : U'.heap = H) : (Cond.laysStatic C n d).before args U' = true := by
  obtain ⟨cf, kf, fi, f, a, cell, v, h0, h1, h2, h3, h4, h5, h6, h7, h8, h9, h10, h11⟩ := h
  have h1' : U'.fieldFound? C n d = some (cf, kf, fi, f) := by rw [← h1]; simp only [State.fieldFound?, hv]
  exact Cond.laysStatic_of (by rw [hv]; exact h0) h1' h2 h3 (by rw [hh]; exact h10) h4 h5 h6 h7
theorem zt.isRef {args : Array Value} {C n d : String} {A : Nat → Prop} {U U' : State} {H : Heap} (h : zt C n d A U H) (hv : U'.vm = U.vm) (hh : U'.heap = H) : (Cond.isRef (.static C n d)).before args U' = true := by
  obtain ⟨cf, kf, fi, f, a, cell, v, h0, h1, h2, h3, h4, h5, h6, h7, h8, h9, h10, h11⟩ := h
  have h1' : U'.fieldFound? C n d = some (cf, kf, fi, f) := by rw [← h1]; simp only [State.fieldFound?, hv]
  subst hh
  cases v <;> simp_all [Cond.before, Cond.holds, Cond.value, Term.eval, State.fieldNamed?, Value.isRef]
theorem wn_P {D : va_G} {cl : List vw_C} {H : Heap} : va_P D cl [] H := fun k q h => by simp at h
theorem wn_D {A : Nat → Prop} : va_D A [] := ⟨fun i j p q h => by simp at h, fun k q h => by simp at h⟩
theorem lk_no {x : Int32} (h : ¬ x < 0) : 0 ≤ x := Int32.not_lt.mp h
theorem lk_no1 {x : Int32} (h : ¬ x < 1) : 0 < x := by
  have h1 := Int32.not_lt.mp h
  rw [Int32.le_iff_toInt_le] at h1
  rw [Int32.lt_iff_toInt_lt]
  have e1 : (1 : Int32).toInt = 1 := by decide
  have e0 : (0 : Int32).toInt = 0 := by decide
  omega
theorem lk_ge40 {i : Nat} (h : i < 40) : ¬ (40 : Int32) ≤ nI i := by
  have e : (40 : Int32) = nI 40 := by decide
  rw [e]; exact nI_ge h (by decide)
theorem lk_ge2000 {i : Nat} (h : i < 2000) : ¬ (2000 : Int32) ≤ nI i := by
  have e : (2000 : Int32) = nI 2000 := by decide
  rw [e]; exact nI_ge h (by decide)
theorem fl_gen {p : Program} {l : Launch} {e : Env} {R : Room} {s : State} {m : MethodId} {args : Array Value} {below : List Frame} {meth : Method} {c : Code} {H : Heap} {locs : List Loc} {cells slots : Nat} {Q : State → Prop} {g : JFrame} (h : H = s.heap) (h2 : locs = []) (k : W p l e R s m args below meth c H locs cells slots Q g) : W p l e R s m args below meth c s.heap [] cells slots Q g := by
  rw [← h, ← h2]; exact k
theorem lk_in {x : Int32} {n : Nat} (N : Int32) (hN : N.toInt = n) (h0 : ¬ x < 0) (h1 : ¬ N ≤ x) : vp_in x n := by
  rw [vp_in_iff]
  rw [Int32.not_lt, Int32.le_iff_toInt_le] at h0
  rw [Int32.not_le, Int32.lt_iff_toInt_lt] at h1
  have e0 : (0 : Int32).toInt = 0 := by decide
  omega
theorem lz_ushr (u : UInt64) : ((0 : Int64).toUInt64 >>> u).toInt64 = 0 := by
  have : (0 : Int64).toUInt64 = 0 := by decide
  rw [this, UInt64.zero_shiftRight]; rfl
theorem lk_16 (x : Int32) : x &&& 15 = 0 ∨ x &&& 15 = 1 ∨ x &&& 15 = 2 ∨ x &&& 15 = 3 ∨ x &&& 15 = 4 ∨ x &&& 15 = 5 ∨ x &&& 15 = 6 ∨ x &&& 15 = 7 ∨ x &&& 15 = 8 ∨ x &&& 15 = 9 ∨ x &&& 15 = 10 ∨ x &&& 15 = 11 ∨ x &&& 15 = 12 ∨ x &&& 15 = 13 ∨ x &&& 15 = 14 ∨ x &&& 15 = 15 := by
  obtain ⟨j, hj, e⟩ := pk_andE x (m := 15) 4 (by decide)
  rw [e]
  have : ∀ j, j < 16 → (nI j = 0 ∨ nI j = 1 ∨ nI j = 2 ∨ nI j = 3 ∨ nI j = 4 ∨ nI j = 5 ∨ nI j = 6 ∨ nI j = 7 ∨ nI j = 8 ∨ nI j = 9 ∨ nI j = 10 ∨ nI j = 11 ∨ nI j = 12 ∨ nI j = 13 ∨ nI j = 14 ∨ nI j = 15) := by decide
  exact this j hj
def nst : Nat := 11
def kz_len : List Nat := [4, 4, 6, 4, 4, 5, 3, 6, 4, 4, 6]
def kz_byt : List (List Int32) := [[116, 101, 114, 109], [108, 101, 110, 100], [114, 101, 102, 117, 115, 101], [102, 97, 105, 108], [114, 97, 110, 107], [114, 101, 110, 101, 119], [103, 97, 112], [114, 101, 99, 97, 108, 108], [107, 105, 110, 100], [116, 121, 112, 101], [112, 101, 114, 115, 111, 110]]
def zz (adK adV : Nat → Nat) (A : Nat → Prop) (U : State) : Prop :=
  va_Nw (.methodLinkNest "LoanRules$DaySet" 15 y_C_isDay "LoanRules") U ∧ va_Nw (.methodLinkNest "LoanRules" 11 y_T_init "LoanRules") U ∧ va_Nw (.methodLinkNest "LoanRules" 28 y_D_init "LoanRules") U ∧ va_Nw (.methodLinkNest "LoanRules" 84 y_R_init "LoanRules") U ∧ va_AO "LoanRules$Loan" U ∧ va_AO "LoanRules$Rule" U ∧ vk_R "LoanRules$RuleText" 25 "kind" (adK 8) U ∧ vk_R "LoanRules$RuleText" 35 "type" (adK 9) U ∧ vk_R "LoanRules$RuleText" 39 "person" (adK 10) U ∧ vk_R "LoanRules$RuleText" 61 "lend" (adK 1) U ∧ vk_R "LoanRules$RuleText" 66 "refuse" (adK 2) U ∧ vk_R "LoanRules$RuleText" 71 "fail" (adK 3) U ∧ vk_R "LoanRules$RuleText" 77 "term" (adK 0) U ∧ vk_R "LoanRules$RuleText" 89 "renew" (adK 5) U ∧ vk_R "LoanRules$RuleText" 98 "gap" (adK 6) U ∧ vk_R "LoanRules$RuleText" 102 "recall" (adK 7) U ∧ vk_R "LoanRules$RuleText" 107 "rank" (adK 4) U ∧ va_Z "java/lang/String" "COMPACT_STRINGS" "Z" (.int 1) A U U.heap ∧ va_Zq "jdk/internal/util/Preconditions" "SIOOBE_FORMATTER" "Ljava/util/function/BiFunction;" A U U.heap ∧ zt "java/lang/Throwable" "UNASSIGNED_STACK" "[Ljava/lang/StackTraceElement;" A U U.heap ∧ zt "java/lang/Throwable" "SUPPRESSED_SENTINEL" "Ljava/util/List;" A U U.heap ∧ va_Nw (.declares ⟨"java/lang/RuntimeException", "<init>", "(Ljava/lang/String;)V"⟩) U ∧ va_Nw (.declares ⟨"java/lang/Exception", "<init>", "(Ljava/lang/String;)V"⟩) U ∧ va_Nw (.declares ⟨"java/lang/Throwable", "<init>", "(Ljava/lang/String;)V"⟩) U ∧ va_Nw (.castable "java/lang/IllegalStateException" "java/lang/IllegalStateException") U ∧ (∃ a : Nat, vk_R "LoanRules" 136 "the rule of the loan fails" a U) ∧ vk_S nst kz_len kz_byt adK adV A U U.heap
theorem zn_D_15 {adK adV : Nat → Nat} {A : Nat → Prop} {U : State} (h : zz adK adV A U) : va_Nw (.methodLinkNest "LoanRules$DaySet" 15 y_C_isDay "LoanRules") U := by
  obtain ⟨h0, h1, h2, h3, h4, h5, h6, h7, h8, h9, h10, h11, h12, h13, h14, h15, h16, h17, h18, h19, h20, h21, h22, h23, h24, h25, h26⟩ := h
  exact h0
theorem zn_C_11 {adK adV : Nat → Nat} {A : Nat → Prop} {U : State} (h : zz adK adV A U) : va_Nw (.methodLinkNest "LoanRules" 11 y_T_init "LoanRules") U := by
  obtain ⟨h0, h1, h2, h3, h4, h5, h6, h7, h8, h9, h10, h11, h12, h13, h14, h15, h16, h17, h18, h19, h20, h21, h22, h23, h24, h25, h26⟩ := h
  exact h1
theorem zn_C_28 {adK adV : Nat → Nat} {A : Nat → Prop} {U : State} (h : zz adK adV A U) : va_Nw (.methodLinkNest "LoanRules" 28 y_D_init "LoanRules") U := by
  obtain ⟨h0, h1, h2, h3, h4, h5, h6, h7, h8, h9, h10, h11, h12, h13, h14, h15, h16, h17, h18, h19, h20, h21, h22, h23, h24, h25, h26⟩ := h
  exact h2
theorem zn_C_84 {adK adV : Nat → Nat} {A : Nat → Prop} {U : State} (h : zz adK adV A U) : va_Nw (.methodLinkNest "LoanRules" 84 y_R_init "LoanRules") U := by
  obtain ⟨h0, h1, h2, h3, h4, h5, h6, h7, h8, h9, h10, h11, h12, h13, h14, h15, h16, h17, h18, h19, h20, h21, h22, h23, h24, h25, h26⟩ := h
  exact h3
theorem zo_N {adK adV : Nat → Nat} {A : Nat → Prop} {U : State} (h : zz adK adV A U) : va_AO "LoanRules$Loan" U := by
  obtain ⟨h0, h1, h2, h3, h4, h5, h6, h7, h8, h9, h10, h11, h12, h13, h14, h15, h16, h17, h18, h19, h20, h21, h22, h23, h24, h25, h26⟩ := h
  exact h4
theorem zo_R {adK adV : Nat → Nat} {A : Nat → Prop} {U : State} (h : zz adK adV A U) : va_AO "LoanRules$Rule" U := by
  obtain ⟨h0, h1, h2, h3, h4, h5, h6, h7, h8, h9, h10, h11, h12, h13, h14, h15, h16, h17, h18, h19, h20, h21, h22, h23, h24, h25, h26⟩ := h
  exact h5
theorem zs_T_25 {adK adV : Nat → Nat} {A : Nat → Prop} {U : State} (h : zz adK adV A U) : vk_R "LoanRules$RuleText" 25 "kind" (adK 8) U := by
  obtain ⟨h0, h1, h2, h3, h4, h5, h6, h7, h8, h9, h10, h11, h12, h13, h14, h15, h16, h17, h18, h19, h20, h21, h22, h23, h24, h25, h26⟩ := h
  exact h6
theorem zs_T_35 {adK adV : Nat → Nat} {A : Nat → Prop} {U : State} (h : zz adK adV A U) : vk_R "LoanRules$RuleText" 35 "type" (adK 9) U := by
  obtain ⟨h0, h1, h2, h3, h4, h5, h6, h7, h8, h9, h10, h11, h12, h13, h14, h15, h16, h17, h18, h19, h20, h21, h22, h23, h24, h25, h26⟩ := h
  exact h7
theorem zs_T_39 {adK adV : Nat → Nat} {A : Nat → Prop} {U : State} (h : zz adK adV A U) : vk_R "LoanRules$RuleText" 39 "person" (adK 10) U := by
  obtain ⟨h0, h1, h2, h3, h4, h5, h6, h7, h8, h9, h10, h11, h12, h13, h14, h15, h16, h17, h18, h19, h20, h21, h22, h23, h24, h25, h26⟩ := h
  exact h8
theorem zs_T_61 {adK adV : Nat → Nat} {A : Nat → Prop} {U : State} (h : zz adK adV A U) : vk_R "LoanRules$RuleText" 61 "lend" (adK 1) U := by
  obtain ⟨h0, h1, h2, h3, h4, h5, h6, h7, h8, h9, h10, h11, h12, h13, h14, h15, h16, h17, h18, h19, h20, h21, h22, h23, h24, h25, h26⟩ := h
  exact h9
theorem zs_T_66 {adK adV : Nat → Nat} {A : Nat → Prop} {U : State} (h : zz adK adV A U) : vk_R "LoanRules$RuleText" 66 "refuse" (adK 2) U := by
  obtain ⟨h0, h1, h2, h3, h4, h5, h6, h7, h8, h9, h10, h11, h12, h13, h14, h15, h16, h17, h18, h19, h20, h21, h22, h23, h24, h25, h26⟩ := h
  exact h10
theorem zs_T_71 {adK adV : Nat → Nat} {A : Nat → Prop} {U : State} (h : zz adK adV A U) : vk_R "LoanRules$RuleText" 71 "fail" (adK 3) U := by
  obtain ⟨h0, h1, h2, h3, h4, h5, h6, h7, h8, h9, h10, h11, h12, h13, h14, h15, h16, h17, h18, h19, h20, h21, h22, h23, h24, h25, h26⟩ := h
  exact h11
theorem zs_T_77 {adK adV : Nat → Nat} {A : Nat → Prop} {U : State} (h : zz adK adV A U) : vk_R "LoanRules$RuleText" 77 "term" (adK 0) U := by
  obtain ⟨h0, h1, h2, h3, h4, h5, h6, h7, h8, h9, h10, h11, h12, h13, h14, h15, h16, h17, h18, h19, h20, h21, h22, h23, h24, h25, h26⟩ := h
  exact h12
theorem zs_T_89 {adK adV : Nat → Nat} {A : Nat → Prop} {U : State} (h : zz adK adV A U) : vk_R "LoanRules$RuleText" 89 "renew" (adK 5) U := by
  obtain ⟨h0, h1, h2, h3, h4, h5, h6, h7, h8, h9, h10, h11, h12, h13, h14, h15, h16, h17, h18, h19, h20, h21, h22, h23, h24, h25, h26⟩ := h
  exact h13
theorem zs_T_98 {adK adV : Nat → Nat} {A : Nat → Prop} {U : State} (h : zz adK adV A U) : vk_R "LoanRules$RuleText" 98 "gap" (adK 6) U := by
  obtain ⟨h0, h1, h2, h3, h4, h5, h6, h7, h8, h9, h10, h11, h12, h13, h14, h15, h16, h17, h18, h19, h20, h21, h22, h23, h24, h25, h26⟩ := h
  exact h14
theorem zs_T_102 {adK adV : Nat → Nat} {A : Nat → Prop} {U : State} (h : zz adK adV A U) : vk_R "LoanRules$RuleText" 102 "recall" (adK 7) U := by
  obtain ⟨h0, h1, h2, h3, h4, h5, h6, h7, h8, h9, h10, h11, h12, h13, h14, h15, h16, h17, h18, h19, h20, h21, h22, h23, h24, h25, h26⟩ := h
  exact h15
theorem zs_T_107 {adK adV : Nat → Nat} {A : Nat → Prop} {U : State} (h : zz adK adV A U) : vk_R "LoanRules$RuleText" 107 "rank" (adK 4) U := by
  obtain ⟨h0, h1, h2, h3, h4, h5, h6, h7, h8, h9, h10, h11, h12, h13, h14, h15, h16, h17, h18, h19, h20, h21, h22, h23, h24, h25, h26⟩ := h
  exact h16
theorem zz_cs {adK adV : Nat → Nat} {A : Nat → Prop} {U : State} (h : zz adK adV A U) : va_Z "java/lang/String" "COMPACT_STRINGS" "Z" (.int 1) A U U.heap := by
  obtain ⟨h0, h1, h2, h3, h4, h5, h6, h7, h8, h9, h10, h11, h12, h13, h14, h15, h16, h17, h18, h19, h20, h21, h22, h23, h24, h25, h26⟩ := h
  exact h17
theorem zz_sf {adK adV : Nat → Nat} {A : Nat → Prop} {U : State} (h : zz adK adV A U) : va_Zq "jdk/internal/util/Preconditions" "SIOOBE_FORMATTER" "Ljava/util/function/BiFunction;" A U U.heap := by
  obtain ⟨h0, h1, h2, h3, h4, h5, h6, h7, h8, h9, h10, h11, h12, h13, h14, h15, h16, h17, h18, h19, h20, h21, h22, h23, h24, h25, h26⟩ := h
  exact h18
theorem zz_us {adK adV : Nat → Nat} {A : Nat → Prop} {U : State} (h : zz adK adV A U) : zt "java/lang/Throwable" "UNASSIGNED_STACK" "[Ljava/lang/StackTraceElement;" A U U.heap := by
  obtain ⟨h0, h1, h2, h3, h4, h5, h6, h7, h8, h9, h10, h11, h12, h13, h14, h15, h16, h17, h18, h19, h20, h21, h22, h23, h24, h25, h26⟩ := h
  exact h19
theorem zz_ss {adK adV : Nat → Nat} {A : Nat → Prop} {U : State} (h : zz adK adV A U) : zt "java/lang/Throwable" "SUPPRESSED_SENTINEL" "Ljava/util/List;" A U U.heap := by
  obtain ⟨h0, h1, h2, h3, h4, h5, h6, h7, h8, h9, h10, h11, h12, h13, h14, h15, h16, h17, h18, h19, h20, h21, h22, h23, h24, h25, h26⟩ := h
  exact h20
theorem zd_0 {adK adV : Nat → Nat} {A : Nat → Prop} {U : State} (h : zz adK adV A U) : va_Nw (.declares ⟨"java/lang/RuntimeException", "<init>", "(Ljava/lang/String;)V"⟩) U := by
  obtain ⟨h0, h1, h2, h3, h4, h5, h6, h7, h8, h9, h10, h11, h12, h13, h14, h15, h16, h17, h18, h19, h20, h21, h22, h23, h24, h25, h26⟩ := h
  exact h21
theorem zd_1 {adK adV : Nat → Nat} {A : Nat → Prop} {U : State} (h : zz adK adV A U) : va_Nw (.declares ⟨"java/lang/Exception", "<init>", "(Ljava/lang/String;)V"⟩) U := by
  obtain ⟨h0, h1, h2, h3, h4, h5, h6, h7, h8, h9, h10, h11, h12, h13, h14, h15, h16, h17, h18, h19, h20, h21, h22, h23, h24, h25, h26⟩ := h
  exact h22
theorem zd_2 {adK adV : Nat → Nat} {A : Nat → Prop} {U : State} (h : zz adK adV A U) : va_Nw (.declares ⟨"java/lang/Throwable", "<init>", "(Ljava/lang/String;)V"⟩) U := by
  obtain ⟨h0, h1, h2, h3, h4, h5, h6, h7, h8, h9, h10, h11, h12, h13, h14, h15, h16, h17, h18, h19, h20, h21, h22, h23, h24, h25, h26⟩ := h
  exact h23
theorem zz_ca {adK adV : Nat → Nat} {A : Nat → Prop} {U : State} (h : zz adK adV A U) : va_Nw (.castable "java/lang/IllegalStateException" "java/lang/IllegalStateException") U := by
  obtain ⟨h0, h1, h2, h3, h4, h5, h6, h7, h8, h9, h10, h11, h12, h13, h14, h15, h16, h17, h18, h19, h20, h21, h22, h23, h24, h25, h26⟩ := h
  exact h24
theorem zm_136 {adK adV : Nat → Nat} {A : Nat → Prop} {U : State} (h : zz adK adV A U) : (∃ a : Nat, vk_R "LoanRules" 136 "the rule of the loan fails" a U) := by
  obtain ⟨h0, h1, h2, h3, h4, h5, h6, h7, h8, h9, h10, h11, h12, h13, h14, h15, h16, h17, h18, h19, h20, h21, h22, h23, h24, h25, h26⟩ := h
  exact h25
theorem zz_S {adK adV : Nat → Nat} {A : Nat → Prop} {U : State} (h : zz adK adV A U) : vk_S nst kz_len kz_byt adK adV A U U.heap := by
  obtain ⟨h0, h1, h2, h3, h4, h5, h6, h7, h8, h9, h10, h11, h12, h13, h14, h15, h16, h17, h18, h19, h20, h21, h22, h23, h24, h25, h26⟩ := h
  exact h26
theorem zz_call {adK adV : Nat → Nat} {A : Nat → Prop} {U : State} {g : JFrame} {mk : MethodId} {a : Array Value} (h : zz adK adV A U) : zz adK adV A (U.calling g mk a) := by
  obtain ⟨h0, h1, h2, h3, h4, h5, h6, h7, h8, h9, h10, h11, h12, h13, h14, h15, h16, h17, h18, h19, h20, h21, h22, h23, h24, h25, h26⟩ := h
  exact ⟨va_Nw.same rfl (u := U) rfl h0, va_Nw.same rfl (u := U) rfl h1, va_Nw.same rfl (u := U) rfl h2, va_Nw.same rfl (u := U) rfl h3, va_AO.moved (Vm.Alike.refl U.vm) h4, va_AO.moved (Vm.Alike.refl U.vm) h5, vk_R.same (u := U) rfl h6, vk_R.same (u := U) rfl h7, vk_R.same (u := U) rfl h8, vk_R.same (u := U) rfl h9, vk_R.same (u := U) rfl h10, vk_R.same (u := U) rfl h11, vk_R.same (u := U) rfl h12, vk_R.same (u := U) rfl h13, vk_R.same (u := U) rfl h14, vk_R.same (u := U) rfl h15, vk_R.same (u := U) rfl h16, va_Z.moved (Vm.Alike.refl U.vm) h17, va_Zq.moved (Vm.Alike.refl U.vm) h18, zt.moved (Vm.Alike.refl U.vm) h19, zt.moved (Vm.Alike.refl U.vm) h20, va_Nw.same rfl (u := U) rfl h21, va_Nw.same rfl (u := U) rfl h22, va_Nw.same rfl (u := U) rfl h23, va_Nw.same rfl (u := U) rfl h24, h25.imp (fun _ k9 => vk_R.same (u := U) rfl k9), vk_S.moved (Vm.Alike.refl U.vm) h26⟩
theorem zz_rr {adK adV : Nat → Nat} {A : Nat → Prop} {s U : State} (hU : U.heap = s.heap) (hW : s.WarmedH U.vm) (h : zz adK adV A s) : zz adK adV A U := by
  obtain ⟨h0, h1, h2, h3, h4, h5, h6, h7, h8, h9, h10, h11, h12, h13, h14, h15, h16, h17, h18, h19, h20, h21, h22, h23, h24, h25, h26⟩ := h
  exact ⟨va_Nw.warmM hW h0, va_Nw.warmM hW h1, va_Nw.warmM hW h2, va_Nw.warmM hW h3, va_AO.moved hW.alike h4, va_AO.moved hW.alike h5, vk_R.warm hW h6, vk_R.warm hW h7, vk_R.warm hW h8, vk_R.warm hW h9, vk_R.warm hW h10, vk_R.warm hW h11, vk_R.warm hW h12, vk_R.warm hW h13, vk_R.warm hW h14, vk_R.warm hW h15, vk_R.warm hW h16, by rw [hU]; exact va_Z.moved hW.alike h17, by rw [hU]; exact va_Zq.moved hW.alike h18, by rw [hU]; exact zt.moved hW.alike h19, by rw [hU]; exact zt.moved hW.alike h20, va_Nw.warmD hW h21, va_Nw.warmD hW h22, va_Nw.warmD hW h23, va_Nw.warmC hW h24, h25.imp (fun _ k9 => vk_R.warm hW k9), by rw [hU]; exact vk_S.moved hW.alike h26⟩
theorem zz_ro {adK adV : Nat → Nat} {A : Nat → Prop} {s U : State} {H : Heap} {locs : List Loc} (hS : va_S A s.heap H locs) (hU : U.heap = H) (hW : s.WarmedH U.vm) (h : zz adK adV A s) : zz adK adV (fun _ => False) U := by
  obtain ⟨h0, h1, h2, h3, h4, h5, h6, h7, h8, h9, h10, h11, h12, h13, h14, h15, h16, h17, h18, h19, h20, h21, h22, h23, h24, h25, h26⟩ := h
  exact ⟨va_Nw.warmM hW h0, va_Nw.warmM hW h1, va_Nw.warmM hW h2, va_Nw.warmM hW h3, va_AO.moved hW.alike h4, va_AO.moved hW.alike h5, vk_R.warm hW h6, vk_R.warm hW h7, vk_R.warm hW h8, vk_R.warm hW h9, vk_R.warm hW h10, vk_R.warm hW h11, vk_R.warm hW h12, vk_R.warm hW h13, vk_R.warm hW h14, vk_R.warm hW h15, vk_R.warm hW h16, by rw [hU]; exact (va_Z.moved hW.alike (h17.kept hS.2.1)).narrow (fun _ h => h.elim), by rw [hU]; exact (va_Zq.moved hW.alike (h18.kept hS.2.1)).narrow (fun _ h => h.elim), by rw [hU]; exact (zt.moved hW.alike (h19.kept hS.2.1)).narrow (fun _ h => h.elim), by rw [hU]; exact (zt.moved hW.alike (h20.kept hS.2.1)).narrow (fun _ h => h.elim), va_Nw.warmD hW h21, va_Nw.warmD hW h22, va_Nw.warmD hW h23, va_Nw.warmC hW h24, h25.imp (fun _ k9 => vk_R.warm hW k9), by rw [hU]; exact (vk_S.moved hW.alike (h26.kept hS.2.1)).narrow (fun _ h => h.elim)⟩
theorem zz_rw {adK adV : Nat → Nat} {A A1 : Nat → Prop} {s U : State} {H : Heap} {locs : List Loc} (hS : va_S A s.heap H locs) (hF : ∀ q, A1 q → A q) (hU : U.heap = H) (hW : s.WarmedH U.vm) (h : zz adK adV A s) : zz adK adV A1 U := by
  obtain ⟨h0, h1, h2, h3, h4, h5, h6, h7, h8, h9, h10, h11, h12, h13, h14, h15, h16, h17, h18, h19, h20, h21, h22, h23, h24, h25, h26⟩ := h
  exact ⟨va_Nw.warmM hW h0, va_Nw.warmM hW h1, va_Nw.warmM hW h2, va_Nw.warmM hW h3, va_AO.moved hW.alike h4, va_AO.moved hW.alike h5, vk_R.warm hW h6, vk_R.warm hW h7, vk_R.warm hW h8, vk_R.warm hW h9, vk_R.warm hW h10, vk_R.warm hW h11, vk_R.warm hW h12, vk_R.warm hW h13, vk_R.warm hW h14, vk_R.warm hW h15, vk_R.warm hW h16, by rw [hU]; exact (va_Z.moved hW.alike (h17.kept hS.2.1)).narrow hF, by rw [hU]; exact (va_Zq.moved hW.alike (h18.kept hS.2.1)).narrow hF, by rw [hU]; exact (zt.moved hW.alike (h19.kept hS.2.1)).narrow hF, by rw [hU]; exact (zt.moved hW.alike (h20.kept hS.2.1)).narrow hF, va_Nw.warmD hW h21, va_Nw.warmD hW h22, va_Nw.warmD hW h23, va_Nw.warmC hW h24, h25.imp (fun _ k9 => vk_R.warm hW k9), by rw [hU]; exact (vk_S.moved hW.alike (h26.kept hS.2.1)).narrow hF⟩
theorem zk_pos {iw : Nat} (h : iw < nst) : (0 : Int32) < nI (kz_len.getD iw 0) := by
  have : ∀ k, k < nst → (0 : Int32) < nI (kz_len.getD k 0) := by decide
  exact this iw h
theorem zk_len {iw : Nat} (h : iw < nst) : ¬ nI (kz_len.getD iw 0) ≤ 0 := by
  have : ∀ k, k < nst → ¬ nI (kz_len.getD k 0) ≤ 0 := by decide
  exact this iw h
theorem zk_in {iw : Nat} (h : iw < nst) : vp_in 0 (kz_len.getD iw 0) := by
  have : ∀ k, k < nst → ¬ ((0 : Int32) < 0 ∨ (kz_len.getD k 0) ≤ (0 : Int32).toNatClampNeg) := by decide
  exact this iw h
theorem zk_chr {x : Int32} : ¬ (-1 : Int32) = (x.toUInt32 % 65536).toInt32 := by
  rw [pk_char]
  intro h
  have h1 := congrArg Int32.toInt h
  rw [nI_toInt (by omega)] at h1
  have e : (-1 : Int32).toInt = -1 := by decide
  omega
def bv {α β : Type} (a : α) (f : α → β) : β := f a
theorem bv_eq {α β : Type} (a : α) (f : α → β) : bv a f = f a := rfl
theorem li_le {x y : Int32} : x ≤ y ↔ x.toInt ≤ y.toInt := Int32.le_iff_toInt_le
theorem li_lt {x y : Int32} : x < y ↔ x.toInt < y.toInt := Int32.lt_iff_toInt_lt
theorem li_add {a b : Int32} (h1 : -2147483648 ≤ a.toInt + b.toInt) (h2 : a.toInt + b.toInt < 2147483648) : (a + b).toInt = a.toInt + b.toInt := by
  rw [Int32.toInt_add]
  exact Int.bmod_eq_of_le (by omega) (by omega)
theorem li_sub {a b : Int32} (h1 : -2147483648 ≤ a.toInt - b.toInt) (h2 : a.toInt - b.toInt < 2147483648) : (a - b).toInt = a.toInt - b.toInt := by
  rw [Int32.toInt_sub]
  exact Int.bmod_eq_of_le (by omega) (by omega)
theorem li_mul {a b : Int32} (h1 : -2147483648 ≤ a.toInt * b.toInt) (h2 : a.toInt * b.toInt < 2147483648) : (a * b).toInt = a.toInt * b.toInt := by
  rw [Int32.toInt_mul]
  exact Int.bmod_eq_of_le (by omega) (by omega)
theorem li_1 : (1 : Int32).toInt = 1 := by decide
theorem li_0 : (0 : Int32).toInt = 0 := by decide
theorem li_10 : (10 : Int32).toInt = 10 := by decide
theorem li_10000 : (10000 : Int32).toInt = 10000 := by decide
theorem li_inc {x : Int32} (h : -2147483648 ≤ x.toInt) (h2 : x.toInt < 2147483647) : (x + 1).toInt = x.toInt + 1 := by
  rw [li_add (by rw [li_1]; omega) (by rw [li_1]; omega), li_1]
theorem li_in {x N : Int32} {n : Nat} (h0 : 0 ≤ x.toInt) (h1 : ¬ N ≤ x) (hN : N.toInt = n := by decide) : vp_in x n := by
  rw [vp_in_iff]
  rw [li_le] at h1
  omega
theorem li_s0 {x : Int32} (h : 0 ≤ x.toInt ∧ x.toInt < 20000) (c : ¬ (10000 : Int32) ≤ x) : 0 ≤ (x + 1).toInt ∧ (x + 1).toInt < 20000 := by
  rw [li_le, li_10000] at c
  rw [li_inc (by omega) (by omega)]
  omega
theorem li_m0 {x : Int32} {n : Nat} (h : 0 ≤ x.toInt ∧ x.toInt < 20000) (c : ¬ (10000 : Int32) ≤ x) (hm : 20001 - x.toInt.toNat ≤ n + 1) : 20001 - (x + 1).toInt.toNat ≤ n := by
  rw [li_le, li_10000] at c
  rw [li_inc (by omega) (by omega)]
  omega
theorem li_in3 {x y : Int32} {n : Nat} (h0 : 0 ≤ x.toInt) (h1 : ¬ y ≤ x) (h2 : y.toInt ≤ n) : vp_in x n := by
  rw [vp_in_iff]
  rw [li_le] at h1
  omega
theorem ix10 {r k : Int32} (hr : 0 ≤ r.toInt ∧ r.toInt ≤ 40) (hk : 0 ≤ k.toInt ∧ k.toInt < 10) : vp_in (10 * r + k) 410 := by
  rw [vp_in_iff]
  have e1 : (10 * r).toInt = 10 * r.toInt := by rw [li_mul (by rw [li_10]; omega) (by rw [li_10]; omega), li_10]
  rw [li_add (by rw [e1]; omega) (by rw [e1]; omega), e1]
  omega
theorem ix10z {r : Int32} (hr : 0 ≤ r.toInt ∧ r.toInt ≤ 40) : vp_in (10 * r) 410 := by
  rw [vp_in_iff]
  rw [li_mul (by rw [li_10]; omega) (by rw [li_10]; omega), li_10]
  omega
theorem ix40 {p r : Int32} (hp : 0 ≤ p.toInt ∧ p.toInt < 50) (hr : 0 ≤ r.toInt ∧ r.toInt < 40) : vp_in (40 * p + r) 2000 := by
  rw [vp_in_iff]
  have e4 : (40 : Int32).toInt = 40 := by decide
  have e1 : (40 * p).toInt = 40 * p.toInt := by rw [li_mul (by rw [e4]; omega) (by rw [e4]; omega), e4]
  rw [li_add (by rw [e1]; omega) (by rw [e1]; omega), e1]
  omega
theorem ix50 {p : Int32} (hp : 0 ≤ p.toInt ∧ p.toInt < 50) : vp_in p 50 := by
  rw [vp_in_iff]; omega
theorem li_sw9 {x : Int32} (c1 : ¬ x = 1) (c2 : ¬ x = 2) (c3 : ¬ x = 3) (c4 : ¬ x = 4) (c5 : ¬ x = 5) (c6 : ¬ x = 6) (c7 : ¬ x = 7) (c8 : ¬ x = 8) (c9 : ¬ x = 9) : x.toInt < 1 ∨ 9 < x.toInt := by
  have f : ∀ k : Int32, ¬ x = k → x.toInt ≠ k.toInt := fun k h q => h (Int32.toInt_inj.mp q)
  have d1 := f 1 c1; have d2 := f 2 c2; have d3 := f 3 c3; have d4 := f 4 c4; have d5 := f 5 c5; have d6 := f 6 c6; have d7 := f 7 c7; have d8 := f 8 c8; have d9 := f 9 c9
  have e1 : (1 : Int32).toInt = 1 := by decide
  have e2 : (2 : Int32).toInt = 2 := by decide
  have e3 : (3 : Int32).toInt = 3 := by decide
  have e4 : (4 : Int32).toInt = 4 := by decide
  have e5 : (5 : Int32).toInt = 5 := by decide
  have e6 : (6 : Int32).toInt = 6 := by decide
  have e7 : (7 : Int32).toInt = 7 := by decide
  have e8 : (8 : Int32).toInt = 8 := by decide
  have e9 : (9 : Int32).toInt = 9 := by decide
  omega
theorem li_k {k sz : Int32} (hk : 0 ≤ k.toInt ∧ k.toInt ≤ 120) (hsz : 0 ≤ sz.toInt ∧ sz.toInt ≤ 120) (c : k.toInt < sz.toInt) : 0 ≤ (k + 1).toInt ∧ (k + 1).toInt ≤ 120 := by
  rw [li_inc (by omega) (by omega)]; omega
theorem li_km {k sz : Int32} {n : Nat} (hk : 0 ≤ k.toInt ∧ k.toInt ≤ 120) (hsz : 0 ≤ sz.toInt ∧ sz.toInt ≤ 120) (c : k.toInt < sz.toInt) (hm : 121 - k.toInt.toNat ≤ n + 1) : 121 - (k + 1).toInt.toNat ≤ n := by
  rw [li_inc (by omega) (by omega)]; omega
theorem li_nn {k : Int32} (h : 0 ≤ k.toInt ∧ k.toInt ≤ 120) : 0 ≤ (k + 1).toInt := by
  rw [li_inc (by omega) (by omega)]; omega
def b01 (r : Int32) : Prop := r = 0 ∨ r = 1
theorem b01_0 : b01 0 := Or.inl rfl
theorem b01_1 : b01 1 := Or.inr rfl
theorem b01_i {T : Type} {c : Prop} [Decidable c] {a b : Int32 × T} (h1 : c → b01 a.1) (h2 : ¬ c → b01 b.1) : b01 (if c then a else b).1 := by
  by_cases h : c
  · rw [if_pos h]; exact h1 h
  · rw [if_neg h]; exact h2 h
theorem b01_v {T α : Type} {a : α} {f : α → Int32 × T} (h : b01 (f a).1) : b01 (bv a f).1 := h
theorem b01_i1 {c : Prop} [Decidable c] {a b : Int32} (h1 : c → b01 a) (h2 : ¬ c → b01 b) : b01 (if c then a else b) := by
  by_cases h : c
  · rw [if_pos h]; exact h1 h
  · rw [if_neg h]; exact h2 h
theorem b01_v1 {α : Type} {a : α} {f : α → Int32} (h : b01 (f a)) : b01 (bv a f) := h
theorem nzI {r : Int32} (h : b01 r) : narrow .boolean (.int r) = .int r := by
  rcases h with rfl | rfl <;> rfl
abbrev i120 (x : Int32) : Prop := 0 ≤ x.toInt ∧ x.toInt ≤ 120
theorem pt_i {T : Type} (P : T → Prop) {c : Prop} [Decidable c] {a b : T} (h1 : c → P a) (h2 : ¬ c → P b) : P (if c then a else b) := by
  by_cases h : c
  · rw [if_pos h]; exact h1 h
  · rw [if_neg h]; exact h2 h
theorem pt_v {T α : Type} (P : T → Prop) {a : α} {f : α → T} (h : P (f a)) : P (bv a f) := h
theorem li_lt10 {k : Int32} (h : 0 ≤ k.toInt ∧ k.toInt ≤ 10) (c : ¬ (10 : Int32) ≤ k) : 0 ≤ k.toInt ∧ k.toInt < 10 := by
  rw [li_le, li_10] at c; omega
theorem li_s10 {k : Int32} (h : 0 ≤ k.toInt ∧ k.toInt ≤ 10) (c : ¬ (10 : Int32) ≤ k) : 0 ≤ (k + 1).toInt ∧ (k + 1).toInt ≤ 10 := by
  rw [li_le, li_10] at c; rw [li_inc (by omega) (by omega)]; omega
theorem li_m10 {k : Int32} {n : Nat} (h : 0 ≤ k.toInt ∧ k.toInt ≤ 10) (c : ¬ (10 : Int32) ≤ k) (hm : 11 - k.toInt.toNat ≤ n + 1) : 11 - (k + 1).toInt.toNat ≤ n := by
  rw [li_le, li_10] at c; rw [li_inc (by omega) (by omega)]; omega
theorem li_last {x y : Int32} (c : ¬ x ≤ y) : y.toInt < x.toInt := by
  rw [li_le] at c; omega
theorem li_mt {x t : Int32} {n : Nat} (ht : 0 ≤ t.toInt ∧ t.toInt ≤ 10) (c : ¬ x ≤ t) (hx : 0 ≤ x.toInt ∧ x.toInt ≤ 10) (hm : 11 - t.toInt.toNat ≤ n + 1) : 11 - x.toInt.toNat ≤ n := by
  rw [li_le] at c; omega
theorem li_7 : (7 : Int32).toInt = 7 := by decide
theorem ix7e {x c : Int32} (hx : 0 < x.toInt ∧ x.toInt ≤ 200) (hc : 0 ≤ c.toInt ∧ c.toInt ≤ 6) : (7 * x + c).toInt = 7 * x.toInt + c.toInt := by
  have e1 : (7 * x).toInt = 7 * x.toInt := by rw [li_mul (by rw [li_7]; omega) (by rw [li_7]; omega), li_7]
  rw [li_add (by rw [e1]; omega) (by rw [e1]; omega), e1]
theorem ix7ze {x : Int32} (hx : 0 < x.toInt ∧ x.toInt ≤ 200) : (7 * x).toInt = 7 * x.toInt := by
  rw [li_mul (by rw [li_7]; omega) (by rw [li_7]; omega), li_7]
theorem ix7 {x c : Int32} (hx : 0 < x.toInt ∧ x.toInt ≤ 200) (hc : 0 ≤ c.toInt ∧ c.toInt ≤ 6) : vp_in (7 * x + c) 1407 := by
  rw [vp_in_iff, ix7e hx hc]; omega
theorem ix7z {x : Int32} (hx : 0 < x.toInt ∧ x.toInt ≤ 200) : vp_in (7 * x) 1407 := by
  rw [vp_in_iff, ix7ze hx]; omega
theorem li_nl {x nl : Int32} (c1 : ¬ x ≤ 0) (c2 : ¬ nl < x) (h : 0 ≤ nl.toInt ∧ nl.toInt ≤ 200) : 0 < x.toInt ∧ x.toInt ≤ 200 := by
  rw [li_le, li_0] at c1; rw [li_lt] at c2; omega
theorem ix2 {x c : Int32} (hx : 0 ≤ x.toInt ∧ x.toInt ≤ 799) (hc : 0 ≤ c.toInt ∧ c.toInt ≤ 1) : vp_in (2 * x + c) 1600 := by
  have e2 : (2 : Int32).toInt = 2 := by decide
  have e1 : (2 * x).toInt = 2 * x.toInt := by rw [li_mul (by rw [e2]; omega) (by rw [e2]; omega), e2]
  rw [vp_in_iff, li_add (by rw [e1]; omega) (by rw [e1]; omega), e1]; omega
theorem ix2z {x : Int32} (hx : 0 ≤ x.toInt ∧ x.toInt ≤ 799) : vp_in (2 * x) 1600 := by
  have e2 : (2 : Int32).toInt = 2 := by decide
  rw [vp_in_iff, li_mul (by rw [e2]; omega) (by rw [e2]; omega), e2]; omega
theorem li_ltn {x n : Int32} {B : Int} (h0 : ¬ x < 0) (h1 : ¬ n ≤ x) (h : n.toInt ≤ B) : 0 ≤ x.toInt ∧ x.toInt < B := by
  rw [li_lt, li_0] at h0; rw [li_le] at h1; omega
theorem in40 {x : Int32} (h : 0 ≤ x.toInt ∧ x.toInt < 40) : vp_in x 40 := by rw [vp_in_iff]; omega
theorem r40 {x : Int32} (h : 0 ≤ x.toInt ∧ x.toInt < 40) : 0 ≤ x.toInt ∧ x.toInt ≤ 40 := by omega
theorem cl_nn {x : Int32} (h : 0 ≤ x.toInt) : ((x.toNatClampNeg : Nat) : Int) = x.toInt := by
  show ((x.toInt.toNat : Nat) : Int) = x.toInt
  omega
theorem li_dec {x : Int32} (h : -2147483648 < x.toInt) (h2 : x.toInt ≤ 2147483647) : (x - 1).toInt = x.toInt - 1 := by
  rw [li_sub (by rw [li_1]; omega) (by rw [li_1]; omega), li_1]
theorem li_decm {x : Int32} (h : -2147483648 < x.toInt) (h2 : x.toInt ≤ 2147483647) : (x + (-1)).toInt = x.toInt - 1 := by
  have e : (-1 : Int32).toInt = -1 := by decide
  rw [li_add (by rw [e]; omega) (by rw [e]; omega), e]; omega
theorem li_c2 {x n : Int32} (h0 : ¬ x < 0) (h1 : ¬ n ≤ x) (h : 0 ≤ n.toInt ∧ n.toInt ≤ 799) : 0 ≤ x.toInt ∧ x.toInt ≤ 799 := by
  have := li_ltn h0 h1 h.2; omega
theorem li_01 {x : Int32} (h0 : ¬ x < 0) (h1 : x ≤ 1) : 0 ≤ x.toInt ∧ x.toInt ≤ 1 := by
  rw [li_lt, li_0] at h0; rw [li_le, li_1] at h1; omega
theorem li_ltn0 {x n : Int32} (h0 : 0 ≤ x.toInt ∧ x.toInt ≤ 40) (h1 : ¬ n ≤ x) (h : n.toInt ≤ 40) : 0 ≤ x.toInt ∧ x.toInt < 40 := by
  rw [li_le] at h1; omega
theorem li_s40 {k : Int32} (h : 0 ≤ k.toInt ∧ k.toInt ≤ 40) (c : 0 ≤ k.toInt ∧ k.toInt < 40) : 0 ≤ (k + 1).toInt ∧ (k + 1).toInt ≤ 40 := by
  rw [li_inc (by omega) (by omega)]; omega
theorem li_m40 {k : Int32} {n : Nat} (h : 0 ≤ k.toInt ∧ k.toInt ≤ 40) (c : 0 ≤ k.toInt ∧ k.toInt < 40) (hm : 41 - k.toInt.toNat ≤ n + 1) : 41 - (k + 1).toInt.toNat ≤ n := by
  rw [li_inc (by omega) (by omega)]; omega
theorem li_day {d k : Int32} (h : 0 ≤ d.toInt ∧ d.toInt < 10000) (h2 : 0 ≤ k.toInt ∧ k.toInt ≤ 999) : 0 ≤ (d + k).toInt ∧ (d + k).toInt < 20000 := by
  rw [li_add (by omega) (by omega)]; omega
theorem ix_back {x nl : Int32} {f : Nat → Int32} (h : (0 < x.toInt ∧ x.toInt ≤ 200) ∧ x.toInt ≤ nl.toInt ∧ (f ((7 * x) + 6).toNatClampNeg).toInt < 0) (hl0 : ∀ x : Int32, 0 < x.toInt → x.toInt ≤ nl.toInt → 0 ≤ (f (7 * x).toNatClampNeg).toInt ∧ (f (7 * x).toNatClampNeg).toInt < 50) : vp_in (upd f ((7 * x) + 6).toNatClampNeg 0 (7 * x).toNatClampNeg) 50 := by
  have e1 := ix7e h.1 (c := 6) (by decide)
  have e2 := ix7ze h.1
  have e6 : (6 : Int32).toInt = 6 := by decide
  have n1 := cl_nn (x := 7 * x + 6) (by omega)
  have n2 := cl_nn (x := 7 * x) (by omega)
  rw [pk_un (by omega)]
  exact ix50 (hl0 x h.1.1 h.2.1)
abbrev v40 (x : Int32) : Prop := 0 ≤ x.toInt ∧ x.toInt < 40
theorem fj_k1 {k nf : Int32} (hk : 0 ≤ k.toInt ∧ k.toInt ≤ nf.toInt) (hn : nf.toInt < 40) (c : ¬ k ≤ 0) : v40 (k - 1) := by
  rw [li_le, li_0] at c
  show 0 ≤ _ ∧ _
  rw [li_dec (by omega) (by omega)]; omega
theorem fj_v {k nf : Int32} {fj : Nat → Int32} (hk : 0 ≤ k.toInt ∧ k.toInt ≤ nf.toInt) (hn : nf.toInt < 40) (hfj : ∀ j : Nat, (j : Int) ≤ nf.toInt → (j : Int) ≠ k.toInt → v40 (fj j)) (c : ¬ k ≤ 0) : v40 (fj (k - 1).toNatClampNeg) := by
  have h1 := fj_k1 hk hn c
  rw [li_le, li_0] at c
  have e1 := cl_nn h1.1
  have e2 : (k - 1).toInt = k.toInt - 1 := li_dec (by omega) (by omega)
  exact hfj _ (by omega) (by omega)
theorem fj_s {k nf : Int32} {fj : Nat → Int32} (hk : 0 ≤ k.toInt ∧ k.toInt ≤ nf.toInt) (hn : nf.toInt < 40) (hfj : ∀ j : Nat, (j : Int) ≤ nf.toInt → (j : Int) ≠ k.toInt → v40 (fj j)) (c : ¬ k ≤ 0) : ∀ j : Nat, (j : Int) ≤ nf.toInt → (j : Int) ≠ (k + (-1)).toInt → v40 (upd fj k.toNatClampNeg (fj (k - 1).toNatClampNeg) j) := by
  intro j hj hne
  have hv := fj_v hk hn hfj c
  rw [li_le, li_0] at c
  rw [li_decm (by omega) (by omega)] at hne
  have e1 := cl_nn (x := k) (by omega)
  by_cases h : j = k.toNatClampNeg
  · subst h; rw [pk_us]; exact hv
  · rw [pk_un h]; exact hfj j hj (by omega)
theorem fj_k {k nf : Int32} (hk : 0 ≤ k.toInt ∧ k.toInt ≤ nf.toInt) (hn : nf.toInt < 40) (c : ¬ k ≤ 0) : 0 ≤ (k + (-1)).toInt ∧ (k + (-1)).toInt ≤ nf.toInt := by
  rw [li_le, li_0] at c
  rw [li_decm (by omega) (by omega)]; omega
theorem fj_m {k nf : Int32} {n : Nat} (hk : 0 ≤ k.toInt ∧ k.toInt ≤ nf.toInt) (hn : nf.toInt < 40) (c : ¬ k ≤ 0) (hm : k.toInt.toNat + 1 ≤ n + 1) : (k + (-1)).toInt.toNat + 1 ≤ n := by
  rw [li_le, li_0] at c
  rw [li_decm (by omega) (by omega)]; omega
theorem fi_b {k nf r : Int32} {fj : Nat → Int32} (hk : 0 ≤ k.toInt ∧ k.toInt ≤ nf.toInt) (hn : nf.toInt < 40) (hr : v40 r) (hfj : ∀ j : Nat, (j : Int) ≤ nf.toInt → (j : Int) ≠ k.toInt → v40 (fj j)) : ∀ j : Nat, (j : Int) < (nf + 1).toInt → v40 (upd fj k.toNatClampNeg r j) := by
  intro j hj
  rw [li_inc (by omega) (by omega)] at hj
  have e1 := cl_nn (x := k) (by omega)
  by_cases h : j = k.toNatClampNeg
  · subst h; rw [pk_us]; exact hr
  · rw [pk_un h]; exact hfj j (by omega) (by omega)
theorem nf_b {nf r : Int32} (hnf : 0 ≤ nf.toInt ∧ nf.toInt ≤ r.toInt) (hr : v40 r) : 0 ≤ (nf + 1).toInt ∧ (nf + 1).toInt ≤ (r + 1).toInt := by
  rw [li_inc (by omega) (by omega), li_inc (by omega) (by omega)]; omega
theorem nf_a {nf r : Int32} (hnf : 0 ≤ nf.toInt ∧ nf.toInt ≤ r.toInt) (hr : v40 r) : 0 ≤ nf.toInt ∧ nf.toInt ≤ (r + 1).toInt := by
  rw [li_inc (by omega) (by omega)]; omega
theorem nf_lt {nf r : Int32} (hnf : 0 ≤ nf.toInt ∧ nf.toInt ≤ r.toInt) (hr : v40 r) : nf.toInt < 40 := by omega
theorem k_in {k nf : Int32} (hk : 0 ≤ k.toInt ∧ k.toInt ≤ nf.toInt) (hn : nf.toInt < 40) : vp_in k 40 := by rw [vp_in_iff]; omega
