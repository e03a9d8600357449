def zt (C n d : String) (A : Nat → Prop) (U : State) (H : Heap) : Prop := ∃ (cf : ClassId) (kf : Class) (fi : Nat) (f : Field) (a : Nat) (cell : Cell) (v : Value), U.vm.findClass C = some cf ∧ U.fieldFound? C n d = some (cf, kf, fi, f) ∧ f.isStatic = true ∧ kf.statics = some a ∧ cell.vm.isStatics = true ∧ cell.cls = cf ∧ f.slot < cell.slots.size ∧ kf.staticTypes[f.slot]? = some f.type ∧ cell.slots[f.slot]? = some v ∧ v.isRef = true ∧ H[a]? = some cell ∧ ¬ A a
theorem zt.moved {C n d : String} {A : Nat → Prop} {u U : State} {H : Heap} (hvm : u.vm.Alike U.vm) (h : zt C n d A u H) : zt C n d A U H := by
  obtain ⟨cf, kf, fi, f, a, cell, v, h0, h1, h2, h3, h4, h5, h6, h7, h8⟩ := h
  obtain ⟨k', hi', he⟩ := State.fieldFound?_setVm hvm h1
  exact ⟨cf, k', fi, f, a, cell, v, by rw [hvm.findClass]; exact h0, hi', h2, by rw [he]; exact h3, h4, h5, h6, by rw [he]; exact h7, h8⟩
theorem zt.kept {C n d : String} {A : Nat → Prop} {U : State} {H H1 : Heap} (h : zt C n d A U H) (hq : ∀ a : Nat, a < H.size → ¬ A a → H1[a]? = H[a]?) : zt C n d A U H1 := by
  obtain ⟨cf, kf, fi, f, a, cell, v, h0, h1, h2, h3, h4, h5, h6, h7, h8, h9, h10, h11⟩ := h
  exact ⟨cf, kf, fi, f, a, cell, v, h0, h1, h2, h3, h4, h5, h6, h7, h8, h9, by rw [hq a (Array.getElem?_eq_some_iff.mp h10).1 h11]; exact h10, h11⟩
theorem zt.narrow {C n d : String} {A B : Nat → Prop} {U : State} {H : Heap} (h : zt C n d A U H) (hAB : ∀ q, B q → A q) : zt C n d B U H := by
  obtain ⟨cf, kf, fi, f, a, cell, v, h0, h1, h2, h3, h4, h5, h6, h7, h8, h9, h10, h11⟩ := h
  exact ⟨cf, kf, fi, f, a, cell, v, h0, h1, h2, h3, h4, h5, h6, h7, h8, h9, h10, fun z => h11 (hAB a z)⟩
theorem zt.of {args : Array Value} {s : State} {C n d : String} {A : Nat → Prop} (hl : (Cond.laysStatic C n d).before args s = true) (h : (Cond.isRef (.static C n d)).before args s = true) (hA : ∀ a : Nat, a < s.heap.size → ¬ A a) : zt C n d A s s.heap := by
  obtain ⟨c, k, i, f, a, cell, hc, hi, hst, ha, hcell, hs, hcls, hlt, hty⟩ := Cond.laysStatic_spec hl
  cases hv : (Term.static C n d).eval args s none [] s with
  | none => simp [Cond.before, Cond.holds, Cond.value, hv] at h
  | some w =>
    simp only [Cond.before, Cond.holds, Cond.value, hv] at h
    obtain ⟨hst', a', cell', ha', hcell', -, hslot⟩ := Term.static_spec hi hv
    cases ha.symm.trans ha'
    cases hcell.symm.trans hcell'
    refine ⟨c, k, i, f, a, cell, w, hc, hi, hst, ha, hs, hcls, hlt, hty, hslot, ?_, hcell, hA a (Array.getElem?_eq_some_iff.mp hcell).1⟩
    cases w <;> simp_all [Value.isRef]
theorem zt.lays {args : Array Value} {C n d : String} {A : Nat → Prop} {U U' : State} {H : Heap} (h : zt C n d A U H) (hv : U'.vm = U.vm) (hh : U'.heap = H) : (Cond.laysStatic C n d).before args U' = true := by
  obtain ⟨cf, kf, fi, f, a, cell, v, h0, h1, h2, h3, h4, h5, h6, h7, h8, h9, h10, h11⟩ := h
  have h1' : U'.fieldFound? C n d = some (cf, kf, fi, f) := by rw [← h1]; simp only [State.fieldFound?, hv]
  exact Cond.laysStatic_of (by rw [hv]; exact h0) h1' h2 h3 (by rw [hh]; exact h10) h4 h5 h6 h7
theorem zt.isRef {args : Array Value} {C n d : String} {A : Nat → Prop} {U U' : State} {H : Heap} (h : zt C n d A U H) (hv : U'.vm = U.vm) (hh : U'.heap = H) : (Cond.isRef (.static C n d)).before args U' = true := by
  obtain ⟨cf, kf, fi, f, a, cell, v, h0, h1, h2, h3, h4, h5, h6, h7, h8, h9, h10, h11⟩ := h
  have h1' : U'.fieldFound? C n d = some (cf, kf, fi, f) := by rw [← h1]; simp only [State.fieldFound?, hv]
  subst hh
  cases v <;> simp_all [Cond.before, Cond.holds, Cond.value, Term.eval, State.fieldNamed?, Value.isRef]
theorem wn_P {D : va_G} {cl : List vw_C} {H : Heap} : va_P D cl [] H := fun k q h => by simp at h
theorem wn_D {A : Nat → Prop} : va_D A [] := ⟨fun i j p q h => by simp at h, fun k q h => by simp at h⟩
theorem lk_no {x : Int32} (h : ¬ x < 0) : 0 ≤ x := Int32.not_lt.mp h
theorem lk_no1 {x : Int32} (h : ¬ x < 1) : 0 < x := by
  have h1 := Int32.not_lt.mp h
  rw [Int32.le_iff_toInt_le] at h1
  rw [Int32.lt_iff_toInt_lt]
  have e1 : (1 : Int32).toInt = 1 := by decide
  have e0 : (0 : Int32).toInt = 0 := by decide
  omega
theorem lk_ge40 {i : Nat} (h : i < 40) : ¬ (40 : Int32) ≤ nI i := by
  have e : (40 : Int32) = nI 40 := by decide
  rw [e]; exact nI_ge h (by decide)
theorem lk_ge2000 {i : Nat} (h : i < 2000) : ¬ (2000 : Int32) ≤ nI i := by
  have e : (2000 : Int32) = nI 2000 := by decide
  rw [e]; exact nI_ge h (by decide)
theorem fl_gen {p : Program} {l : Launch} {e : Env} {R : Room} {s : State} {m : MethodId} {args : Array Value} {below : List Frame} {meth : Method} {c : Code} {H : Heap} {locs : List Loc} {cells slots : Nat} {Q : State → Prop} {g : JFrame} (h : H = s.heap) (h2 : locs = []) (k : W p l e R s m args below meth c H locs cells slots Q g) : W p l e R s m args below meth c s.heap [] cells slots Q g := by
  rw [← h, ← h2]; exact k
theorem lk_in {x : Int32} {n : Nat} (N : Int32) (hN : N.toInt = n) (h0 : ¬ x < 0) (h1 : ¬ N ≤ x) : vp_in x n := by
  rw [vp_in_iff]
  rw [Int32.not_lt, Int32.le_iff_toInt_le] at h0
  rw [Int32.not_le, Int32.lt_iff_toInt_lt] at h1
  have e0 : (0 : Int32).toInt = 0 := by decide
  omega
theorem lz_ushr (u : UInt64) : ((0 : Int64).toUInt64 >>> u).toInt64 = 0 := by
  have : (0 : Int64).toUInt64 = 0 := by decide
  rw [this, UInt64.zero_shiftRight]; rfl
theorem lk_16 (x : Int32) : x &&& 15 = 0 ∨ x &&& 15 = 1 ∨ x &&& 15 = 2 ∨ x &&& 15 = 3 ∨ x &&& 15 = 4 ∨ x &&& 15 = 5 ∨ x &&& 15 = 6 ∨ x &&& 15 = 7 ∨ x &&& 15 = 8 ∨ x &&& 15 = 9 ∨ x &&& 15 = 10 ∨ x &&& 15 = 11 ∨ x &&& 15 = 12 ∨ x &&& 15 = 13 ∨ x &&& 15 = 14 ∨ x &&& 15 = 15 := by
  obtain ⟨j, hj, e⟩ := pk_andE x (m := 15) 4 (by decide)
  rw [e]
  have : ∀ j, j < 16 → (nI j = 0 ∨ nI j = 1 ∨ nI j = 2 ∨ nI j = 3 ∨ nI j = 4 ∨ nI j = 5 ∨ nI j = 6 ∨ nI j = 7 ∨ nI j = 8 ∨ nI j = 9 ∨ nI j = 10 ∨ nI j = 11 ∨ nI j = 12 ∨ nI j = 13 ∨ nI j = 14 ∨ nI j = 15) := by decide
  exact this j hj
def nst : Nat := 7
def kz_len : List Nat := [4, 6, 4, 4, 4, 4, 6]
def kz_byt : List (List Int32) := [[108, 101, 110, 100], [114, 101, 102, 117, 115, 101], [102, 97, 105, 108], [114, 97, 110, 107], [107, 105, 110, 100], [116, 121, 112, 101], [112, 101, 114, 115, 111, 110]]
def zz (adK adV : Nat → Nat) (A : Nat → Prop) (U : State) : Prop :=
  va_Nw (.methodLinkNest "LoanRules$DaySet" 15 y_C_isDay "LoanRules") U ∧ va_Nw (.methodLinkNest "LoanRules" 11 y_T_init "LoanRules") U ∧ va_Nw (.methodLinkNest "LoanRules" 28 y_D_init "LoanRules") U ∧ va_Nw (.methodLinkNest "LoanRules" 84 y_R_init "LoanRules") U ∧ va_AO "LoanRules$Loan" U ∧ va_AO "LoanRules$Rule" U ∧ vk_R "LoanRules$RuleText" 25 "kind" (adK 4) U ∧ vk_R "LoanRules$RuleText" 35 "type" (adK 5) U ∧ vk_R "LoanRules$RuleText" 39 "person" (adK 6) U ∧ vk_R "LoanRules$RuleText" 61 "lend" (adK 0) U ∧ vk_R "LoanRules$RuleText" 66 "refuse" (adK 1) U ∧ vk_R "LoanRules$RuleText" 71 "fail" (adK 2) U ∧ vk_R "LoanRules$RuleText" 107 "rank" (adK 3) U ∧ va_Z "java/lang/String" "COMPACT_STRINGS" "Z" (.int 1) A U U.heap ∧ va_Zq "jdk/internal/util/Preconditions" "SIOOBE_FORMATTER" "Ljava/util/function/BiFunction;" A U U.heap ∧ zt "java/lang/Throwable" "UNASSIGNED_STACK" "[Ljava/lang/StackTraceElement;" A U U.heap ∧ zt "java/lang/Throwable" "SUPPRESSED_SENTINEL" "Ljava/util/List;" A U U.heap ∧ va_Nw (.declares ⟨"java/lang/RuntimeException", "<init>", "(Ljava/lang/String;)V"⟩) U ∧ va_Nw (.declares ⟨"java/lang/Exception", "<init>", "(Ljava/lang/String;)V"⟩) U ∧ va_Nw (.declares ⟨"java/lang/Throwable", "<init>", "(Ljava/lang/String;)V"⟩) U ∧ va_Nw (.castable "java/lang/IllegalStateException" "java/lang/IllegalStateException") U ∧ (∃ a : Nat, vk_R "LoanRules" 136 "the rule of the loan fails" a U) ∧ vk_S nst kz_len kz_byt adK adV A U U.heap
theorem zn_D_15 {adK adV : Nat → Nat} {A : Nat → Prop} {U : State} (h : zz adK adV A U) : va_Nw (.methodLinkNest "LoanRules$DaySet" 15 y_C_isDay "LoanRules") U := by
  obtain ⟨h0, h1, h2, h3, h4, h5, h6, h7, h8, h9, h10, h11, h12, h13, h14, h15, h16, h17, h18, h19, h20, h21, h22⟩ := h
  exact h0
theorem zn_C_11 {adK adV : Nat → Nat} {A : Nat → Prop} {U : State} (h : zz adK adV A U) : va_Nw (.methodLinkNest "LoanRules" 11 y_T_init "LoanRules") U := by
  obtain ⟨h0, h1, h2, h3, h4, h5, h6, h7, h8, h9, h10, h11, h12, h13, h14, h15, h16, h17, h18, h19, h20, h21, h22⟩ := h
  exact h1
theorem zn_C_28 {adK adV : Nat → Nat} {A : Nat → Prop} {U : State} (h : zz adK adV A U) : va_Nw (.methodLinkNest "LoanRules" 28 y_D_init "LoanRules") U := by
  obtain ⟨h0, h1, h2, h3, h4, h5, h6, h7, h8, h9, h10, h11, h12, h13, h14, h15, h16, h17, h18, h19, h20, h21, h22⟩ := h
  exact h2
theorem zn_C_84 {adK adV : Nat → Nat} {A : Nat → Prop} {U : State} (h : zz adK adV A U) : va_Nw (.methodLinkNest "LoanRules" 84 y_R_init "LoanRules") U := by
  obtain ⟨h0, h1, h2, h3, h4, h5, h6, h7, h8, h9, h10, h11, h12, h13, h14, h15, h16, h17, h18, h19, h20, h21, h22⟩ := h
  exact h3
theorem zo_N {adK adV : Nat → Nat} {A : Nat → Prop} {U : State} (h : zz adK adV A U) : va_AO "LoanRules$Loan" U := by
  obtain ⟨h0, h1, h2, h3, h4, h5, h6, h7, h8, h9, h10, h11, h12, h13, h14, h15, h16, h17, h18, h19, h20, h21, h22⟩ := h
  exact h4
theorem zo_R {adK adV : Nat → Nat} {A : Nat → Prop} {U : State} (h : zz adK adV A U) : va_AO "LoanRules$Rule" U := by
  obtain ⟨h0, h1, h2, h3, h4, h5, h6, h7, h8, h9, h10, h11, h12, h13, h14, h15, h16, h17, h18, h19, h20, h21, h22⟩ := h
  exact h5
theorem zs_T_25 {adK adV : Nat → Nat} {A : Nat → Prop} {U : State} (h : zz adK adV A U) : vk_R "LoanRules$RuleText" 25 "kind" (adK 4) U := by
  obtain ⟨h0, h1, h2, h3, h4, h5, h6, h7, h8, h9, h10, h11, h12, h13, h14, h15, h16, h17, h18, h19, h20, h21, h22⟩ := h
  exact h6
theorem zs_T_35 {adK adV : Nat → Nat} {A : Nat → Prop} {U : State} (h : zz adK adV A U) : vk_R "LoanRules$RuleText" 35 "type" (adK 5) U := by
  obtain ⟨h0, h1, h2, h3, h4, h5, h6, h7, h8, h9, h10, h11, h12, h13, h14, h15, h16, h17, h18, h19, h20, h21, h22⟩ := h
  exact h7
theorem zs_T_39 {adK adV : Nat → Nat} {A : Nat → Prop} {U : State} (h : zz adK adV A U) : vk_R "LoanRules$RuleText" 39 "person" (adK 6) U := by
  obtain ⟨h0, h1, h2, h3, h4, h5, h6, h7, h8, h9, h10, h11, h12, h13, h14, h15, h16, h17, h18, h19, h20, h21, h22⟩ := h
  exact h8
theorem zs_T_61 {adK adV : Nat → Nat} {A : Nat → Prop} {U : State} (h : zz adK adV A U) : vk_R "LoanRules$RuleText" 61 "lend" (adK 0) U := by
  obtain ⟨h0, h1, h2, h3, h4, h5, h6, h7, h8, h9, h10, h11, h12, h13, h14, h15, h16, h17, h18, h19, h20, h21, h22⟩ := h
  exact h9
theorem zs_T_66 {adK adV : Nat → Nat} {A : Nat → Prop} {U : State} (h : zz adK adV A U) : vk_R "LoanRules$RuleText" 66 "refuse" (adK 1) U := by
  obtain ⟨h0, h1, h2, h3, h4, h5, h6, h7, h8, h9, h10, h11, h12, h13, h14, h15, h16, h17, h18, h19, h20, h21, h22⟩ := h
  exact h10
theorem zs_T_71 {adK adV : Nat → Nat} {A : Nat → Prop} {U : State} (h : zz adK adV A U) : vk_R "LoanRules$RuleText" 71 "fail" (adK 2) U := by
  obtain ⟨h0, h1, h2, h3, h4, h5, h6, h7, h8, h9, h10, h11, h12, h13, h14, h15, h16, h17, h18, h19, h20, h21, h22⟩ := h
  exact h11
theorem zs_T_107 {adK adV : Nat → Nat} {A : Nat → Prop} {U : State} (h : zz adK adV A U) : vk_R "LoanRules$RuleText" 107 "rank" (adK 3) U := by
  obtain ⟨h0, h1, h2, h3, h4, h5, h6, h7, h8, h9, h10, h11, h12, h13, h14, h15, h16, h17, h18, h19, h20, h21, h22⟩ := h
  exact h12
theorem zz_cs {adK adV : Nat → Nat} {A : Nat → Prop} {U : State} (h : zz adK adV A U) : va_Z "java/lang/String" "COMPACT_STRINGS" "Z" (.int 1) A U U.heap := by
  obtain ⟨h0, h1, h2, h3, h4, h5, h6, h7, h8, h9, h10, h11, h12, h13, h14, h15, h16, h17, h18, h19, h20, h21, h22⟩ := h
  exact h13
theorem zz_sf {adK adV : Nat → Nat} {A : Nat → Prop} {U : State} (h : zz adK adV A U) : va_Zq "jdk/internal/util/Preconditions" "SIOOBE_FORMATTER" "Ljava/util/function/BiFunction;" A U U.heap := by
  obtain ⟨h0, h1, h2, h3, h4, h5, h6, h7, h8, h9, h10, h11, h12, h13, h14, h15, h16, h17, h18, h19, h20, h21, h22⟩ := h
  exact h14
theorem zz_us {adK adV : Nat → Nat} {A : Nat → Prop} {U : State} (h : zz adK adV A U) : zt "java/lang/Throwable" "UNASSIGNED_STACK" "[Ljava/lang/StackTraceElement;" A U U.heap := by
  obtain ⟨h0, h1, h2, h3, h4, h5, h6, h7, h8, h9, h10, h11, h12, h13, h14, h15, h16, h17, h18, h19, h20, h21, h22⟩ := h
  exact h15
theorem zz_ss {adK adV : Nat → Nat} {A : Nat → Prop} {U : State} (h : zz adK adV A U) : zt "java/lang/Throwable" "SUPPRESSED_SENTINEL" "Ljava/util/List;" A U U.heap := by
  obtain ⟨h0, h1, h2, h3, h4, h5, h6, h7, h8, h9, h10, h11, h12, h13, h14, h15, h16, h17, h18, h19, h20, h21, h22⟩ := h
  exact h16
theorem zd_0 {adK adV : Nat → Nat} {A : Nat → Prop} {U : State} (h : zz adK adV A U) : va_Nw (.declares ⟨"java/lang/RuntimeException", "<init>", "(Ljava/lang/String;)V"⟩) U := by
  obtain ⟨h0, h1, h2, h3, h4, h5, h6, h7, h8, h9, h10, h11, h12, h13, h14, h15, h16, h17, h18, h19, h20, h21, h22⟩ := h
  exact h17
theorem zd_1 {adK adV : Nat → Nat} {A : Nat → Prop} {U : State} (h : zz adK adV A U) : va_Nw (.declares ⟨"java/lang/Exception", "<init>", "(Ljava/lang/String;)V"⟩) U := by
  obtain ⟨h0, h1, h2, h3, h4, h5, h6, h7, h8, h9, h10, h11, h12, h13, h14, h15, h16, h17, h18, h19, h20, h21, h22⟩ := h
  exact h18
theorem zd_2 {adK adV : Nat → Nat} {A : Nat → Prop} {U : State} (h : zz adK adV A U) : va_Nw (.declares ⟨"java/lang/Throwable", "<init>", "(Ljava/lang/String;)V"⟩) U := by
  obtain ⟨h0, h1, h2, h3, h4, h5, h6, h7, h8, h9, h10, h11, h12, h13, h14, h15, h16, h17, h18, h19, h20, h21, h22⟩ := h
  exact h19
theorem zz_ca {adK adV : Nat → Nat} {A : Nat → Prop} {U : State} (h : zz adK adV A U) : va_Nw (.castable "java/lang/IllegalStateException" "java/lang/IllegalStateException") U := by
  obtain ⟨h0, h1, h2, h3, h4, h5, h6, h7, h8, h9, h10, h11, h12, h13, h14, h15, h16, h17, h18, h19, h20, h21, h22⟩ := h
  exact h20
theorem zm_136 {adK adV : Nat → Nat} {A : Nat → Prop} {U : State} (h : zz adK adV A U) : (∃ a : Nat, vk_R "LoanRules" 136 "the rule of the loan fails" a U) := by
  obtain ⟨h0, h1, h2, h3, h4, h5, h6, h7, h8, h9, h10, h11, h12, h13, h14, h15, h16, h17, h18, h19, h20, h21, h22⟩ := h
  exact h21
theorem zz_S {adK adV : Nat → Nat} {A : Nat → Prop} {U : State} (h : zz adK adV A U) : vk_S nst kz_len kz_byt adK adV A U U.heap := by
  obtain ⟨h0, h1, h2, h3, h4, h5, h6, h7, h8, h9, h10, h11, h12, h13, h14, h15, h16, h17, h18, h19, h20, h21, h22⟩ := h
  exact h22
theorem zz_call {adK adV : Nat → Nat} {A : Nat → Prop} {U : State} {g : JFrame} {mk : MethodId} {a : Array Value} (h : zz adK adV A U) : zz adK adV A (U.calling g mk a) := by
  obtain ⟨h0, h1, h2, h3, h4, h5, h6, h7, h8, h9, h10, h11, h12, h13, h14, h15, h16, h17, h18, h19, h20, h21, h22⟩ := h
  exact ⟨va_Nw.same rfl (u := U) rfl h0, va_Nw.same rfl (u := U) rfl h1, va_Nw.same rfl (u := U) rfl h2, va_Nw.same rfl (u := U) rfl h3, va_AO.moved (Vm.Alike.refl U.vm) h4, va_AO.moved (Vm.Alike.refl U.vm) h5, vk_R.same (u := U) rfl h6, vk_R.same (u := U) rfl h7, vk_R.same (u := U) rfl h8, vk_R.same (u := U) rfl h9, vk_R.same (u := U) rfl h10, vk_R.same (u := U) rfl h11, vk_R.same (u := U) rfl h12, va_Z.moved (Vm.Alike.refl U.vm) h13, va_Zq.moved (Vm.Alike.refl U.vm) h14, zt.moved (Vm.Alike.refl U.vm) h15, zt.moved (Vm.Alike.refl U.vm) h16, va_Nw.same rfl (u := U) rfl h17, va_Nw.same rfl (u := U) rfl h18, va_Nw.same rfl (u := U) rfl h19, va_Nw.same rfl (u := U) rfl h20, h21.imp (fun _ k9 => vk_R.same (u := U) rfl k9), vk_S.moved (Vm.Alike.refl U.vm) h22⟩
theorem zz_rr {adK adV : Nat → Nat} {A : Nat → Prop} {s U : State} (hU : U.heap = s.heap) (hW : s.WarmedH U.vm) (h : zz adK adV A s) : zz adK adV A U := by
  obtain ⟨h0, h1, h2, h3, h4, h5, h6, h7, h8, h9, h10, h11, h12, h13, h14, h15, h16, h17, h18, h19, h20, h21, h22⟩ := h
  exact ⟨va_Nw.warmM hW h0, va_Nw.warmM hW h1, va_Nw.warmM hW h2, va_Nw.warmM hW h3, va_AO.moved hW.alike h4, va_AO.moved hW.alike h5, vk_R.warm hW h6, vk_R.warm hW h7, vk_R.warm hW h8, vk_R.warm hW h9, vk_R.warm hW h10, vk_R.warm hW h11, vk_R.warm hW h12, by rw [hU]; exact va_Z.moved hW.alike h13, by rw [hU]; exact va_Zq.moved hW.alike h14, by rw [hU]; exact zt.moved hW.alike h15, by rw [hU]; exact zt.moved hW.alike h16, va_Nw.warmD hW h17, va_Nw.warmD hW h18, va_Nw.warmD hW h19, va_Nw.warmC hW h20, h21.imp (fun _ k9 => vk_R.warm hW k9), by rw [hU]; exact vk_S.moved hW.alike h22⟩
theorem zz_ro {adK adV : Nat → Nat} {A : Nat → Prop} {s U : State} {H : Heap} {locs : List Loc} (hS : va_S A s.heap H locs) (hU : U.heap = H) (hW : s.WarmedH U.vm) (h : zz adK adV A s) : zz adK adV (fun _ => False) U := by
  obtain ⟨h0, h1, h2, h3, h4, h5, h6, h7, h8, h9, h10, h11, h12, h13, h14, h15, h16, h17, h18, h19, h20, h21, h22⟩ := h
  exact ⟨va_Nw.warmM hW h0, va_Nw.warmM hW h1, va_Nw.warmM hW h2, va_Nw.warmM hW h3, va_AO.moved hW.alike h4, va_AO.moved hW.alike h5, vk_R.warm hW h6, vk_R.warm hW h7, vk_R.warm hW h8, vk_R.warm hW h9, vk_R.warm hW h10, vk_R.warm hW h11, vk_R.warm hW h12, by rw [hU]; exact (va_Z.moved hW.alike (h13.kept hS.2.1)).narrow (fun _ h => h.elim), by rw [hU]; exact (va_Zq.moved hW.alike (h14.kept hS.2.1)).narrow (fun _ h => h.elim), by rw [hU]; exact (zt.moved hW.alike (h15.kept hS.2.1)).narrow (fun _ h => h.elim), by rw [hU]; exact (zt.moved hW.alike (h16.kept hS.2.1)).narrow (fun _ h => h.elim), va_Nw.warmD hW h17, va_Nw.warmD hW h18, va_Nw.warmD hW h19, va_Nw.warmC hW h20, h21.imp (fun _ k9 => vk_R.warm hW k9), by rw [hU]; exact (vk_S.moved hW.alike (h22.kept hS.2.1)).narrow (fun _ h => h.elim)⟩
theorem zz_rw {adK adV : Nat → Nat} {A A1 : Nat → Prop} {s U : State} {H : Heap} {locs : List Loc} (hS : va_S A s.heap H locs) (hF : ∀ q, A1 q → A q) (hU : U.heap = H) (hW : s.WarmedH U.vm) (h : zz adK adV A s) : zz adK adV A1 U := by
  obtain ⟨h0, h1, h2, h3, h4, h5, h6, h7, h8, h9, h10, h11, h12, h13, h14, h15, h16, h17, h18, h19, h20, h21, h22⟩ := h
  exact ⟨va_Nw.warmM hW h0, va_Nw.warmM hW h1, va_Nw.warmM hW h2, va_Nw.warmM hW h3, va_AO.moved hW.alike h4, va_AO.moved hW.alike h5, vk_R.warm hW h6, vk_R.warm hW h7, vk_R.warm hW h8, vk_R.warm hW h9, vk_R.warm hW h10, vk_R.warm hW h11, vk_R.warm hW h12, by rw [hU]; exact (va_Z.moved hW.alike (h13.kept hS.2.1)).narrow hF, by rw [hU]; exact (va_Zq.moved hW.alike (h14.kept hS.2.1)).narrow hF, by rw [hU]; exact (zt.moved hW.alike (h15.kept hS.2.1)).narrow hF, by rw [hU]; exact (zt.moved hW.alike (h16.kept hS.2.1)).narrow hF, va_Nw.warmD hW h17, va_Nw.warmD hW h18, va_Nw.warmD hW h19, va_Nw.warmC hW h20, h21.imp (fun _ k9 => vk_R.warm hW k9), by rw [hU]; exact (vk_S.moved hW.alike (h22.kept hS.2.1)).narrow hF⟩
theorem zk_pos {iw : Nat} (h : iw < nst) : (0 : Int32) < nI (kz_len.getD iw 0) := by
  have : ∀ k, k < nst → (0 : Int32) < nI (kz_len.getD k 0) := by decide
  exact this iw h
theorem zk_len {iw : Nat} (h : iw < nst) : ¬ nI (kz_len.getD iw 0) ≤ 0 := by
  have : ∀ k, k < nst → ¬ nI (kz_len.getD k 0) ≤ 0 := by decide
  exact this iw h
theorem zk_in {iw : Nat} (h : iw < nst) : vp_in 0 (kz_len.getD iw 0) := by
  have : ∀ k, k < nst → ¬ ((0 : Int32) < 0 ∨ (kz_len.getD k 0) ≤ (0 : Int32).toNatClampNeg) := by decide
  exact this iw h
theorem zk_chr {x : Int32} : ¬ (-1 : Int32) = (x.toUInt32 % 65536).toInt32 := by
  rw [pk_char]
  intro h
  have h1 := congrArg Int32.toInt h
  rw [nI_toInt (by omega)] at h1
  have e : (-1 : Int32).toInt = -1 := by decide
  omega
