section
-- ===== PART A: goes FIRST, ahead of the names: the tables' words, and 'selects' of the private methods out of them =====
/-- a private method of a class that the tables say can be made, by its rows of tables_1 -/
def lw_okq (q : MethodName × Nat) : Prop := (q.1.cls ≠ "java/lang/invoke/MethodHandle" ∧ q.1.cls ≠ "java/lang/invoke/VarHandle") ∧ Cond.instantiable q.1.cls q.2 ∈ tables_1 ∧ Cond.privateMethod q.1 ∈ tables_1 ∧ Cond.instanceMethod q.1 ∈ tables_1
theorem lw_p0 : lw_okq (⟨"LoanRules$RuleText", "readCondition", "(Ljava/lang/String;II)I"⟩, 4) := ⟨⟨by decide +kernel, by decide +kernel⟩, List.mem_of_getElem? (i := 26) (by decide +kernel), List.mem_of_getElem? (i := 191) (by decide +kernel), List.mem_of_getElem? (i := 192) (by decide +kernel)⟩
theorem lw_p1 : lw_okq (⟨"LoanRules$RuleText", "takesWord", "(Ljava/lang/String;)Z"⟩, 4) := ⟨⟨by decide +kernel, by decide +kernel⟩, List.mem_of_getElem? (i := 26) (by decide +kernel), List.mem_of_getElem? (i := 195) (by decide +kernel), List.mem_of_getElem? (i := 196) (by decide +kernel)⟩
theorem lw_p2 : lw_okq (⟨"LoanRules$RuleText", "signAt", "(I)I"⟩, 4) := ⟨⟨by decide +kernel, by decide +kernel⟩, List.mem_of_getElem? (i := 26) (by decide +kernel), List.mem_of_getElem? (i := 209) (by decide +kernel), List.mem_of_getElem? (i := 210) (by decide +kernel)⟩
theorem lw_p3 : lw_okq (⟨"LoanRules$RuleText", "takeNumber", "(II)I"⟩, 4) := ⟨⟨by decide +kernel, by decide +kernel⟩, List.mem_of_getElem? (i := 26) (by decide +kernel), List.mem_of_getElem? (i := 254) (by decide +kernel), List.mem_of_getElem? (i := 255) (by decide +kernel)⟩
theorem lw_p4 : lw_okq (⟨"LoanRules$RuleText", "takeSpace", "()V"⟩, 4) := ⟨⟨by decide +kernel, by decide +kernel⟩, List.mem_of_getElem? (i := 26) (by decide +kernel), List.mem_of_getElem? (i := 258) (by decide +kernel), List.mem_of_getElem? (i := 259) (by decide +kernel)⟩
theorem lw_p5 : lw_okq (⟨"LoanRules$RuleText", "markWrong", "(I)V"⟩, 4) := ⟨⟨by decide +kernel, by decide +kernel⟩, List.mem_of_getElem? (i := 26) (by decide +kernel), List.mem_of_getElem? (i := 262) (by decide +kernel), List.mem_of_getElem? (i := 263) (by decide +kernel)⟩
theorem lw_p6 : lw_okq (⟨"LoanRules$RuleText", "readDeed", "(LLoanRules$Rule;)V"⟩, 4) := ⟨⟨by decide +kernel, by decide +kernel⟩, List.mem_of_getElem? (i := 26) (by decide +kernel), List.mem_of_getElem? (i := 271) (by decide +kernel), List.mem_of_getElem? (i := 272) (by decide +kernel)⟩
theorem lw_p7 : lw_okq (⟨"LoanRules$RuleText", "readLength", "(LLoanRules$Rule;)V"⟩, 4) := ⟨⟨by decide +kernel, by decide +kernel⟩, List.mem_of_getElem? (i := 26) (by decide +kernel), List.mem_of_getElem? (i := 276) (by decide +kernel), List.mem_of_getElem? (i := 277) (by decide +kernel)⟩
theorem lw_p8 : lw_okq (⟨"LoanRules$RuleText", "takesWordBehindSpace", "(Ljava/lang/String;)Z"⟩, 4) := ⟨⟨by decide +kernel, by decide +kernel⟩, List.mem_of_getElem? (i := 26) (by decide +kernel), List.mem_of_getElem? (i := 281) (by decide +kernel), List.mem_of_getElem? (i := 282) (by decide +kernel)⟩
theorem lw_p9 : lw_okq (⟨"LoanRules$RuleText", "readRest", "(LLoanRules$Rule;)V"⟩, 4) := ⟨⟨by decide +kernel, by decide +kernel⟩, List.mem_of_getElem? (i := 26) (by decide +kernel), List.mem_of_getElem? (i := 287) (by decide +kernel), List.mem_of_getElem? (i := 288) (by decide +kernel)⟩
theorem lw_p10 : lw_okq (⟨"LoanRules$RuleText", "readOption", "(Ljava/lang/String;I)I"⟩, 4) := ⟨⟨by decide +kernel, by decide +kernel⟩, List.mem_of_getElem? (i := 26) (by decide +kernel), List.mem_of_getElem? (i := 296) (by decide +kernel), List.mem_of_getElem? (i := 297) (by decide +kernel)⟩
theorem lw_p11 : lw_okq (⟨"LoanRules", "heldLoan", "(I)LLoanRules$Loan;"⟩, 16) := ⟨⟨by decide +kernel, by decide +kernel⟩, List.mem_of_getElem? (i := 18) (by decide +kernel), List.mem_of_getElem? (i := 343) (by decide +kernel), List.mem_of_getElem? (i := 344) (by decide +kernel)⟩
theorem lw_p12 : lw_okq (⟨"LoanRules", "causeOf", "(I)I"⟩, 16) := ⟨⟨by decide +kernel, by decide +kernel⟩, List.mem_of_getElem? (i := 18) (by decide +kernel), List.mem_of_getElem? (i := 351) (by decide +kernel), List.mem_of_getElem? (i := 352) (by decide +kernel)⟩
theorem lw_p13 : lw_okq (⟨"LoanRules", "dueDayByRule", "(LLoanRules$Rule;I)I"⟩, 16) := ⟨⟨by decide +kernel, by decide +kernel⟩, List.mem_of_getElem? (i := 18) (by decide +kernel), List.mem_of_getElem? (i := 355) (by decide +kernel), List.mem_of_getElem? (i := 356) (by decide +kernel)⟩
theorem lw_p14 : lw_okq (⟨"LoanRules", "openDayFrom", "(I)I"⟩, 16) := ⟨⟨by decide +kernel, by decide +kernel⟩, List.mem_of_getElem? (i := 18) (by decide +kernel), List.mem_of_getElem? (i := 359) (by decide +kernel), List.mem_of_getElem? (i := 360) (by decide +kernel)⟩
theorem lw_p15 : lw_okq (⟨"LoanRules", "ruleAt", "(I)LLoanRules$Rule;"⟩, 16) := ⟨⟨by decide +kernel, by decide +kernel⟩, List.mem_of_getElem? (i := 18) (by decide +kernel), List.mem_of_getElem? (i := 391) (by decide +kernel), List.mem_of_getElem? (i := 392) (by decide +kernel)⟩
def lw_privs_1 : List (MethodName × Nat) := [(⟨"LoanRules$RuleText", "readCondition", "(Ljava/lang/String;II)I"⟩, 4), (⟨"LoanRules$RuleText", "takesWord", "(Ljava/lang/String;)Z"⟩, 4), (⟨"LoanRules$RuleText", "signAt", "(I)I"⟩, 4), (⟨"LoanRules$RuleText", "takeNumber", "(II)I"⟩, 4), (⟨"LoanRules$RuleText", "takeSpace", "()V"⟩, 4), (⟨"LoanRules$RuleText", "markWrong", "(I)V"⟩, 4), (⟨"LoanRules$RuleText", "readDeed", "(LLoanRules$Rule;)V"⟩, 4), (⟨"LoanRules$RuleText", "readLength", "(LLoanRules$Rule;)V"⟩, 4), (⟨"LoanRules$RuleText", "takesWordBehindSpace", "(Ljava/lang/String;)Z"⟩, 4), (⟨"LoanRules$RuleText", "readRest", "(LLoanRules$Rule;)V"⟩, 4), (⟨"LoanRules$RuleText", "readOption", "(Ljava/lang/String;I)I"⟩, 4), (⟨"LoanRules", "heldLoan", "(I)LLoanRules$Loan;"⟩, 16), (⟨"LoanRules", "causeOf", "(I)I"⟩, 16), (⟨"LoanRules", "dueDayByRule", "(LLoanRules$Rule;I)I"⟩, 16), (⟨"LoanRules", "openDayFrom", "(I)I"⟩, 16), (⟨"LoanRules", "ruleAt", "(I)LLoanRules$Rule;"⟩, 16)]
theorem lw_r1 : ∀ q ∈ lw_privs_1, lw_okq q := List.forall_mem_cons.mpr ⟨lw_p0, List.forall_mem_cons.mpr ⟨lw_p1, List.forall_mem_cons.mpr ⟨lw_p2, List.forall_mem_cons.mpr ⟨lw_p3, List.forall_mem_cons.mpr ⟨lw_p4, List.forall_mem_cons.mpr ⟨lw_p5, List.forall_mem_cons.mpr ⟨lw_p6, List.forall_mem_cons.mpr ⟨lw_p7, List.forall_mem_cons.mpr ⟨lw_p8, List.forall_mem_cons.mpr ⟨lw_p9, List.forall_mem_cons.mpr ⟨lw_p10, List.forall_mem_cons.mpr ⟨lw_p11, List.forall_mem_cons.mpr ⟨lw_p12, List.forall_mem_cons.mpr ⟨lw_p13, List.forall_mem_cons.mpr ⟨lw_p14, List.forall_mem_cons.mpr ⟨lw_p15, fun _ h => absurd h List.not_mem_nil⟩⟩⟩⟩⟩⟩⟩⟩⟩⟩⟩⟩⟩⟩⟩⟩
theorem lw_p16 : lw_okq (⟨"LoanRules", "fittingAt", "(I)I"⟩, 16) := ⟨⟨by decide +kernel, by decide +kernel⟩, List.mem_of_getElem? (i := 18) (by decide +kernel), List.mem_of_getElem? (i := 403) (by decide +kernel), List.mem_of_getElem? (i := 404) (by decide +kernel)⟩
theorem lw_p17 : lw_okq (⟨"LoanRules", "gatherFitting", "(III)V"⟩, 16) := ⟨⟨by decide +kernel, by decide +kernel⟩, List.mem_of_getElem? (i := 18) (by decide +kernel), List.mem_of_getElem? (i := 423) (by decide +kernel), List.mem_of_getElem? (i := 424) (by decide +kernel)⟩
theorem lw_p18 : lw_okq (⟨"LoanRules", "fits", "(LLoanRules$Rule;II)Z"⟩, 16) := ⟨⟨by decide +kernel, by decide +kernel⟩, List.mem_of_getElem? (i := 18) (by decide +kernel), List.mem_of_getElem? (i := 427) (by decide +kernel), List.mem_of_getElem? (i := 428) (by decide +kernel)⟩
theorem lw_p19 : lw_okq (⟨"LoanRules", "isExcepted", "(III)Z"⟩, 16) := ⟨⟨by decide +kernel, by decide +kernel⟩, List.mem_of_getElem? (i := 18) (by decide +kernel), List.mem_of_getElem? (i := 431) (by decide +kernel), List.mem_of_getElem? (i := 432) (by decide +kernel)⟩
theorem lw_p20 : lw_okq (⟨"LoanRules", "insertByRank", "(II)V"⟩, 16) := ⟨⟨by decide +kernel, by decide +kernel⟩, List.mem_of_getElem? (i := 18) (by decide +kernel), List.mem_of_getElem? (i := 435) (by decide +kernel), List.mem_of_getElem? (i := 436) (by decide +kernel)⟩
theorem lw_p21 : lw_okq (⟨"LoanRules", "rankOf", "(I)I"⟩, 16) := ⟨⟨by decide +kernel, by decide +kernel⟩, List.mem_of_getElem? (i := 18) (by decide +kernel), List.mem_of_getElem? (i := 439) (by decide +kernel), List.mem_of_getElem? (i := 440) (by decide +kernel)⟩
theorem lw_p22 : lw_okq (⟨"LoanRules", "noteClash", "()V"⟩, 16) := ⟨⟨by decide +kernel, by decide +kernel⟩, List.mem_of_getElem? (i := 18) (by decide +kernel), List.mem_of_getElem? (i := 443) (by decide +kernel), List.mem_of_getElem? (i := 444) (by decide +kernel)⟩
theorem lw_p23 : lw_okq (⟨"java/lang/Throwable", "fillInStackTrace", "(I)Ljava/lang/Throwable;"⟩, 6) := ⟨⟨by decide +kernel, by decide +kernel⟩, List.mem_of_getElem? (i := 483) (by decide +kernel), List.mem_of_getElem? (i := 481) (by decide +kernel), List.mem_of_getElem? (i := 482) (by decide +kernel)⟩
theorem lw_p24 : lw_okq (⟨"LoanRules", "addLoan", "(LLoanRules$Loan;)I"⟩, 16) := ⟨⟨by decide +kernel, by decide +kernel⟩, List.mem_of_getElem? (i := 18) (by decide +kernel), List.mem_of_getElem? (i := 551) (by decide +kernel), List.mem_of_getElem? (i := 552) (by decide +kernel)⟩
theorem lw_p25 : lw_okq (⟨"LoanRulesModel", "reads", "()Z"⟩, 22) := ⟨⟨by decide +kernel, by decide +kernel⟩, List.mem_of_getElem? (i := 555) (by decide +kernel), List.mem_of_getElem? (i := 640) (by decide +kernel), List.mem_of_getElem? (i := 641) (by decide +kernel)⟩
theorem lw_p26 : lw_okq (⟨"LoanRulesModel", "space", "()Z"⟩, 22) := ⟨⟨by decide +kernel, by decide +kernel⟩, List.mem_of_getElem? (i := 555) (by decide +kernel), List.mem_of_getElem? (i := 644) (by decide +kernel), List.mem_of_getElem? (i := 645) (by decide +kernel)⟩
theorem lw_p27 : lw_okq (⟨"LoanRulesModel", "look", "(I)I"⟩, 22) := ⟨⟨by decide +kernel, by decide +kernel⟩, List.mem_of_getElem? (i := 555) (by decide +kernel), List.mem_of_getElem? (i := 648) (by decide +kernel), List.mem_of_getElem? (i := 649) (by decide +kernel)⟩
theorem lw_p28 : lw_okq (⟨"LoanRulesModel", "bad", "(I)Z"⟩, 22) := ⟨⟨by decide +kernel, by decide +kernel⟩, List.mem_of_getElem? (i := 555) (by decide +kernel), List.mem_of_getElem? (i := 652) (by decide +kernel), List.mem_of_getElem? (i := 653) (by decide +kernel)⟩
theorem lw_p29 : lw_okq (⟨"LoanRulesModel", "word", "()J"⟩, 22) := ⟨⟨by decide +kernel, by decide +kernel⟩, List.mem_of_getElem? (i := 555) (by decide +kernel), List.mem_of_getElem? (i := 656) (by decide +kernel), List.mem_of_getElem? (i := 657) (by decide +kernel)⟩
theorem lw_p30 : lw_okq (⟨"LoanRulesModel", "pass", "()V"⟩, 22) := ⟨⟨by decide +kernel, by decide +kernel⟩, List.mem_of_getElem? (i := 555) (by decide +kernel), List.mem_of_getElem? (i := 676) (by decide +kernel), List.mem_of_getElem? (i := 677) (by decide +kernel)⟩
theorem lw_p31 : lw_okq (⟨"LoanRulesModel", "one", "(I)Z"⟩, 22) := ⟨⟨by decide +kernel, by decide +kernel⟩, List.mem_of_getElem? (i := 555) (by decide +kernel), List.mem_of_getElem? (i := 680) (by decide +kernel), List.mem_of_getElem? (i := 681) (by decide +kernel)⟩
def lw_privs_2 : List (MethodName × Nat) := [(⟨"LoanRules", "fittingAt", "(I)I"⟩, 16), (⟨"LoanRules", "gatherFitting", "(III)V"⟩, 16), (⟨"LoanRules", "fits", "(LLoanRules$Rule;II)Z"⟩, 16), (⟨"LoanRules", "isExcepted", "(III)Z"⟩, 16), (⟨"LoanRules", "insertByRank", "(II)V"⟩, 16), (⟨"LoanRules", "rankOf", "(I)I"⟩, 16), (⟨"LoanRules", "noteClash", "()V"⟩, 16), (⟨"java/lang/Throwable", "fillInStackTrace", "(I)Ljava/lang/Throwable;"⟩, 6), (⟨"LoanRules", "addLoan", "(LLoanRules$Loan;)I"⟩, 16), (⟨"LoanRulesModel", "reads", "()Z"⟩, 22), (⟨"LoanRulesModel", "space", "()Z"⟩, 22), (⟨"LoanRulesModel", "look", "(I)I"⟩, 22), (⟨"LoanRulesModel", "bad", "(I)Z"⟩, 22), (⟨"LoanRulesModel", "word", "()J"⟩, 22), (⟨"LoanRulesModel", "pass", "()V"⟩, 22), (⟨"LoanRulesModel", "one", "(I)Z"⟩, 22)]
theorem lw_r2 : ∀ q ∈ lw_privs_2, lw_okq q := List.forall_mem_cons.mpr ⟨lw_p16, List.forall_mem_cons.mpr ⟨lw_p17, List.forall_mem_cons.mpr ⟨lw_p18, List.forall_mem_cons.mpr ⟨lw_p19, List.forall_mem_cons.mpr ⟨lw_p20, List.forall_mem_cons.mpr ⟨lw_p21, List.forall_mem_cons.mpr ⟨lw_p22, List.forall_mem_cons.mpr ⟨lw_p23, List.forall_mem_cons.mpr ⟨lw_p24, List.forall_mem_cons.mpr ⟨lw_p25, List.forall_mem_cons.mpr ⟨lw_p26, List.forall_mem_cons.mpr ⟨lw_p27, List.forall_mem_cons.mpr ⟨lw_p28, List.forall_mem_cons.mpr ⟨lw_p29, List.forall_mem_cons.mpr ⟨lw_p30, List.forall_mem_cons.mpr ⟨lw_p31, fun _ h => absurd h List.not_mem_nil⟩⟩⟩⟩⟩⟩⟩⟩⟩⟩⟩⟩⟩⟩⟩⟩
theorem lw_p32 : lw_okq (⟨"LoanRulesModel", "number", "(III)Z"⟩, 22) := ⟨⟨by decide +kernel, by decide +kernel⟩, List.mem_of_getElem? (i := 555) (by decide +kernel), List.mem_of_getElem? (i := 684) (by decide +kernel), List.mem_of_getElem? (i := 685) (by decide +kernel)⟩
theorem lw_p33 : lw_okq (⟨"LoanRulesModel", "lends", "()Z"⟩, 22) := ⟨⟨by decide +kernel, by decide +kernel⟩, List.mem_of_getElem? (i := 555) (by decide +kernel), List.mem_of_getElem? (i := 691) (by decide +kernel), List.mem_of_getElem? (i := 692) (by decide +kernel)⟩
theorem lw_p34 : lw_okq (⟨"LoanRulesModel", "isRule", "(I)Z"⟩, 22) := ⟨⟨by decide +kernel, by decide +kernel⟩, List.mem_of_getElem? (i := 555) (by decide +kernel), List.mem_of_getElem? (i := 722) (by decide +kernel), List.mem_of_getElem? (i := 723) (by decide +kernel)⟩
theorem lw_p35 : lw_okq (⟨"LoanRulesModel", "find", "(III)V"⟩, 22) := ⟨⟨by decide +kernel, by decide +kernel⟩, List.mem_of_getElem? (i := 555) (by decide +kernel), List.mem_of_getElem? (i := 734) (by decide +kernel), List.mem_of_getElem? (i := 735) (by decide +kernel)⟩
theorem lw_p36 : lw_okq (⟨"LoanRulesModel", "fitsFor", "(IIII)Z"⟩, 22) := ⟨⟨by decide +kernel, by decide +kernel⟩, List.mem_of_getElem? (i := 555) (by decide +kernel), List.mem_of_getElem? (i := 738) (by decide +kernel), List.mem_of_getElem? (i := 739) (by decide +kernel)⟩
theorem lw_p37 : lw_okq (⟨"LoanRulesModel", "clashes", "()V"⟩, 22) := ⟨⟨by decide +kernel, by decide +kernel⟩, List.mem_of_getElem? (i := 555) (by decide +kernel), List.mem_of_getElem? (i := 742) (by decide +kernel), List.mem_of_getElem? (i := 743) (by decide +kernel)⟩
theorem lw_p38 : lw_okq (⟨"LoanRulesModel", "dueOf", "(II)I"⟩, 22) := ⟨⟨by decide +kernel, by decide +kernel⟩, List.mem_of_getElem? (i := 555) (by decide +kernel), List.mem_of_getElem? (i := 746) (by decide +kernel), List.mem_of_getElem? (i := 747) (by decide +kernel)⟩
theorem lw_p39 : lw_okq (⟨"LoanRulesModel", "open", "(I)I"⟩, 22) := ⟨⟨by decide +kernel, by decide +kernel⟩, List.mem_of_getElem? (i := 555) (by decide +kernel), List.mem_of_getElem? (i := 750) (by decide +kernel), List.mem_of_getElem? (i := 751) (by decide +kernel)⟩
theorem lw_p40 : lw_okq (⟨"LoanRulesModel", "isOut", "(I)Z"⟩, 22) := ⟨⟨by decide +kernel, by decide +kernel⟩, List.mem_of_getElem? (i := 555) (by decide +kernel), List.mem_of_getElem? (i := 758) (by decide +kernel), List.mem_of_getElem? (i := 759) (by decide +kernel)⟩
def lw_privs_3 : List (MethodName × Nat) := [(⟨"LoanRulesModel", "number", "(III)Z"⟩, 22), (⟨"LoanRulesModel", "lends", "()Z"⟩, 22), (⟨"LoanRulesModel", "isRule", "(I)Z"⟩, 22), (⟨"LoanRulesModel", "find", "(III)V"⟩, 22), (⟨"LoanRulesModel", "fitsFor", "(IIII)Z"⟩, 22), (⟨"LoanRulesModel", "clashes", "()V"⟩, 22), (⟨"LoanRulesModel", "dueOf", "(II)I"⟩, 22), (⟨"LoanRulesModel", "open", "(I)I"⟩, 22), (⟨"LoanRulesModel", "isOut", "(I)Z"⟩, 22)]
theorem lw_r3 : ∀ q ∈ lw_privs_3, lw_okq q := List.forall_mem_cons.mpr ⟨lw_p32, List.forall_mem_cons.mpr ⟨lw_p33, List.forall_mem_cons.mpr ⟨lw_p34, List.forall_mem_cons.mpr ⟨lw_p35, List.forall_mem_cons.mpr ⟨lw_p36, List.forall_mem_cons.mpr ⟨lw_p37, List.forall_mem_cons.mpr ⟨lw_p38, List.forall_mem_cons.mpr ⟨lw_p39, List.forall_mem_cons.mpr ⟨lw_p40, fun _ h => absurd h List.not_mem_nil⟩⟩⟩⟩⟩⟩⟩⟩⟩
def lw_privs : List (MethodName × Nat) := lw_privs_1 ++ (lw_privs_2 ++ (lw_privs_3))
def lw_tbl : List Cond := k2_sels lw_privs ++ tables_1
theorem lw_privs_ok : ∀ q ∈ lw_privs, lw_okq q := by
  show ∀ q ∈ lw_privs_1 ++ (lw_privs_2 ++ (lw_privs_3)), lw_okq q
  exact List.forall_mem_append.mpr ⟨lw_r1, List.forall_mem_append.mpr ⟨lw_r2, lw_r3⟩⟩
end
section
/-- the words that may be handed on -/
def TT : List Cond := lw_tbl.filter goodWord
theorem tt_of {w : Cond} (i : Nat) (h : lw_tbl[i]? = some w) (g : goodWord w = true) : w ∈ TT := List.mem_filter.mpr ⟨List.mem_of_getElem? h, g⟩
theorem tt_good {w : Cond} (h : w ∈ TT) : w ∈ TT ∧ ((w.onTables && w.keeps) = true ∨ ∃ ty, w = .arrayClass ty) := ⟨h, good_of_word (List.mem_filter.mp h).2⟩
theorem tt_l (ws : List Cond) (ps : List Nat) (hp : ws = ps.filterMap (fun i => lw_tbl[i]?)) (h : ws.all goodWord = true) : ∀ w ∈ ws, w ∈ TT := by
  intro w hw
  have h1 := List.all_eq_true.mp h w hw
  rw [hp] at hw
  obtain ⟨i, -, hi⟩ := List.mem_filterMap.mp hw
  exact List.mem_filter.mpr ⟨List.mem_of_getElem? hi, h1⟩
theorem gI {cw : Cond} (h : cw ∈ TT) : GoodIn TT (cw :: TT) := fun w hw => (List.mem_cons.mp hw).elim (fun e => e ▸ tt_good h) tt_good
theorem gV {own C : String} {idx : Nat} {y : MethodName} {cw : Cond} (h1 : Cond.methodLink own idx y ∈ TT) (h2 : Cond.instanceMethod y ∈ TT) (h3 : Cond.selects C y y ∈ TT) (h4 : Cond.initialized C ∈ TT) (h5 : cw ∈ TT) : GoodIn TT (wsV own idx C y (cw :: TT)) := by
  intro w hw
  unfold wsV at hw
  rcases List.mem_append.mp hw with h | h
  · simp only [List.mem_cons, List.not_mem_nil, or_false] at h
    rcases h with rfl | rfl | rfl | rfl
    · exact tt_good h1
    · exact tt_good h2
    · exact tt_good h3
    · exact tt_good h4
  · exact gI h5 w h
theorem gS {own : String} {idx : Nat} {y : MethodName} {cw : Cond} (h1 : Cond.methodLink own idx y ∈ TT) (h2 : Cond.static y ∈ TT) (h4 : Cond.initialized y.cls ∈ TT) (h5 : cw ∈ TT) : GoodIn TT (va_wsS own idx y (cw :: TT)) := by
  intro w hw
  unfold va_wsS at hw
  rcases List.mem_append.mp hw with h | h
  · simp only [List.mem_cons, List.not_mem_nil, or_false] at h
    rcases h with rfl | rfl | rfl
    · exact tt_good h1
    · exact tt_good h2
    · exact tt_good h4
  · exact gI h5 w h
theorem tw_0 : (Cond.selects "LoanRules$RuleText" ⟨"LoanRules$RuleText", "readCondition", "(Ljava/lang/String;II)I"⟩ ⟨"LoanRules$RuleText", "readCondition", "(Ljava/lang/String;II)I"⟩) ∈ TT := tt_of 0 (by decide +kernel) (by decide +kernel)
theorem tw_1 : (Cond.selects "LoanRules$RuleText" ⟨"LoanRules$RuleText", "takesWord", "(Ljava/lang/String;)Z"⟩ ⟨"LoanRules$RuleText", "takesWord", "(Ljava/lang/String;)Z"⟩) ∈ TT := tt_of 1 (by decide +kernel) (by decide +kernel)
theorem tw_2 : (Cond.selects "LoanRules$RuleText" ⟨"LoanRules$RuleText", "signAt", "(I)I"⟩ ⟨"LoanRules$RuleText", "signAt", "(I)I"⟩) ∈ TT := tt_of 2 (by decide +kernel) (by decide +kernel)
theorem tw_5 : (Cond.selects "LoanRules$RuleText" ⟨"LoanRules$RuleText", "markWrong", "(I)V"⟩ ⟨"LoanRules$RuleText", "markWrong", "(I)V"⟩) ∈ TT := tt_of 5 (by decide +kernel) (by decide +kernel)
theorem tw_6 : (Cond.selects "LoanRules$RuleText" ⟨"LoanRules$RuleText", "readDeed", "(LLoanRules$Rule;)V"⟩ ⟨"LoanRules$RuleText", "readDeed", "(LLoanRules$Rule;)V"⟩) ∈ TT := tt_of 6 (by decide +kernel) (by decide +kernel)
theorem tw_8 : (Cond.selects "LoanRules$RuleText" ⟨"LoanRules$RuleText", "takesWordBehindSpace", "(Ljava/lang/String;)Z"⟩ ⟨"LoanRules$RuleText", "takesWordBehindSpace", "(Ljava/lang/String;)Z"⟩) ∈ TT := tt_of 8 (by decide +kernel) (by decide +kernel)
theorem tw_9 : (Cond.selects "LoanRules$RuleText" ⟨"LoanRules$RuleText", "readRest", "(LLoanRules$Rule;)V"⟩ ⟨"LoanRules$RuleText", "readRest", "(LLoanRules$Rule;)V"⟩) ∈ TT := tt_of 9 (by decide +kernel) (by decide +kernel)
theorem tw_10 : (Cond.selects "LoanRules$RuleText" ⟨"LoanRules$RuleText", "readOption", "(Ljava/lang/String;I)I"⟩ ⟨"LoanRules$RuleText", "readOption", "(Ljava/lang/String;I)I"⟩) ∈ TT := tt_of 10 (by decide +kernel) (by decide +kernel)
theorem tw_11 : (Cond.selects "LoanRules" ⟨"LoanRules", "heldLoan", "(I)LLoanRules$Loan;"⟩ ⟨"LoanRules", "heldLoan", "(I)LLoanRules$Loan;"⟩) ∈ TT := tt_of 11 (by decide +kernel) (by decide +kernel)
theorem tw_15 : (Cond.selects "LoanRules" ⟨"LoanRules", "ruleAt", "(I)LLoanRules$Rule;"⟩ ⟨"LoanRules", "ruleAt", "(I)LLoanRules$Rule;"⟩) ∈ TT := tt_of 15 (by decide +kernel) (by decide +kernel)
theorem tw_16 : (Cond.selects "LoanRules" ⟨"LoanRules", "fittingAt", "(I)I"⟩ ⟨"LoanRules", "fittingAt", "(I)I"⟩) ∈ TT := tt_of 16 (by decide +kernel) (by decide +kernel)
theorem tw_17 : (Cond.selects "LoanRules" ⟨"LoanRules", "gatherFitting", "(III)V"⟩ ⟨"LoanRules", "gatherFitting", "(III)V"⟩) ∈ TT := tt_of 17 (by decide +kernel) (by decide +kernel)
theorem tw_25 : (Cond.selects "LoanRulesModel" ⟨"LoanRulesModel", "reads", "()Z"⟩ ⟨"LoanRulesModel", "reads", "()Z"⟩) ∈ TT := tt_of 25 (by decide +kernel) (by decide +kernel)
theorem tw_27 : (Cond.selects "LoanRulesModel" ⟨"LoanRulesModel", "look", "(I)I"⟩ ⟨"LoanRulesModel", "look", "(I)I"⟩) ∈ TT := tt_of 27 (by decide +kernel) (by decide +kernel)
theorem tw_28 : (Cond.selects "LoanRulesModel" ⟨"LoanRulesModel", "bad", "(I)Z"⟩ ⟨"LoanRulesModel", "bad", "(I)Z"⟩) ∈ TT := tt_of 28 (by decide +kernel) (by decide +kernel)
theorem tw_29 : (Cond.selects "LoanRulesModel" ⟨"LoanRulesModel", "word", "()J"⟩ ⟨"LoanRulesModel", "word", "()J"⟩) ∈ TT := tt_of 29 (by decide +kernel) (by decide +kernel)
theorem tw_34 : (Cond.selects "LoanRulesModel" ⟨"LoanRulesModel", "isRule", "(I)Z"⟩ ⟨"LoanRulesModel", "isRule", "(I)Z"⟩) ∈ TT := tt_of 34 (by decide +kernel) (by decide +kernel)
theorem tw_35 : (Cond.selects "LoanRulesModel" ⟨"LoanRulesModel", "find", "(III)V"⟩ ⟨"LoanRulesModel", "find", "(III)V"⟩) ∈ TT := tt_of 35 (by decide +kernel) (by decide +kernel)
theorem tw_40 : (Cond.selects "LoanRulesModel" ⟨"LoanRulesModel", "isOut", "(I)Z"⟩ ⟨"LoanRulesModel", "isOut", "(I)Z"⟩) ∈ TT := tt_of 40 (by decide +kernel) (by decide +kernel)
theorem tw_42 : (Cond.initialized "LoanRules") ∈ TT := tt_of 42 (by decide +kernel) (by decide +kernel)
theorem tw_43 : (Cond.initialized "LoanRules$RuleText") ∈ TT := tt_of 43 (by decide +kernel) (by decide +kernel)
theorem tw_44 : (Cond.initialized "LoanRules$DaySet") ∈ TT := tt_of 44 (by decide +kernel) (by decide +kernel)
theorem tw_45 : (Cond.initialized "java/util/Arrays") ∈ TT := tt_of 45 (by decide +kernel) (by decide +kernel)
theorem tw_46 : (Cond.initialized "LoanRulesModel") ∈ TT := tt_of 46 (by decide +kernel) (by decide +kernel)
theorem tw_47 : (Cond.initialized "LoanRules$Rule") ∈ TT := tt_of 47 (by decide +kernel) (by decide +kernel)
theorem tw_48 : (Cond.initialized "java/lang/String") ∈ TT := tt_of 48 (by decide +kernel) (by decide +kernel)
theorem tw_49 : (Cond.initialized "java/lang/StringLatin1") ∈ TT := tt_of 49 (by decide +kernel) (by decide +kernel)
theorem tw_50 : (Cond.initialized "jdk/internal/util/Preconditions") ∈ TT := tt_of 50 (by decide +kernel) (by decide +kernel)
theorem tw_63 : (Cond.methodLink "LoanRules" (3 : Nat) ({ cls := "java/lang/Object", name := "<init>", desc := "()V" } : Jvm.MethodName)) ∈ TT := tt_of 63 (by decide +kernel) (by decide +kernel)
theorem tw_64 : (Cond.instanceMethod ({ cls := "java/lang/Object", name := "<init>", desc := "()V" } : Jvm.MethodName)) ∈ TT := tt_of 64 (by decide +kernel) (by decide +kernel)
theorem tw_65 : (Cond.code ({ cls := "java/lang/Object", name := "<init>", desc := "()V" } : Jvm.MethodName) object_method_1_code (1 : Nat) (Option.none : Option FieldType)) ∈ TT := tt_of 65 (by decide +kernel) (by decide +kernel)
theorem tw_66 : (Cond.classLink "LoanRules" (9 : Nat) "LoanRules$RuleText") ∈ TT := tt_of 66 (by decide +kernel) (by decide +kernel)
theorem tw_67 : (Cond.instantiable "LoanRules$RuleText" (4 : Nat)) ∈ TT := tt_of 67 (by decide +kernel) (by decide +kernel)
theorem tw_69 : (Cond.instanceMethod ({ cls := "LoanRules$RuleText", name := "<init>", desc := "()V" } : Jvm.MethodName)) ∈ TT := tt_of 69 (by decide +kernel) (by decide +kernel)
theorem tw_70 : (Cond.code ({ cls := "LoanRules$RuleText", name := "<init>", desc := "()V" } : Jvm.MethodName) prog_5_method_1_code (1 : Nat) (Option.none : Option FieldType)) ∈ TT := tt_of 70 (by decide +kernel) (by decide +kernel)
theorem tw_71 : (Cond.methodLink "LoanRules$RuleText" (3 : Nat) ({ cls := "java/lang/Object", name := "<init>", desc := "()V" } : Jvm.MethodName)) ∈ TT := tt_of 71 (by decide +kernel) (by decide +kernel)
theorem tw_72 : (Cond.fieldLink "LoanRules$RuleText" (11 : Nat) "LoanRules$RuleText" "signs" "[C") ∈ TT := tt_of 72 (by decide +kernel) (by decide +kernel)
theorem tw_73 : (Cond.fieldLink "LoanRules$RuleText" (15 : Nat) "LoanRules$RuleText" "length" "I") ∈ TT := tt_of 73 (by decide +kernel) (by decide +kernel)
theorem tw_74 : (Cond.fieldLink "LoanRules$RuleText" (19 : Nat) "LoanRules$RuleText" "place" "I") ∈ TT := tt_of 74 (by decide +kernel) (by decide +kernel)
theorem tw_75 : (Cond.fieldLink "LoanRules$RuleText" (22 : Nat) "LoanRules$RuleText" "wrongPlace" "I") ∈ TT := tt_of 75 (by decide +kernel) (by decide +kernel)
theorem tw_85 : (Cond.arrayClass FieldType.char) ∈ TT := tt_of 85 (by decide +kernel) (by decide +kernel)
theorem tw_86 : (Cond.classLink "LoanRules" (16 : Nat) "LoanRules$Rule") ∈ TT := tt_of 86 (by decide +kernel) (by decide +kernel)
theorem tw_88 : (Cond.classLink "LoanRules" (26 : Nat) "LoanRules$DaySet") ∈ TT := tt_of 88 (by decide +kernel) (by decide +kernel)
theorem tw_89 : (Cond.instantiable "LoanRules$DaySet" (1 : Nat)) ∈ TT := tt_of 89 (by decide +kernel) (by decide +kernel)
theorem tw_91 : (Cond.instanceMethod ({ cls := "LoanRules$DaySet", name := "<init>", desc := "()V" } : Jvm.MethodName)) ∈ TT := tt_of 91 (by decide +kernel) (by decide +kernel)
theorem tw_92 : (Cond.code ({ cls := "LoanRules$DaySet", name := "<init>", desc := "()V" } : Jvm.MethodName) prog_2_method_1_code (1 : Nat) (Option.none : Option FieldType)) ∈ TT := tt_of 92 (by decide +kernel) (by decide +kernel)
theorem tw_93 : (Cond.methodLink "LoanRules$DaySet" (5 : Nat) ({ cls := "java/lang/Object", name := "<init>", desc := "()V" } : Jvm.MethodName)) ∈ TT := tt_of 93 (by decide +kernel) (by decide +kernel)
theorem tw_94 : (Cond.fieldLink "LoanRules$DaySet" (11 : Nat) "LoanRules$DaySet" "words" "[J") ∈ TT := tt_of 94 (by decide +kernel) (by decide +kernel)
theorem tw_98 : (Cond.arrayClass FieldType.long) ∈ TT := tt_of 98 (by decide +kernel) (by decide +kernel)
theorem tw_99 : (Cond.classLink "LoanRules" (53 : Nat) "LoanRules$Loan") ∈ TT := tt_of 99 (by decide +kernel) (by decide +kernel)
theorem tw_101 : (Cond.methodLink "LoanRules" (74 : Nat) ({ cls := "java/util/Arrays", name := "fill", desc := "([II)V" } : Jvm.MethodName)) ∈ TT := tt_of 101 (by decide +kernel) (by decide +kernel)
theorem tw_102 : (Cond.static ({ cls := "java/util/Arrays", name := "fill", desc := "([II)V" } : Jvm.MethodName)) ∈ TT := tt_of 102 (by decide +kernel) (by decide +kernel)
theorem tw_103 : (Cond.code ({ cls := "java/util/Arrays", name := "fill", desc := "([II)V" } : Jvm.MethodName) prog_16_method_103_code (4 : Nat) (Option.none : Option FieldType)) ∈ TT := tt_of 103 (by decide +kernel) (by decide +kernel)
theorem tw_104 : (Cond.fieldLink "LoanRules" (12 : Nat) "LoanRules" "text" "LLoanRules$RuleText;") ∈ TT := tt_of 104 (by decide +kernel) (by decide +kernel)
theorem tw_105 : (Cond.fieldLink "LoanRules" (18 : Nat) "LoanRules" "rules" "[LLoanRules$Rule;") ∈ TT := tt_of 105 (by decide +kernel) (by decide +kernel)
theorem tw_106 : (Cond.fieldLink "LoanRules" (22 : Nat) "LoanRules" "ruleCount" "I") ∈ TT := tt_of 106 (by decide +kernel) (by decide +kernel)
theorem tw_107 : (Cond.fieldLink "LoanRules" (29 : Nat) "LoanRules" "closedDays" "LLoanRules$DaySet;") ∈ TT := tt_of 107 (by decide +kernel) (by decide +kernel)
theorem tw_108 : (Cond.fieldLink "LoanRules" (33 : Nat) "LoanRules" "termEnds" "LLoanRules$DaySet;") ∈ TT := tt_of 108 (by decide +kernel) (by decide +kernel)
theorem tw_109 : (Cond.fieldLink "LoanRules" (36 : Nat) "LoanRules" "kinds" "[I") ∈ TT := tt_of 109 (by decide +kernel) (by decide +kernel)
theorem tw_110 : (Cond.fieldLink "LoanRules" (40 : Nat) "LoanRules" "causes" "[I") ∈ TT := tt_of 110 (by decide +kernel) (by decide +kernel)
theorem tw_111 : (Cond.fieldLink "LoanRules" (43 : Nat) "LoanRules" "types" "[I") ∈ TT := tt_of 111 (by decide +kernel) (by decide +kernel)
theorem tw_112 : (Cond.fieldLink "LoanRules" (46 : Nat) "LoanRules" "isOut" "[Z") ∈ TT := tt_of 112 (by decide +kernel) (by decide +kernel)
theorem tw_113 : (Cond.fieldLink "LoanRules" (50 : Nat) "LoanRules" "exceptUntil" "[I") ∈ TT := tt_of 113 (by decide +kernel) (by decide +kernel)
theorem tw_114 : (Cond.fieldLink "LoanRules" (55 : Nat) "LoanRules" "loans" "[LLoanRules$Loan;") ∈ TT := tt_of 114 (by decide +kernel) (by decide +kernel)
theorem tw_115 : (Cond.fieldLink "LoanRules" (59 : Nat) "LoanRules" "loanCount" "I") ∈ TT := tt_of 115 (by decide +kernel) (by decide +kernel)
theorem tw_116 : (Cond.fieldLink "LoanRules" (62 : Nat) "LoanRules" "fitting" "[I") ∈ TT := tt_of 116 (by decide +kernel) (by decide +kernel)
theorem tw_117 : (Cond.fieldLink "LoanRules" (65 : Nat) "LoanRules" "fittingCount" "I") ∈ TT := tt_of 117 (by decide +kernel) (by decide +kernel)
theorem tw_118 : (Cond.fieldLink "LoanRules" (68 : Nat) "LoanRules" "clashes" "[I") ∈ TT := tt_of 118 (by decide +kernel) (by decide +kernel)
theorem tw_119 : (Cond.fieldLink "LoanRules" (71 : Nat) "LoanRules" "clashCount" "I") ∈ TT := tt_of 119 (by decide +kernel) (by decide +kernel)
theorem tw_153 : (Cond.arrayClass FieldType.int) ∈ TT := tt_of 153 (by decide +kernel) (by decide +kernel)
theorem tw_154 : (Cond.arrayClass FieldType.boolean) ∈ TT := tt_of 154 (by decide +kernel) (by decide +kernel)
theorem tw_159 : (Cond.methodLink "LoanRules" (80 : Nat) ({ cls := "LoanRules$RuleText", name := "collect", desc := "(I)V" } : Jvm.MethodName)) ∈ TT := tt_of 159 (by decide +kernel) (by decide +kernel)
theorem tw_160 : (Cond.instanceMethod ({ cls := "LoanRules$RuleText", name := "collect", desc := "(I)V" } : Jvm.MethodName)) ∈ TT := tt_of 160 (by decide +kernel) (by decide +kernel)
theorem tw_161 : (Cond.selects "LoanRules$RuleText" ({ cls := "LoanRules$RuleText", name := "collect", desc := "(I)V" } : Jvm.MethodName) ({ cls := "LoanRules$RuleText", name := "collect", desc := "(I)V" } : Jvm.MethodName)) ∈ TT := tt_of 161 (by decide +kernel) (by decide +kernel)
theorem tw_162 : (Cond.code ({ cls := "LoanRules$RuleText", name := "collect", desc := "(I)V" } : Jvm.MethodName) prog_5_method_2_code (2 : Nat) (Option.none : Option FieldType)) ∈ TT := tt_of 162 (by decide +kernel) (by decide +kernel)
theorem tw_167 : (Cond.instantiable "LoanRules$Rule" (11 : Nat)) ∈ TT := tt_of 167 (by decide +kernel) (by decide +kernel)
theorem tw_169 : (Cond.instanceMethod ({ cls := "LoanRules$Rule", name := "<init>", desc := "()V" } : Jvm.MethodName)) ∈ TT := tt_of 169 (by decide +kernel) (by decide +kernel)
theorem tw_170 : (Cond.code ({ cls := "LoanRules$Rule", name := "<init>", desc := "()V" } : Jvm.MethodName) prog_4_method_1_code (1 : Nat) (Option.none : Option FieldType)) ∈ TT := tt_of 170 (by decide +kernel) (by decide +kernel)
theorem tw_171 : (Cond.methodLink "LoanRules$Rule" (3 : Nat) ({ cls := "java/lang/Object", name := "<init>", desc := "()V" } : Jvm.MethodName)) ∈ TT := tt_of 171 (by decide +kernel) (by decide +kernel)
theorem tw_172 : (Cond.fieldLink "LoanRules$Rule" (9 : Nat) "LoanRules$Rule" "kind" "I") ∈ TT := tt_of 172 (by decide +kernel) (by decide +kernel)
theorem tw_173 : (Cond.fieldLink "LoanRules$RuleText" (31 : Nat) "LoanRules$Rule" "kind" "I") ∈ TT := tt_of 173 (by decide +kernel) (by decide +kernel)
theorem tw_175 : (Cond.fieldLink "LoanRules$Rule" (15 : Nat) "LoanRules$Rule" "type" "I") ∈ TT := tt_of 175 (by decide +kernel) (by decide +kernel)
theorem tw_176 : (Cond.fieldLink "LoanRules$RuleText" (37 : Nat) "LoanRules$Rule" "type" "I") ∈ TT := tt_of 176 (by decide +kernel) (by decide +kernel)
theorem tw_178 : (Cond.fieldLink "LoanRules$Rule" (18 : Nat) "LoanRules$Rule" "person" "I") ∈ TT := tt_of 178 (by decide +kernel) (by decide +kernel)
theorem tw_179 : (Cond.fieldLink "LoanRules$RuleText" (41 : Nat) "LoanRules$Rule" "person" "I") ∈ TT := tt_of 179 (by decide +kernel) (by decide +kernel)
theorem tw_181 : (Cond.fieldLink "LoanRules$Rule" (21 : Nat) "LoanRules$Rule" "deed" "I") ∈ TT := tt_of 181 (by decide +kernel) (by decide +kernel)
theorem tw_184 : (Cond.fieldLink "LoanRules$Rule" (24 : Nat) "LoanRules$Rule" "days" "I") ∈ TT := tt_of 184 (by decide +kernel) (by decide +kernel)
theorem tw_187 : (Cond.fieldLink "LoanRules$Rule" (27 : Nat) "LoanRules$Rule" "renewals" "I") ∈ TT := tt_of 187 (by decide +kernel) (by decide +kernel)
theorem tw_190 : (Cond.fieldLink "LoanRules$Rule" (30 : Nat) "LoanRules$Rule" "gap" "I") ∈ TT := tt_of 190 (by decide +kernel) (by decide +kernel)
theorem tw_193 : (Cond.fieldLink "LoanRules$Rule" (33 : Nat) "LoanRules$Rule" "recallDays" "I") ∈ TT := tt_of 193 (by decide +kernel) (by decide +kernel)
theorem tw_196 : (Cond.fieldLink "LoanRules$Rule" (36 : Nat) "LoanRules$Rule" "rank" "I") ∈ TT := tt_of 196 (by decide +kernel) (by decide +kernel)
theorem tw_197 : (Cond.fieldLink "LoanRules$RuleText" (109 : Nat) "LoanRules$Rule" "rank" "I") ∈ TT := tt_of 197 (by decide +kernel) (by decide +kernel)
theorem tw_199 : (Cond.fieldLink "LoanRules$Rule" (39 : Nat) "LoanRules$Rule" "met" "Z") ∈ TT := tt_of 199 (by decide +kernel) (by decide +kernel)
theorem tw_201 : (Cond.fieldLink "LoanRules$Rule" (43 : Nat) "LoanRules$Rule" "letThrough" "Z") ∈ TT := tt_of 201 (by decide +kernel) (by decide +kernel)
theorem tw_226 : (Cond.methodLink "LoanRules" (85 : Nat) ({ cls := "LoanRules$RuleText", name := "readInto", desc := "(LLoanRules$Rule;)I" } : Jvm.MethodName)) ∈ TT := tt_of 226 (by decide +kernel) (by decide +kernel)
theorem tw_227 : (Cond.instanceMethod ({ cls := "LoanRules$RuleText", name := "readInto", desc := "(LLoanRules$Rule;)I" } : Jvm.MethodName)) ∈ TT := tt_of 227 (by decide +kernel) (by decide +kernel)
theorem tw_228 : (Cond.selects "LoanRules$RuleText" ({ cls := "LoanRules$RuleText", name := "readInto", desc := "(LLoanRules$Rule;)I" } : Jvm.MethodName) ({ cls := "LoanRules$RuleText", name := "readInto", desc := "(LLoanRules$Rule;)I" } : Jvm.MethodName)) ∈ TT := tt_of 228 (by decide +kernel) (by decide +kernel)
theorem tw_229 : (Cond.code ({ cls := "LoanRules$RuleText", name := "readInto", desc := "(LLoanRules$Rule;)I" } : Jvm.MethodName) prog_5_method_4_code (2 : Nat) (Option.some FieldType.int)) ∈ TT := tt_of 229 (by decide +kernel) (by decide +kernel)
theorem tw_231 : (Cond.methodLink "LoanRules$RuleText" (27 : Nat) ({ cls := "LoanRules$RuleText", name := "readCondition", desc := "(Ljava/lang/String;II)I" } : Jvm.MethodName)) ∈ TT := tt_of 231 (by decide +kernel) (by decide +kernel)
theorem tw_233 : (Cond.instanceMethod ({ cls := "LoanRules$RuleText", name := "readCondition", desc := "(Ljava/lang/String;II)I" } : Jvm.MethodName)) ∈ TT := tt_of 233 (by decide +kernel) (by decide +kernel)
theorem tw_234 : (Cond.code ({ cls := "LoanRules$RuleText", name := "readCondition", desc := "(Ljava/lang/String;II)I" } : Jvm.MethodName) prog_5_method_5_code (5 : Nat) (Option.some FieldType.int)) ∈ TT := tt_of 234 (by decide +kernel) (by decide +kernel)
theorem tw_235 : (Cond.methodLink "LoanRules$RuleText" (50 : Nat) ({ cls := "LoanRules$RuleText", name := "takesWord", desc := "(Ljava/lang/String;)Z" } : Jvm.MethodName)) ∈ TT := tt_of 235 (by decide +kernel) (by decide +kernel)
theorem tw_237 : (Cond.instanceMethod ({ cls := "LoanRules$RuleText", name := "takesWord", desc := "(Ljava/lang/String;)Z" } : Jvm.MethodName)) ∈ TT := tt_of 237 (by decide +kernel) (by decide +kernel)
theorem tw_238 : (Cond.code ({ cls := "LoanRules$RuleText", name := "takesWord", desc := "(Ljava/lang/String;)Z" } : Jvm.MethodName) prog_5_method_11_code (3 : Nat) (Option.some FieldType.boolean)) ∈ TT := tt_of 238 (by decide +kernel) (by decide +kernel)
theorem tw_239 : (Cond.methodLink "LoanRules$RuleText" (115 : Nat) ({ cls := "java/lang/String", name := "length", desc := "()I" } : Jvm.MethodName)) ∈ TT := tt_of 239 (by decide +kernel) (by decide +kernel)
theorem tw_240 : (Cond.instanceMethod ({ cls := "java/lang/String", name := "length", desc := "()I" } : Jvm.MethodName)) ∈ TT := tt_of 240 (by decide +kernel) (by decide +kernel)
theorem tw_241 : (Cond.selects "java/lang/String" ({ cls := "java/lang/String", name := "length", desc := "()I" } : Jvm.MethodName) ({ cls := "java/lang/String", name := "length", desc := "()I" } : Jvm.MethodName)) ∈ TT := tt_of 241 (by decide +kernel) (by decide +kernel)
theorem tw_242 : (Cond.code ({ cls := "java/lang/String", name := "length", desc := "()I" } : Jvm.MethodName) prog_12_method_54_code (1 : Nat) (Option.some FieldType.int)) ∈ TT := tt_of 242 (by decide +kernel) (by decide +kernel)
theorem tw_243 : (Cond.methodLink "java/lang/String" (335 : Nat) ({ cls := "java/lang/String", name := "coder", desc := "()B" } : Jvm.MethodName)) ∈ TT := tt_of 243 (by decide +kernel) (by decide +kernel)
theorem tw_244 : (Cond.instanceMethod ({ cls := "java/lang/String", name := "coder", desc := "()B" } : Jvm.MethodName)) ∈ TT := tt_of 244 (by decide +kernel) (by decide +kernel)
theorem tw_245 : (Cond.selects "java/lang/String" ({ cls := "java/lang/String", name := "coder", desc := "()B" } : Jvm.MethodName) ({ cls := "java/lang/String", name := "coder", desc := "()B" } : Jvm.MethodName)) ∈ TT := tt_of 245 (by decide +kernel) (by decide +kernel)
theorem tw_246 : (Cond.code ({ cls := "java/lang/String", name := "coder", desc := "()B" } : Jvm.MethodName) prog_12_method_152_code (1 : Nat) (Option.some FieldType.byte)) ∈ TT := tt_of 246 (by decide +kernel) (by decide +kernel)
theorem tw_247 : (Cond.fieldLink "java/lang/String" (38 : Nat) "java/lang/String" "COMPACT_STRINGS" "Z") ∈ TT := tt_of 247 (by decide +kernel) (by decide +kernel)
theorem tw_249 : (Cond.methodLink "LoanRules$RuleText" (111 : Nat) ({ cls := "LoanRules$RuleText", name := "signAt", desc := "(I)I" } : Jvm.MethodName)) ∈ TT := tt_of 249 (by decide +kernel) (by decide +kernel)
theorem tw_251 : (Cond.instanceMethod ({ cls := "LoanRules$RuleText", name := "signAt", desc := "(I)I" } : Jvm.MethodName)) ∈ TT := tt_of 251 (by decide +kernel) (by decide +kernel)
theorem tw_252 : (Cond.code ({ cls := "LoanRules$RuleText", name := "signAt", desc := "(I)I" } : Jvm.MethodName) prog_5_method_15_code (2 : Nat) (Option.some FieldType.int)) ∈ TT := tt_of 252 (by decide +kernel) (by decide +kernel)
theorem tw_253 : (Cond.methodLink "LoanRules$RuleText" (120 : Nat) ({ cls := "java/lang/String", name := "charAt", desc := "(I)C" } : Jvm.MethodName)) ∈ TT := tt_of 253 (by decide +kernel) (by decide +kernel)
theorem tw_254 : (Cond.instanceMethod ({ cls := "java/lang/String", name := "charAt", desc := "(I)C" } : Jvm.MethodName)) ∈ TT := tt_of 254 (by decide +kernel) (by decide +kernel)
theorem tw_255 : (Cond.selects "java/lang/String" ({ cls := "java/lang/String", name := "charAt", desc := "(I)C" } : Jvm.MethodName) ({ cls := "java/lang/String", name := "charAt", desc := "(I)C" } : Jvm.MethodName)) ∈ TT := tt_of 255 (by decide +kernel) (by decide +kernel)
theorem tw_256 : (Cond.code ({ cls := "java/lang/String", name := "charAt", desc := "(I)C" } : Jvm.MethodName) prog_12_method_56_code (2 : Nat) (Option.some FieldType.char)) ∈ TT := tt_of 256 (by decide +kernel) (by decide +kernel)
theorem tw_257 : (Cond.methodLink "java/lang/String" (492 : Nat) ({ cls := "java/lang/String", name := "isLatin1", desc := "()Z" } : Jvm.MethodName)) ∈ TT := tt_of 257 (by decide +kernel) (by decide +kernel)
theorem tw_258 : (Cond.instanceMethod ({ cls := "java/lang/String", name := "isLatin1", desc := "()Z" } : Jvm.MethodName)) ∈ TT := tt_of 258 (by decide +kernel) (by decide +kernel)
theorem tw_259 : (Cond.selects "java/lang/String" ({ cls := "java/lang/String", name := "isLatin1", desc := "()Z" } : Jvm.MethodName) ({ cls := "java/lang/String", name := "isLatin1", desc := "()Z" } : Jvm.MethodName)) ∈ TT := tt_of 259 (by decide +kernel) (by decide +kernel)
theorem tw_260 : (Cond.code ({ cls := "java/lang/String", name := "isLatin1", desc := "()Z" } : Jvm.MethodName) prog_12_method_154_code (1 : Nat) (Option.some FieldType.boolean)) ∈ TT := tt_of 260 (by decide +kernel) (by decide +kernel)
theorem tw_261 : (Cond.methodLink "java/lang/String" (495 : Nat) ({ cls := "java/lang/StringLatin1", name := "charAt", desc := "([BI)C" } : Jvm.MethodName)) ∈ TT := tt_of 261 (by decide +kernel) (by decide +kernel)
theorem tw_262 : (Cond.static ({ cls := "java/lang/StringLatin1", name := "charAt", desc := "([BI)C" } : Jvm.MethodName)) ∈ TT := tt_of 262 (by decide +kernel) (by decide +kernel)
theorem tw_263 : (Cond.code ({ cls := "java/lang/StringLatin1", name := "charAt", desc := "([BI)C" } : Jvm.MethodName) prog_13_method_2_code (2 : Nat) (Option.some FieldType.char)) ∈ TT := tt_of 263 (by decide +kernel) (by decide +kernel)
theorem tw_264 : (Cond.methodLink "java/lang/StringLatin1" (9 : Nat) ({ cls := "java/lang/String", name := "checkIndex", desc := "(II)V" } : Jvm.MethodName)) ∈ TT := tt_of 264 (by decide +kernel) (by decide +kernel)
theorem tw_265 : (Cond.static ({ cls := "java/lang/String", name := "checkIndex", desc := "(II)V" } : Jvm.MethodName)) ∈ TT := tt_of 265 (by decide +kernel) (by decide +kernel)
theorem tw_266 : (Cond.code ({ cls := "java/lang/String", name := "checkIndex", desc := "(II)V" } : Jvm.MethodName) prog_12_method_155_code (2 : Nat) (Option.none : Option FieldType)) ∈ TT := tt_of 266 (by decide +kernel) (by decide +kernel)
theorem tw_267 : (Cond.fieldLink "java/lang/String" (1053 : Nat) "jdk/internal/util/Preconditions" "SIOOBE_FORMATTER" "Ljava/util/function/BiFunction;") ∈ TT := tt_of 267 (by decide +kernel) (by decide +kernel)
theorem tw_269 : (Cond.methodLink "java/lang/String" (1059 : Nat) ({ cls := "jdk/internal/util/Preconditions", name := "checkIndex", desc := "(IILjava/util/function/BiFunction;)I" } : Jvm.MethodName)) ∈ TT := tt_of 269 (by decide +kernel) (by decide +kernel)
theorem tw_270 : (Cond.static ({ cls := "jdk/internal/util/Preconditions", name := "checkIndex", desc := "(IILjava/util/function/BiFunction;)I" } : Jvm.MethodName)) ∈ TT := tt_of 270 (by decide +kernel) (by decide +kernel)
theorem tw_271 : (Cond.code ({ cls := "jdk/internal/util/Preconditions", name := "checkIndex", desc := "(IILjava/util/function/BiFunction;)I" } : Jvm.MethodName) prog_17_method_11_code (3 : Nat) (Option.some FieldType.int)) ∈ TT := tt_of 271 (by decide +kernel) (by decide +kernel)
theorem tw_302 : (Cond.methodLink "LoanRules$RuleText" (73 : Nat) ({ cls := "LoanRules$RuleText", name := "markWrong", desc := "(I)V" } : Jvm.MethodName)) ∈ TT := tt_of 302 (by decide +kernel) (by decide +kernel)
theorem tw_304 : (Cond.instanceMethod ({ cls := "LoanRules$RuleText", name := "markWrong", desc := "(I)V" } : Jvm.MethodName)) ∈ TT := tt_of 304 (by decide +kernel) (by decide +kernel)
theorem tw_305 : (Cond.code ({ cls := "LoanRules$RuleText", name := "markWrong", desc := "(I)V" } : Jvm.MethodName) prog_5_method_14_code (2 : Nat) (Option.none : Option FieldType)) ∈ TT := tt_of 305 (by decide +kernel) (by decide +kernel)
theorem tw_311 : (Cond.methodLink "LoanRules$RuleText" (43 : Nat) ({ cls := "LoanRules$RuleText", name := "readDeed", desc := "(LLoanRules$Rule;)V" } : Jvm.MethodName)) ∈ TT := tt_of 311 (by decide +kernel) (by decide +kernel)
theorem tw_313 : (Cond.instanceMethod ({ cls := "LoanRules$RuleText", name := "readDeed", desc := "(LLoanRules$Rule;)V" } : Jvm.MethodName)) ∈ TT := tt_of 313 (by decide +kernel) (by decide +kernel)
theorem tw_314 : (Cond.code ({ cls := "LoanRules$RuleText", name := "readDeed", desc := "(LLoanRules$Rule;)V" } : Jvm.MethodName) prog_5_method_6_code (2 : Nat) (Option.none : Option FieldType)) ∈ TT := tt_of 314 (by decide +kernel) (by decide +kernel)
theorem tw_321 : (Cond.methodLink "LoanRules$RuleText" (79 : Nat) ({ cls := "LoanRules$RuleText", name := "takesWordBehindSpace", desc := "(Ljava/lang/String;)Z" } : Jvm.MethodName)) ∈ TT := tt_of 321 (by decide +kernel) (by decide +kernel)
theorem tw_323 : (Cond.instanceMethod ({ cls := "LoanRules$RuleText", name := "takesWordBehindSpace", desc := "(Ljava/lang/String;)Z" } : Jvm.MethodName)) ∈ TT := tt_of 323 (by decide +kernel) (by decide +kernel)
theorem tw_324 : (Cond.code ({ cls := "LoanRules$RuleText", name := "takesWordBehindSpace", desc := "(Ljava/lang/String;)Z" } : Jvm.MethodName) prog_5_method_10_code (2 : Nat) (Option.some FieldType.boolean)) ∈ TT := tt_of 324 (by decide +kernel) (by decide +kernel)
theorem tw_327 : (Cond.methodLink "LoanRules$RuleText" (47 : Nat) ({ cls := "LoanRules$RuleText", name := "readRest", desc := "(LLoanRules$Rule;)V" } : Jvm.MethodName)) ∈ TT := tt_of 327 (by decide +kernel) (by decide +kernel)
theorem tw_329 : (Cond.instanceMethod ({ cls := "LoanRules$RuleText", name := "readRest", desc := "(LLoanRules$Rule;)V" } : Jvm.MethodName)) ∈ TT := tt_of 329 (by decide +kernel) (by decide +kernel)
theorem tw_330 : (Cond.code ({ cls := "LoanRules$RuleText", name := "readRest", desc := "(LLoanRules$Rule;)V" } : Jvm.MethodName) prog_5_method_8_code (2 : Nat) (Option.none : Option FieldType)) ∈ TT := tt_of 330 (by decide +kernel) (by decide +kernel)
theorem tw_331 : (Cond.methodLink "LoanRules$RuleText" (85 : Nat) ({ cls := "LoanRules$Rule", name := "lends", desc := "()Z" } : Jvm.MethodName)) ∈ TT := tt_of 331 (by decide +kernel) (by decide +kernel)
theorem tw_332 : (Cond.instanceMethod ({ cls := "LoanRules$Rule", name := "lends", desc := "()Z" } : Jvm.MethodName)) ∈ TT := tt_of 332 (by decide +kernel) (by decide +kernel)
theorem tw_333 : (Cond.selects "LoanRules$Rule" ({ cls := "LoanRules$Rule", name := "lends", desc := "()Z" } : Jvm.MethodName) ({ cls := "LoanRules$Rule", name := "lends", desc := "()Z" } : Jvm.MethodName)) ∈ TT := tt_of 333 (by decide +kernel) (by decide +kernel)
theorem tw_334 : (Cond.code ({ cls := "LoanRules$Rule", name := "lends", desc := "()Z" } : Jvm.MethodName) prog_4_method_2_code (1 : Nat) (Option.some FieldType.boolean)) ∈ TT := tt_of 334 (by decide +kernel) (by decide +kernel)
theorem tw_336 : (Cond.methodLink "LoanRules$RuleText" (94 : Nat) ({ cls := "LoanRules$RuleText", name := "readOption", desc := "(Ljava/lang/String;I)I" } : Jvm.MethodName)) ∈ TT := tt_of 336 (by decide +kernel) (by decide +kernel)
theorem tw_338 : (Cond.instanceMethod ({ cls := "LoanRules$RuleText", name := "readOption", desc := "(Ljava/lang/String;I)I" } : Jvm.MethodName)) ∈ TT := tt_of 338 (by decide +kernel) (by decide +kernel)
theorem tw_339 : (Cond.code ({ cls := "LoanRules$RuleText", name := "readOption", desc := "(Ljava/lang/String;I)I" } : Jvm.MethodName) prog_5_method_9_code (3 : Nat) (Option.some FieldType.int)) ∈ TT := tt_of 339 (by decide +kernel) (by decide +kernel)
theorem tw_343 : (Cond.methodLink "LoanRules" (89 : Nat) ({ cls := "LoanRules$RuleText", name := "forget", desc := "()V" } : Jvm.MethodName)) ∈ TT := tt_of 343 (by decide +kernel) (by decide +kernel)
theorem tw_344 : (Cond.instanceMethod ({ cls := "LoanRules$RuleText", name := "forget", desc := "()V" } : Jvm.MethodName)) ∈ TT := tt_of 344 (by decide +kernel) (by decide +kernel)
theorem tw_345 : (Cond.selects "LoanRules$RuleText" ({ cls := "LoanRules$RuleText", name := "forget", desc := "()V" } : Jvm.MethodName) ({ cls := "LoanRules$RuleText", name := "forget", desc := "()V" } : Jvm.MethodName)) ∈ TT := tt_of 345 (by decide +kernel) (by decide +kernel)
theorem tw_346 : (Cond.code ({ cls := "LoanRules$RuleText", name := "forget", desc := "()V" } : Jvm.MethodName) prog_5_method_3_code (1 : Nat) (Option.none : Option FieldType)) ∈ TT := tt_of 346 (by decide +kernel) (by decide +kernel)
theorem tw_347 : (Cond.arrayClass FieldType.byte) ∈ TT := tt_of 347 (by decide +kernel) (by decide +kernel)
theorem tw_352 : (Cond.methodLink "LoanRules" (92 : Nat) ({ cls := "LoanRules", name := "isDay", desc := "(I)Z" } : Jvm.MethodName)) ∈ TT := tt_of 352 (by decide +kernel) (by decide +kernel)
theorem tw_353 : (Cond.static ({ cls := "LoanRules", name := "isDay", desc := "(I)Z" } : Jvm.MethodName)) ∈ TT := tt_of 353 (by decide +kernel) (by decide +kernel)
theorem tw_354 : (Cond.code ({ cls := "LoanRules", name := "isDay", desc := "(I)Z" } : Jvm.MethodName) prog_1_method_18_code (1 : Nat) (Option.some FieldType.boolean)) ∈ TT := tt_of 354 (by decide +kernel) (by decide +kernel)
theorem tw_355 : (Cond.methodLink "LoanRules" (96 : Nat) ({ cls := "LoanRules$DaySet", name := "holds", desc := "(I)Z" } : Jvm.MethodName)) ∈ TT := tt_of 355 (by decide +kernel) (by decide +kernel)
theorem tw_356 : (Cond.instanceMethod ({ cls := "LoanRules$DaySet", name := "holds", desc := "(I)Z" } : Jvm.MethodName)) ∈ TT := tt_of 356 (by decide +kernel) (by decide +kernel)
theorem tw_357 : (Cond.selects "LoanRules$DaySet" ({ cls := "LoanRules$DaySet", name := "holds", desc := "(I)Z" } : Jvm.MethodName) ({ cls := "LoanRules$DaySet", name := "holds", desc := "(I)Z" } : Jvm.MethodName)) ∈ TT := tt_of 357 (by decide +kernel) (by decide +kernel)
theorem tw_358 : (Cond.code ({ cls := "LoanRules$DaySet", name := "holds", desc := "(I)Z" } : Jvm.MethodName) prog_2_method_2_code (2 : Nat) (Option.some FieldType.boolean)) ∈ TT := tt_of 358 (by decide +kernel) (by decide +kernel)
theorem tw_360 : (Cond.methodLink "LoanRules" (99 : Nat) ({ cls := "LoanRules$DaySet", name := "put", desc := "(IZ)V" } : Jvm.MethodName)) ∈ TT := tt_of 360 (by decide +kernel) (by decide +kernel)
theorem tw_361 : (Cond.instanceMethod ({ cls := "LoanRules$DaySet", name := "put", desc := "(IZ)V" } : Jvm.MethodName)) ∈ TT := tt_of 361 (by decide +kernel) (by decide +kernel)
theorem tw_362 : (Cond.selects "LoanRules$DaySet" ({ cls := "LoanRules$DaySet", name := "put", desc := "(IZ)V" } : Jvm.MethodName) ({ cls := "LoanRules$DaySet", name := "put", desc := "(IZ)V" } : Jvm.MethodName)) ∈ TT := tt_of 362 (by decide +kernel) (by decide +kernel)
theorem tw_363 : (Cond.code ({ cls := "LoanRules$DaySet", name := "put", desc := "(IZ)V" } : Jvm.MethodName) prog_2_method_3_code (5 : Nat) (Option.none : Option FieldType)) ∈ TT := tt_of 363 (by decide +kernel) (by decide +kernel)
theorem tw_364 : (Cond.constantLong "LoanRules$DaySet" (19 : Nat) (-1 : Int64)) ∈ TT := tt_of 364 (by decide +kernel) (by decide +kernel)
theorem tw_373 : (Cond.methodLink "LoanRules" (103 : Nat) ({ cls := "LoanRules", name := "isPerson", desc := "(I)Z" } : Jvm.MethodName)) ∈ TT := tt_of 373 (by decide +kernel) (by decide +kernel)
theorem tw_374 : (Cond.static ({ cls := "LoanRules", name := "isPerson", desc := "(I)Z" } : Jvm.MethodName)) ∈ TT := tt_of 374 (by decide +kernel) (by decide +kernel)
theorem tw_375 : (Cond.code ({ cls := "LoanRules", name := "isPerson", desc := "(I)Z" } : Jvm.MethodName) prog_1_method_19_code (1 : Nat) (Option.some FieldType.boolean)) ∈ TT := tt_of 375 (by decide +kernel) (by decide +kernel)
theorem tw_376 : (Cond.methodLink "LoanRules" (106 : Nat) ({ cls := "LoanRules", name := "isItem", desc := "(I)Z" } : Jvm.MethodName)) ∈ TT := tt_of 376 (by decide +kernel) (by decide +kernel)
theorem tw_377 : (Cond.static ({ cls := "LoanRules", name := "isItem", desc := "(I)Z" } : Jvm.MethodName)) ∈ TT := tt_of 377 (by decide +kernel) (by decide +kernel)
theorem tw_378 : (Cond.code ({ cls := "LoanRules", name := "isItem", desc := "(I)Z" } : Jvm.MethodName) prog_1_method_20_code (1 : Nat) (Option.some FieldType.boolean)) ∈ TT := tt_of 378 (by decide +kernel) (by decide +kernel)
theorem tw_383 : (Cond.methodLink "LoanRules" (156 : Nat) ({ cls := "LoanRules", name := "heldLoan", desc := "(I)LLoanRules$Loan;" } : Jvm.MethodName)) ∈ TT := tt_of 383 (by decide +kernel) (by decide +kernel)
theorem tw_385 : (Cond.instanceMethod ({ cls := "LoanRules", name := "heldLoan", desc := "(I)LLoanRules$Loan;" } : Jvm.MethodName)) ∈ TT := tt_of 385 (by decide +kernel) (by decide +kernel)
theorem tw_386 : (Cond.code ({ cls := "LoanRules", name := "heldLoan", desc := "(I)LLoanRules$Loan;" } : Jvm.MethodName) prog_1_method_24_code (3 : Nat) (Option.some (FieldType.object "LoanRules$Loan"))) ∈ TT := tt_of 386 (by decide +kernel) (by decide +kernel)
theorem tw_431 : (Cond.methodLink "LoanRules" (117 : Nat) ({ cls := "LoanRules", name := "ruleAt", desc := "(I)LLoanRules$Rule;" } : Jvm.MethodName)) ∈ TT := tt_of 431 (by decide +kernel) (by decide +kernel)
theorem tw_433 : (Cond.instanceMethod ({ cls := "LoanRules", name := "ruleAt", desc := "(I)LLoanRules$Rule;" } : Jvm.MethodName)) ∈ TT := tt_of 433 (by decide +kernel) (by decide +kernel)
theorem tw_434 : (Cond.code ({ cls := "LoanRules", name := "ruleAt", desc := "(I)LLoanRules$Rule;" } : Jvm.MethodName) prog_1_method_22_code (2 : Nat) (Option.some (FieldType.object "LoanRules$Rule"))) ∈ TT := tt_of 434 (by decide +kernel) (by decide +kernel)
theorem tw_443 : (Cond.methodLink "LoanRules" (113 : Nat) ({ cls := "LoanRules", name := "fittingAt", desc := "(I)I" } : Jvm.MethodName)) ∈ TT := tt_of 443 (by decide +kernel) (by decide +kernel)
theorem tw_445 : (Cond.instanceMethod ({ cls := "LoanRules", name := "fittingAt", desc := "(I)I" } : Jvm.MethodName)) ∈ TT := tt_of 445 (by decide +kernel) (by decide +kernel)
theorem tw_446 : (Cond.code ({ cls := "LoanRules", name := "fittingAt", desc := "(I)I" } : Jvm.MethodName) prog_1_method_23_code (2 : Nat) (Option.some FieldType.int)) ∈ TT := tt_of 446 (by decide +kernel) (by decide +kernel)
theorem tw_463 : (Cond.methodLink "LoanRules" (109 : Nat) ({ cls := "LoanRules", name := "gatherFitting", desc := "(III)V" } : Jvm.MethodName)) ∈ TT := tt_of 463 (by decide +kernel) (by decide +kernel)
theorem tw_465 : (Cond.instanceMethod ({ cls := "LoanRules", name := "gatherFitting", desc := "(III)V" } : Jvm.MethodName)) ∈ TT := tt_of 465 (by decide +kernel) (by decide +kernel)
theorem tw_466 : (Cond.code ({ cls := "LoanRules", name := "gatherFitting", desc := "(III)V" } : Jvm.MethodName) prog_1_method_26_code (6 : Nat) (Option.none : Option FieldType)) ∈ TT := tt_of 466 (by decide +kernel) (by decide +kernel)
theorem tw_600 : (Cond.methodLink "LoanRulesModel" (1 : Nat) ({ cls := "java/lang/Object", name := "<init>", desc := "()V" } : Jvm.MethodName)) ∈ TT := tt_of 600 (by decide +kernel) (by decide +kernel)
theorem tw_601 : (Cond.fieldLink "LoanRulesModel" (54 : Nat) "LoanRulesModel" "thrown" "I") ∈ TT := tt_of 601 (by decide +kernel) (by decide +kernel)
theorem tw_602 : (Cond.fieldLink "LoanRulesModel" (7 : Nat) "LoanRulesModel" "said" "[B") ∈ TT := tt_of 602 (by decide +kernel) (by decide +kernel)
theorem tw_603 : (Cond.fieldLink "LoanRulesModel" (58 : Nat) "LoanRulesModel" "size" "I") ∈ TT := tt_of 603 (by decide +kernel) (by decide +kernel)
theorem tw_604 : (Cond.fieldLink "LoanRulesModel" (64 : Nat) "LoanRulesModel" "at" "I") ∈ TT := tt_of 604 (by decide +kernel) (by decide +kernel)
theorem tw_605 : (Cond.fieldLink "LoanRulesModel" (61 : Nat) "LoanRulesModel" "wrong" "I") ∈ TT := tt_of 605 (by decide +kernel) (by decide +kernel)
theorem tw_606 : (Cond.fieldLink "LoanRulesModel" (13 : Nat) "LoanRulesModel" "rules" "[I") ∈ TT := tt_of 606 (by decide +kernel) (by decide +kernel)
theorem tw_607 : (Cond.fieldLink "LoanRulesModel" (17 : Nat) "LoanRulesModel" "met" "[Z") ∈ TT := tt_of 607 (by decide +kernel) (by decide +kernel)
theorem tw_608 : (Cond.fieldLink "LoanRulesModel" (21 : Nat) "LoanRulesModel" "lets" "[Z") ∈ TT := tt_of 608 (by decide +kernel) (by decide +kernel)
theorem tw_609 : (Cond.fieldLink "LoanRulesModel" (88 : Nat) "LoanRulesModel" "count" "I") ∈ TT := tt_of 609 (by decide +kernel) (by decide +kernel)
theorem tw_610 : (Cond.fieldLink "LoanRulesModel" (24 : Nat) "LoanRulesModel" "closed" "[Z") ∈ TT := tt_of 610 (by decide +kernel) (by decide +kernel)
theorem tw_611 : (Cond.fieldLink "LoanRulesModel" (27 : Nat) "LoanRulesModel" "terms" "[Z") ∈ TT := tt_of 611 (by decide +kernel) (by decide +kernel)
theorem tw_612 : (Cond.fieldLink "LoanRulesModel" (30 : Nat) "LoanRulesModel" "kinds" "[I") ∈ TT := tt_of 612 (by decide +kernel) (by decide +kernel)
theorem tw_613 : (Cond.fieldLink "LoanRulesModel" (33 : Nat) "LoanRulesModel" "types" "[I") ∈ TT := tt_of 613 (by decide +kernel) (by decide +kernel)
theorem tw_614 : (Cond.fieldLink "LoanRulesModel" (36 : Nat) "LoanRulesModel" "blocks" "[I") ∈ TT := tt_of 614 (by decide +kernel) (by decide +kernel)
theorem tw_615 : (Cond.fieldLink "LoanRulesModel" (39 : Nat) "LoanRulesModel" "excepted" "[I") ∈ TT := tt_of 615 (by decide +kernel) (by decide +kernel)
theorem tw_616 : (Cond.fieldLink "LoanRulesModel" (42 : Nat) "LoanRulesModel" "loans" "[I") ∈ TT := tt_of 616 (by decide +kernel) (by decide +kernel)
theorem tw_617 : (Cond.fieldLink "LoanRulesModel" (159 : Nat) "LoanRulesModel" "loanCount" "I") ∈ TT := tt_of 617 (by decide +kernel) (by decide +kernel)
theorem tw_618 : (Cond.fieldLink "LoanRulesModel" (45 : Nat) "LoanRulesModel" "holder" "[I") ∈ TT := tt_of 618 (by decide +kernel) (by decide +kernel)
theorem tw_619 : (Cond.fieldLink "LoanRulesModel" (48 : Nat) "LoanRulesModel" "fits" "[I") ∈ TT := tt_of 619 (by decide +kernel) (by decide +kernel)
theorem tw_620 : (Cond.fieldLink "LoanRulesModel" (149 : Nat) "LoanRulesModel" "fitCount" "I") ∈ TT := tt_of 620 (by decide +kernel) (by decide +kernel)
theorem tw_621 : (Cond.fieldLink "LoanRulesModel" (51 : Nat) "LoanRulesModel" "clashes" "[I") ∈ TT := tt_of 621 (by decide +kernel) (by decide +kernel)
theorem tw_622 : (Cond.fieldLink "LoanRulesModel" (156 : Nat) "LoanRulesModel" "clashCount" "I") ∈ TT := tt_of 622 (by decide +kernel) (by decide +kernel)
theorem tw_680 : (Cond.methodLink "LoanRulesModel" (134 : Nat) ({ cls := "LoanRulesModel", name := "reads", desc := "()Z" } : Jvm.MethodName)) ∈ TT := tt_of 680 (by decide +kernel) (by decide +kernel)
theorem tw_682 : (Cond.instanceMethod ({ cls := "LoanRulesModel", name := "reads", desc := "()Z" } : Jvm.MethodName)) ∈ TT := tt_of 682 (by decide +kernel) (by decide +kernel)
theorem tw_683 : (Cond.code ({ cls := "LoanRulesModel", name := "reads", desc := "()Z" } : Jvm.MethodName) prog_7_method_14_code (4 : Nat) (Option.some FieldType.boolean)) ∈ TT := tt_of 683 (by decide +kernel) (by decide +kernel)
theorem tw_688 : (Cond.methodLink "LoanRulesModel" (67 : Nat) ({ cls := "LoanRulesModel", name := "look", desc := "(I)I" } : Jvm.MethodName)) ∈ TT := tt_of 688 (by decide +kernel) (by decide +kernel)
theorem tw_690 : (Cond.instanceMethod ({ cls := "LoanRulesModel", name := "look", desc := "(I)I" } : Jvm.MethodName)) ∈ TT := tt_of 690 (by decide +kernel) (by decide +kernel)
theorem tw_691 : (Cond.code ({ cls := "LoanRulesModel", name := "look", desc := "(I)I" } : Jvm.MethodName) prog_7_method_4_code (2 : Nat) (Option.some FieldType.int)) ∈ TT := tt_of 691 (by decide +kernel) (by decide +kernel)
theorem tw_692 : (Cond.methodLink "LoanRulesModel" (77 : Nat) ({ cls := "LoanRulesModel", name := "bad", desc := "(I)Z" } : Jvm.MethodName)) ∈ TT := tt_of 692 (by decide +kernel) (by decide +kernel)
theorem tw_694 : (Cond.instanceMethod ({ cls := "LoanRulesModel", name := "bad", desc := "(I)Z" } : Jvm.MethodName)) ∈ TT := tt_of 694 (by decide +kernel) (by decide +kernel)
theorem tw_695 : (Cond.code ({ cls := "LoanRulesModel", name := "bad", desc := "(I)Z" } : Jvm.MethodName) prog_7_method_5_code (2 : Nat) (Option.some FieldType.boolean)) ∈ TT := tt_of 695 (by decide +kernel) (by decide +kernel)
theorem tw_696 : (Cond.methodLink "LoanRulesModel" (111 : Nat) ({ cls := "LoanRulesModel", name := "word", desc := "()J" } : Jvm.MethodName)) ∈ TT := tt_of 696 (by decide +kernel) (by decide +kernel)
theorem tw_698 : (Cond.instanceMethod ({ cls := "LoanRulesModel", name := "word", desc := "()J" } : Jvm.MethodName)) ∈ TT := tt_of 698 (by decide +kernel) (by decide +kernel)
theorem tw_699 : (Cond.code ({ cls := "LoanRulesModel", name := "word", desc := "()J" } : Jvm.MethodName) prog_7_method_7_code (4 : Nat) (Option.some FieldType.long)) ∈ TT := tt_of 699 (by decide +kernel) (by decide +kernel)
theorem tw_703 : (Cond.methodLink "LoanRulesModel" (127 : Nat) ({ cls := "LoanRulesModel", name := "step", desc := "(J)I" } : Jvm.MethodName)) ∈ TT := tt_of 703 (by decide +kernel) (by decide +kernel)
theorem tw_704 : (Cond.static ({ cls := "LoanRulesModel", name := "step", desc := "(J)I" } : Jvm.MethodName)) ∈ TT := tt_of 704 (by decide +kernel) (by decide +kernel)
theorem tw_705 : (Cond.code ({ cls := "LoanRulesModel", name := "step", desc := "(J)I" } : Jvm.MethodName) prog_7_method_11_code (2 : Nat) (Option.some FieldType.int)) ∈ TT := tt_of 705 (by decide +kernel) (by decide +kernel)
theorem tw_706 : (Cond.constantLong "LoanRulesModel" (91 : Nat) (370116 : Int64)) ∈ TT := tt_of 706 (by decide +kernel) (by decide +kernel)
theorem tw_707 : (Cond.constantLong "LoanRulesModel" (93 : Nat) (681477 : Int64)) ∈ TT := tt_of 707 (by decide +kernel) (by decide +kernel)
theorem tw_708 : (Cond.constantLong "LoanRulesModel" (95 : Nat) (542723566 : Int64)) ∈ TT := tt_of 708 (by decide +kernel) (by decide +kernel)
theorem tw_709 : (Cond.constantLong "LoanRulesModel" (97 : Nat) (398788 : Int64)) ∈ TT := tt_of 709 (by decide +kernel) (by decide +kernel)
theorem tw_710 : (Cond.constantLong "LoanRulesModel" (99 : Nat) (609441381 : Int64)) ∈ TT := tt_of 710 (by decide +kernel) (by decide +kernel)
theorem tw_711 : (Cond.constantLong "LoanRulesModel" (101 : Nat) (197932 : Int64)) ∈ TT := tt_of 711 (by decide +kernel) (by decide +kernel)
theorem tw_712 : (Cond.constantLong "LoanRulesModel" (103 : Nat) (19052727 : Int64)) ∈ TT := tt_of 712 (by decide +kernel) (by decide +kernel)
theorem tw_713 : (Cond.constantLong "LoanRulesModel" (105 : Nat) (7216 : Int64)) ∈ TT := tt_of 713 (by decide +kernel) (by decide +kernel)
theorem tw_714 : (Cond.constantLong "LoanRulesModel" (107 : Nat) (609322380 : Int64)) ∈ TT := tt_of 714 (by decide +kernel) (by decide +kernel)
theorem tw_715 : (Cond.constantLong "LoanRulesModel" (109 : Nat) (591307 : Int64)) ∈ TT := tt_of 715 (by decide +kernel) (by decide +kernel)
theorem tw_740 : (Cond.methodLink "LoanRulesModel" (137 : Nat) ({ cls := "LoanRulesModel", name := "isDay", desc := "(I)Z" } : Jvm.MethodName)) ∈ TT := tt_of 740 (by decide +kernel) (by decide +kernel)
theorem tw_741 : (Cond.static ({ cls := "LoanRulesModel", name := "isDay", desc := "(I)Z" } : Jvm.MethodName)) ∈ TT := tt_of 741 (by decide +kernel) (by decide +kernel)
theorem tw_742 : (Cond.code ({ cls := "LoanRulesModel", name := "isDay", desc := "(I)Z" } : Jvm.MethodName) prog_7_method_16_code (1 : Nat) (Option.some FieldType.boolean)) ∈ TT := tt_of 742 (by decide +kernel) (by decide +kernel)
theorem tw_751 : (Cond.methodLink "LoanRulesModel" (143 : Nat) ({ cls := "LoanRulesModel", name := "isPerson", desc := "(I)Z" } : Jvm.MethodName)) ∈ TT := tt_of 751 (by decide +kernel) (by decide +kernel)
theorem tw_752 : (Cond.static ({ cls := "LoanRulesModel", name := "isPerson", desc := "(I)Z" } : Jvm.MethodName)) ∈ TT := tt_of 752 (by decide +kernel) (by decide +kernel)
theorem tw_753 : (Cond.code ({ cls := "LoanRulesModel", name := "isPerson", desc := "(I)Z" } : Jvm.MethodName) prog_7_method_21_code (1 : Nat) (Option.some FieldType.boolean)) ∈ TT := tt_of 753 (by decide +kernel) (by decide +kernel)
theorem tw_762 : (Cond.methodLink "LoanRulesModel" (146 : Nat) ({ cls := "LoanRulesModel", name := "isRule", desc := "(I)Z" } : Jvm.MethodName)) ∈ TT := tt_of 762 (by decide +kernel) (by decide +kernel)
theorem tw_764 : (Cond.instanceMethod ({ cls := "LoanRulesModel", name := "isRule", desc := "(I)Z" } : Jvm.MethodName)) ∈ TT := tt_of 764 (by decide +kernel) (by decide +kernel)
theorem tw_765 : (Cond.code ({ cls := "LoanRulesModel", name := "isRule", desc := "(I)Z" } : Jvm.MethodName) prog_7_method_24_code (2 : Nat) (Option.some FieldType.boolean)) ∈ TT := tt_of 765 (by decide +kernel) (by decide +kernel)
theorem tw_774 : (Cond.methodLink "LoanRulesModel" (162 : Nat) ({ cls := "LoanRulesModel", name := "find", desc := "(III)V" } : Jvm.MethodName)) ∈ TT := tt_of 774 (by decide +kernel) (by decide +kernel)
theorem tw_776 : (Cond.instanceMethod ({ cls := "LoanRulesModel", name := "find", desc := "(III)V" } : Jvm.MethodName)) ∈ TT := tt_of 776 (by decide +kernel) (by decide +kernel)
theorem tw_777 : (Cond.code ({ cls := "LoanRulesModel", name := "find", desc := "(III)V" } : Jvm.MethodName) prog_7_method_28_code (6 : Nat) (Option.none : Option FieldType)) ∈ TT := tt_of 777 (by decide +kernel) (by decide +kernel)
theorem tw_798 : (Cond.methodLink "LoanRulesModel" (172 : Nat) ({ cls := "LoanRulesModel", name := "isOut", desc := "(I)Z" } : Jvm.MethodName)) ∈ TT := tt_of 798 (by decide +kernel) (by decide +kernel)
theorem tw_800 : (Cond.instanceMethod ({ cls := "LoanRulesModel", name := "isOut", desc := "(I)Z" } : Jvm.MethodName)) ∈ TT := tt_of 800 (by decide +kernel) (by decide +kernel)
theorem tw_801 : (Cond.code ({ cls := "LoanRulesModel", name := "isOut", desc := "(I)Z" } : Jvm.MethodName) prog_7_method_31_code (2 : Nat) (Option.some FieldType.boolean)) ∈ TT := tt_of 801 (by decide +kernel) (by decide +kernel)
theorem tw_827 : (Cond.fieldLink "java/lang/String" (9 : Nat) "java/lang/String" "value" "[B") ∈ TT := tt_of 827 (by decide +kernel) (by decide +kernel)
theorem tw_828 : (Cond.fieldLink "java/lang/String" (15 : Nat) "java/lang/String" "coder" "B") ∈ TT := tt_of 828 (by decide +kernel) (by decide +kernel)
end
section
def Fz_C : u_T := fun k => match k with
  | 0 => ("LoanRules", "text", "LLoanRules$RuleText;", true)
  | 1 => ("LoanRules", "rules", "[LLoanRules$Rule;", true)
  | 2 => ("LoanRules", "ruleCount", "I", false)
  | 3 => ("LoanRules", "closedDays", "LLoanRules$DaySet;", true)
  | 4 => ("LoanRules", "termEnds", "LLoanRules$DaySet;", true)
  | 5 => ("LoanRules", "kinds", "[I", true)
  | 6 => ("LoanRules", "causes", "[I", true)
  | 7 => ("LoanRules", "types", "[I", true)
  | 8 => ("LoanRules", "isOut", "[Z", true)
  | 9 => ("LoanRules", "exceptUntil", "[I", true)
  | 10 => ("LoanRules", "loans", "[LLoanRules$Loan;", true)
  | 11 => ("LoanRules", "loanCount", "I", false)
  | 12 => ("LoanRules", "fitting", "[I", true)
  | 13 => ("LoanRules", "fittingCount", "I", false)
  | 14 => ("LoanRules", "clashes", "[I", true)
  | _ => ("LoanRules", "clashCount", "I", false)
def tz_C : Nat → FieldType := fun k => match k with
  | 0 => .object "LoanRules$RuleText"
  | 1 => .array (.object "LoanRules$Rule")
  | 2 => .int
  | 3 => .object "LoanRules$DaySet"
  | 4 => .object "LoanRules$DaySet"
  | 5 => .array .int
  | 6 => .array .int
  | 7 => .array .int
  | 8 => .array .boolean
  | 9 => .array .int
  | 10 => .array (.object "LoanRules$Loan")
  | 11 => .int
  | 12 => .array .int
  | 13 => .int
  | 14 => .array .int
  | _ => .int
theorem nz_C : ∀ a, a < 16 → ∀ b, b < 16 → a ≠ b → (Fz_C a).2.1 ≠ (Fz_C b).2.1 := by decide +kernel
theorem tz_C_ok : ∀ k, k < 16 → parseFieldDescriptor (Fz_C k).2.2.1 = some (tz_C k) := by decide +kernel
theorem it_C : ∀ w ∈ u_ws "LoanRules" Fz_C 16, w ∈ TT := tt_l _ [120, 122, 124, 126, 128, 130, 132, 134, 136, 138, 140, 142, 144, 146, 148, 150] (by decide +kernel) (by decide +kernel)
def Fz_D : u_T := fun k => match k with
  | _ => ("LoanRules$DaySet", "words", "[J", true)
def tz_D : Nat → FieldType := fun k => match k with
  | _ => .array .long
theorem nz_D : ∀ a, a < 1 → ∀ b, b < 1 → a ≠ b → (Fz_D a).2.1 ≠ (Fz_D b).2.1 := by decide +kernel
theorem tz_D_ok : ∀ k, k < 1 → parseFieldDescriptor (Fz_D k).2.2.1 = some (tz_D k) := by decide +kernel
theorem it_D : ∀ w ∈ u_ws "LoanRules$DaySet" Fz_D 1, w ∈ TT := tt_l _ [95] (by decide +kernel) (by decide +kernel)
def Fz_N : u_T := fun k => match k with
  | 0 => ("LoanRules$Loan", "person", "I", true)
  | 1 => ("LoanRules$Loan", "item", "I", true)
  | 2 => ("LoanRules$Loan", "rule", "LLoanRules$Rule;", true)
  | 3 => ("LoanRules$Loan", "latestDay", "I", false)
  | 4 => ("LoanRules$Loan", "dueDay", "I", false)
  | 5 => ("LoanRules$Loan", "renewals", "I", false)
  | 6 => ("LoanRules$Loan", "recalled", "Z", false)
  | _ => ("LoanRules$Loan", "givenBack", "Z", false)
def tz_N : Nat → FieldType := fun k => match k with
  | 0 => .int
  | 1 => .int
  | 2 => .object "LoanRules$Rule"
  | 3 => .int
  | 4 => .int
  | 5 => .int
  | 6 => .boolean
  | _ => .boolean
theorem nz_N : ∀ a, a < 8 → ∀ b, b < 8 → a ≠ b → (Fz_N a).2.1 ≠ (Fz_N b).2.1 := by decide +kernel
theorem tz_N_ok : ∀ k, k < 8 → parseFieldDescriptor (Fz_N k).2.2.1 = some (tz_N k) := by decide +kernel
theorem it_N : ∀ w ∈ u_ws "LoanRules$Loan" Fz_N 8, w ∈ TT := tt_l _ [574, 576, 578, 580, 582, 584, 586, 588] (by decide +kernel) (by decide +kernel)
def Fz_R : u_T := fun k => match k with
  | 0 => ("LoanRules$Rule", "kind", "I", false)
  | 1 => ("LoanRules$Rule", "type", "I", false)
  | 2 => ("LoanRules$Rule", "person", "I", false)
  | 3 => ("LoanRules$Rule", "deed", "I", false)
  | 4 => ("LoanRules$Rule", "days", "I", false)
  | 5 => ("LoanRules$Rule", "renewals", "I", false)
  | 6 => ("LoanRules$Rule", "gap", "I", false)
  | 7 => ("LoanRules$Rule", "recallDays", "I", false)
  | 8 => ("LoanRules$Rule", "rank", "I", false)
  | 9 => ("LoanRules$Rule", "met", "Z", false)
  | _ => ("LoanRules$Rule", "letThrough", "Z", false)
def tz_R : Nat → FieldType := fun k => match k with
  | 0 => .int
  | 1 => .int
  | 2 => .int
  | 3 => .int
  | 4 => .int
  | 5 => .int
  | 6 => .int
  | 7 => .int
  | 8 => .int
  | 9 => .boolean
  | _ => .boolean
theorem nz_R : ∀ a, a < 11 → ∀ b, b < 11 → a ≠ b → (Fz_R a).2.1 ≠ (Fz_R b).2.1 := by decide +kernel
theorem tz_R_ok : ∀ k, k < 11 → parseFieldDescriptor (Fz_R k).2.2.1 = some (tz_R k) := by decide +kernel
theorem it_R : ∀ w ∈ u_ws "LoanRules$Rule" Fz_R 11, w ∈ TT := tt_l _ [203, 205, 207, 209, 211, 213, 215, 217, 219, 221, 223] (by decide +kernel) (by decide +kernel)
def Fz_T : u_T := fun k => match k with
  | 0 => ("LoanRules$RuleText", "signs", "[C", true)
  | 1 => ("LoanRules$RuleText", "length", "I", false)
  | 2 => ("LoanRules$RuleText", "place", "I", false)
  | _ => ("LoanRules$RuleText", "wrongPlace", "I", false)
def tz_T : Nat → FieldType := fun k => match k with
  | 0 => .array .char
  | 1 => .int
  | 2 => .int
  | _ => .int
theorem nz_T : ∀ a, a < 4 → ∀ b, b < 4 → a ≠ b → (Fz_T a).2.1 ≠ (Fz_T b).2.1 := by decide +kernel
theorem tz_T_ok : ∀ k, k < 4 → parseFieldDescriptor (Fz_T k).2.2.1 = some (tz_T k) := by decide +kernel
theorem it_T : ∀ w ∈ u_ws "LoanRules$RuleText" Fz_T 4, w ∈ TT := tt_l _ [76, 78, 80, 82] (by decide +kernel) (by decide +kernel)
def Fz_M : u_T := fun k => match k with
  | 0 => ("LoanRulesModel", "thrown", "I", false)
  | 1 => ("LoanRulesModel", "said", "[B", true)
  | 2 => ("LoanRulesModel", "size", "I", false)
  | 3 => ("LoanRulesModel", "at", "I", false)
  | 4 => ("LoanRulesModel", "wrong", "I", false)
  | 5 => ("LoanRulesModel", "rules", "[I", true)
  | 6 => ("LoanRulesModel", "met", "[Z", true)
  | 7 => ("LoanRulesModel", "lets", "[Z", true)
  | 8 => ("LoanRulesModel", "count", "I", false)
  | 9 => ("LoanRulesModel", "closed", "[Z", true)
  | 10 => ("LoanRulesModel", "terms", "[Z", true)
  | 11 => ("LoanRulesModel", "kinds", "[I", true)
  | 12 => ("LoanRulesModel", "types", "[I", true)
  | 13 => ("LoanRulesModel", "blocks", "[I", true)
  | 14 => ("LoanRulesModel", "excepted", "[I", true)
  | 15 => ("LoanRulesModel", "loans", "[I", true)
  | 16 => ("LoanRulesModel", "loanCount", "I", false)
  | 17 => ("LoanRulesModel", "holder", "[I", true)
  | 18 => ("LoanRulesModel", "fits", "[I", true)
  | 19 => ("LoanRulesModel", "fitCount", "I", false)
  | 20 => ("LoanRulesModel", "clashes", "[I", true)
  | _ => ("LoanRulesModel", "clashCount", "I", false)
def tz_M : Nat → FieldType := fun k => match k with
  | 0 => .int
  | 1 => .array .byte
  | 2 => .int
  | 3 => .int
  | 4 => .int
  | 5 => .array .int
  | 6 => .array .boolean
  | 7 => .array .boolean
  | 8 => .int
  | 9 => .array .boolean
  | 10 => .array .boolean
  | 11 => .array .int
  | 12 => .array .int
  | 13 => .array .int
  | 14 => .array .int
  | 15 => .array .int
  | 16 => .int
  | 17 => .array .int
  | 18 => .array .int
  | 19 => .int
  | 20 => .array .int
  | _ => .int
theorem nz_M : ∀ a, a < 22 → ∀ b, b < 22 → a ≠ b → (Fz_M a).2.1 ≠ (Fz_M b).2.1 := by decide +kernel
theorem tz_M_ok : ∀ k, k < 22 → parseFieldDescriptor (Fz_M k).2.2.1 = some (tz_M k) := by decide +kernel
theorem it_M : ∀ w ∈ u_ws "LoanRulesModel" Fz_M 22, w ∈ TT := tt_l _ [623, 625, 627, 629, 631, 633, 635, 637, 639, 641, 643, 645, 647, 649, 651, 653, 655, 657, 659, 661, 663, 665] (by decide +kernel) (by decide +kernel)
abbrev vwCl : List vw_C := [("LoanRules", Fz_C, 16), ("LoanRules$DaySet", Fz_D, 1), ("LoanRules$Loan", Fz_N, 8), ("LoanRules$Rule", Fz_R, 11), ("LoanRules$RuleText", Fz_T, 4), ("LoanRulesModel", Fz_M, 22)]
abbrev c_C_isDay : ByteArray := prog_1_method_18_code
def y_C_isDay : MethodName := ⟨"LoanRules", "isDay", "(I)Z"⟩
abbrev ws_C_isDay : List Cond := .code y_C_isDay c_C_isDay 1 (some .boolean) :: TT
abbrev c_C_isPerson : ByteArray := prog_1_method_19_code
def y_C_isPerson : MethodName := ⟨"LoanRules", "isPerson", "(I)Z"⟩
abbrev ws_C_isPerson : List Cond := .code y_C_isPerson c_C_isPerson 1 (some .boolean) :: TT
abbrev c_C_isItem : ByteArray := prog_1_method_20_code
def y_C_isItem : MethodName := ⟨"LoanRules", "isItem", "(I)Z"⟩
abbrev ws_C_isItem : List Cond := .code y_C_isItem c_C_isItem 1 (some .boolean) :: TT
abbrev c_C_ruleAt : ByteArray := prog_1_method_22_code
def y_C_ruleAt : MethodName := ⟨"LoanRules", "ruleAt", "(I)LLoanRules$Rule;"⟩
abbrev ws_C_ruleAt : List Cond := .code y_C_ruleAt c_C_ruleAt 2 (some (.object "LoanRules$Rule")) :: TT
abbrev c_C_fittingAt : ByteArray := prog_1_method_23_code
def y_C_fittingAt : MethodName := ⟨"LoanRules", "fittingAt", "(I)I"⟩
abbrev ws_C_fittingAt : List Cond := .code y_C_fittingAt c_C_fittingAt 2 (some .int) :: TT
abbrev c_C_heldLoan : ByteArray := prog_1_method_24_code
def y_C_heldLoan : MethodName := ⟨"LoanRules", "heldLoan", "(I)LLoanRules$Loan;"⟩
abbrev ws_C_heldLoan : List Cond := .code y_C_heldLoan c_C_heldLoan 3 (some (.object "LoanRules$Loan")) :: TT
abbrev c_C_due : ByteArray := prog_1_method_8_code
def y_C_due : MethodName := ⟨"LoanRules", "due", "(I)I"⟩
abbrev ws_C_due : List Cond := .code y_C_due c_C_due 3 (some .int) :: TT
abbrev c_C_renew : ByteArray := prog_1_method_9_code
def y_C_renew : MethodName := ⟨"LoanRules", "renew", "(II)I"⟩
abbrev ws_C_renew : List Cond := .code y_C_renew c_C_renew 6 (some .int) :: TT
abbrev c_C_recall : ByteArray := prog_1_method_10_code
def y_C_recall : MethodName := ⟨"LoanRules", "recall", "(II)I"⟩
abbrev ws_C_recall : List Cond := .code y_C_recall c_C_recall 5 (some .int) :: TT
abbrev c_C_back : ByteArray := prog_1_method_11_code
def y_C_back : MethodName := ⟨"LoanRules", "back", "(I)I"⟩
abbrev ws_C_back : List Cond := .code y_C_back c_C_back 3 (some .int) :: TT
abbrev c_C_except : ByteArray := prog_1_method_13_code
def y_C_except : MethodName := ⟨"LoanRules", "except", "(III)I"⟩
abbrev ws_C_except : List Cond := .code y_C_except c_C_except 4 (some .int) :: TT
abbrev c_C_throwsUp : ByteArray := prog_1_method_14_code
def y_C_throwsUp : MethodName := ⟨"LoanRules", "throwsUp", "(IZ)Z"⟩
abbrev ws_C_throwsUp : List Cond := .code y_C_throwsUp c_C_throwsUp 5 (some .boolean) :: TT
abbrev c_C_explain : ByteArray := prog_1_method_15_code
def y_C_explain : MethodName := ⟨"LoanRules", "explain", "(I)I"⟩
abbrev ws_C_explain : List Cond := .code y_C_explain c_C_explain 2 (some .int) :: TT
abbrev c_C_clash : ByteArray := prog_1_method_17_code
def y_C_clash : MethodName := ⟨"LoanRules", "clash", "(II)I"⟩
abbrev ws_C_clash : List Cond := .code y_C_clash c_C_clash 3 (some .int) :: TT
abbrev c_C_never : ByteArray := prog_1_method_16_code
def y_C_never : MethodName := ⟨"LoanRules", "never", "(I)I"⟩
abbrev ws_C_never : List Cond := .code y_C_never c_C_never 5 (some .int) :: TT
abbrev c_C_gatherFitting : ByteArray := prog_1_method_26_code
def y_C_gatherFitting : MethodName := ⟨"LoanRules", "gatherFitting", "(III)V"⟩
abbrev ws_C_gatherFitting : List Cond := .code y_C_gatherFitting c_C_gatherFitting 6 none :: TT
abbrev c_C_lend : ByteArray := prog_1_method_7_code
def y_C_lend : MethodName := ⟨"LoanRules", "lend", "(III)I"⟩
abbrev ws_C_lend : List Cond := .code y_C_lend c_C_lend 6 (some .int) :: TT
abbrev c_D_holds : ByteArray := prog_2_method_2_code
def y_D_holds : MethodName := ⟨"LoanRules$DaySet", "holds", "(I)Z"⟩
abbrev ws_D_holds : List Cond := .code y_D_holds c_D_holds 2 (some .boolean) :: TT
abbrev c_D_put : ByteArray := prog_2_method_3_code
def y_D_put : MethodName := ⟨"LoanRules$DaySet", "put", "(IZ)V"⟩
abbrev ws_D_put : List Cond := .code y_D_put c_D_put 5 none :: TT
abbrev c_C_closed : ByteArray := prog_1_method_4_code
def y_C_closed : MethodName := ⟨"LoanRules", "closed", "(IZ)Z"⟩
abbrev ws_C_closed : List Cond := .code y_C_closed c_C_closed 4 (some .boolean) :: TT
abbrev c_C_term : ByteArray := prog_1_method_5_code
def y_C_term : MethodName := ⟨"LoanRules", "term", "(I)I"⟩
abbrev ws_C_term : List Cond := .code y_C_term c_C_term 2 (some .int) :: TT
abbrev c_C_row : ByteArray := prog_1_method_6_code
def y_C_row : MethodName := ⟨"LoanRules", "row", "(III)I"⟩
abbrev ws_C_row : List Cond := .code y_C_row c_C_row 4 (some .int) :: TT
abbrev c_C_block : ByteArray := prog_1_method_12_code
def y_C_block : MethodName := ⟨"LoanRules", "block", "(II)I"⟩
abbrev ws_C_block : List Cond := .code y_C_block c_C_block 4 (some .int) :: TT
abbrev c_T_collect : ByteArray := prog_5_method_2_code
def y_T_collect : MethodName := ⟨"LoanRules$RuleText", "collect", "(I)V"⟩
abbrev ws_T_collect : List Cond := .code y_T_collect c_T_collect 2 none :: TT
abbrev c_C_sign : ByteArray := prog_1_method_2_code
def y_C_sign : MethodName := ⟨"LoanRules", "sign", "(I)V"⟩
abbrev ws_C_sign : List Cond := .code y_C_sign c_C_sign 2 none :: TT
abbrev c_S_coder : ByteArray := prog_12_method_152_code
def y_S_coder : MethodName := ⟨"java/lang/String", "coder", "()B"⟩
abbrev ws_S_coder : List Cond := .code y_S_coder c_S_coder 1 (some .byte) :: TT
abbrev c_S_isLatin1 : ByteArray := prog_12_method_154_code
def y_S_isLatin1 : MethodName := ⟨"java/lang/String", "isLatin1", "()Z"⟩
abbrev ws_S_isLatin1 : List Cond := .code y_S_isLatin1 c_S_isLatin1 1 (some .boolean) :: TT
abbrev c_S_length : ByteArray := prog_12_method_54_code
def y_S_length : MethodName := ⟨"java/lang/String", "length", "()I"⟩
abbrev ws_S_length : List Cond := .code y_S_length c_S_length 1 (some .int) :: TT
abbrev c_PC_checkIndex : ByteArray := prog_17_method_11_code
def y_PC_checkIndex : MethodName := ⟨"jdk/internal/util/Preconditions", "checkIndex", "(IILjava/util/function/BiFunction;)I"⟩
abbrev ws_PC_checkIndex : List Cond := .code y_PC_checkIndex c_PC_checkIndex 3 (some .int) :: TT
abbrev c_S_checkIndex : ByteArray := prog_12_method_155_code
def y_S_checkIndex : MethodName := ⟨"java/lang/String", "checkIndex", "(II)V"⟩
abbrev ws_S_checkIndex : List Cond := .code y_S_checkIndex c_S_checkIndex 2 none :: TT
abbrev c_SL_charAt : ByteArray := prog_13_method_2_code
def y_SL_charAt : MethodName := ⟨"java/lang/StringLatin1", "charAt", "([BI)C"⟩
abbrev ws_SL_charAt : List Cond := .code y_SL_charAt c_SL_charAt 2 (some .char) :: TT
abbrev c_S_charAt : ByteArray := prog_12_method_56_code
def y_S_charAt : MethodName := ⟨"java/lang/String", "charAt", "(I)C"⟩
abbrev ws_S_charAt : List Cond := .code y_S_charAt c_S_charAt 2 (some .char) :: TT
abbrev c_T_signAt : ByteArray := prog_5_method_15_code
def y_T_signAt : MethodName := ⟨"LoanRules$RuleText", "signAt", "(I)I"⟩
abbrev ws_T_signAt : List Cond := .code y_T_signAt c_T_signAt 2 (some .int) :: TT
abbrev c_T_takesWord : ByteArray := prog_5_method_11_code
def y_T_takesWord : MethodName := ⟨"LoanRules$RuleText", "takesWord", "(Ljava/lang/String;)Z"⟩
abbrev ws_T_takesWord : List Cond := .code y_T_takesWord c_T_takesWord 3 (some .boolean) :: TT
abbrev c_T_takesWordBehindSpace : ByteArray := prog_5_method_10_code
def y_T_takesWordBehindSpace : MethodName := ⟨"LoanRules$RuleText", "takesWordBehindSpace", "(Ljava/lang/String;)Z"⟩
abbrev ws_T_takesWordBehindSpace : List Cond := .code y_T_takesWordBehindSpace c_T_takesWordBehindSpace 2 (some .boolean) :: TT
abbrev c_T_readOption : ByteArray := prog_5_method_9_code
def y_T_readOption : MethodName := ⟨"LoanRules$RuleText", "readOption", "(Ljava/lang/String;I)I"⟩
abbrev ws_T_readOption : List Cond := .code y_T_readOption c_T_readOption 3 (some .int) :: TT
abbrev c_T_readCondition : ByteArray := prog_5_method_5_code
def y_T_readCondition : MethodName := ⟨"LoanRules$RuleText", "readCondition", "(Ljava/lang/String;II)I"⟩
abbrev ws_T_readCondition : List Cond := .code y_T_readCondition c_T_readCondition 5 (some .int) :: TT
abbrev c_T_markWrong : ByteArray := prog_5_method_14_code
def y_T_markWrong : MethodName := ⟨"LoanRules$RuleText", "markWrong", "(I)V"⟩
abbrev ws_T_markWrong : List Cond := .code y_T_markWrong c_T_markWrong 2 none :: TT
abbrev c_R_lends : ByteArray := prog_4_method_2_code
def y_R_lends : MethodName := ⟨"LoanRules$Rule", "lends", "()Z"⟩
abbrev ws_R_lends : List Cond := .code y_R_lends c_R_lends 1 (some .boolean) :: TT
abbrev c_T_readDeed : ByteArray := prog_5_method_6_code
def y_T_readDeed : MethodName := ⟨"LoanRules$RuleText", "readDeed", "(LLoanRules$Rule;)V"⟩
abbrev ws_T_readDeed : List Cond := .code y_T_readDeed c_T_readDeed 2 none :: TT
abbrev c_T_readRest : ByteArray := prog_5_method_8_code
def y_T_readRest : MethodName := ⟨"LoanRules$RuleText", "readRest", "(LLoanRules$Rule;)V"⟩
abbrev ws_T_readRest : List Cond := .code y_T_readRest c_T_readRest 2 none :: TT
abbrev c_T_readInto : ByteArray := prog_5_method_4_code
def y_T_readInto : MethodName := ⟨"LoanRules$RuleText", "readInto", "(LLoanRules$Rule;)I"⟩
abbrev ws_T_readInto : List Cond := .code y_T_readInto c_T_readInto 2 (some .int) :: TT
abbrev c_T_forget : ByteArray := prog_5_method_3_code
def y_T_forget : MethodName := ⟨"LoanRules$RuleText", "forget", "()V"⟩
abbrev ws_T_forget : List Cond := .code y_T_forget c_T_forget 1 none :: TT
abbrev c_R_init : ByteArray := prog_4_method_1_code
def y_R_init : MethodName := ⟨"LoanRules$Rule", "<init>", "()V"⟩
abbrev ws_R_init : List Cond := .code y_R_init c_R_init 1 none :: TT
abbrev c_C_rule : ByteArray := prog_1_method_3_code
def y_C_rule : MethodName := ⟨"LoanRules", "rule", "()I"⟩
abbrev ws_C_rule : List Cond := .code y_C_rule c_C_rule 3 (some .int) :: TT
abbrev c_T_init : ByteArray := prog_5_method_1_code
def y_T_init : MethodName := ⟨"LoanRules$RuleText", "<init>", "()V"⟩
abbrev ws_T_init : List Cond := .code y_T_init c_T_init 1 none :: TT
abbrev c_D_init : ByteArray := prog_2_method_1_code
def y_D_init : MethodName := ⟨"LoanRules$DaySet", "<init>", "()V"⟩
abbrev ws_D_init : List Cond := .code y_D_init c_D_init 1 none :: TT
abbrev c_AR_fill : ByteArray := prog_16_method_103_code
def y_AR_fill : MethodName := ⟨"java/util/Arrays", "fill", "([II)V"⟩
abbrev ws_AR_fill : List Cond := .code y_AR_fill c_AR_fill 4 none :: TT
abbrev c_C_init : ByteArray := prog_1_method_1_code
def y_C_init : MethodName := ⟨"LoanRules", "<init>", "()V"⟩
abbrev ws_C_init : List Cond := .code y_C_init c_C_init 1 none :: TT
abbrev c_M_isDay : ByteArray := prog_7_method_16_code
def y_M_isDay : MethodName := ⟨"LoanRulesModel", "isDay", "(I)Z"⟩
abbrev ws_M_isDay : List Cond := .code y_M_isDay c_M_isDay 1 (some .boolean) :: TT
abbrev c_M_isPerson : ByteArray := prog_7_method_21_code
def y_M_isPerson : MethodName := ⟨"LoanRulesModel", "isPerson", "(I)Z"⟩
abbrev ws_M_isPerson : List Cond := .code y_M_isPerson c_M_isPerson 1 (some .boolean) :: TT
abbrev c_M_init : ByteArray := prog_7_method_1_code
def y_M_init : MethodName := ⟨"LoanRulesModel", "<init>", "()V"⟩
abbrev ws_M_init : List Cond := .code y_M_init c_M_init 1 none :: TT
abbrev c_M_thrown : ByteArray := prog_7_method_2_code
def y_M_thrown : MethodName := ⟨"LoanRulesModel", "thrown", "()I"⟩
abbrev ws_M_thrown : List Cond := .code y_M_thrown c_M_thrown 1 (some .int) :: TT
abbrev c_M_sign : ByteArray := prog_7_method_3_code
def y_M_sign : MethodName := ⟨"LoanRulesModel", "sign", "(I)V"⟩
abbrev ws_M_sign : List Cond := .code y_M_sign c_M_sign 2 none :: TT
abbrev c_M_look : ByteArray := prog_7_method_4_code
def y_M_look : MethodName := ⟨"LoanRulesModel", "look", "(I)I"⟩
abbrev ws_M_look : List Cond := .code y_M_look c_M_look 2 (some .int) :: TT
abbrev c_M_word : ByteArray := prog_7_method_7_code
def y_M_word : MethodName := ⟨"LoanRulesModel", "word", "()J"⟩
abbrev ws_M_word : List Cond := .code y_M_word c_M_word 4 (some .long) :: TT
abbrev c_M_bad : ByteArray := prog_7_method_5_code
def y_M_bad : MethodName := ⟨"LoanRulesModel", "bad", "(I)Z"⟩
abbrev ws_M_bad : List Cond := .code y_M_bad c_M_bad 2 (some .boolean) :: TT
abbrev c_M_step : ByteArray := prog_7_method_11_code
def y_M_step : MethodName := ⟨"LoanRulesModel", "step", "(J)I"⟩
abbrev ws_M_step : List Cond := .code y_M_step c_M_step 2 (some .int) :: TT
abbrev c_M_reads : ByteArray := prog_7_method_14_code
def y_M_reads : MethodName := ⟨"LoanRulesModel", "reads", "()Z"⟩
abbrev ws_M_reads : List Cond := .code y_M_reads c_M_reads 4 (some .boolean) :: TT
abbrev c_M_rule : ByteArray := prog_7_method_15_code
def y_M_rule : MethodName := ⟨"LoanRulesModel", "rule", "()I"⟩
abbrev ws_M_rule : List Cond := .code y_M_rule c_M_rule 2 (some .int) :: TT
abbrev c_M_closed : ByteArray := prog_7_method_17_code
def y_M_closed : MethodName := ⟨"LoanRulesModel", "closed", "(IZ)Z"⟩
abbrev ws_M_closed : List Cond := .code y_M_closed c_M_closed 4 (some .boolean) :: TT
abbrev c_M_term : ByteArray := prog_7_method_18_code
def y_M_term : MethodName := ⟨"LoanRulesModel", "term", "(I)I"⟩
abbrev ws_M_term : List Cond := .code y_M_term c_M_term 2 (some .int) :: TT
abbrev c_M_row : ByteArray := prog_7_method_22_code
def y_M_row : MethodName := ⟨"LoanRulesModel", "row", "(III)I"⟩
abbrev ws_M_row : List Cond := .code y_M_row c_M_row 4 (some .int) :: TT
abbrev c_M_block : ByteArray := prog_7_method_23_code
def y_M_block : MethodName := ⟨"LoanRulesModel", "block", "(II)I"⟩
abbrev ws_M_block : List Cond := .code y_M_block c_M_block 4 (some .int) :: TT
abbrev c_M_isRule : ByteArray := prog_7_method_24_code
def y_M_isRule : MethodName := ⟨"LoanRulesModel", "isRule", "(I)Z"⟩
abbrev ws_M_isRule : List Cond := .code y_M_isRule c_M_isRule 2 (some .boolean) :: TT
abbrev c_M_except : ByteArray := prog_7_method_25_code
def y_M_except : MethodName := ⟨"LoanRulesModel", "except", "(III)I"⟩
abbrev ws_M_except : List Cond := .code y_M_except c_M_except 4 (some .int) :: TT
abbrev c_M_throwsUp : ByteArray := prog_7_method_26_code
def y_M_throwsUp : MethodName := ⟨"LoanRulesModel", "throwsUp", "(IZ)Z"⟩
abbrev ws_M_throwsUp : List Cond := .code y_M_throwsUp c_M_throwsUp 4 (some .boolean) :: TT
abbrev c_M_find : ByteArray := prog_7_method_28_code
def y_M_find : MethodName := ⟨"LoanRulesModel", "find", "(III)V"⟩
abbrev ws_M_find : List Cond := .code y_M_find c_M_find 6 none :: TT
abbrev c_M_lend : ByteArray := prog_7_method_30_code
def y_M_lend : MethodName := ⟨"LoanRulesModel", "lend", "(III)I"⟩
abbrev ws_M_lend : List Cond := .code y_M_lend c_M_lend 8 (some .int) :: TT
abbrev c_M_isOut : ByteArray := prog_7_method_31_code
def y_M_isOut : MethodName := ⟨"LoanRulesModel", "isOut", "(I)Z"⟩
abbrev ws_M_isOut : List Cond := .code y_M_isOut c_M_isOut 2 (some .boolean) :: TT
abbrev c_M_due : ByteArray := prog_7_method_32_code
def y_M_due : MethodName := ⟨"LoanRulesModel", "due", "(I)I"⟩
abbrev ws_M_due : List Cond := .code y_M_due c_M_due 2 (some .int) :: TT
abbrev c_M_renew : ByteArray := prog_7_method_33_code
def y_M_renew : MethodName := ⟨"LoanRulesModel", "renew", "(II)I"⟩
abbrev ws_M_renew : List Cond := .code y_M_renew c_M_renew 7 (some .int) :: TT
abbrev c_M_recall : ByteArray := prog_7_method_34_code
def y_M_recall : MethodName := ⟨"LoanRulesModel", "recall", "(II)I"⟩
abbrev ws_M_recall : List Cond := .code y_M_recall c_M_recall 5 (some .int) :: TT
abbrev c_M_back : ByteArray := prog_7_method_35_code
def y_M_back : MethodName := ⟨"LoanRulesModel", "back", "(I)I"⟩
abbrev ws_M_back : List Cond := .code y_M_back c_M_back 2 (some .int) :: TT
abbrev c_M_explain : ByteArray := prog_7_method_36_code
def y_M_explain : MethodName := ⟨"LoanRulesModel", "explain", "(I)I"⟩
abbrev ws_M_explain : List Cond := .code y_M_explain c_M_explain 2 (some .int) :: TT
abbrev c_M_never : ByteArray := prog_7_method_37_code
def y_M_never : MethodName := ⟨"LoanRulesModel", "never", "(I)I"⟩
abbrev ws_M_never : List Cond := .code y_M_never c_M_never 4 (some .int) :: TT
abbrev c_M_clash : ByteArray := prog_7_method_38_code
def y_M_clash : MethodName := ⟨"LoanRulesModel", "clash", "(II)I"⟩
abbrev ws_M_clash : List Cond := .code y_M_clash c_M_clash 3 (some .int) :: TT
end
section
theorem d_AR_fill_0 : decode c_AR_fill 0 = .ok (.iconst 0, 1) := by decide +kernel
theorem d_AR_fill_1 : decode c_AR_fill 1 = .ok (.istore_n 2, 1) := by decide +kernel
theorem d_AR_fill_2 : decode c_AR_fill 2 = .ok (.aload_n 0, 1) := by decide +kernel
theorem d_AR_fill_3 : decode c_AR_fill 3 = .ok (.arraylength, 1) := by decide +kernel
theorem d_AR_fill_4 : decode c_AR_fill 4 = .ok (.istore_n 3, 1) := by decide +kernel
theorem d_AR_fill_5 : decode c_AR_fill 5 = .ok (.iload_n 2, 1) := by decide +kernel
theorem d_AR_fill_6 : decode c_AR_fill 6 = .ok (.iload_n 3, 1) := by decide +kernel
theorem d_AR_fill_7 : decode c_AR_fill 7 = .ok (.if_icmp .ge 13, 3) := by decide +kernel
theorem d_AR_fill_10 : decode c_AR_fill 10 = .ok (.aload_n 0, 1) := by decide +kernel
theorem d_AR_fill_11 : decode c_AR_fill 11 = .ok (.iload_n 2, 1) := by decide +kernel
theorem d_AR_fill_12 : decode c_AR_fill 12 = .ok (.iload_n 1, 1) := by decide +kernel
theorem d_AR_fill_13 : decode c_AR_fill 13 = .ok (.iastore, 1) := by decide +kernel
theorem d_AR_fill_14 : decode c_AR_fill 14 = .ok (.iinc 2 1, 3) := by decide +kernel
theorem d_AR_fill_17 : decode c_AR_fill 17 = .ok (.goto (-12), 3) := by decide +kernel
theorem d_AR_fill_20 : decode c_AR_fill 20 = .ok (.return_, 1) := by decide +kernel
theorem d_C_back_0 : decode c_C_back 0 = .ok (.aload_n 0, 1) := by decide +kernel
theorem d_C_back_1 : decode c_C_back 1 = .ok (.iload_n 1, 1) := by decide +kernel
theorem d_C_back_2 : decode c_C_back 2 = .ok (.invokevirtual 156, 3) := by decide +kernel
theorem d_C_back_5 : decode c_C_back 5 = .ok (.astore_n 2, 1) := by decide +kernel
theorem d_C_back_6 : decode c_C_back 6 = .ok (.aload_n 2, 1) := by decide +kernel
theorem d_C_back_7 : decode c_C_back 7 = .ok (.ifnonnull 5, 3) := by decide +kernel
theorem d_C_back_10 : decode c_C_back 10 = .ok (.iconst 0, 1) := by decide +kernel
theorem d_C_back_11 : decode c_C_back 11 = .ok (.ireturn, 1) := by decide +kernel
theorem d_C_block_0 : decode c_C_block 0 = .ok (.iload_n 1, 1) := by decide +kernel
theorem d_C_block_1 : decode c_C_block 1 = .ok (.invokestatic 103, 3) := by decide +kernel
theorem d_C_block_4 : decode c_C_block 4 = .ok (.ifCond .eq 13, 3) := by decide +kernel
theorem d_C_block_7 : decode c_C_block 7 = .ok (.iload_n 2, 1) := by decide +kernel
theorem d_C_block_8 : decode c_C_block 8 = .ok (.ifCond .lt 9, 3) := by decide +kernel
theorem d_C_block_11 : decode c_C_block 11 = .ok (.iload_n 2, 1) := by decide +kernel
theorem d_C_block_12 : decode c_C_block 12 = .ok (.bipush 9, 2) := by decide +kernel
theorem d_C_block_14 : decode c_C_block 14 = .ok (.if_icmp .le 5, 3) := by decide +kernel
theorem d_C_block_17 : decode c_C_block 17 = .ok (.iconst (-1), 1) := by decide +kernel
theorem d_C_block_18 : decode c_C_block 18 = .ok (.ireturn, 1) := by decide +kernel
theorem d_C_block_19 : decode c_C_block 19 = .ok (.aload_n 0, 1) := by decide +kernel
theorem d_C_block_20 : decode c_C_block 20 = .ok (.getfield 40, 3) := by decide +kernel
theorem d_C_block_23 : decode c_C_block 23 = .ok (.iload_n 1, 1) := by decide +kernel
theorem d_C_block_24 : decode c_C_block 24 = .ok (.iaload, 1) := by decide +kernel
theorem d_C_block_25 : decode c_C_block 25 = .ok (.istore_n 3, 1) := by decide +kernel
theorem d_C_block_26 : decode c_C_block 26 = .ok (.aload_n 0, 1) := by decide +kernel
theorem d_C_block_27 : decode c_C_block 27 = .ok (.getfield 40, 3) := by decide +kernel
theorem d_C_block_30 : decode c_C_block 30 = .ok (.iload_n 1, 1) := by decide +kernel
theorem d_C_block_31 : decode c_C_block 31 = .ok (.iload_n 2, 1) := by decide +kernel
theorem d_C_block_32 : decode c_C_block 32 = .ok (.iastore, 1) := by decide +kernel
theorem d_C_block_33 : decode c_C_block 33 = .ok (.iload_n 3, 1) := by decide +kernel
theorem d_C_block_34 : decode c_C_block 34 = .ok (.ireturn, 1) := by decide +kernel
theorem d_C_clash_0 : decode c_C_clash 0 = .ok (.iload_n 1, 1) := by decide +kernel
theorem d_C_clash_1 : decode c_C_clash 1 = .ok (.ifCond .lt 20, 3) := by decide +kernel
theorem d_C_clash_4 : decode c_C_clash 4 = .ok (.iload_n 1, 1) := by decide +kernel
theorem d_C_clash_5 : decode c_C_clash 5 = .ok (.aload_n 0, 1) := by decide +kernel
theorem d_C_clash_6 : decode c_C_clash 6 = .ok (.getfield 71, 3) := by decide +kernel
theorem d_C_clash_9 : decode c_C_clash 9 = .ok (.if_icmp .ge 12, 3) := by decide +kernel
theorem d_C_clash_21 : decode c_C_clash 21 = .ok (.iconst (-1), 1) := by decide +kernel
theorem d_C_clash_22 : decode c_C_clash 22 = .ok (.ireturn, 1) := by decide +kernel
theorem d_C_closed_0 : decode c_C_closed 0 = .ok (.iload_n 1, 1) := by decide +kernel
theorem d_C_closed_1 : decode c_C_closed 1 = .ok (.invokestatic 92, 3) := by decide +kernel
theorem d_C_closed_4 : decode c_C_closed 4 = .ok (.ifCond .ne 5, 3) := by decide +kernel
theorem d_C_closed_7 : decode c_C_closed 7 = .ok (.iconst 0, 1) := by decide +kernel
theorem d_C_closed_8 : decode c_C_closed 8 = .ok (.ireturn, 1) := by decide +kernel
theorem d_C_closed_9 : decode c_C_closed 9 = .ok (.aload_n 0, 1) := by decide +kernel
theorem d_C_closed_10 : decode c_C_closed 10 = .ok (.getfield 29, 3) := by decide +kernel
theorem d_C_closed_13 : decode c_C_closed 13 = .ok (.iload_n 1, 1) := by decide +kernel
theorem d_C_closed_14 : decode c_C_closed 14 = .ok (.invokevirtual 96, 3) := by decide +kernel
theorem d_C_closed_17 : decode c_C_closed 17 = .ok (.istore_n 3, 1) := by decide +kernel
theorem d_C_closed_18 : decode c_C_closed 18 = .ok (.aload_n 0, 1) := by decide +kernel
theorem d_C_closed_19 : decode c_C_closed 19 = .ok (.getfield 29, 3) := by decide +kernel
theorem d_C_closed_22 : decode c_C_closed 22 = .ok (.iload_n 1, 1) := by decide +kernel
theorem d_C_closed_23 : decode c_C_closed 23 = .ok (.iload_n 2, 1) := by decide +kernel
theorem d_C_closed_24 : decode c_C_closed 24 = .ok (.invokevirtual 99, 3) := by decide +kernel
theorem d_C_closed_27 : decode c_C_closed 27 = .ok (.iload_n 3, 1) := by decide +kernel
theorem d_C_closed_28 : decode c_C_closed 28 = .ok (.ireturn, 1) := by decide +kernel
theorem d_C_due_0 : decode c_C_due 0 = .ok (.aload_n 0, 1) := by decide +kernel
theorem d_C_due_1 : decode c_C_due 1 = .ok (.iload_n 1, 1) := by decide +kernel
theorem d_C_due_2 : decode c_C_due 2 = .ok (.invokevirtual 156, 3) := by decide +kernel
theorem d_C_due_5 : decode c_C_due 5 = .ok (.astore_n 2, 1) := by decide +kernel
theorem d_C_due_6 : decode c_C_due 6 = .ok (.aload_n 2, 1) := by decide +kernel
theorem d_C_due_7 : decode c_C_due 7 = .ok (.ifnonnull 7, 3) := by decide +kernel
theorem d_C_due_10 : decode c_C_due 10 = .ok (.iconst (-1), 1) := by decide +kernel
theorem d_C_due_11 : decode c_C_due 11 = .ok (.goto 7, 3) := by decide +kernel
theorem d_C_due_18 : decode c_C_due 18 = .ok (.ireturn, 1) := by decide +kernel
theorem d_C_except_0 : decode c_C_except 0 = .ok (.iload_n 1, 1) := by decide +kernel
theorem d_C_except_1 : decode c_C_except 1 = .ok (.invokestatic 103, 3) := by decide +kernel
theorem d_C_except_4 : decode c_C_except 4 = .ok (.ifCond .eq 11, 3) := by decide +kernel
theorem d_C_except_7 : decode c_C_except 7 = .ok (.aload_n 0, 1) := by decide +kernel
theorem d_C_except_8 : decode c_C_except 8 = .ok (.iload_n 2, 1) := by decide +kernel
theorem d_C_except_9 : decode c_C_except 9 = .ok (.invokevirtual 117, 3) := by decide +kernel
theorem d_C_except_12 : decode c_C_except 12 = .ok (.ifnonnull 5, 3) := by decide +kernel
theorem d_C_except_15 : decode c_C_except 15 = .ok (.iconst 0, 1) := by decide +kernel
theorem d_C_except_16 : decode c_C_except 16 = .ok (.ireturn, 1) := by decide +kernel
theorem d_C_explain_0 : decode c_C_explain 0 = .ok (.aload_n 0, 1) := by decide +kernel
theorem d_C_explain_1 : decode c_C_explain 1 = .ok (.iload_n 1, 1) := by decide +kernel
theorem d_C_explain_2 : decode c_C_explain 2 = .ok (.invokevirtual 113, 3) := by decide +kernel
theorem d_C_explain_5 : decode c_C_explain 5 = .ok (.ireturn, 1) := by decide +kernel
theorem d_C_fittingAt_0 : decode c_C_fittingAt 0 = .ok (.iload_n 1, 1) := by decide +kernel
theorem d_C_fittingAt_1 : decode c_C_fittingAt 1 = .ok (.ifCond .lt 29, 3) := by decide +kernel
theorem d_C_fittingAt_4 : decode c_C_fittingAt 4 = .ok (.iload_n 1, 1) := by decide +kernel
theorem d_C_fittingAt_5 : decode c_C_fittingAt 5 = .ok (.aload_n 0, 1) := by decide +kernel
theorem d_C_fittingAt_6 : decode c_C_fittingAt 6 = .ok (.getfield 65, 3) := by decide +kernel
theorem d_C_fittingAt_9 : decode c_C_fittingAt 9 = .ok (.if_icmp .ge 21, 3) := by decide +kernel
theorem d_C_fittingAt_30 : decode c_C_fittingAt 30 = .ok (.iconst (-1), 1) := by decide +kernel
theorem d_C_fittingAt_31 : decode c_C_fittingAt 31 = .ok (.ireturn, 1) := by decide +kernel
theorem d_C_gatherFitting_0 : decode c_C_gatherFitting 0 = .ok (.aload_n 0, 1) := by decide +kernel
theorem d_C_gatherFitting_1 : decode c_C_gatherFitting 1 = .ok (.iconst 0, 1) := by decide +kernel
theorem d_C_gatherFitting_2 : decode c_C_gatherFitting 2 = .ok (.putfield 65, 3) := by decide +kernel
theorem d_C_gatherFitting_5 : decode c_C_gatherFitting 5 = .ok (.iconst 0, 1) := by decide +kernel
theorem d_C_gatherFitting_6 : decode c_C_gatherFitting 6 = .ok (.istore 4, 2) := by decide +kernel
theorem d_C_gatherFitting_8 : decode c_C_gatherFitting 8 = .ok (.iload 4, 2) := by decide +kernel
theorem d_C_gatherFitting_10 : decode c_C_gatherFitting 10 = .ok (.bipush 40, 2) := by decide +kernel
theorem d_C_gatherFitting_12 : decode c_C_gatherFitting 12 = .ok (.if_icmp .ge 55, 3) := by decide +kernel
theorem d_C_gatherFitting_15 : decode c_C_gatherFitting 15 = .ok (.aload_n 0, 1) := by decide +kernel
theorem d_C_gatherFitting_16 : decode c_C_gatherFitting 16 = .ok (.iload 4, 2) := by decide +kernel
theorem d_C_gatherFitting_18 : decode c_C_gatherFitting 18 = .ok (.invokevirtual 117, 3) := by decide +kernel
theorem d_C_gatherFitting_21 : decode c_C_gatherFitting 21 = .ok (.astore 5, 2) := by decide +kernel
theorem d_C_gatherFitting_23 : decode c_C_gatherFitting 23 = .ok (.aload 5, 2) := by decide +kernel
theorem d_C_gatherFitting_25 : decode c_C_gatherFitting 25 = .ok (.ifnull 36, 3) := by decide +kernel
theorem d_C_gatherFitting_61 : decode c_C_gatherFitting 61 = .ok (.iinc 4 1, 3) := by decide +kernel
theorem d_C_gatherFitting_64 : decode c_C_gatherFitting 64 = .ok (.goto (-56), 3) := by decide +kernel
theorem d_C_gatherFitting_67 : decode c_C_gatherFitting 67 = .ok (.return_, 1) := by decide +kernel
theorem d_C_heldLoan_0 : decode c_C_heldLoan 0 = .ok (.iload_n 1, 1) := by decide +kernel
theorem d_C_heldLoan_1 : decode c_C_heldLoan 1 = .ok (.iconst 1, 1) := by decide +kernel
theorem d_C_heldLoan_2 : decode c_C_heldLoan 2 = .ok (.if_icmp .lt 20, 3) := by decide +kernel
theorem d_C_heldLoan_5 : decode c_C_heldLoan 5 = .ok (.iload_n 1, 1) := by decide +kernel
theorem d_C_heldLoan_6 : decode c_C_heldLoan 6 = .ok (.aload_n 0, 1) := by decide +kernel
theorem d_C_heldLoan_7 : decode c_C_heldLoan 7 = .ok (.getfield 59, 3) := by decide +kernel
theorem d_C_heldLoan_10 : decode c_C_heldLoan 10 = .ok (.if_icmp .gt 12, 3) := by decide +kernel
theorem d_C_heldLoan_22 : decode c_C_heldLoan 22 = .ok (.aconst_null, 1) := by decide +kernel
theorem d_C_heldLoan_23 : decode c_C_heldLoan 23 = .ok (.areturn, 1) := by decide +kernel
theorem d_C_init_0 : decode c_C_init 0 = .ok (.aload_n 0, 1) := by decide +kernel
theorem d_C_init_1 : decode c_C_init 1 = .ok (.invokespecial 3, 3) := by decide +kernel
theorem d_C_init_4 : decode c_C_init 4 = .ok (.aload_n 0, 1) := by decide +kernel
theorem d_C_init_5 : decode c_C_init 5 = .ok (.new 9, 3) := by decide +kernel
theorem d_C_init_8 : decode c_C_init 8 = .ok (.dup, 1) := by decide +kernel
theorem d_C_init_9 : decode c_C_init 9 = .ok (.invokespecial 11, 3) := by decide +kernel
theorem d_C_init_12 : decode c_C_init 12 = .ok (.putfield 12, 3) := by decide +kernel
theorem d_C_init_15 : decode c_C_init 15 = .ok (.aload_n 0, 1) := by decide +kernel
theorem d_C_init_16 : decode c_C_init 16 = .ok (.bipush 40, 2) := by decide +kernel
theorem d_C_init_18 : decode c_C_init 18 = .ok (.anewarray 16, 3) := by decide +kernel
theorem d_C_init_21 : decode c_C_init 21 = .ok (.putfield 18, 3) := by decide +kernel
theorem d_C_init_24 : decode c_C_init 24 = .ok (.aload_n 0, 1) := by decide +kernel
theorem d_C_init_25 : decode c_C_init 25 = .ok (.iconst 0, 1) := by decide +kernel
theorem d_C_init_26 : decode c_C_init 26 = .ok (.putfield 22, 3) := by decide +kernel
theorem d_C_init_29 : decode c_C_init 29 = .ok (.aload_n 0, 1) := by decide +kernel
theorem d_C_init_30 : decode c_C_init 30 = .ok (.new 26, 3) := by decide +kernel
theorem d_C_init_33 : decode c_C_init 33 = .ok (.dup, 1) := by decide +kernel
theorem d_C_init_34 : decode c_C_init 34 = .ok (.invokespecial 28, 3) := by decide +kernel
theorem d_C_init_37 : decode c_C_init 37 = .ok (.putfield 29, 3) := by decide +kernel
theorem d_C_init_40 : decode c_C_init 40 = .ok (.aload_n 0, 1) := by decide +kernel
theorem d_C_init_41 : decode c_C_init 41 = .ok (.new 26, 3) := by decide +kernel
theorem d_C_init_44 : decode c_C_init 44 = .ok (.dup, 1) := by decide +kernel
theorem d_C_init_45 : decode c_C_init 45 = .ok (.invokespecial 28, 3) := by decide +kernel
theorem d_C_init_48 : decode c_C_init 48 = .ok (.putfield 33, 3) := by decide +kernel
theorem d_C_init_51 : decode c_C_init 51 = .ok (.aload_n 0, 1) := by decide +kernel
theorem d_C_init_52 : decode c_C_init 52 = .ok (.bipush 50, 2) := by decide +kernel
theorem d_C_init_54 : decode c_C_init 54 = .ok (.newarray .int, 2) := by decide +kernel
theorem d_C_init_56 : decode c_C_init 56 = .ok (.putfield 36, 3) := by decide +kernel
theorem d_C_init_59 : decode c_C_init 59 = .ok (.aload_n 0, 1) := by decide +kernel
theorem d_C_init_60 : decode c_C_init 60 = .ok (.bipush 50, 2) := by decide +kernel
theorem d_C_init_62 : decode c_C_init 62 = .ok (.newarray .int, 2) := by decide +kernel
theorem d_C_init_64 : decode c_C_init 64 = .ok (.putfield 40, 3) := by decide +kernel
theorem d_C_init_67 : decode c_C_init 67 = .ok (.aload_n 0, 1) := by decide +kernel
theorem d_C_init_68 : decode c_C_init 68 = .ok (.bipush 50, 2) := by decide +kernel
theorem d_C_init_70 : decode c_C_init 70 = .ok (.newarray .int, 2) := by decide +kernel
theorem d_C_init_72 : decode c_C_init 72 = .ok (.putfield 43, 3) := by decide +kernel
theorem d_C_init_75 : decode c_C_init 75 = .ok (.aload_n 0, 1) := by decide +kernel
theorem d_C_init_76 : decode c_C_init 76 = .ok (.bipush 50, 2) := by decide +kernel
theorem d_C_init_78 : decode c_C_init 78 = .ok (.newarray .boolean, 2) := by decide +kernel
theorem d_C_init_80 : decode c_C_init 80 = .ok (.putfield 46, 3) := by decide +kernel
theorem d_C_init_83 : decode c_C_init 83 = .ok (.aload_n 0, 1) := by decide +kernel
theorem d_C_init_84 : decode c_C_init 84 = .ok (.sipush 2000, 3) := by decide +kernel
theorem d_C_init_87 : decode c_C_init 87 = .ok (.newarray .int, 2) := by decide +kernel
theorem d_C_init_89 : decode c_C_init 89 = .ok (.putfield 50, 3) := by decide +kernel
theorem d_C_init_92 : decode c_C_init 92 = .ok (.aload_n 0, 1) := by decide +kernel
theorem d_C_init_93 : decode c_C_init 93 = .ok (.sipush 200, 3) := by decide +kernel
theorem d_C_init_96 : decode c_C_init 96 = .ok (.anewarray 53, 3) := by decide +kernel
theorem d_C_init_99 : decode c_C_init 99 = .ok (.putfield 55, 3) := by decide +kernel
theorem d_C_init_102 : decode c_C_init 102 = .ok (.aload_n 0, 1) := by decide +kernel
theorem d_C_init_103 : decode c_C_init 103 = .ok (.iconst 0, 1) := by decide +kernel
theorem d_C_init_104 : decode c_C_init 104 = .ok (.putfield 59, 3) := by decide +kernel
theorem d_C_init_107 : decode c_C_init 107 = .ok (.aload_n 0, 1) := by decide +kernel
theorem d_C_init_108 : decode c_C_init 108 = .ok (.bipush 40, 2) := by decide +kernel
theorem d_C_init_110 : decode c_C_init 110 = .ok (.newarray .int, 2) := by decide +kernel
theorem d_C_init_112 : decode c_C_init 112 = .ok (.putfield 62, 3) := by decide +kernel
theorem d_C_init_115 : decode c_C_init 115 = .ok (.aload_n 0, 1) := by decide +kernel
theorem d_C_init_116 : decode c_C_init 116 = .ok (.iconst 0, 1) := by decide +kernel
theorem d_C_init_117 : decode c_C_init 117 = .ok (.putfield 65, 3) := by decide +kernel
theorem d_C_init_120 : decode c_C_init 120 = .ok (.aload_n 0, 1) := by decide +kernel
theorem d_C_init_121 : decode c_C_init 121 = .ok (.sipush 780, 3) := by decide +kernel
theorem d_C_init_124 : decode c_C_init 124 = .ok (.newarray .int, 2) := by decide +kernel
theorem d_C_init_126 : decode c_C_init 126 = .ok (.putfield 68, 3) := by decide +kernel
theorem d_C_init_129 : decode c_C_init 129 = .ok (.aload_n 0, 1) := by decide +kernel
theorem d_C_init_130 : decode c_C_init 130 = .ok (.iconst 0, 1) := by decide +kernel
theorem d_C_init_131 : decode c_C_init 131 = .ok (.putfield 71, 3) := by decide +kernel
theorem d_C_init_134 : decode c_C_init 134 = .ok (.aload_n 0, 1) := by decide +kernel
theorem d_C_init_135 : decode c_C_init 135 = .ok (.getfield 50, 3) := by decide +kernel
theorem d_C_init_138 : decode c_C_init 138 = .ok (.iconst (-1), 1) := by decide +kernel
theorem d_C_init_139 : decode c_C_init 139 = .ok (.invokestatic 74, 3) := by decide +kernel
theorem d_C_init_142 : decode c_C_init 142 = .ok (.return_, 1) := by decide +kernel
theorem d_C_isDay_0 : decode c_C_isDay 0 = .ok (.iload_n 0, 1) := by decide +kernel
theorem d_C_isDay_1 : decode c_C_isDay 1 = .ok (.ifCond .lt 14, 3) := by decide +kernel
theorem d_C_isDay_4 : decode c_C_isDay 4 = .ok (.iload_n 0, 1) := by decide +kernel
theorem d_C_isDay_5 : decode c_C_isDay 5 = .ok (.sipush 10000, 3) := by decide +kernel
theorem d_C_isDay_8 : decode c_C_isDay 8 = .ok (.if_icmp .ge 7, 3) := by decide +kernel
theorem d_C_isDay_11 : decode c_C_isDay 11 = .ok (.iconst 1, 1) := by decide +kernel
theorem d_C_isDay_12 : decode c_C_isDay 12 = .ok (.goto 4, 3) := by decide +kernel
theorem d_C_isDay_15 : decode c_C_isDay 15 = .ok (.iconst 0, 1) := by decide +kernel
theorem d_C_isDay_16 : decode c_C_isDay 16 = .ok (.ireturn, 1) := by decide +kernel
theorem d_C_isItem_0 : decode c_C_isItem 0 = .ok (.iload_n 0, 1) := by decide +kernel
theorem d_C_isItem_1 : decode c_C_isItem 1 = .ok (.ifCond .lt 13, 3) := by decide +kernel
theorem d_C_isItem_4 : decode c_C_isItem 4 = .ok (.iload_n 0, 1) := by decide +kernel
theorem d_C_isItem_5 : decode c_C_isItem 5 = .ok (.bipush 50, 2) := by decide +kernel
theorem d_C_isItem_7 : decode c_C_isItem 7 = .ok (.if_icmp .ge 7, 3) := by decide +kernel
theorem d_C_isItem_10 : decode c_C_isItem 10 = .ok (.iconst 1, 1) := by decide +kernel
theorem d_C_isItem_11 : decode c_C_isItem 11 = .ok (.goto 4, 3) := by decide +kernel
theorem d_C_isItem_14 : decode c_C_isItem 14 = .ok (.iconst 0, 1) := by decide +kernel
theorem d_C_isItem_15 : decode c_C_isItem 15 = .ok (.ireturn, 1) := by decide +kernel
theorem d_C_isPerson_0 : decode c_C_isPerson 0 = .ok (.iload_n 0, 1) := by decide +kernel
theorem d_C_isPerson_1 : decode c_C_isPerson 1 = .ok (.ifCond .lt 13, 3) := by decide +kernel
theorem d_C_isPerson_4 : decode c_C_isPerson 4 = .ok (.iload_n 0, 1) := by decide +kernel
theorem d_C_isPerson_5 : decode c_C_isPerson 5 = .ok (.bipush 50, 2) := by decide +kernel
theorem d_C_isPerson_7 : decode c_C_isPerson 7 = .ok (.if_icmp .ge 7, 3) := by decide +kernel
theorem d_C_isPerson_10 : decode c_C_isPerson 10 = .ok (.iconst 1, 1) := by decide +kernel
theorem d_C_isPerson_11 : decode c_C_isPerson 11 = .ok (.goto 4, 3) := by decide +kernel
theorem d_C_isPerson_14 : decode c_C_isPerson 14 = .ok (.iconst 0, 1) := by decide +kernel
theorem d_C_isPerson_15 : decode c_C_isPerson 15 = .ok (.ireturn, 1) := by decide +kernel
theorem d_C_lend_0 : decode c_C_lend 0 = .ok (.iload_n 1, 1) := by decide +kernel
theorem d_C_lend_1 : decode c_C_lend 1 = .ok (.invokestatic 103, 3) := by decide +kernel
theorem d_C_lend_4 : decode c_C_lend 4 = .ok (.ifCond .eq 17, 3) := by decide +kernel
theorem d_C_lend_7 : decode c_C_lend 7 = .ok (.iload_n 2, 1) := by decide +kernel
theorem d_C_lend_8 : decode c_C_lend 8 = .ok (.invokestatic 106, 3) := by decide +kernel
theorem d_C_lend_11 : decode c_C_lend 11 = .ok (.ifCond .eq 10, 3) := by decide +kernel
theorem d_C_lend_14 : decode c_C_lend 14 = .ok (.iload_n 3, 1) := by decide +kernel
theorem d_C_lend_15 : decode c_C_lend 15 = .ok (.invokestatic 92, 3) := by decide +kernel
theorem d_C_lend_18 : decode c_C_lend 18 = .ok (.ifCond .ne 5, 3) := by decide +kernel
theorem d_C_lend_21 : decode c_C_lend 21 = .ok (.iconst 0, 1) := by decide +kernel
theorem d_C_lend_22 : decode c_C_lend 22 = .ok (.ireturn, 1) := by decide +kernel
theorem d_C_lend_23 : decode c_C_lend 23 = .ok (.aload_n 0, 1) := by decide +kernel
theorem d_C_lend_24 : decode c_C_lend 24 = .ok (.getfield 46, 3) := by decide +kernel
theorem d_C_lend_27 : decode c_C_lend 27 = .ok (.iload_n 2, 1) := by decide +kernel
theorem d_C_lend_28 : decode c_C_lend 28 = .ok (.baload, 1) := by decide +kernel
theorem d_C_lend_29 : decode c_C_lend 29 = .ok (.ifCond .ne 13, 3) := by decide +kernel
theorem d_C_lend_32 : decode c_C_lend 32 = .ok (.aload_n 0, 1) := by decide +kernel
theorem d_C_lend_33 : decode c_C_lend 33 = .ok (.getfield 59, 3) := by decide +kernel
theorem d_C_lend_36 : decode c_C_lend 36 = .ok (.sipush 200, 3) := by decide +kernel
theorem d_C_lend_39 : decode c_C_lend 39 = .ok (.if_icmp .lt 5, 3) := by decide +kernel
theorem d_C_lend_44 : decode c_C_lend 44 = .ok (.aload_n 0, 1) := by decide +kernel
theorem d_C_lend_45 : decode c_C_lend 45 = .ok (.getfield 40, 3) := by decide +kernel
theorem d_C_lend_48 : decode c_C_lend 48 = .ok (.iload_n 1, 1) := by decide +kernel
theorem d_C_lend_49 : decode c_C_lend 49 = .ok (.iaload, 1) := by decide +kernel
theorem d_C_lend_50 : decode c_C_lend 50 = .ok (.ifCond .eq 13, 3) := by decide +kernel
theorem d_C_lend_63 : decode c_C_lend 63 = .ok (.aload_n 0, 1) := by decide +kernel
theorem d_C_lend_64 : decode c_C_lend 64 = .ok (.iload_n 1, 1) := by decide +kernel
theorem d_C_lend_65 : decode c_C_lend 65 = .ok (.iload_n 2, 1) := by decide +kernel
theorem d_C_lend_66 : decode c_C_lend 66 = .ok (.iload_n 3, 1) := by decide +kernel
theorem d_C_lend_67 : decode c_C_lend 67 = .ok (.invokevirtual 109, 3) := by decide +kernel
theorem d_C_lend_70 : decode c_C_lend 70 = .ok (.aload_n 0, 1) := by decide +kernel
theorem d_C_lend_71 : decode c_C_lend 71 = .ok (.aload_n 0, 1) := by decide +kernel
theorem d_C_lend_72 : decode c_C_lend 72 = .ok (.iconst 0, 1) := by decide +kernel
theorem d_C_lend_73 : decode c_C_lend 73 = .ok (.invokevirtual 113, 3) := by decide +kernel
theorem d_C_lend_76 : decode c_C_lend 76 = .ok (.invokevirtual 117, 3) := by decide +kernel
theorem d_C_lend_79 : decode c_C_lend 79 = .ok (.astore 4, 2) := by decide +kernel
theorem d_C_lend_81 : decode c_C_lend 81 = .ok (.aload 4, 2) := by decide +kernel
theorem d_C_lend_83 : decode c_C_lend 83 = .ok (.ifnonnull 6, 3) := by decide +kernel
theorem d_C_lend_86 : decode c_C_lend 86 = .ok (.bipush (-100), 2) := by decide +kernel
theorem d_C_lend_88 : decode c_C_lend 88 = .ok (.ireturn, 1) := by decide +kernel
theorem d_C_never_0 : decode c_C_never 0 = .ok (.iconst 0, 1) := by decide +kernel
theorem d_C_never_1 : decode c_C_never 1 = .ok (.istore_n 2, 1) := by decide +kernel
theorem d_C_never_2 : decode c_C_never 2 = .ok (.iconst 0, 1) := by decide +kernel
theorem d_C_never_3 : decode c_C_never 3 = .ok (.istore_n 3, 1) := by decide +kernel
theorem d_C_never_4 : decode c_C_never 4 = .ok (.iload_n 3, 1) := by decide +kernel
theorem d_C_never_5 : decode c_C_never 5 = .ok (.bipush 40, 2) := by decide +kernel
theorem d_C_never_7 : decode c_C_never 7 = .ok (.if_icmp .ge 39, 3) := by decide +kernel
theorem d_C_never_10 : decode c_C_never 10 = .ok (.aload_n 0, 1) := by decide +kernel
theorem d_C_never_11 : decode c_C_never 11 = .ok (.iload_n 3, 1) := by decide +kernel
theorem d_C_never_12 : decode c_C_never 12 = .ok (.invokevirtual 117, 3) := by decide +kernel
theorem d_C_never_15 : decode c_C_never 15 = .ok (.astore 4, 2) := by decide +kernel
theorem d_C_never_17 : decode c_C_never 17 = .ok (.aload 4, 2) := by decide +kernel
theorem d_C_never_19 : decode c_C_never 19 = .ok (.ifnull 21, 3) := by decide +kernel
theorem d_C_never_40 : decode c_C_never 40 = .ok (.iinc 3 1, 3) := by decide +kernel
theorem d_C_never_43 : decode c_C_never 43 = .ok (.goto (-39), 3) := by decide +kernel
theorem d_C_never_46 : decode c_C_never 46 = .ok (.iconst (-1), 1) := by decide +kernel
theorem d_C_never_47 : decode c_C_never 47 = .ok (.ireturn, 1) := by decide +kernel
theorem d_C_recall_0 : decode c_C_recall 0 = .ok (.aload_n 0, 1) := by decide +kernel
theorem d_C_recall_1 : decode c_C_recall 1 = .ok (.iload_n 1, 1) := by decide +kernel
theorem d_C_recall_2 : decode c_C_recall 2 = .ok (.invokevirtual 156, 3) := by decide +kernel
theorem d_C_recall_5 : decode c_C_recall 5 = .ok (.astore_n 3, 1) := by decide +kernel
theorem d_C_recall_6 : decode c_C_recall 6 = .ok (.aload_n 3, 1) := by decide +kernel
theorem d_C_recall_7 : decode c_C_recall 7 = .ok (.ifnull 10, 3) := by decide +kernel
theorem d_C_recall_17 : decode c_C_recall 17 = .ok (.iconst 0, 1) := by decide +kernel
theorem d_C_recall_18 : decode c_C_recall 18 = .ok (.ireturn, 1) := by decide +kernel
theorem d_C_renew_0 : decode c_C_renew 0 = .ok (.aload_n 0, 1) := by decide +kernel
theorem d_C_renew_1 : decode c_C_renew 1 = .ok (.iload_n 1, 1) := by decide +kernel
theorem d_C_renew_2 : decode c_C_renew 2 = .ok (.invokevirtual 156, 3) := by decide +kernel
theorem d_C_renew_5 : decode c_C_renew 5 = .ok (.astore_n 3, 1) := by decide +kernel
theorem d_C_renew_6 : decode c_C_renew 6 = .ok (.aload_n 3, 1) := by decide +kernel
theorem d_C_renew_7 : decode c_C_renew 7 = .ok (.ifnull 10, 3) := by decide +kernel
theorem d_C_renew_17 : decode c_C_renew 17 = .ok (.iconst 0, 1) := by decide +kernel
theorem d_C_renew_18 : decode c_C_renew 18 = .ok (.ireturn, 1) := by decide +kernel
theorem d_C_row_0 : decode c_C_row 0 = .ok (.iload_n 3, 1) := by decide +kernel
theorem d_C_row_1 : decode c_C_row 1 = .ok (.ifCond .lt 9, 3) := by decide +kernel
theorem d_C_row_4 : decode c_C_row 4 = .ok (.iload_n 3, 1) := by decide +kernel
theorem d_C_row_5 : decode c_C_row 5 = .ok (.bipush 9, 2) := by decide +kernel
theorem d_C_row_7 : decode c_C_row 7 = .ok (.if_icmp .le 5, 3) := by decide +kernel
theorem d_C_row_10 : decode c_C_row 10 = .ok (.iconst 0, 1) := by decide +kernel
theorem d_C_row_11 : decode c_C_row 11 = .ok (.ireturn, 1) := by decide +kernel
theorem d_C_row_12 : decode c_C_row 12 = .ok (.iload_n 1, 1) := by decide +kernel
theorem d_C_row_13 : decode c_C_row 13 = .ok (.ifCond .ne 19, 3) := by decide +kernel
theorem d_C_row_16 : decode c_C_row 16 = .ok (.iload_n 2, 1) := by decide +kernel
theorem d_C_row_17 : decode c_C_row 17 = .ok (.invokestatic 103, 3) := by decide +kernel
theorem d_C_row_20 : decode c_C_row 20 = .ok (.ifCond .eq 12, 3) := by decide +kernel
theorem d_C_row_23 : decode c_C_row 23 = .ok (.aload_n 0, 1) := by decide +kernel
theorem d_C_row_24 : decode c_C_row 24 = .ok (.getfield 36, 3) := by decide +kernel
theorem d_C_row_27 : decode c_C_row 27 = .ok (.iload_n 2, 1) := by decide +kernel
theorem d_C_row_28 : decode c_C_row 28 = .ok (.iload_n 3, 1) := by decide +kernel
theorem d_C_row_29 : decode c_C_row 29 = .ok (.iastore, 1) := by decide +kernel
theorem d_C_row_30 : decode c_C_row 30 = .ok (.iconst 1, 1) := by decide +kernel
theorem d_C_row_31 : decode c_C_row 31 = .ok (.ireturn, 1) := by decide +kernel
theorem d_C_row_32 : decode c_C_row 32 = .ok (.iload_n 1, 1) := by decide +kernel
theorem d_C_row_33 : decode c_C_row 33 = .ok (.iconst 1, 1) := by decide +kernel
theorem d_C_row_34 : decode c_C_row 34 = .ok (.if_icmp .ne 19, 3) := by decide +kernel
theorem d_C_row_37 : decode c_C_row 37 = .ok (.iload_n 2, 1) := by decide +kernel
theorem d_C_row_38 : decode c_C_row 38 = .ok (.invokestatic 106, 3) := by decide +kernel
theorem d_C_row_41 : decode c_C_row 41 = .ok (.ifCond .eq 12, 3) := by decide +kernel
theorem d_C_row_44 : decode c_C_row 44 = .ok (.aload_n 0, 1) := by decide +kernel
theorem d_C_row_45 : decode c_C_row 45 = .ok (.getfield 43, 3) := by decide +kernel
theorem d_C_row_48 : decode c_C_row 48 = .ok (.iload_n 2, 1) := by decide +kernel
theorem d_C_row_49 : decode c_C_row 49 = .ok (.iload_n 3, 1) := by decide +kernel
theorem d_C_row_50 : decode c_C_row 50 = .ok (.iastore, 1) := by decide +kernel
theorem d_C_row_51 : decode c_C_row 51 = .ok (.iconst 1, 1) := by decide +kernel
theorem d_C_row_52 : decode c_C_row 52 = .ok (.ireturn, 1) := by decide +kernel
theorem d_C_row_53 : decode c_C_row 53 = .ok (.iconst 0, 1) := by decide +kernel
theorem d_C_row_54 : decode c_C_row 54 = .ok (.ireturn, 1) := by decide +kernel
theorem d_C_rule_0 : decode c_C_rule 0 = .ok (.new 16, 3) := by decide +kernel
theorem d_C_rule_3 : decode c_C_rule 3 = .ok (.dup, 1) := by decide +kernel
theorem d_C_rule_4 : decode c_C_rule 4 = .ok (.invokespecial 84, 3) := by decide +kernel
theorem d_C_rule_7 : decode c_C_rule 7 = .ok (.astore_n 1, 1) := by decide +kernel
theorem d_C_rule_8 : decode c_C_rule 8 = .ok (.aload_n 0, 1) := by decide +kernel
theorem d_C_rule_9 : decode c_C_rule 9 = .ok (.getfield 12, 3) := by decide +kernel
theorem d_C_rule_12 : decode c_C_rule 12 = .ok (.aload_n 1, 1) := by decide +kernel
theorem d_C_rule_13 : decode c_C_rule 13 = .ok (.invokevirtual 85, 3) := by decide +kernel
theorem d_C_rule_16 : decode c_C_rule 16 = .ok (.istore_n 2, 1) := by decide +kernel
theorem d_C_rule_17 : decode c_C_rule 17 = .ok (.aload_n 0, 1) := by decide +kernel
theorem d_C_rule_18 : decode c_C_rule 18 = .ok (.getfield 12, 3) := by decide +kernel
theorem d_C_rule_21 : decode c_C_rule 21 = .ok (.invokevirtual 89, 3) := by decide +kernel
theorem d_C_rule_24 : decode c_C_rule 24 = .ok (.iload_n 2, 1) := by decide +kernel
theorem d_C_rule_25 : decode c_C_rule 25 = .ok (.iconst (-1), 1) := by decide +kernel
theorem d_C_rule_26 : decode c_C_rule 26 = .ok (.if_icmp .eq 7, 3) := by decide +kernel
theorem d_C_rule_29 : decode c_C_rule 29 = .ok (.iconst (-1), 1) := by decide +kernel
theorem d_C_rule_30 : decode c_C_rule 30 = .ok (.iload_n 2, 1) := by decide +kernel
theorem d_C_rule_31 : decode c_C_rule 31 = .ok (.isub, 1) := by decide +kernel
theorem d_C_rule_32 : decode c_C_rule 32 = .ok (.ireturn, 1) := by decide +kernel
theorem d_C_ruleAt_0 : decode c_C_ruleAt 0 = .ok (.iload_n 1, 1) := by decide +kernel
theorem d_C_ruleAt_1 : decode c_C_ruleAt 1 = .ok (.ifCond .lt 29, 3) := by decide +kernel
theorem d_C_ruleAt_4 : decode c_C_ruleAt 4 = .ok (.iload_n 1, 1) := by decide +kernel
theorem d_C_ruleAt_5 : decode c_C_ruleAt 5 = .ok (.aload_n 0, 1) := by decide +kernel
theorem d_C_ruleAt_6 : decode c_C_ruleAt 6 = .ok (.getfield 22, 3) := by decide +kernel
theorem d_C_ruleAt_9 : decode c_C_ruleAt 9 = .ok (.if_icmp .ge 21, 3) := by decide +kernel
theorem d_C_ruleAt_30 : decode c_C_ruleAt 30 = .ok (.aconst_null, 1) := by decide +kernel
theorem d_C_ruleAt_31 : decode c_C_ruleAt 31 = .ok (.areturn, 1) := by decide +kernel
theorem d_C_sign_0 : decode c_C_sign 0 = .ok (.aload_n 0, 1) := by decide +kernel
theorem d_C_sign_1 : decode c_C_sign 1 = .ok (.getfield 12, 3) := by decide +kernel
theorem d_C_sign_4 : decode c_C_sign 4 = .ok (.iload_n 1, 1) := by decide +kernel
theorem d_C_sign_5 : decode c_C_sign 5 = .ok (.invokevirtual 80, 3) := by decide +kernel
theorem d_C_sign_8 : decode c_C_sign 8 = .ok (.return_, 1) := by decide +kernel
theorem d_C_term_0 : decode c_C_term 0 = .ok (.iload_n 1, 1) := by decide +kernel
theorem d_C_term_1 : decode c_C_term 1 = .ok (.invokestatic 92, 3) := by decide +kernel
theorem d_C_term_4 : decode c_C_term 4 = .ok (.ifCond .eq 14, 3) := by decide +kernel
theorem d_C_term_7 : decode c_C_term 7 = .ok (.aload_n 0, 1) := by decide +kernel
theorem d_C_term_8 : decode c_C_term 8 = .ok (.getfield 33, 3) := by decide +kernel
theorem d_C_term_11 : decode c_C_term 11 = .ok (.iload_n 1, 1) := by decide +kernel
theorem d_C_term_12 : decode c_C_term 12 = .ok (.invokevirtual 96, 3) := by decide +kernel
theorem d_C_term_15 : decode c_C_term 15 = .ok (.ifCond .eq 5, 3) := by decide +kernel
theorem d_C_term_18 : decode c_C_term 18 = .ok (.iconst 0, 1) := by decide +kernel
theorem d_C_term_19 : decode c_C_term 19 = .ok (.ireturn, 1) := by decide +kernel
theorem d_C_term_20 : decode c_C_term 20 = .ok (.aload_n 0, 1) := by decide +kernel
theorem d_C_term_21 : decode c_C_term 21 = .ok (.getfield 33, 3) := by decide +kernel
theorem d_C_term_24 : decode c_C_term 24 = .ok (.iload_n 1, 1) := by decide +kernel
theorem d_C_term_25 : decode c_C_term 25 = .ok (.iconst 1, 1) := by decide +kernel
theorem d_C_term_26 : decode c_C_term 26 = .ok (.invokevirtual 99, 3) := by decide +kernel
theorem d_C_term_29 : decode c_C_term 29 = .ok (.iconst 1, 1) := by decide +kernel
theorem d_C_term_30 : decode c_C_term 30 = .ok (.ireturn, 1) := by decide +kernel
theorem d_C_throwsUp_0 : decode c_C_throwsUp 0 = .ok (.aload_n 0, 1) := by decide +kernel
theorem d_C_throwsUp_1 : decode c_C_throwsUp 1 = .ok (.iload_n 1, 1) := by decide +kernel
theorem d_C_throwsUp_2 : decode c_C_throwsUp 2 = .ok (.invokevirtual 117, 3) := by decide +kernel
theorem d_C_throwsUp_5 : decode c_C_throwsUp 5 = .ok (.astore_n 3, 1) := by decide +kernel
theorem d_C_throwsUp_6 : decode c_C_throwsUp 6 = .ok (.aload_n 3, 1) := by decide +kernel
theorem d_C_throwsUp_7 : decode c_C_throwsUp 7 = .ok (.ifnull 11, 3) := by decide +kernel
theorem d_C_throwsUp_18 : decode c_C_throwsUp 18 = .ok (.iconst 0, 1) := by decide +kernel
theorem d_C_throwsUp_19 : decode c_C_throwsUp 19 = .ok (.ireturn, 1) := by decide +kernel
theorem d_D_holds_0 : decode c_D_holds 0 = .ok (.iload_n 1, 1) := by decide +kernel
theorem d_D_holds_1 : decode c_D_holds 1 = .ok (.invokestatic 15, 3) := by decide +kernel
theorem d_D_holds_4 : decode c_D_holds 4 = .ok (.ifCond .eq 28, 3) := by decide +kernel
theorem d_D_holds_7 : decode c_D_holds 7 = .ok (.aload_n 0, 1) := by decide +kernel
theorem d_D_holds_8 : decode c_D_holds 8 = .ok (.getfield 11, 3) := by decide +kernel
theorem d_D_holds_11 : decode c_D_holds 11 = .ok (.iload_n 1, 1) := by decide +kernel
theorem d_D_holds_12 : decode c_D_holds 12 = .ok (.bipush 64, 2) := by decide +kernel
theorem d_D_holds_14 : decode c_D_holds 14 = .ok (.idiv, 1) := by decide +kernel
theorem d_D_holds_15 : decode c_D_holds 15 = .ok (.laload, 1) := by decide +kernel
theorem d_D_holds_16 : decode c_D_holds 16 = .ok (.iload_n 1, 1) := by decide +kernel
theorem d_D_holds_17 : decode c_D_holds 17 = .ok (.bipush 64, 2) := by decide +kernel
theorem d_D_holds_19 : decode c_D_holds 19 = .ok (.irem, 1) := by decide +kernel
theorem d_D_holds_20 : decode c_D_holds 20 = .ok (.lushr, 1) := by decide +kernel
theorem d_D_holds_21 : decode c_D_holds 21 = .ok (.lconst 1, 1) := by decide +kernel
theorem d_D_holds_22 : decode c_D_holds 22 = .ok (.land, 1) := by decide +kernel
theorem d_D_holds_23 : decode c_D_holds 23 = .ok (.lconst 0, 1) := by decide +kernel
theorem d_D_holds_24 : decode c_D_holds 24 = .ok (.lcmp, 1) := by decide +kernel
theorem d_D_holds_25 : decode c_D_holds 25 = .ok (.ifCond .eq 7, 3) := by decide +kernel
theorem d_D_holds_32 : decode c_D_holds 32 = .ok (.iconst 0, 1) := by decide +kernel
theorem d_D_holds_33 : decode c_D_holds 33 = .ok (.ireturn, 1) := by decide +kernel
theorem d_D_init_0 : decode c_D_init 0 = .ok (.aload_n 0, 1) := by decide +kernel
theorem d_D_init_1 : decode c_D_init 1 = .ok (.invokespecial 5, 3) := by decide +kernel
theorem d_D_init_4 : decode c_D_init 4 = .ok (.aload_n 0, 1) := by decide +kernel
theorem d_D_init_5 : decode c_D_init 5 = .ok (.sipush 157, 3) := by decide +kernel
theorem d_D_init_8 : decode c_D_init 8 = .ok (.newarray .long, 2) := by decide +kernel
theorem d_D_init_10 : decode c_D_init 10 = .ok (.putfield 11, 3) := by decide +kernel
theorem d_D_init_13 : decode c_D_init 13 = .ok (.return_, 1) := by decide +kernel
theorem d_D_put_0 : decode c_D_put 0 = .ok (.iload_n 1, 1) := by decide +kernel
theorem d_D_put_1 : decode c_D_put 1 = .ok (.invokestatic 15, 3) := by decide +kernel
theorem d_D_put_4 : decode c_D_put 4 = .ok (.ifCond .ne 4, 3) := by decide +kernel
theorem d_D_put_7 : decode c_D_put 7 = .ok (.return_, 1) := by decide +kernel
theorem d_D_put_8 : decode c_D_put 8 = .ok (.lconst 1, 1) := by decide +kernel
theorem d_D_put_9 : decode c_D_put 9 = .ok (.iload_n 1, 1) := by decide +kernel
theorem d_D_put_10 : decode c_D_put 10 = .ok (.bipush 64, 2) := by decide +kernel
theorem d_D_put_12 : decode c_D_put 12 = .ok (.irem, 1) := by decide +kernel
theorem d_D_put_13 : decode c_D_put 13 = .ok (.lshl, 1) := by decide +kernel
theorem d_D_put_14 : decode c_D_put 14 = .ok (.lstore_n 3, 1) := by decide +kernel
theorem d_D_put_15 : decode c_D_put 15 = .ok (.iload_n 2, 1) := by decide +kernel
theorem d_D_put_16 : decode c_D_put 16 = .ok (.ifCond .eq 19, 3) := by decide +kernel
theorem d_D_put_19 : decode c_D_put 19 = .ok (.aload_n 0, 1) := by decide +kernel
theorem d_D_put_20 : decode c_D_put 20 = .ok (.getfield 11, 3) := by decide +kernel
theorem d_D_put_23 : decode c_D_put 23 = .ok (.iload_n 1, 1) := by decide +kernel
theorem d_D_put_24 : decode c_D_put 24 = .ok (.bipush 64, 2) := by decide +kernel
theorem d_D_put_26 : decode c_D_put 26 = .ok (.idiv, 1) := by decide +kernel
theorem d_D_put_27 : decode c_D_put 27 = .ok (.dup2, 1) := by decide +kernel
theorem d_D_put_28 : decode c_D_put 28 = .ok (.laload, 1) := by decide +kernel
theorem d_D_put_29 : decode c_D_put 29 = .ok (.lload_n 3, 1) := by decide +kernel
theorem d_D_put_30 : decode c_D_put 30 = .ok (.lor, 1) := by decide +kernel
theorem d_D_put_31 : decode c_D_put 31 = .ok (.lastore, 1) := by decide +kernel
theorem d_D_put_32 : decode c_D_put 32 = .ok (.goto 20, 3) := by decide +kernel
theorem d_D_put_35 : decode c_D_put 35 = .ok (.aload_n 0, 1) := by decide +kernel
theorem d_D_put_36 : decode c_D_put 36 = .ok (.getfield 11, 3) := by decide +kernel
theorem d_D_put_39 : decode c_D_put 39 = .ok (.iload_n 1, 1) := by decide +kernel
theorem d_D_put_40 : decode c_D_put 40 = .ok (.bipush 64, 2) := by decide +kernel
theorem d_D_put_42 : decode c_D_put 42 = .ok (.idiv, 1) := by decide +kernel
theorem d_D_put_43 : decode c_D_put 43 = .ok (.dup2, 1) := by decide +kernel
theorem d_D_put_44 : decode c_D_put 44 = .ok (.laload, 1) := by decide +kernel
theorem d_D_put_45 : decode c_D_put 45 = .ok (.lload_n 3, 1) := by decide +kernel
theorem d_D_put_46 : decode c_D_put 46 = .ok (.ldc2_w 19, 3) := by decide +kernel
theorem d_D_put_49 : decode c_D_put 49 = .ok (.lxor, 1) := by decide +kernel
theorem d_D_put_50 : decode c_D_put 50 = .ok (.land, 1) := by decide +kernel
theorem d_D_put_51 : decode c_D_put 51 = .ok (.lastore, 1) := by decide +kernel
theorem d_D_put_52 : decode c_D_put 52 = .ok (.return_, 1) := by decide +kernel
theorem d_M_back_0 : decode c_M_back 0 = .ok (.aload_n 0, 1) := by decide +kernel
theorem d_M_back_1 : decode c_M_back 1 = .ok (.iconst 0, 1) := by decide +kernel
theorem d_M_back_2 : decode c_M_back 2 = .ok (.putfield 54, 3) := by decide +kernel
theorem d_M_back_5 : decode c_M_back 5 = .ok (.aload_n 0, 1) := by decide +kernel
theorem d_M_back_6 : decode c_M_back 6 = .ok (.iload_n 1, 1) := by decide +kernel
theorem d_M_back_7 : decode c_M_back 7 = .ok (.invokevirtual 172, 3) := by decide +kernel
theorem d_M_back_10 : decode c_M_back 10 = .ok (.ifCond .ne 5, 3) := by decide +kernel
theorem d_M_back_13 : decode c_M_back 13 = .ok (.iconst 0, 1) := by decide +kernel
theorem d_M_back_14 : decode c_M_back 14 = .ok (.ireturn, 1) := by decide +kernel
theorem d_M_bad_0 : decode c_M_bad 0 = .ok (.aload_n 0, 1) := by decide +kernel
theorem d_M_bad_1 : decode c_M_bad 1 = .ok (.iload_n 1, 1) := by decide +kernel
theorem d_M_bad_2 : decode c_M_bad 2 = .ok (.putfield 61, 3) := by decide +kernel
theorem d_M_bad_5 : decode c_M_bad 5 = .ok (.iconst 0, 1) := by decide +kernel
theorem d_M_bad_6 : decode c_M_bad 6 = .ok (.ireturn, 1) := by decide +kernel
theorem d_M_block_0 : decode c_M_block 0 = .ok (.aload_n 0, 1) := by decide +kernel
theorem d_M_block_1 : decode c_M_block 1 = .ok (.iconst 0, 1) := by decide +kernel
theorem d_M_block_2 : decode c_M_block 2 = .ok (.putfield 54, 3) := by decide +kernel
theorem d_M_block_5 : decode c_M_block 5 = .ok (.iload_n 1, 1) := by decide +kernel
theorem d_M_block_6 : decode c_M_block 6 = .ok (.invokestatic 143, 3) := by decide +kernel
theorem d_M_block_9 : decode c_M_block 9 = .ok (.ifCond .eq 13, 3) := by decide +kernel
theorem d_M_block_12 : decode c_M_block 12 = .ok (.iload_n 2, 1) := by decide +kernel
theorem d_M_block_13 : decode c_M_block 13 = .ok (.ifCond .lt 9, 3) := by decide +kernel
theorem d_M_block_16 : decode c_M_block 16 = .ok (.iload_n 2, 1) := by decide +kernel
theorem d_M_block_17 : decode c_M_block 17 = .ok (.bipush 9, 2) := by decide +kernel
theorem d_M_block_19 : decode c_M_block 19 = .ok (.if_icmp .le 5, 3) := by decide +kernel
theorem d_M_block_22 : decode c_M_block 22 = .ok (.iconst (-1), 1) := by decide +kernel
theorem d_M_block_23 : decode c_M_block 23 = .ok (.ireturn, 1) := by decide +kernel
theorem d_M_block_24 : decode c_M_block 24 = .ok (.aload_n 0, 1) := by decide +kernel
theorem d_M_block_25 : decode c_M_block 25 = .ok (.getfield 36, 3) := by decide +kernel
theorem d_M_block_28 : decode c_M_block 28 = .ok (.iload_n 1, 1) := by decide +kernel
theorem d_M_block_29 : decode c_M_block 29 = .ok (.iaload, 1) := by decide +kernel
theorem d_M_block_30 : decode c_M_block 30 = .ok (.istore_n 3, 1) := by decide +kernel
theorem d_M_block_31 : decode c_M_block 31 = .ok (.aload_n 0, 1) := by decide +kernel
theorem d_M_block_32 : decode c_M_block 32 = .ok (.getfield 36, 3) := by decide +kernel
theorem d_M_block_35 : decode c_M_block 35 = .ok (.iload_n 1, 1) := by decide +kernel
theorem d_M_block_36 : decode c_M_block 36 = .ok (.iload_n 2, 1) := by decide +kernel
theorem d_M_block_37 : decode c_M_block 37 = .ok (.iastore, 1) := by decide +kernel
theorem d_M_block_38 : decode c_M_block 38 = .ok (.iload_n 3, 1) := by decide +kernel
theorem d_M_block_39 : decode c_M_block 39 = .ok (.ireturn, 1) := by decide +kernel
theorem d_M_clash_0 : decode c_M_clash 0 = .ok (.aload_n 0, 1) := by decide +kernel
theorem d_M_clash_1 : decode c_M_clash 1 = .ok (.iconst 0, 1) := by decide +kernel
theorem d_M_clash_2 : decode c_M_clash 2 = .ok (.putfield 54, 3) := by decide +kernel
theorem d_M_clash_5 : decode c_M_clash 5 = .ok (.iload_n 1, 1) := by decide +kernel
theorem d_M_clash_6 : decode c_M_clash 6 = .ok (.ifCond .lt 20, 3) := by decide +kernel
theorem d_M_clash_9 : decode c_M_clash 9 = .ok (.iload_n 1, 1) := by decide +kernel
theorem d_M_clash_10 : decode c_M_clash 10 = .ok (.aload_n 0, 1) := by decide +kernel
theorem d_M_clash_11 : decode c_M_clash 11 = .ok (.getfield 156, 3) := by decide +kernel
theorem d_M_clash_14 : decode c_M_clash 14 = .ok (.if_icmp .ge 12, 3) := by decide +kernel
theorem d_M_clash_26 : decode c_M_clash 26 = .ok (.iconst (-1), 1) := by decide +kernel
theorem d_M_clash_27 : decode c_M_clash 27 = .ok (.goto 13, 3) := by decide +kernel
theorem d_M_clash_40 : decode c_M_clash 40 = .ok (.ireturn, 1) := by decide +kernel
theorem d_M_closed_0 : decode c_M_closed 0 = .ok (.aload_n 0, 1) := by decide +kernel
theorem d_M_closed_1 : decode c_M_closed 1 = .ok (.iconst 0, 1) := by decide +kernel
theorem d_M_closed_2 : decode c_M_closed 2 = .ok (.putfield 54, 3) := by decide +kernel
theorem d_M_closed_5 : decode c_M_closed 5 = .ok (.iload_n 1, 1) := by decide +kernel
theorem d_M_closed_6 : decode c_M_closed 6 = .ok (.invokestatic 137, 3) := by decide +kernel
theorem d_M_closed_9 : decode c_M_closed 9 = .ok (.ifCond .ne 5, 3) := by decide +kernel
theorem d_M_closed_12 : decode c_M_closed 12 = .ok (.iconst 0, 1) := by decide +kernel
theorem d_M_closed_13 : decode c_M_closed 13 = .ok (.ireturn, 1) := by decide +kernel
theorem d_M_closed_14 : decode c_M_closed 14 = .ok (.aload_n 0, 1) := by decide +kernel
theorem d_M_closed_15 : decode c_M_closed 15 = .ok (.getfield 24, 3) := by decide +kernel
theorem d_M_closed_18 : decode c_M_closed 18 = .ok (.iload_n 1, 1) := by decide +kernel
theorem d_M_closed_19 : decode c_M_closed 19 = .ok (.baload, 1) := by decide +kernel
theorem d_M_closed_20 : decode c_M_closed 20 = .ok (.istore_n 3, 1) := by decide +kernel
theorem d_M_closed_21 : decode c_M_closed 21 = .ok (.aload_n 0, 1) := by decide +kernel
theorem d_M_closed_22 : decode c_M_closed 22 = .ok (.getfield 24, 3) := by decide +kernel
theorem d_M_closed_25 : decode c_M_closed 25 = .ok (.iload_n 1, 1) := by decide +kernel
theorem d_M_closed_26 : decode c_M_closed 26 = .ok (.iload_n 2, 1) := by decide +kernel
theorem d_M_closed_27 : decode c_M_closed 27 = .ok (.bastore, 1) := by decide +kernel
theorem d_M_closed_28 : decode c_M_closed 28 = .ok (.iload_n 3, 1) := by decide +kernel
theorem d_M_closed_29 : decode c_M_closed 29 = .ok (.ireturn, 1) := by decide +kernel
theorem d_M_due_0 : decode c_M_due 0 = .ok (.aload_n 0, 1) := by decide +kernel
theorem d_M_due_1 : decode c_M_due 1 = .ok (.iconst 0, 1) := by decide +kernel
theorem d_M_due_2 : decode c_M_due 2 = .ok (.putfield 54, 3) := by decide +kernel
theorem d_M_due_5 : decode c_M_due 5 = .ok (.aload_n 0, 1) := by decide +kernel
theorem d_M_due_6 : decode c_M_due 6 = .ok (.iload_n 1, 1) := by decide +kernel
theorem d_M_due_7 : decode c_M_due 7 = .ok (.invokevirtual 172, 3) := by decide +kernel
theorem d_M_due_10 : decode c_M_due 10 = .ok (.ifCond .eq 17, 3) := by decide +kernel
theorem d_M_due_27 : decode c_M_due 27 = .ok (.iconst (-1), 1) := by decide +kernel
theorem d_M_due_28 : decode c_M_due 28 = .ok (.ireturn, 1) := by decide +kernel
theorem d_M_except_0 : decode c_M_except 0 = .ok (.aload_n 0, 1) := by decide +kernel
theorem d_M_except_1 : decode c_M_except 1 = .ok (.iconst 0, 1) := by decide +kernel
theorem d_M_except_2 : decode c_M_except 2 = .ok (.putfield 54, 3) := by decide +kernel
theorem d_M_except_5 : decode c_M_except 5 = .ok (.iload_n 1, 1) := by decide +kernel
theorem d_M_except_6 : decode c_M_except 6 = .ok (.invokestatic 143, 3) := by decide +kernel
theorem d_M_except_9 : decode c_M_except 9 = .ok (.ifCond .eq 11, 3) := by decide +kernel
theorem d_M_except_12 : decode c_M_except 12 = .ok (.aload_n 0, 1) := by decide +kernel
theorem d_M_except_13 : decode c_M_except 13 = .ok (.iload_n 2, 1) := by decide +kernel
theorem d_M_except_14 : decode c_M_except 14 = .ok (.invokevirtual 146, 3) := by decide +kernel
theorem d_M_except_17 : decode c_M_except 17 = .ok (.ifCond .ne 5, 3) := by decide +kernel
theorem d_M_except_20 : decode c_M_except 20 = .ok (.iconst 0, 1) := by decide +kernel
theorem d_M_except_21 : decode c_M_except 21 = .ok (.ireturn, 1) := by decide +kernel
theorem d_M_explain_0 : decode c_M_explain 0 = .ok (.aload_n 0, 1) := by decide +kernel
theorem d_M_explain_1 : decode c_M_explain 1 = .ok (.iconst 0, 1) := by decide +kernel
theorem d_M_explain_2 : decode c_M_explain 2 = .ok (.putfield 54, 3) := by decide +kernel
theorem d_M_explain_5 : decode c_M_explain 5 = .ok (.iload_n 1, 1) := by decide +kernel
theorem d_M_explain_6 : decode c_M_explain 6 = .ok (.ifCond .lt 11, 3) := by decide +kernel
theorem d_M_explain_9 : decode c_M_explain 9 = .ok (.iload_n 1, 1) := by decide +kernel
theorem d_M_explain_10 : decode c_M_explain 10 = .ok (.aload_n 0, 1) := by decide +kernel
theorem d_M_explain_11 : decode c_M_explain 11 = .ok (.getfield 149, 3) := by decide +kernel
theorem d_M_explain_14 : decode c_M_explain 14 = .ok (.if_icmp .lt 7, 3) := by decide +kernel
theorem d_M_explain_17 : decode c_M_explain 17 = .ok (.iconst (-1), 1) := by decide +kernel
theorem d_M_explain_18 : decode c_M_explain 18 = .ok (.goto 9, 3) := by decide +kernel
theorem d_M_explain_27 : decode c_M_explain 27 = .ok (.ireturn, 1) := by decide +kernel
theorem d_M_find_0 : decode c_M_find 0 = .ok (.aload_n 0, 1) := by decide +kernel
theorem d_M_find_1 : decode c_M_find 1 = .ok (.iconst 0, 1) := by decide +kernel
theorem d_M_find_2 : decode c_M_find 2 = .ok (.putfield 149, 3) := by decide +kernel
theorem d_M_find_5 : decode c_M_find 5 = .ok (.iconst 0, 1) := by decide +kernel
theorem d_M_find_6 : decode c_M_find 6 = .ok (.istore 4, 2) := by decide +kernel
theorem d_M_find_8 : decode c_M_find 8 = .ok (.iload 4, 2) := by decide +kernel
theorem d_M_find_10 : decode c_M_find 10 = .ok (.aload_n 0, 1) := by decide +kernel
theorem d_M_find_11 : decode c_M_find 11 = .ok (.getfield 88, 3) := by decide +kernel
theorem d_M_find_14 : decode c_M_find 14 = .ok (.if_icmp .ge 109, 3) := by decide +kernel
theorem d_M_find_123 : decode c_M_find 123 = .ok (.return_, 1) := by decide +kernel
theorem d_M_init_0 : decode c_M_init 0 = .ok (.aload_n 0, 1) := by decide +kernel
theorem d_M_init_1 : decode c_M_init 1 = .ok (.invokespecial 1, 3) := by decide +kernel
theorem d_M_init_4 : decode c_M_init 4 = .ok (.aload_n 0, 1) := by decide +kernel
theorem d_M_init_5 : decode c_M_init 5 = .ok (.bipush 120, 2) := by decide +kernel
theorem d_M_init_7 : decode c_M_init 7 = .ok (.newarray .byte, 2) := by decide +kernel
theorem d_M_init_9 : decode c_M_init 9 = .ok (.putfield 7, 3) := by decide +kernel
theorem d_M_init_12 : decode c_M_init 12 = .ok (.aload_n 0, 1) := by decide +kernel
theorem d_M_init_13 : decode c_M_init 13 = .ok (.sipush 410, 3) := by decide +kernel
theorem d_M_init_16 : decode c_M_init 16 = .ok (.newarray .int, 2) := by decide +kernel
theorem d_M_init_18 : decode c_M_init 18 = .ok (.putfield 13, 3) := by decide +kernel
theorem d_M_init_21 : decode c_M_init 21 = .ok (.aload_n 0, 1) := by decide +kernel
theorem d_M_init_22 : decode c_M_init 22 = .ok (.bipush 40, 2) := by decide +kernel
theorem d_M_init_24 : decode c_M_init 24 = .ok (.newarray .boolean, 2) := by decide +kernel
theorem d_M_init_26 : decode c_M_init 26 = .ok (.putfield 17, 3) := by decide +kernel
theorem d_M_init_29 : decode c_M_init 29 = .ok (.aload_n 0, 1) := by decide +kernel
theorem d_M_init_30 : decode c_M_init 30 = .ok (.bipush 40, 2) := by decide +kernel
theorem d_M_init_32 : decode c_M_init 32 = .ok (.newarray .boolean, 2) := by decide +kernel
theorem d_M_init_34 : decode c_M_init 34 = .ok (.putfield 21, 3) := by decide +kernel
theorem d_M_init_37 : decode c_M_init 37 = .ok (.aload_n 0, 1) := by decide +kernel
theorem d_M_init_38 : decode c_M_init 38 = .ok (.sipush 10000, 3) := by decide +kernel
theorem d_M_init_41 : decode c_M_init 41 = .ok (.newarray .boolean, 2) := by decide +kernel
theorem d_M_init_43 : decode c_M_init 43 = .ok (.putfield 24, 3) := by decide +kernel
theorem d_M_init_46 : decode c_M_init 46 = .ok (.aload_n 0, 1) := by decide +kernel
theorem d_M_init_47 : decode c_M_init 47 = .ok (.sipush 10000, 3) := by decide +kernel
theorem d_M_init_50 : decode c_M_init 50 = .ok (.newarray .boolean, 2) := by decide +kernel
theorem d_M_init_52 : decode c_M_init 52 = .ok (.putfield 27, 3) := by decide +kernel
theorem d_M_init_55 : decode c_M_init 55 = .ok (.aload_n 0, 1) := by decide +kernel
theorem d_M_init_56 : decode c_M_init 56 = .ok (.bipush 50, 2) := by decide +kernel
theorem d_M_init_58 : decode c_M_init 58 = .ok (.newarray .int, 2) := by decide +kernel
theorem d_M_init_60 : decode c_M_init 60 = .ok (.putfield 30, 3) := by decide +kernel
theorem d_M_init_63 : decode c_M_init 63 = .ok (.aload_n 0, 1) := by decide +kernel
theorem d_M_init_64 : decode c_M_init 64 = .ok (.bipush 50, 2) := by decide +kernel
theorem d_M_init_66 : decode c_M_init 66 = .ok (.newarray .int, 2) := by decide +kernel
theorem d_M_init_68 : decode c_M_init 68 = .ok (.putfield 33, 3) := by decide +kernel
theorem d_M_init_71 : decode c_M_init 71 = .ok (.aload_n 0, 1) := by decide +kernel
theorem d_M_init_72 : decode c_M_init 72 = .ok (.bipush 50, 2) := by decide +kernel
theorem d_M_init_74 : decode c_M_init 74 = .ok (.newarray .int, 2) := by decide +kernel
theorem d_M_init_76 : decode c_M_init 76 = .ok (.putfield 36, 3) := by decide +kernel
theorem d_M_init_79 : decode c_M_init 79 = .ok (.aload_n 0, 1) := by decide +kernel
theorem d_M_init_80 : decode c_M_init 80 = .ok (.sipush 2000, 3) := by decide +kernel
theorem d_M_init_83 : decode c_M_init 83 = .ok (.newarray .int, 2) := by decide +kernel
theorem d_M_init_85 : decode c_M_init 85 = .ok (.putfield 39, 3) := by decide +kernel
theorem d_M_init_88 : decode c_M_init 88 = .ok (.aload_n 0, 1) := by decide +kernel
theorem d_M_init_89 : decode c_M_init 89 = .ok (.sipush 1407, 3) := by decide +kernel
theorem d_M_init_92 : decode c_M_init 92 = .ok (.newarray .int, 2) := by decide +kernel
theorem d_M_init_94 : decode c_M_init 94 = .ok (.putfield 42, 3) := by decide +kernel
theorem d_M_init_97 : decode c_M_init 97 = .ok (.aload_n 0, 1) := by decide +kernel
theorem d_M_init_98 : decode c_M_init 98 = .ok (.bipush 50, 2) := by decide +kernel
theorem d_M_init_100 : decode c_M_init 100 = .ok (.newarray .int, 2) := by decide +kernel
theorem d_M_init_102 : decode c_M_init 102 = .ok (.putfield 45, 3) := by decide +kernel
theorem d_M_init_105 : decode c_M_init 105 = .ok (.aload_n 0, 1) := by decide +kernel
theorem d_M_init_106 : decode c_M_init 106 = .ok (.bipush 40, 2) := by decide +kernel
theorem d_M_init_108 : decode c_M_init 108 = .ok (.newarray .int, 2) := by decide +kernel
theorem d_M_init_110 : decode c_M_init 110 = .ok (.putfield 48, 3) := by decide +kernel
theorem d_M_init_113 : decode c_M_init 113 = .ok (.aload_n 0, 1) := by decide +kernel
theorem d_M_init_114 : decode c_M_init 114 = .ok (.sipush 1600, 3) := by decide +kernel
theorem d_M_init_117 : decode c_M_init 117 = .ok (.newarray .int, 2) := by decide +kernel
theorem d_M_init_119 : decode c_M_init 119 = .ok (.putfield 51, 3) := by decide +kernel
theorem d_M_init_122 : decode c_M_init 122 = .ok (.return_, 1) := by decide +kernel
theorem d_M_isDay_0 : decode c_M_isDay 0 = .ok (.iload_n 0, 1) := by decide +kernel
theorem d_M_isDay_1 : decode c_M_isDay 1 = .ok (.ifCond .lt 14, 3) := by decide +kernel
theorem d_M_isDay_4 : decode c_M_isDay 4 = .ok (.iload_n 0, 1) := by decide +kernel
theorem d_M_isDay_5 : decode c_M_isDay 5 = .ok (.sipush 10000, 3) := by decide +kernel
theorem d_M_isDay_8 : decode c_M_isDay 8 = .ok (.if_icmp .ge 7, 3) := by decide +kernel
theorem d_M_isDay_11 : decode c_M_isDay 11 = .ok (.iconst 1, 1) := by decide +kernel
theorem d_M_isDay_12 : decode c_M_isDay 12 = .ok (.goto 4, 3) := by decide +kernel
theorem d_M_isDay_15 : decode c_M_isDay 15 = .ok (.iconst 0, 1) := by decide +kernel
theorem d_M_isDay_16 : decode c_M_isDay 16 = .ok (.ireturn, 1) := by decide +kernel
theorem d_M_isOut_0 : decode c_M_isOut 0 = .ok (.iload_n 1, 1) := by decide +kernel
theorem d_M_isOut_1 : decode c_M_isOut 1 = .ok (.ifCond .le 30, 3) := by decide +kernel
theorem d_M_isOut_4 : decode c_M_isOut 4 = .ok (.iload_n 1, 1) := by decide +kernel
theorem d_M_isOut_5 : decode c_M_isOut 5 = .ok (.aload_n 0, 1) := by decide +kernel
theorem d_M_isOut_6 : decode c_M_isOut 6 = .ok (.getfield 159, 3) := by decide +kernel
theorem d_M_isOut_9 : decode c_M_isOut 9 = .ok (.if_icmp .gt 22, 3) := by decide +kernel
theorem d_M_isOut_31 : decode c_M_isOut 31 = .ok (.iconst 0, 1) := by decide +kernel
theorem d_M_isOut_32 : decode c_M_isOut 32 = .ok (.ireturn, 1) := by decide +kernel
theorem d_M_isPerson_0 : decode c_M_isPerson 0 = .ok (.iload_n 0, 1) := by decide +kernel
theorem d_M_isPerson_1 : decode c_M_isPerson 1 = .ok (.ifCond .lt 13, 3) := by decide +kernel
theorem d_M_isPerson_4 : decode c_M_isPerson 4 = .ok (.iload_n 0, 1) := by decide +kernel
theorem d_M_isPerson_5 : decode c_M_isPerson 5 = .ok (.bipush 50, 2) := by decide +kernel
theorem d_M_isPerson_7 : decode c_M_isPerson 7 = .ok (.if_icmp .ge 7, 3) := by decide +kernel
theorem d_M_isPerson_10 : decode c_M_isPerson 10 = .ok (.iconst 1, 1) := by decide +kernel
theorem d_M_isPerson_11 : decode c_M_isPerson 11 = .ok (.goto 4, 3) := by decide +kernel
theorem d_M_isPerson_14 : decode c_M_isPerson 14 = .ok (.iconst 0, 1) := by decide +kernel
theorem d_M_isPerson_15 : decode c_M_isPerson 15 = .ok (.ireturn, 1) := by decide +kernel
theorem d_M_isRule_0 : decode c_M_isRule 0 = .ok (.iload_n 1, 1) := by decide +kernel
theorem d_M_isRule_1 : decode c_M_isRule 1 = .ok (.ifCond .lt 15, 3) := by decide +kernel
theorem d_M_isRule_4 : decode c_M_isRule 4 = .ok (.iload_n 1, 1) := by decide +kernel
theorem d_M_isRule_5 : decode c_M_isRule 5 = .ok (.aload_n 0, 1) := by decide +kernel
theorem d_M_isRule_6 : decode c_M_isRule 6 = .ok (.getfield 88, 3) := by decide +kernel
theorem d_M_isRule_9 : decode c_M_isRule 9 = .ok (.if_icmp .ge 7, 3) := by decide +kernel
theorem d_M_isRule_16 : decode c_M_isRule 16 = .ok (.iconst 0, 1) := by decide +kernel
theorem d_M_isRule_17 : decode c_M_isRule 17 = .ok (.ireturn, 1) := by decide +kernel
theorem d_M_lend_0 : decode c_M_lend 0 = .ok (.aload_n 0, 1) := by decide +kernel
theorem d_M_lend_1 : decode c_M_lend 1 = .ok (.iconst 0, 1) := by decide +kernel
theorem d_M_lend_2 : decode c_M_lend 2 = .ok (.putfield 54, 3) := by decide +kernel
theorem d_M_lend_5 : decode c_M_lend 5 = .ok (.iload_n 1, 1) := by decide +kernel
theorem d_M_lend_6 : decode c_M_lend 6 = .ok (.invokestatic 143, 3) := by decide +kernel
theorem d_M_lend_9 : decode c_M_lend 9 = .ok (.ifCond .eq 36, 3) := by decide +kernel
theorem d_M_lend_12 : decode c_M_lend 12 = .ok (.iload_n 2, 1) := by decide +kernel
theorem d_M_lend_13 : decode c_M_lend 13 = .ok (.invokestatic 143, 3) := by decide +kernel
theorem d_M_lend_16 : decode c_M_lend 16 = .ok (.ifCond .eq 29, 3) := by decide +kernel
theorem d_M_lend_19 : decode c_M_lend 19 = .ok (.iload_n 3, 1) := by decide +kernel
theorem d_M_lend_20 : decode c_M_lend 20 = .ok (.invokestatic 137, 3) := by decide +kernel
theorem d_M_lend_23 : decode c_M_lend 23 = .ok (.ifCond .eq 22, 3) := by decide +kernel
theorem d_M_lend_26 : decode c_M_lend 26 = .ok (.aload_n 0, 1) := by decide +kernel
theorem d_M_lend_27 : decode c_M_lend 27 = .ok (.getfield 45, 3) := by decide +kernel
theorem d_M_lend_30 : decode c_M_lend 30 = .ok (.iload_n 2, 1) := by decide +kernel
theorem d_M_lend_31 : decode c_M_lend 31 = .ok (.iaload, 1) := by decide +kernel
theorem d_M_lend_32 : decode c_M_lend 32 = .ok (.ifCond .ne 13, 3) := by decide +kernel
theorem d_M_lend_35 : decode c_M_lend 35 = .ok (.aload_n 0, 1) := by decide +kernel
theorem d_M_lend_36 : decode c_M_lend 36 = .ok (.getfield 159, 3) := by decide +kernel
theorem d_M_lend_39 : decode c_M_lend 39 = .ok (.sipush 200, 3) := by decide +kernel
theorem d_M_lend_42 : decode c_M_lend 42 = .ok (.if_icmp .ne 5, 3) := by decide +kernel
theorem d_M_lend_45 : decode c_M_lend 45 = .ok (.iconst 0, 1) := by decide +kernel
theorem d_M_lend_46 : decode c_M_lend 46 = .ok (.ireturn, 1) := by decide +kernel
theorem d_M_lend_47 : decode c_M_lend 47 = .ok (.aload_n 0, 1) := by decide +kernel
theorem d_M_lend_48 : decode c_M_lend 48 = .ok (.getfield 36, 3) := by decide +kernel
theorem d_M_lend_51 : decode c_M_lend 51 = .ok (.iload_n 1, 1) := by decide +kernel
theorem d_M_lend_52 : decode c_M_lend 52 = .ok (.iaload, 1) := by decide +kernel
theorem d_M_lend_53 : decode c_M_lend 53 = .ok (.ifCond .le 13, 3) := by decide +kernel
theorem d_M_lend_66 : decode c_M_lend 66 = .ok (.aload_n 0, 1) := by decide +kernel
theorem d_M_lend_67 : decode c_M_lend 67 = .ok (.iload_n 1, 1) := by decide +kernel
theorem d_M_lend_68 : decode c_M_lend 68 = .ok (.iload_n 2, 1) := by decide +kernel
theorem d_M_lend_69 : decode c_M_lend 69 = .ok (.iload_n 3, 1) := by decide +kernel
theorem d_M_lend_70 : decode c_M_lend 70 = .ok (.invokevirtual 162, 3) := by decide +kernel
theorem d_M_lend_73 : decode c_M_lend 73 = .ok (.aload_n 0, 1) := by decide +kernel
theorem d_M_lend_74 : decode c_M_lend 74 = .ok (.getfield 149, 3) := by decide +kernel
theorem d_M_lend_77 : decode c_M_lend 77 = .ok (.ifCond .ne 6, 3) := by decide +kernel
theorem d_M_lend_80 : decode c_M_lend 80 = .ok (.bipush (-100), 2) := by decide +kernel
theorem d_M_lend_82 : decode c_M_lend 82 = .ok (.ireturn, 1) := by decide +kernel
theorem d_M_look_0 : decode c_M_look 0 = .ok (.iload_n 1, 1) := by decide +kernel
theorem d_M_look_1 : decode c_M_look 1 = .ok (.aload_n 0, 1) := by decide +kernel
theorem d_M_look_2 : decode c_M_look 2 = .ok (.getfield 58, 3) := by decide +kernel
theorem d_M_look_5 : decode c_M_look 5 = .ok (.if_icmp .ge 16, 3) := by decide +kernel
theorem d_M_look_21 : decode c_M_look 21 = .ok (.iconst (-1), 1) := by decide +kernel
theorem d_M_look_22 : decode c_M_look 22 = .ok (.ireturn, 1) := by decide +kernel
theorem d_M_never_0 : decode c_M_never 0 = .ok (.aload_n 0, 1) := by decide +kernel
theorem d_M_never_1 : decode c_M_never 1 = .ok (.iconst 0, 1) := by decide +kernel
theorem d_M_never_2 : decode c_M_never 2 = .ok (.putfield 54, 3) := by decide +kernel
theorem d_M_never_5 : decode c_M_never 5 = .ok (.iconst 0, 1) := by decide +kernel
theorem d_M_never_6 : decode c_M_never 6 = .ok (.istore_n 2, 1) := by decide +kernel
theorem d_M_never_7 : decode c_M_never 7 = .ok (.iconst 0, 1) := by decide +kernel
theorem d_M_never_8 : decode c_M_never 8 = .ok (.istore_n 3, 1) := by decide +kernel
theorem d_M_never_9 : decode c_M_never 9 = .ok (.iload_n 3, 1) := by decide +kernel
theorem d_M_never_10 : decode c_M_never 10 = .ok (.aload_n 0, 1) := by decide +kernel
theorem d_M_never_11 : decode c_M_never 11 = .ok (.getfield 88, 3) := by decide +kernel
theorem d_M_never_14 : decode c_M_never 14 = .ok (.if_icmp .ge 32, 3) := by decide +kernel
theorem d_M_never_46 : decode c_M_never 46 = .ok (.iconst (-1), 1) := by decide +kernel
theorem d_M_never_47 : decode c_M_never 47 = .ok (.ireturn, 1) := by decide +kernel
theorem d_M_reads_0 : decode c_M_reads 0 = .ok (.iconst 0, 1) := by decide +kernel
theorem d_M_reads_1 : decode c_M_reads 1 = .ok (.istore_n 1, 1) := by decide +kernel
theorem d_M_reads_2 : decode c_M_reads 2 = .ok (.iload_n 1, 1) := by decide +kernel
theorem d_M_reads_3 : decode c_M_reads 3 = .ok (.bipush 10, 2) := by decide +kernel
theorem d_M_reads_5 : decode c_M_reads 5 = .ok (.if_icmp .ge 44, 3) := by decide +kernel
theorem d_M_reads_8 : decode c_M_reads 8 = .ok (.aload_n 0, 1) := by decide +kernel
theorem d_M_reads_9 : decode c_M_reads 9 = .ok (.getfield 13, 3) := by decide +kernel
theorem d_M_reads_12 : decode c_M_reads 12 = .ok (.bipush 10, 2) := by decide +kernel
theorem d_M_reads_14 : decode c_M_reads 14 = .ok (.aload_n 0, 1) := by decide +kernel
theorem d_M_reads_15 : decode c_M_reads 15 = .ok (.getfield 88, 3) := by decide +kernel
theorem d_M_reads_18 : decode c_M_reads 18 = .ok (.imul, 1) := by decide +kernel
theorem d_M_reads_19 : decode c_M_reads 19 = .ok (.iload_n 1, 1) := by decide +kernel
theorem d_M_reads_20 : decode c_M_reads 20 = .ok (.iadd, 1) := by decide +kernel
theorem d_M_reads_21 : decode c_M_reads 21 = .ok (.iload_n 1, 1) := by decide +kernel
theorem d_M_reads_22 : decode c_M_reads 22 = .ok (.iconst 3, 1) := by decide +kernel
theorem d_M_reads_23 : decode c_M_reads 23 = .ok (.if_icmp .ge 7, 3) := by decide +kernel
theorem d_M_reads_26 : decode c_M_reads 26 = .ok (.iconst (-1), 1) := by decide +kernel
theorem d_M_reads_27 : decode c_M_reads 27 = .ok (.goto 15, 3) := by decide +kernel
theorem d_M_reads_30 : decode c_M_reads 30 = .ok (.iload_n 1, 1) := by decide +kernel
theorem d_M_reads_31 : decode c_M_reads 31 = .ok (.bipush 7, 2) := by decide +kernel
theorem d_M_reads_33 : decode c_M_reads 33 = .ok (.if_icmp .ne 8, 3) := by decide +kernel
theorem d_M_reads_36 : decode c_M_reads 36 = .ok (.bipush 7, 2) := by decide +kernel
theorem d_M_reads_38 : decode c_M_reads 38 = .ok (.goto 4, 3) := by decide +kernel
theorem d_M_reads_41 : decode c_M_reads 41 = .ok (.iconst 0, 1) := by decide +kernel
theorem d_M_reads_42 : decode c_M_reads 42 = .ok (.iastore, 1) := by decide +kernel
theorem d_M_reads_43 : decode c_M_reads 43 = .ok (.iinc 1 1, 3) := by decide +kernel
theorem d_M_reads_46 : decode c_M_reads 46 = .ok (.goto (-44), 3) := by decide +kernel
theorem d_M_reads_49 : decode c_M_reads 49 = .ok (.aload_n 0, 1) := by decide +kernel
theorem d_M_reads_50 : decode c_M_reads 50 = .ok (.iconst 0, 1) := by decide +kernel
theorem d_M_reads_51 : decode c_M_reads 51 = .ok (.putfield 64, 3) := by decide +kernel
theorem d_M_reads_54 : decode c_M_reads 54 = .ok (.iconst 0, 1) := by decide +kernel
theorem d_M_reads_55 : decode c_M_reads 55 = .ok (.istore_n 1, 1) := by decide +kernel
theorem d_M_reads_56 : decode c_M_reads 56 = .ok (.aload_n 0, 1) := by decide +kernel
theorem d_M_reads_57 : decode c_M_reads 57 = .ok (.getfield 64, 3) := by decide +kernel
theorem d_M_reads_60 : decode c_M_reads 60 = .ok (.aload_n 0, 1) := by decide +kernel
theorem d_M_reads_61 : decode c_M_reads 61 = .ok (.getfield 58, 3) := by decide +kernel
theorem d_M_reads_64 : decode c_M_reads 64 = .ok (.if_icmp .lt 8, 3) := by decide +kernel
theorem d_M_reads_67 : decode c_M_reads 67 = .ok (.iload_n 1, 1) := by decide +kernel
theorem d_M_reads_68 : decode c_M_reads 68 = .ok (.iconst 4, 1) := by decide +kernel
theorem d_M_reads_69 : decode c_M_reads 69 = .ok (.if_icmp .ge 111, 3) := by decide +kernel
theorem d_M_reads_72 : decode c_M_reads 72 = .ok (.iload_n 1, 1) := by decide +kernel
theorem d_M_reads_73 : decode c_M_reads 73 = .ok (.ifCond .le 12, 3) := by decide +kernel
theorem d_M_reads_85 : decode c_M_reads 85 = .ok (.aload_n 0, 1) := by decide +kernel
theorem d_M_reads_86 : decode c_M_reads 86 = .ok (.invokevirtual 111, 3) := by decide +kernel
theorem d_M_reads_89 : decode c_M_reads 89 = .ok (.invokestatic 127, 3) := by decide +kernel
theorem d_M_reads_92 : decode c_M_reads 92 = .ok (.istore_n 2, 1) := by decide +kernel
theorem d_M_reads_93 : decode c_M_reads 93 = .ok (.iload_n 2, 1) := by decide +kernel
theorem d_M_reads_94 : decode c_M_reads 94 = .ok (.iload_n 1, 1) := by decide +kernel
theorem d_M_reads_95 : decode c_M_reads 95 = .ok (.if_icmp .le 47, 3) := by decide +kernel
theorem d_M_reads_142 : decode c_M_reads 142 = .ok (.iconst 0, 1) := by decide +kernel
theorem d_M_reads_143 : decode c_M_reads 143 = .ok (.istore_n 3, 1) := by decide +kernel
theorem d_M_reads_144 : decode c_M_reads 144 = .ok (.iload_n 2, 1) := by decide +kernel
theorem d_M_reads_145 : decode c_M_reads 145 = .ok (.ifCond .eq 7, 3) := by decide +kernel
theorem d_M_reads_152 : decode c_M_reads 152 = .ok (.aload_n 0, 1) := by decide +kernel
theorem d_M_reads_153 : decode c_M_reads 153 = .ok (.aload_n 0, 1) := by decide +kernel
theorem d_M_reads_154 : decode c_M_reads 154 = .ok (.getfield 64, 3) := by decide +kernel
theorem d_M_reads_157 : decode c_M_reads 157 = .ok (.invokevirtual 77, 3) := by decide +kernel
theorem d_M_reads_160 : decode c_M_reads 160 = .ok (.ireturn, 1) := by decide +kernel
theorem d_M_recall_0 : decode c_M_recall 0 = .ok (.aload_n 0, 1) := by decide +kernel
theorem d_M_recall_1 : decode c_M_recall 1 = .ok (.iconst 0, 1) := by decide +kernel
theorem d_M_recall_2 : decode c_M_recall 2 = .ok (.putfield 54, 3) := by decide +kernel
theorem d_M_recall_5 : decode c_M_recall 5 = .ok (.aload_n 0, 1) := by decide +kernel
theorem d_M_recall_6 : decode c_M_recall 6 = .ok (.iload_n 1, 1) := by decide +kernel
theorem d_M_recall_7 : decode c_M_recall 7 = .ok (.invokevirtual 172, 3) := by decide +kernel
theorem d_M_recall_10 : decode c_M_recall 10 = .ok (.ifCond .eq 10, 3) := by decide +kernel
theorem d_M_recall_20 : decode c_M_recall 20 = .ok (.iconst 0, 1) := by decide +kernel
theorem d_M_recall_21 : decode c_M_recall 21 = .ok (.ireturn, 1) := by decide +kernel
theorem d_M_renew_0 : decode c_M_renew 0 = .ok (.aload_n 0, 1) := by decide +kernel
theorem d_M_renew_1 : decode c_M_renew 1 = .ok (.iconst 0, 1) := by decide +kernel
theorem d_M_renew_2 : decode c_M_renew 2 = .ok (.putfield 54, 3) := by decide +kernel
theorem d_M_renew_5 : decode c_M_renew 5 = .ok (.aload_n 0, 1) := by decide +kernel
theorem d_M_renew_6 : decode c_M_renew 6 = .ok (.iload_n 1, 1) := by decide +kernel
theorem d_M_renew_7 : decode c_M_renew 7 = .ok (.invokevirtual 172, 3) := by decide +kernel
theorem d_M_renew_10 : decode c_M_renew 10 = .ok (.ifCond .eq 10, 3) := by decide +kernel
theorem d_M_renew_20 : decode c_M_renew 20 = .ok (.iconst 0, 1) := by decide +kernel
theorem d_M_renew_21 : decode c_M_renew 21 = .ok (.ireturn, 1) := by decide +kernel
theorem d_M_row_0 : decode c_M_row 0 = .ok (.aload_n 0, 1) := by decide +kernel
theorem d_M_row_1 : decode c_M_row 1 = .ok (.iconst 0, 1) := by decide +kernel
theorem d_M_row_2 : decode c_M_row 2 = .ok (.putfield 54, 3) := by decide +kernel
theorem d_M_row_5 : decode c_M_row 5 = .ok (.iload_n 1, 1) := by decide +kernel
theorem d_M_row_6 : decode c_M_row 6 = .ok (.ifCond .lt 25, 3) := by decide +kernel
theorem d_M_row_9 : decode c_M_row 9 = .ok (.iload_n 1, 1) := by decide +kernel
theorem d_M_row_10 : decode c_M_row 10 = .ok (.iconst 1, 1) := by decide +kernel
theorem d_M_row_11 : decode c_M_row 11 = .ok (.if_icmp .gt 20, 3) := by decide +kernel
theorem d_M_row_14 : decode c_M_row 14 = .ok (.iload_n 2, 1) := by decide +kernel
theorem d_M_row_15 : decode c_M_row 15 = .ok (.invokestatic 143, 3) := by decide +kernel
theorem d_M_row_18 : decode c_M_row 18 = .ok (.ifCond .eq 13, 3) := by decide +kernel
theorem d_M_row_21 : decode c_M_row 21 = .ok (.iload_n 3, 1) := by decide +kernel
theorem d_M_row_22 : decode c_M_row 22 = .ok (.ifCond .lt 9, 3) := by decide +kernel
theorem d_M_row_25 : decode c_M_row 25 = .ok (.iload_n 3, 1) := by decide +kernel
theorem d_M_row_26 : decode c_M_row 26 = .ok (.bipush 9, 2) := by decide +kernel
theorem d_M_row_28 : decode c_M_row 28 = .ok (.if_icmp .le 5, 3) := by decide +kernel
theorem d_M_row_31 : decode c_M_row 31 = .ok (.iconst 0, 1) := by decide +kernel
theorem d_M_row_32 : decode c_M_row 32 = .ok (.ireturn, 1) := by decide +kernel
theorem d_M_row_33 : decode c_M_row 33 = .ok (.iload_n 1, 1) := by decide +kernel
theorem d_M_row_34 : decode c_M_row 34 = .ok (.ifCond .ne 13, 3) := by decide +kernel
theorem d_M_row_37 : decode c_M_row 37 = .ok (.aload_n 0, 1) := by decide +kernel
theorem d_M_row_38 : decode c_M_row 38 = .ok (.getfield 30, 3) := by decide +kernel
theorem d_M_row_41 : decode c_M_row 41 = .ok (.iload_n 2, 1) := by decide +kernel
theorem d_M_row_42 : decode c_M_row 42 = .ok (.iload_n 3, 1) := by decide +kernel
theorem d_M_row_43 : decode c_M_row 43 = .ok (.iastore, 1) := by decide +kernel
theorem d_M_row_44 : decode c_M_row 44 = .ok (.goto 10, 3) := by decide +kernel
theorem d_M_row_47 : decode c_M_row 47 = .ok (.aload_n 0, 1) := by decide +kernel
theorem d_M_row_48 : decode c_M_row 48 = .ok (.getfield 33, 3) := by decide +kernel
theorem d_M_row_51 : decode c_M_row 51 = .ok (.iload_n 2, 1) := by decide +kernel
theorem d_M_row_52 : decode c_M_row 52 = .ok (.iload_n 3, 1) := by decide +kernel
theorem d_M_row_53 : decode c_M_row 53 = .ok (.iastore, 1) := by decide +kernel
theorem d_M_row_54 : decode c_M_row 54 = .ok (.iconst 1, 1) := by decide +kernel
theorem d_M_row_55 : decode c_M_row 55 = .ok (.ireturn, 1) := by decide +kernel
theorem d_M_rule_0 : decode c_M_rule 0 = .ok (.aload_n 0, 1) := by decide +kernel
theorem d_M_rule_1 : decode c_M_rule 1 = .ok (.iconst 0, 1) := by decide +kernel
theorem d_M_rule_2 : decode c_M_rule 2 = .ok (.putfield 54, 3) := by decide +kernel
theorem d_M_rule_5 : decode c_M_rule 5 = .ok (.aload_n 0, 1) := by decide +kernel
theorem d_M_rule_6 : decode c_M_rule 6 = .ok (.invokevirtual 134, 3) := by decide +kernel
theorem d_M_rule_9 : decode c_M_rule 9 = .ok (.istore_n 1, 1) := by decide +kernel
theorem d_M_rule_10 : decode c_M_rule 10 = .ok (.aload_n 0, 1) := by decide +kernel
theorem d_M_rule_11 : decode c_M_rule 11 = .ok (.iconst 0, 1) := by decide +kernel
theorem d_M_rule_12 : decode c_M_rule 12 = .ok (.putfield 58, 3) := by decide +kernel
theorem d_M_rule_15 : decode c_M_rule 15 = .ok (.iload_n 1, 1) := by decide +kernel
theorem d_M_rule_16 : decode c_M_rule 16 = .ok (.ifCond .ne 10, 3) := by decide +kernel
theorem d_M_rule_19 : decode c_M_rule 19 = .ok (.iconst (-1), 1) := by decide +kernel
theorem d_M_rule_20 : decode c_M_rule 20 = .ok (.aload_n 0, 1) := by decide +kernel
theorem d_M_rule_21 : decode c_M_rule 21 = .ok (.getfield 61, 3) := by decide +kernel
theorem d_M_rule_24 : decode c_M_rule 24 = .ok (.isub, 1) := by decide +kernel
theorem d_M_rule_25 : decode c_M_rule 25 = .ok (.ireturn, 1) := by decide +kernel
theorem d_M_sign_0 : decode c_M_sign 0 = .ok (.aload_n 0, 1) := by decide +kernel
theorem d_M_sign_1 : decode c_M_sign 1 = .ok (.iconst 0, 1) := by decide +kernel
theorem d_M_sign_2 : decode c_M_sign 2 = .ok (.putfield 54, 3) := by decide +kernel
theorem d_M_sign_5 : decode c_M_sign 5 = .ok (.aload_n 0, 1) := by decide +kernel
theorem d_M_sign_6 : decode c_M_sign 6 = .ok (.getfield 58, 3) := by decide +kernel
theorem d_M_sign_9 : decode c_M_sign 9 = .ok (.bipush 120, 2) := by decide +kernel
theorem d_M_sign_11 : decode c_M_sign 11 = .ok (.if_icmp .ge 24, 3) := by decide +kernel
theorem d_M_sign_14 : decode c_M_sign 14 = .ok (.aload_n 0, 1) := by decide +kernel
theorem d_M_sign_15 : decode c_M_sign 15 = .ok (.getfield 7, 3) := by decide +kernel
theorem d_M_sign_18 : decode c_M_sign 18 = .ok (.aload_n 0, 1) := by decide +kernel
theorem d_M_sign_19 : decode c_M_sign 19 = .ok (.getfield 58, 3) := by decide +kernel
theorem d_M_sign_22 : decode c_M_sign 22 = .ok (.iload_n 1, 1) := by decide +kernel
theorem d_M_sign_23 : decode c_M_sign 23 = .ok (.i2b, 1) := by decide +kernel
theorem d_M_sign_24 : decode c_M_sign 24 = .ok (.bastore, 1) := by decide +kernel
theorem d_M_sign_25 : decode c_M_sign 25 = .ok (.aload_n 0, 1) := by decide +kernel
theorem d_M_sign_26 : decode c_M_sign 26 = .ok (.dup, 1) := by decide +kernel
theorem d_M_sign_27 : decode c_M_sign 27 = .ok (.getfield 58, 3) := by decide +kernel
theorem d_M_sign_30 : decode c_M_sign 30 = .ok (.iconst 1, 1) := by decide +kernel
theorem d_M_sign_31 : decode c_M_sign 31 = .ok (.iadd, 1) := by decide +kernel
theorem d_M_sign_32 : decode c_M_sign 32 = .ok (.putfield 58, 3) := by decide +kernel
theorem d_M_sign_35 : decode c_M_sign 35 = .ok (.return_, 1) := by decide +kernel
theorem d_M_step_0 : decode c_M_step 0 = .ok (.lload_n 0, 1) := by decide +kernel
theorem d_M_step_1 : decode c_M_step 1 = .ok (.ldc2_w 91, 3) := by decide +kernel
theorem d_M_step_4 : decode c_M_step 4 = .ok (.lcmp, 1) := by decide +kernel
theorem d_M_step_5 : decode c_M_step 5 = .ok (.ifCond .ne 7, 3) := by decide +kernel
theorem d_M_step_12 : decode c_M_step 12 = .ok (.lload_n 0, 1) := by decide +kernel
theorem d_M_step_13 : decode c_M_step 13 = .ok (.ldc2_w 93, 3) := by decide +kernel
theorem d_M_step_16 : decode c_M_step 16 = .ok (.lcmp, 1) := by decide +kernel
theorem d_M_step_17 : decode c_M_step 17 = .ok (.ifCond .ne 7, 3) := by decide +kernel
theorem d_M_step_24 : decode c_M_step 24 = .ok (.lload_n 0, 1) := by decide +kernel
theorem d_M_step_25 : decode c_M_step 25 = .ok (.ldc2_w 95, 3) := by decide +kernel
theorem d_M_step_28 : decode c_M_step 28 = .ok (.lcmp, 1) := by decide +kernel
theorem d_M_step_29 : decode c_M_step 29 = .ok (.ifCond .ne 7, 3) := by decide +kernel
theorem d_M_step_36 : decode c_M_step 36 = .ok (.lload_n 0, 1) := by decide +kernel
theorem d_M_step_37 : decode c_M_step 37 = .ok (.ldc2_w 97, 3) := by decide +kernel
theorem d_M_step_40 : decode c_M_step 40 = .ok (.lcmp, 1) := by decide +kernel
theorem d_M_step_41 : decode c_M_step 41 = .ok (.ifCond .ne 7, 3) := by decide +kernel
theorem d_M_step_48 : decode c_M_step 48 = .ok (.lload_n 0, 1) := by decide +kernel
theorem d_M_step_49 : decode c_M_step 49 = .ok (.ldc2_w 99, 3) := by decide +kernel
theorem d_M_step_52 : decode c_M_step 52 = .ok (.lcmp, 1) := by decide +kernel
theorem d_M_step_53 : decode c_M_step 53 = .ok (.ifCond .ne 7, 3) := by decide +kernel
theorem d_M_step_60 : decode c_M_step 60 = .ok (.lload_n 0, 1) := by decide +kernel
theorem d_M_step_61 : decode c_M_step 61 = .ok (.ldc2_w 101, 3) := by decide +kernel
theorem d_M_step_64 : decode c_M_step 64 = .ok (.lcmp, 1) := by decide +kernel
theorem d_M_step_65 : decode c_M_step 65 = .ok (.ifCond .ne 8, 3) := by decide +kernel
theorem d_M_step_73 : decode c_M_step 73 = .ok (.lload_n 0, 1) := by decide +kernel
theorem d_M_step_74 : decode c_M_step 74 = .ok (.ldc2_w 103, 3) := by decide +kernel
theorem d_M_step_77 : decode c_M_step 77 = .ok (.lcmp, 1) := by decide +kernel
theorem d_M_step_78 : decode c_M_step 78 = .ok (.ifCond .ne 8, 3) := by decide +kernel
theorem d_M_step_86 : decode c_M_step 86 = .ok (.lload_n 0, 1) := by decide +kernel
theorem d_M_step_87 : decode c_M_step 87 = .ok (.ldc2_w 105, 3) := by decide +kernel
theorem d_M_step_90 : decode c_M_step 90 = .ok (.lcmp, 1) := by decide +kernel
theorem d_M_step_91 : decode c_M_step 91 = .ok (.ifCond .ne 8, 3) := by decide +kernel
theorem d_M_step_99 : decode c_M_step 99 = .ok (.lload_n 0, 1) := by decide +kernel
theorem d_M_step_100 : decode c_M_step 100 = .ok (.ldc2_w 107, 3) := by decide +kernel
theorem d_M_step_103 : decode c_M_step 103 = .ok (.lcmp, 1) := by decide +kernel
theorem d_M_step_104 : decode c_M_step 104 = .ok (.ifCond .ne 8, 3) := by decide +kernel
theorem d_M_step_112 : decode c_M_step 112 = .ok (.lload_n 0, 1) := by decide +kernel
theorem d_M_step_113 : decode c_M_step 113 = .ok (.ldc2_w 109, 3) := by decide +kernel
theorem d_M_step_116 : decode c_M_step 116 = .ok (.lcmp, 1) := by decide +kernel
theorem d_M_step_117 : decode c_M_step 117 = .ok (.ifCond .ne 8, 3) := by decide +kernel
theorem d_M_step_125 : decode c_M_step 125 = .ok (.iconst 0, 1) := by decide +kernel
theorem d_M_step_126 : decode c_M_step 126 = .ok (.ireturn, 1) := by decide +kernel
theorem d_M_term_0 : decode c_M_term 0 = .ok (.aload_n 0, 1) := by decide +kernel
theorem d_M_term_1 : decode c_M_term 1 = .ok (.iconst 0, 1) := by decide +kernel
theorem d_M_term_2 : decode c_M_term 2 = .ok (.putfield 54, 3) := by decide +kernel
theorem d_M_term_5 : decode c_M_term 5 = .ok (.iload_n 1, 1) := by decide +kernel
theorem d_M_term_6 : decode c_M_term 6 = .ok (.invokestatic 137, 3) := by decide +kernel
theorem d_M_term_9 : decode c_M_term 9 = .ok (.ifCond .eq 12, 3) := by decide +kernel
theorem d_M_term_12 : decode c_M_term 12 = .ok (.aload_n 0, 1) := by decide +kernel
theorem d_M_term_13 : decode c_M_term 13 = .ok (.getfield 27, 3) := by decide +kernel
theorem d_M_term_16 : decode c_M_term 16 = .ok (.iload_n 1, 1) := by decide +kernel
theorem d_M_term_17 : decode c_M_term 17 = .ok (.baload, 1) := by decide +kernel
theorem d_M_term_18 : decode c_M_term 18 = .ok (.ifCond .eq 5, 3) := by decide +kernel
theorem d_M_term_21 : decode c_M_term 21 = .ok (.iconst 0, 1) := by decide +kernel
theorem d_M_term_22 : decode c_M_term 22 = .ok (.ireturn, 1) := by decide +kernel
theorem d_M_term_23 : decode c_M_term 23 = .ok (.aload_n 0, 1) := by decide +kernel
theorem d_M_term_24 : decode c_M_term 24 = .ok (.getfield 27, 3) := by decide +kernel
theorem d_M_term_27 : decode c_M_term 27 = .ok (.iload_n 1, 1) := by decide +kernel
theorem d_M_term_28 : decode c_M_term 28 = .ok (.iconst 1, 1) := by decide +kernel
theorem d_M_term_29 : decode c_M_term 29 = .ok (.bastore, 1) := by decide +kernel
theorem d_M_term_30 : decode c_M_term 30 = .ok (.iconst 1, 1) := by decide +kernel
theorem d_M_term_31 : decode c_M_term 31 = .ok (.ireturn, 1) := by decide +kernel
theorem d_M_thrown_0 : decode c_M_thrown 0 = .ok (.aload_n 0, 1) := by decide +kernel
theorem d_M_thrown_1 : decode c_M_thrown 1 = .ok (.getfield 54, 3) := by decide +kernel
theorem d_M_thrown_4 : decode c_M_thrown 4 = .ok (.ireturn, 1) := by decide +kernel
theorem d_M_throwsUp_0 : decode c_M_throwsUp 0 = .ok (.aload_n 0, 1) := by decide +kernel
theorem d_M_throwsUp_1 : decode c_M_throwsUp 1 = .ok (.iconst 0, 1) := by decide +kernel
theorem d_M_throwsUp_2 : decode c_M_throwsUp 2 = .ok (.putfield 54, 3) := by decide +kernel
theorem d_M_throwsUp_5 : decode c_M_throwsUp 5 = .ok (.aload_n 0, 1) := by decide +kernel
theorem d_M_throwsUp_6 : decode c_M_throwsUp 6 = .ok (.iload_n 1, 1) := by decide +kernel
theorem d_M_throwsUp_7 : decode c_M_throwsUp 7 = .ok (.invokevirtual 146, 3) := by decide +kernel
theorem d_M_throwsUp_10 : decode c_M_throwsUp 10 = .ok (.ifCond .ne 5, 3) := by decide +kernel
theorem d_M_throwsUp_13 : decode c_M_throwsUp 13 = .ok (.iconst 0, 1) := by decide +kernel
theorem d_M_throwsUp_14 : decode c_M_throwsUp 14 = .ok (.ireturn, 1) := by decide +kernel
theorem d_M_word_0 : decode c_M_word 0 = .ok (.lconst 0, 1) := by decide +kernel
theorem d_M_word_1 : decode c_M_word 1 = .ok (.lstore_n 1, 1) := by decide +kernel
theorem d_M_word_2 : decode c_M_word 2 = .ok (.aload_n 0, 1) := by decide +kernel
theorem d_M_word_3 : decode c_M_word 3 = .ok (.getfield 64, 3) := by decide +kernel
theorem d_M_word_6 : decode c_M_word 6 = .ok (.istore_n 3, 1) := by decide +kernel
theorem d_M_word_7 : decode c_M_word 7 = .ok (.aload_n 0, 1) := by decide +kernel
theorem d_M_word_8 : decode c_M_word 8 = .ok (.iload_n 3, 1) := by decide +kernel
theorem d_M_word_9 : decode c_M_word 9 = .ok (.invokevirtual 67, 3) := by decide +kernel
theorem d_M_word_12 : decode c_M_word 12 = .ok (.bipush 97, 2) := by decide +kernel
theorem d_M_word_14 : decode c_M_word 14 = .ok (.if_icmp .lt 53, 3) := by decide +kernel
theorem d_M_word_67 : decode c_M_word 67 = .ok (.lload_n 1, 1) := by decide +kernel
theorem d_M_word_68 : decode c_M_word 68 = .ok (.lreturn, 1) := by decide +kernel
theorem d_PC_checkIndex_0 : decode c_PC_checkIndex 0 = .ok (.iload_n 0, 1) := by decide +kernel
theorem d_PC_checkIndex_1 : decode c_PC_checkIndex 1 = .ok (.ifCond .lt 8, 3) := by decide +kernel
theorem d_PC_checkIndex_4 : decode c_PC_checkIndex 4 = .ok (.iload_n 0, 1) := by decide +kernel
theorem d_PC_checkIndex_5 : decode c_PC_checkIndex 5 = .ok (.iload_n 1, 1) := by decide +kernel
theorem d_PC_checkIndex_6 : decode c_PC_checkIndex 6 = .ok (.if_icmp .lt 10, 3) := by decide +kernel
theorem d_PC_checkIndex_16 : decode c_PC_checkIndex 16 = .ok (.iload_n 0, 1) := by decide +kernel
theorem d_PC_checkIndex_17 : decode c_PC_checkIndex 17 = .ok (.ireturn, 1) := by decide +kernel
theorem d_R_init_0 : decode c_R_init 0 = .ok (.aload_n 0, 1) := by decide +kernel
theorem d_R_init_1 : decode c_R_init 1 = .ok (.invokespecial 3, 3) := by decide +kernel
theorem d_R_init_4 : decode c_R_init 4 = .ok (.aload_n 0, 1) := by decide +kernel
theorem d_R_init_5 : decode c_R_init 5 = .ok (.iconst (-1), 1) := by decide +kernel
theorem d_R_init_6 : decode c_R_init 6 = .ok (.putfield 9, 3) := by decide +kernel
theorem d_R_init_9 : decode c_R_init 9 = .ok (.aload_n 0, 1) := by decide +kernel
theorem d_R_init_10 : decode c_R_init 10 = .ok (.iconst (-1), 1) := by decide +kernel
theorem d_R_init_11 : decode c_R_init 11 = .ok (.putfield 15, 3) := by decide +kernel
theorem d_R_init_14 : decode c_R_init 14 = .ok (.aload_n 0, 1) := by decide +kernel
theorem d_R_init_15 : decode c_R_init 15 = .ok (.iconst (-1), 1) := by decide +kernel
theorem d_R_init_16 : decode c_R_init 16 = .ok (.putfield 18, 3) := by decide +kernel
theorem d_R_init_19 : decode c_R_init 19 = .ok (.aload_n 0, 1) := by decide +kernel
theorem d_R_init_20 : decode c_R_init 20 = .ok (.iconst 2, 1) := by decide +kernel
theorem d_R_init_21 : decode c_R_init 21 = .ok (.putfield 21, 3) := by decide +kernel
theorem d_R_init_24 : decode c_R_init 24 = .ok (.aload_n 0, 1) := by decide +kernel
theorem d_R_init_25 : decode c_R_init 25 = .ok (.iconst 0, 1) := by decide +kernel
theorem d_R_init_26 : decode c_R_init 26 = .ok (.putfield 24, 3) := by decide +kernel
theorem d_R_init_29 : decode c_R_init 29 = .ok (.aload_n 0, 1) := by decide +kernel
theorem d_R_init_30 : decode c_R_init 30 = .ok (.iconst 0, 1) := by decide +kernel
theorem d_R_init_31 : decode c_R_init 31 = .ok (.putfield 27, 3) := by decide +kernel
theorem d_R_init_34 : decode c_R_init 34 = .ok (.aload_n 0, 1) := by decide +kernel
theorem d_R_init_35 : decode c_R_init 35 = .ok (.iconst 0, 1) := by decide +kernel
theorem d_R_init_36 : decode c_R_init 36 = .ok (.putfield 30, 3) := by decide +kernel
theorem d_R_init_39 : decode c_R_init 39 = .ok (.aload_n 0, 1) := by decide +kernel
theorem d_R_init_40 : decode c_R_init 40 = .ok (.bipush 7, 2) := by decide +kernel
theorem d_R_init_42 : decode c_R_init 42 = .ok (.putfield 33, 3) := by decide +kernel
theorem d_R_init_45 : decode c_R_init 45 = .ok (.aload_n 0, 1) := by decide +kernel
theorem d_R_init_46 : decode c_R_init 46 = .ok (.iconst 0, 1) := by decide +kernel
theorem d_R_init_47 : decode c_R_init 47 = .ok (.putfield 36, 3) := by decide +kernel
theorem d_R_init_50 : decode c_R_init 50 = .ok (.aload_n 0, 1) := by decide +kernel
theorem d_R_init_51 : decode c_R_init 51 = .ok (.iconst 0, 1) := by decide +kernel
theorem d_R_init_52 : decode c_R_init 52 = .ok (.putfield 39, 3) := by decide +kernel
theorem d_R_init_55 : decode c_R_init 55 = .ok (.aload_n 0, 1) := by decide +kernel
theorem d_R_init_56 : decode c_R_init 56 = .ok (.iconst 0, 1) := by decide +kernel
theorem d_R_init_57 : decode c_R_init 57 = .ok (.putfield 43, 3) := by decide +kernel
theorem d_R_init_60 : decode c_R_init 60 = .ok (.return_, 1) := by decide +kernel
theorem d_R_lends_0 : decode c_R_lends 0 = .ok (.aload_n 0, 1) := by decide +kernel
theorem d_R_lends_1 : decode c_R_lends 1 = .ok (.getfield 21, 3) := by decide +kernel
theorem d_R_lends_4 : decode c_R_lends 4 = .ok (.ifCond .eq 11, 3) := by decide +kernel
theorem d_R_lends_7 : decode c_R_lends 7 = .ok (.aload_n 0, 1) := by decide +kernel
theorem d_R_lends_8 : decode c_R_lends 8 = .ok (.getfield 21, 3) := by decide +kernel
theorem d_R_lends_11 : decode c_R_lends 11 = .ok (.iconst 1, 1) := by decide +kernel
theorem d_R_lends_12 : decode c_R_lends 12 = .ok (.if_icmp .ne 7, 3) := by decide +kernel
theorem d_R_lends_19 : decode c_R_lends 19 = .ok (.iconst 0, 1) := by decide +kernel
theorem d_R_lends_20 : decode c_R_lends 20 = .ok (.ireturn, 1) := by decide +kernel
theorem d_SL_charAt_0 : decode c_SL_charAt 0 = .ok (.iload_n 1, 1) := by decide +kernel
theorem d_SL_charAt_1 : decode c_SL_charAt 1 = .ok (.aload_n 0, 1) := by decide +kernel
theorem d_SL_charAt_2 : decode c_SL_charAt 2 = .ok (.arraylength, 1) := by decide +kernel
theorem d_SL_charAt_3 : decode c_SL_charAt 3 = .ok (.invokestatic 9, 3) := by decide +kernel
theorem d_SL_charAt_6 : decode c_SL_charAt 6 = .ok (.aload_n 0, 1) := by decide +kernel
theorem d_SL_charAt_7 : decode c_SL_charAt 7 = .ok (.iload_n 1, 1) := by decide +kernel
theorem d_SL_charAt_8 : decode c_SL_charAt 8 = .ok (.baload, 1) := by decide +kernel
theorem d_SL_charAt_9 : decode c_SL_charAt 9 = .ok (.sipush 255, 3) := by decide +kernel
theorem d_SL_charAt_12 : decode c_SL_charAt 12 = .ok (.iand, 1) := by decide +kernel
theorem d_SL_charAt_13 : decode c_SL_charAt 13 = .ok (.i2c, 1) := by decide +kernel
theorem d_SL_charAt_14 : decode c_SL_charAt 14 = .ok (.ireturn, 1) := by decide +kernel
theorem d_S_charAt_0 : decode c_S_charAt 0 = .ok (.aload_n 0, 1) := by decide +kernel
theorem d_S_charAt_1 : decode c_S_charAt 1 = .ok (.invokevirtual 492, 3) := by decide +kernel
theorem d_S_charAt_4 : decode c_S_charAt 4 = .ok (.ifCond .eq 12, 3) := by decide +kernel
theorem d_S_charAt_7 : decode c_S_charAt 7 = .ok (.aload_n 0, 1) := by decide +kernel
theorem d_S_charAt_8 : decode c_S_charAt 8 = .ok (.getfield 9, 3) := by decide +kernel
theorem d_S_charAt_11 : decode c_S_charAt 11 = .ok (.iload_n 1, 1) := by decide +kernel
theorem d_S_charAt_12 : decode c_S_charAt 12 = .ok (.invokestatic 495, 3) := by decide +kernel
theorem d_S_charAt_15 : decode c_S_charAt 15 = .ok (.ireturn, 1) := by decide +kernel
theorem d_S_checkIndex_0 : decode c_S_checkIndex 0 = .ok (.iload_n 0, 1) := by decide +kernel
theorem d_S_checkIndex_1 : decode c_S_checkIndex 1 = .ok (.iload_n 1, 1) := by decide +kernel
theorem d_S_checkIndex_2 : decode c_S_checkIndex 2 = .ok (.getstatic 1053, 3) := by decide +kernel
theorem d_S_checkIndex_5 : decode c_S_checkIndex 5 = .ok (.invokestatic 1059, 3) := by decide +kernel
theorem d_S_checkIndex_8 : decode c_S_checkIndex 8 = .ok (.pop, 1) := by decide +kernel
theorem d_S_checkIndex_9 : decode c_S_checkIndex 9 = .ok (.return_, 1) := by decide +kernel
theorem d_S_coder_0 : decode c_S_coder 0 = .ok (.getstatic 38, 3) := by decide +kernel
theorem d_S_coder_3 : decode c_S_coder 3 = .ok (.ifCond .eq 10, 3) := by decide +kernel
theorem d_S_coder_6 : decode c_S_coder 6 = .ok (.aload_n 0, 1) := by decide +kernel
theorem d_S_coder_7 : decode c_S_coder 7 = .ok (.getfield 15, 3) := by decide +kernel
theorem d_S_coder_10 : decode c_S_coder 10 = .ok (.goto 4, 3) := by decide +kernel
theorem d_S_coder_14 : decode c_S_coder 14 = .ok (.ireturn, 1) := by decide +kernel
theorem d_S_isLatin1_0 : decode c_S_isLatin1 0 = .ok (.getstatic 38, 3) := by decide +kernel
theorem d_S_isLatin1_3 : decode c_S_isLatin1 3 = .ok (.ifCond .eq 14, 3) := by decide +kernel
theorem d_S_isLatin1_6 : decode c_S_isLatin1 6 = .ok (.aload_n 0, 1) := by decide +kernel
theorem d_S_isLatin1_7 : decode c_S_isLatin1 7 = .ok (.getfield 15, 3) := by decide +kernel
theorem d_S_isLatin1_10 : decode c_S_isLatin1 10 = .ok (.ifCond .ne 7, 3) := by decide +kernel
theorem d_S_isLatin1_13 : decode c_S_isLatin1 13 = .ok (.iconst 1, 1) := by decide +kernel
theorem d_S_isLatin1_14 : decode c_S_isLatin1 14 = .ok (.goto 4, 3) := by decide +kernel
theorem d_S_isLatin1_18 : decode c_S_isLatin1 18 = .ok (.ireturn, 1) := by decide +kernel
theorem d_S_length_0 : decode c_S_length 0 = .ok (.aload_n 0, 1) := by decide +kernel
theorem d_S_length_1 : decode c_S_length 1 = .ok (.getfield 9, 3) := by decide +kernel
theorem d_S_length_4 : decode c_S_length 4 = .ok (.arraylength, 1) := by decide +kernel
theorem d_S_length_5 : decode c_S_length 5 = .ok (.aload_n 0, 1) := by decide +kernel
theorem d_S_length_6 : decode c_S_length 6 = .ok (.invokevirtual 335, 3) := by decide +kernel
theorem d_S_length_9 : decode c_S_length 9 = .ok (.ishr, 1) := by decide +kernel
theorem d_S_length_10 : decode c_S_length 10 = .ok (.ireturn, 1) := by decide +kernel
theorem d_T_collect_0 : decode c_T_collect 0 = .ok (.aload_n 0, 1) := by decide +kernel
theorem d_T_collect_1 : decode c_T_collect 1 = .ok (.getfield 15, 3) := by decide +kernel
theorem d_T_collect_4 : decode c_T_collect 4 = .ok (.aload_n 0, 1) := by decide +kernel
theorem d_T_collect_5 : decode c_T_collect 5 = .ok (.getfield 11, 3) := by decide +kernel
theorem d_T_collect_8 : decode c_T_collect 8 = .ok (.arraylength, 1) := by decide +kernel
theorem d_T_collect_9 : decode c_T_collect 9 = .ok (.if_icmp .ge 28, 3) := by decide +kernel
theorem d_T_collect_12 : decode c_T_collect 12 = .ok (.aload_n 0, 1) := by decide +kernel
theorem d_T_collect_13 : decode c_T_collect 13 = .ok (.getfield 11, 3) := by decide +kernel
theorem d_T_collect_16 : decode c_T_collect 16 = .ok (.aload_n 0, 1) := by decide +kernel
theorem d_T_collect_17 : decode c_T_collect 17 = .ok (.getfield 15, 3) := by decide +kernel
theorem d_T_collect_20 : decode c_T_collect 20 = .ok (.iload_n 1, 1) := by decide +kernel
theorem d_T_collect_21 : decode c_T_collect 21 = .ok (.sipush 255, 3) := by decide +kernel
theorem d_T_collect_24 : decode c_T_collect 24 = .ok (.iand, 1) := by decide +kernel
theorem d_T_collect_25 : decode c_T_collect 25 = .ok (.i2c, 1) := by decide +kernel
theorem d_T_collect_26 : decode c_T_collect 26 = .ok (.castore, 1) := by decide +kernel
theorem d_T_collect_27 : decode c_T_collect 27 = .ok (.aload_n 0, 1) := by decide +kernel
theorem d_T_collect_28 : decode c_T_collect 28 = .ok (.dup, 1) := by decide +kernel
theorem d_T_collect_29 : decode c_T_collect 29 = .ok (.getfield 15, 3) := by decide +kernel
theorem d_T_collect_32 : decode c_T_collect 32 = .ok (.iconst 1, 1) := by decide +kernel
theorem d_T_collect_33 : decode c_T_collect 33 = .ok (.iadd, 1) := by decide +kernel
theorem d_T_collect_34 : decode c_T_collect 34 = .ok (.putfield 15, 3) := by decide +kernel
theorem d_T_collect_37 : decode c_T_collect 37 = .ok (.return_, 1) := by decide +kernel
theorem d_T_forget_0 : decode c_T_forget 0 = .ok (.aload_n 0, 1) := by decide +kernel
theorem d_T_forget_1 : decode c_T_forget 1 = .ok (.iconst 0, 1) := by decide +kernel
theorem d_T_forget_2 : decode c_T_forget 2 = .ok (.putfield 15, 3) := by decide +kernel
theorem d_T_forget_5 : decode c_T_forget 5 = .ok (.return_, 1) := by decide +kernel
theorem d_T_init_0 : decode c_T_init 0 = .ok (.aload_n 0, 1) := by decide +kernel
theorem d_T_init_1 : decode c_T_init 1 = .ok (.invokespecial 3, 3) := by decide +kernel
theorem d_T_init_4 : decode c_T_init 4 = .ok (.aload_n 0, 1) := by decide +kernel
theorem d_T_init_5 : decode c_T_init 5 = .ok (.bipush 120, 2) := by decide +kernel
theorem d_T_init_7 : decode c_T_init 7 = .ok (.newarray .char, 2) := by decide +kernel
theorem d_T_init_9 : decode c_T_init 9 = .ok (.putfield 11, 3) := by decide +kernel
theorem d_T_init_12 : decode c_T_init 12 = .ok (.aload_n 0, 1) := by decide +kernel
theorem d_T_init_13 : decode c_T_init 13 = .ok (.iconst 0, 1) := by decide +kernel
theorem d_T_init_14 : decode c_T_init 14 = .ok (.putfield 15, 3) := by decide +kernel
theorem d_T_init_17 : decode c_T_init 17 = .ok (.aload_n 0, 1) := by decide +kernel
theorem d_T_init_18 : decode c_T_init 18 = .ok (.iconst 0, 1) := by decide +kernel
theorem d_T_init_19 : decode c_T_init 19 = .ok (.putfield 19, 3) := by decide +kernel
theorem d_T_init_22 : decode c_T_init 22 = .ok (.aload_n 0, 1) := by decide +kernel
theorem d_T_init_23 : decode c_T_init 23 = .ok (.iconst (-1), 1) := by decide +kernel
theorem d_T_init_24 : decode c_T_init 24 = .ok (.putfield 22, 3) := by decide +kernel
theorem d_T_init_27 : decode c_T_init 27 = .ok (.return_, 1) := by decide +kernel
theorem d_T_markWrong_0 : decode c_T_markWrong 0 = .ok (.aload_n 0, 1) := by decide +kernel
theorem d_T_markWrong_1 : decode c_T_markWrong 1 = .ok (.getfield 22, 3) := by decide +kernel
theorem d_T_markWrong_4 : decode c_T_markWrong 4 = .ok (.iconst (-1), 1) := by decide +kernel
theorem d_T_markWrong_5 : decode c_T_markWrong 5 = .ok (.if_icmp .ne 8, 3) := by decide +kernel
theorem d_T_markWrong_8 : decode c_T_markWrong 8 = .ok (.aload_n 0, 1) := by decide +kernel
theorem d_T_markWrong_9 : decode c_T_markWrong 9 = .ok (.iload_n 1, 1) := by decide +kernel
theorem d_T_markWrong_10 : decode c_T_markWrong 10 = .ok (.putfield 22, 3) := by decide +kernel
theorem d_T_markWrong_13 : decode c_T_markWrong 13 = .ok (.return_, 1) := by decide +kernel
theorem d_T_readCondition_0 : decode c_T_readCondition 0 = .ok (.aload_n 0, 1) := by decide +kernel
theorem d_T_readCondition_1 : decode c_T_readCondition 1 = .ok (.aload_n 1, 1) := by decide +kernel
theorem d_T_readCondition_2 : decode c_T_readCondition 2 = .ok (.invokevirtual 50, 3) := by decide +kernel
theorem d_T_readCondition_5 : decode c_T_readCondition 5 = .ok (.ifCond .ne 5, 3) := by decide +kernel
theorem d_T_readCondition_8 : decode c_T_readCondition 8 = .ok (.iconst (-1), 1) := by decide +kernel
theorem d_T_readCondition_9 : decode c_T_readCondition 9 = .ok (.ireturn, 1) := by decide +kernel
theorem d_T_readDeed_0 : decode c_T_readDeed 0 = .ok (.aload_n 0, 1) := by decide +kernel
theorem d_T_readDeed_1 : decode c_T_readDeed 1 = .ok (.ldc 61, 2) := by decide +kernel
theorem d_T_readDeed_3 : decode c_T_readDeed 3 = .ok (.invokevirtual 50, 3) := by decide +kernel
theorem d_T_readDeed_6 : decode c_T_readDeed 6 = .ok (.ifCond .eq 11, 3) := by decide +kernel
theorem d_T_readDeed_17 : decode c_T_readDeed 17 = .ok (.aload_n 0, 1) := by decide +kernel
theorem d_T_readDeed_18 : decode c_T_readDeed 18 = .ok (.ldc 66, 2) := by decide +kernel
theorem d_T_readDeed_20 : decode c_T_readDeed 20 = .ok (.invokevirtual 50, 3) := by decide +kernel
theorem d_T_readDeed_23 : decode c_T_readDeed 23 = .ok (.ifCond .eq 11, 3) := by decide +kernel
theorem d_T_readDeed_34 : decode c_T_readDeed 34 = .ok (.aload_n 0, 1) := by decide +kernel
theorem d_T_readDeed_35 : decode c_T_readDeed 35 = .ok (.ldc 71, 2) := by decide +kernel
theorem d_T_readDeed_37 : decode c_T_readDeed 37 = .ok (.invokevirtual 50, 3) := by decide +kernel
theorem d_T_readDeed_40 : decode c_T_readDeed 40 = .ok (.ifCond .eq 11, 3) := by decide +kernel
theorem d_T_readDeed_51 : decode c_T_readDeed 51 = .ok (.aload_n 0, 1) := by decide +kernel
theorem d_T_readDeed_52 : decode c_T_readDeed 52 = .ok (.aload_n 0, 1) := by decide +kernel
theorem d_T_readDeed_53 : decode c_T_readDeed 53 = .ok (.getfield 19, 3) := by decide +kernel
theorem d_T_readDeed_56 : decode c_T_readDeed 56 = .ok (.invokevirtual 73, 3) := by decide +kernel
theorem d_T_readDeed_59 : decode c_T_readDeed 59 = .ok (.return_, 1) := by decide +kernel
theorem d_T_readInto_0 : decode c_T_readInto 0 = .ok (.aload_n 0, 1) := by decide +kernel
theorem d_T_readInto_1 : decode c_T_readInto 1 = .ok (.iconst 0, 1) := by decide +kernel
theorem d_T_readInto_2 : decode c_T_readInto 2 = .ok (.putfield 19, 3) := by decide +kernel
theorem d_T_readInto_5 : decode c_T_readInto 5 = .ok (.aload_n 0, 1) := by decide +kernel
theorem d_T_readInto_6 : decode c_T_readInto 6 = .ok (.iconst (-1), 1) := by decide +kernel
theorem d_T_readInto_7 : decode c_T_readInto 7 = .ok (.putfield 22, 3) := by decide +kernel
theorem d_T_readInto_10 : decode c_T_readInto 10 = .ok (.aload_n 1, 1) := by decide +kernel
theorem d_T_readInto_11 : decode c_T_readInto 11 = .ok (.aload_n 0, 1) := by decide +kernel
theorem d_T_readInto_12 : decode c_T_readInto 12 = .ok (.ldc 25, 2) := by decide +kernel
theorem d_T_readInto_14 : decode c_T_readInto 14 = .ok (.iconst 1, 1) := by decide +kernel
theorem d_T_readInto_15 : decode c_T_readInto 15 = .ok (.bipush 9, 2) := by decide +kernel
theorem d_T_readInto_17 : decode c_T_readInto 17 = .ok (.invokevirtual 27, 3) := by decide +kernel
theorem d_T_readInto_20 : decode c_T_readInto 20 = .ok (.putfield 31, 3) := by decide +kernel
theorem d_T_readInto_23 : decode c_T_readInto 23 = .ok (.aload_n 1, 1) := by decide +kernel
theorem d_T_readInto_24 : decode c_T_readInto 24 = .ok (.aload_n 0, 1) := by decide +kernel
theorem d_T_readInto_25 : decode c_T_readInto 25 = .ok (.ldc 35, 2) := by decide +kernel
theorem d_T_readInto_27 : decode c_T_readInto 27 = .ok (.iconst 1, 1) := by decide +kernel
theorem d_T_readInto_28 : decode c_T_readInto 28 = .ok (.bipush 9, 2) := by decide +kernel
theorem d_T_readInto_30 : decode c_T_readInto 30 = .ok (.invokevirtual 27, 3) := by decide +kernel
theorem d_T_readInto_33 : decode c_T_readInto 33 = .ok (.putfield 37, 3) := by decide +kernel
theorem d_T_readInto_36 : decode c_T_readInto 36 = .ok (.aload_n 1, 1) := by decide +kernel
theorem d_T_readInto_37 : decode c_T_readInto 37 = .ok (.aload_n 0, 1) := by decide +kernel
theorem d_T_readInto_38 : decode c_T_readInto 38 = .ok (.ldc 39, 2) := by decide +kernel
theorem d_T_readInto_40 : decode c_T_readInto 40 = .ok (.iconst 2, 1) := by decide +kernel
theorem d_T_readInto_41 : decode c_T_readInto 41 = .ok (.bipush 49, 2) := by decide +kernel
theorem d_T_readInto_43 : decode c_T_readInto 43 = .ok (.invokevirtual 27, 3) := by decide +kernel
theorem d_T_readInto_46 : decode c_T_readInto 46 = .ok (.putfield 41, 3) := by decide +kernel
theorem d_T_readInto_49 : decode c_T_readInto 49 = .ok (.aload_n 0, 1) := by decide +kernel
theorem d_T_readInto_50 : decode c_T_readInto 50 = .ok (.aload_n 1, 1) := by decide +kernel
theorem d_T_readInto_51 : decode c_T_readInto 51 = .ok (.invokevirtual 43, 3) := by decide +kernel
theorem d_T_readInto_54 : decode c_T_readInto 54 = .ok (.aload_n 0, 1) := by decide +kernel
theorem d_T_readInto_55 : decode c_T_readInto 55 = .ok (.aload_n 1, 1) := by decide +kernel
theorem d_T_readInto_56 : decode c_T_readInto 56 = .ok (.invokevirtual 47, 3) := by decide +kernel
theorem d_T_readInto_59 : decode c_T_readInto 59 = .ok (.aload_n 0, 1) := by decide +kernel
theorem d_T_readInto_60 : decode c_T_readInto 60 = .ok (.getfield 22, 3) := by decide +kernel
theorem d_T_readInto_63 : decode c_T_readInto 63 = .ok (.ireturn, 1) := by decide +kernel
theorem d_T_readOption_0 : decode c_T_readOption 0 = .ok (.aload_n 0, 1) := by decide +kernel
theorem d_T_readOption_1 : decode c_T_readOption 1 = .ok (.aload_n 1, 1) := by decide +kernel
theorem d_T_readOption_2 : decode c_T_readOption 2 = .ok (.invokevirtual 79, 3) := by decide +kernel
theorem d_T_readOption_5 : decode c_T_readOption 5 = .ok (.ifCond .eq 14, 3) := by decide +kernel
theorem d_T_readOption_19 : decode c_T_readOption 19 = .ok (.iload_n 2, 1) := by decide +kernel
theorem d_T_readOption_20 : decode c_T_readOption 20 = .ok (.ireturn, 1) := by decide +kernel
theorem d_T_readRest_0 : decode c_T_readRest 0 = .ok (.aload_n 1, 1) := by decide +kernel
theorem d_T_readRest_1 : decode c_T_readRest 1 = .ok (.invokevirtual 85, 3) := by decide +kernel
theorem d_T_readRest_4 : decode c_T_readRest 4 = .ok (.ifCond .eq 45, 3) := by decide +kernel
theorem d_T_readRest_49 : decode c_T_readRest 49 = .ok (.aload_n 1, 1) := by decide +kernel
theorem d_T_readRest_50 : decode c_T_readRest 50 = .ok (.aload_n 0, 1) := by decide +kernel
theorem d_T_readRest_51 : decode c_T_readRest 51 = .ok (.ldc 107, 2) := by decide +kernel
theorem d_T_readRest_53 : decode c_T_readRest 53 = .ok (.aload_n 1, 1) := by decide +kernel
theorem d_T_readRest_54 : decode c_T_readRest 54 = .ok (.getfield 109, 3) := by decide +kernel
theorem d_T_readRest_57 : decode c_T_readRest 57 = .ok (.invokevirtual 94, 3) := by decide +kernel
theorem d_T_readRest_60 : decode c_T_readRest 60 = .ok (.putfield 109, 3) := by decide +kernel
theorem d_T_readRest_63 : decode c_T_readRest 63 = .ok (.aload_n 0, 1) := by decide +kernel
theorem d_T_readRest_64 : decode c_T_readRest 64 = .ok (.aload_n 0, 1) := by decide +kernel
theorem d_T_readRest_65 : decode c_T_readRest 65 = .ok (.getfield 19, 3) := by decide +kernel
theorem d_T_readRest_68 : decode c_T_readRest 68 = .ok (.invokevirtual 111, 3) := by decide +kernel
theorem d_T_readRest_71 : decode c_T_readRest 71 = .ok (.iconst (-1), 1) := by decide +kernel
theorem d_T_readRest_72 : decode c_T_readRest 72 = .ok (.if_icmp .eq 15, 3) := by decide +kernel
theorem d_T_readRest_87 : decode c_T_readRest 87 = .ok (.return_, 1) := by decide +kernel
theorem d_T_signAt_0 : decode c_T_signAt 0 = .ok (.iload_n 1, 1) := by decide +kernel
theorem d_T_signAt_1 : decode c_T_signAt 1 = .ok (.ifCond .lt 29, 3) := by decide +kernel
theorem d_T_signAt_4 : decode c_T_signAt 4 = .ok (.iload_n 1, 1) := by decide +kernel
theorem d_T_signAt_5 : decode c_T_signAt 5 = .ok (.aload_n 0, 1) := by decide +kernel
theorem d_T_signAt_6 : decode c_T_signAt 6 = .ok (.getfield 15, 3) := by decide +kernel
theorem d_T_signAt_9 : decode c_T_signAt 9 = .ok (.if_icmp .ge 21, 3) := by decide +kernel
theorem d_T_signAt_30 : decode c_T_signAt 30 = .ok (.iconst (-1), 1) := by decide +kernel
theorem d_T_signAt_31 : decode c_T_signAt 31 = .ok (.ireturn, 1) := by decide +kernel
theorem d_T_takesWord_0 : decode c_T_takesWord 0 = .ok (.aload_n 0, 1) := by decide +kernel
theorem d_T_takesWord_1 : decode c_T_takesWord 1 = .ok (.getfield 22, 3) := by decide +kernel
theorem d_T_takesWord_4 : decode c_T_takesWord 4 = .ok (.iconst (-1), 1) := by decide +kernel
theorem d_T_takesWord_5 : decode c_T_takesWord 5 = .ok (.if_icmp .eq 5, 3) := by decide +kernel
theorem d_T_takesWord_8 : decode c_T_takesWord 8 = .ok (.iconst 0, 1) := by decide +kernel
theorem d_T_takesWord_9 : decode c_T_takesWord 9 = .ok (.ireturn, 1) := by decide +kernel
theorem d_T_takesWord_10 : decode c_T_takesWord 10 = .ok (.iconst 0, 1) := by decide +kernel
theorem d_T_takesWord_11 : decode c_T_takesWord 11 = .ok (.istore_n 2, 1) := by decide +kernel
theorem d_T_takesWord_12 : decode c_T_takesWord 12 = .ok (.iload_n 2, 1) := by decide +kernel
theorem d_T_takesWord_13 : decode c_T_takesWord 13 = .ok (.aload_n 1, 1) := by decide +kernel
theorem d_T_takesWord_14 : decode c_T_takesWord 14 = .ok (.invokevirtual 115, 3) := by decide +kernel
theorem d_T_takesWord_17 : decode c_T_takesWord 17 = .ok (.if_icmp .ge 29, 3) := by decide +kernel
theorem d_T_takesWord_20 : decode c_T_takesWord 20 = .ok (.aload_n 0, 1) := by decide +kernel
theorem d_T_takesWord_21 : decode c_T_takesWord 21 = .ok (.aload_n 0, 1) := by decide +kernel
theorem d_T_takesWord_22 : decode c_T_takesWord 22 = .ok (.getfield 19, 3) := by decide +kernel
theorem d_T_takesWord_25 : decode c_T_takesWord 25 = .ok (.iload_n 2, 1) := by decide +kernel
theorem d_T_takesWord_26 : decode c_T_takesWord 26 = .ok (.iadd, 1) := by decide +kernel
theorem d_T_takesWord_27 : decode c_T_takesWord 27 = .ok (.invokevirtual 111, 3) := by decide +kernel
theorem d_T_takesWord_30 : decode c_T_takesWord 30 = .ok (.aload_n 1, 1) := by decide +kernel
theorem d_T_takesWord_31 : decode c_T_takesWord 31 = .ok (.iload_n 2, 1) := by decide +kernel
theorem d_T_takesWord_32 : decode c_T_takesWord 32 = .ok (.invokevirtual 120, 3) := by decide +kernel
theorem d_T_takesWord_35 : decode c_T_takesWord 35 = .ok (.if_icmp .eq 5, 3) := by decide +kernel
theorem d_T_takesWord_38 : decode c_T_takesWord 38 = .ok (.iconst 0, 1) := by decide +kernel
theorem d_T_takesWord_39 : decode c_T_takesWord 39 = .ok (.ireturn, 1) := by decide +kernel
theorem d_T_takesWordBehindSpace_0 : decode c_T_takesWordBehindSpace 0 = .ok (.aload_n 0, 1) := by decide +kernel
theorem d_T_takesWordBehindSpace_1 : decode c_T_takesWordBehindSpace 1 = .ok (.aload_n 0, 1) := by decide +kernel
theorem d_T_takesWordBehindSpace_2 : decode c_T_takesWordBehindSpace 2 = .ok (.getfield 19, 3) := by decide +kernel
theorem d_T_takesWordBehindSpace_5 : decode c_T_takesWordBehindSpace 5 = .ok (.invokevirtual 111, 3) := by decide +kernel
theorem d_T_takesWordBehindSpace_8 : decode c_T_takesWordBehindSpace 8 = .ok (.bipush 32, 2) := by decide +kernel
theorem d_T_takesWordBehindSpace_10 : decode c_T_takesWordBehindSpace 10 = .ok (.if_icmp .eq 5, 3) := by decide +kernel
theorem d_T_takesWordBehindSpace_13 : decode c_T_takesWordBehindSpace 13 = .ok (.iconst 0, 1) := by decide +kernel
theorem d_T_takesWordBehindSpace_14 : decode c_T_takesWordBehindSpace 14 = .ok (.ireturn, 1) := by decide +kernel
end
section
theorem wn_P {D : va_G} {cl : List vw_C} {H : Heap} : va_P D cl [] H := fun k q h => by simp at h
theorem wn_D {A : Nat → Prop} : va_D A [] := ⟨fun i j p q h => by simp at h, fun k q h => by simp at h⟩
theorem lk_no {x : Int32} (h : ¬ x < 0) : 0 ≤ x := Int32.not_lt.mp h
theorem lk_no1 {x : Int32} (h : ¬ x < 1) : 0 < x := by
  have h1 := Int32.not_lt.mp h
  rw [Int32.le_iff_toInt_le] at h1
  rw [Int32.lt_iff_toInt_lt]
  have e1 : (1 : Int32).toInt = 1 := by decide
  have e0 : (0 : Int32).toInt = 0 := by decide
  omega
theorem lk_ge40 {i : Nat} (h : i < 40) : ¬ (40 : Int32) ≤ nI i := by
  have e : (40 : Int32) = nI 40 := by decide
  rw [e]; exact nI_ge h (by decide)
theorem lk_ge2000 {i : Nat} (h : i < 2000) : ¬ (2000 : Int32) ≤ nI i := by
  have e : (2000 : Int32) = nI 2000 := by decide
  rw [e]; exact nI_ge h (by decide)
theorem fl_gen {p : Program} {l : Launch} {e : Env} {R : Room} {s : State} {m : MethodId} {args : Array Value} {below : List Frame} {meth : Method} {c : Code} {H : Heap} {locs : List Loc} {cells slots : Nat} {Q : State → Prop} {g : JFrame} (h : H = s.heap) (h2 : locs = []) (k : W p l e R s m args below meth c H locs cells slots Q g) : W p l e R s m args below meth c s.heap [] cells slots Q g := by
  rw [← h, ← h2]; exact k
theorem lk_in {x : Int32} {n : Nat} (N : Int32) (hN : N.toInt = n) (h0 : ¬ x < 0) (h1 : ¬ N ≤ x) : vp_in x n := by
  rw [vp_in_iff]
  rw [Int32.not_lt, Int32.le_iff_toInt_le] at h0
  rw [Int32.not_le, Int32.lt_iff_toInt_lt] at h1
  have e0 : (0 : Int32).toInt = 0 := by decide
  omega
theorem lz_ushr (u : UInt64) : ((0 : Int64).toUInt64 >>> u).toInt64 = 0 := by
  have : (0 : Int64).toUInt64 = 0 := by decide
  rw [this, UInt64.zero_shiftRight]; rfl
theorem lk_16 (x : Int32) : x &&& 15 = 0 ∨ x &&& 15 = 1 ∨ x &&& 15 = 2 ∨ x &&& 15 = 3 ∨ x &&& 15 = 4 ∨ x &&& 15 = 5 ∨ x &&& 15 = 6 ∨ x &&& 15 = 7 ∨ x &&& 15 = 8 ∨ x &&& 15 = 9 ∨ x &&& 15 = 10 ∨ x &&& 15 = 11 ∨ x &&& 15 = 12 ∨ x &&& 15 = 13 ∨ x &&& 15 = 14 ∨ x &&& 15 = 15 := by
  obtain ⟨j, hj, e⟩ := pk_andE x (m := 15) 4 (by decide)
  rw [e]
  have : ∀ j, j < 16 → (nI j = 0 ∨ nI j = 1 ∨ nI j = 2 ∨ nI j = 3 ∨ nI j = 4 ∨ nI j = 5 ∨ nI j = 6 ∨ nI j = 7 ∨ nI j = 8 ∨ nI j = 9 ∨ nI j = 10 ∨ nI j = 11 ∨ nI j = 12 ∨ nI j = 13 ∨ nI j = 14 ∨ nI j = 15) := by decide
  exact this j hj
def nst : Nat := 7
def kz_len : List Nat := [4, 6, 4, 4, 4, 4, 6]
def kz_byt : List (List Int32) := [[108, 101, 110, 100], [114, 101, 102, 117, 115, 101], [102, 97, 105, 108], [114, 97, 110, 107], [107, 105, 110, 100], [116, 121, 112, 101], [112, 101, 114, 115, 111, 110]]
def zz (adK adV : Nat → Nat) (A : Nat → Prop) (U : State) : Prop :=
  va_Nw (.methodLinkNest "LoanRules$DaySet" 15 y_C_isDay "LoanRules") U ∧ va_Nw (.methodLinkNest "LoanRules" 11 y_T_init "LoanRules") U ∧ va_Nw (.methodLinkNest "LoanRules" 28 y_D_init "LoanRules") U ∧ va_Nw (.methodLinkNest "LoanRules" 84 y_R_init "LoanRules") U ∧ va_AO "LoanRules$Loan" U ∧ va_AO "LoanRules$Rule" U ∧ vk_R "LoanRules$RuleText" 25 "kind" (adK 4) U ∧ vk_R "LoanRules$RuleText" 35 "type" (adK 5) U ∧ vk_R "LoanRules$RuleText" 39 "person" (adK 6) U ∧ vk_R "LoanRules$RuleText" 61 "lend" (adK 0) U ∧ vk_R "LoanRules$RuleText" 66 "refuse" (adK 1) U ∧ vk_R "LoanRules$RuleText" 71 "fail" (adK 2) U ∧ vk_R "LoanRules$RuleText" 107 "rank" (adK 3) U ∧ va_Z "java/lang/String" "COMPACT_STRINGS" "Z" (.int 1) A U U.heap ∧ va_Zq "jdk/internal/util/Preconditions" "SIOOBE_FORMATTER" "Ljava/util/function/BiFunction;" A U U.heap ∧ vk_S nst kz_len kz_byt adK adV A U U.heap
theorem zn_D_15 {adK adV : Nat → Nat} {A : Nat → Prop} {U : State} (h : zz adK adV A U) : va_Nw (.methodLinkNest "LoanRules$DaySet" 15 y_C_isDay "LoanRules") U := by
  obtain ⟨h0, h1, h2, h3, h4, h5, h6, h7, h8, h9, h10, h11, h12, h13, h14, h15⟩ := h
  exact h0
theorem zn_C_11 {adK adV : Nat → Nat} {A : Nat → Prop} {U : State} (h : zz adK adV A U) : va_Nw (.methodLinkNest "LoanRules" 11 y_T_init "LoanRules") U := by
  obtain ⟨h0, h1, h2, h3, h4, h5, h6, h7, h8, h9, h10, h11, h12, h13, h14, h15⟩ := h
  exact h1
theorem zn_C_28 {adK adV : Nat → Nat} {A : Nat → Prop} {U : State} (h : zz adK adV A U) : va_Nw (.methodLinkNest "LoanRules" 28 y_D_init "LoanRules") U := by
  obtain ⟨h0, h1, h2, h3, h4, h5, h6, h7, h8, h9, h10, h11, h12, h13, h14, h15⟩ := h
  exact h2
theorem zn_C_84 {adK adV : Nat → Nat} {A : Nat → Prop} {U : State} (h : zz adK adV A U) : va_Nw (.methodLinkNest "LoanRules" 84 y_R_init "LoanRules") U := by
  obtain ⟨h0, h1, h2, h3, h4, h5, h6, h7, h8, h9, h10, h11, h12, h13, h14, h15⟩ := h
  exact h3
theorem zo_N {adK adV : Nat → Nat} {A : Nat → Prop} {U : State} (h : zz adK adV A U) : va_AO "LoanRules$Loan" U := by
  obtain ⟨h0, h1, h2, h3, h4, h5, h6, h7, h8, h9, h10, h11, h12, h13, h14, h15⟩ := h
  exact h4
theorem zo_R {adK adV : Nat → Nat} {A : Nat → Prop} {U : State} (h : zz adK adV A U) : va_AO "LoanRules$Rule" U := by
  obtain ⟨h0, h1, h2, h3, h4, h5, h6, h7, h8, h9, h10, h11, h12, h13, h14, h15⟩ := h
  exact h5
theorem zs_T_25 {adK adV : Nat → Nat} {A : Nat → Prop} {U : State} (h : zz adK adV A U) : vk_R "LoanRules$RuleText" 25 "kind" (adK 4) U := by
  obtain ⟨h0, h1, h2, h3, h4, h5, h6, h7, h8, h9, h10, h11, h12, h13, h14, h15⟩ := h
  exact h6
theorem zs_T_35 {adK adV : Nat → Nat} {A : Nat → Prop} {U : State} (h : zz adK adV A U) : vk_R "LoanRules$RuleText" 35 "type" (adK 5) U := by
  obtain ⟨h0, h1, h2, h3, h4, h5, h6, h7, h8, h9, h10, h11, h12, h13, h14, h15⟩ := h
  exact h7
theorem zs_T_39 {adK adV : Nat → Nat} {A : Nat → Prop} {U : State} (h : zz adK adV A U) : vk_R "LoanRules$RuleText" 39 "person" (adK 6) U := by
  obtain ⟨h0, h1, h2, h3, h4, h5, h6, h7, h8, h9, h10, h11, h12, h13, h14, h15⟩ := h
  exact h8
theorem zs_T_61 {adK adV : Nat → Nat} {A : Nat → Prop} {U : State} (h : zz adK adV A U) : vk_R "LoanRules$RuleText" 61 "lend" (adK 0) U := by
  obtain ⟨h0, h1, h2, h3, h4, h5, h6, h7, h8, h9, h10, h11, h12, h13, h14, h15⟩ := h
  exact h9
theorem zs_T_66 {adK adV : Nat → Nat} {A : Nat → Prop} {U : State} (h : zz adK adV A U) : vk_R "LoanRules$RuleText" 66 "refuse" (adK 1) U := by
  obtain ⟨h0, h1, h2, h3, h4, h5, h6, h7, h8, h9, h10, h11, h12, h13, h14, h15⟩ := h
  exact h10
theorem zs_T_71 {adK adV : Nat → Nat} {A : Nat → Prop} {U : State} (h : zz adK adV A U) : vk_R "LoanRules$RuleText" 71 "fail" (adK 2) U := by
  obtain ⟨h0, h1, h2, h3, h4, h5, h6, h7, h8, h9, h10, h11, h12, h13, h14, h15⟩ := h
  exact h11
theorem zs_T_107 {adK adV : Nat → Nat} {A : Nat → Prop} {U : State} (h : zz adK adV A U) : vk_R "LoanRules$RuleText" 107 "rank" (adK 3) U := by
  obtain ⟨h0, h1, h2, h3, h4, h5, h6, h7, h8, h9, h10, h11, h12, h13, h14, h15⟩ := h
  exact h12
theorem zz_cs {adK adV : Nat → Nat} {A : Nat → Prop} {U : State} (h : zz adK adV A U) : va_Z "java/lang/String" "COMPACT_STRINGS" "Z" (.int 1) A U U.heap := by
  obtain ⟨h0, h1, h2, h3, h4, h5, h6, h7, h8, h9, h10, h11, h12, h13, h14, h15⟩ := h
  exact h13
theorem zz_sf {adK adV : Nat → Nat} {A : Nat → Prop} {U : State} (h : zz adK adV A U) : va_Zq "jdk/internal/util/Preconditions" "SIOOBE_FORMATTER" "Ljava/util/function/BiFunction;" A U U.heap := by
  obtain ⟨h0, h1, h2, h3, h4, h5, h6, h7, h8, h9, h10, h11, h12, h13, h14, h15⟩ := h
  exact h14
theorem zz_S {adK adV : Nat → Nat} {A : Nat → Prop} {U : State} (h : zz adK adV A U) : vk_S nst kz_len kz_byt adK adV A U U.heap := by
  obtain ⟨h0, h1, h2, h3, h4, h5, h6, h7, h8, h9, h10, h11, h12, h13, h14, h15⟩ := h
  exact h15
theorem zz_call {adK adV : Nat → Nat} {A : Nat → Prop} {U : State} {g : JFrame} {mk : MethodId} {a : Array Value} (h : zz adK adV A U) : zz adK adV A (U.calling g mk a) := by
  obtain ⟨h0, h1, h2, h3, h4, h5, h6, h7, h8, h9, h10, h11, h12, h13, h14, h15⟩ := h
  exact ⟨va_Nw.same rfl (u := U) rfl h0, va_Nw.same rfl (u := U) rfl h1, va_Nw.same rfl (u := U) rfl h2, va_Nw.same rfl (u := U) rfl h3, va_AO.moved (Vm.Alike.refl U.vm) h4, va_AO.moved (Vm.Alike.refl U.vm) h5, vk_R.same (u := U) rfl h6, vk_R.same (u := U) rfl h7, vk_R.same (u := U) rfl h8, vk_R.same (u := U) rfl h9, vk_R.same (u := U) rfl h10, vk_R.same (u := U) rfl h11, vk_R.same (u := U) rfl h12, va_Z.moved (Vm.Alike.refl U.vm) h13, va_Zq.moved (Vm.Alike.refl U.vm) h14, vk_S.moved (Vm.Alike.refl U.vm) h15⟩
theorem zz_rr {adK adV : Nat → Nat} {A : Nat → Prop} {s U : State} (hU : U.heap = s.heap) (hW : s.WarmedH U.vm) (h : zz adK adV A s) : zz adK adV A U := by
  obtain ⟨h0, h1, h2, h3, h4, h5, h6, h7, h8, h9, h10, h11, h12, h13, h14, h15⟩ := h
  exact ⟨va_Nw.warmM hW h0, va_Nw.warmM hW h1, va_Nw.warmM hW h2, va_Nw.warmM hW h3, va_AO.moved hW.alike h4, va_AO.moved hW.alike h5, vk_R.warm hW h6, vk_R.warm hW h7, vk_R.warm hW h8, vk_R.warm hW h9, vk_R.warm hW h10, vk_R.warm hW h11, vk_R.warm hW h12, by rw [hU]; exact va_Z.moved hW.alike h13, by rw [hU]; exact va_Zq.moved hW.alike h14, by rw [hU]; exact vk_S.moved hW.alike h15⟩
theorem zz_ro {adK adV : Nat → Nat} {A : Nat → Prop} {s U : State} {H : Heap} {locs : List Loc} (hS : va_S A s.heap H locs) (hU : U.heap = H) (hW : s.WarmedH U.vm) (h : zz adK adV A s) : zz adK adV (fun _ => False) U := by
  obtain ⟨h0, h1, h2, h3, h4, h5, h6, h7, h8, h9, h10, h11, h12, h13, h14, h15⟩ := h
  exact ⟨va_Nw.warmM hW h0, va_Nw.warmM hW h1, va_Nw.warmM hW h2, va_Nw.warmM hW h3, va_AO.moved hW.alike h4, va_AO.moved hW.alike h5, vk_R.warm hW h6, vk_R.warm hW h7, vk_R.warm hW h8, vk_R.warm hW h9, vk_R.warm hW h10, vk_R.warm hW h11, vk_R.warm hW h12, by rw [hU]; exact (va_Z.moved hW.alike (h13.kept hS.2.1)).narrow (fun _ h => h.elim), by rw [hU]; exact (va_Zq.moved hW.alike (h14.kept hS.2.1)).narrow (fun _ h => h.elim), by rw [hU]; exact (vk_S.moved hW.alike (h15.kept hS.2.1)).narrow (fun _ h => h.elim)⟩
theorem zz_rw {adK adV : Nat → Nat} {A A1 : Nat → Prop} {s U : State} {H : Heap} {locs : List Loc} (hS : va_S A s.heap H locs) (hF : ∀ q, A1 q → A q) (hU : U.heap = H) (hW : s.WarmedH U.vm) (h : zz adK adV A s) : zz adK adV A1 U := by
  obtain ⟨h0, h1, h2, h3, h4, h5, h6, h7, h8, h9, h10, h11, h12, h13, h14, h15⟩ := h
  exact ⟨va_Nw.warmM hW h0, va_Nw.warmM hW h1, va_Nw.warmM hW h2, va_Nw.warmM hW h3, va_AO.moved hW.alike h4, va_AO.moved hW.alike h5, vk_R.warm hW h6, vk_R.warm hW h7, vk_R.warm hW h8, vk_R.warm hW h9, vk_R.warm hW h10, vk_R.warm hW h11, vk_R.warm hW h12, by rw [hU]; exact (va_Z.moved hW.alike (h13.kept hS.2.1)).narrow hF, by rw [hU]; exact (va_Zq.moved hW.alike (h14.kept hS.2.1)).narrow hF, by rw [hU]; exact (vk_S.moved hW.alike (h15.kept hS.2.1)).narrow hF⟩
theorem zk_pos {iw : Nat} (h : iw < nst) : (0 : Int32) < nI (kz_len.getD iw 0) := by
  have : ∀ k, k < nst → (0 : Int32) < nI (kz_len.getD k 0) := by decide
  exact this iw h
theorem zk_len {iw : Nat} (h : iw < nst) : ¬ nI (kz_len.getD iw 0) ≤ 0 := by
  have : ∀ k, k < nst → ¬ nI (kz_len.getD k 0) ≤ 0 := by decide
  exact this iw h
theorem zk_in {iw : Nat} (h : iw < nst) : vp_in 0 (kz_len.getD iw 0) := by
  have : ∀ k, k < nst → ¬ ((0 : Int32) < 0 ∨ (kz_len.getD k 0) ≤ (0 : Int32).toNatClampNeg) := by decide
  exact this iw h
theorem zk_chr {x : Int32} : ¬ (-1 : Int32) = (x.toUInt32 % 65536).toInt32 := by
  rw [pk_char]
  intro h
  have h1 := congrArg Int32.toInt h
  rw [nI_toInt (by omega)] at h1
  have e : (-1 : Int32).toInt = -1 := by decide
  omega
end
section
def g_isDay (p0 : Int32) : Int32 :=
  if p0 < 0 then
    0
  else
    if 10000 ≤ p0 then
      0
    else
      1
set_option maxHeartbeats 4000000 in
set_option maxRecDepth 100000 in
theorem c_isDay (l : Launch) (dC : Nat → ClassId) (dI : Nat → Nat → Nat) (adK adV : Nat → Nat) (p0 : Int32) : Met l y_C_isDay ws_C_isDay ({ frames := 0, cells := 0, slots := 0, locals := 0 }) (va_Pc [.int p0] (fun U => zz adK adV (fun _ => False) U ∧ va_P (dC, dI) vwCl [] U.heap ∧ va_K (dC, dI) vwCl [] U)) (vp_Si (fun r => r = g_isDay p0)) 0 0 (fun _ => False) := by
  refine Met.ofW (cc := c_C_isDay) (maxL := 1) (ret := (some .boolean)) (by decide) rfl ?_
  intro p e s m args below meth c s₁ B hml hv
  obtain ⟨rfl, hZ, hP, hK⟩ := hv
  have hx := B.exec
  have hb := B.bytes
  have hr := B.returns
  have hts0 := atoms_spec (ws := ws_C_isDay) B.pre
  have hts : ∀ w ∈ TT, w.before _ s = true := fun w h => hts0 w (List.mem_cons_of_mem _ h)
  have hown : s.vm.findClass "LoanRules" = some m.cls := findClass_of_methodNamed B.named
  have hlocks := B.notSynchronized
  have hS : va_S (fun _ => False) s.heap s.heap [] := va_S.rf
  replace hP : va_P (dC, dI) vwCl [] s.heap := hP
  have hl := lv_entry ([.int p0]) (n := 1) (Nat.le_of_ble_eq_true rfl)
  rw [lg_entry_eq]
  generalize (lg_sl ([.int p0]) ++ List.replicate (1 - (lg_sl ([.int p0])).length) Slot.unset).toArray = ls at hl ⊢
  replace hl : lv_has ls 1 [(0, .int p0)] := hl
  obtain ⟨z, hz⟩ : ∃ z, z = g_isDay p0 := ⟨_, rfl⟩
  have hE := hz
  rw [g_isDay] at hE
  refine lv_iload_n hx hb d_C_isDay_0 rfl (lv_at hl 0 rfl) ?_
  refine lv_if_lt (tgt := 15) hx hb d_C_isDay_1 (by decide) (fun c_1 => ?_) (fun c_1 => ?_)
  · rw [if_pos c_1] at hE
    refine lv_iconst (v := 0) hx hb d_C_isDay_15 (by decide) ?_
    exact W.zret (v := 0) hx hb hr rfl (fun t ht hW => ⟨0, rfl, hE.symm.trans hz, ht⟩) (fun _ h => by cases h) d_C_isDay_16
  · rw [if_neg c_1] at hE
    refine lv_iload_n hx hb d_C_isDay_4 rfl (lv_at hl 0 rfl) ?_
    refine lv_sipush (v := 10000) hx hb d_C_isDay_5 (by decide) ?_
    refine lv_icmp_ge (tgt := 15) hx hb d_C_isDay_8 (by decide) (fun c_2 => ?_) (fun c_2 => ?_)
    · rw [if_pos c_2] at hE
      refine lv_iconst (v := 0) hx hb d_C_isDay_15 (by decide) ?_
      exact W.zret (v := 0) hx hb hr rfl (fun t ht hW => ⟨0, rfl, hE.symm.trans hz, ht⟩) (fun _ h => by cases h) d_C_isDay_16
    · rw [if_neg c_2] at hE
      refine lv_iconst (v := 1) hx hb d_C_isDay_11 (by decide) ?_
      refine lv_goto (tgt := 16) hx hb d_C_isDay_12 (by decide) ?_
      exact W.zret (v := 1) hx hb hr rfl (fun t ht hW => ⟨1, rfl, hE.symm.trans hz, ht⟩) (fun _ h => by cases h) d_C_isDay_16
def g_isPerson (p0 : Int32) : Int32 :=
  if p0 < 0 then
    0
  else
    if 50 ≤ p0 then
      0
    else
      1
set_option maxHeartbeats 4000000 in
set_option maxRecDepth 100000 in
theorem c_isPerson (l : Launch) (dC : Nat → ClassId) (dI : Nat → Nat → Nat) (adK adV : Nat → Nat) (p0 : Int32) : Met l y_C_isPerson ws_C_isPerson ({ frames := 0, cells := 0, slots := 0, locals := 0 }) (va_Pc [.int p0] (fun U => zz adK adV (fun _ => False) U ∧ va_P (dC, dI) vwCl [] U.heap ∧ va_K (dC, dI) vwCl [] U)) (vp_Si (fun r => r = g_isPerson p0)) 0 0 (fun _ => False) := by
  refine Met.ofW (cc := c_C_isPerson) (maxL := 1) (ret := (some .boolean)) (by decide) rfl ?_
  intro p e s m args below meth c s₁ B hml hv
  obtain ⟨rfl, hZ, hP, hK⟩ := hv
  have hx := B.exec
  have hb := B.bytes
  have hr := B.returns
  have hts0 := atoms_spec (ws := ws_C_isPerson) B.pre
  have hts : ∀ w ∈ TT, w.before _ s = true := fun w h => hts0 w (List.mem_cons_of_mem _ h)
  have hown : s.vm.findClass "LoanRules" = some m.cls := findClass_of_methodNamed B.named
  have hlocks := B.notSynchronized
  have hS : va_S (fun _ => False) s.heap s.heap [] := va_S.rf
  replace hP : va_P (dC, dI) vwCl [] s.heap := hP
  have hl := lv_entry ([.int p0]) (n := 1) (Nat.le_of_ble_eq_true rfl)
  rw [lg_entry_eq]
  generalize (lg_sl ([.int p0]) ++ List.replicate (1 - (lg_sl ([.int p0])).length) Slot.unset).toArray = ls at hl ⊢
  replace hl : lv_has ls 1 [(0, .int p0)] := hl
  obtain ⟨z, hz⟩ : ∃ z, z = g_isPerson p0 := ⟨_, rfl⟩
  have hE := hz
  rw [g_isPerson] at hE
  refine lv_iload_n hx hb d_C_isPerson_0 rfl (lv_at hl 0 rfl) ?_
  refine lv_if_lt (tgt := 14) hx hb d_C_isPerson_1 (by decide) (fun c_1 => ?_) (fun c_1 => ?_)
  · rw [if_pos c_1] at hE
    refine lv_iconst (v := 0) hx hb d_C_isPerson_14 (by decide) ?_
    exact W.zret (v := 0) hx hb hr rfl (fun t ht hW => ⟨0, rfl, hE.symm.trans hz, ht⟩) (fun _ h => by cases h) d_C_isPerson_15
  · rw [if_neg c_1] at hE
    refine lv_iload_n hx hb d_C_isPerson_4 rfl (lv_at hl 0 rfl) ?_
    refine lv_bipush (v := 50) hx hb d_C_isPerson_5 (by decide) ?_
    refine lv_icmp_ge (tgt := 14) hx hb d_C_isPerson_7 (by decide) (fun c_2 => ?_) (fun c_2 => ?_)
    · rw [if_pos c_2] at hE
      refine lv_iconst (v := 0) hx hb d_C_isPerson_14 (by decide) ?_
      exact W.zret (v := 0) hx hb hr rfl (fun t ht hW => ⟨0, rfl, hE.symm.trans hz, ht⟩) (fun _ h => by cases h) d_C_isPerson_15
    · rw [if_neg c_2] at hE
      refine lv_iconst (v := 1) hx hb d_C_isPerson_10 (by decide) ?_
      refine lv_goto (tgt := 15) hx hb d_C_isPerson_11 (by decide) ?_
      exact W.zret (v := 1) hx hb hr rfl (fun t ht hW => ⟨1, rfl, hE.symm.trans hz, ht⟩) (fun _ h => by cases h) d_C_isPerson_15
def g_isItem (p0 : Int32) : Int32 :=
  if p0 < 0 then
    0
  else
    if 50 ≤ p0 then
      0
    else
      1
set_option maxHeartbeats 4000000 in
set_option maxRecDepth 100000 in
theorem c_isItem (l : Launch) (dC : Nat → ClassId) (dI : Nat → Nat → Nat) (adK adV : Nat → Nat) (p0 : Int32) : Met l y_C_isItem ws_C_isItem ({ frames := 0, cells := 0, slots := 0, locals := 0 }) (va_Pc [.int p0] (fun U => zz adK adV (fun _ => False) U ∧ va_P (dC, dI) vwCl [] U.heap ∧ va_K (dC, dI) vwCl [] U)) (vp_Si (fun r => r = g_isItem p0)) 0 0 (fun _ => False) := by
  refine Met.ofW (cc := c_C_isItem) (maxL := 1) (ret := (some .boolean)) (by decide) rfl ?_
  intro p e s m args below meth c s₁ B hml hv
  obtain ⟨rfl, hZ, hP, hK⟩ := hv
  have hx := B.exec
  have hb := B.bytes
  have hr := B.returns
  have hts0 := atoms_spec (ws := ws_C_isItem) B.pre
  have hts : ∀ w ∈ TT, w.before _ s = true := fun w h => hts0 w (List.mem_cons_of_mem _ h)
  have hown : s.vm.findClass "LoanRules" = some m.cls := findClass_of_methodNamed B.named
  have hlocks := B.notSynchronized
  have hS : va_S (fun _ => False) s.heap s.heap [] := va_S.rf
  replace hP : va_P (dC, dI) vwCl [] s.heap := hP
  have hl := lv_entry ([.int p0]) (n := 1) (Nat.le_of_ble_eq_true rfl)
  rw [lg_entry_eq]
  generalize (lg_sl ([.int p0]) ++ List.replicate (1 - (lg_sl ([.int p0])).length) Slot.unset).toArray = ls at hl ⊢
  replace hl : lv_has ls 1 [(0, .int p0)] := hl
  obtain ⟨z, hz⟩ : ∃ z, z = g_isItem p0 := ⟨_, rfl⟩
  have hE := hz
  rw [g_isItem] at hE
  refine lv_iload_n hx hb d_C_isItem_0 rfl (lv_at hl 0 rfl) ?_
  refine lv_if_lt (tgt := 14) hx hb d_C_isItem_1 (by decide) (fun c_1 => ?_) (fun c_1 => ?_)
  · rw [if_pos c_1] at hE
    refine lv_iconst (v := 0) hx hb d_C_isItem_14 (by decide) ?_
    exact W.zret (v := 0) hx hb hr rfl (fun t ht hW => ⟨0, rfl, hE.symm.trans hz, ht⟩) (fun _ h => by cases h) d_C_isItem_15
  · rw [if_neg c_1] at hE
    refine lv_iload_n hx hb d_C_isItem_4 rfl (lv_at hl 0 rfl) ?_
    refine lv_bipush (v := 50) hx hb d_C_isItem_5 (by decide) ?_
    refine lv_icmp_ge (tgt := 14) hx hb d_C_isItem_7 (by decide) (fun c_2 => ?_) (fun c_2 => ?_)
    · rw [if_pos c_2] at hE
      refine lv_iconst (v := 0) hx hb d_C_isItem_14 (by decide) ?_
      exact W.zret (v := 0) hx hb hr rfl (fun t ht hW => ⟨0, rfl, hE.symm.trans hz, ht⟩) (fun _ h => by cases h) d_C_isItem_15
    · rw [if_neg c_2] at hE
      refine lv_iconst (v := 1) hx hb d_C_isItem_10 (by decide) ?_
      refine lv_goto (tgt := 15) hx hb d_C_isItem_11 (by decide) ?_
      exact W.zret (v := 1) hx hb hr rfl (fun t ht hW => ⟨1, rfl, hE.symm.trans hz, ht⟩) (fun _ h => by cases h) d_C_isItem_15
theorem in_person {x : Int32} (h : ¬ g_isPerson x = 0) : vp_in x 50 := by
  unfold g_isPerson at h
  split at h
  · exact absurd rfl h
  · split at h
    · exact absurd rfl h
    · exact lk_in 50 (by decide) (by assumption) (by assumption)
theorem in_item {x : Int32} (h : ¬ g_isItem x = 0) : vp_in x 50 := by
  unfold g_isItem at h
  split at h
  · exact absurd rfl h
  · split at h
    · exact absurd rfl h
    · exact lk_in 50 (by decide) (by assumption) (by assumption)
theorem in_day {x : Int32} (h : ¬ g_isDay x = 0) : vp_in (x / 64) 157 := by
  have h1 : vp_in x 10000 := by
    unfold g_isDay at h
    split at h
    · exact absurd rfl h
    · split at h
      · exact absurd rfl h
      · exact lk_in 10000 (by decide) (by assumption) (by assumption)
  obtain ⟨j, hj, rfl⟩ := vp_in_of h1 (by decide)
  have e : nI j / 64 = nI (j / 64) := by
    have := pk_div (a := j) (d := 64) (by omega) (by decide) (by decide)
    exact this
  rw [e]; exact vp_in_nI (by omega) (by decide)
set_option maxHeartbeats 4000000 in
set_option maxRecDepth 100000 in
theorem c_ruleAt (l : Launch) (dC : Nat → ClassId) (dI : Nat → Nat → Nat) (adK adV : Nat → Nat) (a_h : Nat) (p0 : Int32) (a_tx : Nat) (a_ru : Nat) (a_cd : Nat) (a_te : Nat) (a_ki : Nat) (a_ca : Nat) (a_ty : Nat) (a_io : Nat) (a_ex : Nat) (a_lo : Nat) (a_fi : Nat) (a_cl : Nat) : Met l y_C_ruleAt ws_C_ruleAt ({ frames := 0, cells := 0, slots := 0, locals := 0 }) (va_Pc [.ref a_h, .int p0] (fun U => zz adK adV (fun _ => False) U ∧ va_P (dC, dI) vwCl [(a_h, .inr (0, [.ref a_tx, .ref a_ru, .int 0, .ref a_cd, .ref a_te, .ref a_ki, .ref a_ca, .ref a_ty, .ref a_io, .ref a_ex, .ref a_lo, .int 0, .ref a_fi, .int 0, .ref a_cl, .int 0]))] U.heap ∧ va_K (dC, dI) vwCl [] U)) (va_Sq (fun r => r = none)) 0 0 (fun _ => False) := by
  refine Met.ofW (cc := c_C_ruleAt) (maxL := 2) (ret := (some (.object "LoanRules$Rule"))) (by decide) rfl ?_
  intro p e s m args below meth c s₁ B hml hv
  obtain ⟨rfl, hZ, hP, hK⟩ := hv
  have hx := B.exec
  have hb := B.bytes
  have hr := B.returns
  have hts0 := atoms_spec (ws := ws_C_ruleAt) B.pre
  have hts : ∀ w ∈ TT, w.before _ s = true := fun w h => hts0 w (List.mem_cons_of_mem _ h)
  have hown : s.vm.findClass "LoanRules" = some m.cls := findClass_of_methodNamed B.named
  have hlocks := B.notSynchronized
  have hS : va_S (fun _ => False) s.heap s.heap [] := va_S.rf
  replace hP : va_P (dC, dI) vwCl [(a_h, .inr (0, [.ref a_tx, .ref a_ru, .int 0, .ref a_cd, .ref a_te, .ref a_ki, .ref a_ca, .ref a_ty, .ref a_io, .ref a_ex, .ref a_lo, .int 0, .ref a_fi, .int 0, .ref a_cl, .int 0]))] s.heap := hP
  have hl := lv_entry ([.ref a_h, .int p0]) (n := 2) (Nat.le_of_ble_eq_true rfl)
  rw [lg_entry_eq]
  generalize (lg_sl ([.ref a_h, .int p0]) ++ List.replicate (2 - (lg_sl ([.ref a_h, .int p0])).length) Slot.unset).toArray = ls at hl ⊢
  replace hl : lv_has ls 2 [(0, .ref a_h), (1, .int p0)] := hl
  refine lv_iload_n hx hb d_C_ruleAt_0 rfl (lv_at hl 1 rfl) ?_
  refine lv_if_lt (tgt := 30) hx hb d_C_ruleAt_1 (by decide) (fun c_1 => ?_) (fun c_1 => ?_)
  · refine lv_null hx hb d_C_ruleAt_30 ?_
    exact W.aret (v := va_rf none) hx hb hr (Or.inl ⟨_, rfl⟩) (va_rf_or _) (fun t ht hW => ⟨none, rfl, rfl, ht⟩) (fun _ h => by cases h) d_C_ruleAt_31
  · refine lv_iload_n hx hb d_C_ruleAt_4 rfl (lv_at hl 1 rfl) ?_
    refine lv_aload_n hx hb d_C_ruleAt_5 rfl (lv_at hl 0 rfl) ?_
    refine va_get (D := (dC, dI)) (ci := 0) (v := .int 0) (C := "LoanRules") (T := Fz_C) (N := 16) hx hb hts it_C hown hK hP 0 rfl rfl 2 (by decide) (hts _ tw_106) (fun _ h9 => h9) rfl d_C_ruleAt_6 ?_
    refine lv_icmp_ge (tgt := 30) hx hb d_C_ruleAt_9 (by decide) (fun c_2 => ?_) (fun c_2 => ?_)
    · refine lv_null hx hb d_C_ruleAt_30 ?_
      exact W.aret (v := va_rf none) hx hb hr (Or.inl ⟨_, rfl⟩) (va_rf_or _) (fun t ht hW => ⟨none, rfl, rfl, ht⟩) (fun _ h => by cases h) d_C_ruleAt_31
    · exact absurd (lk_no c_1) c_2
set_option maxHeartbeats 4000000 in
set_option maxRecDepth 100000 in
theorem c_fittingAt (l : Launch) (dC : Nat → ClassId) (dI : Nat → Nat → Nat) (adK adV : Nat → Nat) (a_h : Nat) (p0 : Int32) (a_tx : Nat) (a_ru : Nat) (a_cd : Nat) (a_te : Nat) (a_ki : Nat) (a_ca : Nat) (a_ty : Nat) (a_io : Nat) (a_ex : Nat) (a_lo : Nat) (a_fi : Nat) (a_cl : Nat) : Met l y_C_fittingAt ws_C_fittingAt ({ frames := 0, cells := 0, slots := 0, locals := 0 }) (va_Pc [.ref a_h, .int p0] (fun U => zz adK adV (fun _ => False) U ∧ va_P (dC, dI) vwCl [(a_h, .inr (0, [.ref a_tx, .ref a_ru, .int 0, .ref a_cd, .ref a_te, .ref a_ki, .ref a_ca, .ref a_ty, .ref a_io, .ref a_ex, .ref a_lo, .int 0, .ref a_fi, .int 0, .ref a_cl, .int 0]))] U.heap ∧ va_K (dC, dI) vwCl [] U)) (vp_Si (fun r => r = (-1))) 0 0 (fun _ => False) := by
  refine Met.ofW (cc := c_C_fittingAt) (maxL := 2) (ret := (some .int)) (by decide) rfl ?_
  intro p e s m args below meth c s₁ B hml hv
  obtain ⟨rfl, hZ, hP, hK⟩ := hv
  have hx := B.exec
  have hb := B.bytes
  have hr := B.returns
  have hts0 := atoms_spec (ws := ws_C_fittingAt) B.pre
  have hts : ∀ w ∈ TT, w.before _ s = true := fun w h => hts0 w (List.mem_cons_of_mem _ h)
  have hown : s.vm.findClass "LoanRules" = some m.cls := findClass_of_methodNamed B.named
  have hlocks := B.notSynchronized
  have hS : va_S (fun _ => False) s.heap s.heap [] := va_S.rf
  replace hP : va_P (dC, dI) vwCl [(a_h, .inr (0, [.ref a_tx, .ref a_ru, .int 0, .ref a_cd, .ref a_te, .ref a_ki, .ref a_ca, .ref a_ty, .ref a_io, .ref a_ex, .ref a_lo, .int 0, .ref a_fi, .int 0, .ref a_cl, .int 0]))] s.heap := hP
  have hl := lv_entry ([.ref a_h, .int p0]) (n := 2) (Nat.le_of_ble_eq_true rfl)
  rw [lg_entry_eq]
  generalize (lg_sl ([.ref a_h, .int p0]) ++ List.replicate (2 - (lg_sl ([.ref a_h, .int p0])).length) Slot.unset).toArray = ls at hl ⊢
  replace hl : lv_has ls 2 [(0, .ref a_h), (1, .int p0)] := hl
  refine lv_iload_n hx hb d_C_fittingAt_0 rfl (lv_at hl 1 rfl) ?_
  refine lv_if_lt (tgt := 30) hx hb d_C_fittingAt_1 (by decide) (fun c_1 => ?_) (fun c_1 => ?_)
  · refine lv_iconst (v := (-1)) hx hb d_C_fittingAt_30 (by decide) ?_
    exact W.iret (v := (-1)) hx hb hr (fun t ht hW => ⟨(-1), rfl, rfl, ht⟩) (fun _ h => by cases h) d_C_fittingAt_31
  · refine lv_iload_n hx hb d_C_fittingAt_4 rfl (lv_at hl 1 rfl) ?_
    refine lv_aload_n hx hb d_C_fittingAt_5 rfl (lv_at hl 0 rfl) ?_
    refine va_get (D := (dC, dI)) (ci := 0) (v := .int 0) (C := "LoanRules") (T := Fz_C) (N := 16) hx hb hts it_C hown hK hP 0 rfl rfl 13 (by decide) (hts _ tw_117) (fun _ h9 => h9) rfl d_C_fittingAt_6 ?_
    refine lv_icmp_ge (tgt := 30) hx hb d_C_fittingAt_9 (by decide) (fun c_2 => ?_) (fun c_2 => ?_)
    · refine lv_iconst (v := (-1)) hx hb d_C_fittingAt_30 (by decide) ?_
      exact W.iret (v := (-1)) hx hb hr (fun t ht hW => ⟨(-1), rfl, rfl, ht⟩) (fun _ h => by cases h) d_C_fittingAt_31
    · exact absurd (lk_no c_1) c_2
set_option maxHeartbeats 4000000 in
set_option maxRecDepth 100000 in
theorem c_heldLoan (l : Launch) (dC : Nat → ClassId) (dI : Nat → Nat → Nat) (adK adV : Nat → Nat) (a_h : Nat) (p0 : Int32) (a_tx : Nat) (a_ru : Nat) (a_cd : Nat) (a_te : Nat) (a_ki : Nat) (a_ca : Nat) (a_ty : Nat) (a_io : Nat) (a_ex : Nat) (a_lo : Nat) (a_fi : Nat) (a_cl : Nat) : Met l y_C_heldLoan ws_C_heldLoan ({ frames := 0, cells := 0, slots := 0, locals := 0 }) (va_Pc [.ref a_h, .int p0] (fun U => zz adK adV (fun _ => False) U ∧ va_P (dC, dI) vwCl [(a_h, .inr (0, [.ref a_tx, .ref a_ru, .int 0, .ref a_cd, .ref a_te, .ref a_ki, .ref a_ca, .ref a_ty, .ref a_io, .ref a_ex, .ref a_lo, .int 0, .ref a_fi, .int 0, .ref a_cl, .int 0]))] U.heap ∧ va_K (dC, dI) vwCl [] U)) (va_Sq (fun r => r = none)) 0 0 (fun _ => False) := by
  refine Met.ofW (cc := c_C_heldLoan) (maxL := 3) (ret := (some (.object "LoanRules$Loan"))) (by decide) rfl ?_
  intro p e s m args below meth c s₁ B hml hv
  obtain ⟨rfl, hZ, hP, hK⟩ := hv
  have hx := B.exec
  have hb := B.bytes
  have hr := B.returns
  have hts0 := atoms_spec (ws := ws_C_heldLoan) B.pre
  have hts : ∀ w ∈ TT, w.before _ s = true := fun w h => hts0 w (List.mem_cons_of_mem _ h)
  have hown : s.vm.findClass "LoanRules" = some m.cls := findClass_of_methodNamed B.named
  have hlocks := B.notSynchronized
  have hS : va_S (fun _ => False) s.heap s.heap [] := va_S.rf
  replace hP : va_P (dC, dI) vwCl [(a_h, .inr (0, [.ref a_tx, .ref a_ru, .int 0, .ref a_cd, .ref a_te, .ref a_ki, .ref a_ca, .ref a_ty, .ref a_io, .ref a_ex, .ref a_lo, .int 0, .ref a_fi, .int 0, .ref a_cl, .int 0]))] s.heap := hP
  have hl := lv_entry ([.ref a_h, .int p0]) (n := 3) (Nat.le_of_ble_eq_true rfl)
  rw [lg_entry_eq]
  generalize (lg_sl ([.ref a_h, .int p0]) ++ List.replicate (3 - (lg_sl ([.ref a_h, .int p0])).length) Slot.unset).toArray = ls at hl ⊢
  replace hl : lv_has ls 3 [(0, .ref a_h), (1, .int p0)] := hl
  refine lv_iload_n hx hb d_C_heldLoan_0 rfl (lv_at hl 1 rfl) ?_
  refine lv_iconst (v := 1) hx hb d_C_heldLoan_1 (by decide) ?_
  refine lv_icmp_lt (tgt := 22) hx hb d_C_heldLoan_2 (by decide) (fun c_1 => ?_) (fun c_1 => ?_)
  · refine lv_null hx hb d_C_heldLoan_22 ?_
    exact W.aret (v := va_rf none) hx hb hr (Or.inl ⟨_, rfl⟩) (va_rf_or _) (fun t ht hW => ⟨none, rfl, rfl, ht⟩) (fun _ h => by cases h) d_C_heldLoan_23
  · refine lv_iload_n hx hb d_C_heldLoan_5 rfl (lv_at hl 1 rfl) ?_
    refine lv_aload_n hx hb d_C_heldLoan_6 rfl (lv_at hl 0 rfl) ?_
    refine va_get (D := (dC, dI)) (ci := 0) (v := .int 0) (C := "LoanRules") (T := Fz_C) (N := 16) hx hb hts it_C hown hK hP 0 rfl rfl 11 (by decide) (hts _ tw_115) (fun _ h9 => h9) rfl d_C_heldLoan_7 ?_
    refine lv_icmp_gt (tgt := 22) hx hb d_C_heldLoan_10 (by decide) (fun c_2 => ?_) (fun c_2 => ?_)
    · refine lv_null hx hb d_C_heldLoan_22 ?_
      exact W.aret (v := va_rf none) hx hb hr (Or.inl ⟨_, rfl⟩) (va_rf_or _) (fun t ht hW => ⟨none, rfl, rfl, ht⟩) (fun _ h => by cases h) d_C_heldLoan_23
    · exact absurd (lk_no1 c_1) c_2
set_option maxHeartbeats 4000000 in
set_option maxRecDepth 100000 in
theorem c_due (l : Launch) (dC : Nat → ClassId) (dI : Nat → Nat → Nat) (adK adV : Nat → Nat) (a_h : Nat) (p0 : Int32) (a_tx : Nat) (a_ru : Nat) (a_cd : Nat) (a_te : Nat) (a_ki : Nat) (a_ca : Nat) (a_ty : Nat) (a_io : Nat) (a_ex : Nat) (a_lo : Nat) (a_fi : Nat) (a_cl : Nat) : Met l y_C_due ws_C_due ({ frames := 1, cells := 0, slots := 0, locals := 22 }) (va_Pc [.ref a_h, .int p0] (fun U => zz adK adV (fun _ => False) U ∧ va_P (dC, dI) vwCl [(a_h, .inr (0, [.ref a_tx, .ref a_ru, .int 0, .ref a_cd, .ref a_te, .ref a_ki, .ref a_ca, .ref a_ty, .ref a_io, .ref a_ex, .ref a_lo, .int 0, .ref a_fi, .int 0, .ref a_cl, .int 0]))] U.heap ∧ va_K (dC, dI) vwCl [] U)) (vp_Si (fun r => r = (-1))) 0 0 (fun _ => False) := by
  refine Met.ofW (cc := c_C_due) (maxL := 3) (ret := (some .int)) (by decide) rfl ?_
  intro p e s m args below meth c s₁ B hml hv
  obtain ⟨rfl, hZ, hP, hK⟩ := hv
  have hx := B.exec
  have hb := B.bytes
  have hr := B.returns
  have hts0 := atoms_spec (ws := ws_C_due) B.pre
  have hts : ∀ w ∈ TT, w.before _ s = true := fun w h => hts0 w (List.mem_cons_of_mem _ h)
  have hown : s.vm.findClass "LoanRules" = some m.cls := findClass_of_methodNamed B.named
  have hlocks := B.notSynchronized
  have hS : va_S (fun _ => False) s.heap s.heap [] := va_S.rf
  replace hP : va_P (dC, dI) vwCl [(a_h, .inr (0, [.ref a_tx, .ref a_ru, .int 0, .ref a_cd, .ref a_te, .ref a_ki, .ref a_ca, .ref a_ty, .ref a_io, .ref a_ex, .ref a_lo, .int 0, .ref a_fi, .int 0, .ref a_cl, .int 0]))] s.heap := hP
  have hl := lv_entry ([.ref a_h, .int p0]) (n := 3) (Nat.le_of_ble_eq_true rfl)
  rw [lg_entry_eq]
  generalize (lg_sl ([.ref a_h, .int p0]) ++ List.replicate (3 - (lg_sl ([.ref a_h, .int p0])).length) Slot.unset).toArray = ls at hl ⊢
  replace hl : lv_has ls 3 [(0, .ref a_h), (1, .int p0)] := hl
  refine lv_aload_n hx hb d_C_due_0 rfl (lv_at hl 0 rfl) ?_
  refine lv_iload_n hx hb d_C_due_1 rfl (lv_at hl 1 rfl) ?_
  have hPc := hP.sub (ws' := [(a_h, .inr (0, [.ref a_tx, .ref a_ru, .int 0, .ref a_cd, .ref a_te, .ref a_ki, .ref a_ca, .ref a_ty, .ref a_io, .ref a_ex, .ref a_lo, .int 0, .ref a_fi, .int 0, .ref a_cl, .int 0]))]) [0] rfl
  have hKc := hK.sub (tys' := []) [] rfl
  refine va_csq (va_Run.run (va_runV (As := [.int p0]) (rest := []) ⟨hx, hb, hml, hown, hts⟩ (c_heldLoan l dC dI adK adV (a_h := a_h) (p0 := p0) (a_tx := a_tx) (a_ru := a_ru) (a_cd := a_cd) (a_te := a_te) (a_ki := a_ki) (a_ca := a_ca) (a_ty := a_ty) (a_io := a_io) (a_ex := a_ex) (a_lo := a_lo) (a_fi := a_fi) (a_cl := a_cl)) (cwV 1 hts (gV tw_383 tw_385 tw_11 tw_42 tw_386) rfl rfl rfl (by decide +kernel) ⟨(Nat.le_of_ble_eq_true rfl), (Nat.le_of_ble_eq_true rfl)⟩) ⟨fun a U g mk q => by obtain ⟨q0, qZ, qP, qK⟩ := q; exact ⟨q0, zz_call qZ, qP, va_K.moved (u := U) (U := U.calling g mk a) (Vm.Alike.refl U.vm) qK⟩, va_recv hKc hPc (ci := 0) (q0 := 0) rfl rfl, fun U hU hW => ⟨rfl, zz_rr hU hW hZ, by rw [hU]; exact hPc, va_K.moved hW.alike hKc⟩⟩ rfl rfl hl.1 rfl (lv_room (Nat.le_of_ble_eq_true rfl)) d_C_due_2 ⟨(Nat.le_of_ble_eq_true rfl), (Nat.le_of_ble_eq_true rfl)⟩)) (fun r_1 hw_2 => ?_)
  obtain rfl : r_1 = none := hw_2
  refine W.eq (g2 := F0 m 5 ls [.null]) rfl ?_
  refine lv_astore_nN (lv' := [(2, .null), (0, .ref a_h), (1, .int p0)]) hx hb d_C_due_5 rfl hl (by decide) rfl (fun ls hl => ?_)
  refine lv_aload_nN hx hb d_C_due_6 rfl (lv_at hl 0 rfl) ?_
  refine lv_ifnonnullN hx hb d_C_due_7 ?_
  refine lv_iconst (v := (-1)) hx hb d_C_due_10 (by decide) ?_
  refine lv_goto (tgt := 18) hx hb d_C_due_11 (by decide) ?_
  exact W.iret (v := (-1)) hx hb hr (fun t ht hW => ⟨(-1), rfl, rfl, ht⟩) (fun _ h => by cases h) d_C_due_18
set_option maxHeartbeats 4000000 in
set_option maxRecDepth 100000 in
theorem c_renew (l : Launch) (dC : Nat → ClassId) (dI : Nat → Nat → Nat) (adK adV : Nat → Nat) (a_h : Nat) (p0 : Int32) (p1 : Int32) (a_tx : Nat) (a_ru : Nat) (a_cd : Nat) (a_te : Nat) (a_ki : Nat) (a_ca : Nat) (a_ty : Nat) (a_io : Nat) (a_ex : Nat) (a_lo : Nat) (a_fi : Nat) (a_cl : Nat) : Met l y_C_renew ws_C_renew ({ frames := 1, cells := 0, slots := 0, locals := 22 }) (va_Pc [.ref a_h, .int p0, .int p1] (fun U => zz adK adV (fun _ => False) U ∧ va_P (dC, dI) vwCl [(a_h, .inr (0, [.ref a_tx, .ref a_ru, .int 0, .ref a_cd, .ref a_te, .ref a_ki, .ref a_ca, .ref a_ty, .ref a_io, .ref a_ex, .ref a_lo, .int 0, .ref a_fi, .int 0, .ref a_cl, .int 0]))] U.heap ∧ va_K (dC, dI) vwCl [] U)) (vp_Si (fun r => r = 0)) 0 0 (fun _ => False) := by
  refine Met.ofW (cc := c_C_renew) (maxL := 6) (ret := (some .int)) (by decide) rfl ?_
  intro p e s m args below meth c s₁ B hml hv
  obtain ⟨rfl, hZ, hP, hK⟩ := hv
  have hx := B.exec
  have hb := B.bytes
  have hr := B.returns
  have hts0 := atoms_spec (ws := ws_C_renew) B.pre
  have hts : ∀ w ∈ TT, w.before _ s = true := fun w h => hts0 w (List.mem_cons_of_mem _ h)
  have hown : s.vm.findClass "LoanRules" = some m.cls := findClass_of_methodNamed B.named
  have hlocks := B.notSynchronized
  have hS : va_S (fun _ => False) s.heap s.heap [] := va_S.rf
  replace hP : va_P (dC, dI) vwCl [(a_h, .inr (0, [.ref a_tx, .ref a_ru, .int 0, .ref a_cd, .ref a_te, .ref a_ki, .ref a_ca, .ref a_ty, .ref a_io, .ref a_ex, .ref a_lo, .int 0, .ref a_fi, .int 0, .ref a_cl, .int 0]))] s.heap := hP
  have hl := lv_entry ([.ref a_h, .int p0, .int p1]) (n := 6) (Nat.le_of_ble_eq_true rfl)
  rw [lg_entry_eq]
  generalize (lg_sl ([.ref a_h, .int p0, .int p1]) ++ List.replicate (6 - (lg_sl ([.ref a_h, .int p0, .int p1])).length) Slot.unset).toArray = ls at hl ⊢
  replace hl : lv_has ls 6 [(0, .ref a_h), (1, .int p0), (2, .int p1)] := hl
  refine lv_aload_n hx hb d_C_renew_0 rfl (lv_at hl 0 rfl) ?_
  refine lv_iload_n hx hb d_C_renew_1 rfl (lv_at hl 1 rfl) ?_
  have hPc := hP.sub (ws' := [(a_h, .inr (0, [.ref a_tx, .ref a_ru, .int 0, .ref a_cd, .ref a_te, .ref a_ki, .ref a_ca, .ref a_ty, .ref a_io, .ref a_ex, .ref a_lo, .int 0, .ref a_fi, .int 0, .ref a_cl, .int 0]))]) [0] rfl
  have hKc := hK.sub (tys' := []) [] rfl
  refine va_csq (va_Run.run (va_runV (As := [.int p0]) (rest := []) ⟨hx, hb, hml, hown, hts⟩ (c_heldLoan l dC dI adK adV (a_h := a_h) (p0 := p0) (a_tx := a_tx) (a_ru := a_ru) (a_cd := a_cd) (a_te := a_te) (a_ki := a_ki) (a_ca := a_ca) (a_ty := a_ty) (a_io := a_io) (a_ex := a_ex) (a_lo := a_lo) (a_fi := a_fi) (a_cl := a_cl)) (cwV 1 hts (gV tw_383 tw_385 tw_11 tw_42 tw_386) rfl rfl rfl (by decide +kernel) ⟨(Nat.le_of_ble_eq_true rfl), (Nat.le_of_ble_eq_true rfl)⟩) ⟨fun a U g mk q => by obtain ⟨q0, qZ, qP, qK⟩ := q; exact ⟨q0, zz_call qZ, qP, va_K.moved (u := U) (U := U.calling g mk a) (Vm.Alike.refl U.vm) qK⟩, va_recv hKc hPc (ci := 0) (q0 := 0) rfl rfl, fun U hU hW => ⟨rfl, zz_rr hU hW hZ, by rw [hU]; exact hPc, va_K.moved hW.alike hKc⟩⟩ rfl rfl hl.1 rfl (lv_room (Nat.le_of_ble_eq_true rfl)) d_C_renew_2 ⟨(Nat.le_of_ble_eq_true rfl), (Nat.le_of_ble_eq_true rfl)⟩)) (fun r_1 hw_2 => ?_)
  obtain rfl : r_1 = none := hw_2
  refine W.eq (g2 := F0 m 5 ls [.null]) rfl ?_
  refine lv_astore_nN (lv' := [(3, .null), (0, .ref a_h), (1, .int p0), (2, .int p1)]) hx hb d_C_renew_5 rfl hl (by decide) rfl (fun ls hl => ?_)
  refine lv_aload_nN hx hb d_C_renew_6 rfl (lv_at hl 0 rfl) ?_
  refine lv_ifnullN (tgt := 17) hx hb d_C_renew_7 (by decide) ?_
  refine lv_iconst (v := 0) hx hb d_C_renew_17 (by decide) ?_
  exact W.iret (v := 0) hx hb hr (fun t ht hW => ⟨0, rfl, rfl, ht⟩) (fun _ h => by cases h) d_C_renew_18
set_option maxHeartbeats 4000000 in
set_option maxRecDepth 100000 in
theorem c_recall (l : Launch) (dC : Nat → ClassId) (dI : Nat → Nat → Nat) (adK adV : Nat → Nat) (a_h : Nat) (p0 : Int32) (p1 : Int32) (a_tx : Nat) (a_ru : Nat) (a_cd : Nat) (a_te : Nat) (a_ki : Nat) (a_ca : Nat) (a_ty : Nat) (a_io : Nat) (a_ex : Nat) (a_lo : Nat) (a_fi : Nat) (a_cl : Nat) : Met l y_C_recall ws_C_recall ({ frames := 1, cells := 0, slots := 0, locals := 22 }) (va_Pc [.ref a_h, .int p0, .int p1] (fun U => zz adK adV (fun _ => False) U ∧ va_P (dC, dI) vwCl [(a_h, .inr (0, [.ref a_tx, .ref a_ru, .int 0, .ref a_cd, .ref a_te, .ref a_ki, .ref a_ca, .ref a_ty, .ref a_io, .ref a_ex, .ref a_lo, .int 0, .ref a_fi, .int 0, .ref a_cl, .int 0]))] U.heap ∧ va_K (dC, dI) vwCl [] U)) (vp_Si (fun r => r = 0)) 0 0 (fun _ => False) := by
  refine Met.ofW (cc := c_C_recall) (maxL := 5) (ret := (some .int)) (by decide) rfl ?_
  intro p e s m args below meth c s₁ B hml hv
  obtain ⟨rfl, hZ, hP, hK⟩ := hv
  have hx := B.exec
  have hb := B.bytes
  have hr := B.returns
  have hts0 := atoms_spec (ws := ws_C_recall) B.pre
  have hts : ∀ w ∈ TT, w.before _ s = true := fun w h => hts0 w (List.mem_cons_of_mem _ h)
  have hown : s.vm.findClass "LoanRules" = some m.cls := findClass_of_methodNamed B.named
  have hlocks := B.notSynchronized
  have hS : va_S (fun _ => False) s.heap s.heap [] := va_S.rf
  replace hP : va_P (dC, dI) vwCl [(a_h, .inr (0, [.ref a_tx, .ref a_ru, .int 0, .ref a_cd, .ref a_te, .ref a_ki, .ref a_ca, .ref a_ty, .ref a_io, .ref a_ex, .ref a_lo, .int 0, .ref a_fi, .int 0, .ref a_cl, .int 0]))] s.heap := hP
  have hl := lv_entry ([.ref a_h, .int p0, .int p1]) (n := 5) (Nat.le_of_ble_eq_true rfl)
  rw [lg_entry_eq]
  generalize (lg_sl ([.ref a_h, .int p0, .int p1]) ++ List.replicate (5 - (lg_sl ([.ref a_h, .int p0, .int p1])).length) Slot.unset).toArray = ls at hl ⊢
  replace hl : lv_has ls 5 [(0, .ref a_h), (1, .int p0), (2, .int p1)] := hl
  refine lv_aload_n hx hb d_C_recall_0 rfl (lv_at hl 0 rfl) ?_
  refine lv_iload_n hx hb d_C_recall_1 rfl (lv_at hl 1 rfl) ?_
  have hPc := hP.sub (ws' := [(a_h, .inr (0, [.ref a_tx, .ref a_ru, .int 0, .ref a_cd, .ref a_te, .ref a_ki, .ref a_ca, .ref a_ty, .ref a_io, .ref a_ex, .ref a_lo, .int 0, .ref a_fi, .int 0, .ref a_cl, .int 0]))]) [0] rfl
  have hKc := hK.sub (tys' := []) [] rfl
  refine va_csq (va_Run.run (va_runV (As := [.int p0]) (rest := []) ⟨hx, hb, hml, hown, hts⟩ (c_heldLoan l dC dI adK adV (a_h := a_h) (p0 := p0) (a_tx := a_tx) (a_ru := a_ru) (a_cd := a_cd) (a_te := a_te) (a_ki := a_ki) (a_ca := a_ca) (a_ty := a_ty) (a_io := a_io) (a_ex := a_ex) (a_lo := a_lo) (a_fi := a_fi) (a_cl := a_cl)) (cwV 1 hts (gV tw_383 tw_385 tw_11 tw_42 tw_386) rfl rfl rfl (by decide +kernel) ⟨(Nat.le_of_ble_eq_true rfl), (Nat.le_of_ble_eq_true rfl)⟩) ⟨fun a U g mk q => by obtain ⟨q0, qZ, qP, qK⟩ := q; exact ⟨q0, zz_call qZ, qP, va_K.moved (u := U) (U := U.calling g mk a) (Vm.Alike.refl U.vm) qK⟩, va_recv hKc hPc (ci := 0) (q0 := 0) rfl rfl, fun U hU hW => ⟨rfl, zz_rr hU hW hZ, by rw [hU]; exact hPc, va_K.moved hW.alike hKc⟩⟩ rfl rfl hl.1 rfl (lv_room (Nat.le_of_ble_eq_true rfl)) d_C_recall_2 ⟨(Nat.le_of_ble_eq_true rfl), (Nat.le_of_ble_eq_true rfl)⟩)) (fun r_1 hw_2 => ?_)
  obtain rfl : r_1 = none := hw_2
  refine W.eq (g2 := F0 m 5 ls [.null]) rfl ?_
  refine lv_astore_nN (lv' := [(3, .null), (0, .ref a_h), (1, .int p0), (2, .int p1)]) hx hb d_C_recall_5 rfl hl (by decide) rfl (fun ls hl => ?_)
  refine lv_aload_nN hx hb d_C_recall_6 rfl (lv_at hl 0 rfl) ?_
  refine lv_ifnullN (tgt := 17) hx hb d_C_recall_7 (by decide) ?_
  refine lv_iconst (v := 0) hx hb d_C_recall_17 (by decide) ?_
  exact W.iret (v := 0) hx hb hr (fun t ht hW => ⟨0, rfl, rfl, ht⟩) (fun _ h => by cases h) d_C_recall_18
set_option maxHeartbeats 4000000 in
set_option maxRecDepth 100000 in
theorem c_back (l : Launch) (dC : Nat → ClassId) (dI : Nat → Nat → Nat) (adK adV : Nat → Nat) (a_h : Nat) (p0 : Int32) (a_tx : Nat) (a_ru : Nat) (a_cd : Nat) (a_te : Nat) (a_ki : Nat) (a_ca : Nat) (a_ty : Nat) (a_io : Nat) (a_ex : Nat) (a_lo : Nat) (a_fi : Nat) (a_cl : Nat) : Met l y_C_back ws_C_back ({ frames := 1, cells := 0, slots := 0, locals := 22 }) (va_Pc [.ref a_h, .int p0] (fun U => zz adK adV (fun _ => False) U ∧ va_P (dC, dI) vwCl [(a_h, .inr (0, [.ref a_tx, .ref a_ru, .int 0, .ref a_cd, .ref a_te, .ref a_ki, .ref a_ca, .ref a_ty, .ref a_io, .ref a_ex, .ref a_lo, .int 0, .ref a_fi, .int 0, .ref a_cl, .int 0]))] U.heap ∧ va_K (dC, dI) vwCl [] U)) (vp_Si (fun r => r = 0)) 0 0 (fun _ => False) := by
  refine Met.ofW (cc := c_C_back) (maxL := 3) (ret := (some .int)) (by decide) rfl ?_
  intro p e s m args below meth c s₁ B hml hv
  obtain ⟨rfl, hZ, hP, hK⟩ := hv
  have hx := B.exec
  have hb := B.bytes
  have hr := B.returns
  have hts0 := atoms_spec (ws := ws_C_back) B.pre
  have hts : ∀ w ∈ TT, w.before _ s = true := fun w h => hts0 w (List.mem_cons_of_mem _ h)
  have hown : s.vm.findClass "LoanRules" = some m.cls := findClass_of_methodNamed B.named
  have hlocks := B.notSynchronized
  have hS : va_S (fun _ => False) s.heap s.heap [] := va_S.rf
  replace hP : va_P (dC, dI) vwCl [(a_h, .inr (0, [.ref a_tx, .ref a_ru, .int 0, .ref a_cd, .ref a_te, .ref a_ki, .ref a_ca, .ref a_ty, .ref a_io, .ref a_ex, .ref a_lo, .int 0, .ref a_fi, .int 0, .ref a_cl, .int 0]))] s.heap := hP
  have hl := lv_entry ([.ref a_h, .int p0]) (n := 3) (Nat.le_of_ble_eq_true rfl)
  rw [lg_entry_eq]
  generalize (lg_sl ([.ref a_h, .int p0]) ++ List.replicate (3 - (lg_sl ([.ref a_h, .int p0])).length) Slot.unset).toArray = ls at hl ⊢
  replace hl : lv_has ls 3 [(0, .ref a_h), (1, .int p0)] := hl
  refine lv_aload_n hx hb d_C_back_0 rfl (lv_at hl 0 rfl) ?_
  refine lv_iload_n hx hb d_C_back_1 rfl (lv_at hl 1 rfl) ?_
  have hPc := hP.sub (ws' := [(a_h, .inr (0, [.ref a_tx, .ref a_ru, .int 0, .ref a_cd, .ref a_te, .ref a_ki, .ref a_ca, .ref a_ty, .ref a_io, .ref a_ex, .ref a_lo, .int 0, .ref a_fi, .int 0, .ref a_cl, .int 0]))]) [0] rfl
  have hKc := hK.sub (tys' := []) [] rfl
  refine va_csq (va_Run.run (va_runV (As := [.int p0]) (rest := []) ⟨hx, hb, hml, hown, hts⟩ (c_heldLoan l dC dI adK adV (a_h := a_h) (p0 := p0) (a_tx := a_tx) (a_ru := a_ru) (a_cd := a_cd) (a_te := a_te) (a_ki := a_ki) (a_ca := a_ca) (a_ty := a_ty) (a_io := a_io) (a_ex := a_ex) (a_lo := a_lo) (a_fi := a_fi) (a_cl := a_cl)) (cwV 1 hts (gV tw_383 tw_385 tw_11 tw_42 tw_386) rfl rfl rfl (by decide +kernel) ⟨(Nat.le_of_ble_eq_true rfl), (Nat.le_of_ble_eq_true rfl)⟩) ⟨fun a U g mk q => by obtain ⟨q0, qZ, qP, qK⟩ := q; exact ⟨q0, zz_call qZ, qP, va_K.moved (u := U) (U := U.calling g mk a) (Vm.Alike.refl U.vm) qK⟩, va_recv hKc hPc (ci := 0) (q0 := 0) rfl rfl, fun U hU hW => ⟨rfl, zz_rr hU hW hZ, by rw [hU]; exact hPc, va_K.moved hW.alike hKc⟩⟩ rfl rfl hl.1 rfl (lv_room (Nat.le_of_ble_eq_true rfl)) d_C_back_2 ⟨(Nat.le_of_ble_eq_true rfl), (Nat.le_of_ble_eq_true rfl)⟩)) (fun r_1 hw_2 => ?_)
  obtain rfl : r_1 = none := hw_2
  refine W.eq (g2 := F0 m 5 ls [.null]) rfl ?_
  refine lv_astore_nN (lv' := [(2, .null), (0, .ref a_h), (1, .int p0)]) hx hb d_C_back_5 rfl hl (by decide) rfl (fun ls hl => ?_)
  refine lv_aload_nN hx hb d_C_back_6 rfl (lv_at hl 0 rfl) ?_
  refine lv_ifnonnullN hx hb d_C_back_7 ?_
  refine lv_iconst (v := 0) hx hb d_C_back_10 (by decide) ?_
  exact W.iret (v := 0) hx hb hr (fun t ht hW => ⟨0, rfl, rfl, ht⟩) (fun _ h => by cases h) d_C_back_11
set_option maxHeartbeats 4000000 in
set_option maxRecDepth 100000 in
theorem c_except (l : Launch) (dC : Nat → ClassId) (dI : Nat → Nat → Nat) (adK adV : Nat → Nat) (a_h : Nat) (p0 : Int32) (p1 : Int32) (p2 : Int32) (a_tx : Nat) (a_ru : Nat) (a_cd : Nat) (a_te : Nat) (a_ki : Nat) (a_ca : Nat) (a_ty : Nat) (a_io : Nat) (a_ex : Nat) (a_lo : Nat) (a_fi : Nat) (a_cl : Nat) : Met l y_C_except ws_C_except ({ frames := 1, cells := 0, slots := 0, locals := 21 }) (va_Pc [.ref a_h, .int p0, .int p1, .int p2] (fun U => zz adK adV (fun _ => False) U ∧ va_P (dC, dI) vwCl [(a_h, .inr (0, [.ref a_tx, .ref a_ru, .int 0, .ref a_cd, .ref a_te, .ref a_ki, .ref a_ca, .ref a_ty, .ref a_io, .ref a_ex, .ref a_lo, .int 0, .ref a_fi, .int 0, .ref a_cl, .int 0]))] U.heap ∧ va_K (dC, dI) vwCl [] U)) (vp_Si (fun r => r = 0)) 0 0 (fun _ => False) := by
  refine Met.ofW (cc := c_C_except) (maxL := 4) (ret := (some .int)) (by decide) rfl ?_
  intro p e s m args below meth c s₁ B hml hv
  obtain ⟨rfl, hZ, hP, hK⟩ := hv
  have hx := B.exec
  have hb := B.bytes
  have hr := B.returns
  have hts0 := atoms_spec (ws := ws_C_except) B.pre
  have hts : ∀ w ∈ TT, w.before _ s = true := fun w h => hts0 w (List.mem_cons_of_mem _ h)
  have hown : s.vm.findClass "LoanRules" = some m.cls := findClass_of_methodNamed B.named
  have hlocks := B.notSynchronized
  have hS : va_S (fun _ => False) s.heap s.heap [] := va_S.rf
  replace hP : va_P (dC, dI) vwCl [(a_h, .inr (0, [.ref a_tx, .ref a_ru, .int 0, .ref a_cd, .ref a_te, .ref a_ki, .ref a_ca, .ref a_ty, .ref a_io, .ref a_ex, .ref a_lo, .int 0, .ref a_fi, .int 0, .ref a_cl, .int 0]))] s.heap := hP
  have hl := lv_entry ([.ref a_h, .int p0, .int p1, .int p2]) (n := 4) (Nat.le_of_ble_eq_true rfl)
  rw [lg_entry_eq]
  generalize (lg_sl ([.ref a_h, .int p0, .int p1, .int p2]) ++ List.replicate (4 - (lg_sl ([.ref a_h, .int p0, .int p1, .int p2])).length) Slot.unset).toArray = ls at hl ⊢
  replace hl : lv_has ls 4 [(0, .ref a_h), (1, .int p0), (2, .int p1), (3, .int p2)] := hl
  refine lv_iload_n hx hb d_C_except_0 rfl (lv_at hl 1 rfl) ?_
  have hPc := hP.sub (ws' := []) [] rfl
  have hKc := hK.sub (tys' := []) [] rfl
  refine vp_callSi (va_Run.run (va_runS (As := [.int p0]) (rest := []) ⟨hx, hb, hml, hown, hts⟩ (c_isPerson l dC dI adK adV (p0 := p0)) (va_cwS 1 hts (gS tw_373 tw_374 tw_42 tw_375) rfl rfl rfl (by decide +kernel) ⟨(Nat.le_of_ble_eq_true rfl), (Nat.le_of_ble_eq_true rfl)⟩) ⟨fun a U g mk q => by obtain ⟨q0, qZ, qP, qK⟩ := q; exact ⟨q0, zz_call qZ, qP, va_K.moved (u := U) (U := U.calling g mk a) (Vm.Alike.refl U.vm) qK⟩, fun U hU hW => ⟨rfl, zz_rr hU hW hZ, by rw [hU]; exact hPc, va_K.moved hW.alike hKc⟩⟩ rfl rfl hl.1 rfl (lv_room (Nat.le_of_ble_eq_true rfl)) d_C_except_1 ⟨(Nat.le_of_ble_eq_true rfl), (Nat.le_of_ble_eq_true rfl)⟩)) (fun r_1 hw_2 => ?_)
  subst hw_2
  refine lv_if_eq (tgt := 15) hx hb d_C_except_4 (by decide) (fun c_3 => ?_) (fun c_3 => ?_)
  · refine lv_iconst (v := 0) hx hb d_C_except_15 (by decide) ?_
    exact W.iret (v := 0) hx hb hr (fun t ht hW => ⟨0, rfl, rfl, ht⟩) (fun _ h => by cases h) d_C_except_16
  · refine lv_aload_n hx hb d_C_except_7 rfl (lv_at hl 0 rfl) ?_
    refine lv_iload_n hx hb d_C_except_8 rfl (lv_at hl 2 rfl) ?_
    have hPc := hP.sub (ws' := [(a_h, .inr (0, [.ref a_tx, .ref a_ru, .int 0, .ref a_cd, .ref a_te, .ref a_ki, .ref a_ca, .ref a_ty, .ref a_io, .ref a_ex, .ref a_lo, .int 0, .ref a_fi, .int 0, .ref a_cl, .int 0]))]) [0] rfl
    have hKc := hK.sub (tys' := []) [] rfl
    refine va_csq (va_Run.run (va_runV (As := [.int p1]) (rest := []) ⟨hx, hb, hml, hown, hts⟩ (c_ruleAt l dC dI adK adV (a_h := a_h) (p0 := p1) (a_tx := a_tx) (a_ru := a_ru) (a_cd := a_cd) (a_te := a_te) (a_ki := a_ki) (a_ca := a_ca) (a_ty := a_ty) (a_io := a_io) (a_ex := a_ex) (a_lo := a_lo) (a_fi := a_fi) (a_cl := a_cl)) (cwV 1 hts (gV tw_431 tw_433 tw_15 tw_42 tw_434) rfl rfl rfl (by decide +kernel) ⟨(Nat.le_of_ble_eq_true rfl), (Nat.le_of_ble_eq_true rfl)⟩) ⟨fun a U g mk q => by obtain ⟨q0, qZ, qP, qK⟩ := q; exact ⟨q0, zz_call qZ, qP, va_K.moved (u := U) (U := U.calling g mk a) (Vm.Alike.refl U.vm) qK⟩, va_recv hKc hPc (ci := 0) (q0 := 0) rfl rfl, fun U hU hW => ⟨rfl, zz_rr hU hW hZ, by rw [hU]; exact hPc, va_K.moved hW.alike hKc⟩⟩ rfl rfl hl.1 rfl (lv_room (Nat.le_of_ble_eq_true rfl)) d_C_except_9 ⟨(Nat.le_of_ble_eq_true rfl), (Nat.le_of_ble_eq_true rfl)⟩)) (fun r_4 hw_5 => ?_)
    obtain rfl : r_4 = none := hw_5
    refine W.eq (g2 := F0 m 12 ls [.null]) rfl ?_
    refine lv_ifnonnullN hx hb d_C_except_12 ?_
    refine lv_iconst (v := 0) hx hb d_C_except_15 (by decide) ?_
    exact W.iret (v := 0) hx hb hr (fun t ht hW => ⟨0, rfl, rfl, ht⟩) (fun _ h => by cases h) d_C_except_16
set_option maxHeartbeats 4000000 in
set_option maxRecDepth 100000 in
theorem c_throwsUp (l : Launch) (dC : Nat → ClassId) (dI : Nat → Nat → Nat) (adK adV : Nat → Nat) (a_h : Nat) (p0 : Int32) (p1 : Int32) (a_tx : Nat) (a_ru : Nat) (a_cd : Nat) (a_te : Nat) (a_ki : Nat) (a_ca : Nat) (a_ty : Nat) (a_io : Nat) (a_ex : Nat) (a_lo : Nat) (a_fi : Nat) (a_cl : Nat) : Met l y_C_throwsUp ws_C_throwsUp ({ frames := 1, cells := 0, slots := 0, locals := 21 }) (va_Pc [.ref a_h, .int p0, .int p1] (fun U => zz adK adV (fun _ => False) U ∧ va_P (dC, dI) vwCl [(a_h, .inr (0, [.ref a_tx, .ref a_ru, .int 0, .ref a_cd, .ref a_te, .ref a_ki, .ref a_ca, .ref a_ty, .ref a_io, .ref a_ex, .ref a_lo, .int 0, .ref a_fi, .int 0, .ref a_cl, .int 0]))] U.heap ∧ va_K (dC, dI) vwCl [] U)) (vp_Si (fun r => r = 0)) 0 0 (fun _ => False) := by
  refine Met.ofW (cc := c_C_throwsUp) (maxL := 5) (ret := (some .boolean)) (by decide) rfl ?_
  intro p e s m args below meth c s₁ B hml hv
  obtain ⟨rfl, hZ, hP, hK⟩ := hv
  have hx := B.exec
  have hb := B.bytes
  have hr := B.returns
  have hts0 := atoms_spec (ws := ws_C_throwsUp) B.pre
  have hts : ∀ w ∈ TT, w.before _ s = true := fun w h => hts0 w (List.mem_cons_of_mem _ h)
  have hown : s.vm.findClass "LoanRules" = some m.cls := findClass_of_methodNamed B.named
  have hlocks := B.notSynchronized
  have hS : va_S (fun _ => False) s.heap s.heap [] := va_S.rf
  replace hP : va_P (dC, dI) vwCl [(a_h, .inr (0, [.ref a_tx, .ref a_ru, .int 0, .ref a_cd, .ref a_te, .ref a_ki, .ref a_ca, .ref a_ty, .ref a_io, .ref a_ex, .ref a_lo, .int 0, .ref a_fi, .int 0, .ref a_cl, .int 0]))] s.heap := hP
  have hl := lv_entry ([.ref a_h, .int p0, .int p1]) (n := 5) (Nat.le_of_ble_eq_true rfl)
  rw [lg_entry_eq]
  generalize (lg_sl ([.ref a_h, .int p0, .int p1]) ++ List.replicate (5 - (lg_sl ([.ref a_h, .int p0, .int p1])).length) Slot.unset).toArray = ls at hl ⊢
  replace hl : lv_has ls 5 [(0, .ref a_h), (1, .int p0), (2, .int p1)] := hl
  refine lv_aload_n hx hb d_C_throwsUp_0 rfl (lv_at hl 0 rfl) ?_
  refine lv_iload_n hx hb d_C_throwsUp_1 rfl (lv_at hl 1 rfl) ?_
  have hPc := hP.sub (ws' := [(a_h, .inr (0, [.ref a_tx, .ref a_ru, .int 0, .ref a_cd, .ref a_te, .ref a_ki, .ref a_ca, .ref a_ty, .ref a_io, .ref a_ex, .ref a_lo, .int 0, .ref a_fi, .int 0, .ref a_cl, .int 0]))]) [0] rfl
  have hKc := hK.sub (tys' := []) [] rfl
  refine va_csq (va_Run.run (va_runV (As := [.int p0]) (rest := []) ⟨hx, hb, hml, hown, hts⟩ (c_ruleAt l dC dI adK adV (a_h := a_h) (p0 := p0) (a_tx := a_tx) (a_ru := a_ru) (a_cd := a_cd) (a_te := a_te) (a_ki := a_ki) (a_ca := a_ca) (a_ty := a_ty) (a_io := a_io) (a_ex := a_ex) (a_lo := a_lo) (a_fi := a_fi) (a_cl := a_cl)) (cwV 1 hts (gV tw_431 tw_433 tw_15 tw_42 tw_434) rfl rfl rfl (by decide +kernel) ⟨(Nat.le_of_ble_eq_true rfl), (Nat.le_of_ble_eq_true rfl)⟩) ⟨fun a U g mk q => by obtain ⟨q0, qZ, qP, qK⟩ := q; exact ⟨q0, zz_call qZ, qP, va_K.moved (u := U) (U := U.calling g mk a) (Vm.Alike.refl U.vm) qK⟩, va_recv hKc hPc (ci := 0) (q0 := 0) rfl rfl, fun U hU hW => ⟨rfl, zz_rr hU hW hZ, by rw [hU]; exact hPc, va_K.moved hW.alike hKc⟩⟩ rfl rfl hl.1 rfl (lv_room (Nat.le_of_ble_eq_true rfl)) d_C_throwsUp_2 ⟨(Nat.le_of_ble_eq_true rfl), (Nat.le_of_ble_eq_true rfl)⟩)) (fun r_1 hw_2 => ?_)
  obtain rfl : r_1 = none := hw_2
  refine W.eq (g2 := F0 m 5 ls [.null]) rfl ?_
  refine lv_astore_nN (lv' := [(3, .null), (0, .ref a_h), (1, .int p0), (2, .int p1)]) hx hb d_C_throwsUp_5 rfl hl (by decide) rfl (fun ls hl => ?_)
  refine lv_aload_nN hx hb d_C_throwsUp_6 rfl (lv_at hl 0 rfl) ?_
  refine lv_ifnullN (tgt := 18) hx hb d_C_throwsUp_7 (by decide) ?_
  refine lv_iconst (v := 0) hx hb d_C_throwsUp_18 (by decide) ?_
  exact W.zret (v := 0) hx hb hr rfl (fun t ht hW => ⟨0, rfl, rfl, ht⟩) (fun _ h => by cases h) d_C_throwsUp_19
set_option maxHeartbeats 4000000 in
set_option maxRecDepth 100000 in
theorem c_explain (l : Launch) (dC : Nat → ClassId) (dI : Nat → Nat → Nat) (adK adV : Nat → Nat) (a_h : Nat) (p0 : Int32) (a_tx : Nat) (a_ru : Nat) (a_cd : Nat) (a_te : Nat) (a_ki : Nat) (a_ca : Nat) (a_ty : Nat) (a_io : Nat) (a_ex : Nat) (a_lo : Nat) (a_fi : Nat) (a_cl : Nat) : Met l y_C_explain ws_C_explain ({ frames := 1, cells := 0, slots := 0, locals := 21 }) (va_Pc [.ref a_h, .int p0] (fun U => zz adK adV (fun _ => False) U ∧ va_P (dC, dI) vwCl [(a_h, .inr (0, [.ref a_tx, .ref a_ru, .int 0, .ref a_cd, .ref a_te, .ref a_ki, .ref a_ca, .ref a_ty, .ref a_io, .ref a_ex, .ref a_lo, .int 0, .ref a_fi, .int 0, .ref a_cl, .int 0]))] U.heap ∧ va_K (dC, dI) vwCl [] U)) (vp_Si (fun r => r = (-1))) 0 0 (fun _ => False) := by
  refine Met.ofW (cc := c_C_explain) (maxL := 2) (ret := (some .int)) (by decide) rfl ?_
  intro p e s m args below meth c s₁ B hml hv
  obtain ⟨rfl, hZ, hP, hK⟩ := hv
  have hx := B.exec
  have hb := B.bytes
  have hr := B.returns
  have hts0 := atoms_spec (ws := ws_C_explain) B.pre
  have hts : ∀ w ∈ TT, w.before _ s = true := fun w h => hts0 w (List.mem_cons_of_mem _ h)
  have hown : s.vm.findClass "LoanRules" = some m.cls := findClass_of_methodNamed B.named
  have hlocks := B.notSynchronized
  have hS : va_S (fun _ => False) s.heap s.heap [] := va_S.rf
  replace hP : va_P (dC, dI) vwCl [(a_h, .inr (0, [.ref a_tx, .ref a_ru, .int 0, .ref a_cd, .ref a_te, .ref a_ki, .ref a_ca, .ref a_ty, .ref a_io, .ref a_ex, .ref a_lo, .int 0, .ref a_fi, .int 0, .ref a_cl, .int 0]))] s.heap := hP
  have hl := lv_entry ([.ref a_h, .int p0]) (n := 2) (Nat.le_of_ble_eq_true rfl)
  rw [lg_entry_eq]
  generalize (lg_sl ([.ref a_h, .int p0]) ++ List.replicate (2 - (lg_sl ([.ref a_h, .int p0])).length) Slot.unset).toArray = ls at hl ⊢
  replace hl : lv_has ls 2 [(0, .ref a_h), (1, .int p0)] := hl
  refine lv_aload_n hx hb d_C_explain_0 rfl (lv_at hl 0 rfl) ?_
  refine lv_iload_n hx hb d_C_explain_1 rfl (lv_at hl 1 rfl) ?_
  have hPc := hP.sub (ws' := [(a_h, .inr (0, [.ref a_tx, .ref a_ru, .int 0, .ref a_cd, .ref a_te, .ref a_ki, .ref a_ca, .ref a_ty, .ref a_io, .ref a_ex, .ref a_lo, .int 0, .ref a_fi, .int 0, .ref a_cl, .int 0]))]) [0] rfl
  have hKc := hK.sub (tys' := []) [] rfl
  refine vp_callSi (va_Run.run (va_runV (As := [.int p0]) (rest := []) ⟨hx, hb, hml, hown, hts⟩ (c_fittingAt l dC dI adK adV (a_h := a_h) (p0 := p0) (a_tx := a_tx) (a_ru := a_ru) (a_cd := a_cd) (a_te := a_te) (a_ki := a_ki) (a_ca := a_ca) (a_ty := a_ty) (a_io := a_io) (a_ex := a_ex) (a_lo := a_lo) (a_fi := a_fi) (a_cl := a_cl)) (cwV 1 hts (gV tw_443 tw_445 tw_16 tw_42 tw_446) rfl rfl rfl (by decide +kernel) ⟨(Nat.le_of_ble_eq_true rfl), (Nat.le_of_ble_eq_true rfl)⟩) ⟨fun a U g mk q => by obtain ⟨q0, qZ, qP, qK⟩ := q; exact ⟨q0, zz_call qZ, qP, va_K.moved (u := U) (U := U.calling g mk a) (Vm.Alike.refl U.vm) qK⟩, va_recv hKc hPc (ci := 0) (q0 := 0) rfl rfl, fun U hU hW => ⟨rfl, zz_rr hU hW hZ, by rw [hU]; exact hPc, va_K.moved hW.alike hKc⟩⟩ rfl rfl hl.1 rfl (lv_room (Nat.le_of_ble_eq_true rfl)) d_C_explain_2 ⟨(Nat.le_of_ble_eq_true rfl), (Nat.le_of_ble_eq_true rfl)⟩)) (fun r_1 hw_2 => ?_)
  obtain rfl : r_1 = (-1) := hw_2
  exact W.iret (v := (-1)) hx hb hr (fun t ht hW => ⟨(-1), rfl, rfl, ht⟩) (fun _ h => by cases h) d_C_explain_5
set_option maxHeartbeats 4000000 in
set_option maxRecDepth 100000 in
theorem c_clash (l : Launch) (dC : Nat → ClassId) (dI : Nat → Nat → Nat) (adK adV : Nat → Nat) (a_h : Nat) (a_cl : Nat) (k_cl : ClassId) (p0 : Int32) (p1 : Int32) (a_tx : Nat) (a_ru : Nat) (a_cd : Nat) (a_te : Nat) (a_ki : Nat) (a_ca : Nat) (a_ty : Nat) (a_io : Nat) (a_ex : Nat) (a_lo : Nat) (a_fi : Nat) : Met l y_C_clash ws_C_clash ({ frames := 0, cells := 0, slots := 0, locals := 0 }) (va_Pc [.ref a_h, .int p0, .int p1] (fun U => zz adK adV (fun _ => False) U ∧ va_P (dC, dI) vwCl [(a_h, .inr (0, [.ref a_tx, .ref a_ru, .int 0, .ref a_cd, .ref a_te, .ref a_ki, .ref a_ca, .ref a_ty, .ref a_io, .ref a_ex, .ref a_lo, .int 0, .ref a_fi, .int 0, .ref a_cl, .int 0])), (a_cl, .inl (k_cl, 780, .inl (fun _ => 0)))] U.heap ∧ va_K (dC, dI) vwCl [(k_cl, .int)] U)) (vp_Si (fun r => r = (-1))) 0 0 (fun _ => False) := by
  refine Met.ofW (cc := c_C_clash) (maxL := 3) (ret := (some .int)) (by decide) rfl ?_
  intro p e s m args below meth c s₁ B hml hv
  obtain ⟨rfl, hZ, hP, hK⟩ := hv
  have hx := B.exec
  have hb := B.bytes
  have hr := B.returns
  have hts0 := atoms_spec (ws := ws_C_clash) B.pre
  have hts : ∀ w ∈ TT, w.before _ s = true := fun w h => hts0 w (List.mem_cons_of_mem _ h)
  have hown : s.vm.findClass "LoanRules" = some m.cls := findClass_of_methodNamed B.named
  have hlocks := B.notSynchronized
  have hS : va_S (fun _ => False) s.heap s.heap [] := va_S.rf
  replace hP : va_P (dC, dI) vwCl [(a_h, .inr (0, [.ref a_tx, .ref a_ru, .int 0, .ref a_cd, .ref a_te, .ref a_ki, .ref a_ca, .ref a_ty, .ref a_io, .ref a_ex, .ref a_lo, .int 0, .ref a_fi, .int 0, .ref a_cl, .int 0])), (a_cl, .inl (k_cl, 780, .inl (fun _ => 0)))] s.heap := hP
  have hl := lv_entry ([.ref a_h, .int p0, .int p1]) (n := 3) (Nat.le_of_ble_eq_true rfl)
  rw [lg_entry_eq]
  generalize (lg_sl ([.ref a_h, .int p0, .int p1]) ++ List.replicate (3 - (lg_sl ([.ref a_h, .int p0, .int p1])).length) Slot.unset).toArray = ls at hl ⊢
  replace hl : lv_has ls 3 [(0, .ref a_h), (1, .int p0), (2, .int p1)] := hl
  refine lv_iload_n hx hb d_C_clash_0 rfl (lv_at hl 1 rfl) ?_
  refine lv_if_lt (tgt := 21) hx hb d_C_clash_1 (by decide) (fun c_1 => ?_) (fun c_1 => ?_)
  · refine lv_iconst (v := (-1)) hx hb d_C_clash_21 (by decide) ?_
    exact W.iret (v := (-1)) hx hb hr (fun t ht hW => ⟨(-1), rfl, rfl, ht⟩) (fun _ h => by cases h) d_C_clash_22
  · refine lv_iload_n hx hb d_C_clash_4 rfl (lv_at hl 1 rfl) ?_
    refine lv_aload_n hx hb d_C_clash_5 rfl (lv_at hl 0 rfl) ?_
    refine va_get (D := (dC, dI)) (ci := 0) (v := .int 0) (C := "LoanRules") (T := Fz_C) (N := 16) hx hb hts it_C hown hK hP 0 rfl rfl 15 (by decide) (hts _ tw_119) (fun _ h9 => h9) rfl d_C_clash_6 ?_
    refine lv_icmp_ge (tgt := 21) hx hb d_C_clash_9 (by decide) (fun c_2 => ?_) (fun c_2 => ?_)
    · refine lv_iconst (v := (-1)) hx hb d_C_clash_21 (by decide) ?_
      exact W.iret (v := (-1)) hx hb hr (fun t ht hW => ⟨(-1), rfl, rfl, ht⟩) (fun _ h => by cases h) d_C_clash_22
    · exact absurd (lk_no c_1) c_2
set_option maxHeartbeats 4000000 in
set_option maxRecDepth 100000 in
theorem c_never (l : Launch) (dC : Nat → ClassId) (dI : Nat → Nat → Nat) (adK adV : Nat → Nat) (a_h : Nat) (p0 : Int32) (a_tx : Nat) (a_ru : Nat) (a_cd : Nat) (a_te : Nat) (a_ki : Nat) (a_ca : Nat) (a_ty : Nat) (a_io : Nat) (a_ex : Nat) (a_lo : Nat) (a_fi : Nat) (a_cl : Nat) : Met l y_C_never ws_C_never ({ frames := 1, cells := 0, slots := 0, locals := 21 }) (va_Pc [.ref a_h, .int p0] (fun U => zz adK adV (fun _ => False) U ∧ va_P (dC, dI) vwCl [(a_h, .inr (0, [.ref a_tx, .ref a_ru, .int 0, .ref a_cd, .ref a_te, .ref a_ki, .ref a_ca, .ref a_ty, .ref a_io, .ref a_ex, .ref a_lo, .int 0, .ref a_fi, .int 0, .ref a_cl, .int 0]))] U.heap ∧ va_K (dC, dI) vwCl [] U)) (vp_Si (fun r => r = (-1))) 0 0 (fun _ => False) := by
  refine Met.ofW (cc := c_C_never) (maxL := 5) (ret := (some .int)) (by decide) rfl ?_
  intro p e s m args below meth c s₁ B hml hv
  obtain ⟨rfl, hZ, hP, hK⟩ := hv
  have hx := B.exec
  have hb := B.bytes
  have hr := B.returns
  have hts0 := atoms_spec (ws := ws_C_never) B.pre
  have hts : ∀ w ∈ TT, w.before _ s = true := fun w h => hts0 w (List.mem_cons_of_mem _ h)
  have hown : s.vm.findClass "LoanRules" = some m.cls := findClass_of_methodNamed B.named
  have hlocks := B.notSynchronized
  have hS : va_S (fun _ => False) s.heap s.heap [] := va_S.rf
  replace hP : va_P (dC, dI) vwCl [(a_h, .inr (0, [.ref a_tx, .ref a_ru, .int 0, .ref a_cd, .ref a_te, .ref a_ki, .ref a_ca, .ref a_ty, .ref a_io, .ref a_ex, .ref a_lo, .int 0, .ref a_fi, .int 0, .ref a_cl, .int 0]))] s.heap := hP
  have hl := lv_entry ([.ref a_h, .int p0]) (n := 5) (Nat.le_of_ble_eq_true rfl)
  rw [lg_entry_eq]
  generalize (lg_sl ([.ref a_h, .int p0]) ++ List.replicate (5 - (lg_sl ([.ref a_h, .int p0])).length) Slot.unset).toArray = ls at hl ⊢
  replace hl : lv_has ls 5 [(0, .ref a_h), (1, .int p0)] := hl
  refine lv_iconst (v := 0) hx hb d_C_never_0 (by decide) ?_
  refine lv_istore_n (lv' := [(2, .int 0), (0, .ref a_h), (1, .int p0)]) hx hb d_C_never_1 rfl hl (by decide) rfl (fun ls hl => ?_)
  refine lv_iconst (v := 0) hx hb d_C_never_2 (by decide) ?_
  refine lv_istore_n (lv' := [(3, .int 0), (2, .int 0), (0, .ref a_h), (1, .int p0)]) hx hb d_C_never_3 rfl hl (by decide) rfl (fun ls hl => ?_)
  obtain ⟨n, i, hni, hi0⟩ : ∃ n i : Nat, i + n = 40 ∧ nI i = 0 := ⟨40, 0, rfl, by decide⟩
  replace hl : lv_has ls 5 [(3, .int (nI i)), (2, .int 0), (0, .ref a_h), (1, .int p0)] := by rw [hi0]; exact hl
  clear hi0
  induction n generalizing i ls with
  | zero =>
    obtain rfl : i = 40 := by omega
    have hl : lv_has ls 5 [(3, .int 40), (2, .int 0), (0, .ref a_h), (1, .int p0)] := by have e9 : nI 40 = 40 := (by decide); rw [e9] at hl; exact hl
    refine lv_iload_n hx hb d_C_never_4 rfl (lv_at hl 0 rfl) ?_
    refine lv_bipush (v := 40) hx hb d_C_never_5 (by decide) ?_
    refine lv_icmp_ge (tgt := 46) hx hb d_C_never_7 (by decide) (fun c_1 => ?_) (fun c_1 => ?_)
    · refine lv_iconst (v := (-1)) hx hb d_C_never_46 (by decide) ?_
      exact W.iret (v := (-1)) hx hb hr (fun t ht hW => ⟨(-1), rfl, rfl, ht⟩) (fun _ h => by cases h) d_C_never_47
    · exact absurd (by decide) c_1
  | succ n ih =>
    have hlt : i < 40 := by omega
    refine lv_iload_n hx hb d_C_never_4 rfl (lv_at hl 0 rfl) ?_
    refine lv_bipush (v := 40) hx hb d_C_never_5 (by decide) ?_
    refine lv_icmp_ge (tgt := 46) hx hb d_C_never_7 (by decide) (fun c_2 => ?_) (fun c_2 => ?_)
    · exact absurd c_2 (lk_ge40 hlt)
    · refine lv_aload_n hx hb d_C_never_10 rfl (lv_at hl 2 rfl) ?_
      refine lv_iload_n hx hb d_C_never_11 rfl (lv_at hl 0 rfl) ?_
      have hPc := hP.sub (ws' := [(a_h, .inr (0, [.ref a_tx, .ref a_ru, .int 0, .ref a_cd, .ref a_te, .ref a_ki, .ref a_ca, .ref a_ty, .ref a_io, .ref a_ex, .ref a_lo, .int 0, .ref a_fi, .int 0, .ref a_cl, .int 0]))]) [0] rfl
      have hKc := hK.sub (tys' := []) [] rfl
      refine va_csq (va_Run.run (va_runV (As := [.int (nI i)]) (rest := []) ⟨hx, hb, hml, hown, hts⟩ (c_ruleAt l dC dI adK adV (a_h := a_h) (p0 := nI i) (a_tx := a_tx) (a_ru := a_ru) (a_cd := a_cd) (a_te := a_te) (a_ki := a_ki) (a_ca := a_ca) (a_ty := a_ty) (a_io := a_io) (a_ex := a_ex) (a_lo := a_lo) (a_fi := a_fi) (a_cl := a_cl)) (cwV 1 hts (gV tw_431 tw_433 tw_15 tw_42 tw_434) rfl rfl rfl (by decide +kernel) ⟨(Nat.le_of_ble_eq_true rfl), (Nat.le_of_ble_eq_true rfl)⟩) ⟨fun a U g mk q => by obtain ⟨q0, qZ, qP, qK⟩ := q; exact ⟨q0, zz_call qZ, qP, va_K.moved (u := U) (U := U.calling g mk a) (Vm.Alike.refl U.vm) qK⟩, va_recv hKc hPc (ci := 0) (q0 := 0) rfl rfl, fun U hU hW => ⟨rfl, zz_rr hU hW hZ, by rw [hU]; exact hPc, va_K.moved hW.alike hKc⟩⟩ rfl rfl hl.1 rfl (lv_room (Nat.le_of_ble_eq_true rfl)) d_C_never_12 ⟨(Nat.le_of_ble_eq_true rfl), (Nat.le_of_ble_eq_true rfl)⟩)) (fun r_3 hw_4 => ?_)
      obtain rfl : r_3 = none := hw_4
      refine W.eq (g2 := F0 m 15 ls [.null]) rfl ?_
      refine lv_astoreN (lv' := [(4, .null), (3, .int (nI i)), (2, .int 0), (0, .ref a_h), (1, .int p0)]) hx hb d_C_never_15 hl (by decide) rfl (fun ls hl => ?_)
      refine lv_aloadN hx hb d_C_never_17 (lv_at hl 0 rfl) ?_
      refine lv_ifnullN (tgt := 40) hx hb d_C_never_19 (by decide) ?_
      refine lv_iinc (v := (nI i) + 1) (lv' := [(3, .int ((nI i) + 1)), (4, .null), (2, .int 0), (0, .ref a_h), (1, .int p0)]) hx hb d_C_never_40 hl (k := 1) rfl rfl (by decide) rfl (fun ls hl => ?_)
      refine lv_goto (tgt := 4) hx hb d_C_never_43 (by decide) ?_
      replace hl := lv_sub hl [0, 2, 3, 4] rfl
      replace hl : lv_has ls 5 [(3, .int (nI (i + 1))), (2, .int 0), (0, .ref a_h), (1, .int p0)] := by rw [← nI_1]; exact hl
      exact ih (i := i + 1) _ (by omega) hl
set_option maxHeartbeats 4000000 in
set_option maxRecDepth 100000 in
theorem c_gatherFitting (l : Launch) (dC : Nat → ClassId) (dI : Nat → Nat → Nat) (adK adV : Nat → Nat) (a_h : Nat) (p0 : Int32) (p1 : Int32) (p2 : Int32) (a_tx : Nat) (a_ru : Nat) (a_cd : Nat) (a_te : Nat) (a_ki : Nat) (a_ca : Nat) (a_ty : Nat) (a_io : Nat) (a_ex : Nat) (a_lo : Nat) (a_fi : Nat) (a_cl : Nat) (sz : Nat) : Met l y_C_gatherFitting ws_C_gatherFitting ({ frames := 1, cells := 0, slots := 0, locals := 21 }) (va_Pc [.ref a_h, .int p0, .int p1, .int p2] (fun U => U.heap.size = sz ∧ zz adK adV (va_A [(a_h, .inr (0, [.ref a_tx, .ref a_ru, .int 0, .ref a_cd, .ref a_te, .ref a_ki, .ref a_ca, .ref a_ty, .ref a_io, .ref a_ex, .ref a_lo, .int 0, .ref a_fi, .int 0, .ref a_cl, .int 0]))] sz) U ∧ va_P (dC, dI) vwCl [(a_h, .inr (0, [.ref a_tx, .ref a_ru, .int 0, .ref a_cd, .ref a_te, .ref a_ki, .ref a_ca, .ref a_ty, .ref a_io, .ref a_ex, .ref a_lo, .int 0, .ref a_fi, .int 0, .ref a_cl, .int 0]))] U.heap ∧ va_K (dC, dI) vwCl [] U ∧ va_D (fun _ => True) [(a_h, .inr (0, [.ref a_tx, .ref a_ru, .int 0, .ref a_cd, .ref a_te, .ref a_ki, .ref a_ca, .ref a_ty, .ref a_io, .ref a_ex, .ref a_lo, .int 0, .ref a_fi, .int 0, .ref a_cl, .int 0]))])) (va_Qv (fun _ : Unit => True) (fun (_ : Unit) (t : State) => va_P (dC, dI) vwCl [(a_h, .inr (0, [.ref a_tx, .ref a_ru, .int 0, .ref a_cd, .ref a_te, .ref a_ki, .ref a_ca, .ref a_ty, .ref a_io, .ref a_ex, .ref a_lo, .int 0, .ref a_fi, .int 0, .ref a_cl, .int 0]))] t.heap ∧ va_K (dC, dI) vwCl [] t ∧ va_D (va_A [(a_h, .inr (0, [.ref a_tx, .ref a_ru, .int 0, .ref a_cd, .ref a_te, .ref a_ki, .ref a_ca, .ref a_ty, .ref a_io, .ref a_ex, .ref a_lo, .int 0, .ref a_fi, .int 0, .ref a_cl, .int 0]))] sz) [(a_h, .inr (0, [.ref a_tx, .ref a_ru, .int 0, .ref a_cd, .ref a_te, .ref a_ki, .ref a_ca, .ref a_ty, .ref a_io, .ref a_ex, .ref a_lo, .int 0, .ref a_fi, .int 0, .ref a_cl, .int 0]))]) (va_A [(a_h, .inr (0, [.ref a_tx, .ref a_ru, .int 0, .ref a_cd, .ref a_te, .ref a_ki, .ref a_ca, .ref a_ty, .ref a_io, .ref a_ex, .ref a_lo, .int 0, .ref a_fi, .int 0, .ref a_cl, .int 0]))] sz)) 0 0 (va_A [(a_h, .inr (0, [.ref a_tx, .ref a_ru, .int 0, .ref a_cd, .ref a_te, .ref a_ki, .ref a_ca, .ref a_ty, .ref a_io, .ref a_ex, .ref a_lo, .int 0, .ref a_fi, .int 0, .ref a_cl, .int 0]))] sz) := by
  refine Met.ofW (cc := c_C_gatherFitting) (maxL := 6) (ret := none) (by decide) rfl ?_
  intro p e s m args below meth c s₁ B hml hv
  obtain ⟨rfl, hsz, hZ, hP, hK, hD0⟩ := hv
  have hx := B.exec
  have hb := B.bytes
  have hr := B.returns
  have hts0 := atoms_spec (ws := ws_C_gatherFitting) B.pre
  have hts : ∀ w ∈ TT, w.before _ s = true := fun w h => hts0 w (List.mem_cons_of_mem _ h)
  have hown : s.vm.findClass "LoanRules" = some m.cls := findClass_of_methodNamed B.named
  have hlocks := B.notSynchronized
  subst hsz
  have hD := hD0.self (sz := s.heap.size)
  generalize hAe : va_A [(a_h, .inr (0, [.ref a_tx, .ref a_ru, .int 0, .ref a_cd, .ref a_te, .ref a_ki, .ref a_ca, .ref a_ty, .ref a_io, .ref a_ex, .ref a_lo, .int 0, .ref a_fi, .int 0, .ref a_cl, .int 0]))] s.heap.size = A at hD hZ ⊢
  have hA : ∀ q : Nat, s.heap.size ≤ q → A q := fun q h => by rw [← hAe]; exact Or.inr h
  clear hAe hD0
  have hS : va_S A s.heap s.heap [] := va_S.rf
  replace hP : va_P (dC, dI) vwCl [(a_h, .inr (0, [.ref a_tx, .ref a_ru, .int 0, .ref a_cd, .ref a_te, .ref a_ki, .ref a_ca, .ref a_ty, .ref a_io, .ref a_ex, .ref a_lo, .int 0, .ref a_fi, .int 0, .ref a_cl, .int 0]))] s.heap := hP
  have hl := lv_entry ([.ref a_h, .int p0, .int p1, .int p2]) (n := 6) (Nat.le_of_ble_eq_true rfl)
  rw [lg_entry_eq]
  generalize (lg_sl ([.ref a_h, .int p0, .int p1, .int p2]) ++ List.replicate (6 - (lg_sl ([.ref a_h, .int p0, .int p1, .int p2])).length) Slot.unset).toArray = ls at hl ⊢
  replace hl : lv_has ls 6 [(0, .ref a_h), (1, .int p0), (2, .int p1), (3, .int p2)] := hl
  refine lv_aload_n hx hb d_C_gatherFitting_0 rfl (lv_at hl 0 rfl) ?_
  refine lv_iconst (v := 0) hx hb d_C_gatherFitting_1 (by decide) ?_
  refine va_put (D := (dC, dI)) (ci := 0) (v := .int 0) (ty := .int) (C := "LoanRules") (T := Fz_C) (N := 16) hx hb hts it_C tz_C tz_C_ok nz_C hown hK hP hD hS 0 rfl rfl 13 (by decide) (hts _ tw_117) (fun _ h9 => h9) rfl (by decide +kernel) rfl rfl (Nat.le_of_ble_eq_true rfl) d_C_gatherFitting_2 (fun H locs hP hD hS => ?_)
  replace hP : va_P (dC, dI) vwCl [(a_h, .inr (0, [.ref a_tx, .ref a_ru, .int 0, .ref a_cd, .ref a_te, .ref a_ki, .ref a_ca, .ref a_ty, .ref a_io, .ref a_ex, .ref a_lo, .int 0, .ref a_fi, .int 0, .ref a_cl, .int 0]))] H := hP
  replace hD : va_D A [(a_h, .inr (0, [.ref a_tx, .ref a_ru, .int 0, .ref a_cd, .ref a_te, .ref a_ki, .ref a_ca, .ref a_ty, .ref a_io, .ref a_ex, .ref a_lo, .int 0, .ref a_fi, .int 0, .ref a_cl, .int 0]))] := hD
  refine lv_iconst (v := 0) hx hb d_C_gatherFitting_5 (by decide) ?_
  refine lv_istore (lv' := [(4, .int 0), (0, .ref a_h), (1, .int p0), (2, .int p1), (3, .int p2)]) hx hb d_C_gatherFitting_6 hl (by decide) rfl (fun ls hl => ?_)
  obtain ⟨n, i, hni, hi0⟩ : ∃ n i : Nat, i + n = 40 ∧ nI i = 0 := ⟨40, 0, rfl, by decide⟩
  replace hl : lv_has ls 6 [(4, .int (nI i)), (0, .ref a_h), (1, .int p0), (2, .int p1), (3, .int p2)] := by rw [hi0]; exact hl
  clear hi0
  induction n generalizing i ls H locs with
  | zero =>
    obtain rfl : i = 40 := by omega
    have hl : lv_has ls 6 [(4, .int 40), (0, .ref a_h), (1, .int p0), (2, .int p1), (3, .int p2)] := by have e9 : nI 40 = 40 := (by decide); rw [e9] at hl; exact hl
    refine lv_iload hx hb d_C_gatherFitting_8 (lv_at hl 0 rfl) ?_
    refine lv_bipush (v := 40) hx hb d_C_gatherFitting_10 (by decide) ?_
    refine lv_icmp_ge (tgt := 67) hx hb d_C_gatherFitting_12 (by decide) (fun c_1 => ?_) (fun c_1 => ?_)
    · have hP9 := hP.sub (ws' := [(a_h, .inr (0, [.ref a_tx, .ref a_ru, .int 0, .ref a_cd, .ref a_te, .ref a_ki, .ref a_ca, .ref a_ty, .ref a_io, .ref a_ex, .ref a_lo, .int 0, .ref a_fi, .int 0, .ref a_cl, .int 0]))]) [0] rfl
      have hD9 := hD.sub (ws' := [(a_h, .inr (0, [.ref a_tx, .ref a_ru, .int 0, .ref a_cd, .ref a_te, .ref a_ki, .ref a_ca, .ref a_ty, .ref a_io, .ref a_ex, .ref a_lo, .int 0, .ref a_fi, .int 0, .ref a_cl, .int 0]))]) [0] (by decide) rfl
      have hK9 := hK.sub (tys' := []) [] rfl
      exact W.vret hx hb hr (fun t ht hW => ⟨⟨(), rfl, trivial, by rw [ht]; exact hP9, va_K.moved hW.alike hK9, hD9⟩, hS.F ht⟩) hS.2.2 d_C_gatherFitting_67
    · exact absurd (by decide) c_1
  | succ n ih =>
    have hlt : i < 40 := by omega
    refine lv_iload hx hb d_C_gatherFitting_8 (lv_at hl 0 rfl) ?_
    refine lv_bipush (v := 40) hx hb d_C_gatherFitting_10 (by decide) ?_
    refine lv_icmp_ge (tgt := 67) hx hb d_C_gatherFitting_12 (by decide) (fun c_2 => ?_) (fun c_2 => ?_)
    · exact absurd c_2 (lk_ge40 hlt)
    · refine lv_aload_n hx hb d_C_gatherFitting_15 rfl (lv_at hl 1 rfl) ?_
      refine lv_iload hx hb d_C_gatherFitting_16 (lv_at hl 0 rfl) ?_
      have hPc := hP.sub (ws' := [(a_h, .inr (0, [.ref a_tx, .ref a_ru, .int 0, .ref a_cd, .ref a_te, .ref a_ki, .ref a_ca, .ref a_ty, .ref a_io, .ref a_ex, .ref a_lo, .int 0, .ref a_fi, .int 0, .ref a_cl, .int 0]))]) [0] rfl
      have hKc := hK.sub (tys' := []) [] rfl
      refine va_csq (va_Run.run (va_runV (As := [.int (nI i)]) (rest := []) ⟨hx, hb, hml, hown, hts⟩ (c_ruleAt l dC dI adK adV (a_h := a_h) (p0 := nI i) (a_tx := a_tx) (a_ru := a_ru) (a_cd := a_cd) (a_te := a_te) (a_ki := a_ki) (a_ca := a_ca) (a_ty := a_ty) (a_io := a_io) (a_ex := a_ex) (a_lo := a_lo) (a_fi := a_fi) (a_cl := a_cl)) (cwV 1 hts (gV tw_431 tw_433 tw_15 tw_42 tw_434) rfl rfl rfl (by decide +kernel) ⟨(Nat.le_of_ble_eq_true rfl), (Nat.le_of_ble_eq_true rfl)⟩) ⟨fun a U g mk q => by obtain ⟨q0, qZ, qP, qK⟩ := q; exact ⟨q0, zz_call qZ, qP, va_K.moved (u := U) (U := U.calling g mk a) (Vm.Alike.refl U.vm) qK⟩, va_recv hKc hPc (ci := 0) (q0 := 0) rfl rfl, fun U hU hW => ⟨rfl, zz_ro hS hU hW hZ, by rw [hU]; exact hPc, va_K.moved hW.alike hKc⟩⟩ rfl rfl hl.1 rfl (lv_room (Nat.le_of_ble_eq_true rfl)) d_C_gatherFitting_18 ⟨(Nat.le_of_ble_eq_true rfl), (Nat.le_of_ble_eq_true rfl)⟩)) (fun r_3 hw_4 => ?_)
      obtain rfl : r_3 = none := hw_4
      refine W.eq (g2 := F0 m 21 ls [.null]) rfl ?_
      refine lv_astoreN (lv' := [(5, .null), (4, .int (nI i)), (0, .ref a_h), (1, .int p0), (2, .int p1), (3, .int p2)]) hx hb d_C_gatherFitting_21 hl (by decide) rfl (fun ls hl => ?_)
      refine lv_aloadN hx hb d_C_gatherFitting_23 (lv_at hl 0 rfl) ?_
      refine lv_ifnullN (tgt := 61) hx hb d_C_gatherFitting_25 (by decide) ?_
      refine lv_iinc (v := (nI i) + 1) (lv' := [(4, .int ((nI i) + 1)), (5, .null), (0, .ref a_h), (1, .int p0), (2, .int p1), (3, .int p2)]) hx hb d_C_gatherFitting_61 hl (k := 1) rfl rfl (by decide) rfl (fun ls hl => ?_)
      refine lv_goto (tgt := 8) hx hb d_C_gatherFitting_64 (by decide) ?_
      replace hl := lv_sub hl [0, 2, 3, 4, 5] rfl
      replace hl : lv_has ls 6 [(4, .int (nI (i + 1))), (0, .ref a_h), (1, .int p0), (2, .int p1), (3, .int p2)] := by rw [← nI_1]; exact hl
      first | exact ih (i := i + 1) (H := H) (locs := locs) (ls := ls) hP hS (by omega) hl | exact ih (i := i + 1) (H := H) (locs := locs) (ls := ls) hS hP (by omega) hl
def g_lend (p0 : Int32) (p1 : Int32) (p2 : Int32) : Int32 :=
  if (g_isPerson p0) = 0 then
    0
  else
    if (g_isItem p1) = 0 then
      0
    else
      if (g_isDay p2) = 0 then
        0
      else
        (-100)
set_option maxHeartbeats 4000000 in
set_option maxRecDepth 100000 in
theorem c_lend (l : Launch) (dC : Nat → ClassId) (dI : Nat → Nat → Nat) (adK adV : Nat → Nat) (a_h : Nat) (a_io : Nat) (a_ca : Nat) (k_io : ClassId) (k_ca : ClassId) (p0 : Int32) (p1 : Int32) (p2 : Int32) (a_tx : Nat) (a_ru : Nat) (a_cd : Nat) (a_te : Nat) (a_ki : Nat) (a_ty : Nat) (a_ex : Nat) (a_lo : Nat) (a_fi : Nat) (a_cl : Nat) (sz : Nat) : Met l y_C_lend ws_C_lend ({ frames := 2, cells := 0, slots := 0, locals := 46 }) (va_Pc [.ref a_h, .int p0, .int p1, .int p2] (fun U => U.heap.size = sz ∧ zz adK adV (va_A [(a_h, .inr (0, [.ref a_tx, .ref a_ru, .int 0, .ref a_cd, .ref a_te, .ref a_ki, .ref a_ca, .ref a_ty, .ref a_io, .ref a_ex, .ref a_lo, .int 0, .ref a_fi, .int 0, .ref a_cl, .int 0])), (a_io, .inl (k_io, 50, .inl (fun _ => 0))), (a_ca, .inl (k_ca, 50, .inl (fun _ => 0)))] sz) U ∧ va_P (dC, dI) vwCl [(a_h, .inr (0, [.ref a_tx, .ref a_ru, .int 0, .ref a_cd, .ref a_te, .ref a_ki, .ref a_ca, .ref a_ty, .ref a_io, .ref a_ex, .ref a_lo, .int 0, .ref a_fi, .int 0, .ref a_cl, .int 0])), (a_io, .inl (k_io, 50, .inl (fun _ => 0))), (a_ca, .inl (k_ca, 50, .inl (fun _ => 0)))] U.heap ∧ va_K (dC, dI) vwCl [(k_io, .boolean), (k_ca, .int)] U ∧ va_D (fun _ => True) [(a_h, .inr (0, [.ref a_tx, .ref a_ru, .int 0, .ref a_cd, .ref a_te, .ref a_ki, .ref a_ca, .ref a_ty, .ref a_io, .ref a_ex, .ref a_lo, .int 0, .ref a_fi, .int 0, .ref a_cl, .int 0])), (a_io, .inl (k_io, 50, .inl (fun _ => 0))), (a_ca, .inl (k_ca, 50, .inl (fun _ => 0)))])) (va_Qi (fun (r : Int32) (_ : Unit) => r = g_lend p0 p1 p2) (fun (_ : Unit) (_ : State) => True) (va_A [(a_h, .inr (0, [.ref a_tx, .ref a_ru, .int 0, .ref a_cd, .ref a_te, .ref a_ki, .ref a_ca, .ref a_ty, .ref a_io, .ref a_ex, .ref a_lo, .int 0, .ref a_fi, .int 0, .ref a_cl, .int 0])), (a_io, .inl (k_io, 50, .inl (fun _ => 0))), (a_ca, .inl (k_ca, 50, .inl (fun _ => 0)))] sz)) 0 0 (va_A [(a_h, .inr (0, [.ref a_tx, .ref a_ru, .int 0, .ref a_cd, .ref a_te, .ref a_ki, .ref a_ca, .ref a_ty, .ref a_io, .ref a_ex, .ref a_lo, .int 0, .ref a_fi, .int 0, .ref a_cl, .int 0])), (a_io, .inl (k_io, 50, .inl (fun _ => 0))), (a_ca, .inl (k_ca, 50, .inl (fun _ => 0)))] sz) := by
  refine Met.ofW (cc := c_C_lend) (maxL := 6) (ret := (some .int)) (by decide) rfl ?_
  intro p e s m args below meth c s₁ B hml hv
  obtain ⟨rfl, hsz, hZ, hP, hK, hD0⟩ := hv
  have hx := B.exec
  have hb := B.bytes
  have hr := B.returns
  have hts0 := atoms_spec (ws := ws_C_lend) B.pre
  have hts : ∀ w ∈ TT, w.before _ s = true := fun w h => hts0 w (List.mem_cons_of_mem _ h)
  have hown : s.vm.findClass "LoanRules" = some m.cls := findClass_of_methodNamed B.named
  have hlocks := B.notSynchronized
  subst hsz
  have hD := hD0.self (sz := s.heap.size)
  generalize hAe : va_A [(a_h, .inr (0, [.ref a_tx, .ref a_ru, .int 0, .ref a_cd, .ref a_te, .ref a_ki, .ref a_ca, .ref a_ty, .ref a_io, .ref a_ex, .ref a_lo, .int 0, .ref a_fi, .int 0, .ref a_cl, .int 0])), (a_io, .inl (k_io, 50, .inl (fun _ => 0))), (a_ca, .inl (k_ca, 50, .inl (fun _ => 0)))] s.heap.size = A at hD hZ ⊢
  have hA : ∀ q : Nat, s.heap.size ≤ q → A q := fun q h => by rw [← hAe]; exact Or.inr h
  clear hAe hD0
  have hS : va_S A s.heap s.heap [] := va_S.rf
  replace hP : va_P (dC, dI) vwCl [(a_h, .inr (0, [.ref a_tx, .ref a_ru, .int 0, .ref a_cd, .ref a_te, .ref a_ki, .ref a_ca, .ref a_ty, .ref a_io, .ref a_ex, .ref a_lo, .int 0, .ref a_fi, .int 0, .ref a_cl, .int 0])), (a_io, .inl (k_io, 50, .inl (fun _ => 0))), (a_ca, .inl (k_ca, 50, .inl (fun _ => 0)))] s.heap := hP
  have hl := lv_entry ([.ref a_h, .int p0, .int p1, .int p2]) (n := 6) (Nat.le_of_ble_eq_true rfl)
  rw [lg_entry_eq]
  generalize (lg_sl ([.ref a_h, .int p0, .int p1, .int p2]) ++ List.replicate (6 - (lg_sl ([.ref a_h, .int p0, .int p1, .int p2])).length) Slot.unset).toArray = ls at hl ⊢
  replace hl : lv_has ls 6 [(0, .ref a_h), (1, .int p0), (2, .int p1), (3, .int p2)] := hl
  obtain ⟨z, hz⟩ : ∃ z, z = g_lend p0 p1 p2 := ⟨_, rfl⟩
  have hE := hz
  rw [g_lend] at hE
  refine lv_iload_n hx hb d_C_lend_0 rfl (lv_at hl 1 rfl) ?_
  have hPc := hP.sub (ws' := []) [] rfl
  have hKc := hK.sub (tys' := []) [] rfl
  refine vp_callSi (va_Run.run (va_runS (As := [.int p0]) (rest := []) ⟨hx, hb, hml, hown, hts⟩ (c_isPerson l dC dI adK adV (p0 := p0)) (va_cwS 1 hts (gS tw_373 tw_374 tw_42 tw_375) rfl rfl rfl (by decide +kernel) ⟨(Nat.le_of_ble_eq_true rfl), (Nat.le_of_ble_eq_true rfl)⟩) ⟨fun a U g mk q => by obtain ⟨q0, qZ, qP, qK⟩ := q; exact ⟨q0, zz_call qZ, qP, va_K.moved (u := U) (U := U.calling g mk a) (Vm.Alike.refl U.vm) qK⟩, fun U hU hW => ⟨rfl, zz_ro hS hU hW hZ, by rw [hU]; exact hPc, va_K.moved hW.alike hKc⟩⟩ rfl rfl hl.1 rfl (lv_room (Nat.le_of_ble_eq_true rfl)) d_C_lend_1 ⟨(Nat.le_of_ble_eq_true rfl), (Nat.le_of_ble_eq_true rfl)⟩)) (fun r_1 hw_2 => ?_)
  subst hw_2
  refine lv_if_eq (tgt := 21) hx hb d_C_lend_4 (by decide) (fun c_3 => ?_) (fun c_3 => ?_)
  · rw [if_pos c_3] at hE
    refine lv_iconst (v := 0) hx hb d_C_lend_21 (by decide) ?_
    exact W.iret (v := 0) hx hb hr (fun t ht hW => ⟨⟨0, (), rfl, hE.symm.trans hz, trivial⟩, hS.F ht⟩) hS.2.2 d_C_lend_22
  · rw [if_neg c_3] at hE
    refine lv_iload_n hx hb d_C_lend_7 rfl (lv_at hl 2 rfl) ?_
    have hPc := hP.sub (ws' := []) [] rfl
    have hKc := hK.sub (tys' := []) [] rfl
    refine vp_callSi (va_Run.run (va_runS (As := [.int p1]) (rest := []) ⟨hx, hb, hml, hown, hts⟩ (c_isItem l dC dI adK adV (p0 := p1)) (va_cwS 1 hts (gS tw_376 tw_377 tw_42 tw_378) rfl rfl rfl (by decide +kernel) ⟨(Nat.le_of_ble_eq_true rfl), (Nat.le_of_ble_eq_true rfl)⟩) ⟨fun a U g mk q => by obtain ⟨q0, qZ, qP, qK⟩ := q; exact ⟨q0, zz_call qZ, qP, va_K.moved (u := U) (U := U.calling g mk a) (Vm.Alike.refl U.vm) qK⟩, fun U hU hW => ⟨rfl, zz_ro hS hU hW hZ, by rw [hU]; exact hPc, va_K.moved hW.alike hKc⟩⟩ rfl rfl hl.1 rfl (lv_room (Nat.le_of_ble_eq_true rfl)) d_C_lend_8 ⟨(Nat.le_of_ble_eq_true rfl), (Nat.le_of_ble_eq_true rfl)⟩)) (fun r_4 hw_5 => ?_)
    subst hw_5
    refine lv_if_eq (tgt := 21) hx hb d_C_lend_11 (by decide) (fun c_6 => ?_) (fun c_6 => ?_)
    · rw [if_pos c_6] at hE
      refine lv_iconst (v := 0) hx hb d_C_lend_21 (by decide) ?_
      exact W.iret (v := 0) hx hb hr (fun t ht hW => ⟨⟨0, (), rfl, hE.symm.trans hz, trivial⟩, hS.F ht⟩) hS.2.2 d_C_lend_22
    · rw [if_neg c_6] at hE
      refine lv_iload_n hx hb d_C_lend_14 rfl (lv_at hl 3 rfl) ?_
      have hPc := hP.sub (ws' := []) [] rfl
      have hKc := hK.sub (tys' := []) [] rfl
      refine vp_callSi (va_Run.run (va_runS (As := [.int p2]) (rest := []) ⟨hx, hb, hml, hown, hts⟩ (c_isDay l dC dI adK adV (p0 := p2)) (va_cwS 1 hts (gS tw_352 tw_353 tw_42 tw_354) rfl rfl rfl (by decide +kernel) ⟨(Nat.le_of_ble_eq_true rfl), (Nat.le_of_ble_eq_true rfl)⟩) ⟨fun a U g mk q => by obtain ⟨q0, qZ, qP, qK⟩ := q; exact ⟨q0, zz_call qZ, qP, va_K.moved (u := U) (U := U.calling g mk a) (Vm.Alike.refl U.vm) qK⟩, fun U hU hW => ⟨rfl, zz_ro hS hU hW hZ, by rw [hU]; exact hPc, va_K.moved hW.alike hKc⟩⟩ rfl rfl hl.1 rfl (lv_room (Nat.le_of_ble_eq_true rfl)) d_C_lend_15 ⟨(Nat.le_of_ble_eq_true rfl), (Nat.le_of_ble_eq_true rfl)⟩)) (fun r_7 hw_8 => ?_)
      subst hw_8
      refine lv_if_ne (tgt := 23) hx hb d_C_lend_18 (by decide) (fun c_9 => ?_) (fun c_9 => ?_)
      · rw [if_neg c_9] at hE
        refine lv_aload_n hx hb d_C_lend_23 rfl (lv_at hl 0 rfl) ?_
        refine va_get (D := (dC, dI)) (ci := 0) (v := .ref a_io) (C := "LoanRules") (T := Fz_C) (N := 16) hx hb hts it_C hown hK hP 0 rfl rfl 8 (by decide) (hts _ tw_112) (fun _ h9 => h9) rfl d_C_lend_24 ?_
        refine lv_iload_n hx hb d_C_lend_27 rfl (lv_at hl 2 rfl) ?_
        have i_10 : vp_in p1 50 := in_item c_6
        refine va_zald (D := (dC, dI)) hx hb hK hP 1 0 rfl rfl i_10 d_C_lend_28 ?_
        refine lv_topi (fun x_11 ex_11 => ?_)
        obtain rfl : x_11 = 0 := ex_11
        refine lv_if_ne (tgt := 42) hx hb d_C_lend_29 (by decide) (fun c_12 => ?_) (fun c_12 => ?_)
        · exact absurd (by decide) c_12
        · refine lv_aload_n hx hb d_C_lend_32 rfl (lv_at hl 0 rfl) ?_
          refine va_get (D := (dC, dI)) (ci := 0) (v := .int 0) (C := "LoanRules") (T := Fz_C) (N := 16) hx hb hts it_C hown hK hP 0 rfl rfl 11 (by decide) (hts _ tw_115) (fun _ h9 => h9) rfl d_C_lend_33 ?_
          refine lv_sipush (v := 200) hx hb d_C_lend_36 (by decide) ?_
          refine lv_icmp_lt (tgt := 44) hx hb d_C_lend_39 (by decide) (fun c_13 => ?_) (fun c_13 => ?_)
          · refine lv_aload_n hx hb d_C_lend_44 rfl (lv_at hl 0 rfl) ?_
            refine va_get (D := (dC, dI)) (ci := 0) (v := .ref a_ca) (C := "LoanRules") (T := Fz_C) (N := 16) hx hb hts it_C hown hK hP 0 rfl rfl 6 (by decide) (hts _ tw_110) (fun _ h9 => h9) rfl d_C_lend_45 ?_
            refine lv_iload_n hx hb d_C_lend_48 rfl (lv_at hl 1 rfl) ?_
            have i_14 : vp_in p0 50 := in_person c_3
            refine va_iald (D := (dC, dI)) hx hb hK hP 2 1 rfl rfl i_14 d_C_lend_49 ?_
            refine lv_topi (fun x_15 ex_15 => ?_)
            obtain rfl : x_15 = 0 := ex_15
            refine lv_if_eq (tgt := 63) hx hb d_C_lend_50 (by decide) (fun c_16 => ?_) (fun c_16 => ?_)
            · refine lv_aload_n hx hb d_C_lend_63 rfl (lv_at hl 0 rfl) ?_
              refine lv_iload_n hx hb d_C_lend_64 rfl (lv_at hl 1 rfl) ?_
              refine lv_iload_n hx hb d_C_lend_65 rfl (lv_at hl 2 rfl) ?_
              refine lv_iload_n hx hb d_C_lend_66 rfl (lv_at hl 3 rfl) ?_
              have hPc := hP.sub (ws' := [(a_h, .inr (0, [.ref a_tx, .ref a_ru, .int 0, .ref a_cd, .ref a_te, .ref a_ki, .ref a_ca, .ref a_ty, .ref a_io, .ref a_ex, .ref a_lo, .int 0, .ref a_fi, .int 0, .ref a_cl, .int 0]))]) [0] rfl
              have hKc := hK.sub (tys' := []) [] rfl
              have hDc := hD.sub (ws' := [(a_h, .inr (0, [.ref a_tx, .ref a_ru, .int 0, .ref a_cd, .ref a_te, .ref a_ki, .ref a_ca, .ref a_ty, .ref a_io, .ref a_ex, .ref a_lo, .int 0, .ref a_fi, .int 0, .ref a_cl, .int 0]))]) [0] (by decide) rfl
              have hFc := va_free (wc := [(a_h, .inr (0, [.ref a_tx, .ref a_ru, .int 0, .ref a_cd, .ref a_te, .ref a_ki, .ref a_ca, .ref a_ty, .ref a_io, .ref a_ex, .ref a_lo, .int 0, .ref a_fi, .int 0, .ref a_cl, .int 0]))]) hD hS hA [0] rfl
              refine va_callv (va_runV (As := [.int p0, .int p1, .int p2]) (rest := []) ⟨hx, hb, hml, hown, hts⟩ (c_gatherFitting l dC dI adK adV (a_h := a_h) (p0 := p0) (p1 := p1) (p2 := p2) (a_tx := a_tx) (a_ru := a_ru) (a_cd := a_cd) (a_te := a_te) (a_ki := a_ki) (a_ca := a_ca) (a_ty := a_ty) (a_io := a_io) (a_ex := a_ex) (a_lo := a_lo) (a_fi := a_fi) (a_cl := a_cl) (sz := s.heap.size)) (cwV 3 hts (gV tw_463 tw_465 tw_17 tw_42 tw_466) rfl rfl rfl (by decide +kernel) ⟨(Nat.le_of_ble_eq_true rfl), (Nat.le_of_ble_eq_true rfl)⟩) ⟨fun a U g mk q => by obtain ⟨q0, q1, qZ, qP, qK, qD⟩ := q; exact ⟨q0, q1, zz_call qZ, qP, va_K.moved (u := U) (U := U.calling g mk a) (Vm.Alike.refl U.vm) qK, qD⟩, va_recv hKc hPc (ci := 0) (q0 := 0) rfl rfl, fun U hU hW => ⟨rfl, by rw [hU], zz_rw hS hFc hU hW hZ, by rw [hU]; exact hPc, va_K.moved hW.alike hKc, hDc.weaken (fun _ _ _ _ => trivial)⟩⟩ rfl rfl hl.1 rfl (lv_room (Nat.le_of_ble_eq_true rfl)) d_C_lend_67 ⟨(Nat.le_of_ble_eq_true rfl), (Nat.le_of_ble_eq_true rfl)⟩) hS (fun q _ h => hFc q h) hFc (fun u t H1 locs ht hvm hw_17 hB hz1 hk1 hS => ?_)
              obtain ⟨hP1, hK1, hD1⟩ := hB
              rw [ht] at hP1
              have hK1 := va_K.moved hvm.symm hK1
              obtain ⟨hP, hD⟩ := va_join (wr := [(a_io, .inl (k_io, 50, .inl (fun _ => 0))), (a_ca, .inl (k_ca, 50, .inl (fun _ => 0)))]) (w1 := [(a_h, .inr (0, [.ref a_tx, .ref a_ru, .int 0, .ref a_cd, .ref a_te, .ref a_ki, .ref a_ca, .ref a_ty, .ref a_io, .ref a_ex, .ref a_lo, .int 0, .ref a_fi, .int 0, .ref a_cl, .int 0]))]) hP hD [0] [1, 2] rfl rfl (by decide) (by decide) hk1 hFc hP1 hD1
              have hK := (hK.sub (tys' := [(k_io, .boolean), (k_ca, .int)]) [0, 1] rfl).app hK1
              generalize H1 = H at hP hS ⊢
              replace hP : va_P (dC, dI) vwCl [(a_io, .inl (k_io, 50, .inl (fun _ => 0))), (a_ca, .inl (k_ca, 50, .inl (fun _ => 0))), (a_h, .inr (0, [.ref a_tx, .ref a_ru, .int 0, .ref a_cd, .ref a_te, .ref a_ki, .ref a_ca, .ref a_ty, .ref a_io, .ref a_ex, .ref a_lo, .int 0, .ref a_fi, .int 0, .ref a_cl, .int 0]))] H := hP
              replace hD : va_D A [(a_io, .inl (k_io, 50, .inl (fun _ => 0))), (a_ca, .inl (k_ca, 50, .inl (fun _ => 0))), (a_h, .inr (0, [.ref a_tx, .ref a_ru, .int 0, .ref a_cd, .ref a_te, .ref a_ki, .ref a_ca, .ref a_ty, .ref a_io, .ref a_ex, .ref a_lo, .int 0, .ref a_fi, .int 0, .ref a_cl, .int 0]))] := hD
              replace hK : va_K (dC, dI) vwCl [(k_io, .boolean), (k_ca, .int)] s := hK
              refine lv_aload_n hx hb d_C_lend_70 rfl (lv_at hl 0 rfl) ?_
              refine lv_aload_n hx hb d_C_lend_71 rfl (lv_at hl 0 rfl) ?_
              refine lv_iconst (v := 0) hx hb d_C_lend_72 (by decide) ?_
              have hPc := hP.sub (ws' := [(a_h, .inr (0, [.ref a_tx, .ref a_ru, .int 0, .ref a_cd, .ref a_te, .ref a_ki, .ref a_ca, .ref a_ty, .ref a_io, .ref a_ex, .ref a_lo, .int 0, .ref a_fi, .int 0, .ref a_cl, .int 0]))]) [2] rfl
              have hKc := hK.sub (tys' := []) [] rfl
              refine vp_callSi (va_Run.run (va_runV (As := [.int 0]) (rest := [.ref a_h]) ⟨hx, hb, hml, hown, hts⟩ (c_fittingAt l dC dI adK adV (a_h := a_h) (p0 := 0) (a_tx := a_tx) (a_ru := a_ru) (a_cd := a_cd) (a_te := a_te) (a_ki := a_ki) (a_ca := a_ca) (a_ty := a_ty) (a_io := a_io) (a_ex := a_ex) (a_lo := a_lo) (a_fi := a_fi) (a_cl := a_cl)) (cwV 1 hts (gV tw_443 tw_445 tw_16 tw_42 tw_446) rfl rfl rfl (by decide +kernel) ⟨(Nat.le_of_ble_eq_true rfl), (Nat.le_of_ble_eq_true rfl)⟩) ⟨fun a U g mk q => by obtain ⟨q0, qZ, qP, qK⟩ := q; exact ⟨q0, zz_call qZ, qP, va_K.moved (u := U) (U := U.calling g mk a) (Vm.Alike.refl U.vm) qK⟩, va_recv hKc hPc (ci := 0) (q0 := 0) rfl rfl, fun U hU hW => ⟨rfl, zz_ro hS hU hW hZ, by rw [hU]; exact hPc, va_K.moved hW.alike hKc⟩⟩ rfl rfl hl.1 rfl (lv_room (Nat.le_of_ble_eq_true rfl)) d_C_lend_73 ⟨(Nat.le_of_ble_eq_true rfl), (Nat.le_of_ble_eq_true rfl)⟩)) (fun r_18 hw_19 => ?_)
              obtain rfl : r_18 = (-1) := hw_19
              have hPc := hP.sub (ws' := [(a_h, .inr (0, [.ref a_tx, .ref a_ru, .int 0, .ref a_cd, .ref a_te, .ref a_ki, .ref a_ca, .ref a_ty, .ref a_io, .ref a_ex, .ref a_lo, .int 0, .ref a_fi, .int 0, .ref a_cl, .int 0]))]) [2] rfl
              have hKc := hK.sub (tys' := []) [] rfl
              refine va_csq (va_Run.run (va_runV (As := [.int (-1)]) (rest := []) ⟨hx, hb, hml, hown, hts⟩ (c_ruleAt l dC dI adK adV (a_h := a_h) (p0 := (-1)) (a_tx := a_tx) (a_ru := a_ru) (a_cd := a_cd) (a_te := a_te) (a_ki := a_ki) (a_ca := a_ca) (a_ty := a_ty) (a_io := a_io) (a_ex := a_ex) (a_lo := a_lo) (a_fi := a_fi) (a_cl := a_cl)) (cwV 1 hts (gV tw_431 tw_433 tw_15 tw_42 tw_434) rfl rfl rfl (by decide +kernel) ⟨(Nat.le_of_ble_eq_true rfl), (Nat.le_of_ble_eq_true rfl)⟩) ⟨fun a U g mk q => by obtain ⟨q0, qZ, qP, qK⟩ := q; exact ⟨q0, zz_call qZ, qP, va_K.moved (u := U) (U := U.calling g mk a) (Vm.Alike.refl U.vm) qK⟩, va_recv hKc hPc (ci := 0) (q0 := 0) rfl rfl, fun U hU hW => ⟨rfl, zz_ro hS hU hW hZ, by rw [hU]; exact hPc, va_K.moved hW.alike hKc⟩⟩ rfl rfl hl.1 rfl (lv_room (Nat.le_of_ble_eq_true rfl)) d_C_lend_76 ⟨(Nat.le_of_ble_eq_true rfl), (Nat.le_of_ble_eq_true rfl)⟩)) (fun r_20 hw_21 => ?_)
              obtain rfl : r_20 = none := hw_21
              refine W.eq (g2 := F0 m 79 ls [.null]) rfl ?_
              refine lv_astoreN (lv' := [(4, .null), (0, .ref a_h), (1, .int p0), (2, .int p1), (3, .int p2)]) hx hb d_C_lend_79 hl (by decide) rfl (fun ls hl => ?_)
              refine lv_aloadN hx hb d_C_lend_81 (lv_at hl 0 rfl) ?_
              refine lv_ifnonnullN hx hb d_C_lend_83 ?_
              refine lv_bipush (v := (-100)) hx hb d_C_lend_86 (by decide) ?_
              exact W.iret (v := (-100)) hx hb hr (fun t ht hW => ⟨⟨(-100), (), rfl, hE.symm.trans hz, trivial⟩, hS.F ht⟩) hS.2.2 d_C_lend_88
            · exact absurd (by decide) c_16
          · exact absurd (by decide) c_13
      · rw [if_pos c_9] at hE
        refine lv_iconst (v := 0) hx hb d_C_lend_21 (by decide) ?_
        exact W.iret (v := 0) hx hb hr (fun t ht hW => ⟨⟨0, (), rfl, hE.symm.trans hz, trivial⟩, hS.F ht⟩) hS.2.2 d_C_lend_22
set_option maxHeartbeats 4000000 in
set_option maxRecDepth 100000 in
theorem c_holds (l : Launch) (dC : Nat → ClassId) (dI : Nat → Nat → Nat) (adK adV : Nat → Nat) (a_cd : Nat) (a_cw : Nat) (k_cw : ClassId) (p0 : Int32) : Met l y_D_holds ws_D_holds ({ frames := 1, cells := 0, slots := 0, locals := 20 }) (va_Pc [.ref a_cd, .int p0] (fun U => zz adK adV (fun _ => False) U ∧ va_P (dC, dI) vwCl [(a_cd, .inr (1, [.ref a_cw])), (a_cw, .inl (k_cw, 157, .inr (.inl (fun _ => 0))))] U.heap ∧ va_K (dC, dI) vwCl [(k_cw, .long)] U)) (vp_Si (fun r => r = 0)) 0 0 (fun _ => False) := by
  refine Met.ofW (cc := c_D_holds) (maxL := 2) (ret := (some .boolean)) (by decide) rfl ?_
  intro p e s m args below meth c s₁ B hml hv
  obtain ⟨rfl, hZ, hP, hK⟩ := hv
  have hx := B.exec
  have hb := B.bytes
  have hr := B.returns
  have hts0 := atoms_spec (ws := ws_D_holds) B.pre
  have hts : ∀ w ∈ TT, w.before _ s = true := fun w h => hts0 w (List.mem_cons_of_mem _ h)
  have hown : s.vm.findClass "LoanRules$DaySet" = some m.cls := findClass_of_methodNamed B.named
  have hlocks := B.notSynchronized
  have hS : va_S (fun _ => False) s.heap s.heap [] := va_S.rf
  replace hP : va_P (dC, dI) vwCl [(a_cd, .inr (1, [.ref a_cw])), (a_cw, .inl (k_cw, 157, .inr (.inl (fun _ => 0))))] s.heap := hP
  have hl := lv_entry ([.ref a_cd, .int p0]) (n := 2) (Nat.le_of_ble_eq_true rfl)
  rw [lg_entry_eq]
  generalize (lg_sl ([.ref a_cd, .int p0]) ++ List.replicate (2 - (lg_sl ([.ref a_cd, .int p0])).length) Slot.unset).toArray = ls at hl ⊢
  replace hl : lv_has ls 2 [(0, .ref a_cd), (1, .int p0)] := hl
  refine lv_iload_n hx hb d_D_holds_0 rfl (lv_at hl 1 rfl) ?_
  have hPc := hP.sub (ws' := []) [] rfl
  have hKc := hK.sub (tys' := []) [] rfl
  refine vp_callSi (va_Run.run (va_runSN (As := [.int p0]) (rest := []) ⟨hx, hb, hml, hown, hts⟩ (c_isDay l dC dI adK adV (p0 := p0)) ⟨va_cnB 1 hts (gI tw_354) rfl rfl rfl (zn_D_15 hZ) (hts _ tw_42) (by decide +kernel) ⟨(Nat.le_of_ble_eq_true rfl), (Nat.le_of_ble_eq_true rfl)⟩, (hts _ tw_353), trivial⟩ ⟨fun a U g mk q => by obtain ⟨q0, qZ, qP, qK⟩ := q; exact ⟨q0, zz_call qZ, qP, va_K.moved (u := U) (U := U.calling g mk a) (Vm.Alike.refl U.vm) qK⟩, fun U hU hW => ⟨rfl, zz_rr hU hW hZ, by rw [hU]; exact hPc, va_K.moved hW.alike hKc⟩⟩ rfl rfl hl.1 rfl (lv_room (Nat.le_of_ble_eq_true rfl)) d_D_holds_1 ⟨(Nat.le_of_ble_eq_true rfl), (Nat.le_of_ble_eq_true rfl)⟩)) (fun r_1 hw_2 => ?_)
  subst hw_2
  refine lv_if_eq (tgt := 32) hx hb d_D_holds_4 (by decide) (fun c_3 => ?_) (fun c_3 => ?_)
  · refine lv_iconst (v := 0) hx hb d_D_holds_32 (by decide) ?_
    exact W.zret (v := 0) hx hb hr rfl (fun t ht hW => ⟨0, rfl, rfl, ht⟩) (fun _ h => by cases h) d_D_holds_33
  · refine lv_aload_n hx hb d_D_holds_7 rfl (lv_at hl 0 rfl) ?_
    refine va_get (D := (dC, dI)) (ci := 1) (v := .ref a_cw) (C := "LoanRules$DaySet") (T := Fz_D) (N := 1) hx hb hts it_D hown hK hP 0 rfl rfl 0 (by decide) (hts _ tw_94) (fun _ h9 => h9) rfl d_D_holds_8 ?_
    refine lv_iload_n hx hb d_D_holds_11 rfl (lv_at hl 1 rfl) ?_
    refine lv_bipush (v := 64) hx hb d_D_holds_12 (by decide) ?_
    refine lv_idiv hx hb d_D_holds_14 (by decide) ?_
    have i_4 : vp_in (p0 / 64) 157 := in_day c_3
    refine va_lald (D := (dC, dI)) hx hb hK hP 1 0 rfl rfl i_4 d_D_holds_15 ?_
    refine lv_topl (fun x_5 ex_5 => ?_)
    obtain rfl : x_5 = 0 := ex_5
    refine lv_iload_n hx hb d_D_holds_16 rfl (lv_at hl 1 rfl) ?_
    refine lv_bipush (v := 64) hx hb d_D_holds_17 (by decide) ?_
    refine lv_irem hx hb d_D_holds_19 (by decide) ?_
    refine lv_lushr (v := 0) hx hb d_D_holds_20 (lz_ushr _) ?_
    refine lv_lconst (v := 1) hx hb d_D_holds_21 rfl ?_
    refine lv_land hx hb d_D_holds_22 ?_
    refine lv_topl (fun x_6 ex_6 => ?_)
    obtain rfl : x_6 = 0 := ex_6.trans (by decide)
    refine lv_lconst (v := 0) hx hb d_D_holds_23 rfl ?_
    refine W.lcmp hx hb d_D_holds_24 ?_
    refine lv_topi (fun x_7 ex_7 => ?_)
    obtain rfl : x_7 = 0 := ex_7.trans (by decide)
    refine lv_if_eq (tgt := 32) hx hb d_D_holds_25 (by decide) (fun c_8 => ?_) (fun c_8 => ?_)
    · refine lv_iconst (v := 0) hx hb d_D_holds_32 (by decide) ?_
      exact W.zret (v := 0) hx hb hr rfl (fun t ht hW => ⟨0, rfl, rfl, ht⟩) (fun _ h => by cases h) d_D_holds_33
    · exact absurd (by decide) c_8
set_option maxHeartbeats 4000000 in
set_option maxRecDepth 100000 in
theorem c_put (l : Launch) (dC : Nat → ClassId) (dI : Nat → Nat → Nat) (adK adV : Nat → Nat) (a_cd : Nat) (a_cw : Nat) (k_cw : ClassId) (p0 : Int32) (p1 : Int32) (f_w : Nat → Int64) (sz : Nat) : Met l y_D_put ws_D_put ({ frames := 1, cells := 0, slots := 0, locals := 20 }) (va_Pc [.ref a_cd, .int p0, .int p1] (fun U => U.heap.size = sz ∧ zz adK adV (va_A [(a_cd, .inr (1, [.ref a_cw])), (a_cw, .inl (k_cw, 157, .inr (.inl f_w)))] sz) U ∧ va_P (dC, dI) vwCl [(a_cd, .inr (1, [.ref a_cw])), (a_cw, .inl (k_cw, 157, .inr (.inl f_w)))] U.heap ∧ va_K (dC, dI) vwCl [(k_cw, .long)] U ∧ va_D (fun _ => True) [(a_cd, .inr (1, [.ref a_cw])), (a_cw, .inl (k_cw, 157, .inr (.inl f_w)))])) (va_Qv (fun _ : Unit => True) (fun (_ : Unit) (_ : State) => True) (va_A [(a_cd, .inr (1, [.ref a_cw])), (a_cw, .inl (k_cw, 157, .inr (.inl f_w)))] sz)) 0 0 (va_A [(a_cd, .inr (1, [.ref a_cw])), (a_cw, .inl (k_cw, 157, .inr (.inl f_w)))] sz) := by
  refine Met.ofW (cc := c_D_put) (maxL := 5) (ret := none) (by decide) rfl ?_
  intro p e s m args below meth c s₁ B hml hv
  obtain ⟨rfl, hsz, hZ, hP, hK, hD0⟩ := hv
  have hx := B.exec
  have hb := B.bytes
  have hr := B.returns
  have hts0 := atoms_spec (ws := ws_D_put) B.pre
  have hts : ∀ w ∈ TT, w.before _ s = true := fun w h => hts0 w (List.mem_cons_of_mem _ h)
  have hown : s.vm.findClass "LoanRules$DaySet" = some m.cls := findClass_of_methodNamed B.named
  have hlocks := B.notSynchronized
  subst hsz
  have hD := hD0.self (sz := s.heap.size)
  generalize hAe : va_A [(a_cd, .inr (1, [.ref a_cw])), (a_cw, .inl (k_cw, 157, .inr (.inl f_w)))] s.heap.size = A at hD hZ ⊢
  have hA : ∀ q : Nat, s.heap.size ≤ q → A q := fun q h => by rw [← hAe]; exact Or.inr h
  clear hAe hD0
  have hS : va_S A s.heap s.heap [] := va_S.rf
  replace hP : va_P (dC, dI) vwCl [(a_cd, .inr (1, [.ref a_cw])), (a_cw, .inl (k_cw, 157, .inr (.inl f_w)))] s.heap := hP
  have hl := lv_entry ([.ref a_cd, .int p0, .int p1]) (n := 5) (Nat.le_of_ble_eq_true rfl)
  rw [lg_entry_eq]
  generalize (lg_sl ([.ref a_cd, .int p0, .int p1]) ++ List.replicate (5 - (lg_sl ([.ref a_cd, .int p0, .int p1])).length) Slot.unset).toArray = ls at hl ⊢
  replace hl : lv_has ls 5 [(0, .ref a_cd), (1, .int p0), (2, .int p1)] := hl
  refine lv_iload_n hx hb d_D_put_0 rfl (lv_at hl 1 rfl) ?_
  have hPc := hP.sub (ws' := []) [] rfl
  have hKc := hK.sub (tys' := []) [] rfl
  refine vp_callSi (va_Run.run (va_runSN (As := [.int p0]) (rest := []) ⟨hx, hb, hml, hown, hts⟩ (c_isDay l dC dI adK adV (p0 := p0)) ⟨va_cnB 1 hts (gI tw_354) rfl rfl rfl (zn_D_15 hZ) (hts _ tw_42) (by decide +kernel) ⟨(Nat.le_of_ble_eq_true rfl), (Nat.le_of_ble_eq_true rfl)⟩, (hts _ tw_353), trivial⟩ ⟨fun a U g mk q => by obtain ⟨q0, qZ, qP, qK⟩ := q; exact ⟨q0, zz_call qZ, qP, va_K.moved (u := U) (U := U.calling g mk a) (Vm.Alike.refl U.vm) qK⟩, fun U hU hW => ⟨rfl, zz_ro hS hU hW hZ, by rw [hU]; exact hPc, va_K.moved hW.alike hKc⟩⟩ rfl rfl hl.1 rfl (lv_room (Nat.le_of_ble_eq_true rfl)) d_D_put_1 ⟨(Nat.le_of_ble_eq_true rfl), (Nat.le_of_ble_eq_true rfl)⟩)) (fun r_1 hw_2 => ?_)
  subst hw_2
  refine lv_if_ne (tgt := 8) hx hb d_D_put_4 (by decide) (fun c_3 => ?_) (fun c_3 => ?_)
  · refine lv_lconst (v := 1) hx hb d_D_put_8 rfl ?_
    refine lv_iload_n hx hb d_D_put_9 rfl (lv_at hl 1 rfl) ?_
    refine lv_bipush (v := 64) hx hb d_D_put_10 (by decide) ?_
    refine lv_irem hx hb d_D_put_12 (by decide) ?_
    refine lv_lshl hx hb d_D_put_13 rfl ?_
    refine lv_lstore_n (lv' := [(3, .long ((1 : Int64) <<< ((p0 - p0 / 64 * 64).toInt64 &&& 63))), (0, .ref a_cd), (1, .int p0), (2, .int p1)]) hx hb d_D_put_14 rfl hl (by decide) rfl (fun ls hl => ?_)
    refine lv_iload_n hx hb d_D_put_15 rfl (lv_at hl 3 rfl) ?_
    refine lv_if_eq (tgt := 35) hx hb d_D_put_16 (by decide) (fun c_4 => ?_) (fun c_4 => ?_)
    · refine lv_aload_n hx hb d_D_put_35 rfl (lv_at hl 1 rfl) ?_
      refine va_get (D := (dC, dI)) (ci := 1) (v := .ref a_cw) (C := "LoanRules$DaySet") (T := Fz_D) (N := 1) hx hb hts it_D hown hK hP 0 rfl rfl 0 (by decide) (hts _ tw_94) (fun _ h9 => h9) rfl d_D_put_36 ?_
      refine lv_iload_n hx hb d_D_put_39 rfl (lv_at hl 2 rfl) ?_
      refine lv_bipush (v := 64) hx hb d_D_put_40 (by decide) ?_
      refine lv_idiv hx hb d_D_put_42 (by decide) ?_
      refine lv_dup2_11 hx hb d_D_put_43 rfl rfl ?_
      have i_5 : vp_in (p0 / 64) 157 := in_day c_3
      refine va_lald (D := (dC, dI)) hx hb hK hP 1 0 rfl rfl i_5 d_D_put_44 ?_
      refine lv_lload_n hx hb d_D_put_45 rfl (lv_at hl 0 rfl) ?_
      refine lv_ldc2 (v := (-1)) hx hb hown (hts _ tw_364) d_D_put_46 ?_
      refine lv_lxor hx hb d_D_put_49 ?_
      refine lv_land hx hb d_D_put_50 ?_
      have i_6 : vp_in (p0 / 64) 157 := in_day c_3
      refine va_last (D := (dC, dI)) hx hb hK hP hD hS 1 0 rfl rfl i_6 d_D_put_51 (fun H locs hP hD hS => ?_)
      replace hP : va_P (dC, dI) vwCl [(a_cd, .inr (1, [.ref a_cw])), (a_cw, .inl (k_cw, 157, .inr (.inl (vp_updL f_w (p0 / 64).toNatClampNeg ((f_w (p0 / 64).toNatClampNeg) &&& (((1 : Int64) <<< ((p0 - p0 / 64 * 64).toInt64 &&& 63)) ^^^ (-1)))))))] H := hP
      replace hD : va_D A [(a_cd, .inr (1, [.ref a_cw])), (a_cw, .inl (k_cw, 157, .inr (.inl (vp_updL f_w (p0 / 64).toNatClampNeg ((f_w (p0 / 64).toNatClampNeg) &&& (((1 : Int64) <<< ((p0 - p0 / 64 * 64).toInt64 &&& 63)) ^^^ (-1)))))))] := hD
      exact W.vret hx hb hr (fun t ht hW => ⟨⟨(), rfl, trivial, trivial⟩, hS.F ht⟩) hS.2.2 d_D_put_52
    · refine lv_aload_n hx hb d_D_put_19 rfl (lv_at hl 1 rfl) ?_
      refine va_get (D := (dC, dI)) (ci := 1) (v := .ref a_cw) (C := "LoanRules$DaySet") (T := Fz_D) (N := 1) hx hb hts it_D hown hK hP 0 rfl rfl 0 (by decide) (hts _ tw_94) (fun _ h9 => h9) rfl d_D_put_20 ?_
      refine lv_iload_n hx hb d_D_put_23 rfl (lv_at hl 2 rfl) ?_
      refine lv_bipush (v := 64) hx hb d_D_put_24 (by decide) ?_
      refine lv_idiv hx hb d_D_put_26 (by decide) ?_
      refine lv_dup2_11 hx hb d_D_put_27 rfl rfl ?_
      have i_7 : vp_in (p0 / 64) 157 := in_day c_3
      refine va_lald (D := (dC, dI)) hx hb hK hP 1 0 rfl rfl i_7 d_D_put_28 ?_
      refine lv_lload_n hx hb d_D_put_29 rfl (lv_at hl 0 rfl) ?_
      refine lv_lor hx hb d_D_put_30 ?_
      have i_8 : vp_in (p0 / 64) 157 := in_day c_3
      refine va_last (D := (dC, dI)) hx hb hK hP hD hS 1 0 rfl rfl i_8 d_D_put_31 (fun H locs hP hD hS => ?_)
      replace hP : va_P (dC, dI) vwCl [(a_cd, .inr (1, [.ref a_cw])), (a_cw, .inl (k_cw, 157, .inr (.inl (vp_updL f_w (p0 / 64).toNatClampNeg ((f_w (p0 / 64).toNatClampNeg) ||| ((1 : Int64) <<< ((p0 - p0 / 64 * 64).toInt64 &&& 63)))))))] H := hP
      replace hD : va_D A [(a_cd, .inr (1, [.ref a_cw])), (a_cw, .inl (k_cw, 157, .inr (.inl (vp_updL f_w (p0 / 64).toNatClampNeg ((f_w (p0 / 64).toNatClampNeg) ||| ((1 : Int64) <<< ((p0 - p0 / 64 * 64).toInt64 &&& 63)))))))] := hD
      refine lv_goto (tgt := 52) hx hb d_D_put_32 (by decide) ?_
      exact W.vret hx hb hr (fun t ht hW => ⟨⟨(), rfl, trivial, trivial⟩, hS.F ht⟩) hS.2.2 d_D_put_52
  · exact W.vret hx hb hr (fun t ht hW => ⟨⟨(), rfl, trivial, trivial⟩, hS.F ht⟩) hS.2.2 d_D_put_7
set_option maxHeartbeats 4000000 in
set_option maxRecDepth 100000 in
theorem c_closed (l : Launch) (dC : Nat → ClassId) (dI : Nat → Nat → Nat) (adK adV : Nat → Nat) (a_h : Nat) (a_cd : Nat) (a_cw : Nat) (k_cw : ClassId) (p0 : Int32) (p1 : Int32) (a_tx : Nat) (a_ru : Nat) (a_te : Nat) (a_ki : Nat) (a_ca : Nat) (a_ty : Nat) (a_io : Nat) (a_ex : Nat) (a_lo : Nat) (a_fi : Nat) (a_cl : Nat) (sz : Nat) : Met l y_C_closed ws_C_closed ({ frames := 2, cells := 0, slots := 0, locals := 44 }) (va_Pc [.ref a_h, .int p0, .int p1] (fun U => U.heap.size = sz ∧ zz adK adV (va_A [(a_h, .inr (0, [.ref a_tx, .ref a_ru, .int 0, .ref a_cd, .ref a_te, .ref a_ki, .ref a_ca, .ref a_ty, .ref a_io, .ref a_ex, .ref a_lo, .int 0, .ref a_fi, .int 0, .ref a_cl, .int 0])), (a_cd, .inr (1, [.ref a_cw])), (a_cw, .inl (k_cw, 157, .inr (.inl (fun _ => 0))))] sz) U ∧ va_P (dC, dI) vwCl [(a_h, .inr (0, [.ref a_tx, .ref a_ru, .int 0, .ref a_cd, .ref a_te, .ref a_ki, .ref a_ca, .ref a_ty, .ref a_io, .ref a_ex, .ref a_lo, .int 0, .ref a_fi, .int 0, .ref a_cl, .int 0])), (a_cd, .inr (1, [.ref a_cw])), (a_cw, .inl (k_cw, 157, .inr (.inl (fun _ => 0))))] U.heap ∧ va_K (dC, dI) vwCl [(k_cw, .long)] U ∧ va_D (fun _ => True) [(a_h, .inr (0, [.ref a_tx, .ref a_ru, .int 0, .ref a_cd, .ref a_te, .ref a_ki, .ref a_ca, .ref a_ty, .ref a_io, .ref a_ex, .ref a_lo, .int 0, .ref a_fi, .int 0, .ref a_cl, .int 0])), (a_cd, .inr (1, [.ref a_cw])), (a_cw, .inl (k_cw, 157, .inr (.inl (fun _ => 0))))])) (va_Qi (fun (r : Int32) (_ : Unit) => r = 0) (fun (_ : Unit) (_ : State) => True) (va_A [(a_h, .inr (0, [.ref a_tx, .ref a_ru, .int 0, .ref a_cd, .ref a_te, .ref a_ki, .ref a_ca, .ref a_ty, .ref a_io, .ref a_ex, .ref a_lo, .int 0, .ref a_fi, .int 0, .ref a_cl, .int 0])), (a_cd, .inr (1, [.ref a_cw])), (a_cw, .inl (k_cw, 157, .inr (.inl (fun _ => 0))))] sz)) 0 0 (va_A [(a_h, .inr (0, [.ref a_tx, .ref a_ru, .int 0, .ref a_cd, .ref a_te, .ref a_ki, .ref a_ca, .ref a_ty, .ref a_io, .ref a_ex, .ref a_lo, .int 0, .ref a_fi, .int 0, .ref a_cl, .int 0])), (a_cd, .inr (1, [.ref a_cw])), (a_cw, .inl (k_cw, 157, .inr (.inl (fun _ => 0))))] sz) := by
  refine Met.ofW (cc := c_C_closed) (maxL := 4) (ret := (some .boolean)) (by decide) rfl ?_
  intro p e s m args below meth c s₁ B hml hv
  obtain ⟨rfl, hsz, hZ, hP, hK, hD0⟩ := hv
  have hx := B.exec
  have hb := B.bytes
  have hr := B.returns
  have hts0 := atoms_spec (ws := ws_C_closed) B.pre
  have hts : ∀ w ∈ TT, w.before _ s = true := fun w h => hts0 w (List.mem_cons_of_mem _ h)
  have hown : s.vm.findClass "LoanRules" = some m.cls := findClass_of_methodNamed B.named
  have hlocks := B.notSynchronized
  subst hsz
  have hD := hD0.self (sz := s.heap.size)
  generalize hAe : va_A [(a_h, .inr (0, [.ref a_tx, .ref a_ru, .int 0, .ref a_cd, .ref a_te, .ref a_ki, .ref a_ca, .ref a_ty, .ref a_io, .ref a_ex, .ref a_lo, .int 0, .ref a_fi, .int 0, .ref a_cl, .int 0])), (a_cd, .inr (1, [.ref a_cw])), (a_cw, .inl (k_cw, 157, .inr (.inl (fun _ => 0))))] s.heap.size = A at hD hZ ⊢
  have hA : ∀ q : Nat, s.heap.size ≤ q → A q := fun q h => by rw [← hAe]; exact Or.inr h
  clear hAe hD0
  have hS : va_S A s.heap s.heap [] := va_S.rf
  replace hP : va_P (dC, dI) vwCl [(a_h, .inr (0, [.ref a_tx, .ref a_ru, .int 0, .ref a_cd, .ref a_te, .ref a_ki, .ref a_ca, .ref a_ty, .ref a_io, .ref a_ex, .ref a_lo, .int 0, .ref a_fi, .int 0, .ref a_cl, .int 0])), (a_cd, .inr (1, [.ref a_cw])), (a_cw, .inl (k_cw, 157, .inr (.inl (fun _ => 0))))] s.heap := hP
  have hl := lv_entry ([.ref a_h, .int p0, .int p1]) (n := 4) (Nat.le_of_ble_eq_true rfl)
  rw [lg_entry_eq]
  generalize (lg_sl ([.ref a_h, .int p0, .int p1]) ++ List.replicate (4 - (lg_sl ([.ref a_h, .int p0, .int p1])).length) Slot.unset).toArray = ls at hl ⊢
  replace hl : lv_has ls 4 [(0, .ref a_h), (1, .int p0), (2, .int p1)] := hl
  refine lv_iload_n hx hb d_C_closed_0 rfl (lv_at hl 1 rfl) ?_
  have hPc := hP.sub (ws' := []) [] rfl
  have hKc := hK.sub (tys' := []) [] rfl
  refine vp_callSi (va_Run.run (va_runS (As := [.int p0]) (rest := []) ⟨hx, hb, hml, hown, hts⟩ (c_isDay l dC dI adK adV (p0 := p0)) (va_cwS 1 hts (gS tw_352 tw_353 tw_42 tw_354) rfl rfl rfl (by decide +kernel) ⟨(Nat.le_of_ble_eq_true rfl), (Nat.le_of_ble_eq_true rfl)⟩) ⟨fun a U g mk q => by obtain ⟨q0, qZ, qP, qK⟩ := q; exact ⟨q0, zz_call qZ, qP, va_K.moved (u := U) (U := U.calling g mk a) (Vm.Alike.refl U.vm) qK⟩, fun U hU hW => ⟨rfl, zz_ro hS hU hW hZ, by rw [hU]; exact hPc, va_K.moved hW.alike hKc⟩⟩ rfl rfl hl.1 rfl (lv_room (Nat.le_of_ble_eq_true rfl)) d_C_closed_1 ⟨(Nat.le_of_ble_eq_true rfl), (Nat.le_of_ble_eq_true rfl)⟩)) (fun r_1 hw_2 => ?_)
  subst hw_2
  refine lv_if_ne (tgt := 9) hx hb d_C_closed_4 (by decide) (fun c_3 => ?_) (fun c_3 => ?_)
  · refine lv_aload_n hx hb d_C_closed_9 rfl (lv_at hl 0 rfl) ?_
    refine va_get (D := (dC, dI)) (ci := 0) (v := .ref a_cd) (C := "LoanRules") (T := Fz_C) (N := 16) hx hb hts it_C hown hK hP 0 rfl rfl 3 (by decide) (hts _ tw_107) (fun _ h9 => h9) rfl d_C_closed_10 ?_
    refine lv_iload_n hx hb d_C_closed_13 rfl (lv_at hl 1 rfl) ?_
    have hPc := hP.sub (ws' := [(a_cd, .inr (1, [.ref a_cw])), (a_cw, .inl (k_cw, 157, .inr (.inl (fun _ => 0))))]) [1, 2] rfl
    have hKc := hK.sub (tys' := [(k_cw, .long)]) [0] rfl
    refine vp_callSi (va_Run.run (va_runV (As := [.int p0]) (rest := []) ⟨hx, hb, hml, hown, hts⟩ (c_holds l dC dI adK adV (a_cd := a_cd) (p0 := p0) (a_cw := a_cw) (k_cw := k_cw)) (cwV 1 hts (gV tw_355 tw_356 tw_357 tw_44 tw_358) rfl rfl rfl (by decide +kernel) ⟨(Nat.le_of_ble_eq_true rfl), (Nat.le_of_ble_eq_true rfl)⟩) ⟨fun a U g mk q => by obtain ⟨q0, qZ, qP, qK⟩ := q; exact ⟨q0, zz_call qZ, qP, va_K.moved (u := U) (U := U.calling g mk a) (Vm.Alike.refl U.vm) qK⟩, va_recv hKc hPc (ci := 1) (q0 := 0) rfl rfl, fun U hU hW => ⟨rfl, zz_ro hS hU hW hZ, by rw [hU]; exact hPc, va_K.moved hW.alike hKc⟩⟩ rfl rfl hl.1 rfl (lv_room (Nat.le_of_ble_eq_true rfl)) d_C_closed_14 ⟨(Nat.le_of_ble_eq_true rfl), (Nat.le_of_ble_eq_true rfl)⟩)) (fun r_4 hw_5 => ?_)
    obtain rfl : r_4 = 0 := hw_5
    refine lv_istore_n (lv' := [(3, .int 0), (0, .ref a_h), (1, .int p0), (2, .int p1)]) hx hb d_C_closed_17 rfl hl (by decide) rfl (fun ls hl => ?_)
    refine lv_aload_n hx hb d_C_closed_18 rfl (lv_at hl 1 rfl) ?_
    refine va_get (D := (dC, dI)) (ci := 0) (v := .ref a_cd) (C := "LoanRules") (T := Fz_C) (N := 16) hx hb hts it_C hown hK hP 0 rfl rfl 3 (by decide) (hts _ tw_107) (fun _ h9 => h9) rfl d_C_closed_19 ?_
    refine lv_iload_n hx hb d_C_closed_22 rfl (lv_at hl 2 rfl) ?_
    refine lv_iload_n hx hb d_C_closed_23 rfl (lv_at hl 3 rfl) ?_
    have hPc := hP.sub (ws' := [(a_cd, .inr (1, [.ref a_cw])), (a_cw, .inl (k_cw, 157, .inr (.inl (fun _ => 0))))]) [1, 2] rfl
    have hKc := hK.sub (tys' := [(k_cw, .long)]) [0] rfl
    have hDc := hD.sub (ws' := [(a_cd, .inr (1, [.ref a_cw])), (a_cw, .inl (k_cw, 157, .inr (.inl (fun _ => 0))))]) [1, 2] (by decide) rfl
    have hFc := va_free (wc := [(a_cd, .inr (1, [.ref a_cw])), (a_cw, .inl (k_cw, 157, .inr (.inl (fun _ => 0))))]) hD hS hA [1, 2] rfl
    refine va_callv (va_runV (As := [.int p0, .int p1]) (rest := []) ⟨hx, hb, hml, hown, hts⟩ (c_put l dC dI adK adV (a_cd := a_cd) (p0 := p0) (p1 := p1) (a_cw := a_cw) (k_cw := k_cw) (f_w := (fun _ => 0)) (sz := s.heap.size)) (cwV 2 hts (gV tw_360 tw_361 tw_362 tw_44 tw_363) rfl rfl rfl (by decide +kernel) ⟨(Nat.le_of_ble_eq_true rfl), (Nat.le_of_ble_eq_true rfl)⟩) ⟨fun a U g mk q => by obtain ⟨q0, q1, qZ, qP, qK, qD⟩ := q; exact ⟨q0, q1, zz_call qZ, qP, va_K.moved (u := U) (U := U.calling g mk a) (Vm.Alike.refl U.vm) qK, qD⟩, va_recv hKc hPc (ci := 1) (q0 := 0) rfl rfl, fun U hU hW => ⟨rfl, by rw [hU], zz_rw hS hFc hU hW hZ, by rw [hU]; exact hPc, va_K.moved hW.alike hKc, hDc.weaken (fun _ _ _ _ => trivial)⟩⟩ rfl rfl hl.1 rfl (lv_room (Nat.le_of_ble_eq_true rfl)) d_C_closed_24 ⟨(Nat.le_of_ble_eq_true rfl), (Nat.le_of_ble_eq_true rfl)⟩) hS (fun q _ h => hFc q h) hFc (fun u t H1 locs ht hvm hw_6 hB hz1 hk1 hS => ?_)
    obtain ⟨hP, hD⟩ := va_join (wr := [(a_h, .inr (0, [.ref a_tx, .ref a_ru, .int 0, .ref a_cd, .ref a_te, .ref a_ki, .ref a_ca, .ref a_ty, .ref a_io, .ref a_ex, .ref a_lo, .int 0, .ref a_fi, .int 0, .ref a_cl, .int 0]))]) (w1 := []) hP hD [1, 2] [0] rfl rfl (by decide) (by decide) hk1 hFc wn_P wn_D
    have hK := hK.sub (tys' := []) [] rfl
    generalize H1 = H at hP hS ⊢
    replace hP : va_P (dC, dI) vwCl [(a_h, .inr (0, [.ref a_tx, .ref a_ru, .int 0, .ref a_cd, .ref a_te, .ref a_ki, .ref a_ca, .ref a_ty, .ref a_io, .ref a_ex, .ref a_lo, .int 0, .ref a_fi, .int 0, .ref a_cl, .int 0]))] H := hP
    replace hD : va_D A [(a_h, .inr (0, [.ref a_tx, .ref a_ru, .int 0, .ref a_cd, .ref a_te, .ref a_ki, .ref a_ca, .ref a_ty, .ref a_io, .ref a_ex, .ref a_lo, .int 0, .ref a_fi, .int 0, .ref a_cl, .int 0]))] := hD
    refine lv_iload_n hx hb d_C_closed_27 rfl (lv_at hl 0 rfl) ?_
    exact W.zret (v := 0) hx hb hr rfl (fun t ht hW => ⟨⟨0, (), rfl, rfl, trivial⟩, hS.F ht⟩) hS.2.2 d_C_closed_28
  · refine lv_iconst (v := 0) hx hb d_C_closed_7 (by decide) ?_
    exact W.zret (v := 0) hx hb hr rfl (fun t ht hW => ⟨⟨0, (), rfl, rfl, trivial⟩, hS.F ht⟩) hS.2.2 d_C_closed_8
def g_term (p0 : Int32) : Int32 :=
  if (g_isDay p0) = 0 then
    0
  else
    1
set_option maxHeartbeats 4000000 in
set_option maxRecDepth 100000 in
theorem c_term (l : Launch) (dC : Nat → ClassId) (dI : Nat → Nat → Nat) (adK adV : Nat → Nat) (a_h : Nat) (a_te : Nat) (a_tw : Nat) (k_tw : ClassId) (p0 : Int32) (a_tx : Nat) (a_ru : Nat) (a_cd : Nat) (a_ki : Nat) (a_ca : Nat) (a_ty : Nat) (a_io : Nat) (a_ex : Nat) (a_lo : Nat) (a_fi : Nat) (a_cl : Nat) (sz : Nat) : Met l y_C_term ws_C_term ({ frames := 2, cells := 0, slots := 0, locals := 44 }) (va_Pc [.ref a_h, .int p0] (fun U => U.heap.size = sz ∧ zz adK adV (va_A [(a_h, .inr (0, [.ref a_tx, .ref a_ru, .int 0, .ref a_cd, .ref a_te, .ref a_ki, .ref a_ca, .ref a_ty, .ref a_io, .ref a_ex, .ref a_lo, .int 0, .ref a_fi, .int 0, .ref a_cl, .int 0])), (a_te, .inr (1, [.ref a_tw])), (a_tw, .inl (k_tw, 157, .inr (.inl (fun _ => 0))))] sz) U ∧ va_P (dC, dI) vwCl [(a_h, .inr (0, [.ref a_tx, .ref a_ru, .int 0, .ref a_cd, .ref a_te, .ref a_ki, .ref a_ca, .ref a_ty, .ref a_io, .ref a_ex, .ref a_lo, .int 0, .ref a_fi, .int 0, .ref a_cl, .int 0])), (a_te, .inr (1, [.ref a_tw])), (a_tw, .inl (k_tw, 157, .inr (.inl (fun _ => 0))))] U.heap ∧ va_K (dC, dI) vwCl [(k_tw, .long)] U ∧ va_D (fun _ => True) [(a_h, .inr (0, [.ref a_tx, .ref a_ru, .int 0, .ref a_cd, .ref a_te, .ref a_ki, .ref a_ca, .ref a_ty, .ref a_io, .ref a_ex, .ref a_lo, .int 0, .ref a_fi, .int 0, .ref a_cl, .int 0])), (a_te, .inr (1, [.ref a_tw])), (a_tw, .inl (k_tw, 157, .inr (.inl (fun _ => 0))))])) (va_Qi (fun (r : Int32) (_ : Unit) => r = g_term p0) (fun (_ : Unit) (_ : State) => True) (va_A [(a_h, .inr (0, [.ref a_tx, .ref a_ru, .int 0, .ref a_cd, .ref a_te, .ref a_ki, .ref a_ca, .ref a_ty, .ref a_io, .ref a_ex, .ref a_lo, .int 0, .ref a_fi, .int 0, .ref a_cl, .int 0])), (a_te, .inr (1, [.ref a_tw])), (a_tw, .inl (k_tw, 157, .inr (.inl (fun _ => 0))))] sz)) 0 0 (va_A [(a_h, .inr (0, [.ref a_tx, .ref a_ru, .int 0, .ref a_cd, .ref a_te, .ref a_ki, .ref a_ca, .ref a_ty, .ref a_io, .ref a_ex, .ref a_lo, .int 0, .ref a_fi, .int 0, .ref a_cl, .int 0])), (a_te, .inr (1, [.ref a_tw])), (a_tw, .inl (k_tw, 157, .inr (.inl (fun _ => 0))))] sz) := by
  refine Met.ofW (cc := c_C_term) (maxL := 2) (ret := (some .int)) (by decide) rfl ?_
  intro p e s m args below meth c s₁ B hml hv
  obtain ⟨rfl, hsz, hZ, hP, hK, hD0⟩ := hv
  have hx := B.exec
  have hb := B.bytes
  have hr := B.returns
  have hts0 := atoms_spec (ws := ws_C_term) B.pre
  have hts : ∀ w ∈ TT, w.before _ s = true := fun w h => hts0 w (List.mem_cons_of_mem _ h)
  have hown : s.vm.findClass "LoanRules" = some m.cls := findClass_of_methodNamed B.named
  have hlocks := B.notSynchronized
  subst hsz
  have hD := hD0.self (sz := s.heap.size)
  generalize hAe : va_A [(a_h, .inr (0, [.ref a_tx, .ref a_ru, .int 0, .ref a_cd, .ref a_te, .ref a_ki, .ref a_ca, .ref a_ty, .ref a_io, .ref a_ex, .ref a_lo, .int 0, .ref a_fi, .int 0, .ref a_cl, .int 0])), (a_te, .inr (1, [.ref a_tw])), (a_tw, .inl (k_tw, 157, .inr (.inl (fun _ => 0))))] s.heap.size = A at hD hZ ⊢
  have hA : ∀ q : Nat, s.heap.size ≤ q → A q := fun q h => by rw [← hAe]; exact Or.inr h
  clear hAe hD0
  have hS : va_S A s.heap s.heap [] := va_S.rf
  replace hP : va_P (dC, dI) vwCl [(a_h, .inr (0, [.ref a_tx, .ref a_ru, .int 0, .ref a_cd, .ref a_te, .ref a_ki, .ref a_ca, .ref a_ty, .ref a_io, .ref a_ex, .ref a_lo, .int 0, .ref a_fi, .int 0, .ref a_cl, .int 0])), (a_te, .inr (1, [.ref a_tw])), (a_tw, .inl (k_tw, 157, .inr (.inl (fun _ => 0))))] s.heap := hP
  have hl := lv_entry ([.ref a_h, .int p0]) (n := 2) (Nat.le_of_ble_eq_true rfl)
  rw [lg_entry_eq]
  generalize (lg_sl ([.ref a_h, .int p0]) ++ List.replicate (2 - (lg_sl ([.ref a_h, .int p0])).length) Slot.unset).toArray = ls at hl ⊢
  replace hl : lv_has ls 2 [(0, .ref a_h), (1, .int p0)] := hl
  obtain ⟨z, hz⟩ : ∃ z, z = g_term p0 := ⟨_, rfl⟩
  have hE := hz
  rw [g_term] at hE
  refine lv_iload_n hx hb d_C_term_0 rfl (lv_at hl 1 rfl) ?_
  have hPc := hP.sub (ws' := []) [] rfl
  have hKc := hK.sub (tys' := []) [] rfl
  refine vp_callSi (va_Run.run (va_runS (As := [.int p0]) (rest := []) ⟨hx, hb, hml, hown, hts⟩ (c_isDay l dC dI adK adV (p0 := p0)) (va_cwS 1 hts (gS tw_352 tw_353 tw_42 tw_354) rfl rfl rfl (by decide +kernel) ⟨(Nat.le_of_ble_eq_true rfl), (Nat.le_of_ble_eq_true rfl)⟩) ⟨fun a U g mk q => by obtain ⟨q0, qZ, qP, qK⟩ := q; exact ⟨q0, zz_call qZ, qP, va_K.moved (u := U) (U := U.calling g mk a) (Vm.Alike.refl U.vm) qK⟩, fun U hU hW => ⟨rfl, zz_ro hS hU hW hZ, by rw [hU]; exact hPc, va_K.moved hW.alike hKc⟩⟩ rfl rfl hl.1 rfl (lv_room (Nat.le_of_ble_eq_true rfl)) d_C_term_1 ⟨(Nat.le_of_ble_eq_true rfl), (Nat.le_of_ble_eq_true rfl)⟩)) (fun r_1 hw_2 => ?_)
  subst hw_2
  refine lv_if_eq (tgt := 18) hx hb d_C_term_4 (by decide) (fun c_3 => ?_) (fun c_3 => ?_)
  · rw [if_pos c_3] at hE
    refine lv_iconst (v := 0) hx hb d_C_term_18 (by decide) ?_
    exact W.iret (v := 0) hx hb hr (fun t ht hW => ⟨⟨0, (), rfl, hE.symm.trans hz, trivial⟩, hS.F ht⟩) hS.2.2 d_C_term_19
  · rw [if_neg c_3] at hE
    refine lv_aload_n hx hb d_C_term_7 rfl (lv_at hl 0 rfl) ?_
    refine va_get (D := (dC, dI)) (ci := 0) (v := .ref a_te) (C := "LoanRules") (T := Fz_C) (N := 16) hx hb hts it_C hown hK hP 0 rfl rfl 4 (by decide) (hts _ tw_108) (fun _ h9 => h9) rfl d_C_term_8 ?_
    refine lv_iload_n hx hb d_C_term_11 rfl (lv_at hl 1 rfl) ?_
    have hPc := hP.sub (ws' := [(a_te, .inr (1, [.ref a_tw])), (a_tw, .inl (k_tw, 157, .inr (.inl (fun _ => 0))))]) [1, 2] rfl
    have hKc := hK.sub (tys' := [(k_tw, .long)]) [0] rfl
    refine vp_callSi (va_Run.run (va_runV (As := [.int p0]) (rest := []) ⟨hx, hb, hml, hown, hts⟩ (c_holds l dC dI adK adV (a_cd := a_te) (p0 := p0) (a_cw := a_tw) (k_cw := k_tw)) (cwV 1 hts (gV tw_355 tw_356 tw_357 tw_44 tw_358) rfl rfl rfl (by decide +kernel) ⟨(Nat.le_of_ble_eq_true rfl), (Nat.le_of_ble_eq_true rfl)⟩) ⟨fun a U g mk q => by obtain ⟨q0, qZ, qP, qK⟩ := q; exact ⟨q0, zz_call qZ, qP, va_K.moved (u := U) (U := U.calling g mk a) (Vm.Alike.refl U.vm) qK⟩, va_recv hKc hPc (ci := 1) (q0 := 0) rfl rfl, fun U hU hW => ⟨rfl, zz_ro hS hU hW hZ, by rw [hU]; exact hPc, va_K.moved hW.alike hKc⟩⟩ rfl rfl hl.1 rfl (lv_room (Nat.le_of_ble_eq_true rfl)) d_C_term_12 ⟨(Nat.le_of_ble_eq_true rfl), (Nat.le_of_ble_eq_true rfl)⟩)) (fun r_4 hw_5 => ?_)
    obtain rfl : r_4 = 0 := hw_5
    refine lv_if_eq (tgt := 20) hx hb d_C_term_15 (by decide) (fun c_6 => ?_) (fun c_6 => ?_)
    · refine lv_aload_n hx hb d_C_term_20 rfl (lv_at hl 0 rfl) ?_
      refine va_get (D := (dC, dI)) (ci := 0) (v := .ref a_te) (C := "LoanRules") (T := Fz_C) (N := 16) hx hb hts it_C hown hK hP 0 rfl rfl 4 (by decide) (hts _ tw_108) (fun _ h9 => h9) rfl d_C_term_21 ?_
      refine lv_iload_n hx hb d_C_term_24 rfl (lv_at hl 1 rfl) ?_
      refine lv_iconst (v := 1) hx hb d_C_term_25 (by decide) ?_
      have hPc := hP.sub (ws' := [(a_te, .inr (1, [.ref a_tw])), (a_tw, .inl (k_tw, 157, .inr (.inl (fun _ => 0))))]) [1, 2] rfl
      have hKc := hK.sub (tys' := [(k_tw, .long)]) [0] rfl
      have hDc := hD.sub (ws' := [(a_te, .inr (1, [.ref a_tw])), (a_tw, .inl (k_tw, 157, .inr (.inl (fun _ => 0))))]) [1, 2] (by decide) rfl
      have hFc := va_free (wc := [(a_te, .inr (1, [.ref a_tw])), (a_tw, .inl (k_tw, 157, .inr (.inl (fun _ => 0))))]) hD hS hA [1, 2] rfl
      refine va_callv (va_runV (As := [.int p0, .int 1]) (rest := []) ⟨hx, hb, hml, hown, hts⟩ (c_put l dC dI adK adV (a_cd := a_te) (p0 := p0) (p1 := 1) (a_cw := a_tw) (k_cw := k_tw) (f_w := (fun _ => 0)) (sz := s.heap.size)) (cwV 2 hts (gV tw_360 tw_361 tw_362 tw_44 tw_363) rfl rfl rfl (by decide +kernel) ⟨(Nat.le_of_ble_eq_true rfl), (Nat.le_of_ble_eq_true rfl)⟩) ⟨fun a U g mk q => by obtain ⟨q0, q1, qZ, qP, qK, qD⟩ := q; exact ⟨q0, q1, zz_call qZ, qP, va_K.moved (u := U) (U := U.calling g mk a) (Vm.Alike.refl U.vm) qK, qD⟩, va_recv hKc hPc (ci := 1) (q0 := 0) rfl rfl, fun U hU hW => ⟨rfl, by rw [hU], zz_rw hS hFc hU hW hZ, by rw [hU]; exact hPc, va_K.moved hW.alike hKc, hDc.weaken (fun _ _ _ _ => trivial)⟩⟩ rfl rfl hl.1 rfl (lv_room (Nat.le_of_ble_eq_true rfl)) d_C_term_26 ⟨(Nat.le_of_ble_eq_true rfl), (Nat.le_of_ble_eq_true rfl)⟩) hS (fun q _ h => hFc q h) hFc (fun u t H1 locs ht hvm hw_7 hB hz1 hk1 hS => ?_)
      obtain ⟨hP, hD⟩ := va_join (wr := [(a_h, .inr (0, [.ref a_tx, .ref a_ru, .int 0, .ref a_cd, .ref a_te, .ref a_ki, .ref a_ca, .ref a_ty, .ref a_io, .ref a_ex, .ref a_lo, .int 0, .ref a_fi, .int 0, .ref a_cl, .int 0]))]) (w1 := []) hP hD [1, 2] [0] rfl rfl (by decide) (by decide) hk1 hFc wn_P wn_D
      have hK := hK.sub (tys' := []) [] rfl
      generalize H1 = H at hP hS ⊢
      replace hP : va_P (dC, dI) vwCl [(a_h, .inr (0, [.ref a_tx, .ref a_ru, .int 0, .ref a_cd, .ref a_te, .ref a_ki, .ref a_ca, .ref a_ty, .ref a_io, .ref a_ex, .ref a_lo, .int 0, .ref a_fi, .int 0, .ref a_cl, .int 0]))] H := hP
      replace hD : va_D A [(a_h, .inr (0, [.ref a_tx, .ref a_ru, .int 0, .ref a_cd, .ref a_te, .ref a_ki, .ref a_ca, .ref a_ty, .ref a_io, .ref a_ex, .ref a_lo, .int 0, .ref a_fi, .int 0, .ref a_cl, .int 0]))] := hD
      refine lv_iconst (v := 1) hx hb d_C_term_29 (by decide) ?_
      exact W.iret (v := 1) hx hb hr (fun t ht hW => ⟨⟨1, (), rfl, hE.symm.trans hz, trivial⟩, hS.F ht⟩) hS.2.2 d_C_term_30
    · exact absurd (by decide) c_6
def g_row (p0 : Int32) (p1 : Int32) (p2 : Int32) : Int32 :=
  if p2 < 0 then
    0
  else
    if p2 ≤ 9 then
      if p0 = 0 then
        if (g_isPerson p1) = 0 then
          if p0 = 1 then
            if (g_isItem p1) = 0 then
              0
            else
              1
          else
            0
        else
          1
      else
        if p0 = 1 then
          if (g_isItem p1) = 0 then
            0
          else
            1
        else
          0
    else
      0
set_option maxHeartbeats 4000000 in
set_option maxRecDepth 100000 in
theorem c_row (l : Launch) (dC : Nat → ClassId) (dI : Nat → Nat → Nat) (adK adV : Nat → Nat) (a_h : Nat) (a_ki : Nat) (a_ty : Nat) (k_ki : ClassId) (k_ty : ClassId) (p0 : Int32) (p1 : Int32) (p2 : Int32) (a_tx : Nat) (a_ru : Nat) (a_cd : Nat) (a_te : Nat) (a_ca : Nat) (a_io : Nat) (a_ex : Nat) (a_lo : Nat) (a_fi : Nat) (a_cl : Nat) (sz : Nat) : Met l y_C_row ws_C_row ({ frames := 1, cells := 0, slots := 0, locals := 20 }) (va_Pc [.ref a_h, .int p0, .int p1, .int p2] (fun U => U.heap.size = sz ∧ zz adK adV (va_A [(a_h, .inr (0, [.ref a_tx, .ref a_ru, .int 0, .ref a_cd, .ref a_te, .ref a_ki, .ref a_ca, .ref a_ty, .ref a_io, .ref a_ex, .ref a_lo, .int 0, .ref a_fi, .int 0, .ref a_cl, .int 0])), (a_ki, .inl (k_ki, 50, .inl (fun _ => 0))), (a_ty, .inl (k_ty, 50, .inl (fun _ => 0)))] sz) U ∧ va_P (dC, dI) vwCl [(a_h, .inr (0, [.ref a_tx, .ref a_ru, .int 0, .ref a_cd, .ref a_te, .ref a_ki, .ref a_ca, .ref a_ty, .ref a_io, .ref a_ex, .ref a_lo, .int 0, .ref a_fi, .int 0, .ref a_cl, .int 0])), (a_ki, .inl (k_ki, 50, .inl (fun _ => 0))), (a_ty, .inl (k_ty, 50, .inl (fun _ => 0)))] U.heap ∧ va_K (dC, dI) vwCl [(k_ki, .int), (k_ty, .int)] U ∧ va_D (fun _ => True) [(a_h, .inr (0, [.ref a_tx, .ref a_ru, .int 0, .ref a_cd, .ref a_te, .ref a_ki, .ref a_ca, .ref a_ty, .ref a_io, .ref a_ex, .ref a_lo, .int 0, .ref a_fi, .int 0, .ref a_cl, .int 0])), (a_ki, .inl (k_ki, 50, .inl (fun _ => 0))), (a_ty, .inl (k_ty, 50, .inl (fun _ => 0)))])) (va_Qi (fun (r : Int32) (_ : Unit) => r = g_row p0 p1 p2) (fun (_ : Unit) (_ : State) => True) (va_A [(a_h, .inr (0, [.ref a_tx, .ref a_ru, .int 0, .ref a_cd, .ref a_te, .ref a_ki, .ref a_ca, .ref a_ty, .ref a_io, .ref a_ex, .ref a_lo, .int 0, .ref a_fi, .int 0, .ref a_cl, .int 0])), (a_ki, .inl (k_ki, 50, .inl (fun _ => 0))), (a_ty, .inl (k_ty, 50, .inl (fun _ => 0)))] sz)) 0 0 (va_A [(a_h, .inr (0, [.ref a_tx, .ref a_ru, .int 0, .ref a_cd, .ref a_te, .ref a_ki, .ref a_ca, .ref a_ty, .ref a_io, .ref a_ex, .ref a_lo, .int 0, .ref a_fi, .int 0, .ref a_cl, .int 0])), (a_ki, .inl (k_ki, 50, .inl (fun _ => 0))), (a_ty, .inl (k_ty, 50, .inl (fun _ => 0)))] sz) := by
  refine Met.ofW (cc := c_C_row) (maxL := 4) (ret := (some .int)) (by decide) rfl ?_
  intro p e s m args below meth c s₁ B hml hv
  obtain ⟨rfl, hsz, hZ, hP, hK, hD0⟩ := hv
  have hx := B.exec
  have hb := B.bytes
  have hr := B.returns
  have hts0 := atoms_spec (ws := ws_C_row) B.pre
  have hts : ∀ w ∈ TT, w.before _ s = true := fun w h => hts0 w (List.mem_cons_of_mem _ h)
  have hown : s.vm.findClass "LoanRules" = some m.cls := findClass_of_methodNamed B.named
  have hlocks := B.notSynchronized
  subst hsz
  have hD := hD0.self (sz := s.heap.size)
  generalize hAe : va_A [(a_h, .inr (0, [.ref a_tx, .ref a_ru, .int 0, .ref a_cd, .ref a_te, .ref a_ki, .ref a_ca, .ref a_ty, .ref a_io, .ref a_ex, .ref a_lo, .int 0, .ref a_fi, .int 0, .ref a_cl, .int 0])), (a_ki, .inl (k_ki, 50, .inl (fun _ => 0))), (a_ty, .inl (k_ty, 50, .inl (fun _ => 0)))] s.heap.size = A at hD hZ ⊢
  have hA : ∀ q : Nat, s.heap.size ≤ q → A q := fun q h => by rw [← hAe]; exact Or.inr h
  clear hAe hD0
  have hS : va_S A s.heap s.heap [] := va_S.rf
  replace hP : va_P (dC, dI) vwCl [(a_h, .inr (0, [.ref a_tx, .ref a_ru, .int 0, .ref a_cd, .ref a_te, .ref a_ki, .ref a_ca, .ref a_ty, .ref a_io, .ref a_ex, .ref a_lo, .int 0, .ref a_fi, .int 0, .ref a_cl, .int 0])), (a_ki, .inl (k_ki, 50, .inl (fun _ => 0))), (a_ty, .inl (k_ty, 50, .inl (fun _ => 0)))] s.heap := hP
  have hl := lv_entry ([.ref a_h, .int p0, .int p1, .int p2]) (n := 4) (Nat.le_of_ble_eq_true rfl)
  rw [lg_entry_eq]
  generalize (lg_sl ([.ref a_h, .int p0, .int p1, .int p2]) ++ List.replicate (4 - (lg_sl ([.ref a_h, .int p0, .int p1, .int p2])).length) Slot.unset).toArray = ls at hl ⊢
  replace hl : lv_has ls 4 [(0, .ref a_h), (1, .int p0), (2, .int p1), (3, .int p2)] := hl
  obtain ⟨z, hz⟩ : ∃ z, z = g_row p0 p1 p2 := ⟨_, rfl⟩
  have hE := hz
  rw [g_row] at hE
  refine lv_iload_n hx hb d_C_row_0 rfl (lv_at hl 3 rfl) ?_
  refine lv_if_lt (tgt := 10) hx hb d_C_row_1 (by decide) (fun c_1 => ?_) (fun c_1 => ?_)
  · rw [if_pos c_1] at hE
    refine lv_iconst (v := 0) hx hb d_C_row_10 (by decide) ?_
    exact W.iret (v := 0) hx hb hr (fun t ht hW => ⟨⟨0, (), rfl, hE.symm.trans hz, trivial⟩, hS.F ht⟩) hS.2.2 d_C_row_11
  · rw [if_neg c_1] at hE
    refine lv_iload_n hx hb d_C_row_4 rfl (lv_at hl 3 rfl) ?_
    refine lv_bipush (v := 9) hx hb d_C_row_5 (by decide) ?_
    refine lv_icmp_le (tgt := 12) hx hb d_C_row_7 (by decide) (fun c_2 => ?_) (fun c_2 => ?_)
    · rw [if_pos c_2] at hE
      refine lv_iload_n hx hb d_C_row_12 rfl (lv_at hl 1 rfl) ?_
      refine lv_if_ne (tgt := 32) hx hb d_C_row_13 (by decide) (fun c_3 => ?_) (fun c_3 => ?_)
      · rw [if_neg c_3] at hE
        refine lv_iload_n hx hb d_C_row_32 rfl (lv_at hl 1 rfl) ?_
        refine lv_iconst (v := 1) hx hb d_C_row_33 (by decide) ?_
        refine lv_icmp_ne (tgt := 53) hx hb d_C_row_34 (by decide) (fun c_4 => ?_) (fun c_4 => ?_)
        · rw [if_neg c_4] at hE
          refine lv_iconst (v := 0) hx hb d_C_row_53 (by decide) ?_
          exact W.iret (v := 0) hx hb hr (fun t ht hW => ⟨⟨0, (), rfl, hE.symm.trans hz, trivial⟩, hS.F ht⟩) hS.2.2 d_C_row_54
        · rw [if_pos c_4] at hE
          refine lv_iload_n hx hb d_C_row_37 rfl (lv_at hl 2 rfl) ?_
          have hPc := hP.sub (ws' := []) [] rfl
          have hKc := hK.sub (tys' := []) [] rfl
          refine vp_callSi (va_Run.run (va_runS (As := [.int p1]) (rest := []) ⟨hx, hb, hml, hown, hts⟩ (c_isItem l dC dI adK adV (p0 := p1)) (va_cwS 1 hts (gS tw_376 tw_377 tw_42 tw_378) rfl rfl rfl (by decide +kernel) ⟨(Nat.le_of_ble_eq_true rfl), (Nat.le_of_ble_eq_true rfl)⟩) ⟨fun a U g mk q => by obtain ⟨q0, qZ, qP, qK⟩ := q; exact ⟨q0, zz_call qZ, qP, va_K.moved (u := U) (U := U.calling g mk a) (Vm.Alike.refl U.vm) qK⟩, fun U hU hW => ⟨rfl, zz_ro hS hU hW hZ, by rw [hU]; exact hPc, va_K.moved hW.alike hKc⟩⟩ rfl rfl hl.1 rfl (lv_room (Nat.le_of_ble_eq_true rfl)) d_C_row_38 ⟨(Nat.le_of_ble_eq_true rfl), (Nat.le_of_ble_eq_true rfl)⟩)) (fun r_5 hw_6 => ?_)
          subst hw_6
          refine lv_if_eq (tgt := 53) hx hb d_C_row_41 (by decide) (fun c_7 => ?_) (fun c_7 => ?_)
          · rw [if_pos c_7] at hE
            refine lv_iconst (v := 0) hx hb d_C_row_53 (by decide) ?_
            exact W.iret (v := 0) hx hb hr (fun t ht hW => ⟨⟨0, (), rfl, hE.symm.trans hz, trivial⟩, hS.F ht⟩) hS.2.2 d_C_row_54
          · rw [if_neg c_7] at hE
            refine lv_aload_n hx hb d_C_row_44 rfl (lv_at hl 0 rfl) ?_
            refine va_get (D := (dC, dI)) (ci := 0) (v := .ref a_ty) (C := "LoanRules") (T := Fz_C) (N := 16) hx hb hts it_C hown hK hP 0 rfl rfl 7 (by decide) (hts _ tw_111) (fun _ h9 => h9) rfl d_C_row_45 ?_
            refine lv_iload_n hx hb d_C_row_48 rfl (lv_at hl 2 rfl) ?_
            refine lv_iload_n hx hb d_C_row_49 rfl (lv_at hl 3 rfl) ?_
            have i_8 : vp_in p1 50 := in_item c_7
            refine va_iast (D := (dC, dI)) hx hb hK hP hD hS 2 1 rfl rfl i_8 d_C_row_50 (fun H locs hP hD hS => ?_)
            replace hP : va_P (dC, dI) vwCl [(a_h, .inr (0, [.ref a_tx, .ref a_ru, .int 0, .ref a_cd, .ref a_te, .ref a_ki, .ref a_ca, .ref a_ty, .ref a_io, .ref a_ex, .ref a_lo, .int 0, .ref a_fi, .int 0, .ref a_cl, .int 0])), (a_ki, .inl (k_ki, 50, .inl (fun _ => 0))), (a_ty, .inl (k_ty, 50, .inl (upd (fun _ => 0) p1.toNatClampNeg p2)))] H := hP
            replace hD : va_D A [(a_h, .inr (0, [.ref a_tx, .ref a_ru, .int 0, .ref a_cd, .ref a_te, .ref a_ki, .ref a_ca, .ref a_ty, .ref a_io, .ref a_ex, .ref a_lo, .int 0, .ref a_fi, .int 0, .ref a_cl, .int 0])), (a_ki, .inl (k_ki, 50, .inl (fun _ => 0))), (a_ty, .inl (k_ty, 50, .inl (upd (fun _ => 0) p1.toNatClampNeg p2)))] := hD
            refine lv_iconst (v := 1) hx hb d_C_row_51 (by decide) ?_
            exact W.iret (v := 1) hx hb hr (fun t ht hW => ⟨⟨1, (), rfl, hE.symm.trans hz, trivial⟩, hS.F ht⟩) hS.2.2 d_C_row_52
      · rw [if_pos c_3] at hE
        refine lv_iload_n hx hb d_C_row_16 rfl (lv_at hl 2 rfl) ?_
        have hPc := hP.sub (ws' := []) [] rfl
        have hKc := hK.sub (tys' := []) [] rfl
        refine vp_callSi (va_Run.run (va_runS (As := [.int p1]) (rest := []) ⟨hx, hb, hml, hown, hts⟩ (c_isPerson l dC dI adK adV (p0 := p1)) (va_cwS 1 hts (gS tw_373 tw_374 tw_42 tw_375) rfl rfl rfl (by decide +kernel) ⟨(Nat.le_of_ble_eq_true rfl), (Nat.le_of_ble_eq_true rfl)⟩) ⟨fun a U g mk q => by obtain ⟨q0, qZ, qP, qK⟩ := q; exact ⟨q0, zz_call qZ, qP, va_K.moved (u := U) (U := U.calling g mk a) (Vm.Alike.refl U.vm) qK⟩, fun U hU hW => ⟨rfl, zz_ro hS hU hW hZ, by rw [hU]; exact hPc, va_K.moved hW.alike hKc⟩⟩ rfl rfl hl.1 rfl (lv_room (Nat.le_of_ble_eq_true rfl)) d_C_row_17 ⟨(Nat.le_of_ble_eq_true rfl), (Nat.le_of_ble_eq_true rfl)⟩)) (fun r_9 hw_10 => ?_)
        subst hw_10
        refine lv_if_eq (tgt := 32) hx hb d_C_row_20 (by decide) (fun c_11 => ?_) (fun c_11 => ?_)
        · rw [if_pos c_11] at hE
          refine lv_iload_n hx hb d_C_row_32 rfl (lv_at hl 1 rfl) ?_
          refine lv_iconst (v := 1) hx hb d_C_row_33 (by decide) ?_
          refine lv_icmp_ne (tgt := 53) hx hb d_C_row_34 (by decide) (fun c_12 => ?_) (fun c_12 => ?_)
          · rw [if_neg c_12] at hE
            refine lv_iconst (v := 0) hx hb d_C_row_53 (by decide) ?_
            exact W.iret (v := 0) hx hb hr (fun t ht hW => ⟨⟨0, (), rfl, hE.symm.trans hz, trivial⟩, hS.F ht⟩) hS.2.2 d_C_row_54
          · rw [if_pos c_12] at hE
            refine lv_iload_n hx hb d_C_row_37 rfl (lv_at hl 2 rfl) ?_
            have hPc := hP.sub (ws' := []) [] rfl
            have hKc := hK.sub (tys' := []) [] rfl
            refine vp_callSi (va_Run.run (va_runS (As := [.int p1]) (rest := []) ⟨hx, hb, hml, hown, hts⟩ (c_isItem l dC dI adK adV (p0 := p1)) (va_cwS 1 hts (gS tw_376 tw_377 tw_42 tw_378) rfl rfl rfl (by decide +kernel) ⟨(Nat.le_of_ble_eq_true rfl), (Nat.le_of_ble_eq_true rfl)⟩) ⟨fun a U g mk q => by obtain ⟨q0, qZ, qP, qK⟩ := q; exact ⟨q0, zz_call qZ, qP, va_K.moved (u := U) (U := U.calling g mk a) (Vm.Alike.refl U.vm) qK⟩, fun U hU hW => ⟨rfl, zz_ro hS hU hW hZ, by rw [hU]; exact hPc, va_K.moved hW.alike hKc⟩⟩ rfl rfl hl.1 rfl (lv_room (Nat.le_of_ble_eq_true rfl)) d_C_row_38 ⟨(Nat.le_of_ble_eq_true rfl), (Nat.le_of_ble_eq_true rfl)⟩)) (fun r_13 hw_14 => ?_)
            subst hw_14
            refine lv_if_eq (tgt := 53) hx hb d_C_row_41 (by decide) (fun c_15 => ?_) (fun c_15 => ?_)
            · rw [if_pos c_15] at hE
              refine lv_iconst (v := 0) hx hb d_C_row_53 (by decide) ?_
              exact W.iret (v := 0) hx hb hr (fun t ht hW => ⟨⟨0, (), rfl, hE.symm.trans hz, trivial⟩, hS.F ht⟩) hS.2.2 d_C_row_54
            · rw [if_neg c_15] at hE
              refine lv_aload_n hx hb d_C_row_44 rfl (lv_at hl 0 rfl) ?_
              refine va_get (D := (dC, dI)) (ci := 0) (v := .ref a_ty) (C := "LoanRules") (T := Fz_C) (N := 16) hx hb hts it_C hown hK hP 0 rfl rfl 7 (by decide) (hts _ tw_111) (fun _ h9 => h9) rfl d_C_row_45 ?_
              refine lv_iload_n hx hb d_C_row_48 rfl (lv_at hl 2 rfl) ?_
              refine lv_iload_n hx hb d_C_row_49 rfl (lv_at hl 3 rfl) ?_
              have i_16 : vp_in p1 50 := in_item c_15
              refine va_iast (D := (dC, dI)) hx hb hK hP hD hS 2 1 rfl rfl i_16 d_C_row_50 (fun H locs hP hD hS => ?_)
              replace hP : va_P (dC, dI) vwCl [(a_h, .inr (0, [.ref a_tx, .ref a_ru, .int 0, .ref a_cd, .ref a_te, .ref a_ki, .ref a_ca, .ref a_ty, .ref a_io, .ref a_ex, .ref a_lo, .int 0, .ref a_fi, .int 0, .ref a_cl, .int 0])), (a_ki, .inl (k_ki, 50, .inl (fun _ => 0))), (a_ty, .inl (k_ty, 50, .inl (upd (fun _ => 0) p1.toNatClampNeg p2)))] H := hP
              replace hD : va_D A [(a_h, .inr (0, [.ref a_tx, .ref a_ru, .int 0, .ref a_cd, .ref a_te, .ref a_ki, .ref a_ca, .ref a_ty, .ref a_io, .ref a_ex, .ref a_lo, .int 0, .ref a_fi, .int 0, .ref a_cl, .int 0])), (a_ki, .inl (k_ki, 50, .inl (fun _ => 0))), (a_ty, .inl (k_ty, 50, .inl (upd (fun _ => 0) p1.toNatClampNeg p2)))] := hD
              refine lv_iconst (v := 1) hx hb d_C_row_51 (by decide) ?_
              exact W.iret (v := 1) hx hb hr (fun t ht hW => ⟨⟨1, (), rfl, hE.symm.trans hz, trivial⟩, hS.F ht⟩) hS.2.2 d_C_row_52
        · rw [if_neg c_11] at hE
          refine lv_aload_n hx hb d_C_row_23 rfl (lv_at hl 0 rfl) ?_
          refine va_get (D := (dC, dI)) (ci := 0) (v := .ref a_ki) (C := "LoanRules") (T := Fz_C) (N := 16) hx hb hts it_C hown hK hP 0 rfl rfl 5 (by decide) (hts _ tw_109) (fun _ h9 => h9) rfl d_C_row_24 ?_
          refine lv_iload_n hx hb d_C_row_27 rfl (lv_at hl 2 rfl) ?_
          refine lv_iload_n hx hb d_C_row_28 rfl (lv_at hl 3 rfl) ?_
          have i_17 : vp_in p1 50 := in_person c_11
          refine va_iast (D := (dC, dI)) hx hb hK hP hD hS 1 0 rfl rfl i_17 d_C_row_29 (fun H locs hP hD hS => ?_)
          replace hP : va_P (dC, dI) vwCl [(a_h, .inr (0, [.ref a_tx, .ref a_ru, .int 0, .ref a_cd, .ref a_te, .ref a_ki, .ref a_ca, .ref a_ty, .ref a_io, .ref a_ex, .ref a_lo, .int 0, .ref a_fi, .int 0, .ref a_cl, .int 0])), (a_ki, .inl (k_ki, 50, .inl (upd (fun _ => 0) p1.toNatClampNeg p2))), (a_ty, .inl (k_ty, 50, .inl (fun _ => 0)))] H := hP
          replace hD : va_D A [(a_h, .inr (0, [.ref a_tx, .ref a_ru, .int 0, .ref a_cd, .ref a_te, .ref a_ki, .ref a_ca, .ref a_ty, .ref a_io, .ref a_ex, .ref a_lo, .int 0, .ref a_fi, .int 0, .ref a_cl, .int 0])), (a_ki, .inl (k_ki, 50, .inl (upd (fun _ => 0) p1.toNatClampNeg p2))), (a_ty, .inl (k_ty, 50, .inl (fun _ => 0)))] := hD
          refine lv_iconst (v := 1) hx hb d_C_row_30 (by decide) ?_
          exact W.iret (v := 1) hx hb hr (fun t ht hW => ⟨⟨1, (), rfl, hE.symm.trans hz, trivial⟩, hS.F ht⟩) hS.2.2 d_C_row_31
    · rw [if_neg c_2] at hE
      refine lv_iconst (v := 0) hx hb d_C_row_10 (by decide) ?_
      exact W.iret (v := 0) hx hb hr (fun t ht hW => ⟨⟨0, (), rfl, hE.symm.trans hz, trivial⟩, hS.F ht⟩) hS.2.2 d_C_row_11
def g_block (p0 : Int32) (p1 : Int32) : Int32 :=
  if (g_isPerson p0) = 0 then
    (-1)
  else
    if p1 < 0 then
      (-1)
    else
      if p1 ≤ 9 then
        0
      else
        (-1)
set_option maxHeartbeats 4000000 in
set_option maxRecDepth 100000 in
theorem c_block (l : Launch) (dC : Nat → ClassId) (dI : Nat → Nat → Nat) (adK adV : Nat → Nat) (a_h : Nat) (a_ca : Nat) (k_ca : ClassId) (p0 : Int32) (p1 : Int32) (a_tx : Nat) (a_ru : Nat) (a_cd : Nat) (a_te : Nat) (a_ki : Nat) (a_ty : Nat) (a_io : Nat) (a_ex : Nat) (a_lo : Nat) (a_fi : Nat) (a_cl : Nat) (sz : Nat) : Met l y_C_block ws_C_block ({ frames := 1, cells := 0, slots := 0, locals := 20 }) (va_Pc [.ref a_h, .int p0, .int p1] (fun U => U.heap.size = sz ∧ zz adK adV (va_A [(a_h, .inr (0, [.ref a_tx, .ref a_ru, .int 0, .ref a_cd, .ref a_te, .ref a_ki, .ref a_ca, .ref a_ty, .ref a_io, .ref a_ex, .ref a_lo, .int 0, .ref a_fi, .int 0, .ref a_cl, .int 0])), (a_ca, .inl (k_ca, 50, .inl (fun _ => 0)))] sz) U ∧ va_P (dC, dI) vwCl [(a_h, .inr (0, [.ref a_tx, .ref a_ru, .int 0, .ref a_cd, .ref a_te, .ref a_ki, .ref a_ca, .ref a_ty, .ref a_io, .ref a_ex, .ref a_lo, .int 0, .ref a_fi, .int 0, .ref a_cl, .int 0])), (a_ca, .inl (k_ca, 50, .inl (fun _ => 0)))] U.heap ∧ va_K (dC, dI) vwCl [(k_ca, .int)] U ∧ va_D (fun _ => True) [(a_h, .inr (0, [.ref a_tx, .ref a_ru, .int 0, .ref a_cd, .ref a_te, .ref a_ki, .ref a_ca, .ref a_ty, .ref a_io, .ref a_ex, .ref a_lo, .int 0, .ref a_fi, .int 0, .ref a_cl, .int 0])), (a_ca, .inl (k_ca, 50, .inl (fun _ => 0)))])) (va_Qi (fun (r : Int32) (_ : Unit) => r = g_block p0 p1) (fun (_ : Unit) (_ : State) => True) (va_A [(a_h, .inr (0, [.ref a_tx, .ref a_ru, .int 0, .ref a_cd, .ref a_te, .ref a_ki, .ref a_ca, .ref a_ty, .ref a_io, .ref a_ex, .ref a_lo, .int 0, .ref a_fi, .int 0, .ref a_cl, .int 0])), (a_ca, .inl (k_ca, 50, .inl (fun _ => 0)))] sz)) 0 0 (va_A [(a_h, .inr (0, [.ref a_tx, .ref a_ru, .int 0, .ref a_cd, .ref a_te, .ref a_ki, .ref a_ca, .ref a_ty, .ref a_io, .ref a_ex, .ref a_lo, .int 0, .ref a_fi, .int 0, .ref a_cl, .int 0])), (a_ca, .inl (k_ca, 50, .inl (fun _ => 0)))] sz) := by
  refine Met.ofW (cc := c_C_block) (maxL := 4) (ret := (some .int)) (by decide) rfl ?_
  intro p e s m args below meth c s₁ B hml hv
  obtain ⟨rfl, hsz, hZ, hP, hK, hD0⟩ := hv
  have hx := B.exec
  have hb := B.bytes
  have hr := B.returns
  have hts0 := atoms_spec (ws := ws_C_block) B.pre
  have hts : ∀ w ∈ TT, w.before _ s = true := fun w h => hts0 w (List.mem_cons_of_mem _ h)
  have hown : s.vm.findClass "LoanRules" = some m.cls := findClass_of_methodNamed B.named
  have hlocks := B.notSynchronized
  subst hsz
  have hD := hD0.self (sz := s.heap.size)
  generalize hAe : va_A [(a_h, .inr (0, [.ref a_tx, .ref a_ru, .int 0, .ref a_cd, .ref a_te, .ref a_ki, .ref a_ca, .ref a_ty, .ref a_io, .ref a_ex, .ref a_lo, .int 0, .ref a_fi, .int 0, .ref a_cl, .int 0])), (a_ca, .inl (k_ca, 50, .inl (fun _ => 0)))] s.heap.size = A at hD hZ ⊢
  have hA : ∀ q : Nat, s.heap.size ≤ q → A q := fun q h => by rw [← hAe]; exact Or.inr h
  clear hAe hD0
  have hS : va_S A s.heap s.heap [] := va_S.rf
  replace hP : va_P (dC, dI) vwCl [(a_h, .inr (0, [.ref a_tx, .ref a_ru, .int 0, .ref a_cd, .ref a_te, .ref a_ki, .ref a_ca, .ref a_ty, .ref a_io, .ref a_ex, .ref a_lo, .int 0, .ref a_fi, .int 0, .ref a_cl, .int 0])), (a_ca, .inl (k_ca, 50, .inl (fun _ => 0)))] s.heap := hP
  have hl := lv_entry ([.ref a_h, .int p0, .int p1]) (n := 4) (Nat.le_of_ble_eq_true rfl)
  rw [lg_entry_eq]
  generalize (lg_sl ([.ref a_h, .int p0, .int p1]) ++ List.replicate (4 - (lg_sl ([.ref a_h, .int p0, .int p1])).length) Slot.unset).toArray = ls at hl ⊢
  replace hl : lv_has ls 4 [(0, .ref a_h), (1, .int p0), (2, .int p1)] := hl
  obtain ⟨z, hz⟩ : ∃ z, z = g_block p0 p1 := ⟨_, rfl⟩
  have hE := hz
  rw [g_block] at hE
  refine lv_iload_n hx hb d_C_block_0 rfl (lv_at hl 1 rfl) ?_
  have hPc := hP.sub (ws' := []) [] rfl
  have hKc := hK.sub (tys' := []) [] rfl
  refine vp_callSi (va_Run.run (va_runS (As := [.int p0]) (rest := []) ⟨hx, hb, hml, hown, hts⟩ (c_isPerson l dC dI adK adV (p0 := p0)) (va_cwS 1 hts (gS tw_373 tw_374 tw_42 tw_375) rfl rfl rfl (by decide +kernel) ⟨(Nat.le_of_ble_eq_true rfl), (Nat.le_of_ble_eq_true rfl)⟩) ⟨fun a U g mk q => by obtain ⟨q0, qZ, qP, qK⟩ := q; exact ⟨q0, zz_call qZ, qP, va_K.moved (u := U) (U := U.calling g mk a) (Vm.Alike.refl U.vm) qK⟩, fun U hU hW => ⟨rfl, zz_ro hS hU hW hZ, by rw [hU]; exact hPc, va_K.moved hW.alike hKc⟩⟩ rfl rfl hl.1 rfl (lv_room (Nat.le_of_ble_eq_true rfl)) d_C_block_1 ⟨(Nat.le_of_ble_eq_true rfl), (Nat.le_of_ble_eq_true rfl)⟩)) (fun r_1 hw_2 => ?_)
  subst hw_2
  refine lv_if_eq (tgt := 17) hx hb d_C_block_4 (by decide) (fun c_3 => ?_) (fun c_3 => ?_)
  · rw [if_pos c_3] at hE
    refine lv_iconst (v := (-1)) hx hb d_C_block_17 (by decide) ?_
    exact W.iret (v := (-1)) hx hb hr (fun t ht hW => ⟨⟨(-1), (), rfl, hE.symm.trans hz, trivial⟩, hS.F ht⟩) hS.2.2 d_C_block_18
  · rw [if_neg c_3] at hE
    refine lv_iload_n hx hb d_C_block_7 rfl (lv_at hl 2 rfl) ?_
    refine lv_if_lt (tgt := 17) hx hb d_C_block_8 (by decide) (fun c_4 => ?_) (fun c_4 => ?_)
    · rw [if_pos c_4] at hE
      refine lv_iconst (v := (-1)) hx hb d_C_block_17 (by decide) ?_
      exact W.iret (v := (-1)) hx hb hr (fun t ht hW => ⟨⟨(-1), (), rfl, hE.symm.trans hz, trivial⟩, hS.F ht⟩) hS.2.2 d_C_block_18
    · rw [if_neg c_4] at hE
      refine lv_iload_n hx hb d_C_block_11 rfl (lv_at hl 2 rfl) ?_
      refine lv_bipush (v := 9) hx hb d_C_block_12 (by decide) ?_
      refine lv_icmp_le (tgt := 19) hx hb d_C_block_14 (by decide) (fun c_5 => ?_) (fun c_5 => ?_)
      · rw [if_pos c_5] at hE
        refine lv_aload_n hx hb d_C_block_19 rfl (lv_at hl 0 rfl) ?_
        refine va_get (D := (dC, dI)) (ci := 0) (v := .ref a_ca) (C := "LoanRules") (T := Fz_C) (N := 16) hx hb hts it_C hown hK hP 0 rfl rfl 6 (by decide) (hts _ tw_110) (fun _ h9 => h9) rfl d_C_block_20 ?_
        refine lv_iload_n hx hb d_C_block_23 rfl (lv_at hl 1 rfl) ?_
        have i_6 : vp_in p0 50 := in_person c_3
        refine va_iald (D := (dC, dI)) hx hb hK hP 1 0 rfl rfl i_6 d_C_block_24 ?_
        refine lv_topi (fun x_7 ex_7 => ?_)
        obtain rfl : x_7 = 0 := ex_7
        refine lv_istore_n (lv' := [(3, .int 0), (0, .ref a_h), (1, .int p0), (2, .int p1)]) hx hb d_C_block_25 rfl hl (by decide) rfl (fun ls hl => ?_)
        refine lv_aload_n hx hb d_C_block_26 rfl (lv_at hl 1 rfl) ?_
        refine va_get (D := (dC, dI)) (ci := 0) (v := .ref a_ca) (C := "LoanRules") (T := Fz_C) (N := 16) hx hb hts it_C hown hK hP 0 rfl rfl 6 (by decide) (hts _ tw_110) (fun _ h9 => h9) rfl d_C_block_27 ?_
        refine lv_iload_n hx hb d_C_block_30 rfl (lv_at hl 2 rfl) ?_
        refine lv_iload_n hx hb d_C_block_31 rfl (lv_at hl 3 rfl) ?_
        have i_8 : vp_in p0 50 := in_person c_3
        refine va_iast (D := (dC, dI)) hx hb hK hP hD hS 1 0 rfl rfl i_8 d_C_block_32 (fun H locs hP hD hS => ?_)
        replace hP : va_P (dC, dI) vwCl [(a_h, .inr (0, [.ref a_tx, .ref a_ru, .int 0, .ref a_cd, .ref a_te, .ref a_ki, .ref a_ca, .ref a_ty, .ref a_io, .ref a_ex, .ref a_lo, .int 0, .ref a_fi, .int 0, .ref a_cl, .int 0])), (a_ca, .inl (k_ca, 50, .inl (upd (fun _ => 0) p0.toNatClampNeg p1)))] H := hP
        replace hD : va_D A [(a_h, .inr (0, [.ref a_tx, .ref a_ru, .int 0, .ref a_cd, .ref a_te, .ref a_ki, .ref a_ca, .ref a_ty, .ref a_io, .ref a_ex, .ref a_lo, .int 0, .ref a_fi, .int 0, .ref a_cl, .int 0])), (a_ca, .inl (k_ca, 50, .inl (upd (fun _ => 0) p0.toNatClampNeg p1)))] := hD
        refine lv_iload_n hx hb d_C_block_33 rfl (lv_at hl 0 rfl) ?_
        exact W.iret (v := 0) hx hb hr (fun t ht hW => ⟨⟨0, (), rfl, hE.symm.trans hz, trivial⟩, hS.F ht⟩) hS.2.2 d_C_block_34
      · rw [if_neg c_5] at hE
        refine lv_iconst (v := (-1)) hx hb d_C_block_17 (by decide) ?_
        exact W.iret (v := (-1)) hx hb hr (fun t ht hW => ⟨⟨(-1), (), rfl, hE.symm.trans hz, trivial⟩, hS.F ht⟩) hS.2.2 d_C_block_18
set_option maxHeartbeats 4000000 in
set_option maxRecDepth 100000 in
theorem c_collect (l : Launch) (dC : Nat → ClassId) (dI : Nat → Nat → Nat) (adK adV : Nat → Nat) (a_tx : Nat) (a_sg : Nat) (k_sg : ClassId) (p0 : Int32) (sz : Nat) : Met l y_T_collect ws_T_collect ({ frames := 0, cells := 0, slots := 0, locals := 0 }) (va_Pc [.ref a_tx, .int p0] (fun U => U.heap.size = sz ∧ zz adK adV (va_A [(a_tx, .inr (4, [.ref a_sg, .int 0, .int 0, .int (-1)])), (a_sg, .inl (k_sg, 120, .inl (fun _ => 0)))] sz) U ∧ va_P (dC, dI) vwCl [(a_tx, .inr (4, [.ref a_sg, .int 0, .int 0, .int (-1)])), (a_sg, .inl (k_sg, 120, .inl (fun _ => 0)))] U.heap ∧ va_K (dC, dI) vwCl [(k_sg, .char)] U ∧ va_D (fun _ => True) [(a_tx, .inr (4, [.ref a_sg, .int 0, .int 0, .int (-1)])), (a_sg, .inl (k_sg, 120, .inl (fun _ => 0)))])) (va_Qv (fun _ : Unit => True) (fun (_ : Unit) (_ : State) => True) (va_A [(a_tx, .inr (4, [.ref a_sg, .int 0, .int 0, .int (-1)])), (a_sg, .inl (k_sg, 120, .inl (fun _ => 0)))] sz)) 0 0 (va_A [(a_tx, .inr (4, [.ref a_sg, .int 0, .int 0, .int (-1)])), (a_sg, .inl (k_sg, 120, .inl (fun _ => 0)))] sz) := by
  refine Met.ofW (cc := c_T_collect) (maxL := 2) (ret := none) (by decide) rfl ?_
  intro p e s m args below meth c s₁ B hml hv
  obtain ⟨rfl, hsz, hZ, hP, hK, hD0⟩ := hv
  have hx := B.exec
  have hb := B.bytes
  have hr := B.returns
  have hts0 := atoms_spec (ws := ws_T_collect) B.pre
  have hts : ∀ w ∈ TT, w.before _ s = true := fun w h => hts0 w (List.mem_cons_of_mem _ h)
  have hown : s.vm.findClass "LoanRules$RuleText" = some m.cls := findClass_of_methodNamed B.named
  have hlocks := B.notSynchronized
  subst hsz
  have hD := hD0.self (sz := s.heap.size)
  generalize hAe : va_A [(a_tx, .inr (4, [.ref a_sg, .int 0, .int 0, .int (-1)])), (a_sg, .inl (k_sg, 120, .inl (fun _ => 0)))] s.heap.size = A at hD hZ ⊢
  have hA : ∀ q : Nat, s.heap.size ≤ q → A q := fun q h => by rw [← hAe]; exact Or.inr h
  clear hAe hD0
  have hS : va_S A s.heap s.heap [] := va_S.rf
  replace hP : va_P (dC, dI) vwCl [(a_tx, .inr (4, [.ref a_sg, .int 0, .int 0, .int (-1)])), (a_sg, .inl (k_sg, 120, .inl (fun _ => 0)))] s.heap := hP
  have hl := lv_entry ([.ref a_tx, .int p0]) (n := 2) (Nat.le_of_ble_eq_true rfl)
  rw [lg_entry_eq]
  generalize (lg_sl ([.ref a_tx, .int p0]) ++ List.replicate (2 - (lg_sl ([.ref a_tx, .int p0])).length) Slot.unset).toArray = ls at hl ⊢
  replace hl : lv_has ls 2 [(0, .ref a_tx), (1, .int p0)] := hl
  refine lv_aload_n hx hb d_T_collect_0 rfl (lv_at hl 0 rfl) ?_
  refine va_get (D := (dC, dI)) (ci := 4) (v := .int 0) (C := "LoanRules$RuleText") (T := Fz_T) (N := 4) hx hb hts it_T hown hK hP 0 rfl rfl 1 (by decide) (hts _ tw_73) (fun _ h9 => h9) rfl d_T_collect_1 ?_
  refine lv_aload_n hx hb d_T_collect_4 rfl (lv_at hl 0 rfl) ?_
  refine va_get (D := (dC, dI)) (ci := 4) (v := .ref a_sg) (C := "LoanRules$RuleText") (T := Fz_T) (N := 4) hx hb hts it_T hown hK hP 0 rfl rfl 0 (by decide) (hts _ tw_72) (fun _ h9 => h9) rfl d_T_collect_5 ?_
  refine va_alen (D := (dC, dI)) (v := 120) hx hb hK hP 1 0 rfl rfl rfl d_T_collect_8 ?_
  refine lv_icmp_ge (tgt := 37) hx hb d_T_collect_9 (by decide) (fun c_1 => ?_) (fun c_1 => ?_)
  · exact absurd c_1 (by decide)
  · refine lv_aload_n hx hb d_T_collect_12 rfl (lv_at hl 0 rfl) ?_
    refine va_get (D := (dC, dI)) (ci := 4) (v := .ref a_sg) (C := "LoanRules$RuleText") (T := Fz_T) (N := 4) hx hb hts it_T hown hK hP 0 rfl rfl 0 (by decide) (hts _ tw_72) (fun _ h9 => h9) rfl d_T_collect_13 ?_
    refine lv_aload_n hx hb d_T_collect_16 rfl (lv_at hl 0 rfl) ?_
    refine va_get (D := (dC, dI)) (ci := 4) (v := .int 0) (C := "LoanRules$RuleText") (T := Fz_T) (N := 4) hx hb hts it_T hown hK hP 0 rfl rfl 1 (by decide) (hts _ tw_73) (fun _ h9 => h9) rfl d_T_collect_17 ?_
    refine lv_iload_n hx hb d_T_collect_20 rfl (lv_at hl 1 rfl) ?_
    refine lv_sipush (v := 255) hx hb d_T_collect_21 (by decide) ?_
    refine lv_iand hx hb d_T_collect_24 ?_
    refine lv_i2c hx hb d_T_collect_25 rfl ?_
    have i_2 : vp_in 0 120 := by show ¬ (_ ∨ _); decide
    refine va_cast (D := (dC, dI)) hx hb hK hP hD hS 1 0 rfl rfl i_2 d_T_collect_26 (fun H locs hP hD hS => ?_)
    replace hP : va_P (dC, dI) vwCl [(a_tx, .inr (4, [.ref a_sg, .int 0, .int 0, .int (-1)])), (a_sg, .inl (k_sg, 120, .inl (upd (fun _ => 0) (0 : Int32).toNatClampNeg (vp_nar .char (((p0 &&& 255).toUInt32 % 65536).toInt32)))))] H := hP
    replace hD : va_D A [(a_tx, .inr (4, [.ref a_sg, .int 0, .int 0, .int (-1)])), (a_sg, .inl (k_sg, 120, .inl (upd (fun _ => 0) (0 : Int32).toNatClampNeg (vp_nar .char (((p0 &&& 255).toUInt32 % 65536).toInt32)))))] := hD
    refine lv_aload_n hx hb d_T_collect_27 rfl (lv_at hl 0 rfl) ?_
    refine lv_dup hx hb d_T_collect_28 rfl ?_
    refine va_get (D := (dC, dI)) (ci := 4) (v := .int 0) (C := "LoanRules$RuleText") (T := Fz_T) (N := 4) hx hb hts it_T hown hK hP 0 rfl rfl 1 (by decide) (hts _ tw_73) (fun _ h9 => h9) rfl d_T_collect_29 ?_
    refine lv_iconst (v := 1) hx hb d_T_collect_32 (by decide) ?_
    refine lv_iadd hx hb d_T_collect_33 ?_
    refine lv_topi (fun x_3 ex_3 => ?_)
    obtain rfl : x_3 = 1 := ex_3.trans (by decide)
    refine va_put (D := (dC, dI)) (ci := 4) (v := .int 1) (ty := .int) (C := "LoanRules$RuleText") (T := Fz_T) (N := 4) hx hb hts it_T tz_T tz_T_ok nz_T hown hK hP hD hS 0 rfl rfl 1 (by decide) (hts _ tw_73) (fun _ h9 => h9) rfl (by decide +kernel) rfl rfl (Nat.le_of_ble_eq_true rfl) d_T_collect_34 (fun H locs hP hD hS => ?_)
    replace hP : va_P (dC, dI) vwCl [(a_tx, .inr (4, [.ref a_sg, .int 1, .int 0, .int (-1)])), (a_sg, .inl (k_sg, 120, .inl (upd (fun _ => 0) (0 : Int32).toNatClampNeg (vp_nar .char (((p0 &&& 255).toUInt32 % 65536).toInt32)))))] H := hP
    replace hD : va_D A [(a_tx, .inr (4, [.ref a_sg, .int 1, .int 0, .int (-1)])), (a_sg, .inl (k_sg, 120, .inl (upd (fun _ => 0) (0 : Int32).toNatClampNeg (vp_nar .char (((p0 &&& 255).toUInt32 % 65536).toInt32)))))] := hD
    exact W.vret hx hb hr (fun t ht hW => ⟨⟨(), rfl, trivial, trivial⟩, hS.F ht⟩) hS.2.2 d_T_collect_37
set_option maxHeartbeats 4000000 in
set_option maxRecDepth 100000 in
theorem c_sign (l : Launch) (dC : Nat → ClassId) (dI : Nat → Nat → Nat) (adK adV : Nat → Nat) (a_h : Nat) (a_tx : Nat) (a_sg : Nat) (k_sg : ClassId) (p0 : Int32) (a_ru : Nat) (a_cd : Nat) (a_te : Nat) (a_ki : Nat) (a_ca : Nat) (a_ty : Nat) (a_io : Nat) (a_ex : Nat) (a_lo : Nat) (a_fi : Nat) (a_cl : Nat) (sz : Nat) : Met l y_C_sign ws_C_sign ({ frames := 1, cells := 0, slots := 0, locals := 21 }) (va_Pc [.ref a_h, .int p0] (fun U => U.heap.size = sz ∧ zz adK adV (va_A [(a_h, .inr (0, [.ref a_tx, .ref a_ru, .int 0, .ref a_cd, .ref a_te, .ref a_ki, .ref a_ca, .ref a_ty, .ref a_io, .ref a_ex, .ref a_lo, .int 0, .ref a_fi, .int 0, .ref a_cl, .int 0])), (a_tx, .inr (4, [.ref a_sg, .int 0, .int 0, .int (-1)])), (a_sg, .inl (k_sg, 120, .inl (fun _ => 0)))] sz) U ∧ va_P (dC, dI) vwCl [(a_h, .inr (0, [.ref a_tx, .ref a_ru, .int 0, .ref a_cd, .ref a_te, .ref a_ki, .ref a_ca, .ref a_ty, .ref a_io, .ref a_ex, .ref a_lo, .int 0, .ref a_fi, .int 0, .ref a_cl, .int 0])), (a_tx, .inr (4, [.ref a_sg, .int 0, .int 0, .int (-1)])), (a_sg, .inl (k_sg, 120, .inl (fun _ => 0)))] U.heap ∧ va_K (dC, dI) vwCl [(k_sg, .char)] U ∧ va_D (fun _ => True) [(a_h, .inr (0, [.ref a_tx, .ref a_ru, .int 0, .ref a_cd, .ref a_te, .ref a_ki, .ref a_ca, .ref a_ty, .ref a_io, .ref a_ex, .ref a_lo, .int 0, .ref a_fi, .int 0, .ref a_cl, .int 0])), (a_tx, .inr (4, [.ref a_sg, .int 0, .int 0, .int (-1)])), (a_sg, .inl (k_sg, 120, .inl (fun _ => 0)))])) (va_Qv (fun _ : Unit => True) (fun (_ : Unit) (_ : State) => True) (va_A [(a_h, .inr (0, [.ref a_tx, .ref a_ru, .int 0, .ref a_cd, .ref a_te, .ref a_ki, .ref a_ca, .ref a_ty, .ref a_io, .ref a_ex, .ref a_lo, .int 0, .ref a_fi, .int 0, .ref a_cl, .int 0])), (a_tx, .inr (4, [.ref a_sg, .int 0, .int 0, .int (-1)])), (a_sg, .inl (k_sg, 120, .inl (fun _ => 0)))] sz)) 0 0 (va_A [(a_h, .inr (0, [.ref a_tx, .ref a_ru, .int 0, .ref a_cd, .ref a_te, .ref a_ki, .ref a_ca, .ref a_ty, .ref a_io, .ref a_ex, .ref a_lo, .int 0, .ref a_fi, .int 0, .ref a_cl, .int 0])), (a_tx, .inr (4, [.ref a_sg, .int 0, .int 0, .int (-1)])), (a_sg, .inl (k_sg, 120, .inl (fun _ => 0)))] sz) := by
  refine Met.ofW (cc := c_C_sign) (maxL := 2) (ret := none) (by decide) rfl ?_
  intro p e s m args below meth c s₁ B hml hv
  obtain ⟨rfl, hsz, hZ, hP, hK, hD0⟩ := hv
  have hx := B.exec
  have hb := B.bytes
  have hr := B.returns
  have hts0 := atoms_spec (ws := ws_C_sign) B.pre
  have hts : ∀ w ∈ TT, w.before _ s = true := fun w h => hts0 w (List.mem_cons_of_mem _ h)
  have hown : s.vm.findClass "LoanRules" = some m.cls := findClass_of_methodNamed B.named
  have hlocks := B.notSynchronized
  subst hsz
  have hD := hD0.self (sz := s.heap.size)
  generalize hAe : va_A [(a_h, .inr (0, [.ref a_tx, .ref a_ru, .int 0, .ref a_cd, .ref a_te, .ref a_ki, .ref a_ca, .ref a_ty, .ref a_io, .ref a_ex, .ref a_lo, .int 0, .ref a_fi, .int 0, .ref a_cl, .int 0])), (a_tx, .inr (4, [.ref a_sg, .int 0, .int 0, .int (-1)])), (a_sg, .inl (k_sg, 120, .inl (fun _ => 0)))] s.heap.size = A at hD hZ ⊢
  have hA : ∀ q : Nat, s.heap.size ≤ q → A q := fun q h => by rw [← hAe]; exact Or.inr h
  clear hAe hD0
  have hS : va_S A s.heap s.heap [] := va_S.rf
  replace hP : va_P (dC, dI) vwCl [(a_h, .inr (0, [.ref a_tx, .ref a_ru, .int 0, .ref a_cd, .ref a_te, .ref a_ki, .ref a_ca, .ref a_ty, .ref a_io, .ref a_ex, .ref a_lo, .int 0, .ref a_fi, .int 0, .ref a_cl, .int 0])), (a_tx, .inr (4, [.ref a_sg, .int 0, .int 0, .int (-1)])), (a_sg, .inl (k_sg, 120, .inl (fun _ => 0)))] s.heap := hP
  have hl := lv_entry ([.ref a_h, .int p0]) (n := 2) (Nat.le_of_ble_eq_true rfl)
  rw [lg_entry_eq]
  generalize (lg_sl ([.ref a_h, .int p0]) ++ List.replicate (2 - (lg_sl ([.ref a_h, .int p0])).length) Slot.unset).toArray = ls at hl ⊢
  replace hl : lv_has ls 2 [(0, .ref a_h), (1, .int p0)] := hl
  refine lv_aload_n hx hb d_C_sign_0 rfl (lv_at hl 0 rfl) ?_
  refine va_get (D := (dC, dI)) (ci := 0) (v := .ref a_tx) (C := "LoanRules") (T := Fz_C) (N := 16) hx hb hts it_C hown hK hP 0 rfl rfl 0 (by decide) (hts _ tw_104) (fun _ h9 => h9) rfl d_C_sign_1 ?_
  refine lv_iload_n hx hb d_C_sign_4 rfl (lv_at hl 1 rfl) ?_
  have hPc := hP.sub (ws' := [(a_tx, .inr (4, [.ref a_sg, .int 0, .int 0, .int (-1)])), (a_sg, .inl (k_sg, 120, .inl (fun _ => 0)))]) [1, 2] rfl
  have hKc := hK.sub (tys' := [(k_sg, .char)]) [0] rfl
  have hDc := hD.sub (ws' := [(a_tx, .inr (4, [.ref a_sg, .int 0, .int 0, .int (-1)])), (a_sg, .inl (k_sg, 120, .inl (fun _ => 0)))]) [1, 2] (by decide) rfl
  have hFc := va_free (wc := [(a_tx, .inr (4, [.ref a_sg, .int 0, .int 0, .int (-1)])), (a_sg, .inl (k_sg, 120, .inl (fun _ => 0)))]) hD hS hA [1, 2] rfl
  refine va_callv (va_runV (As := [.int p0]) (rest := []) ⟨hx, hb, hml, hown, hts⟩ (c_collect l dC dI adK adV (a_tx := a_tx) (p0 := p0) (a_sg := a_sg) (k_sg := k_sg) (sz := s.heap.size)) (cwV 1 hts (gV tw_159 tw_160 tw_161 tw_43 tw_162) rfl rfl rfl (by decide +kernel) ⟨(Nat.le_of_ble_eq_true rfl), (Nat.le_of_ble_eq_true rfl)⟩) ⟨fun a U g mk q => by obtain ⟨q0, q1, qZ, qP, qK, qD⟩ := q; exact ⟨q0, q1, zz_call qZ, qP, va_K.moved (u := U) (U := U.calling g mk a) (Vm.Alike.refl U.vm) qK, qD⟩, va_recv hKc hPc (ci := 4) (q0 := 0) rfl rfl, fun U hU hW => ⟨rfl, by rw [hU], zz_rw hS hFc hU hW hZ, by rw [hU]; exact hPc, va_K.moved hW.alike hKc, hDc.weaken (fun _ _ _ _ => trivial)⟩⟩ rfl rfl hl.1 rfl (lv_room (Nat.le_of_ble_eq_true rfl)) d_C_sign_5 ⟨(Nat.le_of_ble_eq_true rfl), (Nat.le_of_ble_eq_true rfl)⟩) hS (fun q _ h => hFc q h) hFc (fun u t H1 locs ht hvm hw_1 hB hz1 hk1 hS => ?_)
  obtain ⟨hP, hD⟩ := va_join (wr := [(a_h, .inr (0, [.ref a_tx, .ref a_ru, .int 0, .ref a_cd, .ref a_te, .ref a_ki, .ref a_ca, .ref a_ty, .ref a_io, .ref a_ex, .ref a_lo, .int 0, .ref a_fi, .int 0, .ref a_cl, .int 0]))]) (w1 := []) hP hD [1, 2] [0] rfl rfl (by decide) (by decide) hk1 hFc wn_P wn_D
  have hK := hK.sub (tys' := []) [] rfl
  generalize H1 = H at hP hS ⊢
  replace hP : va_P (dC, dI) vwCl [(a_h, .inr (0, [.ref a_tx, .ref a_ru, .int 0, .ref a_cd, .ref a_te, .ref a_ki, .ref a_ca, .ref a_ty, .ref a_io, .ref a_ex, .ref a_lo, .int 0, .ref a_fi, .int 0, .ref a_cl, .int 0]))] H := hP
  replace hD : va_D A [(a_h, .inr (0, [.ref a_tx, .ref a_ru, .int 0, .ref a_cd, .ref a_te, .ref a_ki, .ref a_ca, .ref a_ty, .ref a_io, .ref a_ex, .ref a_lo, .int 0, .ref a_fi, .int 0, .ref a_cl, .int 0]))] := hD
  exact W.vret hx hb hr (fun t ht hW => ⟨⟨(), rfl, trivial, trivial⟩, hS.F ht⟩) hS.2.2 d_C_sign_8
set_option maxHeartbeats 4000000 in
set_option maxRecDepth 100000 in
theorem c_coder (l : Launch) (dC : Nat → ClassId) (dI : Nat → Nat → Nat) (adK adV : Nat → Nat) (iw : Nat) (hiw : iw < nst) : Met l y_S_coder ws_S_coder ({ frames := 0, cells := 0, slots := 0, locals := 0 }) (va_Pc [.ref (adK iw)] (fun U => zz adK adV (fun _ => False) U ∧ va_P (dC, dI) vwCl [] U.heap ∧ va_K (dC, dI) vwCl [] U)) (vp_Si (fun r => r = 0)) 0 0 (fun _ => False) := by
  refine Met.ofW (cc := c_S_coder) (maxL := 1) (ret := (some .byte)) (by decide) rfl ?_
  intro p e s m args below meth c s₁ B hml hv
  obtain ⟨rfl, hZ, hP, hK⟩ := hv
  have hx := B.exec
  have hb := B.bytes
  have hr := B.returns
  have hts0 := atoms_spec (ws := ws_S_coder) B.pre
  have hts : ∀ w ∈ TT, w.before _ s = true := fun w h => hts0 w (List.mem_cons_of_mem _ h)
  have hown : s.vm.findClass "java/lang/String" = some m.cls := findClass_of_methodNamed B.named
  have hlocks := B.notSynchronized
  have hS : va_S (fun _ => False) s.heap s.heap [] := va_S.rf
  replace hP : va_P (dC, dI) vwCl [] s.heap := hP
  have hl := lv_entry ([.ref (adK iw)]) (n := 1) (Nat.le_of_ble_eq_true rfl)
  rw [lg_entry_eq]
  generalize (lg_sl ([.ref (adK iw)]) ++ List.replicate (1 - (lg_sl ([.ref (adK iw)])).length) Slot.unset).toArray = ls at hl ⊢
  replace hl : lv_has ls 1 [(0, .ref (adK iw))] := hl
  refine va_gets hx hb (zz_cs hZ) hS hown (hts _ tw_247) (fun _ h => h) d_S_coder_0 ?_
  refine lv_if_eq (tgt := 13) hx hb d_S_coder_3 (by decide) (fun c_1 => ?_) (fun c_1 => ?_)
  · exact absurd c_1 (by decide)
  · refine lv_aload_n hx hb d_S_coder_6 rfl (lv_at hl 0 rfl) ?_
    refine vk_getf (v := .int 0) hx hb ((zz_S hZ).1 _ hiw).2.1 hS hown (hts _ tw_828) (fun _ h => h) d_S_coder_7 ?_
    refine lv_goto (tgt := 14) hx hb d_S_coder_10 (by decide) ?_
    exact W.zret (v := 0) hx hb hr rfl (fun t ht hW => ⟨0, rfl, rfl, ht⟩) (fun _ h => by cases h) d_S_coder_14
set_option maxHeartbeats 4000000 in
set_option maxRecDepth 100000 in
theorem c_isLatin1 (l : Launch) (dC : Nat → ClassId) (dI : Nat → Nat → Nat) (adK adV : Nat → Nat) (iw : Nat) (hiw : iw < nst) : Met l y_S_isLatin1 ws_S_isLatin1 ({ frames := 0, cells := 0, slots := 0, locals := 0 }) (va_Pc [.ref (adK iw)] (fun U => zz adK adV (fun _ => False) U ∧ va_P (dC, dI) vwCl [] U.heap ∧ va_K (dC, dI) vwCl [] U)) (vp_Si (fun r => r = 1)) 0 0 (fun _ => False) := by
  refine Met.ofW (cc := c_S_isLatin1) (maxL := 1) (ret := (some .boolean)) (by decide) rfl ?_
  intro p e s m args below meth c s₁ B hml hv
  obtain ⟨rfl, hZ, hP, hK⟩ := hv
  have hx := B.exec
  have hb := B.bytes
  have hr := B.returns
  have hts0 := atoms_spec (ws := ws_S_isLatin1) B.pre
  have hts : ∀ w ∈ TT, w.before _ s = true := fun w h => hts0 w (List.mem_cons_of_mem _ h)
  have hown : s.vm.findClass "java/lang/String" = some m.cls := findClass_of_methodNamed B.named
  have hlocks := B.notSynchronized
  have hS : va_S (fun _ => False) s.heap s.heap [] := va_S.rf
  replace hP : va_P (dC, dI) vwCl [] s.heap := hP
  have hl := lv_entry ([.ref (adK iw)]) (n := 1) (Nat.le_of_ble_eq_true rfl)
  rw [lg_entry_eq]
  generalize (lg_sl ([.ref (adK iw)]) ++ List.replicate (1 - (lg_sl ([.ref (adK iw)])).length) Slot.unset).toArray = ls at hl ⊢
  replace hl : lv_has ls 1 [(0, .ref (adK iw))] := hl
  refine va_gets hx hb (zz_cs hZ) hS hown (hts _ tw_247) (fun _ h => h) d_S_isLatin1_0 ?_
  refine lv_if_eq (tgt := 17) hx hb d_S_isLatin1_3 (by decide) (fun c_1 => ?_) (fun c_1 => ?_)
  · exact absurd c_1 (by decide)
  · refine lv_aload_n hx hb d_S_isLatin1_6 rfl (lv_at hl 0 rfl) ?_
    refine vk_getf (v := .int 0) hx hb ((zz_S hZ).1 _ hiw).2.1 hS hown (hts _ tw_828) (fun _ h => h) d_S_isLatin1_7 ?_
    refine lv_if_ne (tgt := 17) hx hb d_S_isLatin1_10 (by decide) (fun c_2 => ?_) (fun c_2 => ?_)
    · exact absurd (by decide) c_2
    · refine lv_iconst (v := 1) hx hb d_S_isLatin1_13 (by decide) ?_
      refine lv_goto (tgt := 18) hx hb d_S_isLatin1_14 (by decide) ?_
      exact W.zret (v := 1) hx hb hr rfl (fun t ht hW => ⟨1, rfl, rfl, ht⟩) (fun _ h => by cases h) d_S_isLatin1_18
set_option maxHeartbeats 4000000 in
set_option maxRecDepth 100000 in
theorem c_strlen (l : Launch) (dC : Nat → ClassId) (dI : Nat → Nat → Nat) (adK adV : Nat → Nat) (iw : Nat) (hiw : iw < nst) : Met l y_S_length ws_S_length ({ frames := 1, cells := 0, slots := 0, locals := 20 }) (va_Pc [.ref (adK iw)] (fun U => zz adK adV (fun _ => False) U ∧ va_P (dC, dI) vwCl [] U.heap ∧ va_K (dC, dI) vwCl [] U)) (vp_Si (fun r => r = nI (kz_len.getD iw 0))) 0 0 (fun _ => False) := by
  refine Met.ofW (cc := c_S_length) (maxL := 1) (ret := (some .int)) (by decide) rfl ?_
  intro p e s m args below meth c s₁ B hml hv
  obtain ⟨rfl, hZ, hP, hK⟩ := hv
  have hx := B.exec
  have hb := B.bytes
  have hr := B.returns
  have hts0 := atoms_spec (ws := ws_S_length) B.pre
  have hts : ∀ w ∈ TT, w.before _ s = true := fun w h => hts0 w (List.mem_cons_of_mem _ h)
  have hown : s.vm.findClass "java/lang/String" = some m.cls := findClass_of_methodNamed B.named
  have hlocks := B.notSynchronized
  have hS : va_S (fun _ => False) s.heap s.heap [] := va_S.rf
  replace hP : va_P (dC, dI) vwCl [] s.heap := hP
  have hl := lv_entry ([.ref (adK iw)]) (n := 1) (Nat.le_of_ble_eq_true rfl)
  rw [lg_entry_eq]
  generalize (lg_sl ([.ref (adK iw)]) ++ List.replicate (1 - (lg_sl ([.ref (adK iw)])).length) Slot.unset).toArray = ls at hl ⊢
  replace hl : lv_has ls 1 [(0, .ref (adK iw))] := hl
  refine lv_aload_n hx hb d_S_length_0 rfl (lv_at hl 0 rfl) ?_
  refine vk_getf (v := .ref (adV iw)) hx hb ((zz_S hZ).1 _ hiw).2.2.1 hS hown (hts _ tw_827) (fun _ h => h) d_S_length_1 ?_
  refine va_tlen (v := nI (kz_len.getD iw 0)) hx hb ((zz_S hZ).1 _ hiw).2.2.2 hS rfl d_S_length_4 ?_
  refine lv_aload_n hx hb d_S_length_5 rfl (lv_at hl 0 rfl) ?_
  have hPc := hP.sub (ws' := []) [] rfl
  have hKc := hK.sub (tys' := []) [] rfl
  refine vp_callSi (va_Run.run (va_runV (As := []) (rest := [.int (nI (kz_len.getD iw 0))]) ⟨hx, hb, hml, hown, hts⟩ (c_coder l dC dI adK adV (iw := iw) hiw) (cwV 0 hts (gV tw_243 tw_244 tw_245 tw_48 tw_246) rfl rfl rfl (by decide +kernel) ⟨(Nat.le_of_ble_eq_true rfl), (Nat.le_of_ble_eq_true rfl)⟩) ⟨fun a U g mk q => by obtain ⟨q0, qZ, qP, qK⟩ := q; exact ⟨q0, zz_call qZ, qP, va_K.moved (u := U) (U := U.calling g mk a) (Vm.Alike.refl U.vm) qK⟩, vk_recv (zz_S hZ) hiw hS, fun U hU hW => ⟨rfl, zz_rr hU hW hZ, by rw [hU]; exact hPc, va_K.moved hW.alike hKc⟩⟩ rfl rfl hl.1 rfl (lv_room (Nat.le_of_ble_eq_true rfl)) d_S_length_6 ⟨(Nat.le_of_ble_eq_true rfl), (Nat.le_of_ble_eq_true rfl)⟩)) (fun r_1 hw_2 => ?_)
  obtain rfl : r_1 = 0 := hw_2
  refine lv_ishr hx hb d_S_length_9 ?_
  rw [sb_shr0]
  exact W.iret (v := nI (kz_len.getD iw 0)) hx hb hr (fun t ht hW => ⟨nI (kz_len.getD iw 0), rfl, rfl, ht⟩) (fun _ h => by cases h) d_S_length_10
set_option maxHeartbeats 4000000 in
set_option maxRecDepth 100000 in
theorem c_pcheckN (l : Launch) (dC : Nat → ClassId) (dI : Nat → Nat → Nat) (adK adV : Nat → Nat) (p1 : Int32) (h01 : 0 < p1) : Met l y_PC_checkIndex ws_PC_checkIndex ({ frames := 0, cells := 0, slots := 0, locals := 0 }) (va_Pc [.int 0, .int p1, .null] (fun U => zz adK adV (fun _ => False) U ∧ va_P (dC, dI) vwCl [] U.heap ∧ va_K (dC, dI) vwCl [] U)) (vp_Si (fun r => r = 0)) 0 0 (fun _ => False) := by
  refine Met.ofW (cc := c_PC_checkIndex) (maxL := 3) (ret := (some .int)) (by decide) rfl ?_
  intro p e s m args below meth c s₁ B hml hv
  obtain ⟨rfl, hZ, hP, hK⟩ := hv
  have hx := B.exec
  have hb := B.bytes
  have hr := B.returns
  have hts0 := atoms_spec (ws := ws_PC_checkIndex) B.pre
  have hts : ∀ w ∈ TT, w.before _ s = true := fun w h => hts0 w (List.mem_cons_of_mem _ h)
  have hown : s.vm.findClass "jdk/internal/util/Preconditions" = some m.cls := findClass_of_methodNamed B.named
  have hlocks := B.notSynchronized
  have hS : va_S (fun _ => False) s.heap s.heap [] := va_S.rf
  replace hP : va_P (dC, dI) vwCl [] s.heap := hP
  have hl := lv_entry ([.int 0, .int p1, .null]) (n := 3) (Nat.le_of_ble_eq_true rfl)
  rw [lg_entry_eq]
  generalize (lg_sl ([.int 0, .int p1, .null]) ++ List.replicate (3 - (lg_sl ([.int 0, .int p1, .null])).length) Slot.unset).toArray = ls at hl ⊢
  replace hl : lv_has ls 3 [(0, .int 0), (1, .int p1), (2, .null)] := hl
  refine lv_iload_n hx hb d_PC_checkIndex_0 rfl (lv_at hl 0 rfl) ?_
  refine lv_if_lt (tgt := 9) hx hb d_PC_checkIndex_1 (by decide) (fun c_1 => ?_) (fun c_1 => ?_)
  · exact absurd c_1 (by decide)
  · refine lv_iload_n hx hb d_PC_checkIndex_4 rfl (lv_at hl 0 rfl) ?_
    refine lv_iload_n hx hb d_PC_checkIndex_5 rfl (lv_at hl 1 rfl) ?_
    refine lv_icmp_lt (tgt := 16) hx hb d_PC_checkIndex_6 (by decide) (fun c_2 => ?_) (fun c_2 => ?_)
    · refine lv_iload_n hx hb d_PC_checkIndex_16 rfl (lv_at hl 0 rfl) ?_
      exact W.iret (v := 0) hx hb hr (fun t ht hW => ⟨0, rfl, rfl, ht⟩) (fun _ h => by cases h) d_PC_checkIndex_17
    · exact absurd h01 c_2
set_option maxHeartbeats 4000000 in
set_option maxRecDepth 100000 in
theorem c_pcheckR (l : Launch) (dC : Nat → ClassId) (dI : Nat → Nat → Nat) (adK adV : Nat → Nat) (p1 : Int32) (tq : Nat) (h01 : 0 < p1) : Met l y_PC_checkIndex ws_PC_checkIndex ({ frames := 0, cells := 0, slots := 0, locals := 0 }) (va_Pc [.int 0, .int p1, .ref tq] (fun U => zz adK adV (fun _ => False) U ∧ va_P (dC, dI) vwCl [] U.heap ∧ va_K (dC, dI) vwCl [] U)) (vp_Si (fun r => r = 0)) 0 0 (fun _ => False) := by
  refine Met.ofW (cc := c_PC_checkIndex) (maxL := 3) (ret := (some .int)) (by decide) rfl ?_
  intro p e s m args below meth c s₁ B hml hv
  obtain ⟨rfl, hZ, hP, hK⟩ := hv
  have hx := B.exec
  have hb := B.bytes
  have hr := B.returns
  have hts0 := atoms_spec (ws := ws_PC_checkIndex) B.pre
  have hts : ∀ w ∈ TT, w.before _ s = true := fun w h => hts0 w (List.mem_cons_of_mem _ h)
  have hown : s.vm.findClass "jdk/internal/util/Preconditions" = some m.cls := findClass_of_methodNamed B.named
  have hlocks := B.notSynchronized
  have hS : va_S (fun _ => False) s.heap s.heap [] := va_S.rf
  replace hP : va_P (dC, dI) vwCl [] s.heap := hP
  have hl := lv_entry ([.int 0, .int p1, .ref tq]) (n := 3) (Nat.le_of_ble_eq_true rfl)
  rw [lg_entry_eq]
  generalize (lg_sl ([.int 0, .int p1, .ref tq]) ++ List.replicate (3 - (lg_sl ([.int 0, .int p1, .ref tq])).length) Slot.unset).toArray = ls at hl ⊢
  replace hl : lv_has ls 3 [(0, .int 0), (1, .int p1), (2, .ref tq)] := hl
  refine lv_iload_n hx hb d_PC_checkIndex_0 rfl (lv_at hl 0 rfl) ?_
  refine lv_if_lt (tgt := 9) hx hb d_PC_checkIndex_1 (by decide) (fun c_1 => ?_) (fun c_1 => ?_)
  · exact absurd c_1 (by decide)
  · refine lv_iload_n hx hb d_PC_checkIndex_4 rfl (lv_at hl 0 rfl) ?_
    refine lv_iload_n hx hb d_PC_checkIndex_5 rfl (lv_at hl 1 rfl) ?_
    refine lv_icmp_lt (tgt := 16) hx hb d_PC_checkIndex_6 (by decide) (fun c_2 => ?_) (fun c_2 => ?_)
    · refine lv_iload_n hx hb d_PC_checkIndex_16 rfl (lv_at hl 0 rfl) ?_
      exact W.iret (v := 0) hx hb hr (fun t ht hW => ⟨0, rfl, rfl, ht⟩) (fun _ h => by cases h) d_PC_checkIndex_17
    · exact absurd h01 c_2
set_option maxHeartbeats 4000000 in
set_option maxRecDepth 100000 in
theorem c_checkIndex (l : Launch) (dC : Nat → ClassId) (dI : Nat → Nat → Nat) (adK adV : Nat → Nat) (p1 : Int32) (h01 : 0 < p1) : Met l y_S_checkIndex ws_S_checkIndex ({ frames := 1, cells := 0, slots := 0, locals := 22 }) (va_Pc [.int 0, .int p1] (fun U => zz adK adV (fun _ => False) U ∧ va_P (dC, dI) vwCl [] U.heap ∧ va_K (dC, dI) vwCl [] U)) (va_Sv (fun _ => True)) 0 0 (fun _ => False) := by
  refine Met.ofW (cc := c_S_checkIndex) (maxL := 2) (ret := none) (by decide) rfl ?_
  intro p e s m args below meth c s₁ B hml hv
  obtain ⟨rfl, hZ, hP, hK⟩ := hv
  have hx := B.exec
  have hb := B.bytes
  have hr := B.returns
  have hts0 := atoms_spec (ws := ws_S_checkIndex) B.pre
  have hts : ∀ w ∈ TT, w.before _ s = true := fun w h => hts0 w (List.mem_cons_of_mem _ h)
  have hown : s.vm.findClass "java/lang/String" = some m.cls := findClass_of_methodNamed B.named
  have hlocks := B.notSynchronized
  have hS : va_S (fun _ => False) s.heap s.heap [] := va_S.rf
  replace hP : va_P (dC, dI) vwCl [] s.heap := hP
  have hl := lv_entry ([.int 0, .int p1]) (n := 2) (Nat.le_of_ble_eq_true rfl)
  rw [lg_entry_eq]
  generalize (lg_sl ([.int 0, .int p1]) ++ List.replicate (2 - (lg_sl ([.int 0, .int p1])).length) Slot.unset).toArray = ls at hl ⊢
  replace hl : lv_has ls 2 [(0, .int 0), (1, .int p1)] := hl
  refine lv_iload_n hx hb d_S_checkIndex_0 rfl (lv_at hl 0 rfl) ?_
  refine lv_iload_n hx hb d_S_checkIndex_1 rfl (lv_at hl 1 rfl) ?_
  rcases zz_sf hZ with hq | ⟨tq, hq⟩
  · refine va_gets hx hb hq hS hown (hts _ tw_267) (fun _ h => h) d_S_checkIndex_2 ?_
    have hPc := hP.sub (ws' := []) [] rfl
    have hKc := hK.sub (tys' := []) [] rfl
    refine vp_callSi (va_Run.run (va_runS (As := [.int 0, .int p1, .null]) (rest := []) ⟨hx, hb, hml, hown, hts⟩ (c_pcheckN l dC dI adK adV (p1 := p1) h01) (va_cwS 3 hts (gS tw_269 tw_270 tw_50 tw_271) rfl rfl rfl (by decide +kernel) ⟨(Nat.le_of_ble_eq_true rfl), (Nat.le_of_ble_eq_true rfl)⟩) ⟨fun a U g mk q => by obtain ⟨q0, qZ, qP, qK⟩ := q; exact ⟨q0, zz_call qZ, qP, va_K.moved (u := U) (U := U.calling g mk a) (Vm.Alike.refl U.vm) qK⟩, fun U hU hW => ⟨rfl, zz_rr hU hW hZ, by rw [hU]; exact hPc, va_K.moved hW.alike hKc⟩⟩ rfl rfl hl.1 rfl (lv_room (Nat.le_of_ble_eq_true rfl)) d_S_checkIndex_5 ⟨(Nat.le_of_ble_eq_true rfl), (Nat.le_of_ble_eq_true rfl)⟩)) (fun r_1 hw_2 => ?_)
    obtain rfl : r_1 = 0 := hw_2
    refine lv_pop hx hb d_S_checkIndex_8 rfl ?_
    exact W.vret hx hb hr (fun t ht hW => ⟨rfl, trivial, ht⟩) (fun _ h => by cases h) d_S_checkIndex_9
  · refine va_gets hx hb hq hS hown (hts _ tw_267) (fun _ h => h) d_S_checkIndex_2 ?_
    have hPc := hP.sub (ws' := []) [] rfl
    have hKc := hK.sub (tys' := []) [] rfl
    refine vp_callSi (va_Run.run (va_runS (As := [.int 0, .int p1, .ref tq]) (rest := []) ⟨hx, hb, hml, hown, hts⟩ (c_pcheckR l dC dI adK adV (p1 := p1) (tq := tq) h01) (va_cwS 3 hts (gS tw_269 tw_270 tw_50 tw_271) rfl rfl rfl (by decide +kernel) ⟨(Nat.le_of_ble_eq_true rfl), (Nat.le_of_ble_eq_true rfl)⟩) ⟨fun a U g mk q => by obtain ⟨q0, qZ, qP, qK⟩ := q; exact ⟨q0, zz_call qZ, qP, va_K.moved (u := U) (U := U.calling g mk a) (Vm.Alike.refl U.vm) qK⟩, fun U hU hW => ⟨rfl, zz_rr hU hW hZ, by rw [hU]; exact hPc, va_K.moved hW.alike hKc⟩⟩ rfl rfl hl.1 rfl (lv_room (Nat.le_of_ble_eq_true rfl)) d_S_checkIndex_5 ⟨(Nat.le_of_ble_eq_true rfl), (Nat.le_of_ble_eq_true rfl)⟩)) (fun r_3 hw_4 => ?_)
    obtain rfl : r_3 = 0 := hw_4
    refine lv_pop hx hb d_S_checkIndex_8 rfl ?_
    exact W.vret hx hb hr (fun t ht hW => ⟨rfl, trivial, ht⟩) (fun _ h => by cases h) d_S_checkIndex_9
set_option maxHeartbeats 4000000 in
set_option maxRecDepth 100000 in
theorem c_charAtL (l : Launch) (dC : Nat → ClassId) (dI : Nat → Nat → Nat) (adK adV : Nat → Nat) (iw : Nat) (hiw : iw < nst) : Met l y_SL_charAt ws_SL_charAt ({ frames := 2, cells := 0, slots := 0, locals := 43 }) (va_Pc [.ref (adV iw), .int 0] (fun U => zz adK adV (fun _ => False) U ∧ va_P (dC, dI) vwCl [] U.heap ∧ va_K (dC, dI) vwCl [] U)) (vp_Si (fun r => r = ((((kz_byt.getD iw []).getD (0 : Int32).toNatClampNeg 0) &&& 255).toUInt32 % 65536).toInt32)) 0 0 (fun _ => False) := by
  refine Met.ofW (cc := c_SL_charAt) (maxL := 2) (ret := (some .char)) (by decide) rfl ?_
  intro p e s m args below meth c s₁ B hml hv
  obtain ⟨rfl, hZ, hP, hK⟩ := hv
  have hx := B.exec
  have hb := B.bytes
  have hr := B.returns
  have hts0 := atoms_spec (ws := ws_SL_charAt) B.pre
  have hts : ∀ w ∈ TT, w.before _ s = true := fun w h => hts0 w (List.mem_cons_of_mem _ h)
  have hown : s.vm.findClass "java/lang/StringLatin1" = some m.cls := findClass_of_methodNamed B.named
  have hlocks := B.notSynchronized
  have hS : va_S (fun _ => False) s.heap s.heap [] := va_S.rf
  replace hP : va_P (dC, dI) vwCl [] s.heap := hP
  have hl := lv_entry ([.ref (adV iw), .int 0]) (n := 2) (Nat.le_of_ble_eq_true rfl)
  rw [lg_entry_eq]
  generalize (lg_sl ([.ref (adV iw), .int 0]) ++ List.replicate (2 - (lg_sl ([.ref (adV iw), .int 0])).length) Slot.unset).toArray = ls at hl ⊢
  replace hl : lv_has ls 2 [(0, .ref (adV iw)), (1, .int 0)] := hl
  refine lv_iload_n hx hb d_SL_charAt_0 rfl (lv_at hl 1 rfl) ?_
  refine lv_aload_n hx hb d_SL_charAt_1 rfl (lv_at hl 0 rfl) ?_
  refine va_tlen (v := nI (kz_len.getD iw 0)) hx hb ((zz_S hZ).1 _ hiw).2.2.2 hS rfl d_SL_charAt_2 ?_
  have hPc := hP.sub (ws' := []) [] rfl
  have hKc := hK.sub (tys' := []) [] rfl
  refine va_csv (va_Run.run (va_runS (As := [.int 0, .int (nI (kz_len.getD iw 0))]) (rest := []) ⟨hx, hb, hml, hown, hts⟩ (c_checkIndex l dC dI adK adV (p1 := nI (kz_len.getD iw 0)) (zk_pos hiw)) (va_cwS 2 hts (gS tw_264 tw_265 tw_48 tw_266) rfl rfl rfl (by decide +kernel) ⟨(Nat.le_of_ble_eq_true rfl), (Nat.le_of_ble_eq_true rfl)⟩) ⟨fun a U g mk q => by obtain ⟨q0, qZ, qP, qK⟩ := q; exact ⟨q0, zz_call qZ, qP, va_K.moved (u := U) (U := U.calling g mk a) (Vm.Alike.refl U.vm) qK⟩, fun U hU hW => ⟨rfl, zz_rr hU hW hZ, by rw [hU]; exact hPc, va_K.moved hW.alike hKc⟩⟩ rfl rfl hl.1 rfl (lv_room (Nat.le_of_ble_eq_true rfl)) d_SL_charAt_3 ⟨(Nat.le_of_ble_eq_true rfl), (Nat.le_of_ble_eq_true rfl)⟩)) (fun hw_1 => ?_)
  refine lv_aload_n hx hb d_SL_charAt_6 rfl (lv_at hl 0 rfl) ?_
  refine lv_iload_n hx hb d_SL_charAt_7 rfl (lv_at hl 1 rfl) ?_
  have i_2 : vp_in 0 (kz_len.getD iw 0) := zk_in hiw
  refine va_tb (v := .int ((kz_byt.getD iw []).getD (0 : Int32).toNatClampNeg 0)) hx hb ((zz_S hZ).1 _ hiw).2.2.2 hS i_2 rfl d_SL_charAt_8 ?_
  refine lv_sipush (v := 255) hx hb d_SL_charAt_9 (by decide) ?_
  refine lv_iand hx hb d_SL_charAt_12 ?_
  refine lv_i2c hx hb d_SL_charAt_13 rfl ?_
  exact W.zret (v := ((((kz_byt.getD iw []).getD (0 : Int32).toNatClampNeg 0) &&& 255).toUInt32 % 65536).toInt32) hx hb hr (pk_nc _) (fun t ht hW => ⟨((((kz_byt.getD iw []).getD (0 : Int32).toNatClampNeg 0) &&& 255).toUInt32 % 65536).toInt32, rfl, rfl, ht⟩) (fun _ h => by cases h) d_SL_charAt_14
set_option maxHeartbeats 4000000 in
set_option maxRecDepth 100000 in
theorem c_charAt (l : Launch) (dC : Nat → ClassId) (dI : Nat → Nat → Nat) (adK adV : Nat → Nat) (iw : Nat) (hiw : iw < nst) : Met l y_S_charAt ws_S_charAt ({ frames := 3, cells := 0, slots := 0, locals := 64 }) (va_Pc [.ref (adK iw), .int 0] (fun U => zz adK adV (fun _ => False) U ∧ va_P (dC, dI) vwCl [] U.heap ∧ va_K (dC, dI) vwCl [] U)) (vp_Si (fun r => r = ((((kz_byt.getD iw []).getD (0 : Int32).toNatClampNeg 0) &&& 255).toUInt32 % 65536).toInt32)) 0 0 (fun _ => False) := by
  refine Met.ofW (cc := c_S_charAt) (maxL := 2) (ret := (some .char)) (by decide) rfl ?_
  intro p e s m args below meth c s₁ B hml hv
  obtain ⟨rfl, hZ, hP, hK⟩ := hv
  have hx := B.exec
  have hb := B.bytes
  have hr := B.returns
  have hts0 := atoms_spec (ws := ws_S_charAt) B.pre
  have hts : ∀ w ∈ TT, w.before _ s = true := fun w h => hts0 w (List.mem_cons_of_mem _ h)
  have hown : s.vm.findClass "java/lang/String" = some m.cls := findClass_of_methodNamed B.named
  have hlocks := B.notSynchronized
  have hS : va_S (fun _ => False) s.heap s.heap [] := va_S.rf
  replace hP : va_P (dC, dI) vwCl [] s.heap := hP
  have hl := lv_entry ([.ref (adK iw), .int 0]) (n := 2) (Nat.le_of_ble_eq_true rfl)
  rw [lg_entry_eq]
  generalize (lg_sl ([.ref (adK iw), .int 0]) ++ List.replicate (2 - (lg_sl ([.ref (adK iw), .int 0])).length) Slot.unset).toArray = ls at hl ⊢
  replace hl : lv_has ls 2 [(0, .ref (adK iw)), (1, .int 0)] := hl
  refine lv_aload_n hx hb d_S_charAt_0 rfl (lv_at hl 0 rfl) ?_
  have hPc := hP.sub (ws' := []) [] rfl
  have hKc := hK.sub (tys' := []) [] rfl
  refine vp_callSi (va_Run.run (va_runV (As := []) (rest := []) ⟨hx, hb, hml, hown, hts⟩ (c_isLatin1 l dC dI adK adV (iw := iw) hiw) (cwV 0 hts (gV tw_257 tw_258 tw_259 tw_48 tw_260) rfl rfl rfl (by decide +kernel) ⟨(Nat.le_of_ble_eq_true rfl), (Nat.le_of_ble_eq_true rfl)⟩) ⟨fun a U g mk q => by obtain ⟨q0, qZ, qP, qK⟩ := q; exact ⟨q0, zz_call qZ, qP, va_K.moved (u := U) (U := U.calling g mk a) (Vm.Alike.refl U.vm) qK⟩, vk_recv (zz_S hZ) hiw hS, fun U hU hW => ⟨rfl, zz_rr hU hW hZ, by rw [hU]; exact hPc, va_K.moved hW.alike hKc⟩⟩ rfl rfl hl.1 rfl (lv_room (Nat.le_of_ble_eq_true rfl)) d_S_charAt_1 ⟨(Nat.le_of_ble_eq_true rfl), (Nat.le_of_ble_eq_true rfl)⟩)) (fun r_1 hw_2 => ?_)
  obtain rfl : r_1 = 1 := hw_2
  refine lv_if_eq (tgt := 16) hx hb d_S_charAt_4 (by decide) (fun c_3 => ?_) (fun c_3 => ?_)
  · exact absurd c_3 (by decide)
  · refine lv_aload_n hx hb d_S_charAt_7 rfl (lv_at hl 0 rfl) ?_
    refine vk_getf (v := .ref (adV iw)) hx hb ((zz_S hZ).1 _ hiw).2.2.1 hS hown (hts _ tw_827) (fun _ h => h) d_S_charAt_8 ?_
    refine lv_iload_n hx hb d_S_charAt_11 rfl (lv_at hl 1 rfl) ?_
    have hPc := hP.sub (ws' := []) [] rfl
    have hKc := hK.sub (tys' := []) [] rfl
    refine vp_callSi (va_Run.run (va_runS (As := [.ref (adV iw), .int 0]) (rest := []) ⟨hx, hb, hml, hown, hts⟩ (c_charAtL l dC dI adK adV (iw := iw) hiw) (va_cwS 2 hts (gS tw_261 tw_262 tw_49 tw_263) rfl rfl rfl (by decide +kernel) ⟨(Nat.le_of_ble_eq_true rfl), (Nat.le_of_ble_eq_true rfl)⟩) ⟨fun a U g mk q => by obtain ⟨q0, qZ, qP, qK⟩ := q; exact ⟨q0, zz_call qZ, qP, va_K.moved (u := U) (U := U.calling g mk a) (Vm.Alike.refl U.vm) qK⟩, fun U hU hW => ⟨rfl, zz_rr hU hW hZ, by rw [hU]; exact hPc, va_K.moved hW.alike hKc⟩⟩ rfl rfl hl.1 rfl (lv_room (Nat.le_of_ble_eq_true rfl)) d_S_charAt_12 ⟨(Nat.le_of_ble_eq_true rfl), (Nat.le_of_ble_eq_true rfl)⟩)) (fun r_4 hw_5 => ?_)
    subst hw_5
    exact W.zret (v := ((((kz_byt.getD iw []).getD (0 : Int32).toNatClampNeg 0) &&& 255).toUInt32 % 65536).toInt32) hx hb hr (pk_nc _) (fun t ht hW => ⟨((((kz_byt.getD iw []).getD (0 : Int32).toNatClampNeg 0) &&& 255).toUInt32 % 65536).toInt32, rfl, rfl, ht⟩) (fun _ h => by cases h) d_S_charAt_15
set_option maxHeartbeats 4000000 in
set_option maxRecDepth 100000 in
theorem c_signAt (l : Launch) (dC : Nat → ClassId) (dI : Nat → Nat → Nat) (adK adV : Nat → Nat) (a_tx : Nat) (p0 : Int32) (a_sg : Nat) : Met l y_T_signAt ws_T_signAt ({ frames := 0, cells := 0, slots := 0, locals := 0 }) (va_Pc [.ref a_tx, .int p0] (fun U => zz adK adV (fun _ => False) U ∧ va_P (dC, dI) vwCl [(a_tx, .inr (4, [.ref a_sg, .int 0, .int 0, .int (-1)]))] U.heap ∧ va_K (dC, dI) vwCl [] U)) (vp_Si (fun r => r = (-1))) 0 0 (fun _ => False) := by
  refine Met.ofW (cc := c_T_signAt) (maxL := 2) (ret := (some .int)) (by decide) rfl ?_
  intro p e s m args below meth c s₁ B hml hv
  obtain ⟨rfl, hZ, hP, hK⟩ := hv
  have hx := B.exec
  have hb := B.bytes
  have hr := B.returns
  have hts0 := atoms_spec (ws := ws_T_signAt) B.pre
  have hts : ∀ w ∈ TT, w.before _ s = true := fun w h => hts0 w (List.mem_cons_of_mem _ h)
  have hown : s.vm.findClass "LoanRules$RuleText" = some m.cls := findClass_of_methodNamed B.named
  have hlocks := B.notSynchronized
  have hS : va_S (fun _ => False) s.heap s.heap [] := va_S.rf
  replace hP : va_P (dC, dI) vwCl [(a_tx, .inr (4, [.ref a_sg, .int 0, .int 0, .int (-1)]))] s.heap := hP
  have hl := lv_entry ([.ref a_tx, .int p0]) (n := 2) (Nat.le_of_ble_eq_true rfl)
  rw [lg_entry_eq]
  generalize (lg_sl ([.ref a_tx, .int p0]) ++ List.replicate (2 - (lg_sl ([.ref a_tx, .int p0])).length) Slot.unset).toArray = ls at hl ⊢
  replace hl : lv_has ls 2 [(0, .ref a_tx), (1, .int p0)] := hl
  refine lv_iload_n hx hb d_T_signAt_0 rfl (lv_at hl 1 rfl) ?_
  refine lv_if_lt (tgt := 30) hx hb d_T_signAt_1 (by decide) (fun c_1 => ?_) (fun c_1 => ?_)
  · refine lv_iconst (v := (-1)) hx hb d_T_signAt_30 (by decide) ?_
    exact W.iret (v := (-1)) hx hb hr (fun t ht hW => ⟨(-1), rfl, rfl, ht⟩) (fun _ h => by cases h) d_T_signAt_31
  · refine lv_iload_n hx hb d_T_signAt_4 rfl (lv_at hl 1 rfl) ?_
    refine lv_aload_n hx hb d_T_signAt_5 rfl (lv_at hl 0 rfl) ?_
    refine va_get (D := (dC, dI)) (ci := 4) (v := .int 0) (C := "LoanRules$RuleText") (T := Fz_T) (N := 4) hx hb hts it_T hown hK hP 0 rfl rfl 1 (by decide) (hts _ tw_73) (fun _ h9 => h9) rfl d_T_signAt_6 ?_
    refine lv_icmp_ge (tgt := 30) hx hb d_T_signAt_9 (by decide) (fun c_2 => ?_) (fun c_2 => ?_)
    · refine lv_iconst (v := (-1)) hx hb d_T_signAt_30 (by decide) ?_
      exact W.iret (v := (-1)) hx hb hr (fun t ht hW => ⟨(-1), rfl, rfl, ht⟩) (fun _ h => by cases h) d_T_signAt_31
    · exact absurd (lk_no c_1) c_2
set_option maxHeartbeats 4000000 in
set_option maxRecDepth 100000 in
theorem c_signAt_w (l : Launch) (dC : Nat → ClassId) (dI : Nat → Nat → Nat) (adK adV : Nat → Nat) (a_tx : Nat) (p0 : Int32) (a_sg : Nat) : Met l y_T_signAt ws_T_signAt ({ frames := 0, cells := 0, slots := 0, locals := 0 }) (va_Pc [.ref a_tx, .int p0] (fun U => zz adK adV (fun _ => False) U ∧ va_P (dC, dI) vwCl [(a_tx, .inr (4, [.ref a_sg, .int 0, .int 0, .int 0]))] U.heap ∧ va_K (dC, dI) vwCl [] U)) (vp_Si (fun r => r = (-1))) 0 0 (fun _ => False) := by
  refine Met.ofW (cc := c_T_signAt) (maxL := 2) (ret := (some .int)) (by decide) rfl ?_
  intro p e s m args below meth c s₁ B hml hv
  obtain ⟨rfl, hZ, hP, hK⟩ := hv
  have hx := B.exec
  have hb := B.bytes
  have hr := B.returns
  have hts0 := atoms_spec (ws := ws_T_signAt) B.pre
  have hts : ∀ w ∈ TT, w.before _ s = true := fun w h => hts0 w (List.mem_cons_of_mem _ h)
  have hown : s.vm.findClass "LoanRules$RuleText" = some m.cls := findClass_of_methodNamed B.named
  have hlocks := B.notSynchronized
  have hS : va_S (fun _ => False) s.heap s.heap [] := va_S.rf
  replace hP : va_P (dC, dI) vwCl [(a_tx, .inr (4, [.ref a_sg, .int 0, .int 0, .int 0]))] s.heap := hP
  have hl := lv_entry ([.ref a_tx, .int p0]) (n := 2) (Nat.le_of_ble_eq_true rfl)
  rw [lg_entry_eq]
  generalize (lg_sl ([.ref a_tx, .int p0]) ++ List.replicate (2 - (lg_sl ([.ref a_tx, .int p0])).length) Slot.unset).toArray = ls at hl ⊢
  replace hl : lv_has ls 2 [(0, .ref a_tx), (1, .int p0)] := hl
  refine lv_iload_n hx hb d_T_signAt_0 rfl (lv_at hl 1 rfl) ?_
  refine lv_if_lt (tgt := 30) hx hb d_T_signAt_1 (by decide) (fun c_1 => ?_) (fun c_1 => ?_)
  · refine lv_iconst (v := (-1)) hx hb d_T_signAt_30 (by decide) ?_
    exact W.iret (v := (-1)) hx hb hr (fun t ht hW => ⟨(-1), rfl, rfl, ht⟩) (fun _ h => by cases h) d_T_signAt_31
  · refine lv_iload_n hx hb d_T_signAt_4 rfl (lv_at hl 1 rfl) ?_
    refine lv_aload_n hx hb d_T_signAt_5 rfl (lv_at hl 0 rfl) ?_
    refine va_get (D := (dC, dI)) (ci := 4) (v := .int 0) (C := "LoanRules$RuleText") (T := Fz_T) (N := 4) hx hb hts it_T hown hK hP 0 rfl rfl 1 (by decide) (hts _ tw_73) (fun _ h9 => h9) rfl d_T_signAt_6 ?_
    refine lv_icmp_ge (tgt := 30) hx hb d_T_signAt_9 (by decide) (fun c_2 => ?_) (fun c_2 => ?_)
    · refine lv_iconst (v := (-1)) hx hb d_T_signAt_30 (by decide) ?_
      exact W.iret (v := (-1)) hx hb hr (fun t ht hW => ⟨(-1), rfl, rfl, ht⟩) (fun _ h => by cases h) d_T_signAt_31
    · exact absurd (lk_no c_1) c_2
set_option maxHeartbeats 4000000 in
set_option maxRecDepth 100000 in
theorem c_takesWord (l : Launch) (dC : Nat → ClassId) (dI : Nat → Nat → Nat) (adK adV : Nat → Nat) (a_tx : Nat) (iw : Nat) (a_sg : Nat) (hiw : iw < nst) : Met l y_T_takesWord ws_T_takesWord ({ frames := 4, cells := 0, slots := 0, locals := 85 }) (va_Pc [.ref a_tx, .ref (adK iw)] (fun U => zz adK adV (fun _ => False) U ∧ va_P (dC, dI) vwCl [(a_tx, .inr (4, [.ref a_sg, .int 0, .int 0, .int (-1)]))] U.heap ∧ va_K (dC, dI) vwCl [] U)) (vp_Si (fun r => r = 0)) 0 0 (fun _ => False) := by
  refine Met.ofW (cc := c_T_takesWord) (maxL := 3) (ret := (some .boolean)) (by decide) rfl ?_
  intro p e s m args below meth c s₁ B hml hv
  obtain ⟨rfl, hZ, hP, hK⟩ := hv
  have hx := B.exec
  have hb := B.bytes
  have hr := B.returns
  have hts0 := atoms_spec (ws := ws_T_takesWord) B.pre
  have hts : ∀ w ∈ TT, w.before _ s = true := fun w h => hts0 w (List.mem_cons_of_mem _ h)
  have hown : s.vm.findClass "LoanRules$RuleText" = some m.cls := findClass_of_methodNamed B.named
  have hlocks := B.notSynchronized
  have hS : va_S (fun _ => False) s.heap s.heap [] := va_S.rf
  replace hP : va_P (dC, dI) vwCl [(a_tx, .inr (4, [.ref a_sg, .int 0, .int 0, .int (-1)]))] s.heap := hP
  have hl := lv_entry ([.ref a_tx, .ref (adK iw)]) (n := 3) (Nat.le_of_ble_eq_true rfl)
  rw [lg_entry_eq]
  generalize (lg_sl ([.ref a_tx, .ref (adK iw)]) ++ List.replicate (3 - (lg_sl ([.ref a_tx, .ref (adK iw)])).length) Slot.unset).toArray = ls at hl ⊢
  replace hl : lv_has ls 3 [(0, .ref a_tx), (1, .ref (adK iw))] := hl
  refine lv_aload_n hx hb d_T_takesWord_0 rfl (lv_at hl 0 rfl) ?_
  refine va_get (D := (dC, dI)) (ci := 4) (v := .int (-1)) (C := "LoanRules$RuleText") (T := Fz_T) (N := 4) hx hb hts it_T hown hK hP 0 rfl rfl 3 (by decide) (hts _ tw_75) (fun _ h9 => h9) rfl d_T_takesWord_1 ?_
  refine lv_iconst (v := (-1)) hx hb d_T_takesWord_4 (by decide) ?_
  refine lv_icmp_eq (tgt := 10) hx hb d_T_takesWord_5 (by decide) (fun c_1 => ?_) (fun c_1 => ?_)
  · refine lv_iconst (v := 0) hx hb d_T_takesWord_10 (by decide) ?_
    refine lv_istore_n (lv' := [(2, .int 0), (0, .ref a_tx), (1, .ref (adK iw))]) hx hb d_T_takesWord_11 rfl hl (by decide) rfl (fun ls hl => ?_)
    refine lv_iload_n hx hb d_T_takesWord_12 rfl (lv_at hl 0 rfl) ?_
    refine lv_aload_n hx hb d_T_takesWord_13 rfl (lv_at hl 2 rfl) ?_
    have hPc := hP.sub (ws' := []) [] rfl
    have hKc := hK.sub (tys' := []) [] rfl
    refine vp_callSi (va_Run.run (va_runV (As := []) (rest := [.int 0]) ⟨hx, hb, hml, hown, hts⟩ (c_strlen l dC dI adK adV (iw := iw) hiw) (cwV 0 hts (gV tw_239 tw_240 tw_241 tw_48 tw_242) rfl rfl rfl (by decide +kernel) ⟨(Nat.le_of_ble_eq_true rfl), (Nat.le_of_ble_eq_true rfl)⟩) ⟨fun a U g mk q => by obtain ⟨q0, qZ, qP, qK⟩ := q; exact ⟨q0, zz_call qZ, qP, va_K.moved (u := U) (U := U.calling g mk a) (Vm.Alike.refl U.vm) qK⟩, vk_recv (zz_S hZ) hiw hS, fun U hU hW => ⟨rfl, zz_rr hU hW hZ, by rw [hU]; exact hPc, va_K.moved hW.alike hKc⟩⟩ rfl rfl hl.1 rfl (lv_room (Nat.le_of_ble_eq_true rfl)) d_T_takesWord_14 ⟨(Nat.le_of_ble_eq_true rfl), (Nat.le_of_ble_eq_true rfl)⟩)) (fun r_2 hw_3 => ?_)
    subst hw_3
    refine lv_icmp_ge (tgt := 46) hx hb d_T_takesWord_17 (by decide) (fun c_4 => ?_) (fun c_4 => ?_)
    · exact absurd c_4 (zk_len hiw)
    · refine lv_aload_n hx hb d_T_takesWord_20 rfl (lv_at hl 1 rfl) ?_
      refine lv_aload_n hx hb d_T_takesWord_21 rfl (lv_at hl 1 rfl) ?_
      refine va_get (D := (dC, dI)) (ci := 4) (v := .int 0) (C := "LoanRules$RuleText") (T := Fz_T) (N := 4) hx hb hts it_T hown hK hP 0 rfl rfl 2 (by decide) (hts _ tw_74) (fun _ h9 => h9) rfl d_T_takesWord_22 ?_
      refine lv_iload_n hx hb d_T_takesWord_25 rfl (lv_at hl 0 rfl) ?_
      refine lv_iadd hx hb d_T_takesWord_26 ?_
      refine lv_topi (fun x_5 ex_5 => ?_)
      obtain rfl : x_5 = 0 := ex_5.trans (by decide)
      have hPc := hP.sub (ws' := [(a_tx, .inr (4, [.ref a_sg, .int 0, .int 0, .int (-1)]))]) [0] rfl
      have hKc := hK.sub (tys' := []) [] rfl
      refine vp_callSi (va_Run.run (va_runV (As := [.int 0]) (rest := []) ⟨hx, hb, hml, hown, hts⟩ (c_signAt l dC dI adK adV (a_tx := a_tx) (p0 := 0) (a_sg := a_sg)) (cwV 1 hts (gV tw_249 tw_251 tw_2 tw_43 tw_252) rfl rfl rfl (by decide +kernel) ⟨(Nat.le_of_ble_eq_true rfl), (Nat.le_of_ble_eq_true rfl)⟩) ⟨fun a U g mk q => by obtain ⟨q0, qZ, qP, qK⟩ := q; exact ⟨q0, zz_call qZ, qP, va_K.moved (u := U) (U := U.calling g mk a) (Vm.Alike.refl U.vm) qK⟩, va_recv hKc hPc (ci := 4) (q0 := 0) rfl rfl, fun U hU hW => ⟨rfl, zz_rr hU hW hZ, by rw [hU]; exact hPc, va_K.moved hW.alike hKc⟩⟩ rfl rfl hl.1 rfl (lv_room (Nat.le_of_ble_eq_true rfl)) d_T_takesWord_27 ⟨(Nat.le_of_ble_eq_true rfl), (Nat.le_of_ble_eq_true rfl)⟩)) (fun r_6 hw_7 => ?_)
      obtain rfl : r_6 = (-1) := hw_7
      refine lv_aload_n hx hb d_T_takesWord_30 rfl (lv_at hl 2 rfl) ?_
      refine lv_iload_n hx hb d_T_takesWord_31 rfl (lv_at hl 0 rfl) ?_
      have hPc := hP.sub (ws' := []) [] rfl
      have hKc := hK.sub (tys' := []) [] rfl
      refine vp_callSi (va_Run.run (va_runV (As := [.int 0]) (rest := [.int (-1)]) ⟨hx, hb, hml, hown, hts⟩ (c_charAt l dC dI adK adV (iw := iw) hiw) (cwV 1 hts (gV tw_253 tw_254 tw_255 tw_48 tw_256) rfl rfl rfl (by decide +kernel) ⟨(Nat.le_of_ble_eq_true rfl), (Nat.le_of_ble_eq_true rfl)⟩) ⟨fun a U g mk q => by obtain ⟨q0, qZ, qP, qK⟩ := q; exact ⟨q0, zz_call qZ, qP, va_K.moved (u := U) (U := U.calling g mk a) (Vm.Alike.refl U.vm) qK⟩, vk_recv (zz_S hZ) hiw hS, fun U hU hW => ⟨rfl, zz_rr hU hW hZ, by rw [hU]; exact hPc, va_K.moved hW.alike hKc⟩⟩ rfl rfl hl.1 rfl (lv_room (Nat.le_of_ble_eq_true rfl)) d_T_takesWord_32 ⟨(Nat.le_of_ble_eq_true rfl), (Nat.le_of_ble_eq_true rfl)⟩)) (fun r_8 hw_9 => ?_)
      subst hw_9
      refine lv_icmp_eq (tgt := 40) hx hb d_T_takesWord_35 (by decide) (fun c_10 => ?_) (fun c_10 => ?_)
      · exact absurd c_10 zk_chr
      · refine lv_iconst (v := 0) hx hb d_T_takesWord_38 (by decide) ?_
        exact W.zret (v := 0) hx hb hr rfl (fun t ht hW => ⟨0, rfl, rfl, ht⟩) (fun _ h => by cases h) d_T_takesWord_39
  · exact absurd (by decide) c_1
set_option maxHeartbeats 4000000 in
set_option maxRecDepth 100000 in
theorem c_takesWord_w (l : Launch) (dC : Nat → ClassId) (dI : Nat → Nat → Nat) (adK adV : Nat → Nat) (a_tx : Nat) (iw : Nat) (a_sg : Nat) (hiw : iw < nst) : Met l y_T_takesWord ws_T_takesWord ({ frames := 0, cells := 0, slots := 0, locals := 0 }) (va_Pc [.ref a_tx, .ref (adK iw)] (fun U => zz adK adV (fun _ => False) U ∧ va_P (dC, dI) vwCl [(a_tx, .inr (4, [.ref a_sg, .int 0, .int 0, .int 0]))] U.heap ∧ va_K (dC, dI) vwCl [] U)) (vp_Si (fun r => r = 0)) 0 0 (fun _ => False) := by
  refine Met.ofW (cc := c_T_takesWord) (maxL := 3) (ret := (some .boolean)) (by decide) rfl ?_
  intro p e s m args below meth c s₁ B hml hv
  obtain ⟨rfl, hZ, hP, hK⟩ := hv
  have hx := B.exec
  have hb := B.bytes
  have hr := B.returns
  have hts0 := atoms_spec (ws := ws_T_takesWord) B.pre
  have hts : ∀ w ∈ TT, w.before _ s = true := fun w h => hts0 w (List.mem_cons_of_mem _ h)
  have hown : s.vm.findClass "LoanRules$RuleText" = some m.cls := findClass_of_methodNamed B.named
  have hlocks := B.notSynchronized
  have hS : va_S (fun _ => False) s.heap s.heap [] := va_S.rf
  replace hP : va_P (dC, dI) vwCl [(a_tx, .inr (4, [.ref a_sg, .int 0, .int 0, .int 0]))] s.heap := hP
  have hl := lv_entry ([.ref a_tx, .ref (adK iw)]) (n := 3) (Nat.le_of_ble_eq_true rfl)
  rw [lg_entry_eq]
  generalize (lg_sl ([.ref a_tx, .ref (adK iw)]) ++ List.replicate (3 - (lg_sl ([.ref a_tx, .ref (adK iw)])).length) Slot.unset).toArray = ls at hl ⊢
  replace hl : lv_has ls 3 [(0, .ref a_tx), (1, .ref (adK iw))] := hl
  refine lv_aload_n hx hb d_T_takesWord_0 rfl (lv_at hl 0 rfl) ?_
  refine va_get (D := (dC, dI)) (ci := 4) (v := .int 0) (C := "LoanRules$RuleText") (T := Fz_T) (N := 4) hx hb hts it_T hown hK hP 0 rfl rfl 3 (by decide) (hts _ tw_75) (fun _ h9 => h9) rfl d_T_takesWord_1 ?_
  refine lv_iconst (v := (-1)) hx hb d_T_takesWord_4 (by decide) ?_
  refine lv_icmp_eq (tgt := 10) hx hb d_T_takesWord_5 (by decide) (fun c_1 => ?_) (fun c_1 => ?_)
  · exact absurd c_1 (by decide)
  · refine lv_iconst (v := 0) hx hb d_T_takesWord_8 (by decide) ?_
    exact W.zret (v := 0) hx hb hr rfl (fun t ht hW => ⟨0, rfl, rfl, ht⟩) (fun _ h => by cases h) d_T_takesWord_9
set_option maxHeartbeats 4000000 in
set_option maxRecDepth 100000 in
theorem c_takesWordBehindSpace (l : Launch) (dC : Nat → ClassId) (dI : Nat → Nat → Nat) (adK adV : Nat → Nat) (a_tx : Nat) (iw : Nat) (a_sg : Nat) (hiw : iw < nst) : Met l y_T_takesWordBehindSpace ws_T_takesWordBehindSpace ({ frames := 1, cells := 0, slots := 0, locals := 21 }) (va_Pc [.ref a_tx, .ref (adK iw)] (fun U => zz adK adV (fun _ => False) U ∧ va_P (dC, dI) vwCl [(a_tx, .inr (4, [.ref a_sg, .int 0, .int 0, .int 0]))] U.heap ∧ va_K (dC, dI) vwCl [] U)) (vp_Si (fun r => r = 0)) 0 0 (fun _ => False) := by
  refine Met.ofW (cc := c_T_takesWordBehindSpace) (maxL := 2) (ret := (some .boolean)) (by decide) rfl ?_
  intro p e s m args below meth c s₁ B hml hv
  obtain ⟨rfl, hZ, hP, hK⟩ := hv
  have hx := B.exec
  have hb := B.bytes
  have hr := B.returns
  have hts0 := atoms_spec (ws := ws_T_takesWordBehindSpace) B.pre
  have hts : ∀ w ∈ TT, w.before _ s = true := fun w h => hts0 w (List.mem_cons_of_mem _ h)
  have hown : s.vm.findClass "LoanRules$RuleText" = some m.cls := findClass_of_methodNamed B.named
  have hlocks := B.notSynchronized
  have hS : va_S (fun _ => False) s.heap s.heap [] := va_S.rf
  replace hP : va_P (dC, dI) vwCl [(a_tx, .inr (4, [.ref a_sg, .int 0, .int 0, .int 0]))] s.heap := hP
  have hl := lv_entry ([.ref a_tx, .ref (adK iw)]) (n := 2) (Nat.le_of_ble_eq_true rfl)
  rw [lg_entry_eq]
  generalize (lg_sl ([.ref a_tx, .ref (adK iw)]) ++ List.replicate (2 - (lg_sl ([.ref a_tx, .ref (adK iw)])).length) Slot.unset).toArray = ls at hl ⊢
  replace hl : lv_has ls 2 [(0, .ref a_tx), (1, .ref (adK iw))] := hl
  refine lv_aload_n hx hb d_T_takesWordBehindSpace_0 rfl (lv_at hl 0 rfl) ?_
  refine lv_aload_n hx hb d_T_takesWordBehindSpace_1 rfl (lv_at hl 0 rfl) ?_
  refine va_get (D := (dC, dI)) (ci := 4) (v := .int 0) (C := "LoanRules$RuleText") (T := Fz_T) (N := 4) hx hb hts it_T hown hK hP 0 rfl rfl 2 (by decide) (hts _ tw_74) (fun _ h9 => h9) rfl d_T_takesWordBehindSpace_2 ?_
  have hPc := hP.sub (ws' := [(a_tx, .inr (4, [.ref a_sg, .int 0, .int 0, .int 0]))]) [0] rfl
  have hKc := hK.sub (tys' := []) [] rfl
  refine vp_callSi (va_Run.run (va_runV (As := [.int 0]) (rest := []) ⟨hx, hb, hml, hown, hts⟩ (c_signAt_w l dC dI adK adV (a_tx := a_tx) (p0 := 0) (a_sg := a_sg)) (cwV 1 hts (gV tw_249 tw_251 tw_2 tw_43 tw_252) rfl rfl rfl (by decide +kernel) ⟨(Nat.le_of_ble_eq_true rfl), (Nat.le_of_ble_eq_true rfl)⟩) ⟨fun a U g mk q => by obtain ⟨q0, qZ, qP, qK⟩ := q; exact ⟨q0, zz_call qZ, qP, va_K.moved (u := U) (U := U.calling g mk a) (Vm.Alike.refl U.vm) qK⟩, va_recv hKc hPc (ci := 4) (q0 := 0) rfl rfl, fun U hU hW => ⟨rfl, zz_rr hU hW hZ, by rw [hU]; exact hPc, va_K.moved hW.alike hKc⟩⟩ rfl rfl hl.1 rfl (lv_room (Nat.le_of_ble_eq_true rfl)) d_T_takesWordBehindSpace_5 ⟨(Nat.le_of_ble_eq_true rfl), (Nat.le_of_ble_eq_true rfl)⟩)) (fun r_1 hw_2 => ?_)
  obtain rfl : r_1 = (-1) := hw_2
  refine lv_bipush (v := 32) hx hb d_T_takesWordBehindSpace_8 (by decide) ?_
  refine lv_icmp_eq (tgt := 15) hx hb d_T_takesWordBehindSpace_10 (by decide) (fun c_3 => ?_) (fun c_3 => ?_)
  · exact absurd c_3 (by decide)
  · refine lv_iconst (v := 0) hx hb d_T_takesWordBehindSpace_13 (by decide) ?_
    exact W.zret (v := 0) hx hb hr rfl (fun t ht hW => ⟨0, rfl, rfl, ht⟩) (fun _ h => by cases h) d_T_takesWordBehindSpace_14
set_option maxHeartbeats 4000000 in
set_option maxRecDepth 100000 in
theorem c_readOption (l : Launch) (dC : Nat → ClassId) (dI : Nat → Nat → Nat) (adK adV : Nat → Nat) (a_tx : Nat) (iw : Nat) (p0 : Int32) (a_sg : Nat) (hiw : iw < nst) : Met l y_T_readOption ws_T_readOption ({ frames := 2, cells := 0, slots := 0, locals := 42 }) (va_Pc [.ref a_tx, .ref (adK iw), .int p0] (fun U => zz adK adV (fun _ => False) U ∧ va_P (dC, dI) vwCl [(a_tx, .inr (4, [.ref a_sg, .int 0, .int 0, .int 0]))] U.heap ∧ va_K (dC, dI) vwCl [] U)) (vp_Si (fun r => r = p0)) 0 0 (fun _ => False) := by
  refine Met.ofW (cc := c_T_readOption) (maxL := 3) (ret := (some .int)) (by decide) rfl ?_
  intro p e s m args below meth c s₁ B hml hv
  obtain ⟨rfl, hZ, hP, hK⟩ := hv
  have hx := B.exec
  have hb := B.bytes
  have hr := B.returns
  have hts0 := atoms_spec (ws := ws_T_readOption) B.pre
  have hts : ∀ w ∈ TT, w.before _ s = true := fun w h => hts0 w (List.mem_cons_of_mem _ h)
  have hown : s.vm.findClass "LoanRules$RuleText" = some m.cls := findClass_of_methodNamed B.named
  have hlocks := B.notSynchronized
  have hS : va_S (fun _ => False) s.heap s.heap [] := va_S.rf
  replace hP : va_P (dC, dI) vwCl [(a_tx, .inr (4, [.ref a_sg, .int 0, .int 0, .int 0]))] s.heap := hP
  have hl := lv_entry ([.ref a_tx, .ref (adK iw), .int p0]) (n := 3) (Nat.le_of_ble_eq_true rfl)
  rw [lg_entry_eq]
  generalize (lg_sl ([.ref a_tx, .ref (adK iw), .int p0]) ++ List.replicate (3 - (lg_sl ([.ref a_tx, .ref (adK iw), .int p0])).length) Slot.unset).toArray = ls at hl ⊢
  replace hl : lv_has ls 3 [(0, .ref a_tx), (1, .ref (adK iw)), (2, .int p0)] := hl
  refine lv_aload_n hx hb d_T_readOption_0 rfl (lv_at hl 0 rfl) ?_
  refine lv_aload_n hx hb d_T_readOption_1 rfl (lv_at hl 1 rfl) ?_
  have hPc := hP.sub (ws' := [(a_tx, .inr (4, [.ref a_sg, .int 0, .int 0, .int 0]))]) [0] rfl
  have hKc := hK.sub (tys' := []) [] rfl
  refine vp_callSi (va_Run.run (va_runV (As := [.ref (adK iw)]) (rest := []) ⟨hx, hb, hml, hown, hts⟩ (c_takesWordBehindSpace l dC dI adK adV (a_tx := a_tx) (iw := iw) (a_sg := a_sg) hiw) (cwV 1 hts (gV tw_321 tw_323 tw_8 tw_43 tw_324) rfl rfl rfl (by decide +kernel) ⟨(Nat.le_of_ble_eq_true rfl), (Nat.le_of_ble_eq_true rfl)⟩) ⟨fun a U g mk q => by obtain ⟨q0, qZ, qP, qK⟩ := q; exact ⟨q0, zz_call qZ, qP, va_K.moved (u := U) (U := U.calling g mk a) (Vm.Alike.refl U.vm) qK⟩, va_recv hKc hPc (ci := 4) (q0 := 0) rfl rfl, fun U hU hW => ⟨rfl, zz_rr hU hW hZ, by rw [hU]; exact hPc, va_K.moved hW.alike hKc⟩⟩ rfl rfl hl.1 rfl (lv_room (Nat.le_of_ble_eq_true rfl)) d_T_readOption_2 ⟨(Nat.le_of_ble_eq_true rfl), (Nat.le_of_ble_eq_true rfl)⟩)) (fun r_1 hw_2 => ?_)
  obtain rfl : r_1 = 0 := hw_2
  refine lv_if_eq (tgt := 19) hx hb d_T_readOption_5 (by decide) (fun c_3 => ?_) (fun c_3 => ?_)
  · refine lv_iload_n hx hb d_T_readOption_19 rfl (lv_at hl 2 rfl) ?_
    exact W.iret (v := p0) hx hb hr (fun t ht hW => ⟨p0, rfl, rfl, ht⟩) (fun _ h => by cases h) d_T_readOption_20
  · exact absurd (by decide) c_3
set_option maxHeartbeats 4000000 in
set_option maxRecDepth 100000 in
theorem c_readCondition (l : Launch) (dC : Nat → ClassId) (dI : Nat → Nat → Nat) (adK adV : Nat → Nat) (a_tx : Nat) (iw : Nat) (p0 : Int32) (p1 : Int32) (a_sg : Nat) (hiw : iw < nst) : Met l y_T_readCondition ws_T_readCondition ({ frames := 5, cells := 0, slots := 0, locals := 107 }) (va_Pc [.ref a_tx, .ref (adK iw), .int p0, .int p1] (fun U => zz adK adV (fun _ => False) U ∧ va_P (dC, dI) vwCl [(a_tx, .inr (4, [.ref a_sg, .int 0, .int 0, .int (-1)]))] U.heap ∧ va_K (dC, dI) vwCl [] U)) (vp_Si (fun r => r = (-1))) 0 0 (fun _ => False) := by
  refine Met.ofW (cc := c_T_readCondition) (maxL := 5) (ret := (some .int)) (by decide) rfl ?_
  intro p e s m args below meth c s₁ B hml hv
  obtain ⟨rfl, hZ, hP, hK⟩ := hv
  have hx := B.exec
  have hb := B.bytes
  have hr := B.returns
  have hts0 := atoms_spec (ws := ws_T_readCondition) B.pre
  have hts : ∀ w ∈ TT, w.before _ s = true := fun w h => hts0 w (List.mem_cons_of_mem _ h)
  have hown : s.vm.findClass "LoanRules$RuleText" = some m.cls := findClass_of_methodNamed B.named
  have hlocks := B.notSynchronized
  have hS : va_S (fun _ => False) s.heap s.heap [] := va_S.rf
  replace hP : va_P (dC, dI) vwCl [(a_tx, .inr (4, [.ref a_sg, .int 0, .int 0, .int (-1)]))] s.heap := hP
  have hl := lv_entry ([.ref a_tx, .ref (adK iw), .int p0, .int p1]) (n := 5) (Nat.le_of_ble_eq_true rfl)
  rw [lg_entry_eq]
  generalize (lg_sl ([.ref a_tx, .ref (adK iw), .int p0, .int p1]) ++ List.replicate (5 - (lg_sl ([.ref a_tx, .ref (adK iw), .int p0, .int p1])).length) Slot.unset).toArray = ls at hl ⊢
  replace hl : lv_has ls 5 [(0, .ref a_tx), (1, .ref (adK iw)), (2, .int p0), (3, .int p1)] := hl
  refine lv_aload_n hx hb d_T_readCondition_0 rfl (lv_at hl 0 rfl) ?_
  refine lv_aload_n hx hb d_T_readCondition_1 rfl (lv_at hl 1 rfl) ?_
  have hPc := hP.sub (ws' := [(a_tx, .inr (4, [.ref a_sg, .int 0, .int 0, .int (-1)]))]) [0] rfl
  have hKc := hK.sub (tys' := []) [] rfl
  refine vp_callSi (va_Run.run (va_runV (As := [.ref (adK iw)]) (rest := []) ⟨hx, hb, hml, hown, hts⟩ (c_takesWord l dC dI adK adV (a_tx := a_tx) (iw := iw) (a_sg := a_sg) hiw) (cwV 1 hts (gV tw_235 tw_237 tw_1 tw_43 tw_238) rfl rfl rfl (by decide +kernel) ⟨(Nat.le_of_ble_eq_true rfl), (Nat.le_of_ble_eq_true rfl)⟩) ⟨fun a U g mk q => by obtain ⟨q0, qZ, qP, qK⟩ := q; exact ⟨q0, zz_call qZ, qP, va_K.moved (u := U) (U := U.calling g mk a) (Vm.Alike.refl U.vm) qK⟩, va_recv hKc hPc (ci := 4) (q0 := 0) rfl rfl, fun U hU hW => ⟨rfl, zz_rr hU hW hZ, by rw [hU]; exact hPc, va_K.moved hW.alike hKc⟩⟩ rfl rfl hl.1 rfl (lv_room (Nat.le_of_ble_eq_true rfl)) d_T_readCondition_2 ⟨(Nat.le_of_ble_eq_true rfl), (Nat.le_of_ble_eq_true rfl)⟩)) (fun r_1 hw_2 => ?_)
  obtain rfl : r_1 = 0 := hw_2
  refine lv_if_ne (tgt := 10) hx hb d_T_readCondition_5 (by decide) (fun c_3 => ?_) (fun c_3 => ?_)
  · exact absurd (by decide) c_3
  · refine lv_iconst (v := (-1)) hx hb d_T_readCondition_8 (by decide) ?_
    exact W.iret (v := (-1)) hx hb hr (fun t ht hW => ⟨(-1), rfl, rfl, ht⟩) (fun _ h => by cases h) d_T_readCondition_9
set_option maxHeartbeats 4000000 in
set_option maxRecDepth 100000 in
theorem c_markWrong (l : Launch) (dC : Nat → ClassId) (dI : Nat → Nat → Nat) (adK adV : Nat → Nat) (a_tx : Nat) (p0 : Int32) (a_sg : Nat) (sz : Nat) : Met l y_T_markWrong ws_T_markWrong ({ frames := 0, cells := 0, slots := 0, locals := 0 }) (va_Pc [.ref a_tx, .int p0] (fun U => U.heap.size = sz ∧ zz adK adV (va_A [(a_tx, .inr (4, [.ref a_sg, .int 0, .int 0, .int (-1)]))] sz) U ∧ va_P (dC, dI) vwCl [(a_tx, .inr (4, [.ref a_sg, .int 0, .int 0, .int (-1)]))] U.heap ∧ va_K (dC, dI) vwCl [] U ∧ va_D (fun _ => True) [(a_tx, .inr (4, [.ref a_sg, .int 0, .int 0, .int (-1)]))])) (va_Qv (fun _ : Unit => True) (fun (_ : Unit) (t : State) => va_P (dC, dI) vwCl [(a_tx, .inr (4, [.ref a_sg, .int 0, .int 0, .int p0]))] t.heap ∧ va_K (dC, dI) vwCl [] t ∧ va_D (va_A [(a_tx, .inr (4, [.ref a_sg, .int 0, .int 0, .int (-1)]))] sz) [(a_tx, .inr (4, [.ref a_sg, .int 0, .int 0, .int p0]))]) (va_A [(a_tx, .inr (4, [.ref a_sg, .int 0, .int 0, .int (-1)]))] sz)) 0 0 (va_A [(a_tx, .inr (4, [.ref a_sg, .int 0, .int 0, .int (-1)]))] sz) := by
  refine Met.ofW (cc := c_T_markWrong) (maxL := 2) (ret := none) (by decide) rfl ?_
  intro p e s m args below meth c s₁ B hml hv
  obtain ⟨rfl, hsz, hZ, hP, hK, hD0⟩ := hv
  have hx := B.exec
  have hb := B.bytes
  have hr := B.returns
  have hts0 := atoms_spec (ws := ws_T_markWrong) B.pre
  have hts : ∀ w ∈ TT, w.before _ s = true := fun w h => hts0 w (List.mem_cons_of_mem _ h)
  have hown : s.vm.findClass "LoanRules$RuleText" = some m.cls := findClass_of_methodNamed B.named
  have hlocks := B.notSynchronized
  subst hsz
  have hD := hD0.self (sz := s.heap.size)
  generalize hAe : va_A [(a_tx, .inr (4, [.ref a_sg, .int 0, .int 0, .int (-1)]))] s.heap.size = A at hD hZ ⊢
  have hA : ∀ q : Nat, s.heap.size ≤ q → A q := fun q h => by rw [← hAe]; exact Or.inr h
  clear hAe hD0
  have hS : va_S A s.heap s.heap [] := va_S.rf
  replace hP : va_P (dC, dI) vwCl [(a_tx, .inr (4, [.ref a_sg, .int 0, .int 0, .int (-1)]))] s.heap := hP
  have hl := lv_entry ([.ref a_tx, .int p0]) (n := 2) (Nat.le_of_ble_eq_true rfl)
  rw [lg_entry_eq]
  generalize (lg_sl ([.ref a_tx, .int p0]) ++ List.replicate (2 - (lg_sl ([.ref a_tx, .int p0])).length) Slot.unset).toArray = ls at hl ⊢
  replace hl : lv_has ls 2 [(0, .ref a_tx), (1, .int p0)] := hl
  refine lv_aload_n hx hb d_T_markWrong_0 rfl (lv_at hl 0 rfl) ?_
  refine va_get (D := (dC, dI)) (ci := 4) (v := .int (-1)) (C := "LoanRules$RuleText") (T := Fz_T) (N := 4) hx hb hts it_T hown hK hP 0 rfl rfl 3 (by decide) (hts _ tw_75) (fun _ h9 => h9) rfl d_T_markWrong_1 ?_
  refine lv_iconst (v := (-1)) hx hb d_T_markWrong_4 (by decide) ?_
  refine lv_icmp_ne (tgt := 13) hx hb d_T_markWrong_5 (by decide) (fun c_1 => ?_) (fun c_1 => ?_)
  · exact absurd (by decide) c_1
  · refine lv_aload_n hx hb d_T_markWrong_8 rfl (lv_at hl 0 rfl) ?_
    refine lv_iload_n hx hb d_T_markWrong_9 rfl (lv_at hl 1 rfl) ?_
    refine va_put (D := (dC, dI)) (ci := 4) (v := .int p0) (ty := .int) (C := "LoanRules$RuleText") (T := Fz_T) (N := 4) hx hb hts it_T tz_T tz_T_ok nz_T hown hK hP hD hS 0 rfl rfl 3 (by decide) (hts _ tw_75) (fun _ h9 => h9) rfl (by decide +kernel) rfl rfl (Nat.le_of_ble_eq_true rfl) d_T_markWrong_10 (fun H locs hP hD hS => ?_)
    replace hP : va_P (dC, dI) vwCl [(a_tx, .inr (4, [.ref a_sg, .int 0, .int 0, .int p0]))] H := hP
    replace hD : va_D A [(a_tx, .inr (4, [.ref a_sg, .int 0, .int 0, .int p0]))] := hD
    have hP9 := hP.sub (ws' := [(a_tx, .inr (4, [.ref a_sg, .int 0, .int 0, .int p0]))]) [0] rfl
    have hD9 := hD.sub (ws' := [(a_tx, .inr (4, [.ref a_sg, .int 0, .int 0, .int p0]))]) [0] (by decide) rfl
    have hK9 := hK.sub (tys' := []) [] rfl
    exact W.vret hx hb hr (fun t ht hW => ⟨⟨(), rfl, trivial, by rw [ht]; exact hP9, va_K.moved hW.alike hK9, hD9⟩, hS.F ht⟩) hS.2.2 d_T_markWrong_13
set_option maxHeartbeats 4000000 in
set_option maxRecDepth 100000 in
theorem c_lends (l : Launch) (dC : Nat → ClassId) (dI : Nat → Nat → Nat) (adK adV : Nat → Nat) (a_to : Nat) : Met l y_R_lends ws_R_lends ({ frames := 0, cells := 0, slots := 0, locals := 0 }) (va_Pc [.ref a_to] (fun U => zz adK adV (fun _ => False) U ∧ va_P (dC, dI) vwCl [(a_to, .inr (3, [.int (-1), .int (-1), .int (-1), .int 2, .int 0, .int 0, .int 0, .int 7, .int 0, .int 0, .int 0]))] U.heap ∧ va_K (dC, dI) vwCl [] U)) (vp_Si (fun r => r = 0)) 0 0 (fun _ => False) := by
  refine Met.ofW (cc := c_R_lends) (maxL := 1) (ret := (some .boolean)) (by decide) rfl ?_
  intro p e s m args below meth c s₁ B hml hv
  obtain ⟨rfl, hZ, hP, hK⟩ := hv
  have hx := B.exec
  have hb := B.bytes
  have hr := B.returns
  have hts0 := atoms_spec (ws := ws_R_lends) B.pre
  have hts : ∀ w ∈ TT, w.before _ s = true := fun w h => hts0 w (List.mem_cons_of_mem _ h)
  have hown : s.vm.findClass "LoanRules$Rule" = some m.cls := findClass_of_methodNamed B.named
  have hlocks := B.notSynchronized
  have hS : va_S (fun _ => False) s.heap s.heap [] := va_S.rf
  replace hP : va_P (dC, dI) vwCl [(a_to, .inr (3, [.int (-1), .int (-1), .int (-1), .int 2, .int 0, .int 0, .int 0, .int 7, .int 0, .int 0, .int 0]))] s.heap := hP
  have hl := lv_entry ([.ref a_to]) (n := 1) (Nat.le_of_ble_eq_true rfl)
  rw [lg_entry_eq]
  generalize (lg_sl ([.ref a_to]) ++ List.replicate (1 - (lg_sl ([.ref a_to])).length) Slot.unset).toArray = ls at hl ⊢
  replace hl : lv_has ls 1 [(0, .ref a_to)] := hl
  refine lv_aload_n hx hb d_R_lends_0 rfl (lv_at hl 0 rfl) ?_
  refine va_get (D := (dC, dI)) (ci := 3) (v := .int 2) (C := "LoanRules$Rule") (T := Fz_R) (N := 11) hx hb hts it_R hown hK hP 0 rfl rfl 3 (by decide) (hts _ tw_181) (fun _ h9 => h9) rfl d_R_lends_1 ?_
  refine lv_if_eq (tgt := 15) hx hb d_R_lends_4 (by decide) (fun c_1 => ?_) (fun c_1 => ?_)
  · exact absurd c_1 (by decide)
  · refine lv_aload_n hx hb d_R_lends_7 rfl (lv_at hl 0 rfl) ?_
    refine va_get (D := (dC, dI)) (ci := 3) (v := .int 2) (C := "LoanRules$Rule") (T := Fz_R) (N := 11) hx hb hts it_R hown hK hP 0 rfl rfl 3 (by decide) (hts _ tw_181) (fun _ h9 => h9) rfl d_R_lends_8 ?_
    refine lv_iconst (v := 1) hx hb d_R_lends_11 (by decide) ?_
    refine lv_icmp_ne (tgt := 19) hx hb d_R_lends_12 (by decide) (fun c_2 => ?_) (fun c_2 => ?_)
    · refine lv_iconst (v := 0) hx hb d_R_lends_19 (by decide) ?_
      exact W.zret (v := 0) hx hb hr rfl (fun t ht hW => ⟨0, rfl, rfl, ht⟩) (fun _ h => by cases h) d_R_lends_20
    · exact absurd c_2 (by decide)
set_option maxHeartbeats 4000000 in
set_option maxRecDepth 100000 in
theorem c_readDeed (l : Launch) (dC : Nat → ClassId) (dI : Nat → Nat → Nat) (adK adV : Nat → Nat) (a_tx : Nat) (a_to : Nat) (a_sg : Nat) (sz : Nat) : Met l y_T_readDeed ws_T_readDeed ({ frames := 5, cells := 0, slots := 0, locals := 107 }) (va_Pc [.ref a_tx, .ref a_to] (fun U => U.heap.size = sz ∧ zz adK adV (va_A [(a_tx, .inr (4, [.ref a_sg, .int 0, .int 0, .int (-1)])), (a_to, .inr (3, [.int (-1), .int (-1), .int (-1), .int 2, .int 0, .int 0, .int 0, .int 7, .int 0, .int 0, .int 0]))] sz) U ∧ va_P (dC, dI) vwCl [(a_tx, .inr (4, [.ref a_sg, .int 0, .int 0, .int (-1)])), (a_to, .inr (3, [.int (-1), .int (-1), .int (-1), .int 2, .int 0, .int 0, .int 0, .int 7, .int 0, .int 0, .int 0]))] U.heap ∧ va_K (dC, dI) vwCl [] U ∧ va_D (fun _ => True) [(a_tx, .inr (4, [.ref a_sg, .int 0, .int 0, .int (-1)])), (a_to, .inr (3, [.int (-1), .int (-1), .int (-1), .int 2, .int 0, .int 0, .int 0, .int 7, .int 0, .int 0, .int 0]))])) (va_Qv (fun _ : Unit => True) (fun (_ : Unit) (t : State) => va_P (dC, dI) vwCl [(a_tx, .inr (4, [.ref a_sg, .int 0, .int 0, .int 0])), (a_to, .inr (3, [.int (-1), .int (-1), .int (-1), .int 2, .int 0, .int 0, .int 0, .int 7, .int 0, .int 0, .int 0]))] t.heap ∧ va_K (dC, dI) vwCl [] t ∧ va_D (va_A [(a_tx, .inr (4, [.ref a_sg, .int 0, .int 0, .int (-1)])), (a_to, .inr (3, [.int (-1), .int (-1), .int (-1), .int 2, .int 0, .int 0, .int 0, .int 7, .int 0, .int 0, .int 0]))] sz) [(a_tx, .inr (4, [.ref a_sg, .int 0, .int 0, .int 0])), (a_to, .inr (3, [.int (-1), .int (-1), .int (-1), .int 2, .int 0, .int 0, .int 0, .int 7, .int 0, .int 0, .int 0]))]) (va_A [(a_tx, .inr (4, [.ref a_sg, .int 0, .int 0, .int (-1)])), (a_to, .inr (3, [.int (-1), .int (-1), .int (-1), .int 2, .int 0, .int 0, .int 0, .int 7, .int 0, .int 0, .int 0]))] sz)) 0 0 (va_A [(a_tx, .inr (4, [.ref a_sg, .int 0, .int 0, .int (-1)])), (a_to, .inr (3, [.int (-1), .int (-1), .int (-1), .int 2, .int 0, .int 0, .int 0, .int 7, .int 0, .int 0, .int 0]))] sz) := by
  refine Met.ofW (cc := c_T_readDeed) (maxL := 2) (ret := none) (by decide) rfl ?_
  intro p e s m args below meth c s₁ B hml hv
  obtain ⟨rfl, hsz, hZ, hP, hK, hD0⟩ := hv
  have hx := B.exec
  have hb := B.bytes
  have hr := B.returns
  have hts0 := atoms_spec (ws := ws_T_readDeed) B.pre
  have hts : ∀ w ∈ TT, w.before _ s = true := fun w h => hts0 w (List.mem_cons_of_mem _ h)
  have hown : s.vm.findClass "LoanRules$RuleText" = some m.cls := findClass_of_methodNamed B.named
  have hlocks := B.notSynchronized
  subst hsz
  have hD := hD0.self (sz := s.heap.size)
  generalize hAe : va_A [(a_tx, .inr (4, [.ref a_sg, .int 0, .int 0, .int (-1)])), (a_to, .inr (3, [.int (-1), .int (-1), .int (-1), .int 2, .int 0, .int 0, .int 0, .int 7, .int 0, .int 0, .int 0]))] s.heap.size = A at hD hZ ⊢
  have hA : ∀ q : Nat, s.heap.size ≤ q → A q := fun q h => by rw [← hAe]; exact Or.inr h
  clear hAe hD0
  have hS : va_S A s.heap s.heap [] := va_S.rf
  replace hP : va_P (dC, dI) vwCl [(a_tx, .inr (4, [.ref a_sg, .int 0, .int 0, .int (-1)])), (a_to, .inr (3, [.int (-1), .int (-1), .int (-1), .int 2, .int 0, .int 0, .int 0, .int 7, .int 0, .int 0, .int 0]))] s.heap := hP
  have hl := lv_entry ([.ref a_tx, .ref a_to]) (n := 2) (Nat.le_of_ble_eq_true rfl)
  rw [lg_entry_eq]
  generalize (lg_sl ([.ref a_tx, .ref a_to]) ++ List.replicate (2 - (lg_sl ([.ref a_tx, .ref a_to])).length) Slot.unset).toArray = ls at hl ⊢
  replace hl : lv_has ls 2 [(0, .ref a_tx), (1, .ref a_to)] := hl
  refine lv_aload_n hx hb d_T_readDeed_0 rfl (lv_at hl 0 rfl) ?_
  refine va_ldcS hx hb hown (zs_T_61 hZ) d_T_readDeed_1 ?_
  have hPc := hP.sub (ws' := [(a_tx, .inr (4, [.ref a_sg, .int 0, .int 0, .int (-1)]))]) [0] rfl
  have hKc := hK.sub (tys' := []) [] rfl
  refine vp_callSi (va_Run.run (va_runV (As := [.ref (adK 0)]) (rest := []) ⟨hx, hb, hml, hown, hts⟩ (c_takesWord l dC dI adK adV (a_tx := a_tx) (iw := 0) (a_sg := a_sg) (by decide)) (cwV 1 hts (gV tw_235 tw_237 tw_1 tw_43 tw_238) rfl rfl rfl (by decide +kernel) ⟨(Nat.le_of_ble_eq_true rfl), (Nat.le_of_ble_eq_true rfl)⟩) ⟨fun a U g mk q => by obtain ⟨q0, qZ, qP, qK⟩ := q; exact ⟨q0, zz_call qZ, qP, va_K.moved (u := U) (U := U.calling g mk a) (Vm.Alike.refl U.vm) qK⟩, va_recv hKc hPc (ci := 4) (q0 := 0) rfl rfl, fun U hU hW => ⟨rfl, zz_ro hS hU hW hZ, by rw [hU]; exact hPc, va_K.moved hW.alike hKc⟩⟩ rfl rfl hl.1 rfl (lv_room (Nat.le_of_ble_eq_true rfl)) d_T_readDeed_3 ⟨(Nat.le_of_ble_eq_true rfl), (Nat.le_of_ble_eq_true rfl)⟩)) (fun r_1 hw_2 => ?_)
  obtain rfl : r_1 = 0 := hw_2
  refine lv_if_eq (tgt := 17) hx hb d_T_readDeed_6 (by decide) (fun c_3 => ?_) (fun c_3 => ?_)
  · refine lv_aload_n hx hb d_T_readDeed_17 rfl (lv_at hl 0 rfl) ?_
    refine va_ldcS hx hb hown (zs_T_66 hZ) d_T_readDeed_18 ?_
    have hPc := hP.sub (ws' := [(a_tx, .inr (4, [.ref a_sg, .int 0, .int 0, .int (-1)]))]) [0] rfl
    have hKc := hK.sub (tys' := []) [] rfl
    refine vp_callSi (va_Run.run (va_runV (As := [.ref (adK 1)]) (rest := []) ⟨hx, hb, hml, hown, hts⟩ (c_takesWord l dC dI adK adV (a_tx := a_tx) (iw := 1) (a_sg := a_sg) (by decide)) (cwV 1 hts (gV tw_235 tw_237 tw_1 tw_43 tw_238) rfl rfl rfl (by decide +kernel) ⟨(Nat.le_of_ble_eq_true rfl), (Nat.le_of_ble_eq_true rfl)⟩) ⟨fun a U g mk q => by obtain ⟨q0, qZ, qP, qK⟩ := q; exact ⟨q0, zz_call qZ, qP, va_K.moved (u := U) (U := U.calling g mk a) (Vm.Alike.refl U.vm) qK⟩, va_recv hKc hPc (ci := 4) (q0 := 0) rfl rfl, fun U hU hW => ⟨rfl, zz_ro hS hU hW hZ, by rw [hU]; exact hPc, va_K.moved hW.alike hKc⟩⟩ rfl rfl hl.1 rfl (lv_room (Nat.le_of_ble_eq_true rfl)) d_T_readDeed_20 ⟨(Nat.le_of_ble_eq_true rfl), (Nat.le_of_ble_eq_true rfl)⟩)) (fun r_4 hw_5 => ?_)
    obtain rfl : r_4 = 0 := hw_5
    refine lv_if_eq (tgt := 34) hx hb d_T_readDeed_23 (by decide) (fun c_6 => ?_) (fun c_6 => ?_)
    · refine lv_aload_n hx hb d_T_readDeed_34 rfl (lv_at hl 0 rfl) ?_
      refine va_ldcS hx hb hown (zs_T_71 hZ) d_T_readDeed_35 ?_
      have hPc := hP.sub (ws' := [(a_tx, .inr (4, [.ref a_sg, .int 0, .int 0, .int (-1)]))]) [0] rfl
      have hKc := hK.sub (tys' := []) [] rfl
      refine vp_callSi (va_Run.run (va_runV (As := [.ref (adK 2)]) (rest := []) ⟨hx, hb, hml, hown, hts⟩ (c_takesWord l dC dI adK adV (a_tx := a_tx) (iw := 2) (a_sg := a_sg) (by decide)) (cwV 1 hts (gV tw_235 tw_237 tw_1 tw_43 tw_238) rfl rfl rfl (by decide +kernel) ⟨(Nat.le_of_ble_eq_true rfl), (Nat.le_of_ble_eq_true rfl)⟩) ⟨fun a U g mk q => by obtain ⟨q0, qZ, qP, qK⟩ := q; exact ⟨q0, zz_call qZ, qP, va_K.moved (u := U) (U := U.calling g mk a) (Vm.Alike.refl U.vm) qK⟩, va_recv hKc hPc (ci := 4) (q0 := 0) rfl rfl, fun U hU hW => ⟨rfl, zz_ro hS hU hW hZ, by rw [hU]; exact hPc, va_K.moved hW.alike hKc⟩⟩ rfl rfl hl.1 rfl (lv_room (Nat.le_of_ble_eq_true rfl)) d_T_readDeed_37 ⟨(Nat.le_of_ble_eq_true rfl), (Nat.le_of_ble_eq_true rfl)⟩)) (fun r_7 hw_8 => ?_)
      obtain rfl : r_7 = 0 := hw_8
      refine lv_if_eq (tgt := 51) hx hb d_T_readDeed_40 (by decide) (fun c_9 => ?_) (fun c_9 => ?_)
      · refine lv_aload_n hx hb d_T_readDeed_51 rfl (lv_at hl 0 rfl) ?_
        refine lv_aload_n hx hb d_T_readDeed_52 rfl (lv_at hl 0 rfl) ?_
        refine va_get (D := (dC, dI)) (ci := 4) (v := .int 0) (C := "LoanRules$RuleText") (T := Fz_T) (N := 4) hx hb hts it_T hown hK hP 0 rfl rfl 2 (by decide) (hts _ tw_74) (fun _ h9 => h9) rfl d_T_readDeed_53 ?_
        have hPc := hP.sub (ws' := [(a_tx, .inr (4, [.ref a_sg, .int 0, .int 0, .int (-1)]))]) [0] rfl
        have hKc := hK.sub (tys' := []) [] rfl
        have hDc := hD.sub (ws' := [(a_tx, .inr (4, [.ref a_sg, .int 0, .int 0, .int (-1)]))]) [0] (by decide) rfl
        have hFc := va_free (wc := [(a_tx, .inr (4, [.ref a_sg, .int 0, .int 0, .int (-1)]))]) hD hS hA [0] rfl
        refine va_callv (va_runV (As := [.int 0]) (rest := []) ⟨hx, hb, hml, hown, hts⟩ (c_markWrong l dC dI adK adV (a_tx := a_tx) (p0 := 0) (a_sg := a_sg) (sz := s.heap.size)) (cwV 1 hts (gV tw_302 tw_304 tw_5 tw_43 tw_305) rfl rfl rfl (by decide +kernel) ⟨(Nat.le_of_ble_eq_true rfl), (Nat.le_of_ble_eq_true rfl)⟩) ⟨fun a U g mk q => by obtain ⟨q0, q1, qZ, qP, qK, qD⟩ := q; exact ⟨q0, q1, zz_call qZ, qP, va_K.moved (u := U) (U := U.calling g mk a) (Vm.Alike.refl U.vm) qK, qD⟩, va_recv hKc hPc (ci := 4) (q0 := 0) rfl rfl, fun U hU hW => ⟨rfl, by rw [hU], zz_rw hS hFc hU hW hZ, by rw [hU]; exact hPc, va_K.moved hW.alike hKc, hDc.weaken (fun _ _ _ _ => trivial)⟩⟩ rfl rfl hl.1 rfl (lv_room (Nat.le_of_ble_eq_true rfl)) d_T_readDeed_56 ⟨(Nat.le_of_ble_eq_true rfl), (Nat.le_of_ble_eq_true rfl)⟩) hS (fun q _ h => hFc q h) hFc (fun u t H1 locs ht hvm hw_10 hB hz1 hk1 hS => ?_)
        obtain ⟨hP1, hK1, hD1⟩ := hB
        rw [ht] at hP1
        have hK1 := va_K.moved hvm.symm hK1
        obtain ⟨hP, hD⟩ := va_join (wr := [(a_to, .inr (3, [.int (-1), .int (-1), .int (-1), .int 2, .int 0, .int 0, .int 0, .int 7, .int 0, .int 0, .int 0]))]) (w1 := [(a_tx, .inr (4, [.ref a_sg, .int 0, .int 0, .int 0]))]) hP hD [0] [1] rfl rfl (by decide) (by decide) hk1 hFc hP1 hD1
        have hK := (hK.sub (tys' := []) [] rfl).app hK1
        generalize H1 = H at hP hS ⊢
        replace hP : va_P (dC, dI) vwCl [(a_to, .inr (3, [.int (-1), .int (-1), .int (-1), .int 2, .int 0, .int 0, .int 0, .int 7, .int 0, .int 0, .int 0])), (a_tx, .inr (4, [.ref a_sg, .int 0, .int 0, .int 0]))] H := hP
        replace hD : va_D A [(a_to, .inr (3, [.int (-1), .int (-1), .int (-1), .int 2, .int 0, .int 0, .int 0, .int 7, .int 0, .int 0, .int 0])), (a_tx, .inr (4, [.ref a_sg, .int 0, .int 0, .int 0]))] := hD
        replace hK : va_K (dC, dI) vwCl [] s := hK
        have hP9 := hP.sub (ws' := [(a_tx, .inr (4, [.ref a_sg, .int 0, .int 0, .int 0])), (a_to, .inr (3, [.int (-1), .int (-1), .int (-1), .int 2, .int 0, .int 0, .int 0, .int 7, .int 0, .int 0, .int 0]))]) [1, 0] rfl
        have hD9 := hD.sub (ws' := [(a_tx, .inr (4, [.ref a_sg, .int 0, .int 0, .int 0])), (a_to, .inr (3, [.int (-1), .int (-1), .int (-1), .int 2, .int 0, .int 0, .int 0, .int 7, .int 0, .int 0, .int 0]))]) [1, 0] (by decide) rfl
        have hK9 := hK.sub (tys' := []) [] rfl
        exact W.vret hx hb hr (fun t ht hW => ⟨⟨(), rfl, trivial, by rw [ht]; exact hP9, va_K.moved hW.alike hK9, hD9⟩, hS.F ht⟩) hS.2.2 d_T_readDeed_59
      · exact absurd (by decide) c_9
    · exact absurd (by decide) c_6
  · exact absurd (by decide) c_3
set_option maxHeartbeats 4000000 in
set_option maxRecDepth 100000 in
theorem c_readRest (l : Launch) (dC : Nat → ClassId) (dI : Nat → Nat → Nat) (adK adV : Nat → Nat) (a_tx : Nat) (a_to : Nat) (a_sg : Nat) (sz : Nat) : Met l y_T_readRest ws_T_readRest ({ frames := 3, cells := 0, slots := 0, locals := 64 }) (va_Pc [.ref a_tx, .ref a_to] (fun U => U.heap.size = sz ∧ zz adK adV (va_A [(a_tx, .inr (4, [.ref a_sg, .int 0, .int 0, .int 0])), (a_to, .inr (3, [.int (-1), .int (-1), .int (-1), .int 2, .int 0, .int 0, .int 0, .int 7, .int 0, .int 0, .int 0]))] sz) U ∧ va_P (dC, dI) vwCl [(a_tx, .inr (4, [.ref a_sg, .int 0, .int 0, .int 0])), (a_to, .inr (3, [.int (-1), .int (-1), .int (-1), .int 2, .int 0, .int 0, .int 0, .int 7, .int 0, .int 0, .int 0]))] U.heap ∧ va_K (dC, dI) vwCl [] U ∧ va_D (fun _ => True) [(a_tx, .inr (4, [.ref a_sg, .int 0, .int 0, .int 0])), (a_to, .inr (3, [.int (-1), .int (-1), .int (-1), .int 2, .int 0, .int 0, .int 0, .int 7, .int 0, .int 0, .int 0]))])) (va_Qv (fun _ : Unit => True) (fun (_ : Unit) (t : State) => va_P (dC, dI) vwCl [(a_tx, .inr (4, [.ref a_sg, .int 0, .int 0, .int 0])), (a_to, .inr (3, [.int (-1), .int (-1), .int (-1), .int 2, .int 0, .int 0, .int 0, .int 7, .int 0, .int 0, .int 0]))] t.heap ∧ va_K (dC, dI) vwCl [] t ∧ va_D (va_A [(a_tx, .inr (4, [.ref a_sg, .int 0, .int 0, .int 0])), (a_to, .inr (3, [.int (-1), .int (-1), .int (-1), .int 2, .int 0, .int 0, .int 0, .int 7, .int 0, .int 0, .int 0]))] sz) [(a_tx, .inr (4, [.ref a_sg, .int 0, .int 0, .int 0])), (a_to, .inr (3, [.int (-1), .int (-1), .int (-1), .int 2, .int 0, .int 0, .int 0, .int 7, .int 0, .int 0, .int 0]))]) (va_A [(a_tx, .inr (4, [.ref a_sg, .int 0, .int 0, .int 0])), (a_to, .inr (3, [.int (-1), .int (-1), .int (-1), .int 2, .int 0, .int 0, .int 0, .int 7, .int 0, .int 0, .int 0]))] sz)) 0 0 (va_A [(a_tx, .inr (4, [.ref a_sg, .int 0, .int 0, .int 0])), (a_to, .inr (3, [.int (-1), .int (-1), .int (-1), .int 2, .int 0, .int 0, .int 0, .int 7, .int 0, .int 0, .int 0]))] sz) := by
  refine Met.ofW (cc := c_T_readRest) (maxL := 2) (ret := none) (by decide) rfl ?_
  intro p e s m args below meth c s₁ B hml hv
  obtain ⟨rfl, hsz, hZ, hP, hK, hD0⟩ := hv
  have hx := B.exec
  have hb := B.bytes
  have hr := B.returns
  have hts0 := atoms_spec (ws := ws_T_readRest) B.pre
  have hts : ∀ w ∈ TT, w.before _ s = true := fun w h => hts0 w (List.mem_cons_of_mem _ h)
  have hown : s.vm.findClass "LoanRules$RuleText" = some m.cls := findClass_of_methodNamed B.named
  have hlocks := B.notSynchronized
  subst hsz
  have hD := hD0.self (sz := s.heap.size)
  generalize hAe : va_A [(a_tx, .inr (4, [.ref a_sg, .int 0, .int 0, .int 0])), (a_to, .inr (3, [.int (-1), .int (-1), .int (-1), .int 2, .int 0, .int 0, .int 0, .int 7, .int 0, .int 0, .int 0]))] s.heap.size = A at hD hZ ⊢
  have hA : ∀ q : Nat, s.heap.size ≤ q → A q := fun q h => by rw [← hAe]; exact Or.inr h
  clear hAe hD0
  have hS : va_S A s.heap s.heap [] := va_S.rf
  replace hP : va_P (dC, dI) vwCl [(a_tx, .inr (4, [.ref a_sg, .int 0, .int 0, .int 0])), (a_to, .inr (3, [.int (-1), .int (-1), .int (-1), .int 2, .int 0, .int 0, .int 0, .int 7, .int 0, .int 0, .int 0]))] s.heap := hP
  have hl := lv_entry ([.ref a_tx, .ref a_to]) (n := 2) (Nat.le_of_ble_eq_true rfl)
  rw [lg_entry_eq]
  generalize (lg_sl ([.ref a_tx, .ref a_to]) ++ List.replicate (2 - (lg_sl ([.ref a_tx, .ref a_to])).length) Slot.unset).toArray = ls at hl ⊢
  replace hl : lv_has ls 2 [(0, .ref a_tx), (1, .ref a_to)] := hl
  refine lv_aload_n hx hb d_T_readRest_0 rfl (lv_at hl 1 rfl) ?_
  have hPc := hP.sub (ws' := [(a_to, .inr (3, [.int (-1), .int (-1), .int (-1), .int 2, .int 0, .int 0, .int 0, .int 7, .int 0, .int 0, .int 0]))]) [1] rfl
  have hKc := hK.sub (tys' := []) [] rfl
  refine vp_callSi (va_Run.run (va_runV (As := []) (rest := []) ⟨hx, hb, hml, hown, hts⟩ (c_lends l dC dI adK adV (a_to := a_to)) (cwV 0 hts (gV tw_331 tw_332 tw_333 tw_47 tw_334) rfl rfl rfl (by decide +kernel) ⟨(Nat.le_of_ble_eq_true rfl), (Nat.le_of_ble_eq_true rfl)⟩) ⟨fun a U g mk q => by obtain ⟨q0, qZ, qP, qK⟩ := q; exact ⟨q0, zz_call qZ, qP, va_K.moved (u := U) (U := U.calling g mk a) (Vm.Alike.refl U.vm) qK⟩, va_recv hKc hPc (ci := 3) (q0 := 0) rfl rfl, fun U hU hW => ⟨rfl, zz_ro hS hU hW hZ, by rw [hU]; exact hPc, va_K.moved hW.alike hKc⟩⟩ rfl rfl hl.1 rfl (lv_room (Nat.le_of_ble_eq_true rfl)) d_T_readRest_1 ⟨(Nat.le_of_ble_eq_true rfl), (Nat.le_of_ble_eq_true rfl)⟩)) (fun r_1 hw_2 => ?_)
  obtain rfl : r_1 = 0 := hw_2
  refine lv_if_eq (tgt := 49) hx hb d_T_readRest_4 (by decide) (fun c_3 => ?_) (fun c_3 => ?_)
  · refine lv_aload_n hx hb d_T_readRest_49 rfl (lv_at hl 1 rfl) ?_
    refine lv_aload_n hx hb d_T_readRest_50 rfl (lv_at hl 0 rfl) ?_
    refine va_ldcS hx hb hown (zs_T_107 hZ) d_T_readRest_51 ?_
    refine lv_aload_n hx hb d_T_readRest_53 rfl (lv_at hl 1 rfl) ?_
    refine va_get (D := (dC, dI)) (ci := 3) (v := .int 0) (C := "LoanRules$Rule") (T := Fz_R) (N := 11) hx hb hts it_R hown hK hP 1 rfl rfl 8 (by decide) (hts _ tw_197) (fun _ h9 => h9) rfl d_T_readRest_54 ?_
    have hPc := hP.sub (ws' := [(a_tx, .inr (4, [.ref a_sg, .int 0, .int 0, .int 0]))]) [0] rfl
    have hKc := hK.sub (tys' := []) [] rfl
    refine vp_callSi (va_Run.run (va_runV (As := [.ref (adK 3), .int 0]) (rest := [.ref a_to]) ⟨hx, hb, hml, hown, hts⟩ (c_readOption l dC dI adK adV (a_tx := a_tx) (iw := 3) (p0 := 0) (a_sg := a_sg) (by decide)) (cwV 2 hts (gV tw_336 tw_338 tw_10 tw_43 tw_339) rfl rfl rfl (by decide +kernel) ⟨(Nat.le_of_ble_eq_true rfl), (Nat.le_of_ble_eq_true rfl)⟩) ⟨fun a U g mk q => by obtain ⟨q0, qZ, qP, qK⟩ := q; exact ⟨q0, zz_call qZ, qP, va_K.moved (u := U) (U := U.calling g mk a) (Vm.Alike.refl U.vm) qK⟩, va_recv hKc hPc (ci := 4) (q0 := 0) rfl rfl, fun U hU hW => ⟨rfl, zz_ro hS hU hW hZ, by rw [hU]; exact hPc, va_K.moved hW.alike hKc⟩⟩ rfl rfl hl.1 rfl (lv_room (Nat.le_of_ble_eq_true rfl)) d_T_readRest_57 ⟨(Nat.le_of_ble_eq_true rfl), (Nat.le_of_ble_eq_true rfl)⟩)) (fun r_4 hw_5 => ?_)
    obtain rfl : r_4 = 0 := hw_5.trans (by decide)
    refine va_put (D := (dC, dI)) (ci := 3) (v := .int 0) (ty := .int) (C := "LoanRules$Rule") (T := Fz_R) (N := 11) hx hb hts it_R tz_R tz_R_ok nz_R hown hK hP hD hS 1 rfl rfl 8 (by decide) (hts _ tw_197) (fun _ h9 => h9) rfl (by decide +kernel) rfl rfl (Nat.le_of_ble_eq_true rfl) d_T_readRest_60 (fun H locs hP hD hS => ?_)
    replace hP : va_P (dC, dI) vwCl [(a_tx, .inr (4, [.ref a_sg, .int 0, .int 0, .int 0])), (a_to, .inr (3, [.int (-1), .int (-1), .int (-1), .int 2, .int 0, .int 0, .int 0, .int 7, .int 0, .int 0, .int 0]))] H := hP
    replace hD : va_D A [(a_tx, .inr (4, [.ref a_sg, .int 0, .int 0, .int 0])), (a_to, .inr (3, [.int (-1), .int (-1), .int (-1), .int 2, .int 0, .int 0, .int 0, .int 7, .int 0, .int 0, .int 0]))] := hD
    refine lv_aload_n hx hb d_T_readRest_63 rfl (lv_at hl 0 rfl) ?_
    refine lv_aload_n hx hb d_T_readRest_64 rfl (lv_at hl 0 rfl) ?_
    refine va_get (D := (dC, dI)) (ci := 4) (v := .int 0) (C := "LoanRules$RuleText") (T := Fz_T) (N := 4) hx hb hts it_T hown hK hP 0 rfl rfl 2 (by decide) (hts _ tw_74) (fun _ h9 => h9) rfl d_T_readRest_65 ?_
    have hPc := hP.sub (ws' := [(a_tx, .inr (4, [.ref a_sg, .int 0, .int 0, .int 0]))]) [0] rfl
    have hKc := hK.sub (tys' := []) [] rfl
    refine vp_callSi (va_Run.run (va_runV (As := [.int 0]) (rest := []) ⟨hx, hb, hml, hown, hts⟩ (c_signAt_w l dC dI adK adV (a_tx := a_tx) (p0 := 0) (a_sg := a_sg)) (cwV 1 hts (gV tw_249 tw_251 tw_2 tw_43 tw_252) rfl rfl rfl (by decide +kernel) ⟨(Nat.le_of_ble_eq_true rfl), (Nat.le_of_ble_eq_true rfl)⟩) ⟨fun a U g mk q => by obtain ⟨q0, qZ, qP, qK⟩ := q; exact ⟨q0, zz_call qZ, qP, va_K.moved (u := U) (U := U.calling g mk a) (Vm.Alike.refl U.vm) qK⟩, va_recv hKc hPc (ci := 4) (q0 := 0) rfl rfl, fun U hU hW => ⟨rfl, zz_ro hS hU hW hZ, by rw [hU]; exact hPc, va_K.moved hW.alike hKc⟩⟩ rfl rfl hl.1 rfl (lv_room (Nat.le_of_ble_eq_true rfl)) d_T_readRest_68 ⟨(Nat.le_of_ble_eq_true rfl), (Nat.le_of_ble_eq_true rfl)⟩)) (fun r_6 hw_7 => ?_)
    obtain rfl : r_6 = (-1) := hw_7
    refine lv_iconst (v := (-1)) hx hb d_T_readRest_71 (by decide) ?_
    refine lv_icmp_eq (tgt := 87) hx hb d_T_readRest_72 (by decide) (fun c_8 => ?_) (fun c_8 => ?_)
    · have hP9 := hP.sub (ws' := [(a_tx, .inr (4, [.ref a_sg, .int 0, .int 0, .int 0])), (a_to, .inr (3, [.int (-1), .int (-1), .int (-1), .int 2, .int 0, .int 0, .int 0, .int 7, .int 0, .int 0, .int 0]))]) [0, 1] rfl
      have hD9 := hD.sub (ws' := [(a_tx, .inr (4, [.ref a_sg, .int 0, .int 0, .int 0])), (a_to, .inr (3, [.int (-1), .int (-1), .int (-1), .int 2, .int 0, .int 0, .int 0, .int 7, .int 0, .int 0, .int 0]))]) [0, 1] (by decide) rfl
      have hK9 := hK.sub (tys' := []) [] rfl
      exact W.vret hx hb hr (fun t ht hW => ⟨⟨(), rfl, trivial, by rw [ht]; exact hP9, va_K.moved hW.alike hK9, hD9⟩, hS.F ht⟩) hS.2.2 d_T_readRest_87
    · exact absurd (by decide) c_8
  · exact absurd (by decide) c_3
set_option maxHeartbeats 4000000 in
set_option maxRecDepth 100000 in
theorem c_readInto (l : Launch) (dC : Nat → ClassId) (dI : Nat → Nat → Nat) (adK adV : Nat → Nat) (a_tx : Nat) (a_to : Nat) (a_sg : Nat) (sz : Nat) : Met l y_T_readInto ws_T_readInto ({ frames := 6, cells := 0, slots := 0, locals := 131 }) (va_Pc [.ref a_tx, .ref a_to] (fun U => U.heap.size = sz ∧ zz adK adV (va_A [(a_tx, .inr (4, [.ref a_sg, .int 0, .int 0, .int (-1)])), (a_to, .inr (3, [.int (-1), .int (-1), .int (-1), .int 2, .int 0, .int 0, .int 0, .int 7, .int 0, .int 0, .int 0]))] sz) U ∧ va_P (dC, dI) vwCl [(a_tx, .inr (4, [.ref a_sg, .int 0, .int 0, .int (-1)])), (a_to, .inr (3, [.int (-1), .int (-1), .int (-1), .int 2, .int 0, .int 0, .int 0, .int 7, .int 0, .int 0, .int 0]))] U.heap ∧ va_K (dC, dI) vwCl [] U ∧ va_D (fun _ => True) [(a_tx, .inr (4, [.ref a_sg, .int 0, .int 0, .int (-1)])), (a_to, .inr (3, [.int (-1), .int (-1), .int (-1), .int 2, .int 0, .int 0, .int 0, .int 7, .int 0, .int 0, .int 0]))])) (va_Qi (fun (r : Int32) (_ : Unit) => r = 0) (fun (_ : Unit) (t : State) => va_P (dC, dI) vwCl [(a_tx, .inr (4, [.ref a_sg, .int 0, .int 0, .int 0]))] t.heap ∧ va_K (dC, dI) vwCl [] t ∧ va_D (va_A [(a_tx, .inr (4, [.ref a_sg, .int 0, .int 0, .int (-1)])), (a_to, .inr (3, [.int (-1), .int (-1), .int (-1), .int 2, .int 0, .int 0, .int 0, .int 7, .int 0, .int 0, .int 0]))] sz) [(a_tx, .inr (4, [.ref a_sg, .int 0, .int 0, .int 0]))]) (va_A [(a_tx, .inr (4, [.ref a_sg, .int 0, .int 0, .int (-1)])), (a_to, .inr (3, [.int (-1), .int (-1), .int (-1), .int 2, .int 0, .int 0, .int 0, .int 7, .int 0, .int 0, .int 0]))] sz)) 0 0 (va_A [(a_tx, .inr (4, [.ref a_sg, .int 0, .int 0, .int (-1)])), (a_to, .inr (3, [.int (-1), .int (-1), .int (-1), .int 2, .int 0, .int 0, .int 0, .int 7, .int 0, .int 0, .int 0]))] sz) := by
  refine Met.ofW (cc := c_T_readInto) (maxL := 2) (ret := (some .int)) (by decide) rfl ?_
  intro p e s m args below meth c s₁ B hml hv
  obtain ⟨rfl, hsz, hZ, hP, hK, hD0⟩ := hv
  have hx := B.exec
  have hb := B.bytes
  have hr := B.returns
  have hts0 := atoms_spec (ws := ws_T_readInto) B.pre
  have hts : ∀ w ∈ TT, w.before _ s = true := fun w h => hts0 w (List.mem_cons_of_mem _ h)
  have hown : s.vm.findClass "LoanRules$RuleText" = some m.cls := findClass_of_methodNamed B.named
  have hlocks := B.notSynchronized
  subst hsz
  have hD := hD0.self (sz := s.heap.size)
  generalize hAe : va_A [(a_tx, .inr (4, [.ref a_sg, .int 0, .int 0, .int (-1)])), (a_to, .inr (3, [.int (-1), .int (-1), .int (-1), .int 2, .int 0, .int 0, .int 0, .int 7, .int 0, .int 0, .int 0]))] s.heap.size = A at hD hZ ⊢
  have hA : ∀ q : Nat, s.heap.size ≤ q → A q := fun q h => by rw [← hAe]; exact Or.inr h
  clear hAe hD0
  have hS : va_S A s.heap s.heap [] := va_S.rf
  replace hP : va_P (dC, dI) vwCl [(a_tx, .inr (4, [.ref a_sg, .int 0, .int 0, .int (-1)])), (a_to, .inr (3, [.int (-1), .int (-1), .int (-1), .int 2, .int 0, .int 0, .int 0, .int 7, .int 0, .int 0, .int 0]))] s.heap := hP
  have hl := lv_entry ([.ref a_tx, .ref a_to]) (n := 2) (Nat.le_of_ble_eq_true rfl)
  rw [lg_entry_eq]
  generalize (lg_sl ([.ref a_tx, .ref a_to]) ++ List.replicate (2 - (lg_sl ([.ref a_tx, .ref a_to])).length) Slot.unset).toArray = ls at hl ⊢
  replace hl : lv_has ls 2 [(0, .ref a_tx), (1, .ref a_to)] := hl
  refine lv_aload_n hx hb d_T_readInto_0 rfl (lv_at hl 0 rfl) ?_
  refine lv_iconst (v := 0) hx hb d_T_readInto_1 (by decide) ?_
  refine va_put (D := (dC, dI)) (ci := 4) (v := .int 0) (ty := .int) (C := "LoanRules$RuleText") (T := Fz_T) (N := 4) hx hb hts it_T tz_T tz_T_ok nz_T hown hK hP hD hS 0 rfl rfl 2 (by decide) (hts _ tw_74) (fun _ h9 => h9) rfl (by decide +kernel) rfl rfl (Nat.le_of_ble_eq_true rfl) d_T_readInto_2 (fun H locs hP hD hS => ?_)
  replace hP : va_P (dC, dI) vwCl [(a_tx, .inr (4, [.ref a_sg, .int 0, .int 0, .int (-1)])), (a_to, .inr (3, [.int (-1), .int (-1), .int (-1), .int 2, .int 0, .int 0, .int 0, .int 7, .int 0, .int 0, .int 0]))] H := hP
  replace hD : va_D A [(a_tx, .inr (4, [.ref a_sg, .int 0, .int 0, .int (-1)])), (a_to, .inr (3, [.int (-1), .int (-1), .int (-1), .int 2, .int 0, .int 0, .int 0, .int 7, .int 0, .int 0, .int 0]))] := hD
  refine lv_aload_n hx hb d_T_readInto_5 rfl (lv_at hl 0 rfl) ?_
  refine lv_iconst (v := (-1)) hx hb d_T_readInto_6 (by decide) ?_
  refine va_put (D := (dC, dI)) (ci := 4) (v := .int (-1)) (ty := .int) (C := "LoanRules$RuleText") (T := Fz_T) (N := 4) hx hb hts it_T tz_T tz_T_ok nz_T hown hK hP hD hS 0 rfl rfl 3 (by decide) (hts _ tw_75) (fun _ h9 => h9) rfl (by decide +kernel) rfl rfl (Nat.le_of_ble_eq_true rfl) d_T_readInto_7 (fun H locs hP hD hS => ?_)
  replace hP : va_P (dC, dI) vwCl [(a_tx, .inr (4, [.ref a_sg, .int 0, .int 0, .int (-1)])), (a_to, .inr (3, [.int (-1), .int (-1), .int (-1), .int 2, .int 0, .int 0, .int 0, .int 7, .int 0, .int 0, .int 0]))] H := hP
  replace hD : va_D A [(a_tx, .inr (4, [.ref a_sg, .int 0, .int 0, .int (-1)])), (a_to, .inr (3, [.int (-1), .int (-1), .int (-1), .int 2, .int 0, .int 0, .int 0, .int 7, .int 0, .int 0, .int 0]))] := hD
  refine lv_aload_n hx hb d_T_readInto_10 rfl (lv_at hl 1 rfl) ?_
  refine lv_aload_n hx hb d_T_readInto_11 rfl (lv_at hl 0 rfl) ?_
  refine va_ldcS hx hb hown (zs_T_25 hZ) d_T_readInto_12 ?_
  refine lv_iconst (v := 1) hx hb d_T_readInto_14 (by decide) ?_
  refine lv_bipush (v := 9) hx hb d_T_readInto_15 (by decide) ?_
  have hPc := hP.sub (ws' := [(a_tx, .inr (4, [.ref a_sg, .int 0, .int 0, .int (-1)]))]) [0] rfl
  have hKc := hK.sub (tys' := []) [] rfl
  refine vp_callSi (va_Run.run (va_runV (As := [.ref (adK 4), .int 1, .int 9]) (rest := [.ref a_to]) ⟨hx, hb, hml, hown, hts⟩ (c_readCondition l dC dI adK adV (a_tx := a_tx) (iw := 4) (p0 := 1) (p1 := 9) (a_sg := a_sg) (by decide)) (cwV 3 hts (gV tw_231 tw_233 tw_0 tw_43 tw_234) rfl rfl rfl (by decide +kernel) ⟨(Nat.le_of_ble_eq_true rfl), (Nat.le_of_ble_eq_true rfl)⟩) ⟨fun a U g mk q => by obtain ⟨q0, qZ, qP, qK⟩ := q; exact ⟨q0, zz_call qZ, qP, va_K.moved (u := U) (U := U.calling g mk a) (Vm.Alike.refl U.vm) qK⟩, va_recv hKc hPc (ci := 4) (q0 := 0) rfl rfl, fun U hU hW => ⟨rfl, zz_ro hS hU hW hZ, by rw [hU]; exact hPc, va_K.moved hW.alike hKc⟩⟩ rfl rfl hl.1 rfl (lv_room (Nat.le_of_ble_eq_true rfl)) d_T_readInto_17 ⟨(Nat.le_of_ble_eq_true rfl), (Nat.le_of_ble_eq_true rfl)⟩)) (fun r_1 hw_2 => ?_)
  obtain rfl : r_1 = (-1) := hw_2
  refine va_put (D := (dC, dI)) (ci := 3) (v := .int (-1)) (ty := .int) (C := "LoanRules$Rule") (T := Fz_R) (N := 11) hx hb hts it_R tz_R tz_R_ok nz_R hown hK hP hD hS 1 rfl rfl 0 (by decide) (hts _ tw_173) (fun _ h9 => h9) rfl (by decide +kernel) rfl rfl (Nat.le_of_ble_eq_true rfl) d_T_readInto_20 (fun H locs hP hD hS => ?_)
  replace hP : va_P (dC, dI) vwCl [(a_tx, .inr (4, [.ref a_sg, .int 0, .int 0, .int (-1)])), (a_to, .inr (3, [.int (-1), .int (-1), .int (-1), .int 2, .int 0, .int 0, .int 0, .int 7, .int 0, .int 0, .int 0]))] H := hP
  replace hD : va_D A [(a_tx, .inr (4, [.ref a_sg, .int 0, .int 0, .int (-1)])), (a_to, .inr (3, [.int (-1), .int (-1), .int (-1), .int 2, .int 0, .int 0, .int 0, .int 7, .int 0, .int 0, .int 0]))] := hD
  refine lv_aload_n hx hb d_T_readInto_23 rfl (lv_at hl 1 rfl) ?_
  refine lv_aload_n hx hb d_T_readInto_24 rfl (lv_at hl 0 rfl) ?_
  refine va_ldcS hx hb hown (zs_T_35 hZ) d_T_readInto_25 ?_
  refine lv_iconst (v := 1) hx hb d_T_readInto_27 (by decide) ?_
  refine lv_bipush (v := 9) hx hb d_T_readInto_28 (by decide) ?_
  have hPc := hP.sub (ws' := [(a_tx, .inr (4, [.ref a_sg, .int 0, .int 0, .int (-1)]))]) [0] rfl
  have hKc := hK.sub (tys' := []) [] rfl
  refine vp_callSi (va_Run.run (va_runV (As := [.ref (adK 5), .int 1, .int 9]) (rest := [.ref a_to]) ⟨hx, hb, hml, hown, hts⟩ (c_readCondition l dC dI adK adV (a_tx := a_tx) (iw := 5) (p0 := 1) (p1 := 9) (a_sg := a_sg) (by decide)) (cwV 3 hts (gV tw_231 tw_233 tw_0 tw_43 tw_234) rfl rfl rfl (by decide +kernel) ⟨(Nat.le_of_ble_eq_true rfl), (Nat.le_of_ble_eq_true rfl)⟩) ⟨fun a U g mk q => by obtain ⟨q0, qZ, qP, qK⟩ := q; exact ⟨q0, zz_call qZ, qP, va_K.moved (u := U) (U := U.calling g mk a) (Vm.Alike.refl U.vm) qK⟩, va_recv hKc hPc (ci := 4) (q0 := 0) rfl rfl, fun U hU hW => ⟨rfl, zz_ro hS hU hW hZ, by rw [hU]; exact hPc, va_K.moved hW.alike hKc⟩⟩ rfl rfl hl.1 rfl (lv_room (Nat.le_of_ble_eq_true rfl)) d_T_readInto_30 ⟨(Nat.le_of_ble_eq_true rfl), (Nat.le_of_ble_eq_true rfl)⟩)) (fun r_3 hw_4 => ?_)
  obtain rfl : r_3 = (-1) := hw_4
  refine va_put (D := (dC, dI)) (ci := 3) (v := .int (-1)) (ty := .int) (C := "LoanRules$Rule") (T := Fz_R) (N := 11) hx hb hts it_R tz_R tz_R_ok nz_R hown hK hP hD hS 1 rfl rfl 1 (by decide) (hts _ tw_176) (fun _ h9 => h9) rfl (by decide +kernel) rfl rfl (Nat.le_of_ble_eq_true rfl) d_T_readInto_33 (fun H locs hP hD hS => ?_)
  replace hP : va_P (dC, dI) vwCl [(a_tx, .inr (4, [.ref a_sg, .int 0, .int 0, .int (-1)])), (a_to, .inr (3, [.int (-1), .int (-1), .int (-1), .int 2, .int 0, .int 0, .int 0, .int 7, .int 0, .int 0, .int 0]))] H := hP
  replace hD : va_D A [(a_tx, .inr (4, [.ref a_sg, .int 0, .int 0, .int (-1)])), (a_to, .inr (3, [.int (-1), .int (-1), .int (-1), .int 2, .int 0, .int 0, .int 0, .int 7, .int 0, .int 0, .int 0]))] := hD
  refine lv_aload_n hx hb d_T_readInto_36 rfl (lv_at hl 1 rfl) ?_
  refine lv_aload_n hx hb d_T_readInto_37 rfl (lv_at hl 0 rfl) ?_
  refine va_ldcS hx hb hown (zs_T_39 hZ) d_T_readInto_38 ?_
  refine lv_iconst (v := 2) hx hb d_T_readInto_40 (by decide) ?_
  refine lv_bipush (v := 49) hx hb d_T_readInto_41 (by decide) ?_
  have hPc := hP.sub (ws' := [(a_tx, .inr (4, [.ref a_sg, .int 0, .int 0, .int (-1)]))]) [0] rfl
  have hKc := hK.sub (tys' := []) [] rfl
  refine vp_callSi (va_Run.run (va_runV (As := [.ref (adK 6), .int 2, .int 49]) (rest := [.ref a_to]) ⟨hx, hb, hml, hown, hts⟩ (c_readCondition l dC dI adK adV (a_tx := a_tx) (iw := 6) (p0 := 2) (p1 := 49) (a_sg := a_sg) (by decide)) (cwV 3 hts (gV tw_231 tw_233 tw_0 tw_43 tw_234) rfl rfl rfl (by decide +kernel) ⟨(Nat.le_of_ble_eq_true rfl), (Nat.le_of_ble_eq_true rfl)⟩) ⟨fun a U g mk q => by obtain ⟨q0, qZ, qP, qK⟩ := q; exact ⟨q0, zz_call qZ, qP, va_K.moved (u := U) (U := U.calling g mk a) (Vm.Alike.refl U.vm) qK⟩, va_recv hKc hPc (ci := 4) (q0 := 0) rfl rfl, fun U hU hW => ⟨rfl, zz_ro hS hU hW hZ, by rw [hU]; exact hPc, va_K.moved hW.alike hKc⟩⟩ rfl rfl hl.1 rfl (lv_room (Nat.le_of_ble_eq_true rfl)) d_T_readInto_43 ⟨(Nat.le_of_ble_eq_true rfl), (Nat.le_of_ble_eq_true rfl)⟩)) (fun r_5 hw_6 => ?_)
  obtain rfl : r_5 = (-1) := hw_6
  refine va_put (D := (dC, dI)) (ci := 3) (v := .int (-1)) (ty := .int) (C := "LoanRules$Rule") (T := Fz_R) (N := 11) hx hb hts it_R tz_R tz_R_ok nz_R hown hK hP hD hS 1 rfl rfl 2 (by decide) (hts _ tw_179) (fun _ h9 => h9) rfl (by decide +kernel) rfl rfl (Nat.le_of_ble_eq_true rfl) d_T_readInto_46 (fun H locs hP hD hS => ?_)
  replace hP : va_P (dC, dI) vwCl [(a_tx, .inr (4, [.ref a_sg, .int 0, .int 0, .int (-1)])), (a_to, .inr (3, [.int (-1), .int (-1), .int (-1), .int 2, .int 0, .int 0, .int 0, .int 7, .int 0, .int 0, .int 0]))] H := hP
  replace hD : va_D A [(a_tx, .inr (4, [.ref a_sg, .int 0, .int 0, .int (-1)])), (a_to, .inr (3, [.int (-1), .int (-1), .int (-1), .int 2, .int 0, .int 0, .int 0, .int 7, .int 0, .int 0, .int 0]))] := hD
  refine lv_aload_n hx hb d_T_readInto_49 rfl (lv_at hl 0 rfl) ?_
  refine lv_aload_n hx hb d_T_readInto_50 rfl (lv_at hl 1 rfl) ?_
  have hPc := hP.sub (ws' := [(a_tx, .inr (4, [.ref a_sg, .int 0, .int 0, .int (-1)])), (a_to, .inr (3, [.int (-1), .int (-1), .int (-1), .int 2, .int 0, .int 0, .int 0, .int 7, .int 0, .int 0, .int 0]))]) [0, 1] rfl
  have hKc := hK.sub (tys' := []) [] rfl
  have hDc := hD.sub (ws' := [(a_tx, .inr (4, [.ref a_sg, .int 0, .int 0, .int (-1)])), (a_to, .inr (3, [.int (-1), .int (-1), .int (-1), .int 2, .int 0, .int 0, .int 0, .int 7, .int 0, .int 0, .int 0]))]) [0, 1] (by decide) rfl
  have hFc := va_free (wc := [(a_tx, .inr (4, [.ref a_sg, .int 0, .int 0, .int (-1)])), (a_to, .inr (3, [.int (-1), .int (-1), .int (-1), .int 2, .int 0, .int 0, .int 0, .int 7, .int 0, .int 0, .int 0]))]) hD hS hA [0, 1] rfl
  refine va_callv (va_runV (As := [.ref a_to]) (rest := []) ⟨hx, hb, hml, hown, hts⟩ (c_readDeed l dC dI adK adV (a_tx := a_tx) (a_to := a_to) (a_sg := a_sg) (sz := H.size)) (cwV 1 hts (gV tw_311 tw_313 tw_6 tw_43 tw_314) rfl rfl rfl (by decide +kernel) ⟨(Nat.le_of_ble_eq_true rfl), (Nat.le_of_ble_eq_true rfl)⟩) ⟨fun a U g mk q => by obtain ⟨q0, q1, qZ, qP, qK, qD⟩ := q; exact ⟨q0, q1, zz_call qZ, qP, va_K.moved (u := U) (U := U.calling g mk a) (Vm.Alike.refl U.vm) qK, qD⟩, va_recv hKc hPc (ci := 4) (q0 := 0) rfl rfl, fun U hU hW => ⟨rfl, by rw [hU], zz_rw hS hFc hU hW hZ, by rw [hU]; exact hPc, va_K.moved hW.alike hKc, hDc.weaken (fun _ _ _ _ => trivial)⟩⟩ rfl rfl hl.1 rfl (lv_room (Nat.le_of_ble_eq_true rfl)) d_T_readInto_51 ⟨(Nat.le_of_ble_eq_true rfl), (Nat.le_of_ble_eq_true rfl)⟩) hS (fun q _ h => hFc q h) hFc (fun u t H1 locs ht hvm hw_7 hB hz1 hk1 hS => ?_)
  obtain ⟨hP1, hK1, hD1⟩ := hB
  rw [ht] at hP1
  have hK1 := va_K.moved hvm.symm hK1
  obtain ⟨hP, hD⟩ := va_join (wr := []) (w1 := [(a_tx, .inr (4, [.ref a_sg, .int 0, .int 0, .int 0])), (a_to, .inr (3, [.int (-1), .int (-1), .int (-1), .int 2, .int 0, .int 0, .int 0, .int 7, .int 0, .int 0, .int 0]))]) hP hD [0, 1] [] rfl rfl (by decide) (by decide) hk1 hFc hP1 hD1
  have hK := (hK.sub (tys' := []) [] rfl).app hK1
  generalize H1 = H at hP hS ⊢
  replace hP : va_P (dC, dI) vwCl [(a_tx, .inr (4, [.ref a_sg, .int 0, .int 0, .int 0])), (a_to, .inr (3, [.int (-1), .int (-1), .int (-1), .int 2, .int 0, .int 0, .int 0, .int 7, .int 0, .int 0, .int 0]))] H := hP
  replace hD : va_D A [(a_tx, .inr (4, [.ref a_sg, .int 0, .int 0, .int 0])), (a_to, .inr (3, [.int (-1), .int (-1), .int (-1), .int 2, .int 0, .int 0, .int 0, .int 7, .int 0, .int 0, .int 0]))] := hD
  replace hK : va_K (dC, dI) vwCl [] s := hK
  refine lv_aload_n hx hb d_T_readInto_54 rfl (lv_at hl 0 rfl) ?_
  refine lv_aload_n hx hb d_T_readInto_55 rfl (lv_at hl 1 rfl) ?_
  have hPc := hP.sub (ws' := [(a_tx, .inr (4, [.ref a_sg, .int 0, .int 0, .int 0])), (a_to, .inr (3, [.int (-1), .int (-1), .int (-1), .int 2, .int 0, .int 0, .int 0, .int 7, .int 0, .int 0, .int 0]))]) [0, 1] rfl
  have hKc := hK.sub (tys' := []) [] rfl
  have hDc := hD.sub (ws' := [(a_tx, .inr (4, [.ref a_sg, .int 0, .int 0, .int 0])), (a_to, .inr (3, [.int (-1), .int (-1), .int (-1), .int 2, .int 0, .int 0, .int 0, .int 7, .int 0, .int 0, .int 0]))]) [0, 1] (by decide) rfl
  have hFc := va_free (wc := [(a_tx, .inr (4, [.ref a_sg, .int 0, .int 0, .int 0])), (a_to, .inr (3, [.int (-1), .int (-1), .int (-1), .int 2, .int 0, .int 0, .int 0, .int 7, .int 0, .int 0, .int 0]))]) hD hS hA [0, 1] rfl
  refine va_callv (va_runV (As := [.ref a_to]) (rest := []) ⟨hx, hb, hml, hown, hts⟩ (c_readRest l dC dI adK adV (a_tx := a_tx) (a_to := a_to) (a_sg := a_sg) (sz := H.size)) (cwV 1 hts (gV tw_327 tw_329 tw_9 tw_43 tw_330) rfl rfl rfl (by decide +kernel) ⟨(Nat.le_of_ble_eq_true rfl), (Nat.le_of_ble_eq_true rfl)⟩) ⟨fun a U g mk q => by obtain ⟨q0, q1, qZ, qP, qK, qD⟩ := q; exact ⟨q0, q1, zz_call qZ, qP, va_K.moved (u := U) (U := U.calling g mk a) (Vm.Alike.refl U.vm) qK, qD⟩, va_recv hKc hPc (ci := 4) (q0 := 0) rfl rfl, fun U hU hW => ⟨rfl, by rw [hU], zz_rw hS hFc hU hW hZ, by rw [hU]; exact hPc, va_K.moved hW.alike hKc, hDc.weaken (fun _ _ _ _ => trivial)⟩⟩ rfl rfl hl.1 rfl (lv_room (Nat.le_of_ble_eq_true rfl)) d_T_readInto_56 ⟨(Nat.le_of_ble_eq_true rfl), (Nat.le_of_ble_eq_true rfl)⟩) hS (fun q _ h => hFc q h) hFc (fun u t H1 locs ht hvm hw_8 hB hz1 hk1 hS => ?_)
  obtain ⟨hP1, hK1, hD1⟩ := hB
  rw [ht] at hP1
  have hK1 := va_K.moved hvm.symm hK1
  obtain ⟨hP, hD⟩ := va_join (wr := []) (w1 := [(a_tx, .inr (4, [.ref a_sg, .int 0, .int 0, .int 0])), (a_to, .inr (3, [.int (-1), .int (-1), .int (-1), .int 2, .int 0, .int 0, .int 0, .int 7, .int 0, .int 0, .int 0]))]) hP hD [0, 1] [] rfl rfl (by decide) (by decide) hk1 hFc hP1 hD1
  have hK := (hK.sub (tys' := []) [] rfl).app hK1
  generalize H1 = H at hP hS ⊢
  replace hP : va_P (dC, dI) vwCl [(a_tx, .inr (4, [.ref a_sg, .int 0, .int 0, .int 0])), (a_to, .inr (3, [.int (-1), .int (-1), .int (-1), .int 2, .int 0, .int 0, .int 0, .int 7, .int 0, .int 0, .int 0]))] H := hP
  replace hD : va_D A [(a_tx, .inr (4, [.ref a_sg, .int 0, .int 0, .int 0])), (a_to, .inr (3, [.int (-1), .int (-1), .int (-1), .int 2, .int 0, .int 0, .int 0, .int 7, .int 0, .int 0, .int 0]))] := hD
  replace hK : va_K (dC, dI) vwCl [] s := hK
  refine lv_aload_n hx hb d_T_readInto_59 rfl (lv_at hl 0 rfl) ?_
  refine va_get (D := (dC, dI)) (ci := 4) (v := .int 0) (C := "LoanRules$RuleText") (T := Fz_T) (N := 4) hx hb hts it_T hown hK hP 0 rfl rfl 3 (by decide) (hts _ tw_75) (fun _ h9 => h9) rfl d_T_readInto_60 ?_
  have hP9 := hP.sub (ws' := [(a_tx, .inr (4, [.ref a_sg, .int 0, .int 0, .int 0]))]) [0] rfl
  have hD9 := hD.sub (ws' := [(a_tx, .inr (4, [.ref a_sg, .int 0, .int 0, .int 0]))]) [0] (by decide) rfl
  have hK9 := hK.sub (tys' := []) [] rfl
  exact W.iret (v := 0) hx hb hr (fun t ht hW => ⟨⟨0, (), rfl, rfl, by rw [ht]; exact hP9, va_K.moved hW.alike hK9, hD9⟩, hS.F ht⟩) hS.2.2 d_T_readInto_63
set_option maxHeartbeats 4000000 in
set_option maxRecDepth 100000 in
theorem c_forget (l : Launch) (dC : Nat → ClassId) (dI : Nat → Nat → Nat) (adK adV : Nat → Nat) (a_tx : Nat) (a_sg : Nat) (sz : Nat) : Met l y_T_forget ws_T_forget ({ frames := 0, cells := 0, slots := 0, locals := 0 }) (va_Pc [.ref a_tx] (fun U => U.heap.size = sz ∧ zz adK adV (va_A [(a_tx, .inr (4, [.ref a_sg, .int 0, .int 0, .int 0]))] sz) U ∧ va_P (dC, dI) vwCl [(a_tx, .inr (4, [.ref a_sg, .int 0, .int 0, .int 0]))] U.heap ∧ va_K (dC, dI) vwCl [] U ∧ va_D (fun _ => True) [(a_tx, .inr (4, [.ref a_sg, .int 0, .int 0, .int 0]))])) (va_Qv (fun _ : Unit => True) (fun (_ : Unit) (_ : State) => True) (va_A [(a_tx, .inr (4, [.ref a_sg, .int 0, .int 0, .int 0]))] sz)) 0 0 (va_A [(a_tx, .inr (4, [.ref a_sg, .int 0, .int 0, .int 0]))] sz) := by
  refine Met.ofW (cc := c_T_forget) (maxL := 1) (ret := none) (by decide) rfl ?_
  intro p e s m args below meth c s₁ B hml hv
  obtain ⟨rfl, hsz, hZ, hP, hK, hD0⟩ := hv
  have hx := B.exec
  have hb := B.bytes
  have hr := B.returns
  have hts0 := atoms_spec (ws := ws_T_forget) B.pre
  have hts : ∀ w ∈ TT, w.before _ s = true := fun w h => hts0 w (List.mem_cons_of_mem _ h)
  have hown : s.vm.findClass "LoanRules$RuleText" = some m.cls := findClass_of_methodNamed B.named
  have hlocks := B.notSynchronized
  subst hsz
  have hD := hD0.self (sz := s.heap.size)
  generalize hAe : va_A [(a_tx, .inr (4, [.ref a_sg, .int 0, .int 0, .int 0]))] s.heap.size = A at hD hZ ⊢
  have hA : ∀ q : Nat, s.heap.size ≤ q → A q := fun q h => by rw [← hAe]; exact Or.inr h
  clear hAe hD0
  have hS : va_S A s.heap s.heap [] := va_S.rf
  replace hP : va_P (dC, dI) vwCl [(a_tx, .inr (4, [.ref a_sg, .int 0, .int 0, .int 0]))] s.heap := hP
  have hl := lv_entry ([.ref a_tx]) (n := 1) (Nat.le_of_ble_eq_true rfl)
  rw [lg_entry_eq]
  generalize (lg_sl ([.ref a_tx]) ++ List.replicate (1 - (lg_sl ([.ref a_tx])).length) Slot.unset).toArray = ls at hl ⊢
  replace hl : lv_has ls 1 [(0, .ref a_tx)] := hl
  refine lv_aload_n hx hb d_T_forget_0 rfl (lv_at hl 0 rfl) ?_
  refine lv_iconst (v := 0) hx hb d_T_forget_1 (by decide) ?_
  refine va_put (D := (dC, dI)) (ci := 4) (v := .int 0) (ty := .int) (C := "LoanRules$RuleText") (T := Fz_T) (N := 4) hx hb hts it_T tz_T tz_T_ok nz_T hown hK hP hD hS 0 rfl rfl 1 (by decide) (hts _ tw_73) (fun _ h9 => h9) rfl (by decide +kernel) rfl rfl (Nat.le_of_ble_eq_true rfl) d_T_forget_2 (fun H locs hP hD hS => ?_)
  replace hP : va_P (dC, dI) vwCl [(a_tx, .inr (4, [.ref a_sg, .int 0, .int 0, .int 0]))] H := hP
  replace hD : va_D A [(a_tx, .inr (4, [.ref a_sg, .int 0, .int 0, .int 0]))] := hD
  exact W.vret hx hb hr (fun t ht hW => ⟨⟨(), rfl, trivial, trivial⟩, hS.F ht⟩) hS.2.2 d_T_forget_5
set_option maxHeartbeats 4000000 in
set_option maxRecDepth 100000 in
theorem c_Rule_init (l : Launch) (dC : Nat → ClassId) (dI : Nat → Nat → Nat) (adK adV : Nat → Nat) (a_to : Nat) (sz : Nat) : Met l y_R_init ws_R_init ({ frames := 1, cells := 0, slots := 0, locals := 12 }) (va_Pc [.ref a_to] (fun U => U.heap.size = sz ∧ zz adK adV (va_A [(a_to, .inr (3, [.int 0, .int 0, .int 0, .int 0, .int 0, .int 0, .int 0, .int 0, .int 0, .int 0, .int 0]))] sz) U ∧ va_P (dC, dI) vwCl [(a_to, .inr (3, [.int 0, .int 0, .int 0, .int 0, .int 0, .int 0, .int 0, .int 0, .int 0, .int 0, .int 0]))] U.heap ∧ va_K (dC, dI) vwCl [] U ∧ va_D (fun _ => True) [(a_to, .inr (3, [.int 0, .int 0, .int 0, .int 0, .int 0, .int 0, .int 0, .int 0, .int 0, .int 0, .int 0]))])) (va_Qv (fun _ : Unit => True) (fun (_ : Unit) (t : State) => va_P (dC, dI) vwCl [(a_to, .inr (3, [.int (-1), .int (-1), .int (-1), .int 2, .int 0, .int 0, .int 0, .int 7, .int 0, .int 0, .int 0]))] t.heap ∧ va_K (dC, dI) vwCl [] t ∧ va_D (va_A [(a_to, .inr (3, [.int 0, .int 0, .int 0, .int 0, .int 0, .int 0, .int 0, .int 0, .int 0, .int 0, .int 0]))] sz) [(a_to, .inr (3, [.int (-1), .int (-1), .int (-1), .int 2, .int 0, .int 0, .int 0, .int 7, .int 0, .int 0, .int 0]))]) (va_A [(a_to, .inr (3, [.int 0, .int 0, .int 0, .int 0, .int 0, .int 0, .int 0, .int 0, .int 0, .int 0, .int 0]))] sz)) 0 0 (va_A [(a_to, .inr (3, [.int 0, .int 0, .int 0, .int 0, .int 0, .int 0, .int 0, .int 0, .int 0, .int 0, .int 0]))] sz) := by
  refine Met.ofW (cc := c_R_init) (maxL := 1) (ret := none) (by decide) rfl ?_
  intro p e s m args below meth c s₁ B hml hv
  obtain ⟨rfl, hsz, hZ, hP, hK, hD0⟩ := hv
  have hx := B.exec
  have hb := B.bytes
  have hr := B.returns
  have hts0 := atoms_spec (ws := ws_R_init) B.pre
  have hts : ∀ w ∈ TT, w.before _ s = true := fun w h => hts0 w (List.mem_cons_of_mem _ h)
  have hown : s.vm.findClass "LoanRules$Rule" = some m.cls := findClass_of_methodNamed B.named
  have hlocks := B.notSynchronized
  have hin : meth.name = "<init>" := (name_of_methodNamed B.named B.method).1
  subst hsz
  have hD := hD0.self (sz := s.heap.size)
  generalize hAe : va_A [(a_to, .inr (3, [.int 0, .int 0, .int 0, .int 0, .int 0, .int 0, .int 0, .int 0, .int 0, .int 0, .int 0]))] s.heap.size = A at hD hZ ⊢
  have hA : ∀ q : Nat, s.heap.size ≤ q → A q := fun q h => by rw [← hAe]; exact Or.inr h
  clear hAe hD0
  have hS : va_S A s.heap s.heap [] := va_S.rf
  replace hP : va_P (dC, dI) vwCl [(a_to, .inr (3, [.int 0, .int 0, .int 0, .int 0, .int 0, .int 0, .int 0, .int 0, .int 0, .int 0, .int 0]))] s.heap := hP
  have hl := lv_entry ([.ref a_to]) (n := 1) (Nat.le_of_ble_eq_true rfl)
  rw [lg_entry_eq]
  generalize (lg_sl ([.ref a_to]) ++ List.replicate (1 - (lg_sl ([.ref a_to])).length) Slot.unset).toArray = ls at hl ⊢
  replace hl : lv_has ls 1 [(0, .ref a_to)] := hl
  refine lv_aload_n hx hb d_R_init_0 rfl (lv_at hl 0 rfl) ?_
  refine W.objInit hx hb hown (hts _ tw_171) (hts _ tw_64) (hts _ tw_65) rfl (by rw [hml]; exact hl.1) rfl d_R_init_1 (Nat.le_of_ble_eq_true rfl) (Nat.le_of_ble_eq_true rfl) ?_
  refine W.eq (g2 := F0 m 4 ls []) rfl ?_
  refine lv_aload_n hx hb d_R_init_4 rfl (lv_at hl 0 rfl) ?_
  refine lv_iconst (v := (-1)) hx hb d_R_init_5 (by decide) ?_
  refine va_put (D := (dC, dI)) (ci := 3) (v := .int (-1)) (ty := .int) (C := "LoanRules$Rule") (T := Fz_R) (N := 11) hx hb hts it_R tz_R tz_R_ok nz_R hown hK hP hD hS 0 rfl rfl 0 (by decide) (hts _ tw_172) (fun _ h9 => h9) rfl (by decide +kernel) rfl rfl (Nat.le_of_ble_eq_true rfl) d_R_init_6 (fun H locs hP hD hS => ?_)
  replace hP : va_P (dC, dI) vwCl [(a_to, .inr (3, [.int (-1), .int 0, .int 0, .int 0, .int 0, .int 0, .int 0, .int 0, .int 0, .int 0, .int 0]))] H := hP
  replace hD : va_D A [(a_to, .inr (3, [.int (-1), .int 0, .int 0, .int 0, .int 0, .int 0, .int 0, .int 0, .int 0, .int 0, .int 0]))] := hD
  refine lv_aload_n hx hb d_R_init_9 rfl (lv_at hl 0 rfl) ?_
  refine lv_iconst (v := (-1)) hx hb d_R_init_10 (by decide) ?_
  refine va_put (D := (dC, dI)) (ci := 3) (v := .int (-1)) (ty := .int) (C := "LoanRules$Rule") (T := Fz_R) (N := 11) hx hb hts it_R tz_R tz_R_ok nz_R hown hK hP hD hS 0 rfl rfl 1 (by decide) (hts _ tw_175) (fun _ h9 => h9) rfl (by decide +kernel) rfl rfl (Nat.le_of_ble_eq_true rfl) d_R_init_11 (fun H locs hP hD hS => ?_)
  replace hP : va_P (dC, dI) vwCl [(a_to, .inr (3, [.int (-1), .int (-1), .int 0, .int 0, .int 0, .int 0, .int 0, .int 0, .int 0, .int 0, .int 0]))] H := hP
  replace hD : va_D A [(a_to, .inr (3, [.int (-1), .int (-1), .int 0, .int 0, .int 0, .int 0, .int 0, .int 0, .int 0, .int 0, .int 0]))] := hD
  refine lv_aload_n hx hb d_R_init_14 rfl (lv_at hl 0 rfl) ?_
  refine lv_iconst (v := (-1)) hx hb d_R_init_15 (by decide) ?_
  refine va_put (D := (dC, dI)) (ci := 3) (v := .int (-1)) (ty := .int) (C := "LoanRules$Rule") (T := Fz_R) (N := 11) hx hb hts it_R tz_R tz_R_ok nz_R hown hK hP hD hS 0 rfl rfl 2 (by decide) (hts _ tw_178) (fun _ h9 => h9) rfl (by decide +kernel) rfl rfl (Nat.le_of_ble_eq_true rfl) d_R_init_16 (fun H locs hP hD hS => ?_)
  replace hP : va_P (dC, dI) vwCl [(a_to, .inr (3, [.int (-1), .int (-1), .int (-1), .int 0, .int 0, .int 0, .int 0, .int 0, .int 0, .int 0, .int 0]))] H := hP
  replace hD : va_D A [(a_to, .inr (3, [.int (-1), .int (-1), .int (-1), .int 0, .int 0, .int 0, .int 0, .int 0, .int 0, .int 0, .int 0]))] := hD
  refine lv_aload_n hx hb d_R_init_19 rfl (lv_at hl 0 rfl) ?_
  refine lv_iconst (v := 2) hx hb d_R_init_20 (by decide) ?_
  refine va_put (D := (dC, dI)) (ci := 3) (v := .int 2) (ty := .int) (C := "LoanRules$Rule") (T := Fz_R) (N := 11) hx hb hts it_R tz_R tz_R_ok nz_R hown hK hP hD hS 0 rfl rfl 3 (by decide) (hts _ tw_181) (fun _ h9 => h9) rfl (by decide +kernel) rfl rfl (Nat.le_of_ble_eq_true rfl) d_R_init_21 (fun H locs hP hD hS => ?_)
  replace hP : va_P (dC, dI) vwCl [(a_to, .inr (3, [.int (-1), .int (-1), .int (-1), .int 2, .int 0, .int 0, .int 0, .int 0, .int 0, .int 0, .int 0]))] H := hP
  replace hD : va_D A [(a_to, .inr (3, [.int (-1), .int (-1), .int (-1), .int 2, .int 0, .int 0, .int 0, .int 0, .int 0, .int 0, .int 0]))] := hD
  refine lv_aload_n hx hb d_R_init_24 rfl (lv_at hl 0 rfl) ?_
  refine lv_iconst (v := 0) hx hb d_R_init_25 (by decide) ?_
  refine va_put (D := (dC, dI)) (ci := 3) (v := .int 0) (ty := .int) (C := "LoanRules$Rule") (T := Fz_R) (N := 11) hx hb hts it_R tz_R tz_R_ok nz_R hown hK hP hD hS 0 rfl rfl 4 (by decide) (hts _ tw_184) (fun _ h9 => h9) rfl (by decide +kernel) rfl rfl (Nat.le_of_ble_eq_true rfl) d_R_init_26 (fun H locs hP hD hS => ?_)
  replace hP : va_P (dC, dI) vwCl [(a_to, .inr (3, [.int (-1), .int (-1), .int (-1), .int 2, .int 0, .int 0, .int 0, .int 0, .int 0, .int 0, .int 0]))] H := hP
  replace hD : va_D A [(a_to, .inr (3, [.int (-1), .int (-1), .int (-1), .int 2, .int 0, .int 0, .int 0, .int 0, .int 0, .int 0, .int 0]))] := hD
  refine lv_aload_n hx hb d_R_init_29 rfl (lv_at hl 0 rfl) ?_
  refine lv_iconst (v := 0) hx hb d_R_init_30 (by decide) ?_
  refine va_put (D := (dC, dI)) (ci := 3) (v := .int 0) (ty := .int) (C := "LoanRules$Rule") (T := Fz_R) (N := 11) hx hb hts it_R tz_R tz_R_ok nz_R hown hK hP hD hS 0 rfl rfl 5 (by decide) (hts _ tw_187) (fun _ h9 => h9) rfl (by decide +kernel) rfl rfl (Nat.le_of_ble_eq_true rfl) d_R_init_31 (fun H locs hP hD hS => ?_)
  replace hP : va_P (dC, dI) vwCl [(a_to, .inr (3, [.int (-1), .int (-1), .int (-1), .int 2, .int 0, .int 0, .int 0, .int 0, .int 0, .int 0, .int 0]))] H := hP
  replace hD : va_D A [(a_to, .inr (3, [.int (-1), .int (-1), .int (-1), .int 2, .int 0, .int 0, .int 0, .int 0, .int 0, .int 0, .int 0]))] := hD
  refine lv_aload_n hx hb d_R_init_34 rfl (lv_at hl 0 rfl) ?_
  refine lv_iconst (v := 0) hx hb d_R_init_35 (by decide) ?_
  refine va_put (D := (dC, dI)) (ci := 3) (v := .int 0) (ty := .int) (C := "LoanRules$Rule") (T := Fz_R) (N := 11) hx hb hts it_R tz_R tz_R_ok nz_R hown hK hP hD hS 0 rfl rfl 6 (by decide) (hts _ tw_190) (fun _ h9 => h9) rfl (by decide +kernel) rfl rfl (Nat.le_of_ble_eq_true rfl) d_R_init_36 (fun H locs hP hD hS => ?_)
  replace hP : va_P (dC, dI) vwCl [(a_to, .inr (3, [.int (-1), .int (-1), .int (-1), .int 2, .int 0, .int 0, .int 0, .int 0, .int 0, .int 0, .int 0]))] H := hP
  replace hD : va_D A [(a_to, .inr (3, [.int (-1), .int (-1), .int (-1), .int 2, .int 0, .int 0, .int 0, .int 0, .int 0, .int 0, .int 0]))] := hD
  refine lv_aload_n hx hb d_R_init_39 rfl (lv_at hl 0 rfl) ?_
  refine lv_bipush (v := 7) hx hb d_R_init_40 (by decide) ?_
  refine va_put (D := (dC, dI)) (ci := 3) (v := .int 7) (ty := .int) (C := "LoanRules$Rule") (T := Fz_R) (N := 11) hx hb hts it_R tz_R tz_R_ok nz_R hown hK hP hD hS 0 rfl rfl 7 (by decide) (hts _ tw_193) (fun _ h9 => h9) rfl (by decide +kernel) rfl rfl (Nat.le_of_ble_eq_true rfl) d_R_init_42 (fun H locs hP hD hS => ?_)
  replace hP : va_P (dC, dI) vwCl [(a_to, .inr (3, [.int (-1), .int (-1), .int (-1), .int 2, .int 0, .int 0, .int 0, .int 7, .int 0, .int 0, .int 0]))] H := hP
  replace hD : va_D A [(a_to, .inr (3, [.int (-1), .int (-1), .int (-1), .int 2, .int 0, .int 0, .int 0, .int 7, .int 0, .int 0, .int 0]))] := hD
  refine lv_aload_n hx hb d_R_init_45 rfl (lv_at hl 0 rfl) ?_
  refine lv_iconst (v := 0) hx hb d_R_init_46 (by decide) ?_
  refine va_put (D := (dC, dI)) (ci := 3) (v := .int 0) (ty := .int) (C := "LoanRules$Rule") (T := Fz_R) (N := 11) hx hb hts it_R tz_R tz_R_ok nz_R hown hK hP hD hS 0 rfl rfl 8 (by decide) (hts _ tw_196) (fun _ h9 => h9) rfl (by decide +kernel) rfl rfl (Nat.le_of_ble_eq_true rfl) d_R_init_47 (fun H locs hP hD hS => ?_)
  replace hP : va_P (dC, dI) vwCl [(a_to, .inr (3, [.int (-1), .int (-1), .int (-1), .int 2, .int 0, .int 0, .int 0, .int 7, .int 0, .int 0, .int 0]))] H := hP
  replace hD : va_D A [(a_to, .inr (3, [.int (-1), .int (-1), .int (-1), .int 2, .int 0, .int 0, .int 0, .int 7, .int 0, .int 0, .int 0]))] := hD
  refine lv_aload_n hx hb d_R_init_50 rfl (lv_at hl 0 rfl) ?_
  refine lv_iconst (v := 0) hx hb d_R_init_51 (by decide) ?_
  refine va_put (D := (dC, dI)) (ci := 3) (v := .int 0) (ty := .boolean) (C := "LoanRules$Rule") (T := Fz_R) (N := 11) hx hb hts it_R tz_R tz_R_ok nz_R hown hK hP hD hS 0 rfl rfl 9 (by decide) (hts _ tw_199) (fun _ h9 => h9) rfl (by decide +kernel) rfl rfl (Nat.le_of_ble_eq_true rfl) d_R_init_52 (fun H locs hP hD hS => ?_)
  replace hP : va_P (dC, dI) vwCl [(a_to, .inr (3, [.int (-1), .int (-1), .int (-1), .int 2, .int 0, .int 0, .int 0, .int 7, .int 0, .int 0, .int 0]))] H := hP
  replace hD : va_D A [(a_to, .inr (3, [.int (-1), .int (-1), .int (-1), .int 2, .int 0, .int 0, .int 0, .int 7, .int 0, .int 0, .int 0]))] := hD
  refine lv_aload_n hx hb d_R_init_55 rfl (lv_at hl 0 rfl) ?_
  refine lv_iconst (v := 0) hx hb d_R_init_56 (by decide) ?_
  refine va_put (D := (dC, dI)) (ci := 3) (v := .int 0) (ty := .boolean) (C := "LoanRules$Rule") (T := Fz_R) (N := 11) hx hb hts it_R tz_R tz_R_ok nz_R hown hK hP hD hS 0 rfl rfl 10 (by decide) (hts _ tw_201) (fun _ h9 => h9) rfl (by decide +kernel) rfl rfl (Nat.le_of_ble_eq_true rfl) d_R_init_57 (fun H locs hP hD hS => ?_)
  replace hP : va_P (dC, dI) vwCl [(a_to, .inr (3, [.int (-1), .int (-1), .int (-1), .int 2, .int 0, .int 0, .int 0, .int 7, .int 0, .int 0, .int 0]))] H := hP
  replace hD : va_D A [(a_to, .inr (3, [.int (-1), .int (-1), .int (-1), .int 2, .int 0, .int 0, .int 0, .int 7, .int 0, .int 0, .int 0]))] := hD
  have hP9 := hP.sub (ws' := [(a_to, .inr (3, [.int (-1), .int (-1), .int (-1), .int 2, .int 0, .int 0, .int 0, .int 7, .int 0, .int 0, .int 0]))]) [0] rfl
  have hD9 := hD.sub (ws' := [(a_to, .inr (3, [.int (-1), .int (-1), .int (-1), .int 2, .int 0, .int 0, .int 0, .int 7, .int 0, .int 0, .int 0]))]) [0] (by decide) rfl
  have hK9 := hK.sub (tys' := []) [] rfl
  exact W.vret hx hb hr (fun t ht hW => ⟨⟨(), rfl, trivial, by rw [ht]; exact hP9, va_K.moved hW.alike hK9, hD9⟩, hS.F ht⟩) hS.2.2 d_R_init_60
set_option maxHeartbeats 4000000 in
set_option maxRecDepth 100000 in
theorem c_rule (l : Launch) (dC : Nat → ClassId) (dI : Nat → Nat → Nat) (adK adV : Nat → Nat) (a_h : Nat) (a_tx : Nat) (a_ru : Nat) (a_cd : Nat) (a_te : Nat) (a_ki : Nat) (a_ca : Nat) (a_ty : Nat) (a_io : Nat) (a_ex : Nat) (a_lo : Nat) (a_fi : Nat) (a_cl : Nat) (a_sg : Nat) (sz : Nat) : Met l y_C_rule ws_C_rule ({ frames := 7, cells := 1, slots := 11, locals := 152 }) (va_Pc [.ref a_h] (fun U => U.heap.size = sz ∧ zz adK adV (va_A [(a_h, .inr (0, [.ref a_tx, .ref a_ru, .int 0, .ref a_cd, .ref a_te, .ref a_ki, .ref a_ca, .ref a_ty, .ref a_io, .ref a_ex, .ref a_lo, .int 0, .ref a_fi, .int 0, .ref a_cl, .int 0])), (a_tx, .inr (4, [.ref a_sg, .int 0, .int 0, .int (-1)]))] sz) U ∧ va_P (dC, dI) vwCl [(a_h, .inr (0, [.ref a_tx, .ref a_ru, .int 0, .ref a_cd, .ref a_te, .ref a_ki, .ref a_ca, .ref a_ty, .ref a_io, .ref a_ex, .ref a_lo, .int 0, .ref a_fi, .int 0, .ref a_cl, .int 0])), (a_tx, .inr (4, [.ref a_sg, .int 0, .int 0, .int (-1)]))] U.heap ∧ va_K (dC, dI) vwCl [] U ∧ va_D (fun _ => True) [(a_h, .inr (0, [.ref a_tx, .ref a_ru, .int 0, .ref a_cd, .ref a_te, .ref a_ki, .ref a_ca, .ref a_ty, .ref a_io, .ref a_ex, .ref a_lo, .int 0, .ref a_fi, .int 0, .ref a_cl, .int 0])), (a_tx, .inr (4, [.ref a_sg, .int 0, .int 0, .int (-1)]))])) (va_Qi (fun (r : Int32) (_ : Unit) => r = (-1)) (fun (_ : Unit) (_ : State) => True) (va_A [(a_h, .inr (0, [.ref a_tx, .ref a_ru, .int 0, .ref a_cd, .ref a_te, .ref a_ki, .ref a_ca, .ref a_ty, .ref a_io, .ref a_ex, .ref a_lo, .int 0, .ref a_fi, .int 0, .ref a_cl, .int 0])), (a_tx, .inr (4, [.ref a_sg, .int 0, .int 0, .int (-1)]))] sz)) 1 11 (va_A [(a_h, .inr (0, [.ref a_tx, .ref a_ru, .int 0, .ref a_cd, .ref a_te, .ref a_ki, .ref a_ca, .ref a_ty, .ref a_io, .ref a_ex, .ref a_lo, .int 0, .ref a_fi, .int 0, .ref a_cl, .int 0])), (a_tx, .inr (4, [.ref a_sg, .int 0, .int 0, .int (-1)]))] sz) := by
  refine Met.ofW (cc := c_C_rule) (maxL := 3) (ret := (some .int)) (by decide) rfl ?_
  intro p e s m args below meth c s₁ B hml hv
  obtain ⟨rfl, hsz, hZ, hP, hK, hD0⟩ := hv
  have hx := B.exec
  have hb := B.bytes
  have hr := B.returns
  have hts0 := atoms_spec (ws := ws_C_rule) B.pre
  have hts : ∀ w ∈ TT, w.before _ s = true := fun w h => hts0 w (List.mem_cons_of_mem _ h)
  have hown : s.vm.findClass "LoanRules" = some m.cls := findClass_of_methodNamed B.named
  have hlocks := B.notSynchronized
  subst hsz
  have hD := hD0.self (sz := s.heap.size)
  generalize hAe : va_A [(a_h, .inr (0, [.ref a_tx, .ref a_ru, .int 0, .ref a_cd, .ref a_te, .ref a_ki, .ref a_ca, .ref a_ty, .ref a_io, .ref a_ex, .ref a_lo, .int 0, .ref a_fi, .int 0, .ref a_cl, .int 0])), (a_tx, .inr (4, [.ref a_sg, .int 0, .int 0, .int (-1)]))] s.heap.size = A at hD hZ ⊢
  have hA : ∀ q : Nat, s.heap.size ≤ q → A q := fun q h => by rw [← hAe]; exact Or.inr h
  clear hAe hD0
  have hS : va_S A s.heap s.heap [] := va_S.rf
  replace hP : va_P (dC, dI) vwCl [(a_h, .inr (0, [.ref a_tx, .ref a_ru, .int 0, .ref a_cd, .ref a_te, .ref a_ki, .ref a_ca, .ref a_ty, .ref a_io, .ref a_ex, .ref a_lo, .int 0, .ref a_fi, .int 0, .ref a_cl, .int 0])), (a_tx, .inr (4, [.ref a_sg, .int 0, .int 0, .int (-1)]))] s.heap := hP
  have hl := lv_entry ([.ref a_h]) (n := 3) (Nat.le_of_ble_eq_true rfl)
  rw [lg_entry_eq]
  generalize (lg_sl ([.ref a_h]) ++ List.replicate (3 - (lg_sl ([.ref a_h])).length) Slot.unset).toArray = ls at hl ⊢
  replace hl : lv_has ls 3 [(0, .ref a_h)] := hl
  refine va_new (ci := 3) (fs := [.int 0, .int 0, .int 0, .int 0, .int 0, .int 0, .int 0, .int 0, .int 0, .int 0, .int 0]) (C := "LoanRules$Rule") (T := Fz_R) (N := 11) hx hb hts it_R tz_R tz_R_ok hown (hts _ tw_86) (hts _ tw_167) (hts _ tw_47) hK hP hD hS hA rfl (by decide) (Nat.le_of_ble_eq_true rfl) (Nat.le_of_ble_eq_true rfl) d_C_rule_0 (fun q_1 H hP hD hS => ?_)
  refine W.widen (k := 1) (n := 11) (by omega) (by omega) ?_
  replace hP : va_P (dC, dI) vwCl [(a_h, .inr (0, [.ref a_tx, .ref a_ru, .int 0, .ref a_cd, .ref a_te, .ref a_ki, .ref a_ca, .ref a_ty, .ref a_io, .ref a_ex, .ref a_lo, .int 0, .ref a_fi, .int 0, .ref a_cl, .int 0])), (a_tx, .inr (4, [.ref a_sg, .int 0, .int 0, .int (-1)])), (q_1, .inr (3, [.int 0, .int 0, .int 0, .int 0, .int 0, .int 0, .int 0, .int 0, .int 0, .int 0, .int 0]))] H := hP
  replace hD : va_D A [(a_h, .inr (0, [.ref a_tx, .ref a_ru, .int 0, .ref a_cd, .ref a_te, .ref a_ki, .ref a_ca, .ref a_ty, .ref a_io, .ref a_ex, .ref a_lo, .int 0, .ref a_fi, .int 0, .ref a_cl, .int 0])), (a_tx, .inr (4, [.ref a_sg, .int 0, .int 0, .int (-1)])), (q_1, .inr (3, [.int 0, .int 0, .int 0, .int 0, .int 0, .int 0, .int 0, .int 0, .int 0, .int 0, .int 0]))] := hD
  refine lv_dup hx hb d_C_rule_3 rfl ?_
  have hPc := hP.sub (ws' := [(q_1, .inr (3, [.int 0, .int 0, .int 0, .int 0, .int 0, .int 0, .int 0, .int 0, .int 0, .int 0, .int 0]))]) [2] rfl
  have hKc := hK.sub (tys' := []) [] rfl
  have hDc := hD.sub (ws' := [(q_1, .inr (3, [.int 0, .int 0, .int 0, .int 0, .int 0, .int 0, .int 0, .int 0, .int 0, .int 0, .int 0]))]) [2] (by decide) rfl
  have hFc := va_free (wc := [(q_1, .inr (3, [.int 0, .int 0, .int 0, .int 0, .int 0, .int 0, .int 0, .int 0, .int 0, .int 0, .int 0]))]) hD hS hA [2] rfl
  refine va_callv (va_runIN (As := []) (rest := [.ref q_1]) ⟨hx, hb, hml, hown, hts⟩ (c_Rule_init l dC dI adK adV (a_to := q_1) (sz := H.size)) ⟨va_cnB 0 hts (gI tw_170) rfl rfl rfl (zn_C_84 hZ) (hts _ tw_47) (by decide +kernel) ⟨(Nat.le_of_ble_eq_true rfl), (Nat.le_of_ble_eq_true rfl)⟩, rfl, (hts _ tw_169)⟩ ⟨fun a U g mk q => by obtain ⟨q0, q1, qZ, qP, qK, qD⟩ := q; exact ⟨q0, q1, zz_call qZ, qP, va_K.moved (u := U) (U := U.calling g mk a) (Vm.Alike.refl U.vm) qK, qD⟩, fun U hU hW => ⟨rfl, by rw [hU], zz_rw hS hFc hU hW hZ, by rw [hU]; exact hPc, va_K.moved hW.alike hKc, hDc.weaken (fun _ _ _ _ => trivial)⟩⟩ rfl rfl hl.1 rfl (lv_room (Nat.le_of_ble_eq_true rfl)) d_C_rule_4 ⟨(Nat.le_of_ble_eq_true rfl), (Nat.le_of_ble_eq_true rfl)⟩) hS (fun q _ h => hFc q h) hFc (fun u t H1 locs ht hvm hw_2 hB hz1 hk1 hS => ?_)
  obtain ⟨hP1, hK1, hD1⟩ := hB
  rw [ht] at hP1
  have hK1 := va_K.moved hvm.symm hK1
  obtain ⟨hP, hD⟩ := va_join (wr := [(a_h, .inr (0, [.ref a_tx, .ref a_ru, .int 0, .ref a_cd, .ref a_te, .ref a_ki, .ref a_ca, .ref a_ty, .ref a_io, .ref a_ex, .ref a_lo, .int 0, .ref a_fi, .int 0, .ref a_cl, .int 0])), (a_tx, .inr (4, [.ref a_sg, .int 0, .int 0, .int (-1)]))]) (w1 := [(q_1, .inr (3, [.int (-1), .int (-1), .int (-1), .int 2, .int 0, .int 0, .int 0, .int 7, .int 0, .int 0, .int 0]))]) hP hD [2] [0, 1] rfl rfl (by decide) (by decide) hk1 hFc hP1 hD1
  have hK := (hK.sub (tys' := []) [] rfl).app hK1
  generalize H1 = H at hP hS ⊢
  replace hP : va_P (dC, dI) vwCl [(a_h, .inr (0, [.ref a_tx, .ref a_ru, .int 0, .ref a_cd, .ref a_te, .ref a_ki, .ref a_ca, .ref a_ty, .ref a_io, .ref a_ex, .ref a_lo, .int 0, .ref a_fi, .int 0, .ref a_cl, .int 0])), (a_tx, .inr (4, [.ref a_sg, .int 0, .int 0, .int (-1)])), (q_1, .inr (3, [.int (-1), .int (-1), .int (-1), .int 2, .int 0, .int 0, .int 0, .int 7, .int 0, .int 0, .int 0]))] H := hP
  replace hD : va_D A [(a_h, .inr (0, [.ref a_tx, .ref a_ru, .int 0, .ref a_cd, .ref a_te, .ref a_ki, .ref a_ca, .ref a_ty, .ref a_io, .ref a_ex, .ref a_lo, .int 0, .ref a_fi, .int 0, .ref a_cl, .int 0])), (a_tx, .inr (4, [.ref a_sg, .int 0, .int 0, .int (-1)])), (q_1, .inr (3, [.int (-1), .int (-1), .int (-1), .int 2, .int 0, .int 0, .int 0, .int 7, .int 0, .int 0, .int 0]))] := hD
  replace hK : va_K (dC, dI) vwCl [] s := hK
  refine lv_astore_n (lv' := [(1, .ref q_1), (0, .ref a_h)]) hx hb d_C_rule_7 rfl hl (by decide) rfl (fun ls hl => ?_)
  refine lv_aload_n hx hb d_C_rule_8 rfl (lv_at hl 1 rfl) ?_
  refine va_get (D := (dC, dI)) (ci := 0) (v := .ref a_tx) (C := "LoanRules") (T := Fz_C) (N := 16) hx hb hts it_C hown hK hP 0 rfl rfl 0 (by decide) (hts _ tw_104) (fun _ h9 => h9) rfl d_C_rule_9 ?_
  refine lv_aload_n hx hb d_C_rule_12 rfl (lv_at hl 0 rfl) ?_
  have hPc := hP.sub (ws' := [(a_tx, .inr (4, [.ref a_sg, .int 0, .int 0, .int (-1)])), (q_1, .inr (3, [.int (-1), .int (-1), .int (-1), .int 2, .int 0, .int 0, .int 0, .int 7, .int 0, .int 0, .int 0]))]) [1, 2] rfl
  have hKc := hK.sub (tys' := []) [] rfl
  have hDc := hD.sub (ws' := [(a_tx, .inr (4, [.ref a_sg, .int 0, .int 0, .int (-1)])), (q_1, .inr (3, [.int (-1), .int (-1), .int (-1), .int 2, .int 0, .int 0, .int 0, .int 7, .int 0, .int 0, .int 0]))]) [1, 2] (by decide) rfl
  have hFc := va_free (wc := [(a_tx, .inr (4, [.ref a_sg, .int 0, .int 0, .int (-1)])), (q_1, .inr (3, [.int (-1), .int (-1), .int (-1), .int 2, .int 0, .int 0, .int 0, .int 7, .int 0, .int 0, .int 0]))]) hD hS hA [1, 2] rfl
  refine va_calli (va_runV (As := [.ref q_1]) (rest := []) ⟨hx, hb, hml, hown, hts⟩ (c_readInto l dC dI adK adV (a_tx := a_tx) (a_to := q_1) (a_sg := a_sg) (sz := H.size)) (cwV 1 hts (gV tw_226 tw_227 tw_228 tw_43 tw_229) rfl rfl rfl (by decide +kernel) ⟨(Nat.le_of_ble_eq_true rfl), (Nat.le_of_ble_eq_true rfl)⟩) ⟨fun a U g mk q => by obtain ⟨q0, q1, qZ, qP, qK, qD⟩ := q; exact ⟨q0, q1, zz_call qZ, qP, va_K.moved (u := U) (U := U.calling g mk a) (Vm.Alike.refl U.vm) qK, qD⟩, va_recv hKc hPc (ci := 4) (q0 := 0) rfl rfl, fun U hU hW => ⟨rfl, by rw [hU], zz_rw hS hFc hU hW hZ, by rw [hU]; exact hPc, va_K.moved hW.alike hKc, hDc.weaken (fun _ _ _ _ => trivial)⟩⟩ rfl rfl hl.1 rfl (lv_room (Nat.le_of_ble_eq_true rfl)) d_C_rule_13 ⟨(Nat.le_of_ble_eq_true rfl), (Nat.le_of_ble_eq_true rfl)⟩) hS (fun q _ h => hFc q h) hFc (fun r_3 u t H1 locs ht hvm hw_4 hB hz1 hk1 hS => ?_)
  obtain rfl : r_3 = 0 := hw_4
  obtain ⟨hP1, hK1, hD1⟩ := hB
  rw [ht] at hP1
  have hK1 := va_K.moved hvm.symm hK1
  obtain ⟨hP, hD⟩ := va_join (wr := [(a_h, .inr (0, [.ref a_tx, .ref a_ru, .int 0, .ref a_cd, .ref a_te, .ref a_ki, .ref a_ca, .ref a_ty, .ref a_io, .ref a_ex, .ref a_lo, .int 0, .ref a_fi, .int 0, .ref a_cl, .int 0]))]) (w1 := [(a_tx, .inr (4, [.ref a_sg, .int 0, .int 0, .int 0]))]) hP hD [1, 2] [0] rfl rfl (by decide) (by decide) hk1 hFc hP1 hD1
  have hK := (hK.sub (tys' := []) [] rfl).app hK1
  generalize H1 = H at hP hS ⊢
  replace hP : va_P (dC, dI) vwCl [(a_h, .inr (0, [.ref a_tx, .ref a_ru, .int 0, .ref a_cd, .ref a_te, .ref a_ki, .ref a_ca, .ref a_ty, .ref a_io, .ref a_ex, .ref a_lo, .int 0, .ref a_fi, .int 0, .ref a_cl, .int 0])), (a_tx, .inr (4, [.ref a_sg, .int 0, .int 0, .int 0]))] H := hP
  replace hD : va_D A [(a_h, .inr (0, [.ref a_tx, .ref a_ru, .int 0, .ref a_cd, .ref a_te, .ref a_ki, .ref a_ca, .ref a_ty, .ref a_io, .ref a_ex, .ref a_lo, .int 0, .ref a_fi, .int 0, .ref a_cl, .int 0])), (a_tx, .inr (4, [.ref a_sg, .int 0, .int 0, .int 0]))] := hD
  replace hK : va_K (dC, dI) vwCl [] s := hK
  refine lv_istore_n (lv' := [(2, .int 0), (1, .ref q_1), (0, .ref a_h)]) hx hb d_C_rule_16 rfl hl (by decide) rfl (fun ls hl => ?_)
  refine lv_aload_n hx hb d_C_rule_17 rfl (lv_at hl 2 rfl) ?_
  refine va_get (D := (dC, dI)) (ci := 0) (v := .ref a_tx) (C := "LoanRules") (T := Fz_C) (N := 16) hx hb hts it_C hown hK hP 0 rfl rfl 0 (by decide) (hts _ tw_104) (fun _ h9 => h9) rfl d_C_rule_18 ?_
  have hPc := hP.sub (ws' := [(a_tx, .inr (4, [.ref a_sg, .int 0, .int 0, .int 0]))]) [1] rfl
  have hKc := hK.sub (tys' := []) [] rfl
  have hDc := hD.sub (ws' := [(a_tx, .inr (4, [.ref a_sg, .int 0, .int 0, .int 0]))]) [1] (by decide) rfl
  have hFc := va_free (wc := [(a_tx, .inr (4, [.ref a_sg, .int 0, .int 0, .int 0]))]) hD hS hA [1] rfl
  refine va_callv (va_runV (As := []) (rest := []) ⟨hx, hb, hml, hown, hts⟩ (c_forget l dC dI adK adV (a_tx := a_tx) (a_sg := a_sg) (sz := H.size)) (cwV 0 hts (gV tw_343 tw_344 tw_345 tw_43 tw_346) rfl rfl rfl (by decide +kernel) ⟨(Nat.le_of_ble_eq_true rfl), (Nat.le_of_ble_eq_true rfl)⟩) ⟨fun a U g mk q => by obtain ⟨q0, q1, qZ, qP, qK, qD⟩ := q; exact ⟨q0, q1, zz_call qZ, qP, va_K.moved (u := U) (U := U.calling g mk a) (Vm.Alike.refl U.vm) qK, qD⟩, va_recv hKc hPc (ci := 4) (q0 := 0) rfl rfl, fun U hU hW => ⟨rfl, by rw [hU], zz_rw hS hFc hU hW hZ, by rw [hU]; exact hPc, va_K.moved hW.alike hKc, hDc.weaken (fun _ _ _ _ => trivial)⟩⟩ rfl rfl hl.1 rfl (lv_room (Nat.le_of_ble_eq_true rfl)) d_C_rule_21 ⟨(Nat.le_of_ble_eq_true rfl), (Nat.le_of_ble_eq_true rfl)⟩) hS (fun q _ h => hFc q h) hFc (fun u t H1 locs ht hvm hw_5 hB hz1 hk1 hS => ?_)
  obtain ⟨hP, hD⟩ := va_join (wr := [(a_h, .inr (0, [.ref a_tx, .ref a_ru, .int 0, .ref a_cd, .ref a_te, .ref a_ki, .ref a_ca, .ref a_ty, .ref a_io, .ref a_ex, .ref a_lo, .int 0, .ref a_fi, .int 0, .ref a_cl, .int 0]))]) (w1 := []) hP hD [1] [0] rfl rfl (by decide) (by decide) hk1 hFc wn_P wn_D
  have hK := hK.sub (tys' := []) [] rfl
  generalize H1 = H at hP hS ⊢
  replace hP : va_P (dC, dI) vwCl [(a_h, .inr (0, [.ref a_tx, .ref a_ru, .int 0, .ref a_cd, .ref a_te, .ref a_ki, .ref a_ca, .ref a_ty, .ref a_io, .ref a_ex, .ref a_lo, .int 0, .ref a_fi, .int 0, .ref a_cl, .int 0]))] H := hP
  replace hD : va_D A [(a_h, .inr (0, [.ref a_tx, .ref a_ru, .int 0, .ref a_cd, .ref a_te, .ref a_ki, .ref a_ca, .ref a_ty, .ref a_io, .ref a_ex, .ref a_lo, .int 0, .ref a_fi, .int 0, .ref a_cl, .int 0]))] := hD
  refine lv_iload_n hx hb d_C_rule_24 rfl (lv_at hl 0 rfl) ?_
  refine lv_iconst (v := (-1)) hx hb d_C_rule_25 (by decide) ?_
  refine lv_icmp_eq (tgt := 33) hx hb d_C_rule_26 (by decide) (fun c_6 => ?_) (fun c_6 => ?_)
  · exact absurd c_6 (by decide)
  · refine lv_iconst (v := (-1)) hx hb d_C_rule_29 (by decide) ?_
    refine lv_iload_n hx hb d_C_rule_30 rfl (lv_at hl 0 rfl) ?_
    refine lv_isub hx hb d_C_rule_31 ?_
    refine lv_topi (fun x_7 ex_7 => ?_)
    obtain rfl : x_7 = (-1) := ex_7.trans (by decide)
    exact W.iret (v := (-1)) hx hb hr (fun t ht hW => ⟨⟨(-1), (), rfl, rfl, trivial⟩, hS.F ht⟩) hS.2.2 d_C_rule_32
set_option maxHeartbeats 4000000 in
set_option maxRecDepth 100000 in
theorem c_RuleText_init (l : Launch) (dC : Nat → ClassId) (dI : Nat → Nat → Nat) (adK adV : Nat → Nat) (a_tx : Nat) (sz : Nat) : Met l y_T_init ws_T_init ({ frames := 1, cells := 1, slots := 120, locals := 12 }) (va_Pc [.ref a_tx] (fun U => U.heap.size = sz ∧ zz adK adV (va_A [(a_tx, .inr (4, [.null, .int 0, .int 0, .int 0]))] sz) U ∧ va_P (dC, dI) vwCl [(a_tx, .inr (4, [.null, .int 0, .int 0, .int 0]))] U.heap ∧ va_K (dC, dI) vwCl [] U ∧ va_D (fun _ => True) [(a_tx, .inr (4, [.null, .int 0, .int 0, .int 0]))])) (va_Qv (fun _ : Unit => True) (fun (_ : Unit) (t : State) => ∃ q_1 : Nat, ∃ cA_2 : ClassId, va_P (dC, dI) vwCl [(a_tx, .inr (4, [.ref q_1, .int 0, .int 0, .int (-1)])), (q_1, .inl (cA_2, 120, .inl (fun _ => 0)))] t.heap ∧ va_K (dC, dI) vwCl [(cA_2, .char)] t ∧ va_D (va_A [(a_tx, .inr (4, [.null, .int 0, .int 0, .int 0]))] sz) [(a_tx, .inr (4, [.ref q_1, .int 0, .int 0, .int (-1)])), (q_1, .inl (cA_2, 120, .inl (fun _ => 0)))]) (va_A [(a_tx, .inr (4, [.null, .int 0, .int 0, .int 0]))] sz)) 1 120 (va_A [(a_tx, .inr (4, [.null, .int 0, .int 0, .int 0]))] sz) := by
  refine Met.ofW (cc := c_T_init) (maxL := 1) (ret := none) (by decide) rfl ?_
  intro p e s m args below meth c s₁ B hml hv
  obtain ⟨rfl, hsz, hZ, hP, hK, hD0⟩ := hv
  have hx := B.exec
  have hb := B.bytes
  have hr := B.returns
  have hts0 := atoms_spec (ws := ws_T_init) B.pre
  have hts : ∀ w ∈ TT, w.before _ s = true := fun w h => hts0 w (List.mem_cons_of_mem _ h)
  have hown : s.vm.findClass "LoanRules$RuleText" = some m.cls := findClass_of_methodNamed B.named
  have hlocks := B.notSynchronized
  have hin : meth.name = "<init>" := (name_of_methodNamed B.named B.method).1
  subst hsz
  have hD := hD0.self (sz := s.heap.size)
  generalize hAe : va_A [(a_tx, .inr (4, [.null, .int 0, .int 0, .int 0]))] s.heap.size = A at hD hZ ⊢
  have hA : ∀ q : Nat, s.heap.size ≤ q → A q := fun q h => by rw [← hAe]; exact Or.inr h
  clear hAe hD0
  have hS : va_S A s.heap s.heap [] := va_S.rf
  replace hP : va_P (dC, dI) vwCl [(a_tx, .inr (4, [.null, .int 0, .int 0, .int 0]))] s.heap := hP
  have hl := lv_entry ([.ref a_tx]) (n := 1) (Nat.le_of_ble_eq_true rfl)
  rw [lg_entry_eq]
  generalize (lg_sl ([.ref a_tx]) ++ List.replicate (1 - (lg_sl ([.ref a_tx])).length) Slot.unset).toArray = ls at hl ⊢
  replace hl : lv_has ls 1 [(0, .ref a_tx)] := hl
  refine lv_aload_n hx hb d_T_init_0 rfl (lv_at hl 0 rfl) ?_
  refine W.objInit hx hb hown (hts _ tw_71) (hts _ tw_64) (hts _ tw_65) rfl (by rw [hml]; exact hl.1) rfl d_T_init_1 (Nat.le_of_ble_eq_true rfl) (Nat.le_of_ble_eq_true rfl) ?_
  refine W.eq (g2 := F0 m 4 ls []) rfl ?_
  refine lv_aload_n hx hb d_T_init_4 rfl (lv_at hl 0 rfl) ?_
  refine lv_bipush (v := 120) hx hb d_T_init_5 (by decide) ?_
  refine va_newa (D := (dC, dI)) (atype := .char) (ty := .char) (N' := 120) (a0 := (120, .inl (fun _ => 0))) hx hb (hts _ tw_85) rfl hK hP hD hS hA (fun _ => rfl) (by decide) (by decide) (by decide) (Nat.le_of_ble_eq_true rfl) (Nat.le_of_ble_eq_true rfl) d_T_init_7 (fun q_1 cA_2 H hK hP hD hS => ?_)
  refine W.widen (k := 1) (n := 120) (by omega) (by omega) ?_
  replace hP : va_P (dC, dI) vwCl [(a_tx, .inr (4, [.null, .int 0, .int 0, .int 0])), (q_1, .inl (cA_2, 120, .inl (fun _ => 0)))] H := hP
  replace hD : va_D A [(a_tx, .inr (4, [.null, .int 0, .int 0, .int 0])), (q_1, .inl (cA_2, 120, .inl (fun _ => 0)))] := hD
  replace hK : va_K (dC, dI) vwCl [(cA_2, .char)] s := hK
  refine va_putF (D := (dC, dI)) (ci := 4) (v := .ref q_1) (ty := (.array .char)) (C := "LoanRules$RuleText") (T := Fz_T) (N := 4) hx hb hts it_T tz_T tz_T_ok nz_T hown hK hP hD hS 0 rfl rfl 0 (by decide) (hts _ tw_72) (fun _ h9 => h9) rfl hin rfl (by decide +kernel) rfl rfl (Nat.le_of_ble_eq_true rfl) d_T_init_9 (fun H locs hP hD hS => ?_)
  replace hP : va_P (dC, dI) vwCl [(a_tx, .inr (4, [.ref q_1, .int 0, .int 0, .int 0])), (q_1, .inl (cA_2, 120, .inl (fun _ => 0)))] H := hP
  replace hD : va_D A [(a_tx, .inr (4, [.ref q_1, .int 0, .int 0, .int 0])), (q_1, .inl (cA_2, 120, .inl (fun _ => 0)))] := hD
  refine lv_aload_n hx hb d_T_init_12 rfl (lv_at hl 0 rfl) ?_
  refine lv_iconst (v := 0) hx hb d_T_init_13 (by decide) ?_
  refine va_put (D := (dC, dI)) (ci := 4) (v := .int 0) (ty := .int) (C := "LoanRules$RuleText") (T := Fz_T) (N := 4) hx hb hts it_T tz_T tz_T_ok nz_T hown hK hP hD hS 0 rfl rfl 1 (by decide) (hts _ tw_73) (fun _ h9 => h9) rfl (by decide +kernel) rfl rfl (Nat.le_of_ble_eq_true rfl) d_T_init_14 (fun H locs hP hD hS => ?_)
  replace hP : va_P (dC, dI) vwCl [(a_tx, .inr (4, [.ref q_1, .int 0, .int 0, .int 0])), (q_1, .inl (cA_2, 120, .inl (fun _ => 0)))] H := hP
  replace hD : va_D A [(a_tx, .inr (4, [.ref q_1, .int 0, .int 0, .int 0])), (q_1, .inl (cA_2, 120, .inl (fun _ => 0)))] := hD
  refine lv_aload_n hx hb d_T_init_17 rfl (lv_at hl 0 rfl) ?_
  refine lv_iconst (v := 0) hx hb d_T_init_18 (by decide) ?_
  refine va_put (D := (dC, dI)) (ci := 4) (v := .int 0) (ty := .int) (C := "LoanRules$RuleText") (T := Fz_T) (N := 4) hx hb hts it_T tz_T tz_T_ok nz_T hown hK hP hD hS 0 rfl rfl 2 (by decide) (hts _ tw_74) (fun _ h9 => h9) rfl (by decide +kernel) rfl rfl (Nat.le_of_ble_eq_true rfl) d_T_init_19 (fun H locs hP hD hS => ?_)
  replace hP : va_P (dC, dI) vwCl [(a_tx, .inr (4, [.ref q_1, .int 0, .int 0, .int 0])), (q_1, .inl (cA_2, 120, .inl (fun _ => 0)))] H := hP
  replace hD : va_D A [(a_tx, .inr (4, [.ref q_1, .int 0, .int 0, .int 0])), (q_1, .inl (cA_2, 120, .inl (fun _ => 0)))] := hD
  refine lv_aload_n hx hb d_T_init_22 rfl (lv_at hl 0 rfl) ?_
  refine lv_iconst (v := (-1)) hx hb d_T_init_23 (by decide) ?_
  refine va_put (D := (dC, dI)) (ci := 4) (v := .int (-1)) (ty := .int) (C := "LoanRules$RuleText") (T := Fz_T) (N := 4) hx hb hts it_T tz_T tz_T_ok nz_T hown hK hP hD hS 0 rfl rfl 3 (by decide) (hts _ tw_75) (fun _ h9 => h9) rfl (by decide +kernel) rfl rfl (Nat.le_of_ble_eq_true rfl) d_T_init_24 (fun H locs hP hD hS => ?_)
  replace hP : va_P (dC, dI) vwCl [(a_tx, .inr (4, [.ref q_1, .int 0, .int 0, .int (-1)])), (q_1, .inl (cA_2, 120, .inl (fun _ => 0)))] H := hP
  replace hD : va_D A [(a_tx, .inr (4, [.ref q_1, .int 0, .int 0, .int (-1)])), (q_1, .inl (cA_2, 120, .inl (fun _ => 0)))] := hD
  have hP9 := hP.sub (ws' := [(a_tx, .inr (4, [.ref q_1, .int 0, .int 0, .int (-1)])), (q_1, .inl (cA_2, 120, .inl (fun _ => 0)))]) [0, 1] rfl
  have hD9 := hD.sub (ws' := [(a_tx, .inr (4, [.ref q_1, .int 0, .int 0, .int (-1)])), (q_1, .inl (cA_2, 120, .inl (fun _ => 0)))]) [0, 1] (by decide) rfl
  have hK9 := hK.sub (tys' := [(cA_2, .char)]) [0] rfl
  exact W.vret hx hb hr (fun t ht hW => ⟨⟨(), rfl, trivial, q_1, cA_2, by rw [ht]; exact hP9, va_K.moved hW.alike hK9, hD9⟩, hS.F ht⟩) hS.2.2 d_T_init_27
set_option maxHeartbeats 4000000 in
set_option maxRecDepth 100000 in
theorem c_DaySet_init (l : Launch) (dC : Nat → ClassId) (dI : Nat → Nat → Nat) (adK adV : Nat → Nat) (a_cd : Nat) (sz : Nat) : Met l y_D_init ws_D_init ({ frames := 1, cells := 1, slots := 157, locals := 12 }) (va_Pc [.ref a_cd] (fun U => U.heap.size = sz ∧ zz adK adV (va_A [(a_cd, .inr (1, [.null]))] sz) U ∧ va_P (dC, dI) vwCl [(a_cd, .inr (1, [.null]))] U.heap ∧ va_K (dC, dI) vwCl [] U ∧ va_D (fun _ => True) [(a_cd, .inr (1, [.null]))])) (va_Qv (fun _ : Unit => True) (fun (_ : Unit) (t : State) => ∃ q_1 : Nat, ∃ cA_2 : ClassId, va_P (dC, dI) vwCl [(a_cd, .inr (1, [.ref q_1])), (q_1, .inl (cA_2, 157, .inr (.inl (fun _ => 0))))] t.heap ∧ va_K (dC, dI) vwCl [(cA_2, .long)] t ∧ va_D (va_A [(a_cd, .inr (1, [.null]))] sz) [(a_cd, .inr (1, [.ref q_1])), (q_1, .inl (cA_2, 157, .inr (.inl (fun _ => 0))))]) (va_A [(a_cd, .inr (1, [.null]))] sz)) 1 157 (va_A [(a_cd, .inr (1, [.null]))] sz) := by
  refine Met.ofW (cc := c_D_init) (maxL := 1) (ret := none) (by decide) rfl ?_
  intro p e s m args below meth c s₁ B hml hv
  obtain ⟨rfl, hsz, hZ, hP, hK, hD0⟩ := hv
  have hx := B.exec
  have hb := B.bytes
  have hr := B.returns
  have hts0 := atoms_spec (ws := ws_D_init) B.pre
  have hts : ∀ w ∈ TT, w.before _ s = true := fun w h => hts0 w (List.mem_cons_of_mem _ h)
  have hown : s.vm.findClass "LoanRules$DaySet" = some m.cls := findClass_of_methodNamed B.named
  have hlocks := B.notSynchronized
  have hin : meth.name = "<init>" := (name_of_methodNamed B.named B.method).1
  subst hsz
  have hD := hD0.self (sz := s.heap.size)
  generalize hAe : va_A [(a_cd, .inr (1, [.null]))] s.heap.size = A at hD hZ ⊢
  have hA : ∀ q : Nat, s.heap.size ≤ q → A q := fun q h => by rw [← hAe]; exact Or.inr h
  clear hAe hD0
  have hS : va_S A s.heap s.heap [] := va_S.rf
  replace hP : va_P (dC, dI) vwCl [(a_cd, .inr (1, [.null]))] s.heap := hP
  have hl := lv_entry ([.ref a_cd]) (n := 1) (Nat.le_of_ble_eq_true rfl)
  rw [lg_entry_eq]
  generalize (lg_sl ([.ref a_cd]) ++ List.replicate (1 - (lg_sl ([.ref a_cd])).length) Slot.unset).toArray = ls at hl ⊢
  replace hl : lv_has ls 1 [(0, .ref a_cd)] := hl
  refine lv_aload_n hx hb d_D_init_0 rfl (lv_at hl 0 rfl) ?_
  refine W.objInit hx hb hown (hts _ tw_93) (hts _ tw_64) (hts _ tw_65) rfl (by rw [hml]; exact hl.1) rfl d_D_init_1 (Nat.le_of_ble_eq_true rfl) (Nat.le_of_ble_eq_true rfl) ?_
  refine W.eq (g2 := F0 m 4 ls []) rfl ?_
  refine lv_aload_n hx hb d_D_init_4 rfl (lv_at hl 0 rfl) ?_
  refine lv_sipush (v := 157) hx hb d_D_init_5 (by decide) ?_
  refine va_newa (D := (dC, dI)) (atype := .long) (ty := .long) (N' := 157) (a0 := (157, .inr (.inl (fun _ => 0)))) hx hb (hts _ tw_98) rfl hK hP hD hS hA (fun _ => rfl) (by decide) (by decide) (by decide) (Nat.le_of_ble_eq_true rfl) (Nat.le_of_ble_eq_true rfl) d_D_init_8 (fun q_1 cA_2 H hK hP hD hS => ?_)
  refine W.widen (k := 1) (n := 157) (by omega) (by omega) ?_
  replace hP : va_P (dC, dI) vwCl [(a_cd, .inr (1, [.null])), (q_1, .inl (cA_2, 157, .inr (.inl (fun _ => 0))))] H := hP
  replace hD : va_D A [(a_cd, .inr (1, [.null])), (q_1, .inl (cA_2, 157, .inr (.inl (fun _ => 0))))] := hD
  replace hK : va_K (dC, dI) vwCl [(cA_2, .long)] s := hK
  refine va_putF (D := (dC, dI)) (ci := 1) (v := .ref q_1) (ty := (.array .long)) (C := "LoanRules$DaySet") (T := Fz_D) (N := 1) hx hb hts it_D tz_D tz_D_ok nz_D hown hK hP hD hS 0 rfl rfl 0 (by decide) (hts _ tw_94) (fun _ h9 => h9) rfl hin rfl (by decide +kernel) rfl rfl (Nat.le_of_ble_eq_true rfl) d_D_init_10 (fun H locs hP hD hS => ?_)
  replace hP : va_P (dC, dI) vwCl [(a_cd, .inr (1, [.ref q_1])), (q_1, .inl (cA_2, 157, .inr (.inl (fun _ => 0))))] H := hP
  replace hD : va_D A [(a_cd, .inr (1, [.ref q_1])), (q_1, .inl (cA_2, 157, .inr (.inl (fun _ => 0))))] := hD
  have hP9 := hP.sub (ws' := [(a_cd, .inr (1, [.ref q_1])), (q_1, .inl (cA_2, 157, .inr (.inl (fun _ => 0))))]) [0, 1] rfl
  have hD9 := hD.sub (ws' := [(a_cd, .inr (1, [.ref q_1])), (q_1, .inl (cA_2, 157, .inr (.inl (fun _ => 0))))]) [0, 1] (by decide) rfl
  have hK9 := hK.sub (tys' := [(cA_2, .long)]) [0] rfl
  exact W.vret hx hb hr (fun t ht hW => ⟨⟨(), rfl, trivial, q_1, cA_2, by rw [ht]; exact hP9, va_K.moved hW.alike hK9, hD9⟩, hS.F ht⟩) hS.2.2 d_D_init_13
set_option maxHeartbeats 4000000 in
set_option maxRecDepth 100000 in
theorem c_fill (l : Launch) (dC : Nat → ClassId) (dI : Nat → Nat → Nat) (adK adV : Nat → Nat) (a_ex : Nat) (k_ex : ClassId) (f0 : Nat → Int32) (sz : Nat) : Met l y_AR_fill ws_AR_fill ({ frames := 0, cells := 0, slots := 0, locals := 0 }) (va_Pc [.ref a_ex, .int (-1)] (fun U => U.heap.size = sz ∧ zz adK adV (va_A [(a_ex, .inl (k_ex, 2000, .inl f0))] sz) U ∧ va_P (dC, dI) vwCl [(a_ex, .inl (k_ex, 2000, .inl f0))] U.heap ∧ va_K (dC, dI) vwCl [(k_ex, .int)] U ∧ va_D (fun _ => True) [(a_ex, .inl (k_ex, 2000, .inl f0))])) (va_Qv (fun _ : Nat → Int32 => True) (fun (u : Nat → Int32) (t : State) => va_P (dC, dI) vwCl [(a_ex, .inl (k_ex, 2000, .inl u))] t.heap ∧ va_K (dC, dI) vwCl [(k_ex, .int)] t ∧ va_D (va_A [(a_ex, .inl (k_ex, 2000, .inl f0))] sz) [(a_ex, .inl (k_ex, 2000, .inl u))]) (va_A [(a_ex, .inl (k_ex, 2000, .inl f0))] sz)) 0 0 (va_A [(a_ex, .inl (k_ex, 2000, .inl f0))] sz) := by
  refine Met.ofW (cc := c_AR_fill) (maxL := 4) (ret := none) (by decide) rfl ?_
  intro p e s m args below meth c s₁ B hml hv
  obtain ⟨rfl, hsz, hZ, hP, hK, hD0⟩ := hv
  have hx := B.exec
  have hb := B.bytes
  have hr := B.returns
  have hts0 := atoms_spec (ws := ws_AR_fill) B.pre
  have hts : ∀ w ∈ TT, w.before _ s = true := fun w h => hts0 w (List.mem_cons_of_mem _ h)
  have hown : s.vm.findClass "java/util/Arrays" = some m.cls := findClass_of_methodNamed B.named
  have hlocks := B.notSynchronized
  subst hsz
  have hD := hD0.self (sz := s.heap.size)
  generalize hAe : va_A [(a_ex, .inl (k_ex, 2000, .inl f0))] s.heap.size = A at hD hZ ⊢
  have hA : ∀ q : Nat, s.heap.size ≤ q → A q := fun q h => by rw [← hAe]; exact Or.inr h
  clear hAe hD0
  have hS : va_S A s.heap s.heap [] := va_S.rf
  replace hP : va_P (dC, dI) vwCl [(a_ex, .inl (k_ex, 2000, .inl f0))] s.heap := hP
  have hl := lv_entry ([.ref a_ex, .int (-1)]) (n := 4) (Nat.le_of_ble_eq_true rfl)
  rw [lg_entry_eq]
  generalize (lg_sl ([.ref a_ex, .int (-1)]) ++ List.replicate (4 - (lg_sl ([.ref a_ex, .int (-1)])).length) Slot.unset).toArray = ls at hl ⊢
  replace hl : lv_has ls 4 [(0, .ref a_ex), (1, .int (-1))] := hl
  refine lv_iconst (v := 0) hx hb d_AR_fill_0 (by decide) ?_
  refine lv_istore_n (lv' := [(2, .int 0), (0, .ref a_ex), (1, .int (-1))]) hx hb d_AR_fill_1 rfl hl (by decide) rfl (fun ls hl => ?_)
  refine lv_aload_n hx hb d_AR_fill_2 rfl (lv_at hl 1 rfl) ?_
  refine va_alen (D := (dC, dI)) (v := 2000) hx hb hK hP 0 0 rfl rfl rfl d_AR_fill_3 ?_
  refine lv_istore_n (lv' := [(3, .int 2000), (2, .int 0), (0, .ref a_ex), (1, .int (-1))]) hx hb d_AR_fill_4 rfl hl (by decide) rfl (fun ls hl => ?_)
  obtain ⟨H, hHe⟩ : ∃ H, H = s.heap := ⟨_, rfl⟩
  obtain ⟨locs, hLe⟩ : ∃ locs : List Loc, locs = [] := ⟨_, rfl⟩
  replace hP : va_P (dC, dI) vwCl [(a_ex, .inl (k_ex, 2000, .inl f0))] H := by rw [hHe]; exact hP
  replace hS : va_S A s.heap H locs := by rw [hHe, hLe]; exact hS
  refine fl_gen hHe hLe ?_
  clear hHe hLe
  obtain ⟨n, i, hni, hi0⟩ : ∃ n i : Nat, i + n = 2000 ∧ nI i = 0 := ⟨2000, 0, rfl, by decide⟩
  replace hl : lv_has ls 4 [(3, .int 2000), (2, .int (nI i)), (0, .ref a_ex), (1, .int (-1))] := by rw [hi0]; exact hl
  clear hi0
  induction n generalizing i ls H locs f0 with
  | zero =>
    obtain rfl : i = 2000 := by omega
    replace hl : lv_has ls 4 [(3, .int 2000), (2, .int 2000), (0, .ref a_ex), (1, .int (-1))] := by have e9 : nI 2000 = 2000 := (by decide); rw [e9] at hl; exact hl
    refine lv_iload_n hx hb d_AR_fill_5 rfl (lv_at hl 1 rfl) ?_
    refine lv_iload_n hx hb d_AR_fill_6 rfl (lv_at hl 0 rfl) ?_
    refine lv_icmp_ge (tgt := 20) hx hb d_AR_fill_7 (by decide) (fun c_1 => ?_) (fun c_1 => ?_)
    · have hP9 := hP.sub (ws' := [(a_ex, .inl (k_ex, 2000, .inl f0))]) [0] rfl
      have hD9 := hD.sub (ws' := [(a_ex, .inl (k_ex, 2000, .inl f0))]) [0] (by decide) rfl
      have hK9 := hK.sub (tys' := [(k_ex, .int)]) [0] rfl
      exact W.vret hx hb hr (fun t ht hW => ⟨⟨f0, rfl, trivial, by rw [ht]; exact hP9, va_K.moved hW.alike hK9, hD9⟩, hS.F ht⟩) hS.2.2 d_AR_fill_20
    · exact absurd (by decide) c_1
  | succ n ih =>
    have hlt : i < 2000 := by omega
    refine lv_iload_n hx hb d_AR_fill_5 rfl (lv_at hl 1 rfl) ?_
    refine lv_iload_n hx hb d_AR_fill_6 rfl (lv_at hl 0 rfl) ?_
    refine lv_icmp_ge (tgt := 20) hx hb d_AR_fill_7 (by decide) (fun c_2 => ?_) (fun c_2 => ?_)
    · exact absurd c_2 (lk_ge2000 hlt)
    · refine lv_aload_n hx hb d_AR_fill_10 rfl (lv_at hl 2 rfl) ?_
      refine lv_iload_n hx hb d_AR_fill_11 rfl (lv_at hl 1 rfl) ?_
      refine lv_iload_n hx hb d_AR_fill_12 rfl (lv_at hl 3 rfl) ?_
      have i_3 : vp_in (nI i) 2000 := vp_in_nI hlt (by decide)
      refine va_iast (D := (dC, dI)) hx hb hK hP hD hS 0 0 rfl rfl i_3 d_AR_fill_13 (fun H locs hP hD hS => ?_)
      replace hP : va_P (dC, dI) vwCl [(a_ex, .inl (k_ex, 2000, .inl (upd f0 (nI i).toNatClampNeg (-1))))] H := hP
      replace hD : va_D A [(a_ex, .inl (k_ex, 2000, .inl (upd f0 (nI i).toNatClampNeg (-1))))] := hD
      refine lv_iinc (v := (nI i) + 1) (lv' := [(2, .int ((nI i) + 1)), (3, .int 2000), (0, .ref a_ex), (1, .int (-1))]) hx hb d_AR_fill_14 hl (k := 1) rfl rfl (by decide) rfl (fun ls hl => ?_)
      refine lv_goto (tgt := 5) hx hb d_AR_fill_17 (by decide) ?_
      replace hl := lv_sub hl [1, 0, 2, 3] rfl
      replace hl : lv_has ls 4 [(3, .int 2000), (2, .int (nI (i + 1))), (0, .ref a_ex), (1, .int (-1))] := by rw [← nI_1]; exact hl
      exact ih _ hD _ _ _ hP hS (i + 1) (by omega) hl
set_option maxHeartbeats 4000000 in
set_option maxRecDepth 100000 in
theorem c_LoanRules_init (l : Launch) (dC : Nat → ClassId) (dI : Nat → Nat → Nat) (adK adV : Nat → Nat) (a_h : Nat) (sz : Nat) : Met l y_C_init ws_C_init ({ frames := 2, cells := 15, slots := 3700, locals := 32 }) (va_Pc [.ref a_h] (fun U => U.heap.size = sz ∧ zz adK adV (va_A [(a_h, .inr (0, [.null, .null, .int 0, .null, .null, .null, .null, .null, .null, .null, .null, .int 0, .null, .int 0, .null, .int 0]))] sz) U ∧ va_P (dC, dI) vwCl [(a_h, .inr (0, [.null, .null, .int 0, .null, .null, .null, .null, .null, .null, .null, .null, .int 0, .null, .int 0, .null, .int 0]))] U.heap ∧ va_K (dC, dI) vwCl [] U ∧ va_D (fun _ => True) [(a_h, .inr (0, [.null, .null, .int 0, .null, .null, .null, .null, .null, .null, .null, .null, .int 0, .null, .int 0, .null, .int 0]))])) (va_Qv (fun _ : Unit => True) (fun (_ : Unit) (t : State) => ∃ q_1 : Nat, ∃ q_3 : Nat, ∃ q_5 : Nat, ∃ q_7 : Nat, ∃ q_9 : Nat, ∃ q_11 : Nat, ∃ q_13 : Nat, ∃ q_15 : Nat, ∃ q_17 : Nat, ∃ q_19 : Nat, ∃ q_21 : Nat, ∃ q_25 : Nat, ∃ q_27 : Nat, ∃ q_29 : Nat, ∃ q_23 : Nat, ∃ cA_4 : ClassId, ∃ cA_6 : ClassId, ∃ cA_10 : ClassId, ∃ cA_14 : ClassId, ∃ cA_16 : ClassId, ∃ cA_18 : ClassId, ∃ cA_20 : ClassId, ∃ cA_22 : ClassId, ∃ cA_26 : ClassId, ∃ cA_28 : ClassId, ∃ cA_30 : ClassId, ∃ cA_24 : ClassId, ∃ u_32 : Nat → Int32, va_P (dC, dI) vwCl [(a_h, .inr (0, [.ref q_1, .ref q_5, .int 0, .ref q_7, .ref q_11, .ref q_15, .ref q_17, .ref q_19, .ref q_21, .ref q_23, .ref q_25, .int 0, .ref q_27, .int 0, .ref q_29, .int 0])), (q_1, .inr (4, [.ref q_3, .int 0, .int 0, .int (-1)])), (q_3, .inl (cA_4, 120, .inl (fun _ => 0))), (q_5, .inl (cA_6, 40, .inr (.inr (.inr (.inr (fun _ => none)))))), (q_7, .inr (1, [.ref q_9])), (q_9, .inl (cA_10, 157, .inr (.inl (fun _ => 0)))), (q_11, .inr (1, [.ref q_13])), (q_13, .inl (cA_14, 157, .inr (.inl (fun _ => 0)))), (q_15, .inl (cA_16, 50, .inl (fun _ => 0))), (q_17, .inl (cA_18, 50, .inl (fun _ => 0))), (q_19, .inl (cA_20, 50, .inl (fun _ => 0))), (q_21, .inl (cA_22, 50, .inl (fun _ => 0))), (q_25, .inl (cA_26, 200, .inr (.inr (.inr (.inr (fun _ => none)))))), (q_27, .inl (cA_28, 40, .inl (fun _ => 0))), (q_29, .inl (cA_30, 780, .inl (fun _ => 0))), (q_23, .inl (cA_24, 2000, .inl u_32))] t.heap ∧ va_K (dC, dI) vwCl [(cA_4, .char), (cA_6, .object "LoanRules$Rule"), (cA_10, .long), (cA_14, .long), (cA_16, .int), (cA_18, .int), (cA_20, .int), (cA_22, .boolean), (cA_26, .object "LoanRules$Loan"), (cA_28, .int), (cA_30, .int), (cA_24, .int)] t ∧ va_D (va_A [(a_h, .inr (0, [.null, .null, .int 0, .null, .null, .null, .null, .null, .null, .null, .null, .int 0, .null, .int 0, .null, .int 0]))] sz) [(a_h, .inr (0, [.ref q_1, .ref q_5, .int 0, .ref q_7, .ref q_11, .ref q_15, .ref q_17, .ref q_19, .ref q_21, .ref q_23, .ref q_25, .int 0, .ref q_27, .int 0, .ref q_29, .int 0])), (q_1, .inr (4, [.ref q_3, .int 0, .int 0, .int (-1)])), (q_3, .inl (cA_4, 120, .inl (fun _ => 0))), (q_5, .inl (cA_6, 40, .inr (.inr (.inr (.inr (fun _ => none)))))), (q_7, .inr (1, [.ref q_9])), (q_9, .inl (cA_10, 157, .inr (.inl (fun _ => 0)))), (q_11, .inr (1, [.ref q_13])), (q_13, .inl (cA_14, 157, .inr (.inl (fun _ => 0)))), (q_15, .inl (cA_16, 50, .inl (fun _ => 0))), (q_17, .inl (cA_18, 50, .inl (fun _ => 0))), (q_19, .inl (cA_20, 50, .inl (fun _ => 0))), (q_21, .inl (cA_22, 50, .inl (fun _ => 0))), (q_25, .inl (cA_26, 200, .inr (.inr (.inr (.inr (fun _ => none)))))), (q_27, .inl (cA_28, 40, .inl (fun _ => 0))), (q_29, .inl (cA_30, 780, .inl (fun _ => 0))), (q_23, .inl (cA_24, 2000, .inl u_32))]) (va_A [(a_h, .inr (0, [.null, .null, .int 0, .null, .null, .null, .null, .null, .null, .null, .null, .int 0, .null, .int 0, .null, .int 0]))] sz)) 15 3700 (va_A [(a_h, .inr (0, [.null, .null, .int 0, .null, .null, .null, .null, .null, .null, .null, .null, .int 0, .null, .int 0, .null, .int 0]))] sz) := by
  refine Met.ofW (cc := c_C_init) (maxL := 1) (ret := none) (by decide) rfl ?_
  intro p e s m args below meth c s₁ B hml hv
  obtain ⟨rfl, hsz, hZ, hP, hK, hD0⟩ := hv
  have hx := B.exec
  have hb := B.bytes
  have hr := B.returns
  have hts0 := atoms_spec (ws := ws_C_init) B.pre
  have hts : ∀ w ∈ TT, w.before _ s = true := fun w h => hts0 w (List.mem_cons_of_mem _ h)
  have hown : s.vm.findClass "LoanRules" = some m.cls := findClass_of_methodNamed B.named
  have hlocks := B.notSynchronized
  have hin : meth.name = "<init>" := (name_of_methodNamed B.named B.method).1
  subst hsz
  have hD := hD0.self (sz := s.heap.size)
  generalize hAe : va_A [(a_h, .inr (0, [.null, .null, .int 0, .null, .null, .null, .null, .null, .null, .null, .null, .int 0, .null, .int 0, .null, .int 0]))] s.heap.size = A at hD hZ ⊢
  have hA : ∀ q : Nat, s.heap.size ≤ q → A q := fun q h => by rw [← hAe]; exact Or.inr h
  clear hAe hD0
  have hS : va_S A s.heap s.heap [] := va_S.rf
  replace hP : va_P (dC, dI) vwCl [(a_h, .inr (0, [.null, .null, .int 0, .null, .null, .null, .null, .null, .null, .null, .null, .int 0, .null, .int 0, .null, .int 0]))] s.heap := hP
  have hl := lv_entry ([.ref a_h]) (n := 1) (Nat.le_of_ble_eq_true rfl)
  rw [lg_entry_eq]
  generalize (lg_sl ([.ref a_h]) ++ List.replicate (1 - (lg_sl ([.ref a_h])).length) Slot.unset).toArray = ls at hl ⊢
  replace hl : lv_has ls 1 [(0, .ref a_h)] := hl
  refine lv_aload_n hx hb d_C_init_0 rfl (lv_at hl 0 rfl) ?_
  refine W.objInit hx hb hown (hts _ tw_63) (hts _ tw_64) (hts _ tw_65) rfl (by rw [hml]; exact hl.1) rfl d_C_init_1 (Nat.le_of_ble_eq_true rfl) (Nat.le_of_ble_eq_true rfl) ?_
  refine W.eq (g2 := F0 m 4 ls []) rfl ?_
  refine lv_aload_n hx hb d_C_init_4 rfl (lv_at hl 0 rfl) ?_
  refine va_new (ci := 4) (fs := [.null, .int 0, .int 0, .int 0]) (C := "LoanRules$RuleText") (T := Fz_T) (N := 4) hx hb hts it_T tz_T tz_T_ok hown (hts _ tw_66) (hts _ tw_67) (hts _ tw_43) hK hP hD hS hA rfl (by decide) (Nat.le_of_ble_eq_true rfl) (Nat.le_of_ble_eq_true rfl) d_C_init_5 (fun q_1 H hP hD hS => ?_)
  refine W.widen (k := 1) (n := 4) (by omega) (by omega) ?_
  replace hP : va_P (dC, dI) vwCl [(a_h, .inr (0, [.null, .null, .int 0, .null, .null, .null, .null, .null, .null, .null, .null, .int 0, .null, .int 0, .null, .int 0])), (q_1, .inr (4, [.null, .int 0, .int 0, .int 0]))] H := hP
  replace hD : va_D A [(a_h, .inr (0, [.null, .null, .int 0, .null, .null, .null, .null, .null, .null, .null, .null, .int 0, .null, .int 0, .null, .int 0])), (q_1, .inr (4, [.null, .int 0, .int 0, .int 0]))] := hD
  refine lv_dup hx hb d_C_init_8 rfl ?_
  have hPc := hP.sub (ws' := [(q_1, .inr (4, [.null, .int 0, .int 0, .int 0]))]) [1] rfl
  have hKc := hK.sub (tys' := []) [] rfl
  have hDc := hD.sub (ws' := [(q_1, .inr (4, [.null, .int 0, .int 0, .int 0]))]) [1] (by decide) rfl
  have hFc := va_free (wc := [(q_1, .inr (4, [.null, .int 0, .int 0, .int 0]))]) hD hS hA [1] rfl
  refine va_callv (va_runIN (As := []) (rest := [.ref q_1, .ref a_h]) ⟨hx, hb, hml, hown, hts⟩ (c_RuleText_init l dC dI adK adV (a_tx := q_1) (sz := H.size)) ⟨va_cnB 0 hts (gI tw_70) rfl rfl rfl (zn_C_11 hZ) (hts _ tw_43) (by decide +kernel) ⟨(Nat.le_of_ble_eq_true rfl), (Nat.le_of_ble_eq_true rfl)⟩, rfl, (hts _ tw_69)⟩ ⟨fun a U g mk q => by obtain ⟨q0, q1, qZ, qP, qK, qD⟩ := q; exact ⟨q0, q1, zz_call qZ, qP, va_K.moved (u := U) (U := U.calling g mk a) (Vm.Alike.refl U.vm) qK, qD⟩, fun U hU hW => ⟨rfl, by rw [hU], zz_rw hS hFc hU hW hZ, by rw [hU]; exact hPc, va_K.moved hW.alike hKc, hDc.weaken (fun _ _ _ _ => trivial)⟩⟩ rfl rfl hl.1 rfl (lv_room (Nat.le_of_ble_eq_true rfl)) d_C_init_9 ⟨(Nat.le_of_ble_eq_true rfl), (Nat.le_of_ble_eq_true rfl)⟩) hS (fun q _ h => hFc q h) hFc (fun u t H1 locs ht hvm hw_2 hB hz1 hk1 hS => ?_)
  refine W.widen (k := 2) (n := 124) (by omega) (by omega) ?_
  obtain ⟨q_3, cA_4, hP1, hK1, hD1⟩ := hB
  rw [ht] at hP1
  have hK1 := va_K.moved hvm.symm hK1
  obtain ⟨hP, hD⟩ := va_join (wr := [(a_h, .inr (0, [.null, .null, .int 0, .null, .null, .null, .null, .null, .null, .null, .null, .int 0, .null, .int 0, .null, .int 0]))]) (w1 := [(q_1, .inr (4, [.ref q_3, .int 0, .int 0, .int (-1)])), (q_3, .inl (cA_4, 120, .inl (fun _ => 0)))]) hP hD [1] [0] rfl rfl (by decide) (by decide) hk1 hFc hP1 hD1
  have hK := (hK.sub (tys' := []) [] rfl).app hK1
  generalize H1 = H at hP hS ⊢
  replace hP : va_P (dC, dI) vwCl [(a_h, .inr (0, [.null, .null, .int 0, .null, .null, .null, .null, .null, .null, .null, .null, .int 0, .null, .int 0, .null, .int 0])), (q_1, .inr (4, [.ref q_3, .int 0, .int 0, .int (-1)])), (q_3, .inl (cA_4, 120, .inl (fun _ => 0)))] H := hP
  replace hD : va_D A [(a_h, .inr (0, [.null, .null, .int 0, .null, .null, .null, .null, .null, .null, .null, .null, .int 0, .null, .int 0, .null, .int 0])), (q_1, .inr (4, [.ref q_3, .int 0, .int 0, .int (-1)])), (q_3, .inl (cA_4, 120, .inl (fun _ => 0)))] := hD
  replace hK : va_K (dC, dI) vwCl [(cA_4, .char)] s := hK
  refine va_putF (D := (dC, dI)) (ci := 0) (v := .ref q_1) (ty := (.object "LoanRules$RuleText")) (C := "LoanRules") (T := Fz_C) (N := 16) hx hb hts it_C tz_C tz_C_ok nz_C hown hK hP hD hS 0 rfl rfl 0 (by decide) (hts _ tw_104) (fun _ h9 => h9) rfl hin rfl (by decide +kernel) rfl rfl (Nat.le_of_ble_eq_true rfl) d_C_init_12 (fun H locs hP hD hS => ?_)
  replace hP : va_P (dC, dI) vwCl [(a_h, .inr (0, [.ref q_1, .null, .int 0, .null, .null, .null, .null, .null, .null, .null, .null, .int 0, .null, .int 0, .null, .int 0])), (q_1, .inr (4, [.ref q_3, .int 0, .int 0, .int (-1)])), (q_3, .inl (cA_4, 120, .inl (fun _ => 0)))] H := hP
  replace hD : va_D A [(a_h, .inr (0, [.ref q_1, .null, .int 0, .null, .null, .null, .null, .null, .null, .null, .null, .int 0, .null, .int 0, .null, .int 0])), (q_1, .inr (4, [.ref q_3, .int 0, .int 0, .int (-1)])), (q_3, .inl (cA_4, 120, .inl (fun _ => 0)))] := hD
  refine lv_aload_n hx hb d_C_init_15 rfl (lv_at hl 0 rfl) ?_
  refine lv_bipush (v := 40) hx hb d_C_init_16 (by decide) ?_
  refine va_newq (D := (dC, dI)) (N' := 40) hx hb hown (hts _ tw_86) (zo_R hZ) hK hP hD hS hA (by decide) (by decide) (by decide) (Nat.le_of_ble_eq_true rfl) (Nat.le_of_ble_eq_true rfl) d_C_init_18 (fun q_5 cA_6 H hK hP hD hS => ?_)
  refine W.widen (k := 3) (n := 164) (by omega) (by omega) ?_
  replace hP : va_P (dC, dI) vwCl [(a_h, .inr (0, [.ref q_1, .null, .int 0, .null, .null, .null, .null, .null, .null, .null, .null, .int 0, .null, .int 0, .null, .int 0])), (q_1, .inr (4, [.ref q_3, .int 0, .int 0, .int (-1)])), (q_3, .inl (cA_4, 120, .inl (fun _ => 0))), (q_5, .inl (cA_6, 40, .inr (.inr (.inr (.inr (fun _ => none))))))] H := hP
  replace hD : va_D A [(a_h, .inr (0, [.ref q_1, .null, .int 0, .null, .null, .null, .null, .null, .null, .null, .null, .int 0, .null, .int 0, .null, .int 0])), (q_1, .inr (4, [.ref q_3, .int 0, .int 0, .int (-1)])), (q_3, .inl (cA_4, 120, .inl (fun _ => 0))), (q_5, .inl (cA_6, 40, .inr (.inr (.inr (.inr (fun _ => none))))))] := hD
  replace hK : va_K (dC, dI) vwCl [(cA_4, .char), (cA_6, .object "LoanRules$Rule")] s := hK
  refine va_putF (D := (dC, dI)) (ci := 0) (v := .ref q_5) (ty := (.array (.object "LoanRules$Rule"))) (C := "LoanRules") (T := Fz_C) (N := 16) hx hb hts it_C tz_C tz_C_ok nz_C hown hK hP hD hS 0 rfl rfl 1 (by decide) (hts _ tw_105) (fun _ h9 => h9) rfl hin rfl (by decide +kernel) rfl rfl (Nat.le_of_ble_eq_true rfl) d_C_init_21 (fun H locs hP hD hS => ?_)
  replace hP : va_P (dC, dI) vwCl [(a_h, .inr (0, [.ref q_1, .ref q_5, .int 0, .null, .null, .null, .null, .null, .null, .null, .null, .int 0, .null, .int 0, .null, .int 0])), (q_1, .inr (4, [.ref q_3, .int 0, .int 0, .int (-1)])), (q_3, .inl (cA_4, 120, .inl (fun _ => 0))), (q_5, .inl (cA_6, 40, .inr (.inr (.inr (.inr (fun _ => none))))))] H := hP
  replace hD : va_D A [(a_h, .inr (0, [.ref q_1, .ref q_5, .int 0, .null, .null, .null, .null, .null, .null, .null, .null, .int 0, .null, .int 0, .null, .int 0])), (q_1, .inr (4, [.ref q_3, .int 0, .int 0, .int (-1)])), (q_3, .inl (cA_4, 120, .inl (fun _ => 0))), (q_5, .inl (cA_6, 40, .inr (.inr (.inr (.inr (fun _ => none))))))] := hD
  refine lv_aload_n hx hb d_C_init_24 rfl (lv_at hl 0 rfl) ?_
  refine lv_iconst (v := 0) hx hb d_C_init_25 (by decide) ?_
  refine va_put (D := (dC, dI)) (ci := 0) (v := .int 0) (ty := .int) (C := "LoanRules") (T := Fz_C) (N := 16) hx hb hts it_C tz_C tz_C_ok nz_C hown hK hP hD hS 0 rfl rfl 2 (by decide) (hts _ tw_106) (fun _ h9 => h9) rfl (by decide +kernel) rfl rfl (Nat.le_of_ble_eq_true rfl) d_C_init_26 (fun H locs hP hD hS => ?_)
  replace hP : va_P (dC, dI) vwCl [(a_h, .inr (0, [.ref q_1, .ref q_5, .int 0, .null, .null, .null, .null, .null, .null, .null, .null, .int 0, .null, .int 0, .null, .int 0])), (q_1, .inr (4, [.ref q_3, .int 0, .int 0, .int (-1)])), (q_3, .inl (cA_4, 120, .inl (fun _ => 0))), (q_5, .inl (cA_6, 40, .inr (.inr (.inr (.inr (fun _ => none))))))] H := hP
  replace hD : va_D A [(a_h, .inr (0, [.ref q_1, .ref q_5, .int 0, .null, .null, .null, .null, .null, .null, .null, .null, .int 0, .null, .int 0, .null, .int 0])), (q_1, .inr (4, [.ref q_3, .int 0, .int 0, .int (-1)])), (q_3, .inl (cA_4, 120, .inl (fun _ => 0))), (q_5, .inl (cA_6, 40, .inr (.inr (.inr (.inr (fun _ => none))))))] := hD
  refine lv_aload_n hx hb d_C_init_29 rfl (lv_at hl 0 rfl) ?_
  refine va_new (ci := 1) (fs := [.null]) (C := "LoanRules$DaySet") (T := Fz_D) (N := 1) hx hb hts it_D tz_D tz_D_ok hown (hts _ tw_88) (hts _ tw_89) (hts _ tw_44) hK hP hD hS hA rfl (by decide) (Nat.le_of_ble_eq_true rfl) (Nat.le_of_ble_eq_true rfl) d_C_init_30 (fun q_7 H hP hD hS => ?_)
  refine W.widen (k := 4) (n := 165) (by omega) (by omega) ?_
  replace hP : va_P (dC, dI) vwCl [(a_h, .inr (0, [.ref q_1, .ref q_5, .int 0, .null, .null, .null, .null, .null, .null, .null, .null, .int 0, .null, .int 0, .null, .int 0])), (q_1, .inr (4, [.ref q_3, .int 0, .int 0, .int (-1)])), (q_3, .inl (cA_4, 120, .inl (fun _ => 0))), (q_5, .inl (cA_6, 40, .inr (.inr (.inr (.inr (fun _ => none)))))), (q_7, .inr (1, [.null]))] H := hP
  replace hD : va_D A [(a_h, .inr (0, [.ref q_1, .ref q_5, .int 0, .null, .null, .null, .null, .null, .null, .null, .null, .int 0, .null, .int 0, .null, .int 0])), (q_1, .inr (4, [.ref q_3, .int 0, .int 0, .int (-1)])), (q_3, .inl (cA_4, 120, .inl (fun _ => 0))), (q_5, .inl (cA_6, 40, .inr (.inr (.inr (.inr (fun _ => none)))))), (q_7, .inr (1, [.null]))] := hD
  refine lv_dup hx hb d_C_init_33 rfl ?_
  have hPc := hP.sub (ws' := [(q_7, .inr (1, [.null]))]) [4] rfl
  have hKc := hK.sub (tys' := []) [] rfl
  have hDc := hD.sub (ws' := [(q_7, .inr (1, [.null]))]) [4] (by decide) rfl
  have hFc := va_free (wc := [(q_7, .inr (1, [.null]))]) hD hS hA [4] rfl
  refine va_callv (va_runIN (As := []) (rest := [.ref q_7, .ref a_h]) ⟨hx, hb, hml, hown, hts⟩ (c_DaySet_init l dC dI adK adV (a_cd := q_7) (sz := H.size)) ⟨va_cnB 0 hts (gI tw_92) rfl rfl rfl (zn_C_28 hZ) (hts _ tw_44) (by decide +kernel) ⟨(Nat.le_of_ble_eq_true rfl), (Nat.le_of_ble_eq_true rfl)⟩, rfl, (hts _ tw_91)⟩ ⟨fun a U g mk q => by obtain ⟨q0, q1, qZ, qP, qK, qD⟩ := q; exact ⟨q0, q1, zz_call qZ, qP, va_K.moved (u := U) (U := U.calling g mk a) (Vm.Alike.refl U.vm) qK, qD⟩, fun U hU hW => ⟨rfl, by rw [hU], zz_rw hS hFc hU hW hZ, by rw [hU]; exact hPc, va_K.moved hW.alike hKc, hDc.weaken (fun _ _ _ _ => trivial)⟩⟩ rfl rfl hl.1 rfl (lv_room (Nat.le_of_ble_eq_true rfl)) d_C_init_34 ⟨(Nat.le_of_ble_eq_true rfl), (Nat.le_of_ble_eq_true rfl)⟩) hS (fun q _ h => hFc q h) hFc (fun u t H1 locs ht hvm hw_8 hB hz1 hk1 hS => ?_)
  refine W.widen (k := 5) (n := 322) (by omega) (by omega) ?_
  obtain ⟨q_9, cA_10, hP1, hK1, hD1⟩ := hB
  rw [ht] at hP1
  have hK1 := va_K.moved hvm.symm hK1
  obtain ⟨hP, hD⟩ := va_join (wr := [(a_h, .inr (0, [.ref q_1, .ref q_5, .int 0, .null, .null, .null, .null, .null, .null, .null, .null, .int 0, .null, .int 0, .null, .int 0])), (q_1, .inr (4, [.ref q_3, .int 0, .int 0, .int (-1)])), (q_3, .inl (cA_4, 120, .inl (fun _ => 0))), (q_5, .inl (cA_6, 40, .inr (.inr (.inr (.inr (fun _ => none))))))]) (w1 := [(q_7, .inr (1, [.ref q_9])), (q_9, .inl (cA_10, 157, .inr (.inl (fun _ => 0))))]) hP hD [4] [0, 1, 2, 3] rfl rfl (by decide) (by decide) hk1 hFc hP1 hD1
  have hK := (hK.sub (tys' := [(cA_4, .char), (cA_6, .object "LoanRules$Rule")]) [0, 1] rfl).app hK1
  generalize H1 = H at hP hS ⊢
  replace hP : va_P (dC, dI) vwCl [(a_h, .inr (0, [.ref q_1, .ref q_5, .int 0, .null, .null, .null, .null, .null, .null, .null, .null, .int 0, .null, .int 0, .null, .int 0])), (q_1, .inr (4, [.ref q_3, .int 0, .int 0, .int (-1)])), (q_3, .inl (cA_4, 120, .inl (fun _ => 0))), (q_5, .inl (cA_6, 40, .inr (.inr (.inr (.inr (fun _ => none)))))), (q_7, .inr (1, [.ref q_9])), (q_9, .inl (cA_10, 157, .inr (.inl (fun _ => 0))))] H := hP
  replace hD : va_D A [(a_h, .inr (0, [.ref q_1, .ref q_5, .int 0, .null, .null, .null, .null, .null, .null, .null, .null, .int 0, .null, .int 0, .null, .int 0])), (q_1, .inr (4, [.ref q_3, .int 0, .int 0, .int (-1)])), (q_3, .inl (cA_4, 120, .inl (fun _ => 0))), (q_5, .inl (cA_6, 40, .inr (.inr (.inr (.inr (fun _ => none)))))), (q_7, .inr (1, [.ref q_9])), (q_9, .inl (cA_10, 157, .inr (.inl (fun _ => 0))))] := hD
  replace hK : va_K (dC, dI) vwCl [(cA_4, .char), (cA_6, .object "LoanRules$Rule"), (cA_10, .long)] s := hK
  refine va_putF (D := (dC, dI)) (ci := 0) (v := .ref q_7) (ty := (.object "LoanRules$DaySet")) (C := "LoanRules") (T := Fz_C) (N := 16) hx hb hts it_C tz_C tz_C_ok nz_C hown hK hP hD hS 0 rfl rfl 3 (by decide) (hts _ tw_107) (fun _ h9 => h9) rfl hin rfl (by decide +kernel) rfl rfl (Nat.le_of_ble_eq_true rfl) d_C_init_37 (fun H locs hP hD hS => ?_)
  replace hP : va_P (dC, dI) vwCl [(a_h, .inr (0, [.ref q_1, .ref q_5, .int 0, .ref q_7, .null, .null, .null, .null, .null, .null, .null, .int 0, .null, .int 0, .null, .int 0])), (q_1, .inr (4, [.ref q_3, .int 0, .int 0, .int (-1)])), (q_3, .inl (cA_4, 120, .inl (fun _ => 0))), (q_5, .inl (cA_6, 40, .inr (.inr (.inr (.inr (fun _ => none)))))), (q_7, .inr (1, [.ref q_9])), (q_9, .inl (cA_10, 157, .inr (.inl (fun _ => 0))))] H := hP
  replace hD : va_D A [(a_h, .inr (0, [.ref q_1, .ref q_5, .int 0, .ref q_7, .null, .null, .null, .null, .null, .null, .null, .int 0, .null, .int 0, .null, .int 0])), (q_1, .inr (4, [.ref q_3, .int 0, .int 0, .int (-1)])), (q_3, .inl (cA_4, 120, .inl (fun _ => 0))), (q_5, .inl (cA_6, 40, .inr (.inr (.inr (.inr (fun _ => none)))))), (q_7, .inr (1, [.ref q_9])), (q_9, .inl (cA_10, 157, .inr (.inl (fun _ => 0))))] := hD
  refine lv_aload_n hx hb d_C_init_40 rfl (lv_at hl 0 rfl) ?_
  refine va_new (ci := 1) (fs := [.null]) (C := "LoanRules$DaySet") (T := Fz_D) (N := 1) hx hb hts it_D tz_D tz_D_ok hown (hts _ tw_88) (hts _ tw_89) (hts _ tw_44) hK hP hD hS hA rfl (by decide) (Nat.le_of_ble_eq_true rfl) (Nat.le_of_ble_eq_true rfl) d_C_init_41 (fun q_11 H hP hD hS => ?_)
  refine W.widen (k := 6) (n := 323) (by omega) (by omega) ?_
  replace hP : va_P (dC, dI) vwCl [(a_h, .inr (0, [.ref q_1, .ref q_5, .int 0, .ref q_7, .null, .null, .null, .null, .null, .null, .null, .int 0, .null, .int 0, .null, .int 0])), (q_1, .inr (4, [.ref q_3, .int 0, .int 0, .int (-1)])), (q_3, .inl (cA_4, 120, .inl (fun _ => 0))), (q_5, .inl (cA_6, 40, .inr (.inr (.inr (.inr (fun _ => none)))))), (q_7, .inr (1, [.ref q_9])), (q_9, .inl (cA_10, 157, .inr (.inl (fun _ => 0)))), (q_11, .inr (1, [.null]))] H := hP
  replace hD : va_D A [(a_h, .inr (0, [.ref q_1, .ref q_5, .int 0, .ref q_7, .null, .null, .null, .null, .null, .null, .null, .int 0, .null, .int 0, .null, .int 0])), (q_1, .inr (4, [.ref q_3, .int 0, .int 0, .int (-1)])), (q_3, .inl (cA_4, 120, .inl (fun _ => 0))), (q_5, .inl (cA_6, 40, .inr (.inr (.inr (.inr (fun _ => none)))))), (q_7, .inr (1, [.ref q_9])), (q_9, .inl (cA_10, 157, .inr (.inl (fun _ => 0)))), (q_11, .inr (1, [.null]))] := hD
  refine lv_dup hx hb d_C_init_44 rfl ?_
  have hPc := hP.sub (ws' := [(q_11, .inr (1, [.null]))]) [6] rfl
  have hKc := hK.sub (tys' := []) [] rfl
  have hDc := hD.sub (ws' := [(q_11, .inr (1, [.null]))]) [6] (by decide) rfl
  have hFc := va_free (wc := [(q_11, .inr (1, [.null]))]) hD hS hA [6] rfl
  refine va_callv (va_runIN (As := []) (rest := [.ref q_11, .ref a_h]) ⟨hx, hb, hml, hown, hts⟩ (c_DaySet_init l dC dI adK adV (a_cd := q_11) (sz := H.size)) ⟨va_cnB 0 hts (gI tw_92) rfl rfl rfl (zn_C_28 hZ) (hts _ tw_44) (by decide +kernel) ⟨(Nat.le_of_ble_eq_true rfl), (Nat.le_of_ble_eq_true rfl)⟩, rfl, (hts _ tw_91)⟩ ⟨fun a U g mk q => by obtain ⟨q0, q1, qZ, qP, qK, qD⟩ := q; exact ⟨q0, q1, zz_call qZ, qP, va_K.moved (u := U) (U := U.calling g mk a) (Vm.Alike.refl U.vm) qK, qD⟩, fun U hU hW => ⟨rfl, by rw [hU], zz_rw hS hFc hU hW hZ, by rw [hU]; exact hPc, va_K.moved hW.alike hKc, hDc.weaken (fun _ _ _ _ => trivial)⟩⟩ rfl rfl hl.1 rfl (lv_room (Nat.le_of_ble_eq_true rfl)) d_C_init_45 ⟨(Nat.le_of_ble_eq_true rfl), (Nat.le_of_ble_eq_true rfl)⟩) hS (fun q _ h => hFc q h) hFc (fun u t H1 locs ht hvm hw_12 hB hz1 hk1 hS => ?_)
  refine W.widen (k := 7) (n := 480) (by omega) (by omega) ?_
  obtain ⟨q_13, cA_14, hP1, hK1, hD1⟩ := hB
  rw [ht] at hP1
  have hK1 := va_K.moved hvm.symm hK1
  obtain ⟨hP, hD⟩ := va_join (wr := [(a_h, .inr (0, [.ref q_1, .ref q_5, .int 0, .ref q_7, .null, .null, .null, .null, .null, .null, .null, .int 0, .null, .int 0, .null, .int 0])), (q_1, .inr (4, [.ref q_3, .int 0, .int 0, .int (-1)])), (q_3, .inl (cA_4, 120, .inl (fun _ => 0))), (q_5, .inl (cA_6, 40, .inr (.inr (.inr (.inr (fun _ => none)))))), (q_7, .inr (1, [.ref q_9])), (q_9, .inl (cA_10, 157, .inr (.inl (fun _ => 0))))]) (w1 := [(q_11, .inr (1, [.ref q_13])), (q_13, .inl (cA_14, 157, .inr (.inl (fun _ => 0))))]) hP hD [6] [0, 1, 2, 3, 4, 5] rfl rfl (by decide) (by decide) hk1 hFc hP1 hD1
  have hK := (hK.sub (tys' := [(cA_4, .char), (cA_6, .object "LoanRules$Rule"), (cA_10, .long)]) [0, 1, 2] rfl).app hK1
  generalize H1 = H at hP hS ⊢
  replace hP : va_P (dC, dI) vwCl [(a_h, .inr (0, [.ref q_1, .ref q_5, .int 0, .ref q_7, .null, .null, .null, .null, .null, .null, .null, .int 0, .null, .int 0, .null, .int 0])), (q_1, .inr (4, [.ref q_3, .int 0, .int 0, .int (-1)])), (q_3, .inl (cA_4, 120, .inl (fun _ => 0))), (q_5, .inl (cA_6, 40, .inr (.inr (.inr (.inr (fun _ => none)))))), (q_7, .inr (1, [.ref q_9])), (q_9, .inl (cA_10, 157, .inr (.inl (fun _ => 0)))), (q_11, .inr (1, [.ref q_13])), (q_13, .inl (cA_14, 157, .inr (.inl (fun _ => 0))))] H := hP
  replace hD : va_D A [(a_h, .inr (0, [.ref q_1, .ref q_5, .int 0, .ref q_7, .null, .null, .null, .null, .null, .null, .null, .int 0, .null, .int 0, .null, .int 0])), (q_1, .inr (4, [.ref q_3, .int 0, .int 0, .int (-1)])), (q_3, .inl (cA_4, 120, .inl (fun _ => 0))), (q_5, .inl (cA_6, 40, .inr (.inr (.inr (.inr (fun _ => none)))))), (q_7, .inr (1, [.ref q_9])), (q_9, .inl (cA_10, 157, .inr (.inl (fun _ => 0)))), (q_11, .inr (1, [.ref q_13])), (q_13, .inl (cA_14, 157, .inr (.inl (fun _ => 0))))] := hD
  replace hK : va_K (dC, dI) vwCl [(cA_4, .char), (cA_6, .object "LoanRules$Rule"), (cA_10, .long), (cA_14, .long)] s := hK
  refine va_putF (D := (dC, dI)) (ci := 0) (v := .ref q_11) (ty := (.object "LoanRules$DaySet")) (C := "LoanRules") (T := Fz_C) (N := 16) hx hb hts it_C tz_C tz_C_ok nz_C hown hK hP hD hS 0 rfl rfl 4 (by decide) (hts _ tw_108) (fun _ h9 => h9) rfl hin rfl (by decide +kernel) rfl rfl (Nat.le_of_ble_eq_true rfl) d_C_init_48 (fun H locs hP hD hS => ?_)
  replace hP : va_P (dC, dI) vwCl [(a_h, .inr (0, [.ref q_1, .ref q_5, .int 0, .ref q_7, .ref q_11, .null, .null, .null, .null, .null, .null, .int 0, .null, .int 0, .null, .int 0])), (q_1, .inr (4, [.ref q_3, .int 0, .int 0, .int (-1)])), (q_3, .inl (cA_4, 120, .inl (fun _ => 0))), (q_5, .inl (cA_6, 40, .inr (.inr (.inr (.inr (fun _ => none)))))), (q_7, .inr (1, [.ref q_9])), (q_9, .inl (cA_10, 157, .inr (.inl (fun _ => 0)))), (q_11, .inr (1, [.ref q_13])), (q_13, .inl (cA_14, 157, .inr (.inl (fun _ => 0))))] H := hP
  replace hD : va_D A [(a_h, .inr (0, [.ref q_1, .ref q_5, .int 0, .ref q_7, .ref q_11, .null, .null, .null, .null, .null, .null, .int 0, .null, .int 0, .null, .int 0])), (q_1, .inr (4, [.ref q_3, .int 0, .int 0, .int (-1)])), (q_3, .inl (cA_4, 120, .inl (fun _ => 0))), (q_5, .inl (cA_6, 40, .inr (.inr (.inr (.inr (fun _ => none)))))), (q_7, .inr (1, [.ref q_9])), (q_9, .inl (cA_10, 157, .inr (.inl (fun _ => 0)))), (q_11, .inr (1, [.ref q_13])), (q_13, .inl (cA_14, 157, .inr (.inl (fun _ => 0))))] := hD
  refine lv_aload_n hx hb d_C_init_51 rfl (lv_at hl 0 rfl) ?_
  refine lv_bipush (v := 50) hx hb d_C_init_52 (by decide) ?_
  refine va_newa (D := (dC, dI)) (atype := .int) (ty := .int) (N' := 50) (a0 := (50, .inl (fun _ => 0))) hx hb (hts _ tw_153) rfl hK hP hD hS hA (fun _ => rfl) (by decide) (by decide) (by decide) (Nat.le_of_ble_eq_true rfl) (Nat.le_of_ble_eq_true rfl) d_C_init_54 (fun q_15 cA_16 H hK hP hD hS => ?_)
  refine W.widen (k := 8) (n := 530) (by omega) (by omega) ?_
  replace hP : va_P (dC, dI) vwCl [(a_h, .inr (0, [.ref q_1, .ref q_5, .int 0, .ref q_7, .ref q_11, .null, .null, .null, .null, .null, .null, .int 0, .null, .int 0, .null, .int 0])), (q_1, .inr (4, [.ref q_3, .int 0, .int 0, .int (-1)])), (q_3, .inl (cA_4, 120, .inl (fun _ => 0))), (q_5, .inl (cA_6, 40, .inr (.inr (.inr (.inr (fun _ => none)))))), (q_7, .inr (1, [.ref q_9])), (q_9, .inl (cA_10, 157, .inr (.inl (fun _ => 0)))), (q_11, .inr (1, [.ref q_13])), (q_13, .inl (cA_14, 157, .inr (.inl (fun _ => 0)))), (q_15, .inl (cA_16, 50, .inl (fun _ => 0)))] H := hP
  replace hD : va_D A [(a_h, .inr (0, [.ref q_1, .ref q_5, .int 0, .ref q_7, .ref q_11, .null, .null, .null, .null, .null, .null, .int 0, .null, .int 0, .null, .int 0])), (q_1, .inr (4, [.ref q_3, .int 0, .int 0, .int (-1)])), (q_3, .inl (cA_4, 120, .inl (fun _ => 0))), (q_5, .inl (cA_6, 40, .inr (.inr (.inr (.inr (fun _ => none)))))), (q_7, .inr (1, [.ref q_9])), (q_9, .inl (cA_10, 157, .inr (.inl (fun _ => 0)))), (q_11, .inr (1, [.ref q_13])), (q_13, .inl (cA_14, 157, .inr (.inl (fun _ => 0)))), (q_15, .inl (cA_16, 50, .inl (fun _ => 0)))] := hD
  replace hK : va_K (dC, dI) vwCl [(cA_4, .char), (cA_6, .object "LoanRules$Rule"), (cA_10, .long), (cA_14, .long), (cA_16, .int)] s := hK
  refine va_putF (D := (dC, dI)) (ci := 0) (v := .ref q_15) (ty := (.array .int)) (C := "LoanRules") (T := Fz_C) (N := 16) hx hb hts it_C tz_C tz_C_ok nz_C hown hK hP hD hS 0 rfl rfl 5 (by decide) (hts _ tw_109) (fun _ h9 => h9) rfl hin rfl (by decide +kernel) rfl rfl (Nat.le_of_ble_eq_true rfl) d_C_init_56 (fun H locs hP hD hS => ?_)
  replace hP : va_P (dC, dI) vwCl [(a_h, .inr (0, [.ref q_1, .ref q_5, .int 0, .ref q_7, .ref q_11, .ref q_15, .null, .null, .null, .null, .null, .int 0, .null, .int 0, .null, .int 0])), (q_1, .inr (4, [.ref q_3, .int 0, .int 0, .int (-1)])), (q_3, .inl (cA_4, 120, .inl (fun _ => 0))), (q_5, .inl (cA_6, 40, .inr (.inr (.inr (.inr (fun _ => none)))))), (q_7, .inr (1, [.ref q_9])), (q_9, .inl (cA_10, 157, .inr (.inl (fun _ => 0)))), (q_11, .inr (1, [.ref q_13])), (q_13, .inl (cA_14, 157, .inr (.inl (fun _ => 0)))), (q_15, .inl (cA_16, 50, .inl (fun _ => 0)))] H := hP
  replace hD : va_D A [(a_h, .inr (0, [.ref q_1, .ref q_5, .int 0, .ref q_7, .ref q_11, .ref q_15, .null, .null, .null, .null, .null, .int 0, .null, .int 0, .null, .int 0])), (q_1, .inr (4, [.ref q_3, .int 0, .int 0, .int (-1)])), (q_3, .inl (cA_4, 120, .inl (fun _ => 0))), (q_5, .inl (cA_6, 40, .inr (.inr (.inr (.inr (fun _ => none)))))), (q_7, .inr (1, [.ref q_9])), (q_9, .inl (cA_10, 157, .inr (.inl (fun _ => 0)))), (q_11, .inr (1, [.ref q_13])), (q_13, .inl (cA_14, 157, .inr (.inl (fun _ => 0)))), (q_15, .inl (cA_16, 50, .inl (fun _ => 0)))] := hD
  refine lv_aload_n hx hb d_C_init_59 rfl (lv_at hl 0 rfl) ?_
  refine lv_bipush (v := 50) hx hb d_C_init_60 (by decide) ?_
  refine va_newa (D := (dC, dI)) (atype := .int) (ty := .int) (N' := 50) (a0 := (50, .inl (fun _ => 0))) hx hb (hts _ tw_153) rfl hK hP hD hS hA (fun _ => rfl) (by decide) (by decide) (by decide) (Nat.le_of_ble_eq_true rfl) (Nat.le_of_ble_eq_true rfl) d_C_init_62 (fun q_17 cA_18 H hK hP hD hS => ?_)
  refine W.widen (k := 9) (n := 580) (by omega) (by omega) ?_
  replace hP : va_P (dC, dI) vwCl [(a_h, .inr (0, [.ref q_1, .ref q_5, .int 0, .ref q_7, .ref q_11, .ref q_15, .null, .null, .null, .null, .null, .int 0, .null, .int 0, .null, .int 0])), (q_1, .inr (4, [.ref q_3, .int 0, .int 0, .int (-1)])), (q_3, .inl (cA_4, 120, .inl (fun _ => 0))), (q_5, .inl (cA_6, 40, .inr (.inr (.inr (.inr (fun _ => none)))))), (q_7, .inr (1, [.ref q_9])), (q_9, .inl (cA_10, 157, .inr (.inl (fun _ => 0)))), (q_11, .inr (1, [.ref q_13])), (q_13, .inl (cA_14, 157, .inr (.inl (fun _ => 0)))), (q_15, .inl (cA_16, 50, .inl (fun _ => 0))), (q_17, .inl (cA_18, 50, .inl (fun _ => 0)))] H := hP
  replace hD : va_D A [(a_h, .inr (0, [.ref q_1, .ref q_5, .int 0, .ref q_7, .ref q_11, .ref q_15, .null, .null, .null, .null, .null, .int 0, .null, .int 0, .null, .int 0])), (q_1, .inr (4, [.ref q_3, .int 0, .int 0, .int (-1)])), (q_3, .inl (cA_4, 120, .inl (fun _ => 0))), (q_5, .inl (cA_6, 40, .inr (.inr (.inr (.inr (fun _ => none)))))), (q_7, .inr (1, [.ref q_9])), (q_9, .inl (cA_10, 157, .inr (.inl (fun _ => 0)))), (q_11, .inr (1, [.ref q_13])), (q_13, .inl (cA_14, 157, .inr (.inl (fun _ => 0)))), (q_15, .inl (cA_16, 50, .inl (fun _ => 0))), (q_17, .inl (cA_18, 50, .inl (fun _ => 0)))] := hD
  replace hK : va_K (dC, dI) vwCl [(cA_4, .char), (cA_6, .object "LoanRules$Rule"), (cA_10, .long), (cA_14, .long), (cA_16, .int), (cA_18, .int)] s := hK
  refine va_putF (D := (dC, dI)) (ci := 0) (v := .ref q_17) (ty := (.array .int)) (C := "LoanRules") (T := Fz_C) (N := 16) hx hb hts it_C tz_C tz_C_ok nz_C hown hK hP hD hS 0 rfl rfl 6 (by decide) (hts _ tw_110) (fun _ h9 => h9) rfl hin rfl (by decide +kernel) rfl rfl (Nat.le_of_ble_eq_true rfl) d_C_init_64 (fun H locs hP hD hS => ?_)
  replace hP : va_P (dC, dI) vwCl [(a_h, .inr (0, [.ref q_1, .ref q_5, .int 0, .ref q_7, .ref q_11, .ref q_15, .ref q_17, .null, .null, .null, .null, .int 0, .null, .int 0, .null, .int 0])), (q_1, .inr (4, [.ref q_3, .int 0, .int 0, .int (-1)])), (q_3, .inl (cA_4, 120, .inl (fun _ => 0))), (q_5, .inl (cA_6, 40, .inr (.inr (.inr (.inr (fun _ => none)))))), (q_7, .inr (1, [.ref q_9])), (q_9, .inl (cA_10, 157, .inr (.inl (fun _ => 0)))), (q_11, .inr (1, [.ref q_13])), (q_13, .inl (cA_14, 157, .inr (.inl (fun _ => 0)))), (q_15, .inl (cA_16, 50, .inl (fun _ => 0))), (q_17, .inl (cA_18, 50, .inl (fun _ => 0)))] H := hP
  replace hD : va_D A [(a_h, .inr (0, [.ref q_1, .ref q_5, .int 0, .ref q_7, .ref q_11, .ref q_15, .ref q_17, .null, .null, .null, .null, .int 0, .null, .int 0, .null, .int 0])), (q_1, .inr (4, [.ref q_3, .int 0, .int 0, .int (-1)])), (q_3, .inl (cA_4, 120, .inl (fun _ => 0))), (q_5, .inl (cA_6, 40, .inr (.inr (.inr (.inr (fun _ => none)))))), (q_7, .inr (1, [.ref q_9])), (q_9, .inl (cA_10, 157, .inr (.inl (fun _ => 0)))), (q_11, .inr (1, [.ref q_13])), (q_13, .inl (cA_14, 157, .inr (.inl (fun _ => 0)))), (q_15, .inl (cA_16, 50, .inl (fun _ => 0))), (q_17, .inl (cA_18, 50, .inl (fun _ => 0)))] := hD
  refine lv_aload_n hx hb d_C_init_67 rfl (lv_at hl 0 rfl) ?_
  refine lv_bipush (v := 50) hx hb d_C_init_68 (by decide) ?_
  refine va_newa (D := (dC, dI)) (atype := .int) (ty := .int) (N' := 50) (a0 := (50, .inl (fun _ => 0))) hx hb (hts _ tw_153) rfl hK hP hD hS hA (fun _ => rfl) (by decide) (by decide) (by decide) (Nat.le_of_ble_eq_true rfl) (Nat.le_of_ble_eq_true rfl) d_C_init_70 (fun q_19 cA_20 H hK hP hD hS => ?_)
  refine W.widen (k := 10) (n := 630) (by omega) (by omega) ?_
  replace hP : va_P (dC, dI) vwCl [(a_h, .inr (0, [.ref q_1, .ref q_5, .int 0, .ref q_7, .ref q_11, .ref q_15, .ref q_17, .null, .null, .null, .null, .int 0, .null, .int 0, .null, .int 0])), (q_1, .inr (4, [.ref q_3, .int 0, .int 0, .int (-1)])), (q_3, .inl (cA_4, 120, .inl (fun _ => 0))), (q_5, .inl (cA_6, 40, .inr (.inr (.inr (.inr (fun _ => none)))))), (q_7, .inr (1, [.ref q_9])), (q_9, .inl (cA_10, 157, .inr (.inl (fun _ => 0)))), (q_11, .inr (1, [.ref q_13])), (q_13, .inl (cA_14, 157, .inr (.inl (fun _ => 0)))), (q_15, .inl (cA_16, 50, .inl (fun _ => 0))), (q_17, .inl (cA_18, 50, .inl (fun _ => 0))), (q_19, .inl (cA_20, 50, .inl (fun _ => 0)))] H := hP
  replace hD : va_D A [(a_h, .inr (0, [.ref q_1, .ref q_5, .int 0, .ref q_7, .ref q_11, .ref q_15, .ref q_17, .null, .null, .null, .null, .int 0, .null, .int 0, .null, .int 0])), (q_1, .inr (4, [.ref q_3, .int 0, .int 0, .int (-1)])), (q_3, .inl (cA_4, 120, .inl (fun _ => 0))), (q_5, .inl (cA_6, 40, .inr (.inr (.inr (.inr (fun _ => none)))))), (q_7, .inr (1, [.ref q_9])), (q_9, .inl (cA_10, 157, .inr (.inl (fun _ => 0)))), (q_11, .inr (1, [.ref q_13])), (q_13, .inl (cA_14, 157, .inr (.inl (fun _ => 0)))), (q_15, .inl (cA_16, 50, .inl (fun _ => 0))), (q_17, .inl (cA_18, 50, .inl (fun _ => 0))), (q_19, .inl (cA_20, 50, .inl (fun _ => 0)))] := hD
  replace hK : va_K (dC, dI) vwCl [(cA_4, .char), (cA_6, .object "LoanRules$Rule"), (cA_10, .long), (cA_14, .long), (cA_16, .int), (cA_18, .int), (cA_20, .int)] s := hK
  refine va_putF (D := (dC, dI)) (ci := 0) (v := .ref q_19) (ty := (.array .int)) (C := "LoanRules") (T := Fz_C) (N := 16) hx hb hts it_C tz_C tz_C_ok nz_C hown hK hP hD hS 0 rfl rfl 7 (by decide) (hts _ tw_111) (fun _ h9 => h9) rfl hin rfl (by decide +kernel) rfl rfl (Nat.le_of_ble_eq_true rfl) d_C_init_72 (fun H locs hP hD hS => ?_)
  replace hP : va_P (dC, dI) vwCl [(a_h, .inr (0, [.ref q_1, .ref q_5, .int 0, .ref q_7, .ref q_11, .ref q_15, .ref q_17, .ref q_19, .null, .null, .null, .int 0, .null, .int 0, .null, .int 0])), (q_1, .inr (4, [.ref q_3, .int 0, .int 0, .int (-1)])), (q_3, .inl (cA_4, 120, .inl (fun _ => 0))), (q_5, .inl (cA_6, 40, .inr (.inr (.inr (.inr (fun _ => none)))))), (q_7, .inr (1, [.ref q_9])), (q_9, .inl (cA_10, 157, .inr (.inl (fun _ => 0)))), (q_11, .inr (1, [.ref q_13])), (q_13, .inl (cA_14, 157, .inr (.inl (fun _ => 0)))), (q_15, .inl (cA_16, 50, .inl (fun _ => 0))), (q_17, .inl (cA_18, 50, .inl (fun _ => 0))), (q_19, .inl (cA_20, 50, .inl (fun _ => 0)))] H := hP
  replace hD : va_D A [(a_h, .inr (0, [.ref q_1, .ref q_5, .int 0, .ref q_7, .ref q_11, .ref q_15, .ref q_17, .ref q_19, .null, .null, .null, .int 0, .null, .int 0, .null, .int 0])), (q_1, .inr (4, [.ref q_3, .int 0, .int 0, .int (-1)])), (q_3, .inl (cA_4, 120, .inl (fun _ => 0))), (q_5, .inl (cA_6, 40, .inr (.inr (.inr (.inr (fun _ => none)))))), (q_7, .inr (1, [.ref q_9])), (q_9, .inl (cA_10, 157, .inr (.inl (fun _ => 0)))), (q_11, .inr (1, [.ref q_13])), (q_13, .inl (cA_14, 157, .inr (.inl (fun _ => 0)))), (q_15, .inl (cA_16, 50, .inl (fun _ => 0))), (q_17, .inl (cA_18, 50, .inl (fun _ => 0))), (q_19, .inl (cA_20, 50, .inl (fun _ => 0)))] := hD
  refine lv_aload_n hx hb d_C_init_75 rfl (lv_at hl 0 rfl) ?_
  refine lv_bipush (v := 50) hx hb d_C_init_76 (by decide) ?_
  refine va_newa (D := (dC, dI)) (atype := .boolean) (ty := .boolean) (N' := 50) (a0 := (50, .inl (fun _ => 0))) hx hb (hts _ tw_154) rfl hK hP hD hS hA (fun _ => rfl) (by decide) (by decide) (by decide) (Nat.le_of_ble_eq_true rfl) (Nat.le_of_ble_eq_true rfl) d_C_init_78 (fun q_21 cA_22 H hK hP hD hS => ?_)
  refine W.widen (k := 11) (n := 680) (by omega) (by omega) ?_
  replace hP : va_P (dC, dI) vwCl [(a_h, .inr (0, [.ref q_1, .ref q_5, .int 0, .ref q_7, .ref q_11, .ref q_15, .ref q_17, .ref q_19, .null, .null, .null, .int 0, .null, .int 0, .null, .int 0])), (q_1, .inr (4, [.ref q_3, .int 0, .int 0, .int (-1)])), (q_3, .inl (cA_4, 120, .inl (fun _ => 0))), (q_5, .inl (cA_6, 40, .inr (.inr (.inr (.inr (fun _ => none)))))), (q_7, .inr (1, [.ref q_9])), (q_9, .inl (cA_10, 157, .inr (.inl (fun _ => 0)))), (q_11, .inr (1, [.ref q_13])), (q_13, .inl (cA_14, 157, .inr (.inl (fun _ => 0)))), (q_15, .inl (cA_16, 50, .inl (fun _ => 0))), (q_17, .inl (cA_18, 50, .inl (fun _ => 0))), (q_19, .inl (cA_20, 50, .inl (fun _ => 0))), (q_21, .inl (cA_22, 50, .inl (fun _ => 0)))] H := hP
  replace hD : va_D A [(a_h, .inr (0, [.ref q_1, .ref q_5, .int 0, .ref q_7, .ref q_11, .ref q_15, .ref q_17, .ref q_19, .null, .null, .null, .int 0, .null, .int 0, .null, .int 0])), (q_1, .inr (4, [.ref q_3, .int 0, .int 0, .int (-1)])), (q_3, .inl (cA_4, 120, .inl (fun _ => 0))), (q_5, .inl (cA_6, 40, .inr (.inr (.inr (.inr (fun _ => none)))))), (q_7, .inr (1, [.ref q_9])), (q_9, .inl (cA_10, 157, .inr (.inl (fun _ => 0)))), (q_11, .inr (1, [.ref q_13])), (q_13, .inl (cA_14, 157, .inr (.inl (fun _ => 0)))), (q_15, .inl (cA_16, 50, .inl (fun _ => 0))), (q_17, .inl (cA_18, 50, .inl (fun _ => 0))), (q_19, .inl (cA_20, 50, .inl (fun _ => 0))), (q_21, .inl (cA_22, 50, .inl (fun _ => 0)))] := hD
  replace hK : va_K (dC, dI) vwCl [(cA_4, .char), (cA_6, .object "LoanRules$Rule"), (cA_10, .long), (cA_14, .long), (cA_16, .int), (cA_18, .int), (cA_20, .int), (cA_22, .boolean)] s := hK
  refine va_putF (D := (dC, dI)) (ci := 0) (v := .ref q_21) (ty := (.array .boolean)) (C := "LoanRules") (T := Fz_C) (N := 16) hx hb hts it_C tz_C tz_C_ok nz_C hown hK hP hD hS 0 rfl rfl 8 (by decide) (hts _ tw_112) (fun _ h9 => h9) rfl hin rfl (by decide +kernel) rfl rfl (Nat.le_of_ble_eq_true rfl) d_C_init_80 (fun H locs hP hD hS => ?_)
  replace hP : va_P (dC, dI) vwCl [(a_h, .inr (0, [.ref q_1, .ref q_5, .int 0, .ref q_7, .ref q_11, .ref q_15, .ref q_17, .ref q_19, .ref q_21, .null, .null, .int 0, .null, .int 0, .null, .int 0])), (q_1, .inr (4, [.ref q_3, .int 0, .int 0, .int (-1)])), (q_3, .inl (cA_4, 120, .inl (fun _ => 0))), (q_5, .inl (cA_6, 40, .inr (.inr (.inr (.inr (fun _ => none)))))), (q_7, .inr (1, [.ref q_9])), (q_9, .inl (cA_10, 157, .inr (.inl (fun _ => 0)))), (q_11, .inr (1, [.ref q_13])), (q_13, .inl (cA_14, 157, .inr (.inl (fun _ => 0)))), (q_15, .inl (cA_16, 50, .inl (fun _ => 0))), (q_17, .inl (cA_18, 50, .inl (fun _ => 0))), (q_19, .inl (cA_20, 50, .inl (fun _ => 0))), (q_21, .inl (cA_22, 50, .inl (fun _ => 0)))] H := hP
  replace hD : va_D A [(a_h, .inr (0, [.ref q_1, .ref q_5, .int 0, .ref q_7, .ref q_11, .ref q_15, .ref q_17, .ref q_19, .ref q_21, .null, .null, .int 0, .null, .int 0, .null, .int 0])), (q_1, .inr (4, [.ref q_3, .int 0, .int 0, .int (-1)])), (q_3, .inl (cA_4, 120, .inl (fun _ => 0))), (q_5, .inl (cA_6, 40, .inr (.inr (.inr (.inr (fun _ => none)))))), (q_7, .inr (1, [.ref q_9])), (q_9, .inl (cA_10, 157, .inr (.inl (fun _ => 0)))), (q_11, .inr (1, [.ref q_13])), (q_13, .inl (cA_14, 157, .inr (.inl (fun _ => 0)))), (q_15, .inl (cA_16, 50, .inl (fun _ => 0))), (q_17, .inl (cA_18, 50, .inl (fun _ => 0))), (q_19, .inl (cA_20, 50, .inl (fun _ => 0))), (q_21, .inl (cA_22, 50, .inl (fun _ => 0)))] := hD
  refine lv_aload_n hx hb d_C_init_83 rfl (lv_at hl 0 rfl) ?_
  refine lv_sipush (v := 2000) hx hb d_C_init_84 (by decide) ?_
  refine va_newa (D := (dC, dI)) (atype := .int) (ty := .int) (N' := 2000) (a0 := (2000, .inl (fun _ => 0))) hx hb (hts _ tw_153) rfl hK hP hD hS hA (fun _ => rfl) (by decide) (by decide) (by decide) (Nat.le_of_ble_eq_true rfl) (Nat.le_of_ble_eq_true rfl) d_C_init_87 (fun q_23 cA_24 H hK hP hD hS => ?_)
  refine W.widen (k := 12) (n := 2680) (by omega) (by omega) ?_
  replace hP : va_P (dC, dI) vwCl [(a_h, .inr (0, [.ref q_1, .ref q_5, .int 0, .ref q_7, .ref q_11, .ref q_15, .ref q_17, .ref q_19, .ref q_21, .null, .null, .int 0, .null, .int 0, .null, .int 0])), (q_1, .inr (4, [.ref q_3, .int 0, .int 0, .int (-1)])), (q_3, .inl (cA_4, 120, .inl (fun _ => 0))), (q_5, .inl (cA_6, 40, .inr (.inr (.inr (.inr (fun _ => none)))))), (q_7, .inr (1, [.ref q_9])), (q_9, .inl (cA_10, 157, .inr (.inl (fun _ => 0)))), (q_11, .inr (1, [.ref q_13])), (q_13, .inl (cA_14, 157, .inr (.inl (fun _ => 0)))), (q_15, .inl (cA_16, 50, .inl (fun _ => 0))), (q_17, .inl (cA_18, 50, .inl (fun _ => 0))), (q_19, .inl (cA_20, 50, .inl (fun _ => 0))), (q_21, .inl (cA_22, 50, .inl (fun _ => 0))), (q_23, .inl (cA_24, 2000, .inl (fun _ => 0)))] H := hP
  replace hD : va_D A [(a_h, .inr (0, [.ref q_1, .ref q_5, .int 0, .ref q_7, .ref q_11, .ref q_15, .ref q_17, .ref q_19, .ref q_21, .null, .null, .int 0, .null, .int 0, .null, .int 0])), (q_1, .inr (4, [.ref q_3, .int 0, .int 0, .int (-1)])), (q_3, .inl (cA_4, 120, .inl (fun _ => 0))), (q_5, .inl (cA_6, 40, .inr (.inr (.inr (.inr (fun _ => none)))))), (q_7, .inr (1, [.ref q_9])), (q_9, .inl (cA_10, 157, .inr (.inl (fun _ => 0)))), (q_11, .inr (1, [.ref q_13])), (q_13, .inl (cA_14, 157, .inr (.inl (fun _ => 0)))), (q_15, .inl (cA_16, 50, .inl (fun _ => 0))), (q_17, .inl (cA_18, 50, .inl (fun _ => 0))), (q_19, .inl (cA_20, 50, .inl (fun _ => 0))), (q_21, .inl (cA_22, 50, .inl (fun _ => 0))), (q_23, .inl (cA_24, 2000, .inl (fun _ => 0)))] := hD
  replace hK : va_K (dC, dI) vwCl [(cA_4, .char), (cA_6, .object "LoanRules$Rule"), (cA_10, .long), (cA_14, .long), (cA_16, .int), (cA_18, .int), (cA_20, .int), (cA_22, .boolean), (cA_24, .int)] s := hK
  refine va_putF (D := (dC, dI)) (ci := 0) (v := .ref q_23) (ty := (.array .int)) (C := "LoanRules") (T := Fz_C) (N := 16) hx hb hts it_C tz_C tz_C_ok nz_C hown hK hP hD hS 0 rfl rfl 9 (by decide) (hts _ tw_113) (fun _ h9 => h9) rfl hin rfl (by decide +kernel) rfl rfl (Nat.le_of_ble_eq_true rfl) d_C_init_89 (fun H locs hP hD hS => ?_)
  replace hP : va_P (dC, dI) vwCl [(a_h, .inr (0, [.ref q_1, .ref q_5, .int 0, .ref q_7, .ref q_11, .ref q_15, .ref q_17, .ref q_19, .ref q_21, .ref q_23, .null, .int 0, .null, .int 0, .null, .int 0])), (q_1, .inr (4, [.ref q_3, .int 0, .int 0, .int (-1)])), (q_3, .inl (cA_4, 120, .inl (fun _ => 0))), (q_5, .inl (cA_6, 40, .inr (.inr (.inr (.inr (fun _ => none)))))), (q_7, .inr (1, [.ref q_9])), (q_9, .inl (cA_10, 157, .inr (.inl (fun _ => 0)))), (q_11, .inr (1, [.ref q_13])), (q_13, .inl (cA_14, 157, .inr (.inl (fun _ => 0)))), (q_15, .inl (cA_16, 50, .inl (fun _ => 0))), (q_17, .inl (cA_18, 50, .inl (fun _ => 0))), (q_19, .inl (cA_20, 50, .inl (fun _ => 0))), (q_21, .inl (cA_22, 50, .inl (fun _ => 0))), (q_23, .inl (cA_24, 2000, .inl (fun _ => 0)))] H := hP
  replace hD : va_D A [(a_h, .inr (0, [.ref q_1, .ref q_5, .int 0, .ref q_7, .ref q_11, .ref q_15, .ref q_17, .ref q_19, .ref q_21, .ref q_23, .null, .int 0, .null, .int 0, .null, .int 0])), (q_1, .inr (4, [.ref q_3, .int 0, .int 0, .int (-1)])), (q_3, .inl (cA_4, 120, .inl (fun _ => 0))), (q_5, .inl (cA_6, 40, .inr (.inr (.inr (.inr (fun _ => none)))))), (q_7, .inr (1, [.ref q_9])), (q_9, .inl (cA_10, 157, .inr (.inl (fun _ => 0)))), (q_11, .inr (1, [.ref q_13])), (q_13, .inl (cA_14, 157, .inr (.inl (fun _ => 0)))), (q_15, .inl (cA_16, 50, .inl (fun _ => 0))), (q_17, .inl (cA_18, 50, .inl (fun _ => 0))), (q_19, .inl (cA_20, 50, .inl (fun _ => 0))), (q_21, .inl (cA_22, 50, .inl (fun _ => 0))), (q_23, .inl (cA_24, 2000, .inl (fun _ => 0)))] := hD
  refine lv_aload_n hx hb d_C_init_92 rfl (lv_at hl 0 rfl) ?_
  refine lv_sipush (v := 200) hx hb d_C_init_93 (by decide) ?_
  refine va_newq (D := (dC, dI)) (N' := 200) hx hb hown (hts _ tw_99) (zo_N hZ) hK hP hD hS hA (by decide) (by decide) (by decide) (Nat.le_of_ble_eq_true rfl) (Nat.le_of_ble_eq_true rfl) d_C_init_96 (fun q_25 cA_26 H hK hP hD hS => ?_)
  refine W.widen (k := 13) (n := 2880) (by omega) (by omega) ?_
  replace hP : va_P (dC, dI) vwCl [(a_h, .inr (0, [.ref q_1, .ref q_5, .int 0, .ref q_7, .ref q_11, .ref q_15, .ref q_17, .ref q_19, .ref q_21, .ref q_23, .null, .int 0, .null, .int 0, .null, .int 0])), (q_1, .inr (4, [.ref q_3, .int 0, .int 0, .int (-1)])), (q_3, .inl (cA_4, 120, .inl (fun _ => 0))), (q_5, .inl (cA_6, 40, .inr (.inr (.inr (.inr (fun _ => none)))))), (q_7, .inr (1, [.ref q_9])), (q_9, .inl (cA_10, 157, .inr (.inl (fun _ => 0)))), (q_11, .inr (1, [.ref q_13])), (q_13, .inl (cA_14, 157, .inr (.inl (fun _ => 0)))), (q_15, .inl (cA_16, 50, .inl (fun _ => 0))), (q_17, .inl (cA_18, 50, .inl (fun _ => 0))), (q_19, .inl (cA_20, 50, .inl (fun _ => 0))), (q_21, .inl (cA_22, 50, .inl (fun _ => 0))), (q_23, .inl (cA_24, 2000, .inl (fun _ => 0))), (q_25, .inl (cA_26, 200, .inr (.inr (.inr (.inr (fun _ => none))))))] H := hP
  replace hD : va_D A [(a_h, .inr (0, [.ref q_1, .ref q_5, .int 0, .ref q_7, .ref q_11, .ref q_15, .ref q_17, .ref q_19, .ref q_21, .ref q_23, .null, .int 0, .null, .int 0, .null, .int 0])), (q_1, .inr (4, [.ref q_3, .int 0, .int 0, .int (-1)])), (q_3, .inl (cA_4, 120, .inl (fun _ => 0))), (q_5, .inl (cA_6, 40, .inr (.inr (.inr (.inr (fun _ => none)))))), (q_7, .inr (1, [.ref q_9])), (q_9, .inl (cA_10, 157, .inr (.inl (fun _ => 0)))), (q_11, .inr (1, [.ref q_13])), (q_13, .inl (cA_14, 157, .inr (.inl (fun _ => 0)))), (q_15, .inl (cA_16, 50, .inl (fun _ => 0))), (q_17, .inl (cA_18, 50, .inl (fun _ => 0))), (q_19, .inl (cA_20, 50, .inl (fun _ => 0))), (q_21, .inl (cA_22, 50, .inl (fun _ => 0))), (q_23, .inl (cA_24, 2000, .inl (fun _ => 0))), (q_25, .inl (cA_26, 200, .inr (.inr (.inr (.inr (fun _ => none))))))] := hD
  replace hK : va_K (dC, dI) vwCl [(cA_4, .char), (cA_6, .object "LoanRules$Rule"), (cA_10, .long), (cA_14, .long), (cA_16, .int), (cA_18, .int), (cA_20, .int), (cA_22, .boolean), (cA_24, .int), (cA_26, .object "LoanRules$Loan")] s := hK
  refine va_putF (D := (dC, dI)) (ci := 0) (v := .ref q_25) (ty := (.array (.object "LoanRules$Loan"))) (C := "LoanRules") (T := Fz_C) (N := 16) hx hb hts it_C tz_C tz_C_ok nz_C hown hK hP hD hS 0 rfl rfl 10 (by decide) (hts _ tw_114) (fun _ h9 => h9) rfl hin rfl (by decide +kernel) rfl rfl (Nat.le_of_ble_eq_true rfl) d_C_init_99 (fun H locs hP hD hS => ?_)
  replace hP : va_P (dC, dI) vwCl [(a_h, .inr (0, [.ref q_1, .ref q_5, .int 0, .ref q_7, .ref q_11, .ref q_15, .ref q_17, .ref q_19, .ref q_21, .ref q_23, .ref q_25, .int 0, .null, .int 0, .null, .int 0])), (q_1, .inr (4, [.ref q_3, .int 0, .int 0, .int (-1)])), (q_3, .inl (cA_4, 120, .inl (fun _ => 0))), (q_5, .inl (cA_6, 40, .inr (.inr (.inr (.inr (fun _ => none)))))), (q_7, .inr (1, [.ref q_9])), (q_9, .inl (cA_10, 157, .inr (.inl (fun _ => 0)))), (q_11, .inr (1, [.ref q_13])), (q_13, .inl (cA_14, 157, .inr (.inl (fun _ => 0)))), (q_15, .inl (cA_16, 50, .inl (fun _ => 0))), (q_17, .inl (cA_18, 50, .inl (fun _ => 0))), (q_19, .inl (cA_20, 50, .inl (fun _ => 0))), (q_21, .inl (cA_22, 50, .inl (fun _ => 0))), (q_23, .inl (cA_24, 2000, .inl (fun _ => 0))), (q_25, .inl (cA_26, 200, .inr (.inr (.inr (.inr (fun _ => none))))))] H := hP
  replace hD : va_D A [(a_h, .inr (0, [.ref q_1, .ref q_5, .int 0, .ref q_7, .ref q_11, .ref q_15, .ref q_17, .ref q_19, .ref q_21, .ref q_23, .ref q_25, .int 0, .null, .int 0, .null, .int 0])), (q_1, .inr (4, [.ref q_3, .int 0, .int 0, .int (-1)])), (q_3, .inl (cA_4, 120, .inl (fun _ => 0))), (q_5, .inl (cA_6, 40, .inr (.inr (.inr (.inr (fun _ => none)))))), (q_7, .inr (1, [.ref q_9])), (q_9, .inl (cA_10, 157, .inr (.inl (fun _ => 0)))), (q_11, .inr (1, [.ref q_13])), (q_13, .inl (cA_14, 157, .inr (.inl (fun _ => 0)))), (q_15, .inl (cA_16, 50, .inl (fun _ => 0))), (q_17, .inl (cA_18, 50, .inl (fun _ => 0))), (q_19, .inl (cA_20, 50, .inl (fun _ => 0))), (q_21, .inl (cA_22, 50, .inl (fun _ => 0))), (q_23, .inl (cA_24, 2000, .inl (fun _ => 0))), (q_25, .inl (cA_26, 200, .inr (.inr (.inr (.inr (fun _ => none))))))] := hD
  refine lv_aload_n hx hb d_C_init_102 rfl (lv_at hl 0 rfl) ?_
  refine lv_iconst (v := 0) hx hb d_C_init_103 (by decide) ?_
  refine va_put (D := (dC, dI)) (ci := 0) (v := .int 0) (ty := .int) (C := "LoanRules") (T := Fz_C) (N := 16) hx hb hts it_C tz_C tz_C_ok nz_C hown hK hP hD hS 0 rfl rfl 11 (by decide) (hts _ tw_115) (fun _ h9 => h9) rfl (by decide +kernel) rfl rfl (Nat.le_of_ble_eq_true rfl) d_C_init_104 (fun H locs hP hD hS => ?_)
  replace hP : va_P (dC, dI) vwCl [(a_h, .inr (0, [.ref q_1, .ref q_5, .int 0, .ref q_7, .ref q_11, .ref q_15, .ref q_17, .ref q_19, .ref q_21, .ref q_23, .ref q_25, .int 0, .null, .int 0, .null, .int 0])), (q_1, .inr (4, [.ref q_3, .int 0, .int 0, .int (-1)])), (q_3, .inl (cA_4, 120, .inl (fun _ => 0))), (q_5, .inl (cA_6, 40, .inr (.inr (.inr (.inr (fun _ => none)))))), (q_7, .inr (1, [.ref q_9])), (q_9, .inl (cA_10, 157, .inr (.inl (fun _ => 0)))), (q_11, .inr (1, [.ref q_13])), (q_13, .inl (cA_14, 157, .inr (.inl (fun _ => 0)))), (q_15, .inl (cA_16, 50, .inl (fun _ => 0))), (q_17, .inl (cA_18, 50, .inl (fun _ => 0))), (q_19, .inl (cA_20, 50, .inl (fun _ => 0))), (q_21, .inl (cA_22, 50, .inl (fun _ => 0))), (q_23, .inl (cA_24, 2000, .inl (fun _ => 0))), (q_25, .inl (cA_26, 200, .inr (.inr (.inr (.inr (fun _ => none))))))] H := hP
  replace hD : va_D A [(a_h, .inr (0, [.ref q_1, .ref q_5, .int 0, .ref q_7, .ref q_11, .ref q_15, .ref q_17, .ref q_19, .ref q_21, .ref q_23, .ref q_25, .int 0, .null, .int 0, .null, .int 0])), (q_1, .inr (4, [.ref q_3, .int 0, .int 0, .int (-1)])), (q_3, .inl (cA_4, 120, .inl (fun _ => 0))), (q_5, .inl (cA_6, 40, .inr (.inr (.inr (.inr (fun _ => none)))))), (q_7, .inr (1, [.ref q_9])), (q_9, .inl (cA_10, 157, .inr (.inl (fun _ => 0)))), (q_11, .inr (1, [.ref q_13])), (q_13, .inl (cA_14, 157, .inr (.inl (fun _ => 0)))), (q_15, .inl (cA_16, 50, .inl (fun _ => 0))), (q_17, .inl (cA_18, 50, .inl (fun _ => 0))), (q_19, .inl (cA_20, 50, .inl (fun _ => 0))), (q_21, .inl (cA_22, 50, .inl (fun _ => 0))), (q_23, .inl (cA_24, 2000, .inl (fun _ => 0))), (q_25, .inl (cA_26, 200, .inr (.inr (.inr (.inr (fun _ => none))))))] := hD
  refine lv_aload_n hx hb d_C_init_107 rfl (lv_at hl 0 rfl) ?_
  refine lv_bipush (v := 40) hx hb d_C_init_108 (by decide) ?_
  refine va_newa (D := (dC, dI)) (atype := .int) (ty := .int) (N' := 40) (a0 := (40, .inl (fun _ => 0))) hx hb (hts _ tw_153) rfl hK hP hD hS hA (fun _ => rfl) (by decide) (by decide) (by decide) (Nat.le_of_ble_eq_true rfl) (Nat.le_of_ble_eq_true rfl) d_C_init_110 (fun q_27 cA_28 H hK hP hD hS => ?_)
  refine W.widen (k := 14) (n := 2920) (by omega) (by omega) ?_
  replace hP : va_P (dC, dI) vwCl [(a_h, .inr (0, [.ref q_1, .ref q_5, .int 0, .ref q_7, .ref q_11, .ref q_15, .ref q_17, .ref q_19, .ref q_21, .ref q_23, .ref q_25, .int 0, .null, .int 0, .null, .int 0])), (q_1, .inr (4, [.ref q_3, .int 0, .int 0, .int (-1)])), (q_3, .inl (cA_4, 120, .inl (fun _ => 0))), (q_5, .inl (cA_6, 40, .inr (.inr (.inr (.inr (fun _ => none)))))), (q_7, .inr (1, [.ref q_9])), (q_9, .inl (cA_10, 157, .inr (.inl (fun _ => 0)))), (q_11, .inr (1, [.ref q_13])), (q_13, .inl (cA_14, 157, .inr (.inl (fun _ => 0)))), (q_15, .inl (cA_16, 50, .inl (fun _ => 0))), (q_17, .inl (cA_18, 50, .inl (fun _ => 0))), (q_19, .inl (cA_20, 50, .inl (fun _ => 0))), (q_21, .inl (cA_22, 50, .inl (fun _ => 0))), (q_23, .inl (cA_24, 2000, .inl (fun _ => 0))), (q_25, .inl (cA_26, 200, .inr (.inr (.inr (.inr (fun _ => none)))))), (q_27, .inl (cA_28, 40, .inl (fun _ => 0)))] H := hP
  replace hD : va_D A [(a_h, .inr (0, [.ref q_1, .ref q_5, .int 0, .ref q_7, .ref q_11, .ref q_15, .ref q_17, .ref q_19, .ref q_21, .ref q_23, .ref q_25, .int 0, .null, .int 0, .null, .int 0])), (q_1, .inr (4, [.ref q_3, .int 0, .int 0, .int (-1)])), (q_3, .inl (cA_4, 120, .inl (fun _ => 0))), (q_5, .inl (cA_6, 40, .inr (.inr (.inr (.inr (fun _ => none)))))), (q_7, .inr (1, [.ref q_9])), (q_9, .inl (cA_10, 157, .inr (.inl (fun _ => 0)))), (q_11, .inr (1, [.ref q_13])), (q_13, .inl (cA_14, 157, .inr (.inl (fun _ => 0)))), (q_15, .inl (cA_16, 50, .inl (fun _ => 0))), (q_17, .inl (cA_18, 50, .inl (fun _ => 0))), (q_19, .inl (cA_20, 50, .inl (fun _ => 0))), (q_21, .inl (cA_22, 50, .inl (fun _ => 0))), (q_23, .inl (cA_24, 2000, .inl (fun _ => 0))), (q_25, .inl (cA_26, 200, .inr (.inr (.inr (.inr (fun _ => none)))))), (q_27, .inl (cA_28, 40, .inl (fun _ => 0)))] := hD
  replace hK : va_K (dC, dI) vwCl [(cA_4, .char), (cA_6, .object "LoanRules$Rule"), (cA_10, .long), (cA_14, .long), (cA_16, .int), (cA_18, .int), (cA_20, .int), (cA_22, .boolean), (cA_24, .int), (cA_26, .object "LoanRules$Loan"), (cA_28, .int)] s := hK
  refine va_putF (D := (dC, dI)) (ci := 0) (v := .ref q_27) (ty := (.array .int)) (C := "LoanRules") (T := Fz_C) (N := 16) hx hb hts it_C tz_C tz_C_ok nz_C hown hK hP hD hS 0 rfl rfl 12 (by decide) (hts _ tw_116) (fun _ h9 => h9) rfl hin rfl (by decide +kernel) rfl rfl (Nat.le_of_ble_eq_true rfl) d_C_init_112 (fun H locs hP hD hS => ?_)
  replace hP : va_P (dC, dI) vwCl [(a_h, .inr (0, [.ref q_1, .ref q_5, .int 0, .ref q_7, .ref q_11, .ref q_15, .ref q_17, .ref q_19, .ref q_21, .ref q_23, .ref q_25, .int 0, .ref q_27, .int 0, .null, .int 0])), (q_1, .inr (4, [.ref q_3, .int 0, .int 0, .int (-1)])), (q_3, .inl (cA_4, 120, .inl (fun _ => 0))), (q_5, .inl (cA_6, 40, .inr (.inr (.inr (.inr (fun _ => none)))))), (q_7, .inr (1, [.ref q_9])), (q_9, .inl (cA_10, 157, .inr (.inl (fun _ => 0)))), (q_11, .inr (1, [.ref q_13])), (q_13, .inl (cA_14, 157, .inr (.inl (fun _ => 0)))), (q_15, .inl (cA_16, 50, .inl (fun _ => 0))), (q_17, .inl (cA_18, 50, .inl (fun _ => 0))), (q_19, .inl (cA_20, 50, .inl (fun _ => 0))), (q_21, .inl (cA_22, 50, .inl (fun _ => 0))), (q_23, .inl (cA_24, 2000, .inl (fun _ => 0))), (q_25, .inl (cA_26, 200, .inr (.inr (.inr (.inr (fun _ => none)))))), (q_27, .inl (cA_28, 40, .inl (fun _ => 0)))] H := hP
  replace hD : va_D A [(a_h, .inr (0, [.ref q_1, .ref q_5, .int 0, .ref q_7, .ref q_11, .ref q_15, .ref q_17, .ref q_19, .ref q_21, .ref q_23, .ref q_25, .int 0, .ref q_27, .int 0, .null, .int 0])), (q_1, .inr (4, [.ref q_3, .int 0, .int 0, .int (-1)])), (q_3, .inl (cA_4, 120, .inl (fun _ => 0))), (q_5, .inl (cA_6, 40, .inr (.inr (.inr (.inr (fun _ => none)))))), (q_7, .inr (1, [.ref q_9])), (q_9, .inl (cA_10, 157, .inr (.inl (fun _ => 0)))), (q_11, .inr (1, [.ref q_13])), (q_13, .inl (cA_14, 157, .inr (.inl (fun _ => 0)))), (q_15, .inl (cA_16, 50, .inl (fun _ => 0))), (q_17, .inl (cA_18, 50, .inl (fun _ => 0))), (q_19, .inl (cA_20, 50, .inl (fun _ => 0))), (q_21, .inl (cA_22, 50, .inl (fun _ => 0))), (q_23, .inl (cA_24, 2000, .inl (fun _ => 0))), (q_25, .inl (cA_26, 200, .inr (.inr (.inr (.inr (fun _ => none)))))), (q_27, .inl (cA_28, 40, .inl (fun _ => 0)))] := hD
  refine lv_aload_n hx hb d_C_init_115 rfl (lv_at hl 0 rfl) ?_
  refine lv_iconst (v := 0) hx hb d_C_init_116 (by decide) ?_
  refine va_put (D := (dC, dI)) (ci := 0) (v := .int 0) (ty := .int) (C := "LoanRules") (T := Fz_C) (N := 16) hx hb hts it_C tz_C tz_C_ok nz_C hown hK hP hD hS 0 rfl rfl 13 (by decide) (hts _ tw_117) (fun _ h9 => h9) rfl (by decide +kernel) rfl rfl (Nat.le_of_ble_eq_true rfl) d_C_init_117 (fun H locs hP hD hS => ?_)
  replace hP : va_P (dC, dI) vwCl [(a_h, .inr (0, [.ref q_1, .ref q_5, .int 0, .ref q_7, .ref q_11, .ref q_15, .ref q_17, .ref q_19, .ref q_21, .ref q_23, .ref q_25, .int 0, .ref q_27, .int 0, .null, .int 0])), (q_1, .inr (4, [.ref q_3, .int 0, .int 0, .int (-1)])), (q_3, .inl (cA_4, 120, .inl (fun _ => 0))), (q_5, .inl (cA_6, 40, .inr (.inr (.inr (.inr (fun _ => none)))))), (q_7, .inr (1, [.ref q_9])), (q_9, .inl (cA_10, 157, .inr (.inl (fun _ => 0)))), (q_11, .inr (1, [.ref q_13])), (q_13, .inl (cA_14, 157, .inr (.inl (fun _ => 0)))), (q_15, .inl (cA_16, 50, .inl (fun _ => 0))), (q_17, .inl (cA_18, 50, .inl (fun _ => 0))), (q_19, .inl (cA_20, 50, .inl (fun _ => 0))), (q_21, .inl (cA_22, 50, .inl (fun _ => 0))), (q_23, .inl (cA_24, 2000, .inl (fun _ => 0))), (q_25, .inl (cA_26, 200, .inr (.inr (.inr (.inr (fun _ => none)))))), (q_27, .inl (cA_28, 40, .inl (fun _ => 0)))] H := hP
  replace hD : va_D A [(a_h, .inr (0, [.ref q_1, .ref q_5, .int 0, .ref q_7, .ref q_11, .ref q_15, .ref q_17, .ref q_19, .ref q_21, .ref q_23, .ref q_25, .int 0, .ref q_27, .int 0, .null, .int 0])), (q_1, .inr (4, [.ref q_3, .int 0, .int 0, .int (-1)])), (q_3, .inl (cA_4, 120, .inl (fun _ => 0))), (q_5, .inl (cA_6, 40, .inr (.inr (.inr (.inr (fun _ => none)))))), (q_7, .inr (1, [.ref q_9])), (q_9, .inl (cA_10, 157, .inr (.inl (fun _ => 0)))), (q_11, .inr (1, [.ref q_13])), (q_13, .inl (cA_14, 157, .inr (.inl (fun _ => 0)))), (q_15, .inl (cA_16, 50, .inl (fun _ => 0))), (q_17, .inl (cA_18, 50, .inl (fun _ => 0))), (q_19, .inl (cA_20, 50, .inl (fun _ => 0))), (q_21, .inl (cA_22, 50, .inl (fun _ => 0))), (q_23, .inl (cA_24, 2000, .inl (fun _ => 0))), (q_25, .inl (cA_26, 200, .inr (.inr (.inr (.inr (fun _ => none)))))), (q_27, .inl (cA_28, 40, .inl (fun _ => 0)))] := hD
  refine lv_aload_n hx hb d_C_init_120 rfl (lv_at hl 0 rfl) ?_
  refine lv_sipush (v := 780) hx hb d_C_init_121 (by decide) ?_
  refine va_newa (D := (dC, dI)) (atype := .int) (ty := .int) (N' := 780) (a0 := (780, .inl (fun _ => 0))) hx hb (hts _ tw_153) rfl hK hP hD hS hA (fun _ => rfl) (by decide) (by decide) (by decide) (Nat.le_of_ble_eq_true rfl) (Nat.le_of_ble_eq_true rfl) d_C_init_124 (fun q_29 cA_30 H hK hP hD hS => ?_)
  refine W.widen (k := 15) (n := 3700) (by omega) (by omega) ?_
  replace hP : va_P (dC, dI) vwCl [(a_h, .inr (0, [.ref q_1, .ref q_5, .int 0, .ref q_7, .ref q_11, .ref q_15, .ref q_17, .ref q_19, .ref q_21, .ref q_23, .ref q_25, .int 0, .ref q_27, .int 0, .null, .int 0])), (q_1, .inr (4, [.ref q_3, .int 0, .int 0, .int (-1)])), (q_3, .inl (cA_4, 120, .inl (fun _ => 0))), (q_5, .inl (cA_6, 40, .inr (.inr (.inr (.inr (fun _ => none)))))), (q_7, .inr (1, [.ref q_9])), (q_9, .inl (cA_10, 157, .inr (.inl (fun _ => 0)))), (q_11, .inr (1, [.ref q_13])), (q_13, .inl (cA_14, 157, .inr (.inl (fun _ => 0)))), (q_15, .inl (cA_16, 50, .inl (fun _ => 0))), (q_17, .inl (cA_18, 50, .inl (fun _ => 0))), (q_19, .inl (cA_20, 50, .inl (fun _ => 0))), (q_21, .inl (cA_22, 50, .inl (fun _ => 0))), (q_23, .inl (cA_24, 2000, .inl (fun _ => 0))), (q_25, .inl (cA_26, 200, .inr (.inr (.inr (.inr (fun _ => none)))))), (q_27, .inl (cA_28, 40, .inl (fun _ => 0))), (q_29, .inl (cA_30, 780, .inl (fun _ => 0)))] H := hP
  replace hD : va_D A [(a_h, .inr (0, [.ref q_1, .ref q_5, .int 0, .ref q_7, .ref q_11, .ref q_15, .ref q_17, .ref q_19, .ref q_21, .ref q_23, .ref q_25, .int 0, .ref q_27, .int 0, .null, .int 0])), (q_1, .inr (4, [.ref q_3, .int 0, .int 0, .int (-1)])), (q_3, .inl (cA_4, 120, .inl (fun _ => 0))), (q_5, .inl (cA_6, 40, .inr (.inr (.inr (.inr (fun _ => none)))))), (q_7, .inr (1, [.ref q_9])), (q_9, .inl (cA_10, 157, .inr (.inl (fun _ => 0)))), (q_11, .inr (1, [.ref q_13])), (q_13, .inl (cA_14, 157, .inr (.inl (fun _ => 0)))), (q_15, .inl (cA_16, 50, .inl (fun _ => 0))), (q_17, .inl (cA_18, 50, .inl (fun _ => 0))), (q_19, .inl (cA_20, 50, .inl (fun _ => 0))), (q_21, .inl (cA_22, 50, .inl (fun _ => 0))), (q_23, .inl (cA_24, 2000, .inl (fun _ => 0))), (q_25, .inl (cA_26, 200, .inr (.inr (.inr (.inr (fun _ => none)))))), (q_27, .inl (cA_28, 40, .inl (fun _ => 0))), (q_29, .inl (cA_30, 780, .inl (fun _ => 0)))] := hD
  replace hK : va_K (dC, dI) vwCl [(cA_4, .char), (cA_6, .object "LoanRules$Rule"), (cA_10, .long), (cA_14, .long), (cA_16, .int), (cA_18, .int), (cA_20, .int), (cA_22, .boolean), (cA_24, .int), (cA_26, .object "LoanRules$Loan"), (cA_28, .int), (cA_30, .int)] s := hK
  refine va_putF (D := (dC, dI)) (ci := 0) (v := .ref q_29) (ty := (.array .int)) (C := "LoanRules") (T := Fz_C) (N := 16) hx hb hts it_C tz_C tz_C_ok nz_C hown hK hP hD hS 0 rfl rfl 14 (by decide) (hts _ tw_118) (fun _ h9 => h9) rfl hin rfl (by decide +kernel) rfl rfl (Nat.le_of_ble_eq_true rfl) d_C_init_126 (fun H locs hP hD hS => ?_)
  replace hP : va_P (dC, dI) vwCl [(a_h, .inr (0, [.ref q_1, .ref q_5, .int 0, .ref q_7, .ref q_11, .ref q_15, .ref q_17, .ref q_19, .ref q_21, .ref q_23, .ref q_25, .int 0, .ref q_27, .int 0, .ref q_29, .int 0])), (q_1, .inr (4, [.ref q_3, .int 0, .int 0, .int (-1)])), (q_3, .inl (cA_4, 120, .inl (fun _ => 0))), (q_5, .inl (cA_6, 40, .inr (.inr (.inr (.inr (fun _ => none)))))), (q_7, .inr (1, [.ref q_9])), (q_9, .inl (cA_10, 157, .inr (.inl (fun _ => 0)))), (q_11, .inr (1, [.ref q_13])), (q_13, .inl (cA_14, 157, .inr (.inl (fun _ => 0)))), (q_15, .inl (cA_16, 50, .inl (fun _ => 0))), (q_17, .inl (cA_18, 50, .inl (fun _ => 0))), (q_19, .inl (cA_20, 50, .inl (fun _ => 0))), (q_21, .inl (cA_22, 50, .inl (fun _ => 0))), (q_23, .inl (cA_24, 2000, .inl (fun _ => 0))), (q_25, .inl (cA_26, 200, .inr (.inr (.inr (.inr (fun _ => none)))))), (q_27, .inl (cA_28, 40, .inl (fun _ => 0))), (q_29, .inl (cA_30, 780, .inl (fun _ => 0)))] H := hP
  replace hD : va_D A [(a_h, .inr (0, [.ref q_1, .ref q_5, .int 0, .ref q_7, .ref q_11, .ref q_15, .ref q_17, .ref q_19, .ref q_21, .ref q_23, .ref q_25, .int 0, .ref q_27, .int 0, .ref q_29, .int 0])), (q_1, .inr (4, [.ref q_3, .int 0, .int 0, .int (-1)])), (q_3, .inl (cA_4, 120, .inl (fun _ => 0))), (q_5, .inl (cA_6, 40, .inr (.inr (.inr (.inr (fun _ => none)))))), (q_7, .inr (1, [.ref q_9])), (q_9, .inl (cA_10, 157, .inr (.inl (fun _ => 0)))), (q_11, .inr (1, [.ref q_13])), (q_13, .inl (cA_14, 157, .inr (.inl (fun _ => 0)))), (q_15, .inl (cA_16, 50, .inl (fun _ => 0))), (q_17, .inl (cA_18, 50, .inl (fun _ => 0))), (q_19, .inl (cA_20, 50, .inl (fun _ => 0))), (q_21, .inl (cA_22, 50, .inl (fun _ => 0))), (q_23, .inl (cA_24, 2000, .inl (fun _ => 0))), (q_25, .inl (cA_26, 200, .inr (.inr (.inr (.inr (fun _ => none)))))), (q_27, .inl (cA_28, 40, .inl (fun _ => 0))), (q_29, .inl (cA_30, 780, .inl (fun _ => 0)))] := hD
  refine lv_aload_n hx hb d_C_init_129 rfl (lv_at hl 0 rfl) ?_
  refine lv_iconst (v := 0) hx hb d_C_init_130 (by decide) ?_
  refine va_put (D := (dC, dI)) (ci := 0) (v := .int 0) (ty := .int) (C := "LoanRules") (T := Fz_C) (N := 16) hx hb hts it_C tz_C tz_C_ok nz_C hown hK hP hD hS 0 rfl rfl 15 (by decide) (hts _ tw_119) (fun _ h9 => h9) rfl (by decide +kernel) rfl rfl (Nat.le_of_ble_eq_true rfl) d_C_init_131 (fun H locs hP hD hS => ?_)
  replace hP : va_P (dC, dI) vwCl [(a_h, .inr (0, [.ref q_1, .ref q_5, .int 0, .ref q_7, .ref q_11, .ref q_15, .ref q_17, .ref q_19, .ref q_21, .ref q_23, .ref q_25, .int 0, .ref q_27, .int 0, .ref q_29, .int 0])), (q_1, .inr (4, [.ref q_3, .int 0, .int 0, .int (-1)])), (q_3, .inl (cA_4, 120, .inl (fun _ => 0))), (q_5, .inl (cA_6, 40, .inr (.inr (.inr (.inr (fun _ => none)))))), (q_7, .inr (1, [.ref q_9])), (q_9, .inl (cA_10, 157, .inr (.inl (fun _ => 0)))), (q_11, .inr (1, [.ref q_13])), (q_13, .inl (cA_14, 157, .inr (.inl (fun _ => 0)))), (q_15, .inl (cA_16, 50, .inl (fun _ => 0))), (q_17, .inl (cA_18, 50, .inl (fun _ => 0))), (q_19, .inl (cA_20, 50, .inl (fun _ => 0))), (q_21, .inl (cA_22, 50, .inl (fun _ => 0))), (q_23, .inl (cA_24, 2000, .inl (fun _ => 0))), (q_25, .inl (cA_26, 200, .inr (.inr (.inr (.inr (fun _ => none)))))), (q_27, .inl (cA_28, 40, .inl (fun _ => 0))), (q_29, .inl (cA_30, 780, .inl (fun _ => 0)))] H := hP
  replace hD : va_D A [(a_h, .inr (0, [.ref q_1, .ref q_5, .int 0, .ref q_7, .ref q_11, .ref q_15, .ref q_17, .ref q_19, .ref q_21, .ref q_23, .ref q_25, .int 0, .ref q_27, .int 0, .ref q_29, .int 0])), (q_1, .inr (4, [.ref q_3, .int 0, .int 0, .int (-1)])), (q_3, .inl (cA_4, 120, .inl (fun _ => 0))), (q_5, .inl (cA_6, 40, .inr (.inr (.inr (.inr (fun _ => none)))))), (q_7, .inr (1, [.ref q_9])), (q_9, .inl (cA_10, 157, .inr (.inl (fun _ => 0)))), (q_11, .inr (1, [.ref q_13])), (q_13, .inl (cA_14, 157, .inr (.inl (fun _ => 0)))), (q_15, .inl (cA_16, 50, .inl (fun _ => 0))), (q_17, .inl (cA_18, 50, .inl (fun _ => 0))), (q_19, .inl (cA_20, 50, .inl (fun _ => 0))), (q_21, .inl (cA_22, 50, .inl (fun _ => 0))), (q_23, .inl (cA_24, 2000, .inl (fun _ => 0))), (q_25, .inl (cA_26, 200, .inr (.inr (.inr (.inr (fun _ => none)))))), (q_27, .inl (cA_28, 40, .inl (fun _ => 0))), (q_29, .inl (cA_30, 780, .inl (fun _ => 0)))] := hD
  refine lv_aload_n hx hb d_C_init_134 rfl (lv_at hl 0 rfl) ?_
  refine va_get (D := (dC, dI)) (ci := 0) (v := .ref q_23) (C := "LoanRules") (T := Fz_C) (N := 16) hx hb hts it_C hown hK hP 0 rfl rfl 9 (by decide) (hts _ tw_113) (fun _ h9 => h9) rfl d_C_init_135 ?_
  refine lv_iconst (v := (-1)) hx hb d_C_init_138 (by decide) ?_
  have hPc := hP.sub (ws' := [(q_23, .inl (cA_24, 2000, .inl (fun _ => 0)))]) [12] rfl
  have hKc := hK.sub (tys' := [(cA_24, .int)]) [8] rfl
  have hDc := hD.sub (ws' := [(q_23, .inl (cA_24, 2000, .inl (fun _ => 0)))]) [12] (by decide) rfl
  have hFc := va_free (wc := [(q_23, .inl (cA_24, 2000, .inl (fun _ => 0)))]) hD hS hA [12] rfl
  refine va_callv (va_runS (As := [.ref q_23, .int (-1)]) (rest := []) ⟨hx, hb, hml, hown, hts⟩ (c_fill l dC dI adK adV (a_ex := q_23) (k_ex := cA_24) (f0 := (fun _ => 0)) (sz := H.size)) (va_cwS 2 hts (gS tw_101 tw_102 tw_45 tw_103) rfl rfl rfl (by decide +kernel) ⟨(Nat.le_of_ble_eq_true rfl), (Nat.le_of_ble_eq_true rfl)⟩) ⟨fun a U g mk q => by obtain ⟨q0, q1, qZ, qP, qK, qD⟩ := q; exact ⟨q0, q1, zz_call qZ, qP, va_K.moved (u := U) (U := U.calling g mk a) (Vm.Alike.refl U.vm) qK, qD⟩, fun U hU hW => ⟨rfl, by rw [hU], zz_rw hS hFc hU hW hZ, by rw [hU]; exact hPc, va_K.moved hW.alike hKc, hDc.weaken (fun _ _ _ _ => trivial)⟩⟩ rfl rfl hl.1 rfl (lv_room (Nat.le_of_ble_eq_true rfl)) d_C_init_139 ⟨(Nat.le_of_ble_eq_true rfl), (Nat.le_of_ble_eq_true rfl)⟩) hS (fun q _ h => hFc q h) hFc (fun u_32 t H1 locs ht hvm hw_31 hB hz1 hk1 hS => ?_)
  obtain ⟨hP1, hK1, hD1⟩ := hB
  rw [ht] at hP1
  have hK1 := va_K.moved hvm.symm hK1
  obtain ⟨hP, hD⟩ := va_join (wr := [(a_h, .inr (0, [.ref q_1, .ref q_5, .int 0, .ref q_7, .ref q_11, .ref q_15, .ref q_17, .ref q_19, .ref q_21, .ref q_23, .ref q_25, .int 0, .ref q_27, .int 0, .ref q_29, .int 0])), (q_1, .inr (4, [.ref q_3, .int 0, .int 0, .int (-1)])), (q_3, .inl (cA_4, 120, .inl (fun _ => 0))), (q_5, .inl (cA_6, 40, .inr (.inr (.inr (.inr (fun _ => none)))))), (q_7, .inr (1, [.ref q_9])), (q_9, .inl (cA_10, 157, .inr (.inl (fun _ => 0)))), (q_11, .inr (1, [.ref q_13])), (q_13, .inl (cA_14, 157, .inr (.inl (fun _ => 0)))), (q_15, .inl (cA_16, 50, .inl (fun _ => 0))), (q_17, .inl (cA_18, 50, .inl (fun _ => 0))), (q_19, .inl (cA_20, 50, .inl (fun _ => 0))), (q_21, .inl (cA_22, 50, .inl (fun _ => 0))), (q_25, .inl (cA_26, 200, .inr (.inr (.inr (.inr (fun _ => none)))))), (q_27, .inl (cA_28, 40, .inl (fun _ => 0))), (q_29, .inl (cA_30, 780, .inl (fun _ => 0)))]) (w1 := [(q_23, .inl (cA_24, 2000, .inl u_32))]) hP hD [12] [0, 1, 2, 3, 4, 5, 6, 7, 8, 9, 10, 11, 13, 14, 15] rfl rfl (by decide) (by decide) hk1 hFc hP1 hD1
  have hK := (hK.sub (tys' := [(cA_4, .char), (cA_6, .object "LoanRules$Rule"), (cA_10, .long), (cA_14, .long), (cA_16, .int), (cA_18, .int), (cA_20, .int), (cA_22, .boolean), (cA_26, .object "LoanRules$Loan"), (cA_28, .int), (cA_30, .int)]) [0, 1, 2, 3, 4, 5, 6, 7, 9, 10, 11] rfl).app hK1
  generalize H1 = H at hP hS ⊢
  replace hP : va_P (dC, dI) vwCl [(a_h, .inr (0, [.ref q_1, .ref q_5, .int 0, .ref q_7, .ref q_11, .ref q_15, .ref q_17, .ref q_19, .ref q_21, .ref q_23, .ref q_25, .int 0, .ref q_27, .int 0, .ref q_29, .int 0])), (q_1, .inr (4, [.ref q_3, .int 0, .int 0, .int (-1)])), (q_3, .inl (cA_4, 120, .inl (fun _ => 0))), (q_5, .inl (cA_6, 40, .inr (.inr (.inr (.inr (fun _ => none)))))), (q_7, .inr (1, [.ref q_9])), (q_9, .inl (cA_10, 157, .inr (.inl (fun _ => 0)))), (q_11, .inr (1, [.ref q_13])), (q_13, .inl (cA_14, 157, .inr (.inl (fun _ => 0)))), (q_15, .inl (cA_16, 50, .inl (fun _ => 0))), (q_17, .inl (cA_18, 50, .inl (fun _ => 0))), (q_19, .inl (cA_20, 50, .inl (fun _ => 0))), (q_21, .inl (cA_22, 50, .inl (fun _ => 0))), (q_25, .inl (cA_26, 200, .inr (.inr (.inr (.inr (fun _ => none)))))), (q_27, .inl (cA_28, 40, .inl (fun _ => 0))), (q_29, .inl (cA_30, 780, .inl (fun _ => 0))), (q_23, .inl (cA_24, 2000, .inl u_32))] H := hP
  replace hD : va_D A [(a_h, .inr (0, [.ref q_1, .ref q_5, .int 0, .ref q_7, .ref q_11, .ref q_15, .ref q_17, .ref q_19, .ref q_21, .ref q_23, .ref q_25, .int 0, .ref q_27, .int 0, .ref q_29, .int 0])), (q_1, .inr (4, [.ref q_3, .int 0, .int 0, .int (-1)])), (q_3, .inl (cA_4, 120, .inl (fun _ => 0))), (q_5, .inl (cA_6, 40, .inr (.inr (.inr (.inr (fun _ => none)))))), (q_7, .inr (1, [.ref q_9])), (q_9, .inl (cA_10, 157, .inr (.inl (fun _ => 0)))), (q_11, .inr (1, [.ref q_13])), (q_13, .inl (cA_14, 157, .inr (.inl (fun _ => 0)))), (q_15, .inl (cA_16, 50, .inl (fun _ => 0))), (q_17, .inl (cA_18, 50, .inl (fun _ => 0))), (q_19, .inl (cA_20, 50, .inl (fun _ => 0))), (q_21, .inl (cA_22, 50, .inl (fun _ => 0))), (q_25, .inl (cA_26, 200, .inr (.inr (.inr (.inr (fun _ => none)))))), (q_27, .inl (cA_28, 40, .inl (fun _ => 0))), (q_29, .inl (cA_30, 780, .inl (fun _ => 0))), (q_23, .inl (cA_24, 2000, .inl u_32))] := hD
  replace hK : va_K (dC, dI) vwCl [(cA_4, .char), (cA_6, .object "LoanRules$Rule"), (cA_10, .long), (cA_14, .long), (cA_16, .int), (cA_18, .int), (cA_20, .int), (cA_22, .boolean), (cA_26, .object "LoanRules$Loan"), (cA_28, .int), (cA_30, .int), (cA_24, .int)] s := hK
  have hP9 := hP.sub (ws' := [(a_h, .inr (0, [.ref q_1, .ref q_5, .int 0, .ref q_7, .ref q_11, .ref q_15, .ref q_17, .ref q_19, .ref q_21, .ref q_23, .ref q_25, .int 0, .ref q_27, .int 0, .ref q_29, .int 0])), (q_1, .inr (4, [.ref q_3, .int 0, .int 0, .int (-1)])), (q_3, .inl (cA_4, 120, .inl (fun _ => 0))), (q_5, .inl (cA_6, 40, .inr (.inr (.inr (.inr (fun _ => none)))))), (q_7, .inr (1, [.ref q_9])), (q_9, .inl (cA_10, 157, .inr (.inl (fun _ => 0)))), (q_11, .inr (1, [.ref q_13])), (q_13, .inl (cA_14, 157, .inr (.inl (fun _ => 0)))), (q_15, .inl (cA_16, 50, .inl (fun _ => 0))), (q_17, .inl (cA_18, 50, .inl (fun _ => 0))), (q_19, .inl (cA_20, 50, .inl (fun _ => 0))), (q_21, .inl (cA_22, 50, .inl (fun _ => 0))), (q_25, .inl (cA_26, 200, .inr (.inr (.inr (.inr (fun _ => none)))))), (q_27, .inl (cA_28, 40, .inl (fun _ => 0))), (q_29, .inl (cA_30, 780, .inl (fun _ => 0))), (q_23, .inl (cA_24, 2000, .inl u_32))]) [0, 1, 2, 3, 4, 5, 6, 7, 8, 9, 10, 11, 12, 13, 14, 15] rfl
  have hD9 := hD.sub (ws' := [(a_h, .inr (0, [.ref q_1, .ref q_5, .int 0, .ref q_7, .ref q_11, .ref q_15, .ref q_17, .ref q_19, .ref q_21, .ref q_23, .ref q_25, .int 0, .ref q_27, .int 0, .ref q_29, .int 0])), (q_1, .inr (4, [.ref q_3, .int 0, .int 0, .int (-1)])), (q_3, .inl (cA_4, 120, .inl (fun _ => 0))), (q_5, .inl (cA_6, 40, .inr (.inr (.inr (.inr (fun _ => none)))))), (q_7, .inr (1, [.ref q_9])), (q_9, .inl (cA_10, 157, .inr (.inl (fun _ => 0)))), (q_11, .inr (1, [.ref q_13])), (q_13, .inl (cA_14, 157, .inr (.inl (fun _ => 0)))), (q_15, .inl (cA_16, 50, .inl (fun _ => 0))), (q_17, .inl (cA_18, 50, .inl (fun _ => 0))), (q_19, .inl (cA_20, 50, .inl (fun _ => 0))), (q_21, .inl (cA_22, 50, .inl (fun _ => 0))), (q_25, .inl (cA_26, 200, .inr (.inr (.inr (.inr (fun _ => none)))))), (q_27, .inl (cA_28, 40, .inl (fun _ => 0))), (q_29, .inl (cA_30, 780, .inl (fun _ => 0))), (q_23, .inl (cA_24, 2000, .inl u_32))]) [0, 1, 2, 3, 4, 5, 6, 7, 8, 9, 10, 11, 12, 13, 14, 15] (by decide) rfl
  have hK9 := hK.sub (tys' := [(cA_4, .char), (cA_6, .object "LoanRules$Rule"), (cA_10, .long), (cA_14, .long), (cA_16, .int), (cA_18, .int), (cA_20, .int), (cA_22, .boolean), (cA_26, .object "LoanRules$Loan"), (cA_28, .int), (cA_30, .int), (cA_24, .int)]) [0, 1, 2, 3, 4, 5, 6, 7, 8, 9, 10, 11] rfl
  exact W.vret hx hb hr (fun t ht hW => ⟨⟨(), rfl, trivial, q_1, q_3, q_5, q_7, q_9, q_11, q_13, q_15, q_17, q_19, q_21, q_25, q_27, q_29, q_23, cA_4, cA_6, cA_10, cA_14, cA_16, cA_18, cA_20, cA_22, cA_26, cA_28, cA_30, cA_24, u_32, by rw [ht]; exact hP9, va_K.moved hW.alike hK9, hD9⟩, hS.F ht⟩) hS.2.2 d_C_init_142
end
section
def g_Mo_isDay (p0 : Int32) : Int32 :=
  if p0 < 0 then
    0
  else
    if 10000 ≤ p0 then
      0
    else
      1
set_option maxHeartbeats 4000000 in
set_option maxRecDepth 100000 in
theorem c_Mo_isDay (l : Launch) (dC : Nat → ClassId) (dI : Nat → Nat → Nat) (adK adV : Nat → Nat) (p0 : Int32) : Met l y_M_isDay ws_M_isDay ({ frames := 0, cells := 0, slots := 0, locals := 0 }) (va_Pc [.int p0] (fun U => zz adK adV (fun _ => False) U ∧ va_P (dC, dI) vwCl [] U.heap ∧ va_K (dC, dI) vwCl [] U)) (vp_Si (fun r => r = g_Mo_isDay p0)) 0 0 (fun _ => False) := by
  refine Met.ofW (cc := c_M_isDay) (maxL := 1) (ret := (some .boolean)) (by decide) rfl ?_
  intro p e s m args below meth c s₁ B hml hv
  obtain ⟨rfl, hZ, hP, hK⟩ := hv
  have hx := B.exec
  have hb := B.bytes
  have hr := B.returns
  have hts0 := atoms_spec (ws := ws_M_isDay) B.pre
  have hts : ∀ w ∈ TT, w.before _ s = true := fun w h => hts0 w (List.mem_cons_of_mem _ h)
  have hown : s.vm.findClass "LoanRulesModel" = some m.cls := findClass_of_methodNamed B.named
  have hlocks := B.notSynchronized
  have hS : va_S (fun _ => False) s.heap s.heap [] := va_S.rf
  replace hP : va_P (dC, dI) vwCl [] s.heap := hP
  have hl := lv_entry ([.int p0]) (n := 1) (Nat.le_of_ble_eq_true rfl)
  rw [lg_entry_eq]
  generalize (lg_sl ([.int p0]) ++ List.replicate (1 - (lg_sl ([.int p0])).length) Slot.unset).toArray = ls at hl ⊢
  replace hl : lv_has ls 1 [(0, .int p0)] := hl
  obtain ⟨z, hz⟩ : ∃ z, z = g_Mo_isDay p0 := ⟨_, rfl⟩
  have hE := hz
  rw [g_Mo_isDay] at hE
  refine lv_iload_n hx hb d_M_isDay_0 rfl (lv_at hl 0 rfl) ?_
  refine lv_if_lt (tgt := 15) hx hb d_M_isDay_1 (by decide) (fun c_1 => ?_) (fun c_1 => ?_)
  · rw [if_pos c_1] at hE
    refine lv_iconst (v := 0) hx hb d_M_isDay_15 (by decide) ?_
    exact W.zret (v := 0) hx hb hr rfl (fun t ht hW => ⟨0, rfl, hE.symm.trans hz, ht⟩) (fun _ h => by cases h) d_M_isDay_16
  · rw [if_neg c_1] at hE
    refine lv_iload_n hx hb d_M_isDay_4 rfl (lv_at hl 0 rfl) ?_
    refine lv_sipush (v := 10000) hx hb d_M_isDay_5 (by decide) ?_
    refine lv_icmp_ge (tgt := 15) hx hb d_M_isDay_8 (by decide) (fun c_2 => ?_) (fun c_2 => ?_)
    · rw [if_pos c_2] at hE
      refine lv_iconst (v := 0) hx hb d_M_isDay_15 (by decide) ?_
      exact W.zret (v := 0) hx hb hr rfl (fun t ht hW => ⟨0, rfl, hE.symm.trans hz, ht⟩) (fun _ h => by cases h) d_M_isDay_16
    · rw [if_neg c_2] at hE
      refine lv_iconst (v := 1) hx hb d_M_isDay_11 (by decide) ?_
      refine lv_goto (tgt := 16) hx hb d_M_isDay_12 (by decide) ?_
      exact W.zret (v := 1) hx hb hr rfl (fun t ht hW => ⟨1, rfl, hE.symm.trans hz, ht⟩) (fun _ h => by cases h) d_M_isDay_16
def g_Mo_isPerson (p0 : Int32) : Int32 :=
  if p0 < 0 then
    0
  else
    if 50 ≤ p0 then
      0
    else
      1
set_option maxHeartbeats 4000000 in
set_option maxRecDepth 100000 in
theorem c_Mo_isPerson (l : Launch) (dC : Nat → ClassId) (dI : Nat → Nat → Nat) (adK adV : Nat → Nat) (p0 : Int32) : Met l y_M_isPerson ws_M_isPerson ({ frames := 0, cells := 0, slots := 0, locals := 0 }) (va_Pc [.int p0] (fun U => zz adK adV (fun _ => False) U ∧ va_P (dC, dI) vwCl [] U.heap ∧ va_K (dC, dI) vwCl [] U)) (vp_Si (fun r => r = g_Mo_isPerson p0)) 0 0 (fun _ => False) := by
  refine Met.ofW (cc := c_M_isPerson) (maxL := 1) (ret := (some .boolean)) (by decide) rfl ?_
  intro p e s m args below meth c s₁ B hml hv
  obtain ⟨rfl, hZ, hP, hK⟩ := hv
  have hx := B.exec
  have hb := B.bytes
  have hr := B.returns
  have hts0 := atoms_spec (ws := ws_M_isPerson) B.pre
  have hts : ∀ w ∈ TT, w.before _ s = true := fun w h => hts0 w (List.mem_cons_of_mem _ h)
  have hown : s.vm.findClass "LoanRulesModel" = some m.cls := findClass_of_methodNamed B.named
  have hlocks := B.notSynchronized
  have hS : va_S (fun _ => False) s.heap s.heap [] := va_S.rf
  replace hP : va_P (dC, dI) vwCl [] s.heap := hP
  have hl := lv_entry ([.int p0]) (n := 1) (Nat.le_of_ble_eq_true rfl)
  rw [lg_entry_eq]
  generalize (lg_sl ([.int p0]) ++ List.replicate (1 - (lg_sl ([.int p0])).length) Slot.unset).toArray = ls at hl ⊢
  replace hl : lv_has ls 1 [(0, .int p0)] := hl
  obtain ⟨z, hz⟩ : ∃ z, z = g_Mo_isPerson p0 := ⟨_, rfl⟩
  have hE := hz
  rw [g_Mo_isPerson] at hE
  refine lv_iload_n hx hb d_M_isPerson_0 rfl (lv_at hl 0 rfl) ?_
  refine lv_if_lt (tgt := 14) hx hb d_M_isPerson_1 (by decide) (fun c_1 => ?_) (fun c_1 => ?_)
  · rw [if_pos c_1] at hE
    refine lv_iconst (v := 0) hx hb d_M_isPerson_14 (by decide) ?_
    exact W.zret (v := 0) hx hb hr rfl (fun t ht hW => ⟨0, rfl, hE.symm.trans hz, ht⟩) (fun _ h => by cases h) d_M_isPerson_15
  · rw [if_neg c_1] at hE
    refine lv_iload_n hx hb d_M_isPerson_4 rfl (lv_at hl 0 rfl) ?_
    refine lv_bipush (v := 50) hx hb d_M_isPerson_5 (by decide) ?_
    refine lv_icmp_ge (tgt := 14) hx hb d_M_isPerson_7 (by decide) (fun c_2 => ?_) (fun c_2 => ?_)
    · rw [if_pos c_2] at hE
      refine lv_iconst (v := 0) hx hb d_M_isPerson_14 (by decide) ?_
      exact W.zret (v := 0) hx hb hr rfl (fun t ht hW => ⟨0, rfl, hE.symm.trans hz, ht⟩) (fun _ h => by cases h) d_M_isPerson_15
    · rw [if_neg c_2] at hE
      refine lv_iconst (v := 1) hx hb d_M_isPerson_10 (by decide) ?_
      refine lv_goto (tgt := 15) hx hb d_M_isPerson_11 (by decide) ?_
      exact W.zret (v := 1) hx hb hr rfl (fun t ht hW => ⟨1, rfl, hE.symm.trans hz, ht⟩) (fun _ h => by cases h) d_M_isPerson_15
theorem in_personM {x : Int32} (h : ¬ g_Mo_isPerson x = 0) : vp_in x 50 := by
  unfold g_Mo_isPerson at h
  split at h
  · exact absurd rfl h
  · split at h
    · exact absurd rfl h
    · exact lk_in 50 (by decide) (by assumption) (by assumption)
theorem in_dayM {x : Int32} (h : ¬ g_Mo_isDay x = 0) : vp_in x 10000 := by
  unfold g_Mo_isDay at h
  split at h
  · exact absurd rfl h
  · split at h
    · exact absurd rfl h
    · exact lk_in 10000 (by decide) (by assumption) (by assumption)
set_option maxHeartbeats 4000000 in
set_option maxRecDepth 100000 in
theorem c_Mo_init (l : Launch) (dC : Nat → ClassId) (dI : Nat → Nat → Nat) (adK adV : Nat → Nat) (a_m : Nat) (sz : Nat) : Met l y_M_init ws_M_init ({ frames := 1, cells := 14, slots := 25857, locals := 12 }) (va_Pc [.ref a_m] (fun U => U.heap.size = sz ∧ zz adK adV (va_A [(a_m, .inr (5, [.int 0, .null, .int 0, .int 0, .int 0, .null, .null, .null, .int 0, .null, .null, .null, .null, .null, .null, .null, .int 0, .null, .null, .int 0, .null, .int 0]))] sz) U ∧ va_P (dC, dI) vwCl [(a_m, .inr (5, [.int 0, .null, .int 0, .int 0, .int 0, .null, .null, .null, .int 0, .null, .null, .null, .null, .null, .null, .null, .int 0, .null, .null, .int 0, .null, .int 0]))] U.heap ∧ va_K (dC, dI) vwCl [] U ∧ va_D (fun _ => True) [(a_m, .inr (5, [.int 0, .null, .int 0, .int 0, .int 0, .null, .null, .null, .int 0, .null, .null, .null, .null, .null, .null, .null, .int 0, .null, .null, .int 0, .null, .int 0]))])) (va_Qv (fun _ : Unit => True) (fun (_ : Unit) (t : State) => ∃ q_1 : Nat, ∃ q_3 : Nat, ∃ q_5 : Nat, ∃ q_7 : Nat, ∃ q_9 : Nat, ∃ q_11 : Nat, ∃ q_13 : Nat, ∃ q_15 : Nat, ∃ q_17 : Nat, ∃ q_19 : Nat, ∃ q_21 : Nat, ∃ q_23 : Nat, ∃ q_25 : Nat, ∃ q_27 : Nat, ∃ cA_2 : ClassId, ∃ cA_4 : ClassId, ∃ cA_6 : ClassId, ∃ cA_8 : ClassId, ∃ cA_10 : ClassId, ∃ cA_12 : ClassId, ∃ cA_14 : ClassId, ∃ cA_16 : ClassId, ∃ cA_18 : ClassId, ∃ cA_20 : ClassId, ∃ cA_22 : ClassId, ∃ cA_24 : ClassId, ∃ cA_26 : ClassId, ∃ cA_28 : ClassId, va_P (dC, dI) vwCl [(a_m, .inr (5, [.int 0, .ref q_1, .int 0, .int 0, .int 0, .ref q_3, .ref q_5, .ref q_7, .int 0, .ref q_9, .ref q_11, .ref q_13, .ref q_15, .ref q_17, .ref q_19, .ref q_21, .int 0, .ref q_23, .ref q_25, .int 0, .ref q_27, .int 0])), (q_1, .inl (cA_2, 120, .inl (fun _ => 0))), (q_3, .inl (cA_4, 410, .inl (fun _ => 0))), (q_5, .inl (cA_6, 40, .inl (fun _ => 0))), (q_7, .inl (cA_8, 40, .inl (fun _ => 0))), (q_9, .inl (cA_10, 10000, .inl (fun _ => 0))), (q_11, .inl (cA_12, 10000, .inl (fun _ => 0))), (q_13, .inl (cA_14, 50, .inl (fun _ => 0))), (q_15, .inl (cA_16, 50, .inl (fun _ => 0))), (q_17, .inl (cA_18, 50, .inl (fun _ => 0))), (q_19, .inl (cA_20, 2000, .inl (fun _ => 0))), (q_21, .inl (cA_22, 1407, .inl (fun _ => 0))), (q_23, .inl (cA_24, 50, .inl (fun _ => 0))), (q_25, .inl (cA_26, 40, .inl (fun _ => 0))), (q_27, .inl (cA_28, 1600, .inl (fun _ => 0)))] t.heap ∧ va_K (dC, dI) vwCl [(cA_2, .byte), (cA_4, .int), (cA_6, .boolean), (cA_8, .boolean), (cA_10, .boolean), (cA_12, .boolean), (cA_14, .int), (cA_16, .int), (cA_18, .int), (cA_20, .int), (cA_22, .int), (cA_24, .int), (cA_26, .int), (cA_28, .int)] t ∧ va_D (va_A [(a_m, .inr (5, [.int 0, .null, .int 0, .int 0, .int 0, .null, .null, .null, .int 0, .null, .null, .null, .null, .null, .null, .null, .int 0, .null, .null, .int 0, .null, .int 0]))] sz) [(a_m, .inr (5, [.int 0, .ref q_1, .int 0, .int 0, .int 0, .ref q_3, .ref q_5, .ref q_7, .int 0, .ref q_9, .ref q_11, .ref q_13, .ref q_15, .ref q_17, .ref q_19, .ref q_21, .int 0, .ref q_23, .ref q_25, .int 0, .ref q_27, .int 0])), (q_1, .inl (cA_2, 120, .inl (fun _ => 0))), (q_3, .inl (cA_4, 410, .inl (fun _ => 0))), (q_5, .inl (cA_6, 40, .inl (fun _ => 0))), (q_7, .inl (cA_8, 40, .inl (fun _ => 0))), (q_9, .inl (cA_10, 10000, .inl (fun _ => 0))), (q_11, .inl (cA_12, 10000, .inl (fun _ => 0))), (q_13, .inl (cA_14, 50, .inl (fun _ => 0))), (q_15, .inl (cA_16, 50, .inl (fun _ => 0))), (q_17, .inl (cA_18, 50, .inl (fun _ => 0))), (q_19, .inl (cA_20, 2000, .inl (fun _ => 0))), (q_21, .inl (cA_22, 1407, .inl (fun _ => 0))), (q_23, .inl (cA_24, 50, .inl (fun _ => 0))), (q_25, .inl (cA_26, 40, .inl (fun _ => 0))), (q_27, .inl (cA_28, 1600, .inl (fun _ => 0)))]) (va_A [(a_m, .inr (5, [.int 0, .null, .int 0, .int 0, .int 0, .null, .null, .null, .int 0, .null, .null, .null, .null, .null, .null, .null, .int 0, .null, .null, .int 0, .null, .int 0]))] sz)) 14 25857 (va_A [(a_m, .inr (5, [.int 0, .null, .int 0, .int 0, .int 0, .null, .null, .null, .int 0, .null, .null, .null, .null, .null, .null, .null, .int 0, .null, .null, .int 0, .null, .int 0]))] sz) := by
  refine Met.ofW (cc := c_M_init) (maxL := 1) (ret := none) (by decide) rfl ?_
  intro p e s m args below meth c s₁ B hml hv
  obtain ⟨rfl, hsz, hZ, hP, hK, hD0⟩ := hv
  have hx := B.exec
  have hb := B.bytes
  have hr := B.returns
  have hts0 := atoms_spec (ws := ws_M_init) B.pre
  have hts : ∀ w ∈ TT, w.before _ s = true := fun w h => hts0 w (List.mem_cons_of_mem _ h)
  have hown : s.vm.findClass "LoanRulesModel" = some m.cls := findClass_of_methodNamed B.named
  have hlocks := B.notSynchronized
  have hin : meth.name = "<init>" := (name_of_methodNamed B.named B.method).1
  subst hsz
  have hD := hD0.self (sz := s.heap.size)
  generalize hAe : va_A [(a_m, .inr (5, [.int 0, .null, .int 0, .int 0, .int 0, .null, .null, .null, .int 0, .null, .null, .null, .null, .null, .null, .null, .int 0, .null, .null, .int 0, .null, .int 0]))] s.heap.size = A at hD hZ ⊢
  have hA : ∀ q : Nat, s.heap.size ≤ q → A q := fun q h => by rw [← hAe]; exact Or.inr h
  clear hAe hD0
  have hS : va_S A s.heap s.heap [] := va_S.rf
  replace hP : va_P (dC, dI) vwCl [(a_m, .inr (5, [.int 0, .null, .int 0, .int 0, .int 0, .null, .null, .null, .int 0, .null, .null, .null, .null, .null, .null, .null, .int 0, .null, .null, .int 0, .null, .int 0]))] s.heap := hP
  have hl := lv_entry ([.ref a_m]) (n := 1) (Nat.le_of_ble_eq_true rfl)
  rw [lg_entry_eq]
  generalize (lg_sl ([.ref a_m]) ++ List.replicate (1 - (lg_sl ([.ref a_m])).length) Slot.unset).toArray = ls at hl ⊢
  replace hl : lv_has ls 1 [(0, .ref a_m)] := hl
  refine lv_aload_n hx hb d_M_init_0 rfl (lv_at hl 0 rfl) ?_
  refine W.objInit hx hb hown (hts _ tw_600) (hts _ tw_64) (hts _ tw_65) rfl (by rw [hml]; exact hl.1) rfl d_M_init_1 (Nat.le_of_ble_eq_true rfl) (Nat.le_of_ble_eq_true rfl) ?_
  refine W.eq (g2 := F0 m 4 ls []) rfl ?_
  refine lv_aload_n hx hb d_M_init_4 rfl (lv_at hl 0 rfl) ?_
  refine lv_bipush (v := 120) hx hb d_M_init_5 (by decide) ?_
  refine va_newa (D := (dC, dI)) (atype := .byte) (ty := .byte) (N' := 120) (a0 := (120, .inl (fun _ => 0))) hx hb (hts _ tw_347) rfl hK hP hD hS hA (fun _ => rfl) (by decide) (by decide) (by decide) (Nat.le_of_ble_eq_true rfl) (Nat.le_of_ble_eq_true rfl) d_M_init_7 (fun q_1 cA_2 H hK hP hD hS => ?_)
  refine W.widen (k := 1) (n := 120) (by omega) (by omega) ?_
  replace hP : va_P (dC, dI) vwCl [(a_m, .inr (5, [.int 0, .null, .int 0, .int 0, .int 0, .null, .null, .null, .int 0, .null, .null, .null, .null, .null, .null, .null, .int 0, .null, .null, .int 0, .null, .int 0])), (q_1, .inl (cA_2, 120, .inl (fun _ => 0)))] H := hP
  replace hD : va_D A [(a_m, .inr (5, [.int 0, .null, .int 0, .int 0, .int 0, .null, .null, .null, .int 0, .null, .null, .null, .null, .null, .null, .null, .int 0, .null, .null, .int 0, .null, .int 0])), (q_1, .inl (cA_2, 120, .inl (fun _ => 0)))] := hD
  replace hK : va_K (dC, dI) vwCl [(cA_2, .byte)] s := hK
  refine va_putF (D := (dC, dI)) (ci := 5) (v := .ref q_1) (ty := (.array .byte)) (C := "LoanRulesModel") (T := Fz_M) (N := 22) hx hb hts it_M tz_M tz_M_ok nz_M hown hK hP hD hS 0 rfl rfl 1 (by decide) (hts _ tw_602) (fun _ h9 => h9) rfl hin rfl (by decide +kernel) rfl rfl (Nat.le_of_ble_eq_true rfl) d_M_init_9 (fun H locs hP hD hS => ?_)
  replace hP : va_P (dC, dI) vwCl [(a_m, .inr (5, [.int 0, .ref q_1, .int 0, .int 0, .int 0, .null, .null, .null, .int 0, .null, .null, .null, .null, .null, .null, .null, .int 0, .null, .null, .int 0, .null, .int 0])), (q_1, .inl (cA_2, 120, .inl (fun _ => 0)))] H := hP
  replace hD : va_D A [(a_m, .inr (5, [.int 0, .ref q_1, .int 0, .int 0, .int 0, .null, .null, .null, .int 0, .null, .null, .null, .null, .null, .null, .null, .int 0, .null, .null, .int 0, .null, .int 0])), (q_1, .inl (cA_2, 120, .inl (fun _ => 0)))] := hD
  refine lv_aload_n hx hb d_M_init_12 rfl (lv_at hl 0 rfl) ?_
  refine lv_sipush (v := 410) hx hb d_M_init_13 (by decide) ?_
  refine va_newa (D := (dC, dI)) (atype := .int) (ty := .int) (N' := 410) (a0 := (410, .inl (fun _ => 0))) hx hb (hts _ tw_153) rfl hK hP hD hS hA (fun _ => rfl) (by decide) (by decide) (by decide) (Nat.le_of_ble_eq_true rfl) (Nat.le_of_ble_eq_true rfl) d_M_init_16 (fun q_3 cA_4 H hK hP hD hS => ?_)
  refine W.widen (k := 2) (n := 530) (by omega) (by omega) ?_
  replace hP : va_P (dC, dI) vwCl [(a_m, .inr (5, [.int 0, .ref q_1, .int 0, .int 0, .int 0, .null, .null, .null, .int 0, .null, .null, .null, .null, .null, .null, .null, .int 0, .null, .null, .int 0, .null, .int 0])), (q_1, .inl (cA_2, 120, .inl (fun _ => 0))), (q_3, .inl (cA_4, 410, .inl (fun _ => 0)))] H := hP
  replace hD : va_D A [(a_m, .inr (5, [.int 0, .ref q_1, .int 0, .int 0, .int 0, .null, .null, .null, .int 0, .null, .null, .null, .null, .null, .null, .null, .int 0, .null, .null, .int 0, .null, .int 0])), (q_1, .inl (cA_2, 120, .inl (fun _ => 0))), (q_3, .inl (cA_4, 410, .inl (fun _ => 0)))] := hD
  replace hK : va_K (dC, dI) vwCl [(cA_2, .byte), (cA_4, .int)] s := hK
  refine va_putF (D := (dC, dI)) (ci := 5) (v := .ref q_3) (ty := (.array .int)) (C := "LoanRulesModel") (T := Fz_M) (N := 22) hx hb hts it_M tz_M tz_M_ok nz_M hown hK hP hD hS 0 rfl rfl 5 (by decide) (hts _ tw_606) (fun _ h9 => h9) rfl hin rfl (by decide +kernel) rfl rfl (Nat.le_of_ble_eq_true rfl) d_M_init_18 (fun H locs hP hD hS => ?_)
  replace hP : va_P (dC, dI) vwCl [(a_m, .inr (5, [.int 0, .ref q_1, .int 0, .int 0, .int 0, .ref q_3, .null, .null, .int 0, .null, .null, .null, .null, .null, .null, .null, .int 0, .null, .null, .int 0, .null, .int 0])), (q_1, .inl (cA_2, 120, .inl (fun _ => 0))), (q_3, .inl (cA_4, 410, .inl (fun _ => 0)))] H := hP
  replace hD : va_D A [(a_m, .inr (5, [.int 0, .ref q_1, .int 0, .int 0, .int 0, .ref q_3, .null, .null, .int 0, .null, .null, .null, .null, .null, .null, .null, .int 0, .null, .null, .int 0, .null, .int 0])), (q_1, .inl (cA_2, 120, .inl (fun _ => 0))), (q_3, .inl (cA_4, 410, .inl (fun _ => 0)))] := hD
  refine lv_aload_n hx hb d_M_init_21 rfl (lv_at hl 0 rfl) ?_
  refine lv_bipush (v := 40) hx hb d_M_init_22 (by decide) ?_
  refine va_newa (D := (dC, dI)) (atype := .boolean) (ty := .boolean) (N' := 40) (a0 := (40, .inl (fun _ => 0))) hx hb (hts _ tw_154) rfl hK hP hD hS hA (fun _ => rfl) (by decide) (by decide) (by decide) (Nat.le_of_ble_eq_true rfl) (Nat.le_of_ble_eq_true rfl) d_M_init_24 (fun q_5 cA_6 H hK hP hD hS => ?_)
  refine W.widen (k := 3) (n := 570) (by omega) (by omega) ?_
  replace hP : va_P (dC, dI) vwCl [(a_m, .inr (5, [.int 0, .ref q_1, .int 0, .int 0, .int 0, .ref q_3, .null, .null, .int 0, .null, .null, .null, .null, .null, .null, .null, .int 0, .null, .null, .int 0, .null, .int 0])), (q_1, .inl (cA_2, 120, .inl (fun _ => 0))), (q_3, .inl (cA_4, 410, .inl (fun _ => 0))), (q_5, .inl (cA_6, 40, .inl (fun _ => 0)))] H := hP
  replace hD : va_D A [(a_m, .inr (5, [.int 0, .ref q_1, .int 0, .int 0, .int 0, .ref q_3, .null, .null, .int 0, .null, .null, .null, .null, .null, .null, .null, .int 0, .null, .null, .int 0, .null, .int 0])), (q_1, .inl (cA_2, 120, .inl (fun _ => 0))), (q_3, .inl (cA_4, 410, .inl (fun _ => 0))), (q_5, .inl (cA_6, 40, .inl (fun _ => 0)))] := hD
  replace hK : va_K (dC, dI) vwCl [(cA_2, .byte), (cA_4, .int), (cA_6, .boolean)] s := hK
  refine va_putF (D := (dC, dI)) (ci := 5) (v := .ref q_5) (ty := (.array .boolean)) (C := "LoanRulesModel") (T := Fz_M) (N := 22) hx hb hts it_M tz_M tz_M_ok nz_M hown hK hP hD hS 0 rfl rfl 6 (by decide) (hts _ tw_607) (fun _ h9 => h9) rfl hin rfl (by decide +kernel) rfl rfl (Nat.le_of_ble_eq_true rfl) d_M_init_26 (fun H locs hP hD hS => ?_)
  replace hP : va_P (dC, dI) vwCl [(a_m, .inr (5, [.int 0, .ref q_1, .int 0, .int 0, .int 0, .ref q_3, .ref q_5, .null, .int 0, .null, .null, .null, .null, .null, .null, .null, .int 0, .null, .null, .int 0, .null, .int 0])), (q_1, .inl (cA_2, 120, .inl (fun _ => 0))), (q_3, .inl (cA_4, 410, .inl (fun _ => 0))), (q_5, .inl (cA_6, 40, .inl (fun _ => 0)))] H := hP
  replace hD : va_D A [(a_m, .inr (5, [.int 0, .ref q_1, .int 0, .int 0, .int 0, .ref q_3, .ref q_5, .null, .int 0, .null, .null, .null, .null, .null, .null, .null, .int 0, .null, .null, .int 0, .null, .int 0])), (q_1, .inl (cA_2, 120, .inl (fun _ => 0))), (q_3, .inl (cA_4, 410, .inl (fun _ => 0))), (q_5, .inl (cA_6, 40, .inl (fun _ => 0)))] := hD
  refine lv_aload_n hx hb d_M_init_29 rfl (lv_at hl 0 rfl) ?_
  refine lv_bipush (v := 40) hx hb d_M_init_30 (by decide) ?_
  refine va_newa (D := (dC, dI)) (atype := .boolean) (ty := .boolean) (N' := 40) (a0 := (40, .inl (fun _ => 0))) hx hb (hts _ tw_154) rfl hK hP hD hS hA (fun _ => rfl) (by decide) (by decide) (by decide) (Nat.le_of_ble_eq_true rfl) (Nat.le_of_ble_eq_true rfl) d_M_init_32 (fun q_7 cA_8 H hK hP hD hS => ?_)
  refine W.widen (k := 4) (n := 610) (by omega) (by omega) ?_
  replace hP : va_P (dC, dI) vwCl [(a_m, .inr (5, [.int 0, .ref q_1, .int 0, .int 0, .int 0, .ref q_3, .ref q_5, .null, .int 0, .null, .null, .null, .null, .null, .null, .null, .int 0, .null, .null, .int 0, .null, .int 0])), (q_1, .inl (cA_2, 120, .inl (fun _ => 0))), (q_3, .inl (cA_4, 410, .inl (fun _ => 0))), (q_5, .inl (cA_6, 40, .inl (fun _ => 0))), (q_7, .inl (cA_8, 40, .inl (fun _ => 0)))] H := hP
  replace hD : va_D A [(a_m, .inr (5, [.int 0, .ref q_1, .int 0, .int 0, .int 0, .ref q_3, .ref q_5, .null, .int 0, .null, .null, .null, .null, .null, .null, .null, .int 0, .null, .null, .int 0, .null, .int 0])), (q_1, .inl (cA_2, 120, .inl (fun _ => 0))), (q_3, .inl (cA_4, 410, .inl (fun _ => 0))), (q_5, .inl (cA_6, 40, .inl (fun _ => 0))), (q_7, .inl (cA_8, 40, .inl (fun _ => 0)))] := hD
  replace hK : va_K (dC, dI) vwCl [(cA_2, .byte), (cA_4, .int), (cA_6, .boolean), (cA_8, .boolean)] s := hK
  refine va_putF (D := (dC, dI)) (ci := 5) (v := .ref q_7) (ty := (.array .boolean)) (C := "LoanRulesModel") (T := Fz_M) (N := 22) hx hb hts it_M tz_M tz_M_ok nz_M hown hK hP hD hS 0 rfl rfl 7 (by decide) (hts _ tw_608) (fun _ h9 => h9) rfl hin rfl (by decide +kernel) rfl rfl (Nat.le_of_ble_eq_true rfl) d_M_init_34 (fun H locs hP hD hS => ?_)
  replace hP : va_P (dC, dI) vwCl [(a_m, .inr (5, [.int 0, .ref q_1, .int 0, .int 0, .int 0, .ref q_3, .ref q_5, .ref q_7, .int 0, .null, .null, .null, .null, .null, .null, .null, .int 0, .null, .null, .int 0, .null, .int 0])), (q_1, .inl (cA_2, 120, .inl (fun _ => 0))), (q_3, .inl (cA_4, 410, .inl (fun _ => 0))), (q_5, .inl (cA_6, 40, .inl (fun _ => 0))), (q_7, .inl (cA_8, 40, .inl (fun _ => 0)))] H := hP
  replace hD : va_D A [(a_m, .inr (5, [.int 0, .ref q_1, .int 0, .int 0, .int 0, .ref q_3, .ref q_5, .ref q_7, .int 0, .null, .null, .null, .null, .null, .null, .null, .int 0, .null, .null, .int 0, .null, .int 0])), (q_1, .inl (cA_2, 120, .inl (fun _ => 0))), (q_3, .inl (cA_4, 410, .inl (fun _ => 0))), (q_5, .inl (cA_6, 40, .inl (fun _ => 0))), (q_7, .inl (cA_8, 40, .inl (fun _ => 0)))] := hD
  refine lv_aload_n hx hb d_M_init_37 rfl (lv_at hl 0 rfl) ?_
  refine lv_sipush (v := 10000) hx hb d_M_init_38 (by decide) ?_
  refine va_newa (D := (dC, dI)) (atype := .boolean) (ty := .boolean) (N' := 10000) (a0 := (10000, .inl (fun _ => 0))) hx hb (hts _ tw_154) rfl hK hP hD hS hA (fun _ => rfl) (by decide) (by decide) (by decide) (Nat.le_of_ble_eq_true rfl) (Nat.le_of_ble_eq_true rfl) d_M_init_41 (fun q_9 cA_10 H hK hP hD hS => ?_)
  refine W.widen (k := 5) (n := 10610) (by omega) (by omega) ?_
  replace hP : va_P (dC, dI) vwCl [(a_m, .inr (5, [.int 0, .ref q_1, .int 0, .int 0, .int 0, .ref q_3, .ref q_5, .ref q_7, .int 0, .null, .null, .null, .null, .null, .null, .null, .int 0, .null, .null, .int 0, .null, .int 0])), (q_1, .inl (cA_2, 120, .inl (fun _ => 0))), (q_3, .inl (cA_4, 410, .inl (fun _ => 0))), (q_5, .inl (cA_6, 40, .inl (fun _ => 0))), (q_7, .inl (cA_8, 40, .inl (fun _ => 0))), (q_9, .inl (cA_10, 10000, .inl (fun _ => 0)))] H := hP
  replace hD : va_D A [(a_m, .inr (5, [.int 0, .ref q_1, .int 0, .int 0, .int 0, .ref q_3, .ref q_5, .ref q_7, .int 0, .null, .null, .null, .null, .null, .null, .null, .int 0, .null, .null, .int 0, .null, .int 0])), (q_1, .inl (cA_2, 120, .inl (fun _ => 0))), (q_3, .inl (cA_4, 410, .inl (fun _ => 0))), (q_5, .inl (cA_6, 40, .inl (fun _ => 0))), (q_7, .inl (cA_8, 40, .inl (fun _ => 0))), (q_9, .inl (cA_10, 10000, .inl (fun _ => 0)))] := hD
  replace hK : va_K (dC, dI) vwCl [(cA_2, .byte), (cA_4, .int), (cA_6, .boolean), (cA_8, .boolean), (cA_10, .boolean)] s := hK
  refine va_putF (D := (dC, dI)) (ci := 5) (v := .ref q_9) (ty := (.array .boolean)) (C := "LoanRulesModel") (T := Fz_M) (N := 22) hx hb hts it_M tz_M tz_M_ok nz_M hown hK hP hD hS 0 rfl rfl 9 (by decide) (hts _ tw_610) (fun _ h9 => h9) rfl hin rfl (by decide +kernel) rfl rfl (Nat.le_of_ble_eq_true rfl) d_M_init_43 (fun H locs hP hD hS => ?_)
  replace hP : va_P (dC, dI) vwCl [(a_m, .inr (5, [.int 0, .ref q_1, .int 0, .int 0, .int 0, .ref q_3, .ref q_5, .ref q_7, .int 0, .ref q_9, .null, .null, .null, .null, .null, .null, .int 0, .null, .null, .int 0, .null, .int 0])), (q_1, .inl (cA_2, 120, .inl (fun _ => 0))), (q_3, .inl (cA_4, 410, .inl (fun _ => 0))), (q_5, .inl (cA_6, 40, .inl (fun _ => 0))), (q_7, .inl (cA_8, 40, .inl (fun _ => 0))), (q_9, .inl (cA_10, 10000, .inl (fun _ => 0)))] H := hP
  replace hD : va_D A [(a_m, .inr (5, [.int 0, .ref q_1, .int 0, .int 0, .int 0, .ref q_3, .ref q_5, .ref q_7, .int 0, .ref q_9, .null, .null, .null, .null, .null, .null, .int 0, .null, .null, .int 0, .null, .int 0])), (q_1, .inl (cA_2, 120, .inl (fun _ => 0))), (q_3, .inl (cA_4, 410, .inl (fun _ => 0))), (q_5, .inl (cA_6, 40, .inl (fun _ => 0))), (q_7, .inl (cA_8, 40, .inl (fun _ => 0))), (q_9, .inl (cA_10, 10000, .inl (fun _ => 0)))] := hD
  refine lv_aload_n hx hb d_M_init_46 rfl (lv_at hl 0 rfl) ?_
  refine lv_sipush (v := 10000) hx hb d_M_init_47 (by decide) ?_
  refine va_newa (D := (dC, dI)) (atype := .boolean) (ty := .boolean) (N' := 10000) (a0 := (10000, .inl (fun _ => 0))) hx hb (hts _ tw_154) rfl hK hP hD hS hA (fun _ => rfl) (by decide) (by decide) (by decide) (Nat.le_of_ble_eq_true rfl) (Nat.le_of_ble_eq_true rfl) d_M_init_50 (fun q_11 cA_12 H hK hP hD hS => ?_)
  refine W.widen (k := 6) (n := 20610) (by omega) (by omega) ?_
  replace hP : va_P (dC, dI) vwCl [(a_m, .inr (5, [.int 0, .ref q_1, .int 0, .int 0, .int 0, .ref q_3, .ref q_5, .ref q_7, .int 0, .ref q_9, .null, .null, .null, .null, .null, .null, .int 0, .null, .null, .int 0, .null, .int 0])), (q_1, .inl (cA_2, 120, .inl (fun _ => 0))), (q_3, .inl (cA_4, 410, .inl (fun _ => 0))), (q_5, .inl (cA_6, 40, .inl (fun _ => 0))), (q_7, .inl (cA_8, 40, .inl (fun _ => 0))), (q_9, .inl (cA_10, 10000, .inl (fun _ => 0))), (q_11, .inl (cA_12, 10000, .inl (fun _ => 0)))] H := hP
  replace hD : va_D A [(a_m, .inr (5, [.int 0, .ref q_1, .int 0, .int 0, .int 0, .ref q_3, .ref q_5, .ref q_7, .int 0, .ref q_9, .null, .null, .null, .null, .null, .null, .int 0, .null, .null, .int 0, .null, .int 0])), (q_1, .inl (cA_2, 120, .inl (fun _ => 0))), (q_3, .inl (cA_4, 410, .inl (fun _ => 0))), (q_5, .inl (cA_6, 40, .inl (fun _ => 0))), (q_7, .inl (cA_8, 40, .inl (fun _ => 0))), (q_9, .inl (cA_10, 10000, .inl (fun _ => 0))), (q_11, .inl (cA_12, 10000, .inl (fun _ => 0)))] := hD
  replace hK : va_K (dC, dI) vwCl [(cA_2, .byte), (cA_4, .int), (cA_6, .boolean), (cA_8, .boolean), (cA_10, .boolean), (cA_12, .boolean)] s := hK
  refine va_putF (D := (dC, dI)) (ci := 5) (v := .ref q_11) (ty := (.array .boolean)) (C := "LoanRulesModel") (T := Fz_M) (N := 22) hx hb hts it_M tz_M tz_M_ok nz_M hown hK hP hD hS 0 rfl rfl 10 (by decide) (hts _ tw_611) (fun _ h9 => h9) rfl hin rfl (by decide +kernel) rfl rfl (Nat.le_of_ble_eq_true rfl) d_M_init_52 (fun H locs hP hD hS => ?_)
  replace hP : va_P (dC, dI) vwCl [(a_m, .inr (5, [.int 0, .ref q_1, .int 0, .int 0, .int 0, .ref q_3, .ref q_5, .ref q_7, .int 0, .ref q_9, .ref q_11, .null, .null, .null, .null, .null, .int 0, .null, .null, .int 0, .null, .int 0])), (q_1, .inl (cA_2, 120, .inl (fun _ => 0))), (q_3, .inl (cA_4, 410, .inl (fun _ => 0))), (q_5, .inl (cA_6, 40, .inl (fun _ => 0))), (q_7, .inl (cA_8, 40, .inl (fun _ => 0))), (q_9, .inl (cA_10, 10000, .inl (fun _ => 0))), (q_11, .inl (cA_12, 10000, .inl (fun _ => 0)))] H := hP
  replace hD : va_D A [(a_m, .inr (5, [.int 0, .ref q_1, .int 0, .int 0, .int 0, .ref q_3, .ref q_5, .ref q_7, .int 0, .ref q_9, .ref q_11, .null, .null, .null, .null, .null, .int 0, .null, .null, .int 0, .null, .int 0])), (q_1, .inl (cA_2, 120, .inl (fun _ => 0))), (q_3, .inl (cA_4, 410, .inl (fun _ => 0))), (q_5, .inl (cA_6, 40, .inl (fun _ => 0))), (q_7, .inl (cA_8, 40, .inl (fun _ => 0))), (q_9, .inl (cA_10, 10000, .inl (fun _ => 0))), (q_11, .inl (cA_12, 10000, .inl (fun _ => 0)))] := hD
  refine lv_aload_n hx hb d_M_init_55 rfl (lv_at hl 0 rfl) ?_
  refine lv_bipush (v := 50) hx hb d_M_init_56 (by decide) ?_
  refine va_newa (D := (dC, dI)) (atype := .int) (ty := .int) (N' := 50) (a0 := (50, .inl (fun _ => 0))) hx hb (hts _ tw_153) rfl hK hP hD hS hA (fun _ => rfl) (by decide) (by decide) (by decide) (Nat.le_of_ble_eq_true rfl) (Nat.le_of_ble_eq_true rfl) d_M_init_58 (fun q_13 cA_14 H hK hP hD hS => ?_)
  refine W.widen (k := 7) (n := 20660) (by omega) (by omega) ?_
  replace hP : va_P (dC, dI) vwCl [(a_m, .inr (5, [.int 0, .ref q_1, .int 0, .int 0, .int 0, .ref q_3, .ref q_5, .ref q_7, .int 0, .ref q_9, .ref q_11, .null, .null, .null, .null, .null, .int 0, .null, .null, .int 0, .null, .int 0])), (q_1, .inl (cA_2, 120, .inl (fun _ => 0))), (q_3, .inl (cA_4, 410, .inl (fun _ => 0))), (q_5, .inl (cA_6, 40, .inl (fun _ => 0))), (q_7, .inl (cA_8, 40, .inl (fun _ => 0))), (q_9, .inl (cA_10, 10000, .inl (fun _ => 0))), (q_11, .inl (cA_12, 10000, .inl (fun _ => 0))), (q_13, .inl (cA_14, 50, .inl (fun _ => 0)))] H := hP
  replace hD : va_D A [(a_m, .inr (5, [.int 0, .ref q_1, .int 0, .int 0, .int 0, .ref q_3, .ref q_5, .ref q_7, .int 0, .ref q_9, .ref q_11, .null, .null, .null, .null, .null, .int 0, .null, .null, .int 0, .null, .int 0])), (q_1, .inl (cA_2, 120, .inl (fun _ => 0))), (q_3, .inl (cA_4, 410, .inl (fun _ => 0))), (q_5, .inl (cA_6, 40, .inl (fun _ => 0))), (q_7, .inl (cA_8, 40, .inl (fun _ => 0))), (q_9, .inl (cA_10, 10000, .inl (fun _ => 0))), (q_11, .inl (cA_12, 10000, .inl (fun _ => 0))), (q_13, .inl (cA_14, 50, .inl (fun _ => 0)))] := hD
  replace hK : va_K (dC, dI) vwCl [(cA_2, .byte), (cA_4, .int), (cA_6, .boolean), (cA_8, .boolean), (cA_10, .boolean), (cA_12, .boolean), (cA_14, .int)] s := hK
  refine va_putF (D := (dC, dI)) (ci := 5) (v := .ref q_13) (ty := (.array .int)) (C := "LoanRulesModel") (T := Fz_M) (N := 22) hx hb hts it_M tz_M tz_M_ok nz_M hown hK hP hD hS 0 rfl rfl 11 (by decide) (hts _ tw_612) (fun _ h9 => h9) rfl hin rfl (by decide +kernel) rfl rfl (Nat.le_of_ble_eq_true rfl) d_M_init_60 (fun H locs hP hD hS => ?_)
  replace hP : va_P (dC, dI) vwCl [(a_m, .inr (5, [.int 0, .ref q_1, .int 0, .int 0, .int 0, .ref q_3, .ref q_5, .ref q_7, .int 0, .ref q_9, .ref q_11, .ref q_13, .null, .null, .null, .null, .int 0, .null, .null, .int 0, .null, .int 0])), (q_1, .inl (cA_2, 120, .inl (fun _ => 0))), (q_3, .inl (cA_4, 410, .inl (fun _ => 0))), (q_5, .inl (cA_6, 40, .inl (fun _ => 0))), (q_7, .inl (cA_8, 40, .inl (fun _ => 0))), (q_9, .inl (cA_10, 10000, .inl (fun _ => 0))), (q_11, .inl (cA_12, 10000, .inl (fun _ => 0))), (q_13, .inl (cA_14, 50, .inl (fun _ => 0)))] H := hP
  replace hD : va_D A [(a_m, .inr (5, [.int 0, .ref q_1, .int 0, .int 0, .int 0, .ref q_3, .ref q_5, .ref q_7, .int 0, .ref q_9, .ref q_11, .ref q_13, .null, .null, .null, .null, .int 0, .null, .null, .int 0, .null, .int 0])), (q_1, .inl (cA_2, 120, .inl (fun _ => 0))), (q_3, .inl (cA_4, 410, .inl (fun _ => 0))), (q_5, .inl (cA_6, 40, .inl (fun _ => 0))), (q_7, .inl (cA_8, 40, .inl (fun _ => 0))), (q_9, .inl (cA_10, 10000, .inl (fun _ => 0))), (q_11, .inl (cA_12, 10000, .inl (fun _ => 0))), (q_13, .inl (cA_14, 50, .inl (fun _ => 0)))] := hD
  refine lv_aload_n hx hb d_M_init_63 rfl (lv_at hl 0 rfl) ?_
  refine lv_bipush (v := 50) hx hb d_M_init_64 (by decide) ?_
  refine va_newa (D := (dC, dI)) (atype := .int) (ty := .int) (N' := 50) (a0 := (50, .inl (fun _ => 0))) hx hb (hts _ tw_153) rfl hK hP hD hS hA (fun _ => rfl) (by decide) (by decide) (by decide) (Nat.le_of_ble_eq_true rfl) (Nat.le_of_ble_eq_true rfl) d_M_init_66 (fun q_15 cA_16 H hK hP hD hS => ?_)
  refine W.widen (k := 8) (n := 20710) (by omega) (by omega) ?_
  replace hP : va_P (dC, dI) vwCl [(a_m, .inr (5, [.int 0, .ref q_1, .int 0, .int 0, .int 0, .ref q_3, .ref q_5, .ref q_7, .int 0, .ref q_9, .ref q_11, .ref q_13, .null, .null, .null, .null, .int 0, .null, .null, .int 0, .null, .int 0])), (q_1, .inl (cA_2, 120, .inl (fun _ => 0))), (q_3, .inl (cA_4, 410, .inl (fun _ => 0))), (q_5, .inl (cA_6, 40, .inl (fun _ => 0))), (q_7, .inl (cA_8, 40, .inl (fun _ => 0))), (q_9, .inl (cA_10, 10000, .inl (fun _ => 0))), (q_11, .inl (cA_12, 10000, .inl (fun _ => 0))), (q_13, .inl (cA_14, 50, .inl (fun _ => 0))), (q_15, .inl (cA_16, 50, .inl (fun _ => 0)))] H := hP
  replace hD : va_D A [(a_m, .inr (5, [.int 0, .ref q_1, .int 0, .int 0, .int 0, .ref q_3, .ref q_5, .ref q_7, .int 0, .ref q_9, .ref q_11, .ref q_13, .null, .null, .null, .null, .int 0, .null, .null, .int 0, .null, .int 0])), (q_1, .inl (cA_2, 120, .inl (fun _ => 0))), (q_3, .inl (cA_4, 410, .inl (fun _ => 0))), (q_5, .inl (cA_6, 40, .inl (fun _ => 0))), (q_7, .inl (cA_8, 40, .inl (fun _ => 0))), (q_9, .inl (cA_10, 10000, .inl (fun _ => 0))), (q_11, .inl (cA_12, 10000, .inl (fun _ => 0))), (q_13, .inl (cA_14, 50, .inl (fun _ => 0))), (q_15, .inl (cA_16, 50, .inl (fun _ => 0)))] := hD
  replace hK : va_K (dC, dI) vwCl [(cA_2, .byte), (cA_4, .int), (cA_6, .boolean), (cA_8, .boolean), (cA_10, .boolean), (cA_12, .boolean), (cA_14, .int), (cA_16, .int)] s := hK
  refine va_putF (D := (dC, dI)) (ci := 5) (v := .ref q_15) (ty := (.array .int)) (C := "LoanRulesModel") (T := Fz_M) (N := 22) hx hb hts it_M tz_M tz_M_ok nz_M hown hK hP hD hS 0 rfl rfl 12 (by decide) (hts _ tw_613) (fun _ h9 => h9) rfl hin rfl (by decide +kernel) rfl rfl (Nat.le_of_ble_eq_true rfl) d_M_init_68 (fun H locs hP hD hS => ?_)
  replace hP : va_P (dC, dI) vwCl [(a_m, .inr (5, [.int 0, .ref q_1, .int 0, .int 0, .int 0, .ref q_3, .ref q_5, .ref q_7, .int 0, .ref q_9, .ref q_11, .ref q_13, .ref q_15, .null, .null, .null, .int 0, .null, .null, .int 0, .null, .int 0])), (q_1, .inl (cA_2, 120, .inl (fun _ => 0))), (q_3, .inl (cA_4, 410, .inl (fun _ => 0))), (q_5, .inl (cA_6, 40, .inl (fun _ => 0))), (q_7, .inl (cA_8, 40, .inl (fun _ => 0))), (q_9, .inl (cA_10, 10000, .inl (fun _ => 0))), (q_11, .inl (cA_12, 10000, .inl (fun _ => 0))), (q_13, .inl (cA_14, 50, .inl (fun _ => 0))), (q_15, .inl (cA_16, 50, .inl (fun _ => 0)))] H := hP
  replace hD : va_D A [(a_m, .inr (5, [.int 0, .ref q_1, .int 0, .int 0, .int 0, .ref q_3, .ref q_5, .ref q_7, .int 0, .ref q_9, .ref q_11, .ref q_13, .ref q_15, .null, .null, .null, .int 0, .null, .null, .int 0, .null, .int 0])), (q_1, .inl (cA_2, 120, .inl (fun _ => 0))), (q_3, .inl (cA_4, 410, .inl (fun _ => 0))), (q_5, .inl (cA_6, 40, .inl (fun _ => 0))), (q_7, .inl (cA_8, 40, .inl (fun _ => 0))), (q_9, .inl (cA_10, 10000, .inl (fun _ => 0))), (q_11, .inl (cA_12, 10000, .inl (fun _ => 0))), (q_13, .inl (cA_14, 50, .inl (fun _ => 0))), (q_15, .inl (cA_16, 50, .inl (fun _ => 0)))] := hD
  refine lv_aload_n hx hb d_M_init_71 rfl (lv_at hl 0 rfl) ?_
  refine lv_bipush (v := 50) hx hb d_M_init_72 (by decide) ?_
  refine va_newa (D := (dC, dI)) (atype := .int) (ty := .int) (N' := 50) (a0 := (50, .inl (fun _ => 0))) hx hb (hts _ tw_153) rfl hK hP hD hS hA (fun _ => rfl) (by decide) (by decide) (by decide) (Nat.le_of_ble_eq_true rfl) (Nat.le_of_ble_eq_true rfl) d_M_init_74 (fun q_17 cA_18 H hK hP hD hS => ?_)
  refine W.widen (k := 9) (n := 20760) (by omega) (by omega) ?_
  replace hP : va_P (dC, dI) vwCl [(a_m, .inr (5, [.int 0, .ref q_1, .int 0, .int 0, .int 0, .ref q_3, .ref q_5, .ref q_7, .int 0, .ref q_9, .ref q_11, .ref q_13, .ref q_15, .null, .null, .null, .int 0, .null, .null, .int 0, .null, .int 0])), (q_1, .inl (cA_2, 120, .inl (fun _ => 0))), (q_3, .inl (cA_4, 410, .inl (fun _ => 0))), (q_5, .inl (cA_6, 40, .inl (fun _ => 0))), (q_7, .inl (cA_8, 40, .inl (fun _ => 0))), (q_9, .inl (cA_10, 10000, .inl (fun _ => 0))), (q_11, .inl (cA_12, 10000, .inl (fun _ => 0))), (q_13, .inl (cA_14, 50, .inl (fun _ => 0))), (q_15, .inl (cA_16, 50, .inl (fun _ => 0))), (q_17, .inl (cA_18, 50, .inl (fun _ => 0)))] H := hP
  replace hD : va_D A [(a_m, .inr (5, [.int 0, .ref q_1, .int 0, .int 0, .int 0, .ref q_3, .ref q_5, .ref q_7, .int 0, .ref q_9, .ref q_11, .ref q_13, .ref q_15, .null, .null, .null, .int 0, .null, .null, .int 0, .null, .int 0])), (q_1, .inl (cA_2, 120, .inl (fun _ => 0))), (q_3, .inl (cA_4, 410, .inl (fun _ => 0))), (q_5, .inl (cA_6, 40, .inl (fun _ => 0))), (q_7, .inl (cA_8, 40, .inl (fun _ => 0))), (q_9, .inl (cA_10, 10000, .inl (fun _ => 0))), (q_11, .inl (cA_12, 10000, .inl (fun _ => 0))), (q_13, .inl (cA_14, 50, .inl (fun _ => 0))), (q_15, .inl (cA_16, 50, .inl (fun _ => 0))), (q_17, .inl (cA_18, 50, .inl (fun _ => 0)))] := hD
  replace hK : va_K (dC, dI) vwCl [(cA_2, .byte), (cA_4, .int), (cA_6, .boolean), (cA_8, .boolean), (cA_10, .boolean), (cA_12, .boolean), (cA_14, .int), (cA_16, .int), (cA_18, .int)] s := hK
  refine va_putF (D := (dC, dI)) (ci := 5) (v := .ref q_17) (ty := (.array .int)) (C := "LoanRulesModel") (T := Fz_M) (N := 22) hx hb hts it_M tz_M tz_M_ok nz_M hown hK hP hD hS 0 rfl rfl 13 (by decide) (hts _ tw_614) (fun _ h9 => h9) rfl hin rfl (by decide +kernel) rfl rfl (Nat.le_of_ble_eq_true rfl) d_M_init_76 (fun H locs hP hD hS => ?_)
  replace hP : va_P (dC, dI) vwCl [(a_m, .inr (5, [.int 0, .ref q_1, .int 0, .int 0, .int 0, .ref q_3, .ref q_5, .ref q_7, .int 0, .ref q_9, .ref q_11, .ref q_13, .ref q_15, .ref q_17, .null, .null, .int 0, .null, .null, .int 0, .null, .int 0])), (q_1, .inl (cA_2, 120, .inl (fun _ => 0))), (q_3, .inl (cA_4, 410, .inl (fun _ => 0))), (q_5, .inl (cA_6, 40, .inl (fun _ => 0))), (q_7, .inl (cA_8, 40, .inl (fun _ => 0))), (q_9, .inl (cA_10, 10000, .inl (fun _ => 0))), (q_11, .inl (cA_12, 10000, .inl (fun _ => 0))), (q_13, .inl (cA_14, 50, .inl (fun _ => 0))), (q_15, .inl (cA_16, 50, .inl (fun _ => 0))), (q_17, .inl (cA_18, 50, .inl (fun _ => 0)))] H := hP
  replace hD : va_D A [(a_m, .inr (5, [.int 0, .ref q_1, .int 0, .int 0, .int 0, .ref q_3, .ref q_5, .ref q_7, .int 0, .ref q_9, .ref q_11, .ref q_13, .ref q_15, .ref q_17, .null, .null, .int 0, .null, .null, .int 0, .null, .int 0])), (q_1, .inl (cA_2, 120, .inl (fun _ => 0))), (q_3, .inl (cA_4, 410, .inl (fun _ => 0))), (q_5, .inl (cA_6, 40, .inl (fun _ => 0))), (q_7, .inl (cA_8, 40, .inl (fun _ => 0))), (q_9, .inl (cA_10, 10000, .inl (fun _ => 0))), (q_11, .inl (cA_12, 10000, .inl (fun _ => 0))), (q_13, .inl (cA_14, 50, .inl (fun _ => 0))), (q_15, .inl (cA_16, 50, .inl (fun _ => 0))), (q_17, .inl (cA_18, 50, .inl (fun _ => 0)))] := hD
  refine lv_aload_n hx hb d_M_init_79 rfl (lv_at hl 0 rfl) ?_
  refine lv_sipush (v := 2000) hx hb d_M_init_80 (by decide) ?_
  refine va_newa (D := (dC, dI)) (atype := .int) (ty := .int) (N' := 2000) (a0 := (2000, .inl (fun _ => 0))) hx hb (hts _ tw_153) rfl hK hP hD hS hA (fun _ => rfl) (by decide) (by decide) (by decide) (Nat.le_of_ble_eq_true rfl) (Nat.le_of_ble_eq_true rfl) d_M_init_83 (fun q_19 cA_20 H hK hP hD hS => ?_)
  refine W.widen (k := 10) (n := 22760) (by omega) (by omega) ?_
  replace hP : va_P (dC, dI) vwCl [(a_m, .inr (5, [.int 0, .ref q_1, .int 0, .int 0, .int 0, .ref q_3, .ref q_5, .ref q_7, .int 0, .ref q_9, .ref q_11, .ref q_13, .ref q_15, .ref q_17, .null, .null, .int 0, .null, .null, .int 0, .null, .int 0])), (q_1, .inl (cA_2, 120, .inl (fun _ => 0))), (q_3, .inl (cA_4, 410, .inl (fun _ => 0))), (q_5, .inl (cA_6, 40, .inl (fun _ => 0))), (q_7, .inl (cA_8, 40, .inl (fun _ => 0))), (q_9, .inl (cA_10, 10000, .inl (fun _ => 0))), (q_11, .inl (cA_12, 10000, .inl (fun _ => 0))), (q_13, .inl (cA_14, 50, .inl (fun _ => 0))), (q_15, .inl (cA_16, 50, .inl (fun _ => 0))), (q_17, .inl (cA_18, 50, .inl (fun _ => 0))), (q_19, .inl (cA_20, 2000, .inl (fun _ => 0)))] H := hP
  replace hD : va_D A [(a_m, .inr (5, [.int 0, .ref q_1, .int 0, .int 0, .int 0, .ref q_3, .ref q_5, .ref q_7, .int 0, .ref q_9, .ref q_11, .ref q_13, .ref q_15, .ref q_17, .null, .null, .int 0, .null, .null, .int 0, .null, .int 0])), (q_1, .inl (cA_2, 120, .inl (fun _ => 0))), (q_3, .inl (cA_4, 410, .inl (fun _ => 0))), (q_5, .inl (cA_6, 40, .inl (fun _ => 0))), (q_7, .inl (cA_8, 40, .inl (fun _ => 0))), (q_9, .inl (cA_10, 10000, .inl (fun _ => 0))), (q_11, .inl (cA_12, 10000, .inl (fun _ => 0))), (q_13, .inl (cA_14, 50, .inl (fun _ => 0))), (q_15, .inl (cA_16, 50, .inl (fun _ => 0))), (q_17, .inl (cA_18, 50, .inl (fun _ => 0))), (q_19, .inl (cA_20, 2000, .inl (fun _ => 0)))] := hD
  replace hK : va_K (dC, dI) vwCl [(cA_2, .byte), (cA_4, .int), (cA_6, .boolean), (cA_8, .boolean), (cA_10, .boolean), (cA_12, .boolean), (cA_14, .int), (cA_16, .int), (cA_18, .int), (cA_20, .int)] s := hK
  refine va_putF (D := (dC, dI)) (ci := 5) (v := .ref q_19) (ty := (.array .int)) (C := "LoanRulesModel") (T := Fz_M) (N := 22) hx hb hts it_M tz_M tz_M_ok nz_M hown hK hP hD hS 0 rfl rfl 14 (by decide) (hts _ tw_615) (fun _ h9 => h9) rfl hin rfl (by decide +kernel) rfl rfl (Nat.le_of_ble_eq_true rfl) d_M_init_85 (fun H locs hP hD hS => ?_)
  replace hP : va_P (dC, dI) vwCl [(a_m, .inr (5, [.int 0, .ref q_1, .int 0, .int 0, .int 0, .ref q_3, .ref q_5, .ref q_7, .int 0, .ref q_9, .ref q_11, .ref q_13, .ref q_15, .ref q_17, .ref q_19, .null, .int 0, .null, .null, .int 0, .null, .int 0])), (q_1, .inl (cA_2, 120, .inl (fun _ => 0))), (q_3, .inl (cA_4, 410, .inl (fun _ => 0))), (q_5, .inl (cA_6, 40, .inl (fun _ => 0))), (q_7, .inl (cA_8, 40, .inl (fun _ => 0))), (q_9, .inl (cA_10, 10000, .inl (fun _ => 0))), (q_11, .inl (cA_12, 10000, .inl (fun _ => 0))), (q_13, .inl (cA_14, 50, .inl (fun _ => 0))), (q_15, .inl (cA_16, 50, .inl (fun _ => 0))), (q_17, .inl (cA_18, 50, .inl (fun _ => 0))), (q_19, .inl (cA_20, 2000, .inl (fun _ => 0)))] H := hP
  replace hD : va_D A [(a_m, .inr (5, [.int 0, .ref q_1, .int 0, .int 0, .int 0, .ref q_3, .ref q_5, .ref q_7, .int 0, .ref q_9, .ref q_11, .ref q_13, .ref q_15, .ref q_17, .ref q_19, .null, .int 0, .null, .null, .int 0, .null, .int 0])), (q_1, .inl (cA_2, 120, .inl (fun _ => 0))), (q_3, .inl (cA_4, 410, .inl (fun _ => 0))), (q_5, .inl (cA_6, 40, .inl (fun _ => 0))), (q_7, .inl (cA_8, 40, .inl (fun _ => 0))), (q_9, .inl (cA_10, 10000, .inl (fun _ => 0))), (q_11, .inl (cA_12, 10000, .inl (fun _ => 0))), (q_13, .inl (cA_14, 50, .inl (fun _ => 0))), (q_15, .inl (cA_16, 50, .inl (fun _ => 0))), (q_17, .inl (cA_18, 50, .inl (fun _ => 0))), (q_19, .inl (cA_20, 2000, .inl (fun _ => 0)))] := hD
  refine lv_aload_n hx hb d_M_init_88 rfl (lv_at hl 0 rfl) ?_
  refine lv_sipush (v := 1407) hx hb d_M_init_89 (by decide) ?_
  refine va_newa (D := (dC, dI)) (atype := .int) (ty := .int) (N' := 1407) (a0 := (1407, .inl (fun _ => 0))) hx hb (hts _ tw_153) rfl hK hP hD hS hA (fun _ => rfl) (by decide) (by decide) (by decide) (Nat.le_of_ble_eq_true rfl) (Nat.le_of_ble_eq_true rfl) d_M_init_92 (fun q_21 cA_22 H hK hP hD hS => ?_)
  refine W.widen (k := 11) (n := 24167) (by omega) (by omega) ?_
  replace hP : va_P (dC, dI) vwCl [(a_m, .inr (5, [.int 0, .ref q_1, .int 0, .int 0, .int 0, .ref q_3, .ref q_5, .ref q_7, .int 0, .ref q_9, .ref q_11, .ref q_13, .ref q_15, .ref q_17, .ref q_19, .null, .int 0, .null, .null, .int 0, .null, .int 0])), (q_1, .inl (cA_2, 120, .inl (fun _ => 0))), (q_3, .inl (cA_4, 410, .inl (fun _ => 0))), (q_5, .inl (cA_6, 40, .inl (fun _ => 0))), (q_7, .inl (cA_8, 40, .inl (fun _ => 0))), (q_9, .inl (cA_10, 10000, .inl (fun _ => 0))), (q_11, .inl (cA_12, 10000, .inl (fun _ => 0))), (q_13, .inl (cA_14, 50, .inl (fun _ => 0))), (q_15, .inl (cA_16, 50, .inl (fun _ => 0))), (q_17, .inl (cA_18, 50, .inl (fun _ => 0))), (q_19, .inl (cA_20, 2000, .inl (fun _ => 0))), (q_21, .inl (cA_22, 1407, .inl (fun _ => 0)))] H := hP
  replace hD : va_D A [(a_m, .inr (5, [.int 0, .ref q_1, .int 0, .int 0, .int 0, .ref q_3, .ref q_5, .ref q_7, .int 0, .ref q_9, .ref q_11, .ref q_13, .ref q_15, .ref q_17, .ref q_19, .null, .int 0, .null, .null, .int 0, .null, .int 0])), (q_1, .inl (cA_2, 120, .inl (fun _ => 0))), (q_3, .inl (cA_4, 410, .inl (fun _ => 0))), (q_5, .inl (cA_6, 40, .inl (fun _ => 0))), (q_7, .inl (cA_8, 40, .inl (fun _ => 0))), (q_9, .inl (cA_10, 10000, .inl (fun _ => 0))), (q_11, .inl (cA_12, 10000, .inl (fun _ => 0))), (q_13, .inl (cA_14, 50, .inl (fun _ => 0))), (q_15, .inl (cA_16, 50, .inl (fun _ => 0))), (q_17, .inl (cA_18, 50, .inl (fun _ => 0))), (q_19, .inl (cA_20, 2000, .inl (fun _ => 0))), (q_21, .inl (cA_22, 1407, .inl (fun _ => 0)))] := hD
  replace hK : va_K (dC, dI) vwCl [(cA_2, .byte), (cA_4, .int), (cA_6, .boolean), (cA_8, .boolean), (cA_10, .boolean), (cA_12, .boolean), (cA_14, .int), (cA_16, .int), (cA_18, .int), (cA_20, .int), (cA_22, .int)] s := hK
  refine va_putF (D := (dC, dI)) (ci := 5) (v := .ref q_21) (ty := (.array .int)) (C := "LoanRulesModel") (T := Fz_M) (N := 22) hx hb hts it_M tz_M tz_M_ok nz_M hown hK hP hD hS 0 rfl rfl 15 (by decide) (hts _ tw_616) (fun _ h9 => h9) rfl hin rfl (by decide +kernel) rfl rfl (Nat.le_of_ble_eq_true rfl) d_M_init_94 (fun H locs hP hD hS => ?_)
  replace hP : va_P (dC, dI) vwCl [(a_m, .inr (5, [.int 0, .ref q_1, .int 0, .int 0, .int 0, .ref q_3, .ref q_5, .ref q_7, .int 0, .ref q_9, .ref q_11, .ref q_13, .ref q_15, .ref q_17, .ref q_19, .ref q_21, .int 0, .null, .null, .int 0, .null, .int 0])), (q_1, .inl (cA_2, 120, .inl (fun _ => 0))), (q_3, .inl (cA_4, 410, .inl (fun _ => 0))), (q_5, .inl (cA_6, 40, .inl (fun _ => 0))), (q_7, .inl (cA_8, 40, .inl (fun _ => 0))), (q_9, .inl (cA_10, 10000, .inl (fun _ => 0))), (q_11, .inl (cA_12, 10000, .inl (fun _ => 0))), (q_13, .inl (cA_14, 50, .inl (fun _ => 0))), (q_15, .inl (cA_16, 50, .inl (fun _ => 0))), (q_17, .inl (cA_18, 50, .inl (fun _ => 0))), (q_19, .inl (cA_20, 2000, .inl (fun _ => 0))), (q_21, .inl (cA_22, 1407, .inl (fun _ => 0)))] H := hP
  replace hD : va_D A [(a_m, .inr (5, [.int 0, .ref q_1, .int 0, .int 0, .int 0, .ref q_3, .ref q_5, .ref q_7, .int 0, .ref q_9, .ref q_11, .ref q_13, .ref q_15, .ref q_17, .ref q_19, .ref q_21, .int 0, .null, .null, .int 0, .null, .int 0])), (q_1, .inl (cA_2, 120, .inl (fun _ => 0))), (q_3, .inl (cA_4, 410, .inl (fun _ => 0))), (q_5, .inl (cA_6, 40, .inl (fun _ => 0))), (q_7, .inl (cA_8, 40, .inl (fun _ => 0))), (q_9, .inl (cA_10, 10000, .inl (fun _ => 0))), (q_11, .inl (cA_12, 10000, .inl (fun _ => 0))), (q_13, .inl (cA_14, 50, .inl (fun _ => 0))), (q_15, .inl (cA_16, 50, .inl (fun _ => 0))), (q_17, .inl (cA_18, 50, .inl (fun _ => 0))), (q_19, .inl (cA_20, 2000, .inl (fun _ => 0))), (q_21, .inl (cA_22, 1407, .inl (fun _ => 0)))] := hD
  refine lv_aload_n hx hb d_M_init_97 rfl (lv_at hl 0 rfl) ?_
  refine lv_bipush (v := 50) hx hb d_M_init_98 (by decide) ?_
  refine va_newa (D := (dC, dI)) (atype := .int) (ty := .int) (N' := 50) (a0 := (50, .inl (fun _ => 0))) hx hb (hts _ tw_153) rfl hK hP hD hS hA (fun _ => rfl) (by decide) (by decide) (by decide) (Nat.le_of_ble_eq_true rfl) (Nat.le_of_ble_eq_true rfl) d_M_init_100 (fun q_23 cA_24 H hK hP hD hS => ?_)
  refine W.widen (k := 12) (n := 24217) (by omega) (by omega) ?_
  replace hP : va_P (dC, dI) vwCl [(a_m, .inr (5, [.int 0, .ref q_1, .int 0, .int 0, .int 0, .ref q_3, .ref q_5, .ref q_7, .int 0, .ref q_9, .ref q_11, .ref q_13, .ref q_15, .ref q_17, .ref q_19, .ref q_21, .int 0, .null, .null, .int 0, .null, .int 0])), (q_1, .inl (cA_2, 120, .inl (fun _ => 0))), (q_3, .inl (cA_4, 410, .inl (fun _ => 0))), (q_5, .inl (cA_6, 40, .inl (fun _ => 0))), (q_7, .inl (cA_8, 40, .inl (fun _ => 0))), (q_9, .inl (cA_10, 10000, .inl (fun _ => 0))), (q_11, .inl (cA_12, 10000, .inl (fun _ => 0))), (q_13, .inl (cA_14, 50, .inl (fun _ => 0))), (q_15, .inl (cA_16, 50, .inl (fun _ => 0))), (q_17, .inl (cA_18, 50, .inl (fun _ => 0))), (q_19, .inl (cA_20, 2000, .inl (fun _ => 0))), (q_21, .inl (cA_22, 1407, .inl (fun _ => 0))), (q_23, .inl (cA_24, 50, .inl (fun _ => 0)))] H := hP
  replace hD : va_D A [(a_m, .inr (5, [.int 0, .ref q_1, .int 0, .int 0, .int 0, .ref q_3, .ref q_5, .ref q_7, .int 0, .ref q_9, .ref q_11, .ref q_13, .ref q_15, .ref q_17, .ref q_19, .ref q_21, .int 0, .null, .null, .int 0, .null, .int 0])), (q_1, .inl (cA_2, 120, .inl (fun _ => 0))), (q_3, .inl (cA_4, 410, .inl (fun _ => 0))), (q_5, .inl (cA_6, 40, .inl (fun _ => 0))), (q_7, .inl (cA_8, 40, .inl (fun _ => 0))), (q_9, .inl (cA_10, 10000, .inl (fun _ => 0))), (q_11, .inl (cA_12, 10000, .inl (fun _ => 0))), (q_13, .inl (cA_14, 50, .inl (fun _ => 0))), (q_15, .inl (cA_16, 50, .inl (fun _ => 0))), (q_17, .inl (cA_18, 50, .inl (fun _ => 0))), (q_19, .inl (cA_20, 2000, .inl (fun _ => 0))), (q_21, .inl (cA_22, 1407, .inl (fun _ => 0))), (q_23, .inl (cA_24, 50, .inl (fun _ => 0)))] := hD
  replace hK : va_K (dC, dI) vwCl [(cA_2, .byte), (cA_4, .int), (cA_6, .boolean), (cA_8, .boolean), (cA_10, .boolean), (cA_12, .boolean), (cA_14, .int), (cA_16, .int), (cA_18, .int), (cA_20, .int), (cA_22, .int), (cA_24, .int)] s := hK
  refine va_putF (D := (dC, dI)) (ci := 5) (v := .ref q_23) (ty := (.array .int)) (C := "LoanRulesModel") (T := Fz_M) (N := 22) hx hb hts it_M tz_M tz_M_ok nz_M hown hK hP hD hS 0 rfl rfl 17 (by decide) (hts _ tw_618) (fun _ h9 => h9) rfl hin rfl (by decide +kernel) rfl rfl (Nat.le_of_ble_eq_true rfl) d_M_init_102 (fun H locs hP hD hS => ?_)
  replace hP : va_P (dC, dI) vwCl [(a_m, .inr (5, [.int 0, .ref q_1, .int 0, .int 0, .int 0, .ref q_3, .ref q_5, .ref q_7, .int 0, .ref q_9, .ref q_11, .ref q_13, .ref q_15, .ref q_17, .ref q_19, .ref q_21, .int 0, .ref q_23, .null, .int 0, .null, .int 0])), (q_1, .inl (cA_2, 120, .inl (fun _ => 0))), (q_3, .inl (cA_4, 410, .inl (fun _ => 0))), (q_5, .inl (cA_6, 40, .inl (fun _ => 0))), (q_7, .inl (cA_8, 40, .inl (fun _ => 0))), (q_9, .inl (cA_10, 10000, .inl (fun _ => 0))), (q_11, .inl (cA_12, 10000, .inl (fun _ => 0))), (q_13, .inl (cA_14, 50, .inl (fun _ => 0))), (q_15, .inl (cA_16, 50, .inl (fun _ => 0))), (q_17, .inl (cA_18, 50, .inl (fun _ => 0))), (q_19, .inl (cA_20, 2000, .inl (fun _ => 0))), (q_21, .inl (cA_22, 1407, .inl (fun _ => 0))), (q_23, .inl (cA_24, 50, .inl (fun _ => 0)))] H := hP
  replace hD : va_D A [(a_m, .inr (5, [.int 0, .ref q_1, .int 0, .int 0, .int 0, .ref q_3, .ref q_5, .ref q_7, .int 0, .ref q_9, .ref q_11, .ref q_13, .ref q_15, .ref q_17, .ref q_19, .ref q_21, .int 0, .ref q_23, .null, .int 0, .null, .int 0])), (q_1, .inl (cA_2, 120, .inl (fun _ => 0))), (q_3, .inl (cA_4, 410, .inl (fun _ => 0))), (q_5, .inl (cA_6, 40, .inl (fun _ => 0))), (q_7, .inl (cA_8, 40, .inl (fun _ => 0))), (q_9, .inl (cA_10, 10000, .inl (fun _ => 0))), (q_11, .inl (cA_12, 10000, .inl (fun _ => 0))), (q_13, .inl (cA_14, 50, .inl (fun _ => 0))), (q_15, .inl (cA_16, 50, .inl (fun _ => 0))), (q_17, .inl (cA_18, 50, .inl (fun _ => 0))), (q_19, .inl (cA_20, 2000, .inl (fun _ => 0))), (q_21, .inl (cA_22, 1407, .inl (fun _ => 0))), (q_23, .inl (cA_24, 50, .inl (fun _ => 0)))] := hD
  refine lv_aload_n hx hb d_M_init_105 rfl (lv_at hl 0 rfl) ?_
  refine lv_bipush (v := 40) hx hb d_M_init_106 (by decide) ?_
  refine va_newa (D := (dC, dI)) (atype := .int) (ty := .int) (N' := 40) (a0 := (40, .inl (fun _ => 0))) hx hb (hts _ tw_153) rfl hK hP hD hS hA (fun _ => rfl) (by decide) (by decide) (by decide) (Nat.le_of_ble_eq_true rfl) (Nat.le_of_ble_eq_true rfl) d_M_init_108 (fun q_25 cA_26 H hK hP hD hS => ?_)
  refine W.widen (k := 13) (n := 24257) (by omega) (by omega) ?_
  replace hP : va_P (dC, dI) vwCl [(a_m, .inr (5, [.int 0, .ref q_1, .int 0, .int 0, .int 0, .ref q_3, .ref q_5, .ref q_7, .int 0, .ref q_9, .ref q_11, .ref q_13, .ref q_15, .ref q_17, .ref q_19, .ref q_21, .int 0, .ref q_23, .null, .int 0, .null, .int 0])), (q_1, .inl (cA_2, 120, .inl (fun _ => 0))), (q_3, .inl (cA_4, 410, .inl (fun _ => 0))), (q_5, .inl (cA_6, 40, .inl (fun _ => 0))), (q_7, .inl (cA_8, 40, .inl (fun _ => 0))), (q_9, .inl (cA_10, 10000, .inl (fun _ => 0))), (q_11, .inl (cA_12, 10000, .inl (fun _ => 0))), (q_13, .inl (cA_14, 50, .inl (fun _ => 0))), (q_15, .inl (cA_16, 50, .inl (fun _ => 0))), (q_17, .inl (cA_18, 50, .inl (fun _ => 0))), (q_19, .inl (cA_20, 2000, .inl (fun _ => 0))), (q_21, .inl (cA_22, 1407, .inl (fun _ => 0))), (q_23, .inl (cA_24, 50, .inl (fun _ => 0))), (q_25, .inl (cA_26, 40, .inl (fun _ => 0)))] H := hP
  replace hD : va_D A [(a_m, .inr (5, [.int 0, .ref q_1, .int 0, .int 0, .int 0, .ref q_3, .ref q_5, .ref q_7, .int 0, .ref q_9, .ref q_11, .ref q_13, .ref q_15, .ref q_17, .ref q_19, .ref q_21, .int 0, .ref q_23, .null, .int 0, .null, .int 0])), (q_1, .inl (cA_2, 120, .inl (fun _ => 0))), (q_3, .inl (cA_4, 410, .inl (fun _ => 0))), (q_5, .inl (cA_6, 40, .inl (fun _ => 0))), (q_7, .inl (cA_8, 40, .inl (fun _ => 0))), (q_9, .inl (cA_10, 10000, .inl (fun _ => 0))), (q_11, .inl (cA_12, 10000, .inl (fun _ => 0))), (q_13, .inl (cA_14, 50, .inl (fun _ => 0))), (q_15, .inl (cA_16, 50, .inl (fun _ => 0))), (q_17, .inl (cA_18, 50, .inl (fun _ => 0))), (q_19, .inl (cA_20, 2000, .inl (fun _ => 0))), (q_21, .inl (cA_22, 1407, .inl (fun _ => 0))), (q_23, .inl (cA_24, 50, .inl (fun _ => 0))), (q_25, .inl (cA_26, 40, .inl (fun _ => 0)))] := hD
  replace hK : va_K (dC, dI) vwCl [(cA_2, .byte), (cA_4, .int), (cA_6, .boolean), (cA_8, .boolean), (cA_10, .boolean), (cA_12, .boolean), (cA_14, .int), (cA_16, .int), (cA_18, .int), (cA_20, .int), (cA_22, .int), (cA_24, .int), (cA_26, .int)] s := hK
  refine va_putF (D := (dC, dI)) (ci := 5) (v := .ref q_25) (ty := (.array .int)) (C := "LoanRulesModel") (T := Fz_M) (N := 22) hx hb hts it_M tz_M tz_M_ok nz_M hown hK hP hD hS 0 rfl rfl 18 (by decide) (hts _ tw_619) (fun _ h9 => h9) rfl hin rfl (by decide +kernel) rfl rfl (Nat.le_of_ble_eq_true rfl) d_M_init_110 (fun H locs hP hD hS => ?_)
  replace hP : va_P (dC, dI) vwCl [(a_m, .inr (5, [.int 0, .ref q_1, .int 0, .int 0, .int 0, .ref q_3, .ref q_5, .ref q_7, .int 0, .ref q_9, .ref q_11, .ref q_13, .ref q_15, .ref q_17, .ref q_19, .ref q_21, .int 0, .ref q_23, .ref q_25, .int 0, .null, .int 0])), (q_1, .inl (cA_2, 120, .inl (fun _ => 0))), (q_3, .inl (cA_4, 410, .inl (fun _ => 0))), (q_5, .inl (cA_6, 40, .inl (fun _ => 0))), (q_7, .inl (cA_8, 40, .inl (fun _ => 0))), (q_9, .inl (cA_10, 10000, .inl (fun _ => 0))), (q_11, .inl (cA_12, 10000, .inl (fun _ => 0))), (q_13, .inl (cA_14, 50, .inl (fun _ => 0))), (q_15, .inl (cA_16, 50, .inl (fun _ => 0))), (q_17, .inl (cA_18, 50, .inl (fun _ => 0))), (q_19, .inl (cA_20, 2000, .inl (fun _ => 0))), (q_21, .inl (cA_22, 1407, .inl (fun _ => 0))), (q_23, .inl (cA_24, 50, .inl (fun _ => 0))), (q_25, .inl (cA_26, 40, .inl (fun _ => 0)))] H := hP
  replace hD : va_D A [(a_m, .inr (5, [.int 0, .ref q_1, .int 0, .int 0, .int 0, .ref q_3, .ref q_5, .ref q_7, .int 0, .ref q_9, .ref q_11, .ref q_13, .ref q_15, .ref q_17, .ref q_19, .ref q_21, .int 0, .ref q_23, .ref q_25, .int 0, .null, .int 0])), (q_1, .inl (cA_2, 120, .inl (fun _ => 0))), (q_3, .inl (cA_4, 410, .inl (fun _ => 0))), (q_5, .inl (cA_6, 40, .inl (fun _ => 0))), (q_7, .inl (cA_8, 40, .inl (fun _ => 0))), (q_9, .inl (cA_10, 10000, .inl (fun _ => 0))), (q_11, .inl (cA_12, 10000, .inl (fun _ => 0))), (q_13, .inl (cA_14, 50, .inl (fun _ => 0))), (q_15, .inl (cA_16, 50, .inl (fun _ => 0))), (q_17, .inl (cA_18, 50, .inl (fun _ => 0))), (q_19, .inl (cA_20, 2000, .inl (fun _ => 0))), (q_21, .inl (cA_22, 1407, .inl (fun _ => 0))), (q_23, .inl (cA_24, 50, .inl (fun _ => 0))), (q_25, .inl (cA_26, 40, .inl (fun _ => 0)))] := hD
  refine lv_aload_n hx hb d_M_init_113 rfl (lv_at hl 0 rfl) ?_
  refine lv_sipush (v := 1600) hx hb d_M_init_114 (by decide) ?_
  refine va_newa (D := (dC, dI)) (atype := .int) (ty := .int) (N' := 1600) (a0 := (1600, .inl (fun _ => 0))) hx hb (hts _ tw_153) rfl hK hP hD hS hA (fun _ => rfl) (by decide) (by decide) (by decide) (Nat.le_of_ble_eq_true rfl) (Nat.le_of_ble_eq_true rfl) d_M_init_117 (fun q_27 cA_28 H hK hP hD hS => ?_)
  refine W.widen (k := 14) (n := 25857) (by omega) (by omega) ?_
  replace hP : va_P (dC, dI) vwCl [(a_m, .inr (5, [.int 0, .ref q_1, .int 0, .int 0, .int 0, .ref q_3, .ref q_5, .ref q_7, .int 0, .ref q_9, .ref q_11, .ref q_13, .ref q_15, .ref q_17, .ref q_19, .ref q_21, .int 0, .ref q_23, .ref q_25, .int 0, .null, .int 0])), (q_1, .inl (cA_2, 120, .inl (fun _ => 0))), (q_3, .inl (cA_4, 410, .inl (fun _ => 0))), (q_5, .inl (cA_6, 40, .inl (fun _ => 0))), (q_7, .inl (cA_8, 40, .inl (fun _ => 0))), (q_9, .inl (cA_10, 10000, .inl (fun _ => 0))), (q_11, .inl (cA_12, 10000, .inl (fun _ => 0))), (q_13, .inl (cA_14, 50, .inl (fun _ => 0))), (q_15, .inl (cA_16, 50, .inl (fun _ => 0))), (q_17, .inl (cA_18, 50, .inl (fun _ => 0))), (q_19, .inl (cA_20, 2000, .inl (fun _ => 0))), (q_21, .inl (cA_22, 1407, .inl (fun _ => 0))), (q_23, .inl (cA_24, 50, .inl (fun _ => 0))), (q_25, .inl (cA_26, 40, .inl (fun _ => 0))), (q_27, .inl (cA_28, 1600, .inl (fun _ => 0)))] H := hP
  replace hD : va_D A [(a_m, .inr (5, [.int 0, .ref q_1, .int 0, .int 0, .int 0, .ref q_3, .ref q_5, .ref q_7, .int 0, .ref q_9, .ref q_11, .ref q_13, .ref q_15, .ref q_17, .ref q_19, .ref q_21, .int 0, .ref q_23, .ref q_25, .int 0, .null, .int 0])), (q_1, .inl (cA_2, 120, .inl (fun _ => 0))), (q_3, .inl (cA_4, 410, .inl (fun _ => 0))), (q_5, .inl (cA_6, 40, .inl (fun _ => 0))), (q_7, .inl (cA_8, 40, .inl (fun _ => 0))), (q_9, .inl (cA_10, 10000, .inl (fun _ => 0))), (q_11, .inl (cA_12, 10000, .inl (fun _ => 0))), (q_13, .inl (cA_14, 50, .inl (fun _ => 0))), (q_15, .inl (cA_16, 50, .inl (fun _ => 0))), (q_17, .inl (cA_18, 50, .inl (fun _ => 0))), (q_19, .inl (cA_20, 2000, .inl (fun _ => 0))), (q_21, .inl (cA_22, 1407, .inl (fun _ => 0))), (q_23, .inl (cA_24, 50, .inl (fun _ => 0))), (q_25, .inl (cA_26, 40, .inl (fun _ => 0))), (q_27, .inl (cA_28, 1600, .inl (fun _ => 0)))] := hD
  replace hK : va_K (dC, dI) vwCl [(cA_2, .byte), (cA_4, .int), (cA_6, .boolean), (cA_8, .boolean), (cA_10, .boolean), (cA_12, .boolean), (cA_14, .int), (cA_16, .int), (cA_18, .int), (cA_20, .int), (cA_22, .int), (cA_24, .int), (cA_26, .int), (cA_28, .int)] s := hK
  refine va_putF (D := (dC, dI)) (ci := 5) (v := .ref q_27) (ty := (.array .int)) (C := "LoanRulesModel") (T := Fz_M) (N := 22) hx hb hts it_M tz_M tz_M_ok nz_M hown hK hP hD hS 0 rfl rfl 20 (by decide) (hts _ tw_621) (fun _ h9 => h9) rfl hin rfl (by decide +kernel) rfl rfl (Nat.le_of_ble_eq_true rfl) d_M_init_119 (fun H locs hP hD hS => ?_)
  replace hP : va_P (dC, dI) vwCl [(a_m, .inr (5, [.int 0, .ref q_1, .int 0, .int 0, .int 0, .ref q_3, .ref q_5, .ref q_7, .int 0, .ref q_9, .ref q_11, .ref q_13, .ref q_15, .ref q_17, .ref q_19, .ref q_21, .int 0, .ref q_23, .ref q_25, .int 0, .ref q_27, .int 0])), (q_1, .inl (cA_2, 120, .inl (fun _ => 0))), (q_3, .inl (cA_4, 410, .inl (fun _ => 0))), (q_5, .inl (cA_6, 40, .inl (fun _ => 0))), (q_7, .inl (cA_8, 40, .inl (fun _ => 0))), (q_9, .inl (cA_10, 10000, .inl (fun _ => 0))), (q_11, .inl (cA_12, 10000, .inl (fun _ => 0))), (q_13, .inl (cA_14, 50, .inl (fun _ => 0))), (q_15, .inl (cA_16, 50, .inl (fun _ => 0))), (q_17, .inl (cA_18, 50, .inl (fun _ => 0))), (q_19, .inl (cA_20, 2000, .inl (fun _ => 0))), (q_21, .inl (cA_22, 1407, .inl (fun _ => 0))), (q_23, .inl (cA_24, 50, .inl (fun _ => 0))), (q_25, .inl (cA_26, 40, .inl (fun _ => 0))), (q_27, .inl (cA_28, 1600, .inl (fun _ => 0)))] H := hP
  replace hD : va_D A [(a_m, .inr (5, [.int 0, .ref q_1, .int 0, .int 0, .int 0, .ref q_3, .ref q_5, .ref q_7, .int 0, .ref q_9, .ref q_11, .ref q_13, .ref q_15, .ref q_17, .ref q_19, .ref q_21, .int 0, .ref q_23, .ref q_25, .int 0, .ref q_27, .int 0])), (q_1, .inl (cA_2, 120, .inl (fun _ => 0))), (q_3, .inl (cA_4, 410, .inl (fun _ => 0))), (q_5, .inl (cA_6, 40, .inl (fun _ => 0))), (q_7, .inl (cA_8, 40, .inl (fun _ => 0))), (q_9, .inl (cA_10, 10000, .inl (fun _ => 0))), (q_11, .inl (cA_12, 10000, .inl (fun _ => 0))), (q_13, .inl (cA_14, 50, .inl (fun _ => 0))), (q_15, .inl (cA_16, 50, .inl (fun _ => 0))), (q_17, .inl (cA_18, 50, .inl (fun _ => 0))), (q_19, .inl (cA_20, 2000, .inl (fun _ => 0))), (q_21, .inl (cA_22, 1407, .inl (fun _ => 0))), (q_23, .inl (cA_24, 50, .inl (fun _ => 0))), (q_25, .inl (cA_26, 40, .inl (fun _ => 0))), (q_27, .inl (cA_28, 1600, .inl (fun _ => 0)))] := hD
  have hP9 := hP.sub (ws' := [(a_m, .inr (5, [.int 0, .ref q_1, .int 0, .int 0, .int 0, .ref q_3, .ref q_5, .ref q_7, .int 0, .ref q_9, .ref q_11, .ref q_13, .ref q_15, .ref q_17, .ref q_19, .ref q_21, .int 0, .ref q_23, .ref q_25, .int 0, .ref q_27, .int 0])), (q_1, .inl (cA_2, 120, .inl (fun _ => 0))), (q_3, .inl (cA_4, 410, .inl (fun _ => 0))), (q_5, .inl (cA_6, 40, .inl (fun _ => 0))), (q_7, .inl (cA_8, 40, .inl (fun _ => 0))), (q_9, .inl (cA_10, 10000, .inl (fun _ => 0))), (q_11, .inl (cA_12, 10000, .inl (fun _ => 0))), (q_13, .inl (cA_14, 50, .inl (fun _ => 0))), (q_15, .inl (cA_16, 50, .inl (fun _ => 0))), (q_17, .inl (cA_18, 50, .inl (fun _ => 0))), (q_19, .inl (cA_20, 2000, .inl (fun _ => 0))), (q_21, .inl (cA_22, 1407, .inl (fun _ => 0))), (q_23, .inl (cA_24, 50, .inl (fun _ => 0))), (q_25, .inl (cA_26, 40, .inl (fun _ => 0))), (q_27, .inl (cA_28, 1600, .inl (fun _ => 0)))]) [0, 1, 2, 3, 4, 5, 6, 7, 8, 9, 10, 11, 12, 13, 14] rfl
  have hD9 := hD.sub (ws' := [(a_m, .inr (5, [.int 0, .ref q_1, .int 0, .int 0, .int 0, .ref q_3, .ref q_5, .ref q_7, .int 0, .ref q_9, .ref q_11, .ref q_13, .ref q_15, .ref q_17, .ref q_19, .ref q_21, .int 0, .ref q_23, .ref q_25, .int 0, .ref q_27, .int 0])), (q_1, .inl (cA_2, 120, .inl (fun _ => 0))), (q_3, .inl (cA_4, 410, .inl (fun _ => 0))), (q_5, .inl (cA_6, 40, .inl (fun _ => 0))), (q_7, .inl (cA_8, 40, .inl (fun _ => 0))), (q_9, .inl (cA_10, 10000, .inl (fun _ => 0))), (q_11, .inl (cA_12, 10000, .inl (fun _ => 0))), (q_13, .inl (cA_14, 50, .inl (fun _ => 0))), (q_15, .inl (cA_16, 50, .inl (fun _ => 0))), (q_17, .inl (cA_18, 50, .inl (fun _ => 0))), (q_19, .inl (cA_20, 2000, .inl (fun _ => 0))), (q_21, .inl (cA_22, 1407, .inl (fun _ => 0))), (q_23, .inl (cA_24, 50, .inl (fun _ => 0))), (q_25, .inl (cA_26, 40, .inl (fun _ => 0))), (q_27, .inl (cA_28, 1600, .inl (fun _ => 0)))]) [0, 1, 2, 3, 4, 5, 6, 7, 8, 9, 10, 11, 12, 13, 14] (by decide) rfl
  have hK9 := hK.sub (tys' := [(cA_2, .byte), (cA_4, .int), (cA_6, .boolean), (cA_8, .boolean), (cA_10, .boolean), (cA_12, .boolean), (cA_14, .int), (cA_16, .int), (cA_18, .int), (cA_20, .int), (cA_22, .int), (cA_24, .int), (cA_26, .int), (cA_28, .int)]) [0, 1, 2, 3, 4, 5, 6, 7, 8, 9, 10, 11, 12, 13] rfl
  exact W.vret hx hb hr (fun t ht hW => ⟨⟨(), rfl, trivial, q_1, q_3, q_5, q_7, q_9, q_11, q_13, q_15, q_17, q_19, q_21, q_23, q_25, q_27, cA_2, cA_4, cA_6, cA_8, cA_10, cA_12, cA_14, cA_16, cA_18, cA_20, cA_22, cA_24, cA_26, cA_28, by rw [ht]; exact hP9, va_K.moved hW.alike hK9, hD9⟩, hS.F ht⟩) hS.2.2 d_M_init_122
set_option maxHeartbeats 4000000 in
set_option maxRecDepth 100000 in
theorem c_Mo_thrown (l : Launch) (dC : Nat → ClassId) (dI : Nat → Nat → Nat) (adK adV : Nat → Nat) (a_m : Nat) (a_sa : Nat) (a_mr : Nat) (a_me : Nat) (a_le : Nat) (a_mc : Nat) (a_mt : Nat) (a_mk : Nat) (a_my : Nat) (a_mb : Nat) (a_mx : Nat) (a_ml : Nat) (a_mh : Nat) (a_mf : Nat) (a_mz : Nat) : Met l y_M_thrown ws_M_thrown ({ frames := 0, cells := 0, slots := 0, locals := 0 }) (va_Pc [.ref a_m] (fun U => zz adK adV (fun _ => False) U ∧ va_P (dC, dI) vwCl [(a_m, .inr (5, [.int 0, .ref a_sa, .int 0, .int 0, .int 0, .ref a_mr, .ref a_me, .ref a_le, .int 0, .ref a_mc, .ref a_mt, .ref a_mk, .ref a_my, .ref a_mb, .ref a_mx, .ref a_ml, .int 0, .ref a_mh, .ref a_mf, .int 0, .ref a_mz, .int 0]))] U.heap ∧ va_K (dC, dI) vwCl [] U)) (vp_Si (fun r => r = 0)) 0 0 (fun _ => False) := by
  refine Met.ofW (cc := c_M_thrown) (maxL := 1) (ret := (some .int)) (by decide) rfl ?_
  intro p e s m args below meth c s₁ B hml hv
  obtain ⟨rfl, hZ, hP, hK⟩ := hv
  have hx := B.exec
  have hb := B.bytes
  have hr := B.returns
  have hts0 := atoms_spec (ws := ws_M_thrown) B.pre
  have hts : ∀ w ∈ TT, w.before _ s = true := fun w h => hts0 w (List.mem_cons_of_mem _ h)
  have hown : s.vm.findClass "LoanRulesModel" = some m.cls := findClass_of_methodNamed B.named
  have hlocks := B.notSynchronized
  have hS : va_S (fun _ => False) s.heap s.heap [] := va_S.rf
  replace hP : va_P (dC, dI) vwCl [(a_m, .inr (5, [.int 0, .ref a_sa, .int 0, .int 0, .int 0, .ref a_mr, .ref a_me, .ref a_le, .int 0, .ref a_mc, .ref a_mt, .ref a_mk, .ref a_my, .ref a_mb, .ref a_mx, .ref a_ml, .int 0, .ref a_mh, .ref a_mf, .int 0, .ref a_mz, .int 0]))] s.heap := hP
  have hl := lv_entry ([.ref a_m]) (n := 1) (Nat.le_of_ble_eq_true rfl)
  rw [lg_entry_eq]
  generalize (lg_sl ([.ref a_m]) ++ List.replicate (1 - (lg_sl ([.ref a_m])).length) Slot.unset).toArray = ls at hl ⊢
  replace hl : lv_has ls 1 [(0, .ref a_m)] := hl
  refine lv_aload_n hx hb d_M_thrown_0 rfl (lv_at hl 0 rfl) ?_
  refine va_get (D := (dC, dI)) (ci := 5) (v := .int 0) (C := "LoanRulesModel") (T := Fz_M) (N := 22) hx hb hts it_M hown hK hP 0 rfl rfl 0 (by decide) (hts _ tw_601) (fun _ h9 => h9) rfl d_M_thrown_1 ?_
  exact W.iret (v := 0) hx hb hr (fun t ht hW => ⟨0, rfl, rfl, ht⟩) (fun _ h => by cases h) d_M_thrown_4
set_option maxHeartbeats 4000000 in
set_option maxRecDepth 100000 in
theorem c_Mo_sign (l : Launch) (dC : Nat → ClassId) (dI : Nat → Nat → Nat) (adK adV : Nat → Nat) (a_m : Nat) (a_sa : Nat) (k_sa : ClassId) (p0 : Int32) (a_mr : Nat) (a_me : Nat) (a_le : Nat) (a_mc : Nat) (a_mt : Nat) (a_mk : Nat) (a_my : Nat) (a_mb : Nat) (a_mx : Nat) (a_ml : Nat) (a_mh : Nat) (a_mf : Nat) (a_mz : Nat) (sz : Nat) : Met l y_M_sign ws_M_sign ({ frames := 0, cells := 0, slots := 0, locals := 0 }) (va_Pc [.ref a_m, .int p0] (fun U => U.heap.size = sz ∧ zz adK adV (va_A [(a_m, .inr (5, [.int 0, .ref a_sa, .int 0, .int 0, .int 0, .ref a_mr, .ref a_me, .ref a_le, .int 0, .ref a_mc, .ref a_mt, .ref a_mk, .ref a_my, .ref a_mb, .ref a_mx, .ref a_ml, .int 0, .ref a_mh, .ref a_mf, .int 0, .ref a_mz, .int 0])), (a_sa, .inl (k_sa, 120, .inl (fun _ => 0)))] sz) U ∧ va_P (dC, dI) vwCl [(a_m, .inr (5, [.int 0, .ref a_sa, .int 0, .int 0, .int 0, .ref a_mr, .ref a_me, .ref a_le, .int 0, .ref a_mc, .ref a_mt, .ref a_mk, .ref a_my, .ref a_mb, .ref a_mx, .ref a_ml, .int 0, .ref a_mh, .ref a_mf, .int 0, .ref a_mz, .int 0])), (a_sa, .inl (k_sa, 120, .inl (fun _ => 0)))] U.heap ∧ va_K (dC, dI) vwCl [(k_sa, .byte)] U ∧ va_D (fun _ => True) [(a_m, .inr (5, [.int 0, .ref a_sa, .int 0, .int 0, .int 0, .ref a_mr, .ref a_me, .ref a_le, .int 0, .ref a_mc, .ref a_mt, .ref a_mk, .ref a_my, .ref a_mb, .ref a_mx, .ref a_ml, .int 0, .ref a_mh, .ref a_mf, .int 0, .ref a_mz, .int 0])), (a_sa, .inl (k_sa, 120, .inl (fun _ => 0)))])) (va_Qv (fun _ : Unit => True) (fun (_ : Unit) (_ : State) => True) (va_A [(a_m, .inr (5, [.int 0, .ref a_sa, .int 0, .int 0, .int 0, .ref a_mr, .ref a_me, .ref a_le, .int 0, .ref a_mc, .ref a_mt, .ref a_mk, .ref a_my, .ref a_mb, .ref a_mx, .ref a_ml, .int 0, .ref a_mh, .ref a_mf, .int 0, .ref a_mz, .int 0])), (a_sa, .inl (k_sa, 120, .inl (fun _ => 0)))] sz)) 0 0 (va_A [(a_m, .inr (5, [.int 0, .ref a_sa, .int 0, .int 0, .int 0, .ref a_mr, .ref a_me, .ref a_le, .int 0, .ref a_mc, .ref a_mt, .ref a_mk, .ref a_my, .ref a_mb, .ref a_mx, .ref a_ml, .int 0, .ref a_mh, .ref a_mf, .int 0, .ref a_mz, .int 0])), (a_sa, .inl (k_sa, 120, .inl (fun _ => 0)))] sz) := by
  refine Met.ofW (cc := c_M_sign) (maxL := 2) (ret := none) (by decide) rfl ?_
  intro p e s m args below meth c s₁ B hml hv
  obtain ⟨rfl, hsz, hZ, hP, hK, hD0⟩ := hv
  have hx := B.exec
  have hb := B.bytes
  have hr := B.returns
  have hts0 := atoms_spec (ws := ws_M_sign) B.pre
  have hts : ∀ w ∈ TT, w.before _ s = true := fun w h => hts0 w (List.mem_cons_of_mem _ h)
  have hown : s.vm.findClass "LoanRulesModel" = some m.cls := findClass_of_methodNamed B.named
  have hlocks := B.notSynchronized
  subst hsz
  have hD := hD0.self (sz := s.heap.size)
  generalize hAe : va_A [(a_m, .inr (5, [.int 0, .ref a_sa, .int 0, .int 0, .int 0, .ref a_mr, .ref a_me, .ref a_le, .int 0, .ref a_mc, .ref a_mt, .ref a_mk, .ref a_my, .ref a_mb, .ref a_mx, .ref a_ml, .int 0, .ref a_mh, .ref a_mf, .int 0, .ref a_mz, .int 0])), (a_sa, .inl (k_sa, 120, .inl (fun _ => 0)))] s.heap.size = A at hD hZ ⊢
  have hA : ∀ q : Nat, s.heap.size ≤ q → A q := fun q h => by rw [← hAe]; exact Or.inr h
  clear hAe hD0
  have hS : va_S A s.heap s.heap [] := va_S.rf
  replace hP : va_P (dC, dI) vwCl [(a_m, .inr (5, [.int 0, .ref a_sa, .int 0, .int 0, .int 0, .ref a_mr, .ref a_me, .ref a_le, .int 0, .ref a_mc, .ref a_mt, .ref a_mk, .ref a_my, .ref a_mb, .ref a_mx, .ref a_ml, .int 0, .ref a_mh, .ref a_mf, .int 0, .ref a_mz, .int 0])), (a_sa, .inl (k_sa, 120, .inl (fun _ => 0)))] s.heap := hP
  have hl := lv_entry ([.ref a_m, .int p0]) (n := 2) (Nat.le_of_ble_eq_true rfl)
  rw [lg_entry_eq]
  generalize (lg_sl ([.ref a_m, .int p0]) ++ List.replicate (2 - (lg_sl ([.ref a_m, .int p0])).length) Slot.unset).toArray = ls at hl ⊢
  replace hl : lv_has ls 2 [(0, .ref a_m), (1, .int p0)] := hl
  refine lv_aload_n hx hb d_M_sign_0 rfl (lv_at hl 0 rfl) ?_
  refine lv_iconst (v := 0) hx hb d_M_sign_1 (by decide) ?_
  refine va_put (D := (dC, dI)) (ci := 5) (v := .int 0) (ty := .int) (C := "LoanRulesModel") (T := Fz_M) (N := 22) hx hb hts it_M tz_M tz_M_ok nz_M hown hK hP hD hS 0 rfl rfl 0 (by decide) (hts _ tw_601) (fun _ h9 => h9) rfl (by decide +kernel) rfl rfl (Nat.le_of_ble_eq_true rfl) d_M_sign_2 (fun H locs hP hD hS => ?_)
  replace hP : va_P (dC, dI) vwCl [(a_m, .inr (5, [.int 0, .ref a_sa, .int 0, .int 0, .int 0, .ref a_mr, .ref a_me, .ref a_le, .int 0, .ref a_mc, .ref a_mt, .ref a_mk, .ref a_my, .ref a_mb, .ref a_mx, .ref a_ml, .int 0, .ref a_mh, .ref a_mf, .int 0, .ref a_mz, .int 0])), (a_sa, .inl (k_sa, 120, .inl (fun _ => 0)))] H := hP
  replace hD : va_D A [(a_m, .inr (5, [.int 0, .ref a_sa, .int 0, .int 0, .int 0, .ref a_mr, .ref a_me, .ref a_le, .int 0, .ref a_mc, .ref a_mt, .ref a_mk, .ref a_my, .ref a_mb, .ref a_mx, .ref a_ml, .int 0, .ref a_mh, .ref a_mf, .int 0, .ref a_mz, .int 0])), (a_sa, .inl (k_sa, 120, .inl (fun _ => 0)))] := hD
  refine lv_aload_n hx hb d_M_sign_5 rfl (lv_at hl 0 rfl) ?_
  refine va_get (D := (dC, dI)) (ci := 5) (v := .int 0) (C := "LoanRulesModel") (T := Fz_M) (N := 22) hx hb hts it_M hown hK hP 0 rfl rfl 2 (by decide) (hts _ tw_603) (fun _ h9 => h9) rfl d_M_sign_6 ?_
  refine lv_bipush (v := 120) hx hb d_M_sign_9 (by decide) ?_
  refine lv_icmp_ge (tgt := 35) hx hb d_M_sign_11 (by decide) (fun c_1 => ?_) (fun c_1 => ?_)
  · exact absurd c_1 (by decide)
  · refine lv_aload_n hx hb d_M_sign_14 rfl (lv_at hl 0 rfl) ?_
    refine va_get (D := (dC, dI)) (ci := 5) (v := .ref a_sa) (C := "LoanRulesModel") (T := Fz_M) (N := 22) hx hb hts it_M hown hK hP 0 rfl rfl 1 (by decide) (hts _ tw_602) (fun _ h9 => h9) rfl d_M_sign_15 ?_
    refine lv_aload_n hx hb d_M_sign_18 rfl (lv_at hl 0 rfl) ?_
    refine va_get (D := (dC, dI)) (ci := 5) (v := .int 0) (C := "LoanRulesModel") (T := Fz_M) (N := 22) hx hb hts it_M hown hK hP 0 rfl rfl 2 (by decide) (hts _ tw_603) (fun _ h9 => h9) rfl d_M_sign_19 ?_
    refine lv_iload_n hx hb d_M_sign_22 rfl (lv_at hl 1 rfl) ?_
    refine lv_i2b hx hb d_M_sign_23 rfl ?_
    have i_2 : vp_in 0 120 := by show ¬ (_ ∨ _); decide
    refine va_bast (D := (dC, dI)) hx hb hK hP hD hS 1 0 rfl rfl i_2 d_M_sign_24 (fun H locs hP hD hS => ?_)
    replace hP : va_P (dC, dI) vwCl [(a_m, .inr (5, [.int 0, .ref a_sa, .int 0, .int 0, .int 0, .ref a_mr, .ref a_me, .ref a_le, .int 0, .ref a_mc, .ref a_mt, .ref a_mk, .ref a_my, .ref a_mb, .ref a_mx, .ref a_ml, .int 0, .ref a_mh, .ref a_mf, .int 0, .ref a_mz, .int 0])), (a_sa, .inl (k_sa, 120, .inl (upd (fun _ => 0) (0 : Int32).toNatClampNeg (vp_nar .byte p0.toInt8.toInt32))))] H := hP
    replace hD : va_D A [(a_m, .inr (5, [.int 0, .ref a_sa, .int 0, .int 0, .int 0, .ref a_mr, .ref a_me, .ref a_le, .int 0, .ref a_mc, .ref a_mt, .ref a_mk, .ref a_my, .ref a_mb, .ref a_mx, .ref a_ml, .int 0, .ref a_mh, .ref a_mf, .int 0, .ref a_mz, .int 0])), (a_sa, .inl (k_sa, 120, .inl (upd (fun _ => 0) (0 : Int32).toNatClampNeg (vp_nar .byte p0.toInt8.toInt32))))] := hD
    refine lv_aload_n hx hb d_M_sign_25 rfl (lv_at hl 0 rfl) ?_
    refine lv_dup hx hb d_M_sign_26 rfl ?_
    refine va_get (D := (dC, dI)) (ci := 5) (v := .int 0) (C := "LoanRulesModel") (T := Fz_M) (N := 22) hx hb hts it_M hown hK hP 0 rfl rfl 2 (by decide) (hts _ tw_603) (fun _ h9 => h9) rfl d_M_sign_27 ?_
    refine lv_iconst (v := 1) hx hb d_M_sign_30 (by decide) ?_
    refine lv_iadd hx hb d_M_sign_31 ?_
    refine lv_topi (fun x_3 ex_3 => ?_)
    obtain rfl : x_3 = 1 := ex_3.trans (by decide)
    refine va_put (D := (dC, dI)) (ci := 5) (v := .int 1) (ty := .int) (C := "LoanRulesModel") (T := Fz_M) (N := 22) hx hb hts it_M tz_M tz_M_ok nz_M hown hK hP hD hS 0 rfl rfl 2 (by decide) (hts _ tw_603) (fun _ h9 => h9) rfl (by decide +kernel) rfl rfl (Nat.le_of_ble_eq_true rfl) d_M_sign_32 (fun H locs hP hD hS => ?_)
    replace hP : va_P (dC, dI) vwCl [(a_m, .inr (5, [.int 0, .ref a_sa, .int 1, .int 0, .int 0, .ref a_mr, .ref a_me, .ref a_le, .int 0, .ref a_mc, .ref a_mt, .ref a_mk, .ref a_my, .ref a_mb, .ref a_mx, .ref a_ml, .int 0, .ref a_mh, .ref a_mf, .int 0, .ref a_mz, .int 0])), (a_sa, .inl (k_sa, 120, .inl (upd (fun _ => 0) (0 : Int32).toNatClampNeg (vp_nar .byte p0.toInt8.toInt32))))] H := hP
    replace hD : va_D A [(a_m, .inr (5, [.int 0, .ref a_sa, .int 1, .int 0, .int 0, .ref a_mr, .ref a_me, .ref a_le, .int 0, .ref a_mc, .ref a_mt, .ref a_mk, .ref a_my, .ref a_mb, .ref a_mx, .ref a_ml, .int 0, .ref a_mh, .ref a_mf, .int 0, .ref a_mz, .int 0])), (a_sa, .inl (k_sa, 120, .inl (upd (fun _ => 0) (0 : Int32).toNatClampNeg (vp_nar .byte p0.toInt8.toInt32))))] := hD
    exact W.vret hx hb hr (fun t ht hW => ⟨⟨(), rfl, trivial, trivial⟩, hS.F ht⟩) hS.2.2 d_M_sign_35
set_option maxHeartbeats 4000000 in
set_option maxRecDepth 100000 in
theorem c_Mo_look (l : Launch) (dC : Nat → ClassId) (dI : Nat → Nat → Nat) (adK adV : Nat → Nat) (a_m : Nat) (a_sa : Nat) (a_mr : Nat) (a_me : Nat) (a_le : Nat) (a_mc : Nat) (a_mt : Nat) (a_mk : Nat) (a_my : Nat) (a_mb : Nat) (a_mx : Nat) (a_ml : Nat) (a_mh : Nat) (a_mf : Nat) (a_mz : Nat) : Met l y_M_look ws_M_look ({ frames := 0, cells := 0, slots := 0, locals := 0 }) (va_Pc [.ref a_m, .int 0] (fun U => zz adK adV (fun _ => False) U ∧ va_P (dC, dI) vwCl [(a_m, .inr (5, [.int 0, .ref a_sa, .int 0, .int 0, .int 0, .ref a_mr, .ref a_me, .ref a_le, .int 0, .ref a_mc, .ref a_mt, .ref a_mk, .ref a_my, .ref a_mb, .ref a_mx, .ref a_ml, .int 0, .ref a_mh, .ref a_mf, .int 0, .ref a_mz, .int 0]))] U.heap ∧ va_K (dC, dI) vwCl [] U)) (vp_Si (fun r => r = (-1))) 0 0 (fun _ => False) := by
  refine Met.ofW (cc := c_M_look) (maxL := 2) (ret := (some .int)) (by decide) rfl ?_
  intro p e s m args below meth c s₁ B hml hv
  obtain ⟨rfl, hZ, hP, hK⟩ := hv
  have hx := B.exec
  have hb := B.bytes
  have hr := B.returns
  have hts0 := atoms_spec (ws := ws_M_look) B.pre
  have hts : ∀ w ∈ TT, w.before _ s = true := fun w h => hts0 w (List.mem_cons_of_mem _ h)
  have hown : s.vm.findClass "LoanRulesModel" = some m.cls := findClass_of_methodNamed B.named
  have hlocks := B.notSynchronized
  have hS : va_S (fun _ => False) s.heap s.heap [] := va_S.rf
  replace hP : va_P (dC, dI) vwCl [(a_m, .inr (5, [.int 0, .ref a_sa, .int 0, .int 0, .int 0, .ref a_mr, .ref a_me, .ref a_le, .int 0, .ref a_mc, .ref a_mt, .ref a_mk, .ref a_my, .ref a_mb, .ref a_mx, .ref a_ml, .int 0, .ref a_mh, .ref a_mf, .int 0, .ref a_mz, .int 0]))] s.heap := hP
  have hl := lv_entry ([.ref a_m, .int 0]) (n := 2) (Nat.le_of_ble_eq_true rfl)
  rw [lg_entry_eq]
  generalize (lg_sl ([.ref a_m, .int 0]) ++ List.replicate (2 - (lg_sl ([.ref a_m, .int 0])).length) Slot.unset).toArray = ls at hl ⊢
  replace hl : lv_has ls 2 [(0, .ref a_m), (1, .int 0)] := hl
  refine lv_iload_n hx hb d_M_look_0 rfl (lv_at hl 1 rfl) ?_
  refine lv_aload_n hx hb d_M_look_1 rfl (lv_at hl 0 rfl) ?_
  refine va_get (D := (dC, dI)) (ci := 5) (v := .int 0) (C := "LoanRulesModel") (T := Fz_M) (N := 22) hx hb hts it_M hown hK hP 0 rfl rfl 2 (by decide) (hts _ tw_603) (fun _ h9 => h9) rfl d_M_look_2 ?_
  refine lv_icmp_ge (tgt := 21) hx hb d_M_look_5 (by decide) (fun c_1 => ?_) (fun c_1 => ?_)
  · refine lv_iconst (v := (-1)) hx hb d_M_look_21 (by decide) ?_
    exact W.iret (v := (-1)) hx hb hr (fun t ht hW => ⟨(-1), rfl, rfl, ht⟩) (fun _ h => by cases h) d_M_look_22
  · exact absurd (by decide) c_1
set_option maxHeartbeats 4000000 in
set_option maxRecDepth 100000 in
theorem c_Mo_word (l : Launch) (dC : Nat → ClassId) (dI : Nat → Nat → Nat) (adK adV : Nat → Nat) (a_m : Nat) (a_sa : Nat) (a_mr : Nat) (a_me : Nat) (a_le : Nat) (a_mc : Nat) (a_mt : Nat) (a_mk : Nat) (a_my : Nat) (a_mb : Nat) (a_mx : Nat) (a_ml : Nat) (a_mh : Nat) (a_mf : Nat) (a_mz : Nat) : Met l y_M_word ws_M_word ({ frames := 1, cells := 0, slots := 0, locals := 21 }) (va_Pc [.ref a_m] (fun U => zz adK adV (fun _ => False) U ∧ va_P (dC, dI) vwCl [(a_m, .inr (5, [.int 0, .ref a_sa, .int 0, .int 0, .int 0, .ref a_mr, .ref a_me, .ref a_le, .int 0, .ref a_mc, .ref a_mt, .ref a_mk, .ref a_my, .ref a_mb, .ref a_mx, .ref a_ml, .int 0, .ref a_mh, .ref a_mf, .int 0, .ref a_mz, .int 0]))] U.heap ∧ va_K (dC, dI) vwCl [] U)) (vp_Sl (fun r => r = 0)) 0 0 (fun _ => False) := by
  refine Met.ofW (cc := c_M_word) (maxL := 4) (ret := (some .long)) (by decide) rfl ?_
  intro p e s m args below meth c s₁ B hml hv
  obtain ⟨rfl, hZ, hP, hK⟩ := hv
  have hx := B.exec
  have hb := B.bytes
  have hr := B.returns
  have hts0 := atoms_spec (ws := ws_M_word) B.pre
  have hts : ∀ w ∈ TT, w.before _ s = true := fun w h => hts0 w (List.mem_cons_of_mem _ h)
  have hown : s.vm.findClass "LoanRulesModel" = some m.cls := findClass_of_methodNamed B.named
  have hlocks := B.notSynchronized
  have hS : va_S (fun _ => False) s.heap s.heap [] := va_S.rf
  replace hP : va_P (dC, dI) vwCl [(a_m, .inr (5, [.int 0, .ref a_sa, .int 0, .int 0, .int 0, .ref a_mr, .ref a_me, .ref a_le, .int 0, .ref a_mc, .ref a_mt, .ref a_mk, .ref a_my, .ref a_mb, .ref a_mx, .ref a_ml, .int 0, .ref a_mh, .ref a_mf, .int 0, .ref a_mz, .int 0]))] s.heap := hP
  have hl := lv_entry ([.ref a_m]) (n := 4) (Nat.le_of_ble_eq_true rfl)
  rw [lg_entry_eq]
  generalize (lg_sl ([.ref a_m]) ++ List.replicate (4 - (lg_sl ([.ref a_m])).length) Slot.unset).toArray = ls at hl ⊢
  replace hl : lv_has ls 4 [(0, .ref a_m)] := hl
  refine lv_lconst (v := 0) hx hb d_M_word_0 rfl ?_
  refine lv_lstore_n (lv' := [(1, .long 0), (0, .ref a_m)]) hx hb d_M_word_1 rfl hl (by decide) rfl (fun ls hl => ?_)
  refine lv_aload_n hx hb d_M_word_2 rfl (lv_at hl 1 rfl) ?_
  refine va_get (D := (dC, dI)) (ci := 5) (v := .int 0) (C := "LoanRulesModel") (T := Fz_M) (N := 22) hx hb hts it_M hown hK hP 0 rfl rfl 3 (by decide) (hts _ tw_604) (fun _ h9 => h9) rfl d_M_word_3 ?_
  refine lv_istore_n (lv' := [(3, .int 0), (1, .long 0), (0, .ref a_m)]) hx hb d_M_word_6 rfl hl (by decide) rfl (fun ls hl => ?_)
  refine lv_aload_n hx hb d_M_word_7 rfl (lv_at hl 2 rfl) ?_
  refine lv_iload_n hx hb d_M_word_8 rfl (lv_at hl 0 rfl) ?_
  have hPc := hP.sub (ws' := [(a_m, .inr (5, [.int 0, .ref a_sa, .int 0, .int 0, .int 0, .ref a_mr, .ref a_me, .ref a_le, .int 0, .ref a_mc, .ref a_mt, .ref a_mk, .ref a_my, .ref a_mb, .ref a_mx, .ref a_ml, .int 0, .ref a_mh, .ref a_mf, .int 0, .ref a_mz, .int 0]))]) [0] rfl
  have hKc := hK.sub (tys' := []) [] rfl
  refine vp_callSi (va_Run.run (va_runV (As := [.int 0]) (rest := []) ⟨hx, hb, hml, hown, hts⟩ (c_Mo_look l dC dI adK adV (a_m := a_m) (a_sa := a_sa) (a_mr := a_mr) (a_me := a_me) (a_le := a_le) (a_mc := a_mc) (a_mt := a_mt) (a_mk := a_mk) (a_my := a_my) (a_mb := a_mb) (a_mx := a_mx) (a_ml := a_ml) (a_mh := a_mh) (a_mf := a_mf) (a_mz := a_mz)) (cwV 1 hts (gV tw_688 tw_690 tw_27 tw_46 tw_691) rfl rfl rfl (by decide +kernel) ⟨(Nat.le_of_ble_eq_true rfl), (Nat.le_of_ble_eq_true rfl)⟩) ⟨fun a U g mk q => by obtain ⟨q0, qZ, qP, qK⟩ := q; exact ⟨q0, zz_call qZ, qP, va_K.moved (u := U) (U := U.calling g mk a) (Vm.Alike.refl U.vm) qK⟩, va_recv hKc hPc (ci := 5) (q0 := 0) rfl rfl, fun U hU hW => ⟨rfl, zz_rr hU hW hZ, by rw [hU]; exact hPc, va_K.moved hW.alike hKc⟩⟩ rfl rfl hl.1 rfl (lv_room (Nat.le_of_ble_eq_true rfl)) d_M_word_9 ⟨(Nat.le_of_ble_eq_true rfl), (Nat.le_of_ble_eq_true rfl)⟩)) (fun r_1 hw_2 => ?_)
  obtain rfl : r_1 = (-1) := hw_2
  refine lv_bipush (v := 97) hx hb d_M_word_12 (by decide) ?_
  refine lv_icmp_lt (tgt := 67) hx hb d_M_word_14 (by decide) (fun c_3 => ?_) (fun c_3 => ?_)
  · refine lv_lload_n hx hb d_M_word_67 rfl (lv_at hl 1 rfl) ?_
    exact W.lret (v := 0) hx hb hr (fun t ht hW => ⟨0, rfl, rfl, ht⟩) (fun _ h => by cases h) d_M_word_68
  · exact absurd (by decide) c_3
set_option maxHeartbeats 4000000 in
set_option maxRecDepth 100000 in
theorem c_Mo_bad (l : Launch) (dC : Nat → ClassId) (dI : Nat → Nat → Nat) (adK adV : Nat → Nat) (a_m : Nat) (p0 : Int32) (a_sa : Nat) (a_mr : Nat) (a_me : Nat) (a_le : Nat) (a_mc : Nat) (a_mt : Nat) (a_mk : Nat) (a_my : Nat) (a_mb : Nat) (a_mx : Nat) (a_ml : Nat) (a_mh : Nat) (a_mf : Nat) (a_mz : Nat) (sz : Nat) : Met l y_M_bad ws_M_bad ({ frames := 0, cells := 0, slots := 0, locals := 0 }) (va_Pc [.ref a_m, .int p0] (fun U => U.heap.size = sz ∧ zz adK adV (va_A [(a_m, .inr (5, [.int 0, .ref a_sa, .int 0, .int 0, .int 0, .ref a_mr, .ref a_me, .ref a_le, .int 0, .ref a_mc, .ref a_mt, .ref a_mk, .ref a_my, .ref a_mb, .ref a_mx, .ref a_ml, .int 0, .ref a_mh, .ref a_mf, .int 0, .ref a_mz, .int 0]))] sz) U ∧ va_P (dC, dI) vwCl [(a_m, .inr (5, [.int 0, .ref a_sa, .int 0, .int 0, .int 0, .ref a_mr, .ref a_me, .ref a_le, .int 0, .ref a_mc, .ref a_mt, .ref a_mk, .ref a_my, .ref a_mb, .ref a_mx, .ref a_ml, .int 0, .ref a_mh, .ref a_mf, .int 0, .ref a_mz, .int 0]))] U.heap ∧ va_K (dC, dI) vwCl [] U ∧ va_D (fun _ => True) [(a_m, .inr (5, [.int 0, .ref a_sa, .int 0, .int 0, .int 0, .ref a_mr, .ref a_me, .ref a_le, .int 0, .ref a_mc, .ref a_mt, .ref a_mk, .ref a_my, .ref a_mb, .ref a_mx, .ref a_ml, .int 0, .ref a_mh, .ref a_mf, .int 0, .ref a_mz, .int 0]))])) (va_Qi (fun (r : Int32) (_ : Unit) => r = 0) (fun (_ : Unit) (t : State) => va_P (dC, dI) vwCl [(a_m, .inr (5, [.int 0, .ref a_sa, .int 0, .int 0, .int p0, .ref a_mr, .ref a_me, .ref a_le, .int 0, .ref a_mc, .ref a_mt, .ref a_mk, .ref a_my, .ref a_mb, .ref a_mx, .ref a_ml, .int 0, .ref a_mh, .ref a_mf, .int 0, .ref a_mz, .int 0]))] t.heap ∧ va_K (dC, dI) vwCl [] t ∧ va_D (va_A [(a_m, .inr (5, [.int 0, .ref a_sa, .int 0, .int 0, .int 0, .ref a_mr, .ref a_me, .ref a_le, .int 0, .ref a_mc, .ref a_mt, .ref a_mk, .ref a_my, .ref a_mb, .ref a_mx, .ref a_ml, .int 0, .ref a_mh, .ref a_mf, .int 0, .ref a_mz, .int 0]))] sz) [(a_m, .inr (5, [.int 0, .ref a_sa, .int 0, .int 0, .int p0, .ref a_mr, .ref a_me, .ref a_le, .int 0, .ref a_mc, .ref a_mt, .ref a_mk, .ref a_my, .ref a_mb, .ref a_mx, .ref a_ml, .int 0, .ref a_mh, .ref a_mf, .int 0, .ref a_mz, .int 0]))]) (va_A [(a_m, .inr (5, [.int 0, .ref a_sa, .int 0, .int 0, .int 0, .ref a_mr, .ref a_me, .ref a_le, .int 0, .ref a_mc, .ref a_mt, .ref a_mk, .ref a_my, .ref a_mb, .ref a_mx, .ref a_ml, .int 0, .ref a_mh, .ref a_mf, .int 0, .ref a_mz, .int 0]))] sz)) 0 0 (va_A [(a_m, .inr (5, [.int 0, .ref a_sa, .int 0, .int 0, .int 0, .ref a_mr, .ref a_me, .ref a_le, .int 0, .ref a_mc, .ref a_mt, .ref a_mk, .ref a_my, .ref a_mb, .ref a_mx, .ref a_ml, .int 0, .ref a_mh, .ref a_mf, .int 0, .ref a_mz, .int 0]))] sz) := by
  refine Met.ofW (cc := c_M_bad) (maxL := 2) (ret := (some .boolean)) (by decide) rfl ?_
  intro p e s m args below meth c s₁ B hml hv
  obtain ⟨rfl, hsz, hZ, hP, hK, hD0⟩ := hv
  have hx := B.exec
  have hb := B.bytes
  have hr := B.returns
  have hts0 := atoms_spec (ws := ws_M_bad) B.pre
  have hts : ∀ w ∈ TT, w.before _ s = true := fun w h => hts0 w (List.mem_cons_of_mem _ h)
  have hown : s.vm.findClass "LoanRulesModel" = some m.cls := findClass_of_methodNamed B.named
  have hlocks := B.notSynchronized
  subst hsz
  have hD := hD0.self (sz := s.heap.size)
  generalize hAe : va_A [(a_m, .inr (5, [.int 0, .ref a_sa, .int 0, .int 0, .int 0, .ref a_mr, .ref a_me, .ref a_le, .int 0, .ref a_mc, .ref a_mt, .ref a_mk, .ref a_my, .ref a_mb, .ref a_mx, .ref a_ml, .int 0, .ref a_mh, .ref a_mf, .int 0, .ref a_mz, .int 0]))] s.heap.size = A at hD hZ ⊢
  have hA : ∀ q : Nat, s.heap.size ≤ q → A q := fun q h => by rw [← hAe]; exact Or.inr h
  clear hAe hD0
  have hS : va_S A s.heap s.heap [] := va_S.rf
  replace hP : va_P (dC, dI) vwCl [(a_m, .inr (5, [.int 0, .ref a_sa, .int 0, .int 0, .int 0, .ref a_mr, .ref a_me, .ref a_le, .int 0, .ref a_mc, .ref a_mt, .ref a_mk, .ref a_my, .ref a_mb, .ref a_mx, .ref a_ml, .int 0, .ref a_mh, .ref a_mf, .int 0, .ref a_mz, .int 0]))] s.heap := hP
  have hl := lv_entry ([.ref a_m, .int p0]) (n := 2) (Nat.le_of_ble_eq_true rfl)
  rw [lg_entry_eq]
  generalize (lg_sl ([.ref a_m, .int p0]) ++ List.replicate (2 - (lg_sl ([.ref a_m, .int p0])).length) Slot.unset).toArray = ls at hl ⊢
  replace hl : lv_has ls 2 [(0, .ref a_m), (1, .int p0)] := hl
  refine lv_aload_n hx hb d_M_bad_0 rfl (lv_at hl 0 rfl) ?_
  refine lv_iload_n hx hb d_M_bad_1 rfl (lv_at hl 1 rfl) ?_
  refine va_put (D := (dC, dI)) (ci := 5) (v := .int p0) (ty := .int) (C := "LoanRulesModel") (T := Fz_M) (N := 22) hx hb hts it_M tz_M tz_M_ok nz_M hown hK hP hD hS 0 rfl rfl 4 (by decide) (hts _ tw_605) (fun _ h9 => h9) rfl (by decide +kernel) rfl rfl (Nat.le_of_ble_eq_true rfl) d_M_bad_2 (fun H locs hP hD hS => ?_)
  replace hP : va_P (dC, dI) vwCl [(a_m, .inr (5, [.int 0, .ref a_sa, .int 0, .int 0, .int p0, .ref a_mr, .ref a_me, .ref a_le, .int 0, .ref a_mc, .ref a_mt, .ref a_mk, .ref a_my, .ref a_mb, .ref a_mx, .ref a_ml, .int 0, .ref a_mh, .ref a_mf, .int 0, .ref a_mz, .int 0]))] H := hP
  replace hD : va_D A [(a_m, .inr (5, [.int 0, .ref a_sa, .int 0, .int 0, .int p0, .ref a_mr, .ref a_me, .ref a_le, .int 0, .ref a_mc, .ref a_mt, .ref a_mk, .ref a_my, .ref a_mb, .ref a_mx, .ref a_ml, .int 0, .ref a_mh, .ref a_mf, .int 0, .ref a_mz, .int 0]))] := hD
  refine lv_iconst (v := 0) hx hb d_M_bad_5 (by decide) ?_
  have hP9 := hP.sub (ws' := [(a_m, .inr (5, [.int 0, .ref a_sa, .int 0, .int 0, .int p0, .ref a_mr, .ref a_me, .ref a_le, .int 0, .ref a_mc, .ref a_mt, .ref a_mk, .ref a_my, .ref a_mb, .ref a_mx, .ref a_ml, .int 0, .ref a_mh, .ref a_mf, .int 0, .ref a_mz, .int 0]))]) [0] rfl
  have hD9 := hD.sub (ws' := [(a_m, .inr (5, [.int 0, .ref a_sa, .int 0, .int 0, .int p0, .ref a_mr, .ref a_me, .ref a_le, .int 0, .ref a_mc, .ref a_mt, .ref a_mk, .ref a_my, .ref a_mb, .ref a_mx, .ref a_ml, .int 0, .ref a_mh, .ref a_mf, .int 0, .ref a_mz, .int 0]))]) [0] (by decide) rfl
  have hK9 := hK.sub (tys' := []) [] rfl
  exact W.zret (v := 0) hx hb hr rfl (fun t ht hW => ⟨⟨0, (), rfl, rfl, by rw [ht]; exact hP9, va_K.moved hW.alike hK9, hD9⟩, hS.F ht⟩) hS.2.2 d_M_bad_6
set_option maxHeartbeats 4000000 in
set_option maxRecDepth 100000 in
theorem c_Mo_step (l : Launch) (dC : Nat → ClassId) (dI : Nat → Nat → Nat) (adK adV : Nat → Nat) : Met l y_M_step ws_M_step ({ frames := 0, cells := 0, slots := 0, locals := 0 }) (va_Pc [.long 0] (fun U => zz adK adV (fun _ => False) U ∧ va_P (dC, dI) vwCl [] U.heap ∧ va_K (dC, dI) vwCl [] U)) (vp_Si (fun r => r = 0)) 0 0 (fun _ => False) := by
  refine Met.ofW (cc := c_M_step) (maxL := 2) (ret := (some .int)) (by decide) rfl ?_
  intro p e s m args below meth c s₁ B hml hv
  obtain ⟨rfl, hZ, hP, hK⟩ := hv
  have hx := B.exec
  have hb := B.bytes
  have hr := B.returns
  have hts0 := atoms_spec (ws := ws_M_step) B.pre
  have hts : ∀ w ∈ TT, w.before _ s = true := fun w h => hts0 w (List.mem_cons_of_mem _ h)
  have hown : s.vm.findClass "LoanRulesModel" = some m.cls := findClass_of_methodNamed B.named
  have hlocks := B.notSynchronized
  have hS : va_S (fun _ => False) s.heap s.heap [] := va_S.rf
  replace hP : va_P (dC, dI) vwCl [] s.heap := hP
  have hl := lv_entry ([.long 0]) (n := 2) (Nat.le_of_ble_eq_true rfl)
  rw [lg_entry_eq]
  generalize (lg_sl ([.long 0]) ++ List.replicate (2 - (lg_sl ([.long 0])).length) Slot.unset).toArray = ls at hl ⊢
  replace hl : lv_has ls 2 [(0, .long 0)] := hl
  refine lv_lload_n hx hb d_M_step_0 rfl (lv_at hl 0 rfl) ?_
  refine lv_ldc2 (v := 370116) hx hb hown (hts _ tw_706) d_M_step_1 ?_
  refine W.lcmp hx hb d_M_step_4 ?_
  refine lv_topi (fun x_1 ex_1 => ?_)
  obtain rfl : x_1 = (-1) := ex_1.trans (by decide)
  refine lv_if_ne (tgt := 12) hx hb d_M_step_5 (by decide) (fun c_2 => ?_) (fun c_2 => ?_)
  · refine lv_lload_n hx hb d_M_step_12 rfl (lv_at hl 0 rfl) ?_
    refine lv_ldc2 (v := 681477) hx hb hown (hts _ tw_707) d_M_step_13 ?_
    refine W.lcmp hx hb d_M_step_16 ?_
    refine lv_topi (fun x_3 ex_3 => ?_)
    obtain rfl : x_3 = (-1) := ex_3.trans (by decide)
    refine lv_if_ne (tgt := 24) hx hb d_M_step_17 (by decide) (fun c_4 => ?_) (fun c_4 => ?_)
    · refine lv_lload_n hx hb d_M_step_24 rfl (lv_at hl 0 rfl) ?_
      refine lv_ldc2 (v := 542723566) hx hb hown (hts _ tw_708) d_M_step_25 ?_
      refine W.lcmp hx hb d_M_step_28 ?_
      refine lv_topi (fun x_5 ex_5 => ?_)
      obtain rfl : x_5 = (-1) := ex_5.trans (by decide)
      refine lv_if_ne (tgt := 36) hx hb d_M_step_29 (by decide) (fun c_6 => ?_) (fun c_6 => ?_)
      · refine lv_lload_n hx hb d_M_step_36 rfl (lv_at hl 0 rfl) ?_
        refine lv_ldc2 (v := 398788) hx hb hown (hts _ tw_709) d_M_step_37 ?_
        refine W.lcmp hx hb d_M_step_40 ?_
        refine lv_topi (fun x_7 ex_7 => ?_)
        obtain rfl : x_7 = (-1) := ex_7.trans (by decide)
        refine lv_if_ne (tgt := 48) hx hb d_M_step_41 (by decide) (fun c_8 => ?_) (fun c_8 => ?_)
        · refine lv_lload_n hx hb d_M_step_48 rfl (lv_at hl 0 rfl) ?_
          refine lv_ldc2 (v := 609441381) hx hb hown (hts _ tw_710) d_M_step_49 ?_
          refine W.lcmp hx hb d_M_step_52 ?_
          refine lv_topi (fun x_9 ex_9 => ?_)
          obtain rfl : x_9 = (-1) := ex_9.trans (by decide)
          refine lv_if_ne (tgt := 60) hx hb d_M_step_53 (by decide) (fun c_10 => ?_) (fun c_10 => ?_)
          · refine lv_lload_n hx hb d_M_step_60 rfl (lv_at hl 0 rfl) ?_
            refine lv_ldc2 (v := 197932) hx hb hown (hts _ tw_711) d_M_step_61 ?_
            refine W.lcmp hx hb d_M_step_64 ?_
            refine lv_topi (fun x_11 ex_11 => ?_)
            obtain rfl : x_11 = (-1) := ex_11.trans (by decide)
            refine lv_if_ne (tgt := 73) hx hb d_M_step_65 (by decide) (fun c_12 => ?_) (fun c_12 => ?_)
            · refine lv_lload_n hx hb d_M_step_73 rfl (lv_at hl 0 rfl) ?_
              refine lv_ldc2 (v := 19052727) hx hb hown (hts _ tw_712) d_M_step_74 ?_
              refine W.lcmp hx hb d_M_step_77 ?_
              refine lv_topi (fun x_13 ex_13 => ?_)
              obtain rfl : x_13 = (-1) := ex_13.trans (by decide)
              refine lv_if_ne (tgt := 86) hx hb d_M_step_78 (by decide) (fun c_14 => ?_) (fun c_14 => ?_)
              · refine lv_lload_n hx hb d_M_step_86 rfl (lv_at hl 0 rfl) ?_
                refine lv_ldc2 (v := 7216) hx hb hown (hts _ tw_713) d_M_step_87 ?_
                refine W.lcmp hx hb d_M_step_90 ?_
                refine lv_topi (fun x_15 ex_15 => ?_)
                obtain rfl : x_15 = (-1) := ex_15.trans (by decide)
                refine lv_if_ne (tgt := 99) hx hb d_M_step_91 (by decide) (fun c_16 => ?_) (fun c_16 => ?_)
                · refine lv_lload_n hx hb d_M_step_99 rfl (lv_at hl 0 rfl) ?_
                  refine lv_ldc2 (v := 609322380) hx hb hown (hts _ tw_714) d_M_step_100 ?_
                  refine W.lcmp hx hb d_M_step_103 ?_
                  refine lv_topi (fun x_17 ex_17 => ?_)
                  obtain rfl : x_17 = (-1) := ex_17.trans (by decide)
                  refine lv_if_ne (tgt := 112) hx hb d_M_step_104 (by decide) (fun c_18 => ?_) (fun c_18 => ?_)
                  · refine lv_lload_n hx hb d_M_step_112 rfl (lv_at hl 0 rfl) ?_
                    refine lv_ldc2 (v := 591307) hx hb hown (hts _ tw_715) d_M_step_113 ?_
                    refine W.lcmp hx hb d_M_step_116 ?_
                    refine lv_topi (fun x_19 ex_19 => ?_)
                    obtain rfl : x_19 = (-1) := ex_19.trans (by decide)
                    refine lv_if_ne (tgt := 125) hx hb d_M_step_117 (by decide) (fun c_20 => ?_) (fun c_20 => ?_)
                    · refine lv_iconst (v := 0) hx hb d_M_step_125 (by decide) ?_
                      exact W.iret (v := 0) hx hb hr (fun t ht hW => ⟨0, rfl, rfl, ht⟩) (fun _ h => by cases h) d_M_step_126
                    · exact absurd c_20 (by decide)
                  · exact absurd c_18 (by decide)
                · exact absurd c_16 (by decide)
              · exact absurd c_14 (by decide)
            · exact absurd c_12 (by decide)
          · exact absurd c_10 (by decide)
        · exact absurd c_8 (by decide)
      · exact absurd c_6 (by decide)
    · exact absurd c_4 (by decide)
  · exact absurd c_2 (by decide)
set_option maxHeartbeats 4000000 in
set_option maxRecDepth 100000 in
theorem c_Mo_reads (l : Launch) (dC : Nat → ClassId) (dI : Nat → Nat → Nat) (adK adV : Nat → Nat) (a_m : Nat) (a_mr : Nat) (k_mr : ClassId) (a_sa : Nat) (a_me : Nat) (a_le : Nat) (a_mc : Nat) (a_mt : Nat) (a_mk : Nat) (a_my : Nat) (a_mb : Nat) (a_mx : Nat) (a_ml : Nat) (a_mh : Nat) (a_mf : Nat) (a_mz : Nat) (sz : Nat) : Met l y_M_reads ws_M_reads ({ frames := 2, cells := 0, slots := 0, locals := 44 }) (va_Pc [.ref a_m] (fun U => U.heap.size = sz ∧ zz adK adV (va_A [(a_m, .inr (5, [.int 0, .ref a_sa, .int 0, .int 0, .int 0, .ref a_mr, .ref a_me, .ref a_le, .int 0, .ref a_mc, .ref a_mt, .ref a_mk, .ref a_my, .ref a_mb, .ref a_mx, .ref a_ml, .int 0, .ref a_mh, .ref a_mf, .int 0, .ref a_mz, .int 0])), (a_mr, .inl (k_mr, 410, .inl (fun _ => 0)))] sz) U ∧ va_P (dC, dI) vwCl [(a_m, .inr (5, [.int 0, .ref a_sa, .int 0, .int 0, .int 0, .ref a_mr, .ref a_me, .ref a_le, .int 0, .ref a_mc, .ref a_mt, .ref a_mk, .ref a_my, .ref a_mb, .ref a_mx, .ref a_ml, .int 0, .ref a_mh, .ref a_mf, .int 0, .ref a_mz, .int 0])), (a_mr, .inl (k_mr, 410, .inl (fun _ => 0)))] U.heap ∧ va_K (dC, dI) vwCl [(k_mr, .int)] U ∧ va_D (fun _ => True) [(a_m, .inr (5, [.int 0, .ref a_sa, .int 0, .int 0, .int 0, .ref a_mr, .ref a_me, .ref a_le, .int 0, .ref a_mc, .ref a_mt, .ref a_mk, .ref a_my, .ref a_mb, .ref a_mx, .ref a_ml, .int 0, .ref a_mh, .ref a_mf, .int 0, .ref a_mz, .int 0])), (a_mr, .inl (k_mr, 410, .inl (fun _ => 0)))])) (va_Qi (fun (r : Int32) (_ : Unit) => r = 0) (fun (_ : Unit) (t : State) => va_P (dC, dI) vwCl [(a_m, .inr (5, [.int 0, .ref a_sa, .int 0, .int 0, .int 0, .ref a_mr, .ref a_me, .ref a_le, .int 0, .ref a_mc, .ref a_mt, .ref a_mk, .ref a_my, .ref a_mb, .ref a_mx, .ref a_ml, .int 0, .ref a_mh, .ref a_mf, .int 0, .ref a_mz, .int 0]))] t.heap ∧ va_K (dC, dI) vwCl [] t ∧ va_D (va_A [(a_m, .inr (5, [.int 0, .ref a_sa, .int 0, .int 0, .int 0, .ref a_mr, .ref a_me, .ref a_le, .int 0, .ref a_mc, .ref a_mt, .ref a_mk, .ref a_my, .ref a_mb, .ref a_mx, .ref a_ml, .int 0, .ref a_mh, .ref a_mf, .int 0, .ref a_mz, .int 0])), (a_mr, .inl (k_mr, 410, .inl (fun _ => 0)))] sz) [(a_m, .inr (5, [.int 0, .ref a_sa, .int 0, .int 0, .int 0, .ref a_mr, .ref a_me, .ref a_le, .int 0, .ref a_mc, .ref a_mt, .ref a_mk, .ref a_my, .ref a_mb, .ref a_mx, .ref a_ml, .int 0, .ref a_mh, .ref a_mf, .int 0, .ref a_mz, .int 0]))]) (va_A [(a_m, .inr (5, [.int 0, .ref a_sa, .int 0, .int 0, .int 0, .ref a_mr, .ref a_me, .ref a_le, .int 0, .ref a_mc, .ref a_mt, .ref a_mk, .ref a_my, .ref a_mb, .ref a_mx, .ref a_ml, .int 0, .ref a_mh, .ref a_mf, .int 0, .ref a_mz, .int 0])), (a_mr, .inl (k_mr, 410, .inl (fun _ => 0)))] sz)) 0 0 (va_A [(a_m, .inr (5, [.int 0, .ref a_sa, .int 0, .int 0, .int 0, .ref a_mr, .ref a_me, .ref a_le, .int 0, .ref a_mc, .ref a_mt, .ref a_mk, .ref a_my, .ref a_mb, .ref a_mx, .ref a_ml, .int 0, .ref a_mh, .ref a_mf, .int 0, .ref a_mz, .int 0])), (a_mr, .inl (k_mr, 410, .inl (fun _ => 0)))] sz) := by
  refine Met.ofW (cc := c_M_reads) (maxL := 4) (ret := (some .boolean)) (by decide) rfl ?_
  intro p e s m args below meth c s₁ B hml hv
  obtain ⟨rfl, hsz, hZ, hP, hK, hD0⟩ := hv
  have hx := B.exec
  have hb := B.bytes
  have hr := B.returns
  have hts0 := atoms_spec (ws := ws_M_reads) B.pre
  have hts : ∀ w ∈ TT, w.before _ s = true := fun w h => hts0 w (List.mem_cons_of_mem _ h)
  have hown : s.vm.findClass "LoanRulesModel" = some m.cls := findClass_of_methodNamed B.named
  have hlocks := B.notSynchronized
  subst hsz
  have hD := hD0.self (sz := s.heap.size)
  generalize hAe : va_A [(a_m, .inr (5, [.int 0, .ref a_sa, .int 0, .int 0, .int 0, .ref a_mr, .ref a_me, .ref a_le, .int 0, .ref a_mc, .ref a_mt, .ref a_mk, .ref a_my, .ref a_mb, .ref a_mx, .ref a_ml, .int 0, .ref a_mh, .ref a_mf, .int 0, .ref a_mz, .int 0])), (a_mr, .inl (k_mr, 410, .inl (fun _ => 0)))] s.heap.size = A at hD hZ ⊢
  have hA : ∀ q : Nat, s.heap.size ≤ q → A q := fun q h => by rw [← hAe]; exact Or.inr h
  clear hAe hD0
  have hS : va_S A s.heap s.heap [] := va_S.rf
  replace hP : va_P (dC, dI) vwCl [(a_m, .inr (5, [.int 0, .ref a_sa, .int 0, .int 0, .int 0, .ref a_mr, .ref a_me, .ref a_le, .int 0, .ref a_mc, .ref a_mt, .ref a_mk, .ref a_my, .ref a_mb, .ref a_mx, .ref a_ml, .int 0, .ref a_mh, .ref a_mf, .int 0, .ref a_mz, .int 0])), (a_mr, .inl (k_mr, 410, .inl (fun _ => 0)))] s.heap := hP
  have hl := lv_entry ([.ref a_m]) (n := 4) (Nat.le_of_ble_eq_true rfl)
  rw [lg_entry_eq]
  generalize (lg_sl ([.ref a_m]) ++ List.replicate (4 - (lg_sl ([.ref a_m])).length) Slot.unset).toArray = ls at hl ⊢
  replace hl : lv_has ls 4 [(0, .ref a_m)] := hl
  refine lv_iconst (v := 0) hx hb d_M_reads_0 (by decide) ?_
  refine lv_istore_n (lv' := [(1, .int 0), (0, .ref a_m)]) hx hb d_M_reads_1 rfl hl (by decide) rfl (fun ls hl => ?_)
  refine lv_iload_n hx hb d_M_reads_2 rfl (lv_at hl 0 rfl) ?_
  refine lv_bipush (v := 10) hx hb d_M_reads_3 (by decide) ?_
  refine lv_icmp_ge (tgt := 49) hx hb d_M_reads_5 (by decide) (fun c_1 => ?_) (fun c_1 => ?_)
  · exact absurd c_1 (by decide)
  · refine lv_aload_n hx hb d_M_reads_8 rfl (lv_at hl 1 rfl) ?_
    refine va_get (D := (dC, dI)) (ci := 5) (v := .ref a_mr) (C := "LoanRulesModel") (T := Fz_M) (N := 22) hx hb hts it_M hown hK hP 0 rfl rfl 5 (by decide) (hts _ tw_606) (fun _ h9 => h9) rfl d_M_reads_9 ?_
    refine lv_bipush (v := 10) hx hb d_M_reads_12 (by decide) ?_
    refine lv_aload_n hx hb d_M_reads_14 rfl (lv_at hl 1 rfl) ?_
    refine va_get (D := (dC, dI)) (ci := 5) (v := .int 0) (C := "LoanRulesModel") (T := Fz_M) (N := 22) hx hb hts it_M hown hK hP 0 rfl rfl 8 (by decide) (hts _ tw_609) (fun _ h9 => h9) rfl d_M_reads_15 ?_
    refine lv_imul hx hb d_M_reads_18 ?_
    refine lv_topi (fun x_2 ex_2 => ?_)
    obtain rfl : x_2 = 0 := ex_2.trans (by decide)
    refine lv_iload_n hx hb d_M_reads_19 rfl (lv_at hl 0 rfl) ?_
    refine lv_iadd hx hb d_M_reads_20 ?_
    refine lv_topi (fun x_3 ex_3 => ?_)
    obtain rfl : x_3 = 0 := ex_3.trans (by decide)
    refine lv_iload_n hx hb d_M_reads_21 rfl (lv_at hl 0 rfl) ?_
    refine lv_iconst (v := 3) hx hb d_M_reads_22 (by decide) ?_
    refine lv_icmp_ge (tgt := 30) hx hb d_M_reads_23 (by decide) (fun c_4 => ?_) (fun c_4 => ?_)
    · exact absurd c_4 (by decide)
    · refine lv_iconst (v := (-1)) hx hb d_M_reads_26 (by decide) ?_
      refine lv_goto (tgt := 42) hx hb d_M_reads_27 (by decide) ?_
      have i_5 : vp_in 0 410 := by show ¬ (_ ∨ _); decide
      refine va_iast (D := (dC, dI)) hx hb hK hP hD hS 1 0 rfl rfl i_5 d_M_reads_42 (fun H locs hP hD hS => ?_)
      replace hP : va_P (dC, dI) vwCl [(a_m, .inr (5, [.int 0, .ref a_sa, .int 0, .int 0, .int 0, .ref a_mr, .ref a_me, .ref a_le, .int 0, .ref a_mc, .ref a_mt, .ref a_mk, .ref a_my, .ref a_mb, .ref a_mx, .ref a_ml, .int 0, .ref a_mh, .ref a_mf, .int 0, .ref a_mz, .int 0])), (a_mr, .inl (k_mr, 410, .inl (upd (fun _ => 0) (0 : Int32).toNatClampNeg (-1))))] H := hP
      replace hD : va_D A [(a_m, .inr (5, [.int 0, .ref a_sa, .int 0, .int 0, .int 0, .ref a_mr, .ref a_me, .ref a_le, .int 0, .ref a_mc, .ref a_mt, .ref a_mk, .ref a_my, .ref a_mb, .ref a_mx, .ref a_ml, .int 0, .ref a_mh, .ref a_mf, .int 0, .ref a_mz, .int 0])), (a_mr, .inl (k_mr, 410, .inl (upd (fun _ => 0) (0 : Int32).toNatClampNeg (-1))))] := hD
      refine lv_iinc (v := 1) (lv' := [(1, .int 1), (0, .ref a_m)]) hx hb d_M_reads_43 hl (k := 0) rfl (by decide) (by decide) rfl (fun ls hl => ?_)
      refine lv_goto (tgt := 2) hx hb d_M_reads_46 (by decide) ?_
      refine lv_iload_n hx hb d_M_reads_2 rfl (lv_at hl 0 rfl) ?_
      refine lv_bipush (v := 10) hx hb d_M_reads_3 (by decide) ?_
      refine lv_icmp_ge (tgt := 49) hx hb d_M_reads_5 (by decide) (fun c_6 => ?_) (fun c_6 => ?_)
      · exact absurd c_6 (by decide)
      · refine lv_aload_n hx hb d_M_reads_8 rfl (lv_at hl 1 rfl) ?_
        refine va_get (D := (dC, dI)) (ci := 5) (v := .ref a_mr) (C := "LoanRulesModel") (T := Fz_M) (N := 22) hx hb hts it_M hown hK hP 0 rfl rfl 5 (by decide) (hts _ tw_606) (fun _ h9 => h9) rfl d_M_reads_9 ?_
        refine lv_bipush (v := 10) hx hb d_M_reads_12 (by decide) ?_
        refine lv_aload_n hx hb d_M_reads_14 rfl (lv_at hl 1 rfl) ?_
        refine va_get (D := (dC, dI)) (ci := 5) (v := .int 0) (C := "LoanRulesModel") (T := Fz_M) (N := 22) hx hb hts it_M hown hK hP 0 rfl rfl 8 (by decide) (hts _ tw_609) (fun _ h9 => h9) rfl d_M_reads_15 ?_
        refine lv_imul hx hb d_M_reads_18 ?_
        refine lv_topi (fun x_7 ex_7 => ?_)
        obtain rfl : x_7 = 0 := ex_7.trans (by decide)
        refine lv_iload_n hx hb d_M_reads_19 rfl (lv_at hl 0 rfl) ?_
        refine lv_iadd hx hb d_M_reads_20 ?_
        refine lv_topi (fun x_8 ex_8 => ?_)
        obtain rfl : x_8 = 1 := ex_8.trans (by decide)
        refine lv_iload_n hx hb d_M_reads_21 rfl (lv_at hl 0 rfl) ?_
        refine lv_iconst (v := 3) hx hb d_M_reads_22 (by decide) ?_
        refine lv_icmp_ge (tgt := 30) hx hb d_M_reads_23 (by decide) (fun c_9 => ?_) (fun c_9 => ?_)
        · exact absurd c_9 (by decide)
        · refine lv_iconst (v := (-1)) hx hb d_M_reads_26 (by decide) ?_
          refine lv_goto (tgt := 42) hx hb d_M_reads_27 (by decide) ?_
          have i_10 : vp_in 1 410 := by show ¬ (_ ∨ _); decide
          refine va_iast (D := (dC, dI)) hx hb hK hP hD hS 1 0 rfl rfl i_10 d_M_reads_42 (fun H locs hP hD hS => ?_)
          replace hP : va_P (dC, dI) vwCl [(a_m, .inr (5, [.int 0, .ref a_sa, .int 0, .int 0, .int 0, .ref a_mr, .ref a_me, .ref a_le, .int 0, .ref a_mc, .ref a_mt, .ref a_mk, .ref a_my, .ref a_mb, .ref a_mx, .ref a_ml, .int 0, .ref a_mh, .ref a_mf, .int 0, .ref a_mz, .int 0])), (a_mr, .inl (k_mr, 410, .inl (upd (upd (fun _ => 0) (0 : Int32).toNatClampNeg (-1)) (1 : Int32).toNatClampNeg (-1))))] H := hP
          replace hD : va_D A [(a_m, .inr (5, [.int 0, .ref a_sa, .int 0, .int 0, .int 0, .ref a_mr, .ref a_me, .ref a_le, .int 0, .ref a_mc, .ref a_mt, .ref a_mk, .ref a_my, .ref a_mb, .ref a_mx, .ref a_ml, .int 0, .ref a_mh, .ref a_mf, .int 0, .ref a_mz, .int 0])), (a_mr, .inl (k_mr, 410, .inl (upd (upd (fun _ => 0) (0 : Int32).toNatClampNeg (-1)) (1 : Int32).toNatClampNeg (-1))))] := hD
          refine lv_iinc (v := 2) (lv' := [(1, .int 2), (0, .ref a_m)]) hx hb d_M_reads_43 hl (k := 0) rfl (by decide) (by decide) rfl (fun ls hl => ?_)
          refine lv_goto (tgt := 2) hx hb d_M_reads_46 (by decide) ?_
          refine lv_iload_n hx hb d_M_reads_2 rfl (lv_at hl 0 rfl) ?_
          refine lv_bipush (v := 10) hx hb d_M_reads_3 (by decide) ?_
          refine lv_icmp_ge (tgt := 49) hx hb d_M_reads_5 (by decide) (fun c_11 => ?_) (fun c_11 => ?_)
          · exact absurd c_11 (by decide)
          · refine lv_aload_n hx hb d_M_reads_8 rfl (lv_at hl 1 rfl) ?_
            refine va_get (D := (dC, dI)) (ci := 5) (v := .ref a_mr) (C := "LoanRulesModel") (T := Fz_M) (N := 22) hx hb hts it_M hown hK hP 0 rfl rfl 5 (by decide) (hts _ tw_606) (fun _ h9 => h9) rfl d_M_reads_9 ?_
            refine lv_bipush (v := 10) hx hb d_M_reads_12 (by decide) ?_
            refine lv_aload_n hx hb d_M_reads_14 rfl (lv_at hl 1 rfl) ?_
            refine va_get (D := (dC, dI)) (ci := 5) (v := .int 0) (C := "LoanRulesModel") (T := Fz_M) (N := 22) hx hb hts it_M hown hK hP 0 rfl rfl 8 (by decide) (hts _ tw_609) (fun _ h9 => h9) rfl d_M_reads_15 ?_
            refine lv_imul hx hb d_M_reads_18 ?_
            refine lv_topi (fun x_12 ex_12 => ?_)
            obtain rfl : x_12 = 0 := ex_12.trans (by decide)
            refine lv_iload_n hx hb d_M_reads_19 rfl (lv_at hl 0 rfl) ?_
            refine lv_iadd hx hb d_M_reads_20 ?_
            refine lv_topi (fun x_13 ex_13 => ?_)
            obtain rfl : x_13 = 2 := ex_13.trans (by decide)
            refine lv_iload_n hx hb d_M_reads_21 rfl (lv_at hl 0 rfl) ?_
            refine lv_iconst (v := 3) hx hb d_M_reads_22 (by decide) ?_
            refine lv_icmp_ge (tgt := 30) hx hb d_M_reads_23 (by decide) (fun c_14 => ?_) (fun c_14 => ?_)
            · exact absurd c_14 (by decide)
            · refine lv_iconst (v := (-1)) hx hb d_M_reads_26 (by decide) ?_
              refine lv_goto (tgt := 42) hx hb d_M_reads_27 (by decide) ?_
              have i_15 : vp_in 2 410 := by show ¬ (_ ∨ _); decide
              refine va_iast (D := (dC, dI)) hx hb hK hP hD hS 1 0 rfl rfl i_15 d_M_reads_42 (fun H locs hP hD hS => ?_)
              replace hP : va_P (dC, dI) vwCl [(a_m, .inr (5, [.int 0, .ref a_sa, .int 0, .int 0, .int 0, .ref a_mr, .ref a_me, .ref a_le, .int 0, .ref a_mc, .ref a_mt, .ref a_mk, .ref a_my, .ref a_mb, .ref a_mx, .ref a_ml, .int 0, .ref a_mh, .ref a_mf, .int 0, .ref a_mz, .int 0])), (a_mr, .inl (k_mr, 410, .inl (upd (upd (upd (fun _ => 0) (0 : Int32).toNatClampNeg (-1)) (1 : Int32).toNatClampNeg (-1)) (2 : Int32).toNatClampNeg (-1))))] H := hP
              replace hD : va_D A [(a_m, .inr (5, [.int 0, .ref a_sa, .int 0, .int 0, .int 0, .ref a_mr, .ref a_me, .ref a_le, .int 0, .ref a_mc, .ref a_mt, .ref a_mk, .ref a_my, .ref a_mb, .ref a_mx, .ref a_ml, .int 0, .ref a_mh, .ref a_mf, .int 0, .ref a_mz, .int 0])), (a_mr, .inl (k_mr, 410, .inl (upd (upd (upd (fun _ => 0) (0 : Int32).toNatClampNeg (-1)) (1 : Int32).toNatClampNeg (-1)) (2 : Int32).toNatClampNeg (-1))))] := hD
              refine lv_iinc (v := 3) (lv' := [(1, .int 3), (0, .ref a_m)]) hx hb d_M_reads_43 hl (k := 0) rfl (by decide) (by decide) rfl (fun ls hl => ?_)
              refine lv_goto (tgt := 2) hx hb d_M_reads_46 (by decide) ?_
              refine lv_iload_n hx hb d_M_reads_2 rfl (lv_at hl 0 rfl) ?_
              refine lv_bipush (v := 10) hx hb d_M_reads_3 (by decide) ?_
              refine lv_icmp_ge (tgt := 49) hx hb d_M_reads_5 (by decide) (fun c_16 => ?_) (fun c_16 => ?_)
              · exact absurd c_16 (by decide)
              · refine lv_aload_n hx hb d_M_reads_8 rfl (lv_at hl 1 rfl) ?_
                refine va_get (D := (dC, dI)) (ci := 5) (v := .ref a_mr) (C := "LoanRulesModel") (T := Fz_M) (N := 22) hx hb hts it_M hown hK hP 0 rfl rfl 5 (by decide) (hts _ tw_606) (fun _ h9 => h9) rfl d_M_reads_9 ?_
                refine lv_bipush (v := 10) hx hb d_M_reads_12 (by decide) ?_
                refine lv_aload_n hx hb d_M_reads_14 rfl (lv_at hl 1 rfl) ?_
                refine va_get (D := (dC, dI)) (ci := 5) (v := .int 0) (C := "LoanRulesModel") (T := Fz_M) (N := 22) hx hb hts it_M hown hK hP 0 rfl rfl 8 (by decide) (hts _ tw_609) (fun _ h9 => h9) rfl d_M_reads_15 ?_
                refine lv_imul hx hb d_M_reads_18 ?_
                refine lv_topi (fun x_17 ex_17 => ?_)
                obtain rfl : x_17 = 0 := ex_17.trans (by decide)
                refine lv_iload_n hx hb d_M_reads_19 rfl (lv_at hl 0 rfl) ?_
                refine lv_iadd hx hb d_M_reads_20 ?_
                refine lv_topi (fun x_18 ex_18 => ?_)
                obtain rfl : x_18 = 3 := ex_18.trans (by decide)
                refine lv_iload_n hx hb d_M_reads_21 rfl (lv_at hl 0 rfl) ?_
                refine lv_iconst (v := 3) hx hb d_M_reads_22 (by decide) ?_
                refine lv_icmp_ge (tgt := 30) hx hb d_M_reads_23 (by decide) (fun c_19 => ?_) (fun c_19 => ?_)
                · refine lv_iload_n hx hb d_M_reads_30 rfl (lv_at hl 0 rfl) ?_
                  refine lv_bipush (v := 7) hx hb d_M_reads_31 (by decide) ?_
                  refine lv_icmp_ne (tgt := 41) hx hb d_M_reads_33 (by decide) (fun c_20 => ?_) (fun c_20 => ?_)
                  · refine lv_iconst (v := 0) hx hb d_M_reads_41 (by decide) ?_
                    have i_21 : vp_in 3 410 := by show ¬ (_ ∨ _); decide
                    refine va_iast (D := (dC, dI)) hx hb hK hP hD hS 1 0 rfl rfl i_21 d_M_reads_42 (fun H locs hP hD hS => ?_)
                    replace hP : va_P (dC, dI) vwCl [(a_m, .inr (5, [.int 0, .ref a_sa, .int 0, .int 0, .int 0, .ref a_mr, .ref a_me, .ref a_le, .int 0, .ref a_mc, .ref a_mt, .ref a_mk, .ref a_my, .ref a_mb, .ref a_mx, .ref a_ml, .int 0, .ref a_mh, .ref a_mf, .int 0, .ref a_mz, .int 0])), (a_mr, .inl (k_mr, 410, .inl (upd (upd (upd (upd (fun _ => 0) (0 : Int32).toNatClampNeg (-1)) (1 : Int32).toNatClampNeg (-1)) (2 : Int32).toNatClampNeg (-1)) (3 : Int32).toNatClampNeg 0)))] H := hP
                    replace hD : va_D A [(a_m, .inr (5, [.int 0, .ref a_sa, .int 0, .int 0, .int 0, .ref a_mr, .ref a_me, .ref a_le, .int 0, .ref a_mc, .ref a_mt, .ref a_mk, .ref a_my, .ref a_mb, .ref a_mx, .ref a_ml, .int 0, .ref a_mh, .ref a_mf, .int 0, .ref a_mz, .int 0])), (a_mr, .inl (k_mr, 410, .inl (upd (upd (upd (upd (fun _ => 0) (0 : Int32).toNatClampNeg (-1)) (1 : Int32).toNatClampNeg (-1)) (2 : Int32).toNatClampNeg (-1)) (3 : Int32).toNatClampNeg 0)))] := hD
                    refine lv_iinc (v := 4) (lv' := [(1, .int 4), (0, .ref a_m)]) hx hb d_M_reads_43 hl (k := 0) rfl (by decide) (by decide) rfl (fun ls hl => ?_)
                    refine lv_goto (tgt := 2) hx hb d_M_reads_46 (by decide) ?_
                    refine lv_iload_n hx hb d_M_reads_2 rfl (lv_at hl 0 rfl) ?_
                    refine lv_bipush (v := 10) hx hb d_M_reads_3 (by decide) ?_
                    refine lv_icmp_ge (tgt := 49) hx hb d_M_reads_5 (by decide) (fun c_22 => ?_) (fun c_22 => ?_)
                    · exact absurd c_22 (by decide)
                    · refine lv_aload_n hx hb d_M_reads_8 rfl (lv_at hl 1 rfl) ?_
                      refine va_get (D := (dC, dI)) (ci := 5) (v := .ref a_mr) (C := "LoanRulesModel") (T := Fz_M) (N := 22) hx hb hts it_M hown hK hP 0 rfl rfl 5 (by decide) (hts _ tw_606) (fun _ h9 => h9) rfl d_M_reads_9 ?_
                      refine lv_bipush (v := 10) hx hb d_M_reads_12 (by decide) ?_
                      refine lv_aload_n hx hb d_M_reads_14 rfl (lv_at hl 1 rfl) ?_
                      refine va_get (D := (dC, dI)) (ci := 5) (v := .int 0) (C := "LoanRulesModel") (T := Fz_M) (N := 22) hx hb hts it_M hown hK hP 0 rfl rfl 8 (by decide) (hts _ tw_609) (fun _ h9 => h9) rfl d_M_reads_15 ?_
                      refine lv_imul hx hb d_M_reads_18 ?_
                      refine lv_topi (fun x_23 ex_23 => ?_)
                      obtain rfl : x_23 = 0 := ex_23.trans (by decide)
                      refine lv_iload_n hx hb d_M_reads_19 rfl (lv_at hl 0 rfl) ?_
                      refine lv_iadd hx hb d_M_reads_20 ?_
                      refine lv_topi (fun x_24 ex_24 => ?_)
                      obtain rfl : x_24 = 4 := ex_24.trans (by decide)
                      refine lv_iload_n hx hb d_M_reads_21 rfl (lv_at hl 0 rfl) ?_
                      refine lv_iconst (v := 3) hx hb d_M_reads_22 (by decide) ?_
                      refine lv_icmp_ge (tgt := 30) hx hb d_M_reads_23 (by decide) (fun c_25 => ?_) (fun c_25 => ?_)
                      · refine lv_iload_n hx hb d_M_reads_30 rfl (lv_at hl 0 rfl) ?_
                        refine lv_bipush (v := 7) hx hb d_M_reads_31 (by decide) ?_
                        refine lv_icmp_ne (tgt := 41) hx hb d_M_reads_33 (by decide) (fun c_26 => ?_) (fun c_26 => ?_)
                        · refine lv_iconst (v := 0) hx hb d_M_reads_41 (by decide) ?_
                          have i_27 : vp_in 4 410 := by show ¬ (_ ∨ _); decide
                          refine va_iast (D := (dC, dI)) hx hb hK hP hD hS 1 0 rfl rfl i_27 d_M_reads_42 (fun H locs hP hD hS => ?_)
                          replace hP : va_P (dC, dI) vwCl [(a_m, .inr (5, [.int 0, .ref a_sa, .int 0, .int 0, .int 0, .ref a_mr, .ref a_me, .ref a_le, .int 0, .ref a_mc, .ref a_mt, .ref a_mk, .ref a_my, .ref a_mb, .ref a_mx, .ref a_ml, .int 0, .ref a_mh, .ref a_mf, .int 0, .ref a_mz, .int 0])), (a_mr, .inl (k_mr, 410, .inl (upd (upd (upd (upd (upd (fun _ => 0) (0 : Int32).toNatClampNeg (-1)) (1 : Int32).toNatClampNeg (-1)) (2 : Int32).toNatClampNeg (-1)) (3 : Int32).toNatClampNeg 0) (4 : Int32).toNatClampNeg 0)))] H := hP
                          replace hD : va_D A [(a_m, .inr (5, [.int 0, .ref a_sa, .int 0, .int 0, .int 0, .ref a_mr, .ref a_me, .ref a_le, .int 0, .ref a_mc, .ref a_mt, .ref a_mk, .ref a_my, .ref a_mb, .ref a_mx, .ref a_ml, .int 0, .ref a_mh, .ref a_mf, .int 0, .ref a_mz, .int 0])), (a_mr, .inl (k_mr, 410, .inl (upd (upd (upd (upd (upd (fun _ => 0) (0 : Int32).toNatClampNeg (-1)) (1 : Int32).toNatClampNeg (-1)) (2 : Int32).toNatClampNeg (-1)) (3 : Int32).toNatClampNeg 0) (4 : Int32).toNatClampNeg 0)))] := hD
                          refine lv_iinc (v := 5) (lv' := [(1, .int 5), (0, .ref a_m)]) hx hb d_M_reads_43 hl (k := 0) rfl (by decide) (by decide) rfl (fun ls hl => ?_)
                          refine lv_goto (tgt := 2) hx hb d_M_reads_46 (by decide) ?_
                          refine lv_iload_n hx hb d_M_reads_2 rfl (lv_at hl 0 rfl) ?_
                          refine lv_bipush (v := 10) hx hb d_M_reads_3 (by decide) ?_
                          refine lv_icmp_ge (tgt := 49) hx hb d_M_reads_5 (by decide) (fun c_28 => ?_) (fun c_28 => ?_)
                          · exact absurd c_28 (by decide)
                          · refine lv_aload_n hx hb d_M_reads_8 rfl (lv_at hl 1 rfl) ?_
                            refine va_get (D := (dC, dI)) (ci := 5) (v := .ref a_mr) (C := "LoanRulesModel") (T := Fz_M) (N := 22) hx hb hts it_M hown hK hP 0 rfl rfl 5 (by decide) (hts _ tw_606) (fun _ h9 => h9) rfl d_M_reads_9 ?_
                            refine lv_bipush (v := 10) hx hb d_M_reads_12 (by decide) ?_
                            refine lv_aload_n hx hb d_M_reads_14 rfl (lv_at hl 1 rfl) ?_
                            refine va_get (D := (dC, dI)) (ci := 5) (v := .int 0) (C := "LoanRulesModel") (T := Fz_M) (N := 22) hx hb hts it_M hown hK hP 0 rfl rfl 8 (by decide) (hts _ tw_609) (fun _ h9 => h9) rfl d_M_reads_15 ?_
                            refine lv_imul hx hb d_M_reads_18 ?_
                            refine lv_topi (fun x_29 ex_29 => ?_)
                            obtain rfl : x_29 = 0 := ex_29.trans (by decide)
                            refine lv_iload_n hx hb d_M_reads_19 rfl (lv_at hl 0 rfl) ?_
                            refine lv_iadd hx hb d_M_reads_20 ?_
                            refine lv_topi (fun x_30 ex_30 => ?_)
                            obtain rfl : x_30 = 5 := ex_30.trans (by decide)
                            refine lv_iload_n hx hb d_M_reads_21 rfl (lv_at hl 0 rfl) ?_
                            refine lv_iconst (v := 3) hx hb d_M_reads_22 (by decide) ?_
                            refine lv_icmp_ge (tgt := 30) hx hb d_M_reads_23 (by decide) (fun c_31 => ?_) (fun c_31 => ?_)
                            · refine lv_iload_n hx hb d_M_reads_30 rfl (lv_at hl 0 rfl) ?_
                              refine lv_bipush (v := 7) hx hb d_M_reads_31 (by decide) ?_
                              refine lv_icmp_ne (tgt := 41) hx hb d_M_reads_33 (by decide) (fun c_32 => ?_) (fun c_32 => ?_)
                              · refine lv_iconst (v := 0) hx hb d_M_reads_41 (by decide) ?_
                                have i_33 : vp_in 5 410 := by show ¬ (_ ∨ _); decide
                                refine va_iast (D := (dC, dI)) hx hb hK hP hD hS 1 0 rfl rfl i_33 d_M_reads_42 (fun H locs hP hD hS => ?_)
                                replace hP : va_P (dC, dI) vwCl [(a_m, .inr (5, [.int 0, .ref a_sa, .int 0, .int 0, .int 0, .ref a_mr, .ref a_me, .ref a_le, .int 0, .ref a_mc, .ref a_mt, .ref a_mk, .ref a_my, .ref a_mb, .ref a_mx, .ref a_ml, .int 0, .ref a_mh, .ref a_mf, .int 0, .ref a_mz, .int 0])), (a_mr, .inl (k_mr, 410, .inl (upd (upd (upd (upd (upd (upd (fun _ => 0) (0 : Int32).toNatClampNeg (-1)) (1 : Int32).toNatClampNeg (-1)) (2 : Int32).toNatClampNeg (-1)) (3 : Int32).toNatClampNeg 0) (4 : Int32).toNatClampNeg 0) (5 : Int32).toNatClampNeg 0)))] H := hP
                                replace hD : va_D A [(a_m, .inr (5, [.int 0, .ref a_sa, .int 0, .int 0, .int 0, .ref a_mr, .ref a_me, .ref a_le, .int 0, .ref a_mc, .ref a_mt, .ref a_mk, .ref a_my, .ref a_mb, .ref a_mx, .ref a_ml, .int 0, .ref a_mh, .ref a_mf, .int 0, .ref a_mz, .int 0])), (a_mr, .inl (k_mr, 410, .inl (upd (upd (upd (upd (upd (upd (fun _ => 0) (0 : Int32).toNatClampNeg (-1)) (1 : Int32).toNatClampNeg (-1)) (2 : Int32).toNatClampNeg (-1)) (3 : Int32).toNatClampNeg 0) (4 : Int32).toNatClampNeg 0) (5 : Int32).toNatClampNeg 0)))] := hD
                                refine lv_iinc (v := 6) (lv' := [(1, .int 6), (0, .ref a_m)]) hx hb d_M_reads_43 hl (k := 0) rfl (by decide) (by decide) rfl (fun ls hl => ?_)
                                refine lv_goto (tgt := 2) hx hb d_M_reads_46 (by decide) ?_
                                refine lv_iload_n hx hb d_M_reads_2 rfl (lv_at hl 0 rfl) ?_
                                refine lv_bipush (v := 10) hx hb d_M_reads_3 (by decide) ?_
                                refine lv_icmp_ge (tgt := 49) hx hb d_M_reads_5 (by decide) (fun c_34 => ?_) (fun c_34 => ?_)
                                · exact absurd c_34 (by decide)
                                · refine lv_aload_n hx hb d_M_reads_8 rfl (lv_at hl 1 rfl) ?_
                                  refine va_get (D := (dC, dI)) (ci := 5) (v := .ref a_mr) (C := "LoanRulesModel") (T := Fz_M) (N := 22) hx hb hts it_M hown hK hP 0 rfl rfl 5 (by decide) (hts _ tw_606) (fun _ h9 => h9) rfl d_M_reads_9 ?_
                                  refine lv_bipush (v := 10) hx hb d_M_reads_12 (by decide) ?_
                                  refine lv_aload_n hx hb d_M_reads_14 rfl (lv_at hl 1 rfl) ?_
                                  refine va_get (D := (dC, dI)) (ci := 5) (v := .int 0) (C := "LoanRulesModel") (T := Fz_M) (N := 22) hx hb hts it_M hown hK hP 0 rfl rfl 8 (by decide) (hts _ tw_609) (fun _ h9 => h9) rfl d_M_reads_15 ?_
                                  refine lv_imul hx hb d_M_reads_18 ?_
                                  refine lv_topi (fun x_35 ex_35 => ?_)
                                  obtain rfl : x_35 = 0 := ex_35.trans (by decide)
                                  refine lv_iload_n hx hb d_M_reads_19 rfl (lv_at hl 0 rfl) ?_
                                  refine lv_iadd hx hb d_M_reads_20 ?_
                                  refine lv_topi (fun x_36 ex_36 => ?_)
                                  obtain rfl : x_36 = 6 := ex_36.trans (by decide)
                                  refine lv_iload_n hx hb d_M_reads_21 rfl (lv_at hl 0 rfl) ?_
                                  refine lv_iconst (v := 3) hx hb d_M_reads_22 (by decide) ?_
                                  refine lv_icmp_ge (tgt := 30) hx hb d_M_reads_23 (by decide) (fun c_37 => ?_) (fun c_37 => ?_)
                                  · refine lv_iload_n hx hb d_M_reads_30 rfl (lv_at hl 0 rfl) ?_
                                    refine lv_bipush (v := 7) hx hb d_M_reads_31 (by decide) ?_
                                    refine lv_icmp_ne (tgt := 41) hx hb d_M_reads_33 (by decide) (fun c_38 => ?_) (fun c_38 => ?_)
                                    · refine lv_iconst (v := 0) hx hb d_M_reads_41 (by decide) ?_
                                      have i_39 : vp_in 6 410 := by show ¬ (_ ∨ _); decide
                                      refine va_iast (D := (dC, dI)) hx hb hK hP hD hS 1 0 rfl rfl i_39 d_M_reads_42 (fun H locs hP hD hS => ?_)
                                      replace hP : va_P (dC, dI) vwCl [(a_m, .inr (5, [.int 0, .ref a_sa, .int 0, .int 0, .int 0, .ref a_mr, .ref a_me, .ref a_le, .int 0, .ref a_mc, .ref a_mt, .ref a_mk, .ref a_my, .ref a_mb, .ref a_mx, .ref a_ml, .int 0, .ref a_mh, .ref a_mf, .int 0, .ref a_mz, .int 0])), (a_mr, .inl (k_mr, 410, .inl (upd (upd (upd (upd (upd (upd (upd (fun _ => 0) (0 : Int32).toNatClampNeg (-1)) (1 : Int32).toNatClampNeg (-1)) (2 : Int32).toNatClampNeg (-1)) (3 : Int32).toNatClampNeg 0) (4 : Int32).toNatClampNeg 0) (5 : Int32).toNatClampNeg 0) (6 : Int32).toNatClampNeg 0)))] H := hP
                                      replace hD : va_D A [(a_m, .inr (5, [.int 0, .ref a_sa, .int 0, .int 0, .int 0, .ref a_mr, .ref a_me, .ref a_le, .int 0, .ref a_mc, .ref a_mt, .ref a_mk, .ref a_my, .ref a_mb, .ref a_mx, .ref a_ml, .int 0, .ref a_mh, .ref a_mf, .int 0, .ref a_mz, .int 0])), (a_mr, .inl (k_mr, 410, .inl (upd (upd (upd (upd (upd (upd (upd (fun _ => 0) (0 : Int32).toNatClampNeg (-1)) (1 : Int32).toNatClampNeg (-1)) (2 : Int32).toNatClampNeg (-1)) (3 : Int32).toNatClampNeg 0) (4 : Int32).toNatClampNeg 0) (5 : Int32).toNatClampNeg 0) (6 : Int32).toNatClampNeg 0)))] := hD
                                      refine lv_iinc (v := 7) (lv' := [(1, .int 7), (0, .ref a_m)]) hx hb d_M_reads_43 hl (k := 0) rfl (by decide) (by decide) rfl (fun ls hl => ?_)
                                      refine lv_goto (tgt := 2) hx hb d_M_reads_46 (by decide) ?_
                                      refine lv_iload_n hx hb d_M_reads_2 rfl (lv_at hl 0 rfl) ?_
                                      refine lv_bipush (v := 10) hx hb d_M_reads_3 (by decide) ?_
                                      refine lv_icmp_ge (tgt := 49) hx hb d_M_reads_5 (by decide) (fun c_40 => ?_) (fun c_40 => ?_)
                                      · exact absurd c_40 (by decide)
                                      · refine lv_aload_n hx hb d_M_reads_8 rfl (lv_at hl 1 rfl) ?_
                                        refine va_get (D := (dC, dI)) (ci := 5) (v := .ref a_mr) (C := "LoanRulesModel") (T := Fz_M) (N := 22) hx hb hts it_M hown hK hP 0 rfl rfl 5 (by decide) (hts _ tw_606) (fun _ h9 => h9) rfl d_M_reads_9 ?_
                                        refine lv_bipush (v := 10) hx hb d_M_reads_12 (by decide) ?_
                                        refine lv_aload_n hx hb d_M_reads_14 rfl (lv_at hl 1 rfl) ?_
                                        refine va_get (D := (dC, dI)) (ci := 5) (v := .int 0) (C := "LoanRulesModel") (T := Fz_M) (N := 22) hx hb hts it_M hown hK hP 0 rfl rfl 8 (by decide) (hts _ tw_609) (fun _ h9 => h9) rfl d_M_reads_15 ?_
                                        refine lv_imul hx hb d_M_reads_18 ?_
                                        refine lv_topi (fun x_41 ex_41 => ?_)
                                        obtain rfl : x_41 = 0 := ex_41.trans (by decide)
                                        refine lv_iload_n hx hb d_M_reads_19 rfl (lv_at hl 0 rfl) ?_
                                        refine lv_iadd hx hb d_M_reads_20 ?_
                                        refine lv_topi (fun x_42 ex_42 => ?_)
                                        obtain rfl : x_42 = 7 := ex_42.trans (by decide)
                                        refine lv_iload_n hx hb d_M_reads_21 rfl (lv_at hl 0 rfl) ?_
                                        refine lv_iconst (v := 3) hx hb d_M_reads_22 (by decide) ?_
                                        refine lv_icmp_ge (tgt := 30) hx hb d_M_reads_23 (by decide) (fun c_43 => ?_) (fun c_43 => ?_)
                                        · refine lv_iload_n hx hb d_M_reads_30 rfl (lv_at hl 0 rfl) ?_
                                          refine lv_bipush (v := 7) hx hb d_M_reads_31 (by decide) ?_
                                          refine lv_icmp_ne (tgt := 41) hx hb d_M_reads_33 (by decide) (fun c_44 => ?_) (fun c_44 => ?_)
                                          · exact absurd (by decide) c_44
                                          · refine lv_bipush (v := 7) hx hb d_M_reads_36 (by decide) ?_
                                            refine lv_goto (tgt := 42) hx hb d_M_reads_38 (by decide) ?_
                                            have i_45 : vp_in 7 410 := by show ¬ (_ ∨ _); decide
                                            refine va_iast (D := (dC, dI)) hx hb hK hP hD hS 1 0 rfl rfl i_45 d_M_reads_42 (fun H locs hP hD hS => ?_)
                                            replace hP : va_P (dC, dI) vwCl [(a_m, .inr (5, [.int 0, .ref a_sa, .int 0, .int 0, .int 0, .ref a_mr, .ref a_me, .ref a_le, .int 0, .ref a_mc, .ref a_mt, .ref a_mk, .ref a_my, .ref a_mb, .ref a_mx, .ref a_ml, .int 0, .ref a_mh, .ref a_mf, .int 0, .ref a_mz, .int 0])), (a_mr, .inl (k_mr, 410, .inl (upd (upd (upd (upd (upd (upd (upd (upd (fun _ => 0) (0 : Int32).toNatClampNeg (-1)) (1 : Int32).toNatClampNeg (-1)) (2 : Int32).toNatClampNeg (-1)) (3 : Int32).toNatClampNeg 0) (4 : Int32).toNatClampNeg 0) (5 : Int32).toNatClampNeg 0) (6 : Int32).toNatClampNeg 0) (7 : Int32).toNatClampNeg 7)))] H := hP
                                            replace hD : va_D A [(a_m, .inr (5, [.int 0, .ref a_sa, .int 0, .int 0, .int 0, .ref a_mr, .ref a_me, .ref a_le, .int 0, .ref a_mc, .ref a_mt, .ref a_mk, .ref a_my, .ref a_mb, .ref a_mx, .ref a_ml, .int 0, .ref a_mh, .ref a_mf, .int 0, .ref a_mz, .int 0])), (a_mr, .inl (k_mr, 410, .inl (upd (upd (upd (upd (upd (upd (upd (upd (fun _ => 0) (0 : Int32).toNatClampNeg (-1)) (1 : Int32).toNatClampNeg (-1)) (2 : Int32).toNatClampNeg (-1)) (3 : Int32).toNatClampNeg 0) (4 : Int32).toNatClampNeg 0) (5 : Int32).toNatClampNeg 0) (6 : Int32).toNatClampNeg 0) (7 : Int32).toNatClampNeg 7)))] := hD
                                            refine lv_iinc (v := 8) (lv' := [(1, .int 8), (0, .ref a_m)]) hx hb d_M_reads_43 hl (k := 0) rfl (by decide) (by decide) rfl (fun ls hl => ?_)
                                            refine lv_goto (tgt := 2) hx hb d_M_reads_46 (by decide) ?_
                                            refine lv_iload_n hx hb d_M_reads_2 rfl (lv_at hl 0 rfl) ?_
                                            refine lv_bipush (v := 10) hx hb d_M_reads_3 (by decide) ?_
                                            refine lv_icmp_ge (tgt := 49) hx hb d_M_reads_5 (by decide) (fun c_46 => ?_) (fun c_46 => ?_)
                                            · exact absurd c_46 (by decide)
                                            · refine lv_aload_n hx hb d_M_reads_8 rfl (lv_at hl 1 rfl) ?_
                                              refine va_get (D := (dC, dI)) (ci := 5) (v := .ref a_mr) (C := "LoanRulesModel") (T := Fz_M) (N := 22) hx hb hts it_M hown hK hP 0 rfl rfl 5 (by decide) (hts _ tw_606) (fun _ h9 => h9) rfl d_M_reads_9 ?_
                                              refine lv_bipush (v := 10) hx hb d_M_reads_12 (by decide) ?_
                                              refine lv_aload_n hx hb d_M_reads_14 rfl (lv_at hl 1 rfl) ?_
                                              refine va_get (D := (dC, dI)) (ci := 5) (v := .int 0) (C := "LoanRulesModel") (T := Fz_M) (N := 22) hx hb hts it_M hown hK hP 0 rfl rfl 8 (by decide) (hts _ tw_609) (fun _ h9 => h9) rfl d_M_reads_15 ?_
                                              refine lv_imul hx hb d_M_reads_18 ?_
                                              refine lv_topi (fun x_47 ex_47 => ?_)
                                              obtain rfl : x_47 = 0 := ex_47.trans (by decide)
                                              refine lv_iload_n hx hb d_M_reads_19 rfl (lv_at hl 0 rfl) ?_
                                              refine lv_iadd hx hb d_M_reads_20 ?_
                                              refine lv_topi (fun x_48 ex_48 => ?_)
                                              obtain rfl : x_48 = 8 := ex_48.trans (by decide)
                                              refine lv_iload_n hx hb d_M_reads_21 rfl (lv_at hl 0 rfl) ?_
                                              refine lv_iconst (v := 3) hx hb d_M_reads_22 (by decide) ?_
                                              refine lv_icmp_ge (tgt := 30) hx hb d_M_reads_23 (by decide) (fun c_49 => ?_) (fun c_49 => ?_)
                                              · refine lv_iload_n hx hb d_M_reads_30 rfl (lv_at hl 0 rfl) ?_
                                                refine lv_bipush (v := 7) hx hb d_M_reads_31 (by decide) ?_
                                                refine lv_icmp_ne (tgt := 41) hx hb d_M_reads_33 (by decide) (fun c_50 => ?_) (fun c_50 => ?_)
                                                · refine lv_iconst (v := 0) hx hb d_M_reads_41 (by decide) ?_
                                                  have i_51 : vp_in 8 410 := by show ¬ (_ ∨ _); decide
                                                  refine va_iast (D := (dC, dI)) hx hb hK hP hD hS 1 0 rfl rfl i_51 d_M_reads_42 (fun H locs hP hD hS => ?_)
                                                  replace hP : va_P (dC, dI) vwCl [(a_m, .inr (5, [.int 0, .ref a_sa, .int 0, .int 0, .int 0, .ref a_mr, .ref a_me, .ref a_le, .int 0, .ref a_mc, .ref a_mt, .ref a_mk, .ref a_my, .ref a_mb, .ref a_mx, .ref a_ml, .int 0, .ref a_mh, .ref a_mf, .int 0, .ref a_mz, .int 0])), (a_mr, .inl (k_mr, 410, .inl (upd (upd (upd (upd (upd (upd (upd (upd (upd (fun _ => 0) (0 : Int32).toNatClampNeg (-1)) (1 : Int32).toNatClampNeg (-1)) (2 : Int32).toNatClampNeg (-1)) (3 : Int32).toNatClampNeg 0) (4 : Int32).toNatClampNeg 0) (5 : Int32).toNatClampNeg 0) (6 : Int32).toNatClampNeg 0) (7 : Int32).toNatClampNeg 7) (8 : Int32).toNatClampNeg 0)))] H := hP
                                                  replace hD : va_D A [(a_m, .inr (5, [.int 0, .ref a_sa, .int 0, .int 0, .int 0, .ref a_mr, .ref a_me, .ref a_le, .int 0, .ref a_mc, .ref a_mt, .ref a_mk, .ref a_my, .ref a_mb, .ref a_mx, .ref a_ml, .int 0, .ref a_mh, .ref a_mf, .int 0, .ref a_mz, .int 0])), (a_mr, .inl (k_mr, 410, .inl (upd (upd (upd (upd (upd (upd (upd (upd (upd (fun _ => 0) (0 : Int32).toNatClampNeg (-1)) (1 : Int32).toNatClampNeg (-1)) (2 : Int32).toNatClampNeg (-1)) (3 : Int32).toNatClampNeg 0) (4 : Int32).toNatClampNeg 0) (5 : Int32).toNatClampNeg 0) (6 : Int32).toNatClampNeg 0) (7 : Int32).toNatClampNeg 7) (8 : Int32).toNatClampNeg 0)))] := hD
                                                  refine lv_iinc (v := 9) (lv' := [(1, .int 9), (0, .ref a_m)]) hx hb d_M_reads_43 hl (k := 0) rfl (by decide) (by decide) rfl (fun ls hl => ?_)
                                                  refine lv_goto (tgt := 2) hx hb d_M_reads_46 (by decide) ?_
                                                  refine lv_iload_n hx hb d_M_reads_2 rfl (lv_at hl 0 rfl) ?_
                                                  refine lv_bipush (v := 10) hx hb d_M_reads_3 (by decide) ?_
                                                  refine lv_icmp_ge (tgt := 49) hx hb d_M_reads_5 (by decide) (fun c_52 => ?_) (fun c_52 => ?_)
                                                  · exact absurd c_52 (by decide)
                                                  · refine lv_aload_n hx hb d_M_reads_8 rfl (lv_at hl 1 rfl) ?_
                                                    refine va_get (D := (dC, dI)) (ci := 5) (v := .ref a_mr) (C := "LoanRulesModel") (T := Fz_M) (N := 22) hx hb hts it_M hown hK hP 0 rfl rfl 5 (by decide) (hts _ tw_606) (fun _ h9 => h9) rfl d_M_reads_9 ?_
                                                    refine lv_bipush (v := 10) hx hb d_M_reads_12 (by decide) ?_
                                                    refine lv_aload_n hx hb d_M_reads_14 rfl (lv_at hl 1 rfl) ?_
                                                    refine va_get (D := (dC, dI)) (ci := 5) (v := .int 0) (C := "LoanRulesModel") (T := Fz_M) (N := 22) hx hb hts it_M hown hK hP 0 rfl rfl 8 (by decide) (hts _ tw_609) (fun _ h9 => h9) rfl d_M_reads_15 ?_
                                                    refine lv_imul hx hb d_M_reads_18 ?_
                                                    refine lv_topi (fun x_53 ex_53 => ?_)
                                                    obtain rfl : x_53 = 0 := ex_53.trans (by decide)
                                                    refine lv_iload_n hx hb d_M_reads_19 rfl (lv_at hl 0 rfl) ?_
                                                    refine lv_iadd hx hb d_M_reads_20 ?_
                                                    refine lv_topi (fun x_54 ex_54 => ?_)
                                                    obtain rfl : x_54 = 9 := ex_54.trans (by decide)
                                                    refine lv_iload_n hx hb d_M_reads_21 rfl (lv_at hl 0 rfl) ?_
                                                    refine lv_iconst (v := 3) hx hb d_M_reads_22 (by decide) ?_
                                                    refine lv_icmp_ge (tgt := 30) hx hb d_M_reads_23 (by decide) (fun c_55 => ?_) (fun c_55 => ?_)
                                                    · refine lv_iload_n hx hb d_M_reads_30 rfl (lv_at hl 0 rfl) ?_
                                                      refine lv_bipush (v := 7) hx hb d_M_reads_31 (by decide) ?_
                                                      refine lv_icmp_ne (tgt := 41) hx hb d_M_reads_33 (by decide) (fun c_56 => ?_) (fun c_56 => ?_)
                                                      · refine lv_iconst (v := 0) hx hb d_M_reads_41 (by decide) ?_
                                                        have i_57 : vp_in 9 410 := by show ¬ (_ ∨ _); decide
                                                        refine va_iast (D := (dC, dI)) hx hb hK hP hD hS 1 0 rfl rfl i_57 d_M_reads_42 (fun H locs hP hD hS => ?_)
                                                        replace hP : va_P (dC, dI) vwCl [(a_m, .inr (5, [.int 0, .ref a_sa, .int 0, .int 0, .int 0, .ref a_mr, .ref a_me, .ref a_le, .int 0, .ref a_mc, .ref a_mt, .ref a_mk, .ref a_my, .ref a_mb, .ref a_mx, .ref a_ml, .int 0, .ref a_mh, .ref a_mf, .int 0, .ref a_mz, .int 0])), (a_mr, .inl (k_mr, 410, .inl (upd (upd (upd (upd (upd (upd (upd (upd (upd (upd (fun _ => 0) (0 : Int32).toNatClampNeg (-1)) (1 : Int32).toNatClampNeg (-1)) (2 : Int32).toNatClampNeg (-1)) (3 : Int32).toNatClampNeg 0) (4 : Int32).toNatClampNeg 0) (5 : Int32).toNatClampNeg 0) (6 : Int32).toNatClampNeg 0) (7 : Int32).toNatClampNeg 7) (8 : Int32).toNatClampNeg 0) (9 : Int32).toNatClampNeg 0)))] H := hP
                                                        replace hD : va_D A [(a_m, .inr (5, [.int 0, .ref a_sa, .int 0, .int 0, .int 0, .ref a_mr, .ref a_me, .ref a_le, .int 0, .ref a_mc, .ref a_mt, .ref a_mk, .ref a_my, .ref a_mb, .ref a_mx, .ref a_ml, .int 0, .ref a_mh, .ref a_mf, .int 0, .ref a_mz, .int 0])), (a_mr, .inl (k_mr, 410, .inl (upd (upd (upd (upd (upd (upd (upd (upd (upd (upd (fun _ => 0) (0 : Int32).toNatClampNeg (-1)) (1 : Int32).toNatClampNeg (-1)) (2 : Int32).toNatClampNeg (-1)) (3 : Int32).toNatClampNeg 0) (4 : Int32).toNatClampNeg 0) (5 : Int32).toNatClampNeg 0) (6 : Int32).toNatClampNeg 0) (7 : Int32).toNatClampNeg 7) (8 : Int32).toNatClampNeg 0) (9 : Int32).toNatClampNeg 0)))] := hD
                                                        refine lv_iinc (v := 10) (lv' := [(1, .int 10), (0, .ref a_m)]) hx hb d_M_reads_43 hl (k := 0) rfl (by decide) (by decide) rfl (fun ls hl => ?_)
                                                        refine lv_goto (tgt := 2) hx hb d_M_reads_46 (by decide) ?_
                                                        refine lv_iload_n hx hb d_M_reads_2 rfl (lv_at hl 0 rfl) ?_
                                                        refine lv_bipush (v := 10) hx hb d_M_reads_3 (by decide) ?_
                                                        refine lv_icmp_ge (tgt := 49) hx hb d_M_reads_5 (by decide) (fun c_58 => ?_) (fun c_58 => ?_)
                                                        · refine lv_aload_n hx hb d_M_reads_49 rfl (lv_at hl 1 rfl) ?_
                                                          refine lv_iconst (v := 0) hx hb d_M_reads_50 (by decide) ?_
                                                          refine va_put (D := (dC, dI)) (ci := 5) (v := .int 0) (ty := .int) (C := "LoanRulesModel") (T := Fz_M) (N := 22) hx hb hts it_M tz_M tz_M_ok nz_M hown hK hP hD hS 0 rfl rfl 3 (by decide) (hts _ tw_604) (fun _ h9 => h9) rfl (by decide +kernel) rfl rfl (Nat.le_of_ble_eq_true rfl) d_M_reads_51 (fun H locs hP hD hS => ?_)
                                                          replace hP : va_P (dC, dI) vwCl [(a_m, .inr (5, [.int 0, .ref a_sa, .int 0, .int 0, .int 0, .ref a_mr, .ref a_me, .ref a_le, .int 0, .ref a_mc, .ref a_mt, .ref a_mk, .ref a_my, .ref a_mb, .ref a_mx, .ref a_ml, .int 0, .ref a_mh, .ref a_mf, .int 0, .ref a_mz, .int 0])), (a_mr, .inl (k_mr, 410, .inl (upd (upd (upd (upd (upd (upd (upd (upd (upd (upd (fun _ => 0) (0 : Int32).toNatClampNeg (-1)) (1 : Int32).toNatClampNeg (-1)) (2 : Int32).toNatClampNeg (-1)) (3 : Int32).toNatClampNeg 0) (4 : Int32).toNatClampNeg 0) (5 : Int32).toNatClampNeg 0) (6 : Int32).toNatClampNeg 0) (7 : Int32).toNatClampNeg 7) (8 : Int32).toNatClampNeg 0) (9 : Int32).toNatClampNeg 0)))] H := hP
                                                          replace hD : va_D A [(a_m, .inr (5, [.int 0, .ref a_sa, .int 0, .int 0, .int 0, .ref a_mr, .ref a_me, .ref a_le, .int 0, .ref a_mc, .ref a_mt, .ref a_mk, .ref a_my, .ref a_mb, .ref a_mx, .ref a_ml, .int 0, .ref a_mh, .ref a_mf, .int 0, .ref a_mz, .int 0])), (a_mr, .inl (k_mr, 410, .inl (upd (upd (upd (upd (upd (upd (upd (upd (upd (upd (fun _ => 0) (0 : Int32).toNatClampNeg (-1)) (1 : Int32).toNatClampNeg (-1)) (2 : Int32).toNatClampNeg (-1)) (3 : Int32).toNatClampNeg 0) (4 : Int32).toNatClampNeg 0) (5 : Int32).toNatClampNeg 0) (6 : Int32).toNatClampNeg 0) (7 : Int32).toNatClampNeg 7) (8 : Int32).toNatClampNeg 0) (9 : Int32).toNatClampNeg 0)))] := hD
                                                          refine lv_iconst (v := 0) hx hb d_M_reads_54 (by decide) ?_
                                                          refine lv_istore_n (lv' := [(1, .int 0), (0, .ref a_m)]) hx hb d_M_reads_55 rfl hl (by decide) rfl (fun ls hl => ?_)
                                                          refine lv_aload_n hx hb d_M_reads_56 rfl (lv_at hl 1 rfl) ?_
                                                          refine va_get (D := (dC, dI)) (ci := 5) (v := .int 0) (C := "LoanRulesModel") (T := Fz_M) (N := 22) hx hb hts it_M hown hK hP 0 rfl rfl 3 (by decide) (hts _ tw_604) (fun _ h9 => h9) rfl d_M_reads_57 ?_
                                                          refine lv_aload_n hx hb d_M_reads_60 rfl (lv_at hl 1 rfl) ?_
                                                          refine va_get (D := (dC, dI)) (ci := 5) (v := .int 0) (C := "LoanRulesModel") (T := Fz_M) (N := 22) hx hb hts it_M hown hK hP 0 rfl rfl 2 (by decide) (hts _ tw_603) (fun _ h9 => h9) rfl d_M_reads_61 ?_
                                                          refine lv_icmp_lt (tgt := 72) hx hb d_M_reads_64 (by decide) (fun c_59 => ?_) (fun c_59 => ?_)
                                                          · exact absurd c_59 (by decide)
                                                          · refine lv_iload_n hx hb d_M_reads_67 rfl (lv_at hl 0 rfl) ?_
                                                            refine lv_iconst (v := 4) hx hb d_M_reads_68 (by decide) ?_
                                                            refine lv_icmp_ge (tgt := 180) hx hb d_M_reads_69 (by decide) (fun c_60 => ?_) (fun c_60 => ?_)
                                                            · exact absurd c_60 (by decide)
                                                            · refine lv_iload_n hx hb d_M_reads_72 rfl (lv_at hl 0 rfl) ?_
                                                              refine lv_if_le (tgt := 85) hx hb d_M_reads_73 (by decide) (fun c_61 => ?_) (fun c_61 => ?_)
                                                              · refine lv_aload_n hx hb d_M_reads_85 rfl (lv_at hl 1 rfl) ?_
                                                                have hPc := hP.sub (ws' := [(a_m, .inr (5, [.int 0, .ref a_sa, .int 0, .int 0, .int 0, .ref a_mr, .ref a_me, .ref a_le, .int 0, .ref a_mc, .ref a_mt, .ref a_mk, .ref a_my, .ref a_mb, .ref a_mx, .ref a_ml, .int 0, .ref a_mh, .ref a_mf, .int 0, .ref a_mz, .int 0]))]) [0] rfl
                                                                have hKc := hK.sub (tys' := []) [] rfl
                                                                refine vp_callSl (va_Run.run (va_runV (As := []) (rest := []) ⟨hx, hb, hml, hown, hts⟩ (c_Mo_word l dC dI adK adV (a_m := a_m) (a_sa := a_sa) (a_mr := a_mr) (a_me := a_me) (a_le := a_le) (a_mc := a_mc) (a_mt := a_mt) (a_mk := a_mk) (a_my := a_my) (a_mb := a_mb) (a_mx := a_mx) (a_ml := a_ml) (a_mh := a_mh) (a_mf := a_mf) (a_mz := a_mz)) (cwV 0 hts (gV tw_696 tw_698 tw_29 tw_46 tw_699) rfl rfl rfl (by decide +kernel) ⟨(Nat.le_of_ble_eq_true rfl), (Nat.le_of_ble_eq_true rfl)⟩) ⟨fun a U g mk q => by obtain ⟨q0, qZ, qP, qK⟩ := q; exact ⟨q0, zz_call qZ, qP, va_K.moved (u := U) (U := U.calling g mk a) (Vm.Alike.refl U.vm) qK⟩, va_recv hKc hPc (ci := 5) (q0 := 0) rfl rfl, fun U hU hW => ⟨rfl, zz_ro hS hU hW hZ, by rw [hU]; exact hPc, va_K.moved hW.alike hKc⟩⟩ rfl rfl hl.1 rfl (lv_room (Nat.le_of_ble_eq_true rfl)) d_M_reads_86 ⟨(Nat.le_of_ble_eq_true rfl), (Nat.le_of_ble_eq_true rfl)⟩)) (fun r_62 hw_63 => ?_)
                                                                obtain rfl : r_62 = 0 := hw_63
                                                                have hPc := hP.sub (ws' := []) [] rfl
                                                                have hKc := hK.sub (tys' := []) [] rfl
                                                                refine vp_callSi (va_Run.run (va_runS (As := [.long 0]) (rest := []) ⟨hx, hb, hml, hown, hts⟩ (c_Mo_step l dC dI adK adV) (va_cwS 1 hts (gS tw_703 tw_704 tw_46 tw_705) rfl rfl rfl (by decide +kernel) ⟨(Nat.le_of_ble_eq_true rfl), (Nat.le_of_ble_eq_true rfl)⟩) ⟨fun a U g mk q => by obtain ⟨q0, qZ, qP, qK⟩ := q; exact ⟨q0, zz_call qZ, qP, va_K.moved (u := U) (U := U.calling g mk a) (Vm.Alike.refl U.vm) qK⟩, fun U hU hW => ⟨rfl, zz_ro hS hU hW hZ, by rw [hU]; exact hPc, va_K.moved hW.alike hKc⟩⟩ rfl rfl hl.1 rfl (lv_room (Nat.le_of_ble_eq_true rfl)) d_M_reads_89 ⟨(Nat.le_of_ble_eq_true rfl), (Nat.le_of_ble_eq_true rfl)⟩)) (fun r_64 hw_65 => ?_)
                                                                obtain rfl : r_64 = 0 := hw_65
                                                                refine lv_istore_n (lv' := [(2, .int 0), (1, .int 0), (0, .ref a_m)]) hx hb d_M_reads_92 rfl hl (by decide) rfl (fun ls hl => ?_)
                                                                refine lv_iload_n hx hb d_M_reads_93 rfl (lv_at hl 0 rfl) ?_
                                                                refine lv_iload_n hx hb d_M_reads_94 rfl (lv_at hl 1 rfl) ?_
                                                                refine lv_icmp_le (tgt := 142) hx hb d_M_reads_95 (by decide) (fun c_66 => ?_) (fun c_66 => ?_)
                                                                · refine lv_iconst (v := 0) hx hb d_M_reads_142 (by decide) ?_
                                                                  refine lv_istore_n (lv' := [(3, .int 0), (2, .int 0), (1, .int 0), (0, .ref a_m)]) hx hb d_M_reads_143 rfl hl (by decide) rfl (fun ls hl => ?_)
                                                                  refine lv_iload_n hx hb d_M_reads_144 rfl (lv_at hl 1 rfl) ?_
                                                                  refine lv_if_eq (tgt := 152) hx hb d_M_reads_145 (by decide) (fun c_67 => ?_) (fun c_67 => ?_)
                                                                  · refine lv_aload_n hx hb d_M_reads_152 rfl (lv_at hl 3 rfl) ?_
                                                                    refine lv_aload_n hx hb d_M_reads_153 rfl (lv_at hl 3 rfl) ?_
                                                                    refine va_get (D := (dC, dI)) (ci := 5) (v := .int 0) (C := "LoanRulesModel") (T := Fz_M) (N := 22) hx hb hts it_M hown hK hP 0 rfl rfl 3 (by decide) (hts _ tw_604) (fun _ h9 => h9) rfl d_M_reads_154 ?_
                                                                    have hPc := hP.sub (ws' := [(a_m, .inr (5, [.int 0, .ref a_sa, .int 0, .int 0, .int 0, .ref a_mr, .ref a_me, .ref a_le, .int 0, .ref a_mc, .ref a_mt, .ref a_mk, .ref a_my, .ref a_mb, .ref a_mx, .ref a_ml, .int 0, .ref a_mh, .ref a_mf, .int 0, .ref a_mz, .int 0]))]) [0] rfl
                                                                    have hKc := hK.sub (tys' := []) [] rfl
                                                                    have hDc := hD.sub (ws' := [(a_m, .inr (5, [.int 0, .ref a_sa, .int 0, .int 0, .int 0, .ref a_mr, .ref a_me, .ref a_le, .int 0, .ref a_mc, .ref a_mt, .ref a_mk, .ref a_my, .ref a_mb, .ref a_mx, .ref a_ml, .int 0, .ref a_mh, .ref a_mf, .int 0, .ref a_mz, .int 0]))]) [0] (by decide) rfl
                                                                    have hFc := va_free (wc := [(a_m, .inr (5, [.int 0, .ref a_sa, .int 0, .int 0, .int 0, .ref a_mr, .ref a_me, .ref a_le, .int 0, .ref a_mc, .ref a_mt, .ref a_mk, .ref a_my, .ref a_mb, .ref a_mx, .ref a_ml, .int 0, .ref a_mh, .ref a_mf, .int 0, .ref a_mz, .int 0]))]) hD hS hA [0] rfl
                                                                    refine va_calli (va_runV (As := [.int 0]) (rest := []) ⟨hx, hb, hml, hown, hts⟩ (c_Mo_bad l dC dI adK adV (a_m := a_m) (p0 := 0) (a_sa := a_sa) (a_mr := a_mr) (a_me := a_me) (a_le := a_le) (a_mc := a_mc) (a_mt := a_mt) (a_mk := a_mk) (a_my := a_my) (a_mb := a_mb) (a_mx := a_mx) (a_ml := a_ml) (a_mh := a_mh) (a_mf := a_mf) (a_mz := a_mz) (sz := H.size)) (cwV 1 hts (gV tw_692 tw_694 tw_28 tw_46 tw_695) rfl rfl rfl (by decide +kernel) ⟨(Nat.le_of_ble_eq_true rfl), (Nat.le_of_ble_eq_true rfl)⟩) ⟨fun a U g mk q => by obtain ⟨q0, q1, qZ, qP, qK, qD⟩ := q; exact ⟨q0, q1, zz_call qZ, qP, va_K.moved (u := U) (U := U.calling g mk a) (Vm.Alike.refl U.vm) qK, qD⟩, va_recv hKc hPc (ci := 5) (q0 := 0) rfl rfl, fun U hU hW => ⟨rfl, by rw [hU], zz_rw hS hFc hU hW hZ, by rw [hU]; exact hPc, va_K.moved hW.alike hKc, hDc.weaken (fun _ _ _ _ => trivial)⟩⟩ rfl rfl hl.1 rfl (lv_room (Nat.le_of_ble_eq_true rfl)) d_M_reads_157 ⟨(Nat.le_of_ble_eq_true rfl), (Nat.le_of_ble_eq_true rfl)⟩) hS (fun q _ h => hFc q h) hFc (fun r_68 u t H1 locs ht hvm hw_69 hB hz1 hk1 hS => ?_)
                                                                    obtain rfl : r_68 = 0 := hw_69
                                                                    obtain ⟨hP1, hK1, hD1⟩ := hB
                                                                    rw [ht] at hP1
                                                                    have hK1 := va_K.moved hvm.symm hK1
                                                                    obtain ⟨hP, hD⟩ := va_join (wr := [(a_mr, .inl (k_mr, 410, .inl (upd (upd (upd (upd (upd (upd (upd (upd (upd (upd (fun _ => 0) (0 : Int32).toNatClampNeg (-1)) (1 : Int32).toNatClampNeg (-1)) (2 : Int32).toNatClampNeg (-1)) (3 : Int32).toNatClampNeg 0) (4 : Int32).toNatClampNeg 0) (5 : Int32).toNatClampNeg 0) (6 : Int32).toNatClampNeg 0) (7 : Int32).toNatClampNeg 7) (8 : Int32).toNatClampNeg 0) (9 : Int32).toNatClampNeg 0)))]) (w1 := [(a_m, .inr (5, [.int 0, .ref a_sa, .int 0, .int 0, .int 0, .ref a_mr, .ref a_me, .ref a_le, .int 0, .ref a_mc, .ref a_mt, .ref a_mk, .ref a_my, .ref a_mb, .ref a_mx, .ref a_ml, .int 0, .ref a_mh, .ref a_mf, .int 0, .ref a_mz, .int 0]))]) hP hD [0] [1] rfl rfl (by decide) (by decide) hk1 hFc hP1 hD1
                                                                    have hK := (hK.sub (tys' := [(k_mr, .int)]) [0] rfl).app hK1
                                                                    generalize H1 = H at hP hS ⊢
                                                                    replace hP : va_P (dC, dI) vwCl [(a_mr, .inl (k_mr, 410, .inl (upd (upd (upd (upd (upd (upd (upd (upd (upd (upd (fun _ => 0) (0 : Int32).toNatClampNeg (-1)) (1 : Int32).toNatClampNeg (-1)) (2 : Int32).toNatClampNeg (-1)) (3 : Int32).toNatClampNeg 0) (4 : Int32).toNatClampNeg 0) (5 : Int32).toNatClampNeg 0) (6 : Int32).toNatClampNeg 0) (7 : Int32).toNatClampNeg 7) (8 : Int32).toNatClampNeg 0) (9 : Int32).toNatClampNeg 0))), (a_m, .inr (5, [.int 0, .ref a_sa, .int 0, .int 0, .int 0, .ref a_mr, .ref a_me, .ref a_le, .int 0, .ref a_mc, .ref a_mt, .ref a_mk, .ref a_my, .ref a_mb, .ref a_mx, .ref a_ml, .int 0, .ref a_mh, .ref a_mf, .int 0, .ref a_mz, .int 0]))] H := hP
                                                                    replace hD : va_D A [(a_mr, .inl (k_mr, 410, .inl (upd (upd (upd (upd (upd (upd (upd (upd (upd (upd (fun _ => 0) (0 : Int32).toNatClampNeg (-1)) (1 : Int32).toNatClampNeg (-1)) (2 : Int32).toNatClampNeg (-1)) (3 : Int32).toNatClampNeg 0) (4 : Int32).toNatClampNeg 0) (5 : Int32).toNatClampNeg 0) (6 : Int32).toNatClampNeg 0) (7 : Int32).toNatClampNeg 7) (8 : Int32).toNatClampNeg 0) (9 : Int32).toNatClampNeg 0))), (a_m, .inr (5, [.int 0, .ref a_sa, .int 0, .int 0, .int 0, .ref a_mr, .ref a_me, .ref a_le, .int 0, .ref a_mc, .ref a_mt, .ref a_mk, .ref a_my, .ref a_mb, .ref a_mx, .ref a_ml, .int 0, .ref a_mh, .ref a_mf, .int 0, .ref a_mz, .int 0]))] := hD
                                                                    replace hK : va_K (dC, dI) vwCl [(k_mr, .int)] s := hK
                                                                    have hP9 := hP.sub (ws' := [(a_m, .inr (5, [.int 0, .ref a_sa, .int 0, .int 0, .int 0, .ref a_mr, .ref a_me, .ref a_le, .int 0, .ref a_mc, .ref a_mt, .ref a_mk, .ref a_my, .ref a_mb, .ref a_mx, .ref a_ml, .int 0, .ref a_mh, .ref a_mf, .int 0, .ref a_mz, .int 0]))]) [1] rfl
                                                                    have hD9 := hD.sub (ws' := [(a_m, .inr (5, [.int 0, .ref a_sa, .int 0, .int 0, .int 0, .ref a_mr, .ref a_me, .ref a_le, .int 0, .ref a_mc, .ref a_mt, .ref a_mk, .ref a_my, .ref a_mb, .ref a_mx, .ref a_ml, .int 0, .ref a_mh, .ref a_mf, .int 0, .ref a_mz, .int 0]))]) [1] (by decide) rfl
                                                                    have hK9 := hK.sub (tys' := []) [] rfl
                                                                    exact W.zret (v := 0) hx hb hr rfl (fun t ht hW => ⟨⟨0, (), rfl, rfl, by rw [ht]; exact hP9, va_K.moved hW.alike hK9, hD9⟩, hS.F ht⟩) hS.2.2 d_M_reads_160
                                                                  · exact absurd (by decide) c_67
                                                                · exact absurd (by decide) c_66
                                                              · exact absurd (by decide) c_61
                                                        · exact absurd (by decide) c_58
                                                      · exact absurd c_56 (by decide)
                                                    · exact absurd (by decide) c_55
                                                · exact absurd c_50 (by decide)
                                              · exact absurd (by decide) c_49
                                        · exact absurd (by decide) c_43
                                    · exact absurd c_38 (by decide)
                                  · exact absurd (by decide) c_37
                              · exact absurd c_32 (by decide)
                            · exact absurd (by decide) c_31
                        · exact absurd c_26 (by decide)
                      · exact absurd (by decide) c_25
                  · exact absurd c_20 (by decide)
                · exact absurd (by decide) c_19
set_option maxHeartbeats 4000000 in
set_option maxRecDepth 100000 in
theorem c_Mo_rule (l : Launch) (dC : Nat → ClassId) (dI : Nat → Nat → Nat) (adK adV : Nat → Nat) (a_m : Nat) (a_mr : Nat) (k_mr : ClassId) (a_sa : Nat) (a_me : Nat) (a_le : Nat) (a_mc : Nat) (a_mt : Nat) (a_mk : Nat) (a_my : Nat) (a_mb : Nat) (a_mx : Nat) (a_ml : Nat) (a_mh : Nat) (a_mf : Nat) (a_mz : Nat) (sz : Nat) : Met l y_M_rule ws_M_rule ({ frames := 3, cells := 0, slots := 0, locals := 67 }) (va_Pc [.ref a_m] (fun U => U.heap.size = sz ∧ zz adK adV (va_A [(a_m, .inr (5, [.int 0, .ref a_sa, .int 0, .int 0, .int 0, .ref a_mr, .ref a_me, .ref a_le, .int 0, .ref a_mc, .ref a_mt, .ref a_mk, .ref a_my, .ref a_mb, .ref a_mx, .ref a_ml, .int 0, .ref a_mh, .ref a_mf, .int 0, .ref a_mz, .int 0])), (a_mr, .inl (k_mr, 410, .inl (fun _ => 0)))] sz) U ∧ va_P (dC, dI) vwCl [(a_m, .inr (5, [.int 0, .ref a_sa, .int 0, .int 0, .int 0, .ref a_mr, .ref a_me, .ref a_le, .int 0, .ref a_mc, .ref a_mt, .ref a_mk, .ref a_my, .ref a_mb, .ref a_mx, .ref a_ml, .int 0, .ref a_mh, .ref a_mf, .int 0, .ref a_mz, .int 0])), (a_mr, .inl (k_mr, 410, .inl (fun _ => 0)))] U.heap ∧ va_K (dC, dI) vwCl [(k_mr, .int)] U ∧ va_D (fun _ => True) [(a_m, .inr (5, [.int 0, .ref a_sa, .int 0, .int 0, .int 0, .ref a_mr, .ref a_me, .ref a_le, .int 0, .ref a_mc, .ref a_mt, .ref a_mk, .ref a_my, .ref a_mb, .ref a_mx, .ref a_ml, .int 0, .ref a_mh, .ref a_mf, .int 0, .ref a_mz, .int 0])), (a_mr, .inl (k_mr, 410, .inl (fun _ => 0)))])) (va_Qi (fun (r : Int32) (_ : Unit) => r = (-1)) (fun (_ : Unit) (_ : State) => True) (va_A [(a_m, .inr (5, [.int 0, .ref a_sa, .int 0, .int 0, .int 0, .ref a_mr, .ref a_me, .ref a_le, .int 0, .ref a_mc, .ref a_mt, .ref a_mk, .ref a_my, .ref a_mb, .ref a_mx, .ref a_ml, .int 0, .ref a_mh, .ref a_mf, .int 0, .ref a_mz, .int 0])), (a_mr, .inl (k_mr, 410, .inl (fun _ => 0)))] sz)) 0 0 (va_A [(a_m, .inr (5, [.int 0, .ref a_sa, .int 0, .int 0, .int 0, .ref a_mr, .ref a_me, .ref a_le, .int 0, .ref a_mc, .ref a_mt, .ref a_mk, .ref a_my, .ref a_mb, .ref a_mx, .ref a_ml, .int 0, .ref a_mh, .ref a_mf, .int 0, .ref a_mz, .int 0])), (a_mr, .inl (k_mr, 410, .inl (fun _ => 0)))] sz) := by
  refine Met.ofW (cc := c_M_rule) (maxL := 2) (ret := (some .int)) (by decide) rfl ?_
  intro p e s m args below meth c s₁ B hml hv
  obtain ⟨rfl, hsz, hZ, hP, hK, hD0⟩ := hv
  have hx := B.exec
  have hb := B.bytes
  have hr := B.returns
  have hts0 := atoms_spec (ws := ws_M_rule) B.pre
  have hts : ∀ w ∈ TT, w.before _ s = true := fun w h => hts0 w (List.mem_cons_of_mem _ h)
  have hown : s.vm.findClass "LoanRulesModel" = some m.cls := findClass_of_methodNamed B.named
  have hlocks := B.notSynchronized
  subst hsz
  have hD := hD0.self (sz := s.heap.size)
  generalize hAe : va_A [(a_m, .inr (5, [.int 0, .ref a_sa, .int 0, .int 0, .int 0, .ref a_mr, .ref a_me, .ref a_le, .int 0, .ref a_mc, .ref a_mt, .ref a_mk, .ref a_my, .ref a_mb, .ref a_mx, .ref a_ml, .int 0, .ref a_mh, .ref a_mf, .int 0, .ref a_mz, .int 0])), (a_mr, .inl (k_mr, 410, .inl (fun _ => 0)))] s.heap.size = A at hD hZ ⊢
  have hA : ∀ q : Nat, s.heap.size ≤ q → A q := fun q h => by rw [← hAe]; exact Or.inr h
  clear hAe hD0
  have hS : va_S A s.heap s.heap [] := va_S.rf
  replace hP : va_P (dC, dI) vwCl [(a_m, .inr (5, [.int 0, .ref a_sa, .int 0, .int 0, .int 0, .ref a_mr, .ref a_me, .ref a_le, .int 0, .ref a_mc, .ref a_mt, .ref a_mk, .ref a_my, .ref a_mb, .ref a_mx, .ref a_ml, .int 0, .ref a_mh, .ref a_mf, .int 0, .ref a_mz, .int 0])), (a_mr, .inl (k_mr, 410, .inl (fun _ => 0)))] s.heap := hP
  have hl := lv_entry ([.ref a_m]) (n := 2) (Nat.le_of_ble_eq_true rfl)
  rw [lg_entry_eq]
  generalize (lg_sl ([.ref a_m]) ++ List.replicate (2 - (lg_sl ([.ref a_m])).length) Slot.unset).toArray = ls at hl ⊢
  replace hl : lv_has ls 2 [(0, .ref a_m)] := hl
  refine lv_aload_n hx hb d_M_rule_0 rfl (lv_at hl 0 rfl) ?_
  refine lv_iconst (v := 0) hx hb d_M_rule_1 (by decide) ?_
  refine va_put (D := (dC, dI)) (ci := 5) (v := .int 0) (ty := .int) (C := "LoanRulesModel") (T := Fz_M) (N := 22) hx hb hts it_M tz_M tz_M_ok nz_M hown hK hP hD hS 0 rfl rfl 0 (by decide) (hts _ tw_601) (fun _ h9 => h9) rfl (by decide +kernel) rfl rfl (Nat.le_of_ble_eq_true rfl) d_M_rule_2 (fun H locs hP hD hS => ?_)
  replace hP : va_P (dC, dI) vwCl [(a_m, .inr (5, [.int 0, .ref a_sa, .int 0, .int 0, .int 0, .ref a_mr, .ref a_me, .ref a_le, .int 0, .ref a_mc, .ref a_mt, .ref a_mk, .ref a_my, .ref a_mb, .ref a_mx, .ref a_ml, .int 0, .ref a_mh, .ref a_mf, .int 0, .ref a_mz, .int 0])), (a_mr, .inl (k_mr, 410, .inl (fun _ => 0)))] H := hP
  replace hD : va_D A [(a_m, .inr (5, [.int 0, .ref a_sa, .int 0, .int 0, .int 0, .ref a_mr, .ref a_me, .ref a_le, .int 0, .ref a_mc, .ref a_mt, .ref a_mk, .ref a_my, .ref a_mb, .ref a_mx, .ref a_ml, .int 0, .ref a_mh, .ref a_mf, .int 0, .ref a_mz, .int 0])), (a_mr, .inl (k_mr, 410, .inl (fun _ => 0)))] := hD
  refine lv_aload_n hx hb d_M_rule_5 rfl (lv_at hl 0 rfl) ?_
  have hPc := hP.sub (ws' := [(a_m, .inr (5, [.int 0, .ref a_sa, .int 0, .int 0, .int 0, .ref a_mr, .ref a_me, .ref a_le, .int 0, .ref a_mc, .ref a_mt, .ref a_mk, .ref a_my, .ref a_mb, .ref a_mx, .ref a_ml, .int 0, .ref a_mh, .ref a_mf, .int 0, .ref a_mz, .int 0])), (a_mr, .inl (k_mr, 410, .inl (fun _ => 0)))]) [0, 1] rfl
  have hKc := hK.sub (tys' := [(k_mr, .int)]) [0] rfl
  have hDc := hD.sub (ws' := [(a_m, .inr (5, [.int 0, .ref a_sa, .int 0, .int 0, .int 0, .ref a_mr, .ref a_me, .ref a_le, .int 0, .ref a_mc, .ref a_mt, .ref a_mk, .ref a_my, .ref a_mb, .ref a_mx, .ref a_ml, .int 0, .ref a_mh, .ref a_mf, .int 0, .ref a_mz, .int 0])), (a_mr, .inl (k_mr, 410, .inl (fun _ => 0)))]) [0, 1] (by decide) rfl
  have hFc := va_free (wc := [(a_m, .inr (5, [.int 0, .ref a_sa, .int 0, .int 0, .int 0, .ref a_mr, .ref a_me, .ref a_le, .int 0, .ref a_mc, .ref a_mt, .ref a_mk, .ref a_my, .ref a_mb, .ref a_mx, .ref a_ml, .int 0, .ref a_mh, .ref a_mf, .int 0, .ref a_mz, .int 0])), (a_mr, .inl (k_mr, 410, .inl (fun _ => 0)))]) hD hS hA [0, 1] rfl
  refine va_calli (va_runV (As := []) (rest := []) ⟨hx, hb, hml, hown, hts⟩ (c_Mo_reads l dC dI adK adV (a_m := a_m) (a_sa := a_sa) (a_mr := a_mr) (a_me := a_me) (a_le := a_le) (a_mc := a_mc) (a_mt := a_mt) (a_mk := a_mk) (a_my := a_my) (a_mb := a_mb) (a_mx := a_mx) (a_ml := a_ml) (a_mh := a_mh) (a_mf := a_mf) (a_mz := a_mz) (k_mr := k_mr) (sz := H.size)) (cwV 0 hts (gV tw_680 tw_682 tw_25 tw_46 tw_683) rfl rfl rfl (by decide +kernel) ⟨(Nat.le_of_ble_eq_true rfl), (Nat.le_of_ble_eq_true rfl)⟩) ⟨fun a U g mk q => by obtain ⟨q0, q1, qZ, qP, qK, qD⟩ := q; exact ⟨q0, q1, zz_call qZ, qP, va_K.moved (u := U) (U := U.calling g mk a) (Vm.Alike.refl U.vm) qK, qD⟩, va_recv hKc hPc (ci := 5) (q0 := 0) rfl rfl, fun U hU hW => ⟨rfl, by rw [hU], zz_rw hS hFc hU hW hZ, by rw [hU]; exact hPc, va_K.moved hW.alike hKc, hDc.weaken (fun _ _ _ _ => trivial)⟩⟩ rfl rfl hl.1 rfl (lv_room (Nat.le_of_ble_eq_true rfl)) d_M_rule_6 ⟨(Nat.le_of_ble_eq_true rfl), (Nat.le_of_ble_eq_true rfl)⟩) hS (fun q _ h => hFc q h) hFc (fun r_1 u t H1 locs ht hvm hw_2 hB hz1 hk1 hS => ?_)
  obtain rfl : r_1 = 0 := hw_2
  obtain ⟨hP1, hK1, hD1⟩ := hB
  rw [ht] at hP1
  have hK1 := va_K.moved hvm.symm hK1
  obtain ⟨hP, hD⟩ := va_join (wr := []) (w1 := [(a_m, .inr (5, [.int 0, .ref a_sa, .int 0, .int 0, .int 0, .ref a_mr, .ref a_me, .ref a_le, .int 0, .ref a_mc, .ref a_mt, .ref a_mk, .ref a_my, .ref a_mb, .ref a_mx, .ref a_ml, .int 0, .ref a_mh, .ref a_mf, .int 0, .ref a_mz, .int 0]))]) hP hD [0, 1] [] rfl rfl (by decide) (by decide) hk1 hFc hP1 hD1
  have hK := (hK.sub (tys' := []) [] rfl).app hK1
  generalize H1 = H at hP hS ⊢
  replace hP : va_P (dC, dI) vwCl [(a_m, .inr (5, [.int 0, .ref a_sa, .int 0, .int 0, .int 0, .ref a_mr, .ref a_me, .ref a_le, .int 0, .ref a_mc, .ref a_mt, .ref a_mk, .ref a_my, .ref a_mb, .ref a_mx, .ref a_ml, .int 0, .ref a_mh, .ref a_mf, .int 0, .ref a_mz, .int 0]))] H := hP
  replace hD : va_D A [(a_m, .inr (5, [.int 0, .ref a_sa, .int 0, .int 0, .int 0, .ref a_mr, .ref a_me, .ref a_le, .int 0, .ref a_mc, .ref a_mt, .ref a_mk, .ref a_my, .ref a_mb, .ref a_mx, .ref a_ml, .int 0, .ref a_mh, .ref a_mf, .int 0, .ref a_mz, .int 0]))] := hD
  replace hK : va_K (dC, dI) vwCl [] s := hK
  refine lv_istore_n (lv' := [(1, .int 0), (0, .ref a_m)]) hx hb d_M_rule_9 rfl hl (by decide) rfl (fun ls hl => ?_)
  refine lv_aload_n hx hb d_M_rule_10 rfl (lv_at hl 1 rfl) ?_
  refine lv_iconst (v := 0) hx hb d_M_rule_11 (by decide) ?_
  refine va_put (D := (dC, dI)) (ci := 5) (v := .int 0) (ty := .int) (C := "LoanRulesModel") (T := Fz_M) (N := 22) hx hb hts it_M tz_M tz_M_ok nz_M hown hK hP hD hS 0 rfl rfl 2 (by decide) (hts _ tw_603) (fun _ h9 => h9) rfl (by decide +kernel) rfl rfl (Nat.le_of_ble_eq_true rfl) d_M_rule_12 (fun H locs hP hD hS => ?_)
  replace hP : va_P (dC, dI) vwCl [(a_m, .inr (5, [.int 0, .ref a_sa, .int 0, .int 0, .int 0, .ref a_mr, .ref a_me, .ref a_le, .int 0, .ref a_mc, .ref a_mt, .ref a_mk, .ref a_my, .ref a_mb, .ref a_mx, .ref a_ml, .int 0, .ref a_mh, .ref a_mf, .int 0, .ref a_mz, .int 0]))] H := hP
  replace hD : va_D A [(a_m, .inr (5, [.int 0, .ref a_sa, .int 0, .int 0, .int 0, .ref a_mr, .ref a_me, .ref a_le, .int 0, .ref a_mc, .ref a_mt, .ref a_mk, .ref a_my, .ref a_mb, .ref a_mx, .ref a_ml, .int 0, .ref a_mh, .ref a_mf, .int 0, .ref a_mz, .int 0]))] := hD
  refine lv_iload_n hx hb d_M_rule_15 rfl (lv_at hl 0 rfl) ?_
  refine lv_if_ne (tgt := 26) hx hb d_M_rule_16 (by decide) (fun c_3 => ?_) (fun c_3 => ?_)
  · exact absurd (by decide) c_3
  · refine lv_iconst (v := (-1)) hx hb d_M_rule_19 (by decide) ?_
    refine lv_aload_n hx hb d_M_rule_20 rfl (lv_at hl 1 rfl) ?_
    refine va_get (D := (dC, dI)) (ci := 5) (v := .int 0) (C := "LoanRulesModel") (T := Fz_M) (N := 22) hx hb hts it_M hown hK hP 0 rfl rfl 4 (by decide) (hts _ tw_605) (fun _ h9 => h9) rfl d_M_rule_21 ?_
    refine lv_isub hx hb d_M_rule_24 ?_
    refine lv_topi (fun x_4 ex_4 => ?_)
    obtain rfl : x_4 = (-1) := ex_4.trans (by decide)
    exact W.iret (v := (-1)) hx hb hr (fun t ht hW => ⟨⟨(-1), (), rfl, rfl, trivial⟩, hS.F ht⟩) hS.2.2 d_M_rule_25
set_option maxHeartbeats 4000000 in
set_option maxRecDepth 100000 in
theorem c_Mo_closed (l : Launch) (dC : Nat → ClassId) (dI : Nat → Nat → Nat) (adK adV : Nat → Nat) (a_m : Nat) (a_mc : Nat) (k_mc : ClassId) (p0 : Int32) (p1 : Int32) (a_sa : Nat) (a_mr : Nat) (a_me : Nat) (a_le : Nat) (a_mt : Nat) (a_mk : Nat) (a_my : Nat) (a_mb : Nat) (a_mx : Nat) (a_ml : Nat) (a_mh : Nat) (a_mf : Nat) (a_mz : Nat) (sz : Nat) : Met l y_M_closed ws_M_closed ({ frames := 1, cells := 0, slots := 0, locals := 20 }) (va_Pc [.ref a_m, .int p0, .int p1] (fun U => U.heap.size = sz ∧ zz adK adV (va_A [(a_m, .inr (5, [.int 0, .ref a_sa, .int 0, .int 0, .int 0, .ref a_mr, .ref a_me, .ref a_le, .int 0, .ref a_mc, .ref a_mt, .ref a_mk, .ref a_my, .ref a_mb, .ref a_mx, .ref a_ml, .int 0, .ref a_mh, .ref a_mf, .int 0, .ref a_mz, .int 0])), (a_mc, .inl (k_mc, 10000, .inl (fun _ => 0)))] sz) U ∧ va_P (dC, dI) vwCl [(a_m, .inr (5, [.int 0, .ref a_sa, .int 0, .int 0, .int 0, .ref a_mr, .ref a_me, .ref a_le, .int 0, .ref a_mc, .ref a_mt, .ref a_mk, .ref a_my, .ref a_mb, .ref a_mx, .ref a_ml, .int 0, .ref a_mh, .ref a_mf, .int 0, .ref a_mz, .int 0])), (a_mc, .inl (k_mc, 10000, .inl (fun _ => 0)))] U.heap ∧ va_K (dC, dI) vwCl [(k_mc, .boolean)] U ∧ va_D (fun _ => True) [(a_m, .inr (5, [.int 0, .ref a_sa, .int 0, .int 0, .int 0, .ref a_mr, .ref a_me, .ref a_le, .int 0, .ref a_mc, .ref a_mt, .ref a_mk, .ref a_my, .ref a_mb, .ref a_mx, .ref a_ml, .int 0, .ref a_mh, .ref a_mf, .int 0, .ref a_mz, .int 0])), (a_mc, .inl (k_mc, 10000, .inl (fun _ => 0)))])) (va_Qi (fun (r : Int32) (_ : Unit) => r = 0) (fun (_ : Unit) (_ : State) => True) (va_A [(a_m, .inr (5, [.int 0, .ref a_sa, .int 0, .int 0, .int 0, .ref a_mr, .ref a_me, .ref a_le, .int 0, .ref a_mc, .ref a_mt, .ref a_mk, .ref a_my, .ref a_mb, .ref a_mx, .ref a_ml, .int 0, .ref a_mh, .ref a_mf, .int 0, .ref a_mz, .int 0])), (a_mc, .inl (k_mc, 10000, .inl (fun _ => 0)))] sz)) 0 0 (va_A [(a_m, .inr (5, [.int 0, .ref a_sa, .int 0, .int 0, .int 0, .ref a_mr, .ref a_me, .ref a_le, .int 0, .ref a_mc, .ref a_mt, .ref a_mk, .ref a_my, .ref a_mb, .ref a_mx, .ref a_ml, .int 0, .ref a_mh, .ref a_mf, .int 0, .ref a_mz, .int 0])), (a_mc, .inl (k_mc, 10000, .inl (fun _ => 0)))] sz) := by
  refine Met.ofW (cc := c_M_closed) (maxL := 4) (ret := (some .boolean)) (by decide) rfl ?_
  intro p e s m args below meth c s₁ B hml hv
  obtain ⟨rfl, hsz, hZ, hP, hK, hD0⟩ := hv
  have hx := B.exec
  have hb := B.bytes
  have hr := B.returns
  have hts0 := atoms_spec (ws := ws_M_closed) B.pre
  have hts : ∀ w ∈ TT, w.before _ s = true := fun w h => hts0 w (List.mem_cons_of_mem _ h)
  have hown : s.vm.findClass "LoanRulesModel" = some m.cls := findClass_of_methodNamed B.named
  have hlocks := B.notSynchronized
  subst hsz
  have hD := hD0.self (sz := s.heap.size)
  generalize hAe : va_A [(a_m, .inr (5, [.int 0, .ref a_sa, .int 0, .int 0, .int 0, .ref a_mr, .ref a_me, .ref a_le, .int 0, .ref a_mc, .ref a_mt, .ref a_mk, .ref a_my, .ref a_mb, .ref a_mx, .ref a_ml, .int 0, .ref a_mh, .ref a_mf, .int 0, .ref a_mz, .int 0])), (a_mc, .inl (k_mc, 10000, .inl (fun _ => 0)))] s.heap.size = A at hD hZ ⊢
  have hA : ∀ q : Nat, s.heap.size ≤ q → A q := fun q h => by rw [← hAe]; exact Or.inr h
  clear hAe hD0
  have hS : va_S A s.heap s.heap [] := va_S.rf
  replace hP : va_P (dC, dI) vwCl [(a_m, .inr (5, [.int 0, .ref a_sa, .int 0, .int 0, .int 0, .ref a_mr, .ref a_me, .ref a_le, .int 0, .ref a_mc, .ref a_mt, .ref a_mk, .ref a_my, .ref a_mb, .ref a_mx, .ref a_ml, .int 0, .ref a_mh, .ref a_mf, .int 0, .ref a_mz, .int 0])), (a_mc, .inl (k_mc, 10000, .inl (fun _ => 0)))] s.heap := hP
  have hl := lv_entry ([.ref a_m, .int p0, .int p1]) (n := 4) (Nat.le_of_ble_eq_true rfl)
  rw [lg_entry_eq]
  generalize (lg_sl ([.ref a_m, .int p0, .int p1]) ++ List.replicate (4 - (lg_sl ([.ref a_m, .int p0, .int p1])).length) Slot.unset).toArray = ls at hl ⊢
  replace hl : lv_has ls 4 [(0, .ref a_m), (1, .int p0), (2, .int p1)] := hl
  refine lv_aload_n hx hb d_M_closed_0 rfl (lv_at hl 0 rfl) ?_
  refine lv_iconst (v := 0) hx hb d_M_closed_1 (by decide) ?_
  refine va_put (D := (dC, dI)) (ci := 5) (v := .int 0) (ty := .int) (C := "LoanRulesModel") (T := Fz_M) (N := 22) hx hb hts it_M tz_M tz_M_ok nz_M hown hK hP hD hS 0 rfl rfl 0 (by decide) (hts _ tw_601) (fun _ h9 => h9) rfl (by decide +kernel) rfl rfl (Nat.le_of_ble_eq_true rfl) d_M_closed_2 (fun H locs hP hD hS => ?_)
  replace hP : va_P (dC, dI) vwCl [(a_m, .inr (5, [.int 0, .ref a_sa, .int 0, .int 0, .int 0, .ref a_mr, .ref a_me, .ref a_le, .int 0, .ref a_mc, .ref a_mt, .ref a_mk, .ref a_my, .ref a_mb, .ref a_mx, .ref a_ml, .int 0, .ref a_mh, .ref a_mf, .int 0, .ref a_mz, .int 0])), (a_mc, .inl (k_mc, 10000, .inl (fun _ => 0)))] H := hP
  replace hD : va_D A [(a_m, .inr (5, [.int 0, .ref a_sa, .int 0, .int 0, .int 0, .ref a_mr, .ref a_me, .ref a_le, .int 0, .ref a_mc, .ref a_mt, .ref a_mk, .ref a_my, .ref a_mb, .ref a_mx, .ref a_ml, .int 0, .ref a_mh, .ref a_mf, .int 0, .ref a_mz, .int 0])), (a_mc, .inl (k_mc, 10000, .inl (fun _ => 0)))] := hD
  refine lv_iload_n hx hb d_M_closed_5 rfl (lv_at hl 1 rfl) ?_
  have hPc := hP.sub (ws' := []) [] rfl
  have hKc := hK.sub (tys' := []) [] rfl
  refine vp_callSi (va_Run.run (va_runS (As := [.int p0]) (rest := []) ⟨hx, hb, hml, hown, hts⟩ (c_Mo_isDay l dC dI adK adV (p0 := p0)) (va_cwS 1 hts (gS tw_740 tw_741 tw_46 tw_742) rfl rfl rfl (by decide +kernel) ⟨(Nat.le_of_ble_eq_true rfl), (Nat.le_of_ble_eq_true rfl)⟩) ⟨fun a U g mk q => by obtain ⟨q0, qZ, qP, qK⟩ := q; exact ⟨q0, zz_call qZ, qP, va_K.moved (u := U) (U := U.calling g mk a) (Vm.Alike.refl U.vm) qK⟩, fun U hU hW => ⟨rfl, zz_ro hS hU hW hZ, by rw [hU]; exact hPc, va_K.moved hW.alike hKc⟩⟩ rfl rfl hl.1 rfl (lv_room (Nat.le_of_ble_eq_true rfl)) d_M_closed_6 ⟨(Nat.le_of_ble_eq_true rfl), (Nat.le_of_ble_eq_true rfl)⟩)) (fun r_1 hw_2 => ?_)
  subst hw_2
  refine lv_if_ne (tgt := 14) hx hb d_M_closed_9 (by decide) (fun c_3 => ?_) (fun c_3 => ?_)
  · refine lv_aload_n hx hb d_M_closed_14 rfl (lv_at hl 0 rfl) ?_
    refine va_get (D := (dC, dI)) (ci := 5) (v := .ref a_mc) (C := "LoanRulesModel") (T := Fz_M) (N := 22) hx hb hts it_M hown hK hP 0 rfl rfl 9 (by decide) (hts _ tw_610) (fun _ h9 => h9) rfl d_M_closed_15 ?_
    refine lv_iload_n hx hb d_M_closed_18 rfl (lv_at hl 1 rfl) ?_
    have i_4 : vp_in p0 10000 := in_dayM c_3
    refine va_zald (D := (dC, dI)) hx hb hK hP 1 0 rfl rfl i_4 d_M_closed_19 ?_
    refine lv_topi (fun x_5 ex_5 => ?_)
    obtain rfl : x_5 = 0 := ex_5
    refine lv_istore_n (lv' := [(3, .int 0), (0, .ref a_m), (1, .int p0), (2, .int p1)]) hx hb d_M_closed_20 rfl hl (by decide) rfl (fun ls hl => ?_)
    refine lv_aload_n hx hb d_M_closed_21 rfl (lv_at hl 1 rfl) ?_
    refine va_get (D := (dC, dI)) (ci := 5) (v := .ref a_mc) (C := "LoanRulesModel") (T := Fz_M) (N := 22) hx hb hts it_M hown hK hP 0 rfl rfl 9 (by decide) (hts _ tw_610) (fun _ h9 => h9) rfl d_M_closed_22 ?_
    refine lv_iload_n hx hb d_M_closed_25 rfl (lv_at hl 2 rfl) ?_
    refine lv_iload_n hx hb d_M_closed_26 rfl (lv_at hl 3 rfl) ?_
    have i_6 : vp_in p0 10000 := in_dayM c_3
    refine va_zast (D := (dC, dI)) hx hb hK hP hD hS 1 0 rfl rfl i_6 d_M_closed_27 (fun H locs hP hD hS => ?_)
    replace hP : va_P (dC, dI) vwCl [(a_m, .inr (5, [.int 0, .ref a_sa, .int 0, .int 0, .int 0, .ref a_mr, .ref a_me, .ref a_le, .int 0, .ref a_mc, .ref a_mt, .ref a_mk, .ref a_my, .ref a_mb, .ref a_mx, .ref a_ml, .int 0, .ref a_mh, .ref a_mf, .int 0, .ref a_mz, .int 0])), (a_mc, .inl (k_mc, 10000, .inl (upd (fun _ => 0) p0.toNatClampNeg (vp_nar .boolean p1))))] H := hP
    replace hD : va_D A [(a_m, .inr (5, [.int 0, .ref a_sa, .int 0, .int 0, .int 0, .ref a_mr, .ref a_me, .ref a_le, .int 0, .ref a_mc, .ref a_mt, .ref a_mk, .ref a_my, .ref a_mb, .ref a_mx, .ref a_ml, .int 0, .ref a_mh, .ref a_mf, .int 0, .ref a_mz, .int 0])), (a_mc, .inl (k_mc, 10000, .inl (upd (fun _ => 0) p0.toNatClampNeg (vp_nar .boolean p1))))] := hD
    refine lv_iload_n hx hb d_M_closed_28 rfl (lv_at hl 0 rfl) ?_
    exact W.zret (v := 0) hx hb hr rfl (fun t ht hW => ⟨⟨0, (), rfl, rfl, trivial⟩, hS.F ht⟩) hS.2.2 d_M_closed_29
  · refine lv_iconst (v := 0) hx hb d_M_closed_12 (by decide) ?_
    exact W.zret (v := 0) hx hb hr rfl (fun t ht hW => ⟨⟨0, (), rfl, rfl, trivial⟩, hS.F ht⟩) hS.2.2 d_M_closed_13
def g_Mo_term (p0 : Int32) : Int32 :=
  if (g_Mo_isDay p0) = 0 then
    0
  else
    1
set_option maxHeartbeats 4000000 in
set_option maxRecDepth 100000 in
theorem c_Mo_term (l : Launch) (dC : Nat → ClassId) (dI : Nat → Nat → Nat) (adK adV : Nat → Nat) (a_m : Nat) (a_mt : Nat) (k_mt : ClassId) (p0 : Int32) (a_sa : Nat) (a_mr : Nat) (a_me : Nat) (a_le : Nat) (a_mc : Nat) (a_mk : Nat) (a_my : Nat) (a_mb : Nat) (a_mx : Nat) (a_ml : Nat) (a_mh : Nat) (a_mf : Nat) (a_mz : Nat) (sz : Nat) : Met l y_M_term ws_M_term ({ frames := 1, cells := 0, slots := 0, locals := 20 }) (va_Pc [.ref a_m, .int p0] (fun U => U.heap.size = sz ∧ zz adK adV (va_A [(a_m, .inr (5, [.int 0, .ref a_sa, .int 0, .int 0, .int 0, .ref a_mr, .ref a_me, .ref a_le, .int 0, .ref a_mc, .ref a_mt, .ref a_mk, .ref a_my, .ref a_mb, .ref a_mx, .ref a_ml, .int 0, .ref a_mh, .ref a_mf, .int 0, .ref a_mz, .int 0])), (a_mt, .inl (k_mt, 10000, .inl (fun _ => 0)))] sz) U ∧ va_P (dC, dI) vwCl [(a_m, .inr (5, [.int 0, .ref a_sa, .int 0, .int 0, .int 0, .ref a_mr, .ref a_me, .ref a_le, .int 0, .ref a_mc, .ref a_mt, .ref a_mk, .ref a_my, .ref a_mb, .ref a_mx, .ref a_ml, .int 0, .ref a_mh, .ref a_mf, .int 0, .ref a_mz, .int 0])), (a_mt, .inl (k_mt, 10000, .inl (fun _ => 0)))] U.heap ∧ va_K (dC, dI) vwCl [(k_mt, .boolean)] U ∧ va_D (fun _ => True) [(a_m, .inr (5, [.int 0, .ref a_sa, .int 0, .int 0, .int 0, .ref a_mr, .ref a_me, .ref a_le, .int 0, .ref a_mc, .ref a_mt, .ref a_mk, .ref a_my, .ref a_mb, .ref a_mx, .ref a_ml, .int 0, .ref a_mh, .ref a_mf, .int 0, .ref a_mz, .int 0])), (a_mt, .inl (k_mt, 10000, .inl (fun _ => 0)))])) (va_Qi (fun (r : Int32) (_ : Unit) => r = g_Mo_term p0) (fun (_ : Unit) (_ : State) => True) (va_A [(a_m, .inr (5, [.int 0, .ref a_sa, .int 0, .int 0, .int 0, .ref a_mr, .ref a_me, .ref a_le, .int 0, .ref a_mc, .ref a_mt, .ref a_mk, .ref a_my, .ref a_mb, .ref a_mx, .ref a_ml, .int 0, .ref a_mh, .ref a_mf, .int 0, .ref a_mz, .int 0])), (a_mt, .inl (k_mt, 10000, .inl (fun _ => 0)))] sz)) 0 0 (va_A [(a_m, .inr (5, [.int 0, .ref a_sa, .int 0, .int 0, .int 0, .ref a_mr, .ref a_me, .ref a_le, .int 0, .ref a_mc, .ref a_mt, .ref a_mk, .ref a_my, .ref a_mb, .ref a_mx, .ref a_ml, .int 0, .ref a_mh, .ref a_mf, .int 0, .ref a_mz, .int 0])), (a_mt, .inl (k_mt, 10000, .inl (fun _ => 0)))] sz) := by
  refine Met.ofW (cc := c_M_term) (maxL := 2) (ret := (some .int)) (by decide) rfl ?_
  intro p e s m args below meth c s₁ B hml hv
  obtain ⟨rfl, hsz, hZ, hP, hK, hD0⟩ := hv
  have hx := B.exec
  have hb := B.bytes
  have hr := B.returns
  have hts0 := atoms_spec (ws := ws_M_term) B.pre
  have hts : ∀ w ∈ TT, w.before _ s = true := fun w h => hts0 w (List.mem_cons_of_mem _ h)
  have hown : s.vm.findClass "LoanRulesModel" = some m.cls := findClass_of_methodNamed B.named
  have hlocks := B.notSynchronized
  subst hsz
  have hD := hD0.self (sz := s.heap.size)
  generalize hAe : va_A [(a_m, .inr (5, [.int 0, .ref a_sa, .int 0, .int 0, .int 0, .ref a_mr, .ref a_me, .ref a_le, .int 0, .ref a_mc, .ref a_mt, .ref a_mk, .ref a_my, .ref a_mb, .ref a_mx, .ref a_ml, .int 0, .ref a_mh, .ref a_mf, .int 0, .ref a_mz, .int 0])), (a_mt, .inl (k_mt, 10000, .inl (fun _ => 0)))] s.heap.size = A at hD hZ ⊢
  have hA : ∀ q : Nat, s.heap.size ≤ q → A q := fun q h => by rw [← hAe]; exact Or.inr h
  clear hAe hD0
  have hS : va_S A s.heap s.heap [] := va_S.rf
  replace hP : va_P (dC, dI) vwCl [(a_m, .inr (5, [.int 0, .ref a_sa, .int 0, .int 0, .int 0, .ref a_mr, .ref a_me, .ref a_le, .int 0, .ref a_mc, .ref a_mt, .ref a_mk, .ref a_my, .ref a_mb, .ref a_mx, .ref a_ml, .int 0, .ref a_mh, .ref a_mf, .int 0, .ref a_mz, .int 0])), (a_mt, .inl (k_mt, 10000, .inl (fun _ => 0)))] s.heap := hP
  have hl := lv_entry ([.ref a_m, .int p0]) (n := 2) (Nat.le_of_ble_eq_true rfl)
  rw [lg_entry_eq]
  generalize (lg_sl ([.ref a_m, .int p0]) ++ List.replicate (2 - (lg_sl ([.ref a_m, .int p0])).length) Slot.unset).toArray = ls at hl ⊢
  replace hl : lv_has ls 2 [(0, .ref a_m), (1, .int p0)] := hl
  obtain ⟨z, hz⟩ : ∃ z, z = g_Mo_term p0 := ⟨_, rfl⟩
  have hE := hz
  rw [g_Mo_term] at hE
  refine lv_aload_n hx hb d_M_term_0 rfl (lv_at hl 0 rfl) ?_
  refine lv_iconst (v := 0) hx hb d_M_term_1 (by decide) ?_
  refine va_put (D := (dC, dI)) (ci := 5) (v := .int 0) (ty := .int) (C := "LoanRulesModel") (T := Fz_M) (N := 22) hx hb hts it_M tz_M tz_M_ok nz_M hown hK hP hD hS 0 rfl rfl 0 (by decide) (hts _ tw_601) (fun _ h9 => h9) rfl (by decide +kernel) rfl rfl (Nat.le_of_ble_eq_true rfl) d_M_term_2 (fun H locs hP hD hS => ?_)
  replace hP : va_P (dC, dI) vwCl [(a_m, .inr (5, [.int 0, .ref a_sa, .int 0, .int 0, .int 0, .ref a_mr, .ref a_me, .ref a_le, .int 0, .ref a_mc, .ref a_mt, .ref a_mk, .ref a_my, .ref a_mb, .ref a_mx, .ref a_ml, .int 0, .ref a_mh, .ref a_mf, .int 0, .ref a_mz, .int 0])), (a_mt, .inl (k_mt, 10000, .inl (fun _ => 0)))] H := hP
  replace hD : va_D A [(a_m, .inr (5, [.int 0, .ref a_sa, .int 0, .int 0, .int 0, .ref a_mr, .ref a_me, .ref a_le, .int 0, .ref a_mc, .ref a_mt, .ref a_mk, .ref a_my, .ref a_mb, .ref a_mx, .ref a_ml, .int 0, .ref a_mh, .ref a_mf, .int 0, .ref a_mz, .int 0])), (a_mt, .inl (k_mt, 10000, .inl (fun _ => 0)))] := hD
  refine lv_iload_n hx hb d_M_term_5 rfl (lv_at hl 1 rfl) ?_
  have hPc := hP.sub (ws' := []) [] rfl
  have hKc := hK.sub (tys' := []) [] rfl
  refine vp_callSi (va_Run.run (va_runS (As := [.int p0]) (rest := []) ⟨hx, hb, hml, hown, hts⟩ (c_Mo_isDay l dC dI adK adV (p0 := p0)) (va_cwS 1 hts (gS tw_740 tw_741 tw_46 tw_742) rfl rfl rfl (by decide +kernel) ⟨(Nat.le_of_ble_eq_true rfl), (Nat.le_of_ble_eq_true rfl)⟩) ⟨fun a U g mk q => by obtain ⟨q0, qZ, qP, qK⟩ := q; exact ⟨q0, zz_call qZ, qP, va_K.moved (u := U) (U := U.calling g mk a) (Vm.Alike.refl U.vm) qK⟩, fun U hU hW => ⟨rfl, zz_ro hS hU hW hZ, by rw [hU]; exact hPc, va_K.moved hW.alike hKc⟩⟩ rfl rfl hl.1 rfl (lv_room (Nat.le_of_ble_eq_true rfl)) d_M_term_6 ⟨(Nat.le_of_ble_eq_true rfl), (Nat.le_of_ble_eq_true rfl)⟩)) (fun r_1 hw_2 => ?_)
  subst hw_2
  refine lv_if_eq (tgt := 21) hx hb d_M_term_9 (by decide) (fun c_3 => ?_) (fun c_3 => ?_)
  · rw [if_pos c_3] at hE
    refine lv_iconst (v := 0) hx hb d_M_term_21 (by decide) ?_
    exact W.iret (v := 0) hx hb hr (fun t ht hW => ⟨⟨0, (), rfl, hE.symm.trans hz, trivial⟩, hS.F ht⟩) hS.2.2 d_M_term_22
  · rw [if_neg c_3] at hE
    refine lv_aload_n hx hb d_M_term_12 rfl (lv_at hl 0 rfl) ?_
    refine va_get (D := (dC, dI)) (ci := 5) (v := .ref a_mt) (C := "LoanRulesModel") (T := Fz_M) (N := 22) hx hb hts it_M hown hK hP 0 rfl rfl 10 (by decide) (hts _ tw_611) (fun _ h9 => h9) rfl d_M_term_13 ?_
    refine lv_iload_n hx hb d_M_term_16 rfl (lv_at hl 1 rfl) ?_
    have i_4 : vp_in p0 10000 := in_dayM c_3
    refine va_zald (D := (dC, dI)) hx hb hK hP 1 0 rfl rfl i_4 d_M_term_17 ?_
    refine lv_topi (fun x_5 ex_5 => ?_)
    obtain rfl : x_5 = 0 := ex_5
    refine lv_if_eq (tgt := 23) hx hb d_M_term_18 (by decide) (fun c_6 => ?_) (fun c_6 => ?_)
    · refine lv_aload_n hx hb d_M_term_23 rfl (lv_at hl 0 rfl) ?_
      refine va_get (D := (dC, dI)) (ci := 5) (v := .ref a_mt) (C := "LoanRulesModel") (T := Fz_M) (N := 22) hx hb hts it_M hown hK hP 0 rfl rfl 10 (by decide) (hts _ tw_611) (fun _ h9 => h9) rfl d_M_term_24 ?_
      refine lv_iload_n hx hb d_M_term_27 rfl (lv_at hl 1 rfl) ?_
      refine lv_iconst (v := 1) hx hb d_M_term_28 (by decide) ?_
      have i_7 : vp_in p0 10000 := in_dayM c_3
      refine va_zast (D := (dC, dI)) hx hb hK hP hD hS 1 0 rfl rfl i_7 d_M_term_29 (fun H locs hP hD hS => ?_)
      replace hP : va_P (dC, dI) vwCl [(a_m, .inr (5, [.int 0, .ref a_sa, .int 0, .int 0, .int 0, .ref a_mr, .ref a_me, .ref a_le, .int 0, .ref a_mc, .ref a_mt, .ref a_mk, .ref a_my, .ref a_mb, .ref a_mx, .ref a_ml, .int 0, .ref a_mh, .ref a_mf, .int 0, .ref a_mz, .int 0])), (a_mt, .inl (k_mt, 10000, .inl (upd (fun _ => 0) p0.toNatClampNeg (vp_nar .boolean 1))))] H := hP
      replace hD : va_D A [(a_m, .inr (5, [.int 0, .ref a_sa, .int 0, .int 0, .int 0, .ref a_mr, .ref a_me, .ref a_le, .int 0, .ref a_mc, .ref a_mt, .ref a_mk, .ref a_my, .ref a_mb, .ref a_mx, .ref a_ml, .int 0, .ref a_mh, .ref a_mf, .int 0, .ref a_mz, .int 0])), (a_mt, .inl (k_mt, 10000, .inl (upd (fun _ => 0) p0.toNatClampNeg (vp_nar .boolean 1))))] := hD
      refine lv_iconst (v := 1) hx hb d_M_term_30 (by decide) ?_
      exact W.iret (v := 1) hx hb hr (fun t ht hW => ⟨⟨1, (), rfl, hE.symm.trans hz, trivial⟩, hS.F ht⟩) hS.2.2 d_M_term_31
    · exact absurd (by decide) c_6
def g_Mo_row (p0 : Int32) (p1 : Int32) (p2 : Int32) : Int32 :=
  if p0 < 0 then
    0
  else
    if 1 < p0 then
      0
    else
      if (g_Mo_isPerson p1) = 0 then
        0
      else
        if p2 < 0 then
          0
        else
          if p2 ≤ 9 then
            1
          else
            0
set_option maxHeartbeats 4000000 in
set_option maxRecDepth 100000 in
theorem c_Mo_row (l : Launch) (dC : Nat → ClassId) (dI : Nat → Nat → Nat) (adK adV : Nat → Nat) (a_m : Nat) (a_mk : Nat) (a_my : Nat) (k_mk : ClassId) (k_my : ClassId) (p0 : Int32) (p1 : Int32) (p2 : Int32) (a_sa : Nat) (a_mr : Nat) (a_me : Nat) (a_le : Nat) (a_mc : Nat) (a_mt : Nat) (a_mb : Nat) (a_mx : Nat) (a_ml : Nat) (a_mh : Nat) (a_mf : Nat) (a_mz : Nat) (sz : Nat) : Met l y_M_row ws_M_row ({ frames := 1, cells := 0, slots := 0, locals := 20 }) (va_Pc [.ref a_m, .int p0, .int p1, .int p2] (fun U => U.heap.size = sz ∧ zz adK adV (va_A [(a_m, .inr (5, [.int 0, .ref a_sa, .int 0, .int 0, .int 0, .ref a_mr, .ref a_me, .ref a_le, .int 0, .ref a_mc, .ref a_mt, .ref a_mk, .ref a_my, .ref a_mb, .ref a_mx, .ref a_ml, .int 0, .ref a_mh, .ref a_mf, .int 0, .ref a_mz, .int 0])), (a_mk, .inl (k_mk, 50, .inl (fun _ => 0))), (a_my, .inl (k_my, 50, .inl (fun _ => 0)))] sz) U ∧ va_P (dC, dI) vwCl [(a_m, .inr (5, [.int 0, .ref a_sa, .int 0, .int 0, .int 0, .ref a_mr, .ref a_me, .ref a_le, .int 0, .ref a_mc, .ref a_mt, .ref a_mk, .ref a_my, .ref a_mb, .ref a_mx, .ref a_ml, .int 0, .ref a_mh, .ref a_mf, .int 0, .ref a_mz, .int 0])), (a_mk, .inl (k_mk, 50, .inl (fun _ => 0))), (a_my, .inl (k_my, 50, .inl (fun _ => 0)))] U.heap ∧ va_K (dC, dI) vwCl [(k_mk, .int), (k_my, .int)] U ∧ va_D (fun _ => True) [(a_m, .inr (5, [.int 0, .ref a_sa, .int 0, .int 0, .int 0, .ref a_mr, .ref a_me, .ref a_le, .int 0, .ref a_mc, .ref a_mt, .ref a_mk, .ref a_my, .ref a_mb, .ref a_mx, .ref a_ml, .int 0, .ref a_mh, .ref a_mf, .int 0, .ref a_mz, .int 0])), (a_mk, .inl (k_mk, 50, .inl (fun _ => 0))), (a_my, .inl (k_my, 50, .inl (fun _ => 0)))])) (va_Qi (fun (r : Int32) (_ : Unit) => r = g_Mo_row p0 p1 p2) (fun (_ : Unit) (_ : State) => True) (va_A [(a_m, .inr (5, [.int 0, .ref a_sa, .int 0, .int 0, .int 0, .ref a_mr, .ref a_me, .ref a_le, .int 0, .ref a_mc, .ref a_mt, .ref a_mk, .ref a_my, .ref a_mb, .ref a_mx, .ref a_ml, .int 0, .ref a_mh, .ref a_mf, .int 0, .ref a_mz, .int 0])), (a_mk, .inl (k_mk, 50, .inl (fun _ => 0))), (a_my, .inl (k_my, 50, .inl (fun _ => 0)))] sz)) 0 0 (va_A [(a_m, .inr (5, [.int 0, .ref a_sa, .int 0, .int 0, .int 0, .ref a_mr, .ref a_me, .ref a_le, .int 0, .ref a_mc, .ref a_mt, .ref a_mk, .ref a_my, .ref a_mb, .ref a_mx, .ref a_ml, .int 0, .ref a_mh, .ref a_mf, .int 0, .ref a_mz, .int 0])), (a_mk, .inl (k_mk, 50, .inl (fun _ => 0))), (a_my, .inl (k_my, 50, .inl (fun _ => 0)))] sz) := by
  refine Met.ofW (cc := c_M_row) (maxL := 4) (ret := (some .int)) (by decide) rfl ?_
  intro p e s m args below meth c s₁ B hml hv
  obtain ⟨rfl, hsz, hZ, hP, hK, hD0⟩ := hv
  have hx := B.exec
  have hb := B.bytes
  have hr := B.returns
  have hts0 := atoms_spec (ws := ws_M_row) B.pre
  have hts : ∀ w ∈ TT, w.before _ s = true := fun w h => hts0 w (List.mem_cons_of_mem _ h)
  have hown : s.vm.findClass "LoanRulesModel" = some m.cls := findClass_of_methodNamed B.named
  have hlocks := B.notSynchronized
  subst hsz
  have hD := hD0.self (sz := s.heap.size)
  generalize hAe : va_A [(a_m, .inr (5, [.int 0, .ref a_sa, .int 0, .int 0, .int 0, .ref a_mr, .ref a_me, .ref a_le, .int 0, .ref a_mc, .ref a_mt, .ref a_mk, .ref a_my, .ref a_mb, .ref a_mx, .ref a_ml, .int 0, .ref a_mh, .ref a_mf, .int 0, .ref a_mz, .int 0])), (a_mk, .inl (k_mk, 50, .inl (fun _ => 0))), (a_my, .inl (k_my, 50, .inl (fun _ => 0)))] s.heap.size = A at hD hZ ⊢
  have hA : ∀ q : Nat, s.heap.size ≤ q → A q := fun q h => by rw [← hAe]; exact Or.inr h
  clear hAe hD0
  have hS : va_S A s.heap s.heap [] := va_S.rf
  replace hP : va_P (dC, dI) vwCl [(a_m, .inr (5, [.int 0, .ref a_sa, .int 0, .int 0, .int 0, .ref a_mr, .ref a_me, .ref a_le, .int 0, .ref a_mc, .ref a_mt, .ref a_mk, .ref a_my, .ref a_mb, .ref a_mx, .ref a_ml, .int 0, .ref a_mh, .ref a_mf, .int 0, .ref a_mz, .int 0])), (a_mk, .inl (k_mk, 50, .inl (fun _ => 0))), (a_my, .inl (k_my, 50, .inl (fun _ => 0)))] s.heap := hP
  have hl := lv_entry ([.ref a_m, .int p0, .int p1, .int p2]) (n := 4) (Nat.le_of_ble_eq_true rfl)
  rw [lg_entry_eq]
  generalize (lg_sl ([.ref a_m, .int p0, .int p1, .int p2]) ++ List.replicate (4 - (lg_sl ([.ref a_m, .int p0, .int p1, .int p2])).length) Slot.unset).toArray = ls at hl ⊢
  replace hl : lv_has ls 4 [(0, .ref a_m), (1, .int p0), (2, .int p1), (3, .int p2)] := hl
  obtain ⟨z, hz⟩ : ∃ z, z = g_Mo_row p0 p1 p2 := ⟨_, rfl⟩
  have hE := hz
  rw [g_Mo_row] at hE
  refine lv_aload_n hx hb d_M_row_0 rfl (lv_at hl 0 rfl) ?_
  refine lv_iconst (v := 0) hx hb d_M_row_1 (by decide) ?_
  refine va_put (D := (dC, dI)) (ci := 5) (v := .int 0) (ty := .int) (C := "LoanRulesModel") (T := Fz_M) (N := 22) hx hb hts it_M tz_M tz_M_ok nz_M hown hK hP hD hS 0 rfl rfl 0 (by decide) (hts _ tw_601) (fun _ h9 => h9) rfl (by decide +kernel) rfl rfl (Nat.le_of_ble_eq_true rfl) d_M_row_2 (fun H locs hP hD hS => ?_)
  replace hP : va_P (dC, dI) vwCl [(a_m, .inr (5, [.int 0, .ref a_sa, .int 0, .int 0, .int 0, .ref a_mr, .ref a_me, .ref a_le, .int 0, .ref a_mc, .ref a_mt, .ref a_mk, .ref a_my, .ref a_mb, .ref a_mx, .ref a_ml, .int 0, .ref a_mh, .ref a_mf, .int 0, .ref a_mz, .int 0])), (a_mk, .inl (k_mk, 50, .inl (fun _ => 0))), (a_my, .inl (k_my, 50, .inl (fun _ => 0)))] H := hP
  replace hD : va_D A [(a_m, .inr (5, [.int 0, .ref a_sa, .int 0, .int 0, .int 0, .ref a_mr, .ref a_me, .ref a_le, .int 0, .ref a_mc, .ref a_mt, .ref a_mk, .ref a_my, .ref a_mb, .ref a_mx, .ref a_ml, .int 0, .ref a_mh, .ref a_mf, .int 0, .ref a_mz, .int 0])), (a_mk, .inl (k_mk, 50, .inl (fun _ => 0))), (a_my, .inl (k_my, 50, .inl (fun _ => 0)))] := hD
  refine lv_iload_n hx hb d_M_row_5 rfl (lv_at hl 1 rfl) ?_
  refine lv_if_lt (tgt := 31) hx hb d_M_row_6 (by decide) (fun c_1 => ?_) (fun c_1 => ?_)
  · rw [if_pos c_1] at hE
    refine lv_iconst (v := 0) hx hb d_M_row_31 (by decide) ?_
    exact W.iret (v := 0) hx hb hr (fun t ht hW => ⟨⟨0, (), rfl, hE.symm.trans hz, trivial⟩, hS.F ht⟩) hS.2.2 d_M_row_32
  · rw [if_neg c_1] at hE
    refine lv_iload_n hx hb d_M_row_9 rfl (lv_at hl 1 rfl) ?_
    refine lv_iconst (v := 1) hx hb d_M_row_10 (by decide) ?_
    refine lv_icmp_gt (tgt := 31) hx hb d_M_row_11 (by decide) (fun c_2 => ?_) (fun c_2 => ?_)
    · rw [if_pos c_2] at hE
      refine lv_iconst (v := 0) hx hb d_M_row_31 (by decide) ?_
      exact W.iret (v := 0) hx hb hr (fun t ht hW => ⟨⟨0, (), rfl, hE.symm.trans hz, trivial⟩, hS.F ht⟩) hS.2.2 d_M_row_32
    · rw [if_neg c_2] at hE
      refine lv_iload_n hx hb d_M_row_14 rfl (lv_at hl 2 rfl) ?_
      have hPc := hP.sub (ws' := []) [] rfl
      have hKc := hK.sub (tys' := []) [] rfl
      refine vp_callSi (va_Run.run (va_runS (As := [.int p1]) (rest := []) ⟨hx, hb, hml, hown, hts⟩ (c_Mo_isPerson l dC dI adK adV (p0 := p1)) (va_cwS 1 hts (gS tw_751 tw_752 tw_46 tw_753) rfl rfl rfl (by decide +kernel) ⟨(Nat.le_of_ble_eq_true rfl), (Nat.le_of_ble_eq_true rfl)⟩) ⟨fun a U g mk q => by obtain ⟨q0, qZ, qP, qK⟩ := q; exact ⟨q0, zz_call qZ, qP, va_K.moved (u := U) (U := U.calling g mk a) (Vm.Alike.refl U.vm) qK⟩, fun U hU hW => ⟨rfl, zz_ro hS hU hW hZ, by rw [hU]; exact hPc, va_K.moved hW.alike hKc⟩⟩ rfl rfl hl.1 rfl (lv_room (Nat.le_of_ble_eq_true rfl)) d_M_row_15 ⟨(Nat.le_of_ble_eq_true rfl), (Nat.le_of_ble_eq_true rfl)⟩)) (fun r_3 hw_4 => ?_)
      subst hw_4
      refine lv_if_eq (tgt := 31) hx hb d_M_row_18 (by decide) (fun c_5 => ?_) (fun c_5 => ?_)
      · rw [if_pos c_5] at hE
        refine lv_iconst (v := 0) hx hb d_M_row_31 (by decide) ?_
        exact W.iret (v := 0) hx hb hr (fun t ht hW => ⟨⟨0, (), rfl, hE.symm.trans hz, trivial⟩, hS.F ht⟩) hS.2.2 d_M_row_32
      · rw [if_neg c_5] at hE
        refine lv_iload_n hx hb d_M_row_21 rfl (lv_at hl 3 rfl) ?_
        refine lv_if_lt (tgt := 31) hx hb d_M_row_22 (by decide) (fun c_6 => ?_) (fun c_6 => ?_)
        · rw [if_pos c_6] at hE
          refine lv_iconst (v := 0) hx hb d_M_row_31 (by decide) ?_
          exact W.iret (v := 0) hx hb hr (fun t ht hW => ⟨⟨0, (), rfl, hE.symm.trans hz, trivial⟩, hS.F ht⟩) hS.2.2 d_M_row_32
        · rw [if_neg c_6] at hE
          refine lv_iload_n hx hb d_M_row_25 rfl (lv_at hl 3 rfl) ?_
          refine lv_bipush (v := 9) hx hb d_M_row_26 (by decide) ?_
          refine lv_icmp_le (tgt := 33) hx hb d_M_row_28 (by decide) (fun c_7 => ?_) (fun c_7 => ?_)
          · rw [if_pos c_7] at hE
            refine lv_iload_n hx hb d_M_row_33 rfl (lv_at hl 1 rfl) ?_
            refine lv_if_ne (tgt := 47) hx hb d_M_row_34 (by decide) (fun c_8 => ?_) (fun c_8 => ?_)
            · refine lv_aload_n hx hb d_M_row_47 rfl (lv_at hl 0 rfl) ?_
              refine va_get (D := (dC, dI)) (ci := 5) (v := .ref a_my) (C := "LoanRulesModel") (T := Fz_M) (N := 22) hx hb hts it_M hown hK hP 0 rfl rfl 12 (by decide) (hts _ tw_613) (fun _ h9 => h9) rfl d_M_row_48 ?_
              refine lv_iload_n hx hb d_M_row_51 rfl (lv_at hl 2 rfl) ?_
              refine lv_iload_n hx hb d_M_row_52 rfl (lv_at hl 3 rfl) ?_
              have i_9 : vp_in p1 50 := in_personM c_5
              refine va_iast (D := (dC, dI)) hx hb hK hP hD hS 2 1 rfl rfl i_9 d_M_row_53 (fun H locs hP hD hS => ?_)
              replace hP : va_P (dC, dI) vwCl [(a_m, .inr (5, [.int 0, .ref a_sa, .int 0, .int 0, .int 0, .ref a_mr, .ref a_me, .ref a_le, .int 0, .ref a_mc, .ref a_mt, .ref a_mk, .ref a_my, .ref a_mb, .ref a_mx, .ref a_ml, .int 0, .ref a_mh, .ref a_mf, .int 0, .ref a_mz, .int 0])), (a_mk, .inl (k_mk, 50, .inl (fun _ => 0))), (a_my, .inl (k_my, 50, .inl (upd (fun _ => 0) p1.toNatClampNeg p2)))] H := hP
              replace hD : va_D A [(a_m, .inr (5, [.int 0, .ref a_sa, .int 0, .int 0, .int 0, .ref a_mr, .ref a_me, .ref a_le, .int 0, .ref a_mc, .ref a_mt, .ref a_mk, .ref a_my, .ref a_mb, .ref a_mx, .ref a_ml, .int 0, .ref a_mh, .ref a_mf, .int 0, .ref a_mz, .int 0])), (a_mk, .inl (k_mk, 50, .inl (fun _ => 0))), (a_my, .inl (k_my, 50, .inl (upd (fun _ => 0) p1.toNatClampNeg p2)))] := hD
              refine lv_iconst (v := 1) hx hb d_M_row_54 (by decide) ?_
              exact W.iret (v := 1) hx hb hr (fun t ht hW => ⟨⟨1, (), rfl, hE.symm.trans hz, trivial⟩, hS.F ht⟩) hS.2.2 d_M_row_55
            · refine lv_aload_n hx hb d_M_row_37 rfl (lv_at hl 0 rfl) ?_
              refine va_get (D := (dC, dI)) (ci := 5) (v := .ref a_mk) (C := "LoanRulesModel") (T := Fz_M) (N := 22) hx hb hts it_M hown hK hP 0 rfl rfl 11 (by decide) (hts _ tw_612) (fun _ h9 => h9) rfl d_M_row_38 ?_
              refine lv_iload_n hx hb d_M_row_41 rfl (lv_at hl 2 rfl) ?_
              refine lv_iload_n hx hb d_M_row_42 rfl (lv_at hl 3 rfl) ?_
              have i_10 : vp_in p1 50 := in_personM c_5
              refine va_iast (D := (dC, dI)) hx hb hK hP hD hS 1 0 rfl rfl i_10 d_M_row_43 (fun H locs hP hD hS => ?_)
              replace hP : va_P (dC, dI) vwCl [(a_m, .inr (5, [.int 0, .ref a_sa, .int 0, .int 0, .int 0, .ref a_mr, .ref a_me, .ref a_le, .int 0, .ref a_mc, .ref a_mt, .ref a_mk, .ref a_my, .ref a_mb, .ref a_mx, .ref a_ml, .int 0, .ref a_mh, .ref a_mf, .int 0, .ref a_mz, .int 0])), (a_mk, .inl (k_mk, 50, .inl (upd (fun _ => 0) p1.toNatClampNeg p2))), (a_my, .inl (k_my, 50, .inl (fun _ => 0)))] H := hP
              replace hD : va_D A [(a_m, .inr (5, [.int 0, .ref a_sa, .int 0, .int 0, .int 0, .ref a_mr, .ref a_me, .ref a_le, .int 0, .ref a_mc, .ref a_mt, .ref a_mk, .ref a_my, .ref a_mb, .ref a_mx, .ref a_ml, .int 0, .ref a_mh, .ref a_mf, .int 0, .ref a_mz, .int 0])), (a_mk, .inl (k_mk, 50, .inl (upd (fun _ => 0) p1.toNatClampNeg p2))), (a_my, .inl (k_my, 50, .inl (fun _ => 0)))] := hD
              refine lv_goto (tgt := 54) hx hb d_M_row_44 (by decide) ?_
              refine lv_iconst (v := 1) hx hb d_M_row_54 (by decide) ?_
              exact W.iret (v := 1) hx hb hr (fun t ht hW => ⟨⟨1, (), rfl, hE.symm.trans hz, trivial⟩, hS.F ht⟩) hS.2.2 d_M_row_55
          · rw [if_neg c_7] at hE
            refine lv_iconst (v := 0) hx hb d_M_row_31 (by decide) ?_
            exact W.iret (v := 0) hx hb hr (fun t ht hW => ⟨⟨0, (), rfl, hE.symm.trans hz, trivial⟩, hS.F ht⟩) hS.2.2 d_M_row_32
def g_Mo_block (p0 : Int32) (p1 : Int32) : Int32 :=
  if (g_Mo_isPerson p0) = 0 then
    (-1)
  else
    if p1 < 0 then
      (-1)
    else
      if p1 ≤ 9 then
        0
      else
        (-1)
set_option maxHeartbeats 4000000 in
set_option maxRecDepth 100000 in
theorem c_Mo_block (l : Launch) (dC : Nat → ClassId) (dI : Nat → Nat → Nat) (adK adV : Nat → Nat) (a_m : Nat) (a_mb : Nat) (k_mb : ClassId) (p0 : Int32) (p1 : Int32) (a_sa : Nat) (a_mr : Nat) (a_me : Nat) (a_le : Nat) (a_mc : Nat) (a_mt : Nat) (a_mk : Nat) (a_my : Nat) (a_mx : Nat) (a_ml : Nat) (a_mh : Nat) (a_mf : Nat) (a_mz : Nat) (sz : Nat) : Met l y_M_block ws_M_block ({ frames := 1, cells := 0, slots := 0, locals := 20 }) (va_Pc [.ref a_m, .int p0, .int p1] (fun U => U.heap.size = sz ∧ zz adK adV (va_A [(a_m, .inr (5, [.int 0, .ref a_sa, .int 0, .int 0, .int 0, .ref a_mr, .ref a_me, .ref a_le, .int 0, .ref a_mc, .ref a_mt, .ref a_mk, .ref a_my, .ref a_mb, .ref a_mx, .ref a_ml, .int 0, .ref a_mh, .ref a_mf, .int 0, .ref a_mz, .int 0])), (a_mb, .inl (k_mb, 50, .inl (fun _ => 0)))] sz) U ∧ va_P (dC, dI) vwCl [(a_m, .inr (5, [.int 0, .ref a_sa, .int 0, .int 0, .int 0, .ref a_mr, .ref a_me, .ref a_le, .int 0, .ref a_mc, .ref a_mt, .ref a_mk, .ref a_my, .ref a_mb, .ref a_mx, .ref a_ml, .int 0, .ref a_mh, .ref a_mf, .int 0, .ref a_mz, .int 0])), (a_mb, .inl (k_mb, 50, .inl (fun _ => 0)))] U.heap ∧ va_K (dC, dI) vwCl [(k_mb, .int)] U ∧ va_D (fun _ => True) [(a_m, .inr (5, [.int 0, .ref a_sa, .int 0, .int 0, .int 0, .ref a_mr, .ref a_me, .ref a_le, .int 0, .ref a_mc, .ref a_mt, .ref a_mk, .ref a_my, .ref a_mb, .ref a_mx, .ref a_ml, .int 0, .ref a_mh, .ref a_mf, .int 0, .ref a_mz, .int 0])), (a_mb, .inl (k_mb, 50, .inl (fun _ => 0)))])) (va_Qi (fun (r : Int32) (_ : Unit) => r = g_Mo_block p0 p1) (fun (_ : Unit) (_ : State) => True) (va_A [(a_m, .inr (5, [.int 0, .ref a_sa, .int 0, .int 0, .int 0, .ref a_mr, .ref a_me, .ref a_le, .int 0, .ref a_mc, .ref a_mt, .ref a_mk, .ref a_my, .ref a_mb, .ref a_mx, .ref a_ml, .int 0, .ref a_mh, .ref a_mf, .int 0, .ref a_mz, .int 0])), (a_mb, .inl (k_mb, 50, .inl (fun _ => 0)))] sz)) 0 0 (va_A [(a_m, .inr (5, [.int 0, .ref a_sa, .int 0, .int 0, .int 0, .ref a_mr, .ref a_me, .ref a_le, .int 0, .ref a_mc, .ref a_mt, .ref a_mk, .ref a_my, .ref a_mb, .ref a_mx, .ref a_ml, .int 0, .ref a_mh, .ref a_mf, .int 0, .ref a_mz, .int 0])), (a_mb, .inl (k_mb, 50, .inl (fun _ => 0)))] sz) := by
  refine Met.ofW (cc := c_M_block) (maxL := 4) (ret := (some .int)) (by decide) rfl ?_
  intro p e s m args below meth c s₁ B hml hv
  obtain ⟨rfl, hsz, hZ, hP, hK, hD0⟩ := hv
  have hx := B.exec
  have hb := B.bytes
  have hr := B.returns
  have hts0 := atoms_spec (ws := ws_M_block) B.pre
  have hts : ∀ w ∈ TT, w.before _ s = true := fun w h => hts0 w (List.mem_cons_of_mem _ h)
  have hown : s.vm.findClass "LoanRulesModel" = some m.cls := findClass_of_methodNamed B.named
  have hlocks := B.notSynchronized
  subst hsz
  have hD := hD0.self (sz := s.heap.size)
  generalize hAe : va_A [(a_m, .inr (5, [.int 0, .ref a_sa, .int 0, .int 0, .int 0, .ref a_mr, .ref a_me, .ref a_le, .int 0, .ref a_mc, .ref a_mt, .ref a_mk, .ref a_my, .ref a_mb, .ref a_mx, .ref a_ml, .int 0, .ref a_mh, .ref a_mf, .int 0, .ref a_mz, .int 0])), (a_mb, .inl (k_mb, 50, .inl (fun _ => 0)))] s.heap.size = A at hD hZ ⊢
  have hA : ∀ q : Nat, s.heap.size ≤ q → A q := fun q h => by rw [← hAe]; exact Or.inr h
  clear hAe hD0
  have hS : va_S A s.heap s.heap [] := va_S.rf
  replace hP : va_P (dC, dI) vwCl [(a_m, .inr (5, [.int 0, .ref a_sa, .int 0, .int 0, .int 0, .ref a_mr, .ref a_me, .ref a_le, .int 0, .ref a_mc, .ref a_mt, .ref a_mk, .ref a_my, .ref a_mb, .ref a_mx, .ref a_ml, .int 0, .ref a_mh, .ref a_mf, .int 0, .ref a_mz, .int 0])), (a_mb, .inl (k_mb, 50, .inl (fun _ => 0)))] s.heap := hP
  have hl := lv_entry ([.ref a_m, .int p0, .int p1]) (n := 4) (Nat.le_of_ble_eq_true rfl)
  rw [lg_entry_eq]
  generalize (lg_sl ([.ref a_m, .int p0, .int p1]) ++ List.replicate (4 - (lg_sl ([.ref a_m, .int p0, .int p1])).length) Slot.unset).toArray = ls at hl ⊢
  replace hl : lv_has ls 4 [(0, .ref a_m), (1, .int p0), (2, .int p1)] := hl
  obtain ⟨z, hz⟩ : ∃ z, z = g_Mo_block p0 p1 := ⟨_, rfl⟩
  have hE := hz
  rw [g_Mo_block] at hE
  refine lv_aload_n hx hb d_M_block_0 rfl (lv_at hl 0 rfl) ?_
  refine lv_iconst (v := 0) hx hb d_M_block_1 (by decide) ?_
  refine va_put (D := (dC, dI)) (ci := 5) (v := .int 0) (ty := .int) (C := "LoanRulesModel") (T := Fz_M) (N := 22) hx hb hts it_M tz_M tz_M_ok nz_M hown hK hP hD hS 0 rfl rfl 0 (by decide) (hts _ tw_601) (fun _ h9 => h9) rfl (by decide +kernel) rfl rfl (Nat.le_of_ble_eq_true rfl) d_M_block_2 (fun H locs hP hD hS => ?_)
  replace hP : va_P (dC, dI) vwCl [(a_m, .inr (5, [.int 0, .ref a_sa, .int 0, .int 0, .int 0, .ref a_mr, .ref a_me, .ref a_le, .int 0, .ref a_mc, .ref a_mt, .ref a_mk, .ref a_my, .ref a_mb, .ref a_mx, .ref a_ml, .int 0, .ref a_mh, .ref a_mf, .int 0, .ref a_mz, .int 0])), (a_mb, .inl (k_mb, 50, .inl (fun _ => 0)))] H := hP
  replace hD : va_D A [(a_m, .inr (5, [.int 0, .ref a_sa, .int 0, .int 0, .int 0, .ref a_mr, .ref a_me, .ref a_le, .int 0, .ref a_mc, .ref a_mt, .ref a_mk, .ref a_my, .ref a_mb, .ref a_mx, .ref a_ml, .int 0, .ref a_mh, .ref a_mf, .int 0, .ref a_mz, .int 0])), (a_mb, .inl (k_mb, 50, .inl (fun _ => 0)))] := hD
  refine lv_iload_n hx hb d_M_block_5 rfl (lv_at hl 1 rfl) ?_
  have hPc := hP.sub (ws' := []) [] rfl
  have hKc := hK.sub (tys' := []) [] rfl
  refine vp_callSi (va_Run.run (va_runS (As := [.int p0]) (rest := []) ⟨hx, hb, hml, hown, hts⟩ (c_Mo_isPerson l dC dI adK adV (p0 := p0)) (va_cwS 1 hts (gS tw_751 tw_752 tw_46 tw_753) rfl rfl rfl (by decide +kernel) ⟨(Nat.le_of_ble_eq_true rfl), (Nat.le_of_ble_eq_true rfl)⟩) ⟨fun a U g mk q => by obtain ⟨q0, qZ, qP, qK⟩ := q; exact ⟨q0, zz_call qZ, qP, va_K.moved (u := U) (U := U.calling g mk a) (Vm.Alike.refl U.vm) qK⟩, fun U hU hW => ⟨rfl, zz_ro hS hU hW hZ, by rw [hU]; exact hPc, va_K.moved hW.alike hKc⟩⟩ rfl rfl hl.1 rfl (lv_room (Nat.le_of_ble_eq_true rfl)) d_M_block_6 ⟨(Nat.le_of_ble_eq_true rfl), (Nat.le_of_ble_eq_true rfl)⟩)) (fun r_1 hw_2 => ?_)
  subst hw_2
  refine lv_if_eq (tgt := 22) hx hb d_M_block_9 (by decide) (fun c_3 => ?_) (fun c_3 => ?_)
  · rw [if_pos c_3] at hE
    refine lv_iconst (v := (-1)) hx hb d_M_block_22 (by decide) ?_
    exact W.iret (v := (-1)) hx hb hr (fun t ht hW => ⟨⟨(-1), (), rfl, hE.symm.trans hz, trivial⟩, hS.F ht⟩) hS.2.2 d_M_block_23
  · rw [if_neg c_3] at hE
    refine lv_iload_n hx hb d_M_block_12 rfl (lv_at hl 2 rfl) ?_
    refine lv_if_lt (tgt := 22) hx hb d_M_block_13 (by decide) (fun c_4 => ?_) (fun c_4 => ?_)
    · rw [if_pos c_4] at hE
      refine lv_iconst (v := (-1)) hx hb d_M_block_22 (by decide) ?_
      exact W.iret (v := (-1)) hx hb hr (fun t ht hW => ⟨⟨(-1), (), rfl, hE.symm.trans hz, trivial⟩, hS.F ht⟩) hS.2.2 d_M_block_23
    · rw [if_neg c_4] at hE
      refine lv_iload_n hx hb d_M_block_16 rfl (lv_at hl 2 rfl) ?_
      refine lv_bipush (v := 9) hx hb d_M_block_17 (by decide) ?_
      refine lv_icmp_le (tgt := 24) hx hb d_M_block_19 (by decide) (fun c_5 => ?_) (fun c_5 => ?_)
      · rw [if_pos c_5] at hE
        refine lv_aload_n hx hb d_M_block_24 rfl (lv_at hl 0 rfl) ?_
        refine va_get (D := (dC, dI)) (ci := 5) (v := .ref a_mb) (C := "LoanRulesModel") (T := Fz_M) (N := 22) hx hb hts it_M hown hK hP 0 rfl rfl 13 (by decide) (hts _ tw_614) (fun _ h9 => h9) rfl d_M_block_25 ?_
        refine lv_iload_n hx hb d_M_block_28 rfl (lv_at hl 1 rfl) ?_
        have i_6 : vp_in p0 50 := in_personM c_3
        refine va_iald (D := (dC, dI)) hx hb hK hP 1 0 rfl rfl i_6 d_M_block_29 ?_
        refine lv_topi (fun x_7 ex_7 => ?_)
        obtain rfl : x_7 = 0 := ex_7
        refine lv_istore_n (lv' := [(3, .int 0), (0, .ref a_m), (1, .int p0), (2, .int p1)]) hx hb d_M_block_30 rfl hl (by decide) rfl (fun ls hl => ?_)
        refine lv_aload_n hx hb d_M_block_31 rfl (lv_at hl 1 rfl) ?_
        refine va_get (D := (dC, dI)) (ci := 5) (v := .ref a_mb) (C := "LoanRulesModel") (T := Fz_M) (N := 22) hx hb hts it_M hown hK hP 0 rfl rfl 13 (by decide) (hts _ tw_614) (fun _ h9 => h9) rfl d_M_block_32 ?_
        refine lv_iload_n hx hb d_M_block_35 rfl (lv_at hl 2 rfl) ?_
        refine lv_iload_n hx hb d_M_block_36 rfl (lv_at hl 3 rfl) ?_
        have i_8 : vp_in p0 50 := in_personM c_3
        refine va_iast (D := (dC, dI)) hx hb hK hP hD hS 1 0 rfl rfl i_8 d_M_block_37 (fun H locs hP hD hS => ?_)
        replace hP : va_P (dC, dI) vwCl [(a_m, .inr (5, [.int 0, .ref a_sa, .int 0, .int 0, .int 0, .ref a_mr, .ref a_me, .ref a_le, .int 0, .ref a_mc, .ref a_mt, .ref a_mk, .ref a_my, .ref a_mb, .ref a_mx, .ref a_ml, .int 0, .ref a_mh, .ref a_mf, .int 0, .ref a_mz, .int 0])), (a_mb, .inl (k_mb, 50, .inl (upd (fun _ => 0) p0.toNatClampNeg p1)))] H := hP
        replace hD : va_D A [(a_m, .inr (5, [.int 0, .ref a_sa, .int 0, .int 0, .int 0, .ref a_mr, .ref a_me, .ref a_le, .int 0, .ref a_mc, .ref a_mt, .ref a_mk, .ref a_my, .ref a_mb, .ref a_mx, .ref a_ml, .int 0, .ref a_mh, .ref a_mf, .int 0, .ref a_mz, .int 0])), (a_mb, .inl (k_mb, 50, .inl (upd (fun _ => 0) p0.toNatClampNeg p1)))] := hD
        refine lv_iload_n hx hb d_M_block_38 rfl (lv_at hl 0 rfl) ?_
        exact W.iret (v := 0) hx hb hr (fun t ht hW => ⟨⟨0, (), rfl, hE.symm.trans hz, trivial⟩, hS.F ht⟩) hS.2.2 d_M_block_39
      · rw [if_neg c_5] at hE
        refine lv_iconst (v := (-1)) hx hb d_M_block_22 (by decide) ?_
        exact W.iret (v := (-1)) hx hb hr (fun t ht hW => ⟨⟨(-1), (), rfl, hE.symm.trans hz, trivial⟩, hS.F ht⟩) hS.2.2 d_M_block_23
set_option maxHeartbeats 4000000 in
set_option maxRecDepth 100000 in
theorem c_Mo_isRule (l : Launch) (dC : Nat → ClassId) (dI : Nat → Nat → Nat) (adK adV : Nat → Nat) (a_m : Nat) (p0 : Int32) (a_sa : Nat) (a_mr : Nat) (a_me : Nat) (a_le : Nat) (a_mc : Nat) (a_mt : Nat) (a_mk : Nat) (a_my : Nat) (a_mb : Nat) (a_mx : Nat) (a_ml : Nat) (a_mh : Nat) (a_mf : Nat) (a_mz : Nat) : Met l y_M_isRule ws_M_isRule ({ frames := 0, cells := 0, slots := 0, locals := 0 }) (va_Pc [.ref a_m, .int p0] (fun U => zz adK adV (fun _ => False) U ∧ va_P (dC, dI) vwCl [(a_m, .inr (5, [.int 0, .ref a_sa, .int 0, .int 0, .int 0, .ref a_mr, .ref a_me, .ref a_le, .int 0, .ref a_mc, .ref a_mt, .ref a_mk, .ref a_my, .ref a_mb, .ref a_mx, .ref a_ml, .int 0, .ref a_mh, .ref a_mf, .int 0, .ref a_mz, .int 0]))] U.heap ∧ va_K (dC, dI) vwCl [] U)) (vp_Si (fun r => r = 0)) 0 0 (fun _ => False) := by
  refine Met.ofW (cc := c_M_isRule) (maxL := 2) (ret := (some .boolean)) (by decide) rfl ?_
  intro p e s m args below meth c s₁ B hml hv
  obtain ⟨rfl, hZ, hP, hK⟩ := hv
  have hx := B.exec
  have hb := B.bytes
  have hr := B.returns
  have hts0 := atoms_spec (ws := ws_M_isRule) B.pre
  have hts : ∀ w ∈ TT, w.before _ s = true := fun w h => hts0 w (List.mem_cons_of_mem _ h)
  have hown : s.vm.findClass "LoanRulesModel" = some m.cls := findClass_of_methodNamed B.named
  have hlocks := B.notSynchronized
  have hS : va_S (fun _ => False) s.heap s.heap [] := va_S.rf
  replace hP : va_P (dC, dI) vwCl [(a_m, .inr (5, [.int 0, .ref a_sa, .int 0, .int 0, .int 0, .ref a_mr, .ref a_me, .ref a_le, .int 0, .ref a_mc, .ref a_mt, .ref a_mk, .ref a_my, .ref a_mb, .ref a_mx, .ref a_ml, .int 0, .ref a_mh, .ref a_mf, .int 0, .ref a_mz, .int 0]))] s.heap := hP
  have hl := lv_entry ([.ref a_m, .int p0]) (n := 2) (Nat.le_of_ble_eq_true rfl)
  rw [lg_entry_eq]
  generalize (lg_sl ([.ref a_m, .int p0]) ++ List.replicate (2 - (lg_sl ([.ref a_m, .int p0])).length) Slot.unset).toArray = ls at hl ⊢
  replace hl : lv_has ls 2 [(0, .ref a_m), (1, .int p0)] := hl
  refine lv_iload_n hx hb d_M_isRule_0 rfl (lv_at hl 1 rfl) ?_
  refine lv_if_lt (tgt := 16) hx hb d_M_isRule_1 (by decide) (fun c_1 => ?_) (fun c_1 => ?_)
  · refine lv_iconst (v := 0) hx hb d_M_isRule_16 (by decide) ?_
    exact W.zret (v := 0) hx hb hr rfl (fun t ht hW => ⟨0, rfl, rfl, ht⟩) (fun _ h => by cases h) d_M_isRule_17
  · refine lv_iload_n hx hb d_M_isRule_4 rfl (lv_at hl 1 rfl) ?_
    refine lv_aload_n hx hb d_M_isRule_5 rfl (lv_at hl 0 rfl) ?_
    refine va_get (D := (dC, dI)) (ci := 5) (v := .int 0) (C := "LoanRulesModel") (T := Fz_M) (N := 22) hx hb hts it_M hown hK hP 0 rfl rfl 8 (by decide) (hts _ tw_609) (fun _ h9 => h9) rfl d_M_isRule_6 ?_
    refine lv_icmp_ge (tgt := 16) hx hb d_M_isRule_9 (by decide) (fun c_2 => ?_) (fun c_2 => ?_)
    · refine lv_iconst (v := 0) hx hb d_M_isRule_16 (by decide) ?_
      exact W.zret (v := 0) hx hb hr rfl (fun t ht hW => ⟨0, rfl, rfl, ht⟩) (fun _ h => by cases h) d_M_isRule_17
    · exact absurd (lk_no c_1) c_2
set_option maxHeartbeats 4000000 in
set_option maxRecDepth 100000 in
theorem c_Mo_except (l : Launch) (dC : Nat → ClassId) (dI : Nat → Nat → Nat) (adK adV : Nat → Nat) (a_m : Nat) (p0 : Int32) (p1 : Int32) (p2 : Int32) (a_sa : Nat) (a_mr : Nat) (a_me : Nat) (a_le : Nat) (a_mc : Nat) (a_mt : Nat) (a_mk : Nat) (a_my : Nat) (a_mb : Nat) (a_mx : Nat) (a_ml : Nat) (a_mh : Nat) (a_mf : Nat) (a_mz : Nat) (sz : Nat) : Met l y_M_except ws_M_except ({ frames := 1, cells := 0, slots := 0, locals := 21 }) (va_Pc [.ref a_m, .int p0, .int p1, .int p2] (fun U => U.heap.size = sz ∧ zz adK adV (va_A [(a_m, .inr (5, [.int 0, .ref a_sa, .int 0, .int 0, .int 0, .ref a_mr, .ref a_me, .ref a_le, .int 0, .ref a_mc, .ref a_mt, .ref a_mk, .ref a_my, .ref a_mb, .ref a_mx, .ref a_ml, .int 0, .ref a_mh, .ref a_mf, .int 0, .ref a_mz, .int 0]))] sz) U ∧ va_P (dC, dI) vwCl [(a_m, .inr (5, [.int 0, .ref a_sa, .int 0, .int 0, .int 0, .ref a_mr, .ref a_me, .ref a_le, .int 0, .ref a_mc, .ref a_mt, .ref a_mk, .ref a_my, .ref a_mb, .ref a_mx, .ref a_ml, .int 0, .ref a_mh, .ref a_mf, .int 0, .ref a_mz, .int 0]))] U.heap ∧ va_K (dC, dI) vwCl [] U ∧ va_D (fun _ => True) [(a_m, .inr (5, [.int 0, .ref a_sa, .int 0, .int 0, .int 0, .ref a_mr, .ref a_me, .ref a_le, .int 0, .ref a_mc, .ref a_mt, .ref a_mk, .ref a_my, .ref a_mb, .ref a_mx, .ref a_ml, .int 0, .ref a_mh, .ref a_mf, .int 0, .ref a_mz, .int 0]))])) (va_Qi (fun (r : Int32) (_ : Unit) => r = 0) (fun (_ : Unit) (_ : State) => True) (va_A [(a_m, .inr (5, [.int 0, .ref a_sa, .int 0, .int 0, .int 0, .ref a_mr, .ref a_me, .ref a_le, .int 0, .ref a_mc, .ref a_mt, .ref a_mk, .ref a_my, .ref a_mb, .ref a_mx, .ref a_ml, .int 0, .ref a_mh, .ref a_mf, .int 0, .ref a_mz, .int 0]))] sz)) 0 0 (va_A [(a_m, .inr (5, [.int 0, .ref a_sa, .int 0, .int 0, .int 0, .ref a_mr, .ref a_me, .ref a_le, .int 0, .ref a_mc, .ref a_mt, .ref a_mk, .ref a_my, .ref a_mb, .ref a_mx, .ref a_ml, .int 0, .ref a_mh, .ref a_mf, .int 0, .ref a_mz, .int 0]))] sz) := by
  refine Met.ofW (cc := c_M_except) (maxL := 4) (ret := (some .int)) (by decide) rfl ?_
  intro p e s m args below meth c s₁ B hml hv
  obtain ⟨rfl, hsz, hZ, hP, hK, hD0⟩ := hv
  have hx := B.exec
  have hb := B.bytes
  have hr := B.returns
  have hts0 := atoms_spec (ws := ws_M_except) B.pre
  have hts : ∀ w ∈ TT, w.before _ s = true := fun w h => hts0 w (List.mem_cons_of_mem _ h)
  have hown : s.vm.findClass "LoanRulesModel" = some m.cls := findClass_of_methodNamed B.named
  have hlocks := B.notSynchronized
  subst hsz
  have hD := hD0.self (sz := s.heap.size)
  generalize hAe : va_A [(a_m, .inr (5, [.int 0, .ref a_sa, .int 0, .int 0, .int 0, .ref a_mr, .ref a_me, .ref a_le, .int 0, .ref a_mc, .ref a_mt, .ref a_mk, .ref a_my, .ref a_mb, .ref a_mx, .ref a_ml, .int 0, .ref a_mh, .ref a_mf, .int 0, .ref a_mz, .int 0]))] s.heap.size = A at hD hZ ⊢
  have hA : ∀ q : Nat, s.heap.size ≤ q → A q := fun q h => by rw [← hAe]; exact Or.inr h
  clear hAe hD0
  have hS : va_S A s.heap s.heap [] := va_S.rf
  replace hP : va_P (dC, dI) vwCl [(a_m, .inr (5, [.int 0, .ref a_sa, .int 0, .int 0, .int 0, .ref a_mr, .ref a_me, .ref a_le, .int 0, .ref a_mc, .ref a_mt, .ref a_mk, .ref a_my, .ref a_mb, .ref a_mx, .ref a_ml, .int 0, .ref a_mh, .ref a_mf, .int 0, .ref a_mz, .int 0]))] s.heap := hP
  have hl := lv_entry ([.ref a_m, .int p0, .int p1, .int p2]) (n := 4) (Nat.le_of_ble_eq_true rfl)
  rw [lg_entry_eq]
  generalize (lg_sl ([.ref a_m, .int p0, .int p1, .int p2]) ++ List.replicate (4 - (lg_sl ([.ref a_m, .int p0, .int p1, .int p2])).length) Slot.unset).toArray = ls at hl ⊢
  replace hl : lv_has ls 4 [(0, .ref a_m), (1, .int p0), (2, .int p1), (3, .int p2)] := hl
  refine lv_aload_n hx hb d_M_except_0 rfl (lv_at hl 0 rfl) ?_
  refine lv_iconst (v := 0) hx hb d_M_except_1 (by decide) ?_
  refine va_put (D := (dC, dI)) (ci := 5) (v := .int 0) (ty := .int) (C := "LoanRulesModel") (T := Fz_M) (N := 22) hx hb hts it_M tz_M tz_M_ok nz_M hown hK hP hD hS 0 rfl rfl 0 (by decide) (hts _ tw_601) (fun _ h9 => h9) rfl (by decide +kernel) rfl rfl (Nat.le_of_ble_eq_true rfl) d_M_except_2 (fun H locs hP hD hS => ?_)
  replace hP : va_P (dC, dI) vwCl [(a_m, .inr (5, [.int 0, .ref a_sa, .int 0, .int 0, .int 0, .ref a_mr, .ref a_me, .ref a_le, .int 0, .ref a_mc, .ref a_mt, .ref a_mk, .ref a_my, .ref a_mb, .ref a_mx, .ref a_ml, .int 0, .ref a_mh, .ref a_mf, .int 0, .ref a_mz, .int 0]))] H := hP
  replace hD : va_D A [(a_m, .inr (5, [.int 0, .ref a_sa, .int 0, .int 0, .int 0, .ref a_mr, .ref a_me, .ref a_le, .int 0, .ref a_mc, .ref a_mt, .ref a_mk, .ref a_my, .ref a_mb, .ref a_mx, .ref a_ml, .int 0, .ref a_mh, .ref a_mf, .int 0, .ref a_mz, .int 0]))] := hD
  refine lv_iload_n hx hb d_M_except_5 rfl (lv_at hl 1 rfl) ?_
  have hPc := hP.sub (ws' := []) [] rfl
  have hKc := hK.sub (tys' := []) [] rfl
  refine vp_callSi (va_Run.run (va_runS (As := [.int p0]) (rest := []) ⟨hx, hb, hml, hown, hts⟩ (c_Mo_isPerson l dC dI adK adV (p0 := p0)) (va_cwS 1 hts (gS tw_751 tw_752 tw_46 tw_753) rfl rfl rfl (by decide +kernel) ⟨(Nat.le_of_ble_eq_true rfl), (Nat.le_of_ble_eq_true rfl)⟩) ⟨fun a U g mk q => by obtain ⟨q0, qZ, qP, qK⟩ := q; exact ⟨q0, zz_call qZ, qP, va_K.moved (u := U) (U := U.calling g mk a) (Vm.Alike.refl U.vm) qK⟩, fun U hU hW => ⟨rfl, zz_ro hS hU hW hZ, by rw [hU]; exact hPc, va_K.moved hW.alike hKc⟩⟩ rfl rfl hl.1 rfl (lv_room (Nat.le_of_ble_eq_true rfl)) d_M_except_6 ⟨(Nat.le_of_ble_eq_true rfl), (Nat.le_of_ble_eq_true rfl)⟩)) (fun r_1 hw_2 => ?_)
  subst hw_2
  refine lv_if_eq (tgt := 20) hx hb d_M_except_9 (by decide) (fun c_3 => ?_) (fun c_3 => ?_)
  · refine lv_iconst (v := 0) hx hb d_M_except_20 (by decide) ?_
    exact W.iret (v := 0) hx hb hr (fun t ht hW => ⟨⟨0, (), rfl, rfl, trivial⟩, hS.F ht⟩) hS.2.2 d_M_except_21
  · refine lv_aload_n hx hb d_M_except_12 rfl (lv_at hl 0 rfl) ?_
    refine lv_iload_n hx hb d_M_except_13 rfl (lv_at hl 2 rfl) ?_
    have hPc := hP.sub (ws' := [(a_m, .inr (5, [.int 0, .ref a_sa, .int 0, .int 0, .int 0, .ref a_mr, .ref a_me, .ref a_le, .int 0, .ref a_mc, .ref a_mt, .ref a_mk, .ref a_my, .ref a_mb, .ref a_mx, .ref a_ml, .int 0, .ref a_mh, .ref a_mf, .int 0, .ref a_mz, .int 0]))]) [0] rfl
    have hKc := hK.sub (tys' := []) [] rfl
    refine vp_callSi (va_Run.run (va_runV (As := [.int p1]) (rest := []) ⟨hx, hb, hml, hown, hts⟩ (c_Mo_isRule l dC dI adK adV (a_m := a_m) (p0 := p1) (a_sa := a_sa) (a_mr := a_mr) (a_me := a_me) (a_le := a_le) (a_mc := a_mc) (a_mt := a_mt) (a_mk := a_mk) (a_my := a_my) (a_mb := a_mb) (a_mx := a_mx) (a_ml := a_ml) (a_mh := a_mh) (a_mf := a_mf) (a_mz := a_mz)) (cwV 1 hts (gV tw_762 tw_764 tw_34 tw_46 tw_765) rfl rfl rfl (by decide +kernel) ⟨(Nat.le_of_ble_eq_true rfl), (Nat.le_of_ble_eq_true rfl)⟩) ⟨fun a U g mk q => by obtain ⟨q0, qZ, qP, qK⟩ := q; exact ⟨q0, zz_call qZ, qP, va_K.moved (u := U) (U := U.calling g mk a) (Vm.Alike.refl U.vm) qK⟩, va_recv hKc hPc (ci := 5) (q0 := 0) rfl rfl, fun U hU hW => ⟨rfl, zz_ro hS hU hW hZ, by rw [hU]; exact hPc, va_K.moved hW.alike hKc⟩⟩ rfl rfl hl.1 rfl (lv_room (Nat.le_of_ble_eq_true rfl)) d_M_except_14 ⟨(Nat.le_of_ble_eq_true rfl), (Nat.le_of_ble_eq_true rfl)⟩)) (fun r_4 hw_5 => ?_)
    obtain rfl : r_4 = 0 := hw_5
    refine lv_if_ne (tgt := 22) hx hb d_M_except_17 (by decide) (fun c_6 => ?_) (fun c_6 => ?_)
    · exact absurd (by decide) c_6
    · refine lv_iconst (v := 0) hx hb d_M_except_20 (by decide) ?_
      exact W.iret (v := 0) hx hb hr (fun t ht hW => ⟨⟨0, (), rfl, rfl, trivial⟩, hS.F ht⟩) hS.2.2 d_M_except_21
set_option maxHeartbeats 4000000 in
set_option maxRecDepth 100000 in
theorem c_Mo_throwsUp (l : Launch) (dC : Nat → ClassId) (dI : Nat → Nat → Nat) (adK adV : Nat → Nat) (a_m : Nat) (p0 : Int32) (p1 : Int32) (a_sa : Nat) (a_mr : Nat) (a_me : Nat) (a_le : Nat) (a_mc : Nat) (a_mt : Nat) (a_mk : Nat) (a_my : Nat) (a_mb : Nat) (a_mx : Nat) (a_ml : Nat) (a_mh : Nat) (a_mf : Nat) (a_mz : Nat) (sz : Nat) : Met l y_M_throwsUp ws_M_throwsUp ({ frames := 1, cells := 0, slots := 0, locals := 21 }) (va_Pc [.ref a_m, .int p0, .int p1] (fun U => U.heap.size = sz ∧ zz adK adV (va_A [(a_m, .inr (5, [.int 0, .ref a_sa, .int 0, .int 0, .int 0, .ref a_mr, .ref a_me, .ref a_le, .int 0, .ref a_mc, .ref a_mt, .ref a_mk, .ref a_my, .ref a_mb, .ref a_mx, .ref a_ml, .int 0, .ref a_mh, .ref a_mf, .int 0, .ref a_mz, .int 0]))] sz) U ∧ va_P (dC, dI) vwCl [(a_m, .inr (5, [.int 0, .ref a_sa, .int 0, .int 0, .int 0, .ref a_mr, .ref a_me, .ref a_le, .int 0, .ref a_mc, .ref a_mt, .ref a_mk, .ref a_my, .ref a_mb, .ref a_mx, .ref a_ml, .int 0, .ref a_mh, .ref a_mf, .int 0, .ref a_mz, .int 0]))] U.heap ∧ va_K (dC, dI) vwCl [] U ∧ va_D (fun _ => True) [(a_m, .inr (5, [.int 0, .ref a_sa, .int 0, .int 0, .int 0, .ref a_mr, .ref a_me, .ref a_le, .int 0, .ref a_mc, .ref a_mt, .ref a_mk, .ref a_my, .ref a_mb, .ref a_mx, .ref a_ml, .int 0, .ref a_mh, .ref a_mf, .int 0, .ref a_mz, .int 0]))])) (va_Qi (fun (r : Int32) (_ : Unit) => r = 0) (fun (_ : Unit) (_ : State) => True) (va_A [(a_m, .inr (5, [.int 0, .ref a_sa, .int 0, .int 0, .int 0, .ref a_mr, .ref a_me, .ref a_le, .int 0, .ref a_mc, .ref a_mt, .ref a_mk, .ref a_my, .ref a_mb, .ref a_mx, .ref a_ml, .int 0, .ref a_mh, .ref a_mf, .int 0, .ref a_mz, .int 0]))] sz)) 0 0 (va_A [(a_m, .inr (5, [.int 0, .ref a_sa, .int 0, .int 0, .int 0, .ref a_mr, .ref a_me, .ref a_le, .int 0, .ref a_mc, .ref a_mt, .ref a_mk, .ref a_my, .ref a_mb, .ref a_mx, .ref a_ml, .int 0, .ref a_mh, .ref a_mf, .int 0, .ref a_mz, .int 0]))] sz) := by
  refine Met.ofW (cc := c_M_throwsUp) (maxL := 4) (ret := (some .boolean)) (by decide) rfl ?_
  intro p e s m args below meth c s₁ B hml hv
  obtain ⟨rfl, hsz, hZ, hP, hK, hD0⟩ := hv
  have hx := B.exec
  have hb := B.bytes
  have hr := B.returns
  have hts0 := atoms_spec (ws := ws_M_throwsUp) B.pre
  have hts : ∀ w ∈ TT, w.before _ s = true := fun w h => hts0 w (List.mem_cons_of_mem _ h)
  have hown : s.vm.findClass "LoanRulesModel" = some m.cls := findClass_of_methodNamed B.named
  have hlocks := B.notSynchronized
  subst hsz
  have hD := hD0.self (sz := s.heap.size)
  generalize hAe : va_A [(a_m, .inr (5, [.int 0, .ref a_sa, .int 0, .int 0, .int 0, .ref a_mr, .ref a_me, .ref a_le, .int 0, .ref a_mc, .ref a_mt, .ref a_mk, .ref a_my, .ref a_mb, .ref a_mx, .ref a_ml, .int 0, .ref a_mh, .ref a_mf, .int 0, .ref a_mz, .int 0]))] s.heap.size = A at hD hZ ⊢
  have hA : ∀ q : Nat, s.heap.size ≤ q → A q := fun q h => by rw [← hAe]; exact Or.inr h
  clear hAe hD0
  have hS : va_S A s.heap s.heap [] := va_S.rf
  replace hP : va_P (dC, dI) vwCl [(a_m, .inr (5, [.int 0, .ref a_sa, .int 0, .int 0, .int 0, .ref a_mr, .ref a_me, .ref a_le, .int 0, .ref a_mc, .ref a_mt, .ref a_mk, .ref a_my, .ref a_mb, .ref a_mx, .ref a_ml, .int 0, .ref a_mh, .ref a_mf, .int 0, .ref a_mz, .int 0]))] s.heap := hP
  have hl := lv_entry ([.ref a_m, .int p0, .int p1]) (n := 4) (Nat.le_of_ble_eq_true rfl)
  rw [lg_entry_eq]
  generalize (lg_sl ([.ref a_m, .int p0, .int p1]) ++ List.replicate (4 - (lg_sl ([.ref a_m, .int p0, .int p1])).length) Slot.unset).toArray = ls at hl ⊢
  replace hl : lv_has ls 4 [(0, .ref a_m), (1, .int p0), (2, .int p1)] := hl
  refine lv_aload_n hx hb d_M_throwsUp_0 rfl (lv_at hl 0 rfl) ?_
  refine lv_iconst (v := 0) hx hb d_M_throwsUp_1 (by decide) ?_
  refine va_put (D := (dC, dI)) (ci := 5) (v := .int 0) (ty := .int) (C := "LoanRulesModel") (T := Fz_M) (N := 22) hx hb hts it_M tz_M tz_M_ok nz_M hown hK hP hD hS 0 rfl rfl 0 (by decide) (hts _ tw_601) (fun _ h9 => h9) rfl (by decide +kernel) rfl rfl (Nat.le_of_ble_eq_true rfl) d_M_throwsUp_2 (fun H locs hP hD hS => ?_)
  replace hP : va_P (dC, dI) vwCl [(a_m, .inr (5, [.int 0, .ref a_sa, .int 0, .int 0, .int 0, .ref a_mr, .ref a_me, .ref a_le, .int 0, .ref a_mc, .ref a_mt, .ref a_mk, .ref a_my, .ref a_mb, .ref a_mx, .ref a_ml, .int 0, .ref a_mh, .ref a_mf, .int 0, .ref a_mz, .int 0]))] H := hP
  replace hD : va_D A [(a_m, .inr (5, [.int 0, .ref a_sa, .int 0, .int 0, .int 0, .ref a_mr, .ref a_me, .ref a_le, .int 0, .ref a_mc, .ref a_mt, .ref a_mk, .ref a_my, .ref a_mb, .ref a_mx, .ref a_ml, .int 0, .ref a_mh, .ref a_mf, .int 0, .ref a_mz, .int 0]))] := hD
  refine lv_aload_n hx hb d_M_throwsUp_5 rfl (lv_at hl 0 rfl) ?_
  refine lv_iload_n hx hb d_M_throwsUp_6 rfl (lv_at hl 1 rfl) ?_
  have hPc := hP.sub (ws' := [(a_m, .inr (5, [.int 0, .ref a_sa, .int 0, .int 0, .int 0, .ref a_mr, .ref a_me, .ref a_le, .int 0, .ref a_mc, .ref a_mt, .ref a_mk, .ref a_my, .ref a_mb, .ref a_mx, .ref a_ml, .int 0, .ref a_mh, .ref a_mf, .int 0, .ref a_mz, .int 0]))]) [0] rfl
  have hKc := hK.sub (tys' := []) [] rfl
  refine vp_callSi (va_Run.run (va_runV (As := [.int p0]) (rest := []) ⟨hx, hb, hml, hown, hts⟩ (c_Mo_isRule l dC dI adK adV (a_m := a_m) (p0 := p0) (a_sa := a_sa) (a_mr := a_mr) (a_me := a_me) (a_le := a_le) (a_mc := a_mc) (a_mt := a_mt) (a_mk := a_mk) (a_my := a_my) (a_mb := a_mb) (a_mx := a_mx) (a_ml := a_ml) (a_mh := a_mh) (a_mf := a_mf) (a_mz := a_mz)) (cwV 1 hts (gV tw_762 tw_764 tw_34 tw_46 tw_765) rfl rfl rfl (by decide +kernel) ⟨(Nat.le_of_ble_eq_true rfl), (Nat.le_of_ble_eq_true rfl)⟩) ⟨fun a U g mk q => by obtain ⟨q0, qZ, qP, qK⟩ := q; exact ⟨q0, zz_call qZ, qP, va_K.moved (u := U) (U := U.calling g mk a) (Vm.Alike.refl U.vm) qK⟩, va_recv hKc hPc (ci := 5) (q0 := 0) rfl rfl, fun U hU hW => ⟨rfl, zz_ro hS hU hW hZ, by rw [hU]; exact hPc, va_K.moved hW.alike hKc⟩⟩ rfl rfl hl.1 rfl (lv_room (Nat.le_of_ble_eq_true rfl)) d_M_throwsUp_7 ⟨(Nat.le_of_ble_eq_true rfl), (Nat.le_of_ble_eq_true rfl)⟩)) (fun r_1 hw_2 => ?_)
  obtain rfl : r_1 = 0 := hw_2
  refine lv_if_ne (tgt := 15) hx hb d_M_throwsUp_10 (by decide) (fun c_3 => ?_) (fun c_3 => ?_)
  · exact absurd (by decide) c_3
  · refine lv_iconst (v := 0) hx hb d_M_throwsUp_13 (by decide) ?_
    exact W.zret (v := 0) hx hb hr rfl (fun t ht hW => ⟨⟨0, (), rfl, rfl, trivial⟩, hS.F ht⟩) hS.2.2 d_M_throwsUp_14
set_option maxHeartbeats 4000000 in
set_option maxRecDepth 100000 in
theorem c_Mo_find (l : Launch) (dC : Nat → ClassId) (dI : Nat → Nat → Nat) (adK adV : Nat → Nat) (a_m : Nat) (p0 : Int32) (p1 : Int32) (p2 : Int32) (a_sa : Nat) (a_mr : Nat) (a_me : Nat) (a_le : Nat) (a_mc : Nat) (a_mt : Nat) (a_mk : Nat) (a_my : Nat) (a_mb : Nat) (a_mx : Nat) (a_ml : Nat) (a_mh : Nat) (a_mf : Nat) (a_mz : Nat) (sz : Nat) : Met l y_M_find ws_M_find ({ frames := 0, cells := 0, slots := 0, locals := 0 }) (va_Pc [.ref a_m, .int p0, .int p1, .int p2] (fun U => U.heap.size = sz ∧ zz adK adV (va_A [(a_m, .inr (5, [.int 0, .ref a_sa, .int 0, .int 0, .int 0, .ref a_mr, .ref a_me, .ref a_le, .int 0, .ref a_mc, .ref a_mt, .ref a_mk, .ref a_my, .ref a_mb, .ref a_mx, .ref a_ml, .int 0, .ref a_mh, .ref a_mf, .int 0, .ref a_mz, .int 0]))] sz) U ∧ va_P (dC, dI) vwCl [(a_m, .inr (5, [.int 0, .ref a_sa, .int 0, .int 0, .int 0, .ref a_mr, .ref a_me, .ref a_le, .int 0, .ref a_mc, .ref a_mt, .ref a_mk, .ref a_my, .ref a_mb, .ref a_mx, .ref a_ml, .int 0, .ref a_mh, .ref a_mf, .int 0, .ref a_mz, .int 0]))] U.heap ∧ va_K (dC, dI) vwCl [] U ∧ va_D (fun _ => True) [(a_m, .inr (5, [.int 0, .ref a_sa, .int 0, .int 0, .int 0, .ref a_mr, .ref a_me, .ref a_le, .int 0, .ref a_mc, .ref a_mt, .ref a_mk, .ref a_my, .ref a_mb, .ref a_mx, .ref a_ml, .int 0, .ref a_mh, .ref a_mf, .int 0, .ref a_mz, .int 0]))])) (va_Qv (fun _ : Unit => True) (fun (_ : Unit) (t : State) => va_P (dC, dI) vwCl [(a_m, .inr (5, [.int 0, .ref a_sa, .int 0, .int 0, .int 0, .ref a_mr, .ref a_me, .ref a_le, .int 0, .ref a_mc, .ref a_mt, .ref a_mk, .ref a_my, .ref a_mb, .ref a_mx, .ref a_ml, .int 0, .ref a_mh, .ref a_mf, .int 0, .ref a_mz, .int 0]))] t.heap ∧ va_K (dC, dI) vwCl [] t ∧ va_D (va_A [(a_m, .inr (5, [.int 0, .ref a_sa, .int 0, .int 0, .int 0, .ref a_mr, .ref a_me, .ref a_le, .int 0, .ref a_mc, .ref a_mt, .ref a_mk, .ref a_my, .ref a_mb, .ref a_mx, .ref a_ml, .int 0, .ref a_mh, .ref a_mf, .int 0, .ref a_mz, .int 0]))] sz) [(a_m, .inr (5, [.int 0, .ref a_sa, .int 0, .int 0, .int 0, .ref a_mr, .ref a_me, .ref a_le, .int 0, .ref a_mc, .ref a_mt, .ref a_mk, .ref a_my, .ref a_mb, .ref a_mx, .ref a_ml, .int 0, .ref a_mh, .ref a_mf, .int 0, .ref a_mz, .int 0]))]) (va_A [(a_m, .inr (5, [.int 0, .ref a_sa, .int 0, .int 0, .int 0, .ref a_mr, .ref a_me, .ref a_le, .int 0, .ref a_mc, .ref a_mt, .ref a_mk, .ref a_my, .ref a_mb, .ref a_mx, .ref a_ml, .int 0, .ref a_mh, .ref a_mf, .int 0, .ref a_mz, .int 0]))] sz)) 0 0 (va_A [(a_m, .inr (5, [.int 0, .ref a_sa, .int 0, .int 0, .int 0, .ref a_mr, .ref a_me, .ref a_le, .int 0, .ref a_mc, .ref a_mt, .ref a_mk, .ref a_my, .ref a_mb, .ref a_mx, .ref a_ml, .int 0, .ref a_mh, .ref a_mf, .int 0, .ref a_mz, .int 0]))] sz) := by
  refine Met.ofW (cc := c_M_find) (maxL := 6) (ret := none) (by decide) rfl ?_
  intro p e s m args below meth c s₁ B hml hv
  obtain ⟨rfl, hsz, hZ, hP, hK, hD0⟩ := hv
  have hx := B.exec
  have hb := B.bytes
  have hr := B.returns
  have hts0 := atoms_spec (ws := ws_M_find) B.pre
  have hts : ∀ w ∈ TT, w.before _ s = true := fun w h => hts0 w (List.mem_cons_of_mem _ h)
  have hown : s.vm.findClass "LoanRulesModel" = some m.cls := findClass_of_methodNamed B.named
  have hlocks := B.notSynchronized
  subst hsz
  have hD := hD0.self (sz := s.heap.size)
  generalize hAe : va_A [(a_m, .inr (5, [.int 0, .ref a_sa, .int 0, .int 0, .int 0, .ref a_mr, .ref a_me, .ref a_le, .int 0, .ref a_mc, .ref a_mt, .ref a_mk, .ref a_my, .ref a_mb, .ref a_mx, .ref a_ml, .int 0, .ref a_mh, .ref a_mf, .int 0, .ref a_mz, .int 0]))] s.heap.size = A at hD hZ ⊢
  have hA : ∀ q : Nat, s.heap.size ≤ q → A q := fun q h => by rw [← hAe]; exact Or.inr h
  clear hAe hD0
  have hS : va_S A s.heap s.heap [] := va_S.rf
  replace hP : va_P (dC, dI) vwCl [(a_m, .inr (5, [.int 0, .ref a_sa, .int 0, .int 0, .int 0, .ref a_mr, .ref a_me, .ref a_le, .int 0, .ref a_mc, .ref a_mt, .ref a_mk, .ref a_my, .ref a_mb, .ref a_mx, .ref a_ml, .int 0, .ref a_mh, .ref a_mf, .int 0, .ref a_mz, .int 0]))] s.heap := hP
  have hl := lv_entry ([.ref a_m, .int p0, .int p1, .int p2]) (n := 6) (Nat.le_of_ble_eq_true rfl)
  rw [lg_entry_eq]
  generalize (lg_sl ([.ref a_m, .int p0, .int p1, .int p2]) ++ List.replicate (6 - (lg_sl ([.ref a_m, .int p0, .int p1, .int p2])).length) Slot.unset).toArray = ls at hl ⊢
  replace hl : lv_has ls 6 [(0, .ref a_m), (1, .int p0), (2, .int p1), (3, .int p2)] := hl
  refine lv_aload_n hx hb d_M_find_0 rfl (lv_at hl 0 rfl) ?_
  refine lv_iconst (v := 0) hx hb d_M_find_1 (by decide) ?_
  refine va_put (D := (dC, dI)) (ci := 5) (v := .int 0) (ty := .int) (C := "LoanRulesModel") (T := Fz_M) (N := 22) hx hb hts it_M tz_M tz_M_ok nz_M hown hK hP hD hS 0 rfl rfl 19 (by decide) (hts _ tw_620) (fun _ h9 => h9) rfl (by decide +kernel) rfl rfl (Nat.le_of_ble_eq_true rfl) d_M_find_2 (fun H locs hP hD hS => ?_)
  replace hP : va_P (dC, dI) vwCl [(a_m, .inr (5, [.int 0, .ref a_sa, .int 0, .int 0, .int 0, .ref a_mr, .ref a_me, .ref a_le, .int 0, .ref a_mc, .ref a_mt, .ref a_mk, .ref a_my, .ref a_mb, .ref a_mx, .ref a_ml, .int 0, .ref a_mh, .ref a_mf, .int 0, .ref a_mz, .int 0]))] H := hP
  replace hD : va_D A [(a_m, .inr (5, [.int 0, .ref a_sa, .int 0, .int 0, .int 0, .ref a_mr, .ref a_me, .ref a_le, .int 0, .ref a_mc, .ref a_mt, .ref a_mk, .ref a_my, .ref a_mb, .ref a_mx, .ref a_ml, .int 0, .ref a_mh, .ref a_mf, .int 0, .ref a_mz, .int 0]))] := hD
  refine lv_iconst (v := 0) hx hb d_M_find_5 (by decide) ?_
  refine lv_istore (lv' := [(4, .int 0), (0, .ref a_m), (1, .int p0), (2, .int p1), (3, .int p2)]) hx hb d_M_find_6 hl (by decide) rfl (fun ls hl => ?_)
  refine lv_iload hx hb d_M_find_8 (lv_at hl 0 rfl) ?_
  refine lv_aload_n hx hb d_M_find_10 rfl (lv_at hl 1 rfl) ?_
  refine va_get (D := (dC, dI)) (ci := 5) (v := .int 0) (C := "LoanRulesModel") (T := Fz_M) (N := 22) hx hb hts it_M hown hK hP 0 rfl rfl 8 (by decide) (hts _ tw_609) (fun _ h9 => h9) rfl d_M_find_11 ?_
  refine lv_icmp_ge (tgt := 123) hx hb d_M_find_14 (by decide) (fun c_1 => ?_) (fun c_1 => ?_)
  · have hP9 := hP.sub (ws' := [(a_m, .inr (5, [.int 0, .ref a_sa, .int 0, .int 0, .int 0, .ref a_mr, .ref a_me, .ref a_le, .int 0, .ref a_mc, .ref a_mt, .ref a_mk, .ref a_my, .ref a_mb, .ref a_mx, .ref a_ml, .int 0, .ref a_mh, .ref a_mf, .int 0, .ref a_mz, .int 0]))]) [0] rfl
    have hD9 := hD.sub (ws' := [(a_m, .inr (5, [.int 0, .ref a_sa, .int 0, .int 0, .int 0, .ref a_mr, .ref a_me, .ref a_le, .int 0, .ref a_mc, .ref a_mt, .ref a_mk, .ref a_my, .ref a_mb, .ref a_mx, .ref a_ml, .int 0, .ref a_mh, .ref a_mf, .int 0, .ref a_mz, .int 0]))]) [0] (by decide) rfl
    have hK9 := hK.sub (tys' := []) [] rfl
    exact W.vret hx hb hr (fun t ht hW => ⟨⟨(), rfl, trivial, by rw [ht]; exact hP9, va_K.moved hW.alike hK9, hD9⟩, hS.F ht⟩) hS.2.2 d_M_find_123
  · exact absurd (by decide) c_1
def g_Mo_lend (p0 : Int32) (p1 : Int32) (p2 : Int32) : Int32 :=
  if (g_Mo_isPerson p0) = 0 then
    0
  else
    if (g_Mo_isPerson p1) = 0 then
      0
    else
      if (g_Mo_isDay p2) = 0 then
        0
      else
        (-100)
set_option maxHeartbeats 4000000 in
set_option maxRecDepth 100000 in
theorem c_Mo_lend (l : Launch) (dC : Nat → ClassId) (dI : Nat → Nat → Nat) (adK adV : Nat → Nat) (a_m : Nat) (a_mh : Nat) (a_mb : Nat) (k_mh : ClassId) (k_mb : ClassId) (p0 : Int32) (p1 : Int32) (p2 : Int32) (a_sa : Nat) (a_mr : Nat) (a_me : Nat) (a_le : Nat) (a_mc : Nat) (a_mt : Nat) (a_mk : Nat) (a_my : Nat) (a_mx : Nat) (a_ml : Nat) (a_mf : Nat) (a_mz : Nat) (sz : Nat) : Met l y_M_lend ws_M_lend ({ frames := 1, cells := 0, slots := 0, locals := 25 }) (va_Pc [.ref a_m, .int p0, .int p1, .int p2] (fun U => U.heap.size = sz ∧ zz adK adV (va_A [(a_m, .inr (5, [.int 0, .ref a_sa, .int 0, .int 0, .int 0, .ref a_mr, .ref a_me, .ref a_le, .int 0, .ref a_mc, .ref a_mt, .ref a_mk, .ref a_my, .ref a_mb, .ref a_mx, .ref a_ml, .int 0, .ref a_mh, .ref a_mf, .int 0, .ref a_mz, .int 0])), (a_mh, .inl (k_mh, 50, .inl (fun _ => 0))), (a_mb, .inl (k_mb, 50, .inl (fun _ => 0)))] sz) U ∧ va_P (dC, dI) vwCl [(a_m, .inr (5, [.int 0, .ref a_sa, .int 0, .int 0, .int 0, .ref a_mr, .ref a_me, .ref a_le, .int 0, .ref a_mc, .ref a_mt, .ref a_mk, .ref a_my, .ref a_mb, .ref a_mx, .ref a_ml, .int 0, .ref a_mh, .ref a_mf, .int 0, .ref a_mz, .int 0])), (a_mh, .inl (k_mh, 50, .inl (fun _ => 0))), (a_mb, .inl (k_mb, 50, .inl (fun _ => 0)))] U.heap ∧ va_K (dC, dI) vwCl [(k_mh, .int), (k_mb, .int)] U ∧ va_D (fun _ => True) [(a_m, .inr (5, [.int 0, .ref a_sa, .int 0, .int 0, .int 0, .ref a_mr, .ref a_me, .ref a_le, .int 0, .ref a_mc, .ref a_mt, .ref a_mk, .ref a_my, .ref a_mb, .ref a_mx, .ref a_ml, .int 0, .ref a_mh, .ref a_mf, .int 0, .ref a_mz, .int 0])), (a_mh, .inl (k_mh, 50, .inl (fun _ => 0))), (a_mb, .inl (k_mb, 50, .inl (fun _ => 0)))])) (va_Qi (fun (r : Int32) (_ : Unit) => r = g_Mo_lend p0 p1 p2) (fun (_ : Unit) (t : State) => va_P (dC, dI) vwCl [(a_m, .inr (5, [.int 0, .ref a_sa, .int 0, .int 0, .int 0, .ref a_mr, .ref a_me, .ref a_le, .int 0, .ref a_mc, .ref a_mt, .ref a_mk, .ref a_my, .ref a_mb, .ref a_mx, .ref a_ml, .int 0, .ref a_mh, .ref a_mf, .int 0, .ref a_mz, .int 0]))] t.heap ∧ va_K (dC, dI) vwCl [] t ∧ va_D (va_A [(a_m, .inr (5, [.int 0, .ref a_sa, .int 0, .int 0, .int 0, .ref a_mr, .ref a_me, .ref a_le, .int 0, .ref a_mc, .ref a_mt, .ref a_mk, .ref a_my, .ref a_mb, .ref a_mx, .ref a_ml, .int 0, .ref a_mh, .ref a_mf, .int 0, .ref a_mz, .int 0])), (a_mh, .inl (k_mh, 50, .inl (fun _ => 0))), (a_mb, .inl (k_mb, 50, .inl (fun _ => 0)))] sz) [(a_m, .inr (5, [.int 0, .ref a_sa, .int 0, .int 0, .int 0, .ref a_mr, .ref a_me, .ref a_le, .int 0, .ref a_mc, .ref a_mt, .ref a_mk, .ref a_my, .ref a_mb, .ref a_mx, .ref a_ml, .int 0, .ref a_mh, .ref a_mf, .int 0, .ref a_mz, .int 0]))]) (va_A [(a_m, .inr (5, [.int 0, .ref a_sa, .int 0, .int 0, .int 0, .ref a_mr, .ref a_me, .ref a_le, .int 0, .ref a_mc, .ref a_mt, .ref a_mk, .ref a_my, .ref a_mb, .ref a_mx, .ref a_ml, .int 0, .ref a_mh, .ref a_mf, .int 0, .ref a_mz, .int 0])), (a_mh, .inl (k_mh, 50, .inl (fun _ => 0))), (a_mb, .inl (k_mb, 50, .inl (fun _ => 0)))] sz)) 0 0 (va_A [(a_m, .inr (5, [.int 0, .ref a_sa, .int 0, .int 0, .int 0, .ref a_mr, .ref a_me, .ref a_le, .int 0, .ref a_mc, .ref a_mt, .ref a_mk, .ref a_my, .ref a_mb, .ref a_mx, .ref a_ml, .int 0, .ref a_mh, .ref a_mf, .int 0, .ref a_mz, .int 0])), (a_mh, .inl (k_mh, 50, .inl (fun _ => 0))), (a_mb, .inl (k_mb, 50, .inl (fun _ => 0)))] sz) := by
  refine Met.ofW (cc := c_M_lend) (maxL := 8) (ret := (some .int)) (by decide) rfl ?_
  intro p e s m args below meth c s₁ B hml hv
  obtain ⟨rfl, hsz, hZ, hP, hK, hD0⟩ := hv
  have hx := B.exec
  have hb := B.bytes
  have hr := B.returns
  have hts0 := atoms_spec (ws := ws_M_lend) B.pre
  have hts : ∀ w ∈ TT, w.before _ s = true := fun w h => hts0 w (List.mem_cons_of_mem _ h)
  have hown : s.vm.findClass "LoanRulesModel" = some m.cls := findClass_of_methodNamed B.named
  have hlocks := B.notSynchronized
  subst hsz
  have hD := hD0.self (sz := s.heap.size)
  generalize hAe : va_A [(a_m, .inr (5, [.int 0, .ref a_sa, .int 0, .int 0, .int 0, .ref a_mr, .ref a_me, .ref a_le, .int 0, .ref a_mc, .ref a_mt, .ref a_mk, .ref a_my, .ref a_mb, .ref a_mx, .ref a_ml, .int 0, .ref a_mh, .ref a_mf, .int 0, .ref a_mz, .int 0])), (a_mh, .inl (k_mh, 50, .inl (fun _ => 0))), (a_mb, .inl (k_mb, 50, .inl (fun _ => 0)))] s.heap.size = A at hD hZ ⊢
  have hA : ∀ q : Nat, s.heap.size ≤ q → A q := fun q h => by rw [← hAe]; exact Or.inr h
  clear hAe hD0
  have hS : va_S A s.heap s.heap [] := va_S.rf
  replace hP : va_P (dC, dI) vwCl [(a_m, .inr (5, [.int 0, .ref a_sa, .int 0, .int 0, .int 0, .ref a_mr, .ref a_me, .ref a_le, .int 0, .ref a_mc, .ref a_mt, .ref a_mk, .ref a_my, .ref a_mb, .ref a_mx, .ref a_ml, .int 0, .ref a_mh, .ref a_mf, .int 0, .ref a_mz, .int 0])), (a_mh, .inl (k_mh, 50, .inl (fun _ => 0))), (a_mb, .inl (k_mb, 50, .inl (fun _ => 0)))] s.heap := hP
  have hl := lv_entry ([.ref a_m, .int p0, .int p1, .int p2]) (n := 8) (Nat.le_of_ble_eq_true rfl)
  rw [lg_entry_eq]
  generalize (lg_sl ([.ref a_m, .int p0, .int p1, .int p2]) ++ List.replicate (8 - (lg_sl ([.ref a_m, .int p0, .int p1, .int p2])).length) Slot.unset).toArray = ls at hl ⊢
  replace hl : lv_has ls 8 [(0, .ref a_m), (1, .int p0), (2, .int p1), (3, .int p2)] := hl
  obtain ⟨z, hz⟩ : ∃ z, z = g_Mo_lend p0 p1 p2 := ⟨_, rfl⟩
  have hE := hz
  rw [g_Mo_lend] at hE
  refine lv_aload_n hx hb d_M_lend_0 rfl (lv_at hl 0 rfl) ?_
  refine lv_iconst (v := 0) hx hb d_M_lend_1 (by decide) ?_
  refine va_put (D := (dC, dI)) (ci := 5) (v := .int 0) (ty := .int) (C := "LoanRulesModel") (T := Fz_M) (N := 22) hx hb hts it_M tz_M tz_M_ok nz_M hown hK hP hD hS 0 rfl rfl 0 (by decide) (hts _ tw_601) (fun _ h9 => h9) rfl (by decide +kernel) rfl rfl (Nat.le_of_ble_eq_true rfl) d_M_lend_2 (fun H locs hP hD hS => ?_)
  replace hP : va_P (dC, dI) vwCl [(a_m, .inr (5, [.int 0, .ref a_sa, .int 0, .int 0, .int 0, .ref a_mr, .ref a_me, .ref a_le, .int 0, .ref a_mc, .ref a_mt, .ref a_mk, .ref a_my, .ref a_mb, .ref a_mx, .ref a_ml, .int 0, .ref a_mh, .ref a_mf, .int 0, .ref a_mz, .int 0])), (a_mh, .inl (k_mh, 50, .inl (fun _ => 0))), (a_mb, .inl (k_mb, 50, .inl (fun _ => 0)))] H := hP
  replace hD : va_D A [(a_m, .inr (5, [.int 0, .ref a_sa, .int 0, .int 0, .int 0, .ref a_mr, .ref a_me, .ref a_le, .int 0, .ref a_mc, .ref a_mt, .ref a_mk, .ref a_my, .ref a_mb, .ref a_mx, .ref a_ml, .int 0, .ref a_mh, .ref a_mf, .int 0, .ref a_mz, .int 0])), (a_mh, .inl (k_mh, 50, .inl (fun _ => 0))), (a_mb, .inl (k_mb, 50, .inl (fun _ => 0)))] := hD
  refine lv_iload_n hx hb d_M_lend_5 rfl (lv_at hl 1 rfl) ?_
  have hPc := hP.sub (ws' := []) [] rfl
  have hKc := hK.sub (tys' := []) [] rfl
  refine vp_callSi (va_Run.run (va_runS (As := [.int p0]) (rest := []) ⟨hx, hb, hml, hown, hts⟩ (c_Mo_isPerson l dC dI adK adV (p0 := p0)) (va_cwS 1 hts (gS tw_751 tw_752 tw_46 tw_753) rfl rfl rfl (by decide +kernel) ⟨(Nat.le_of_ble_eq_true rfl), (Nat.le_of_ble_eq_true rfl)⟩) ⟨fun a U g mk q => by obtain ⟨q0, qZ, qP, qK⟩ := q; exact ⟨q0, zz_call qZ, qP, va_K.moved (u := U) (U := U.calling g mk a) (Vm.Alike.refl U.vm) qK⟩, fun U hU hW => ⟨rfl, zz_ro hS hU hW hZ, by rw [hU]; exact hPc, va_K.moved hW.alike hKc⟩⟩ rfl rfl hl.1 rfl (lv_room (Nat.le_of_ble_eq_true rfl)) d_M_lend_6 ⟨(Nat.le_of_ble_eq_true rfl), (Nat.le_of_ble_eq_true rfl)⟩)) (fun r_1 hw_2 => ?_)
  subst hw_2
  refine lv_if_eq (tgt := 45) hx hb d_M_lend_9 (by decide) (fun c_3 => ?_) (fun c_3 => ?_)
  · rw [if_pos c_3] at hE
    refine lv_iconst (v := 0) hx hb d_M_lend_45 (by decide) ?_
    have hP9 := hP.sub (ws' := [(a_m, .inr (5, [.int 0, .ref a_sa, .int 0, .int 0, .int 0, .ref a_mr, .ref a_me, .ref a_le, .int 0, .ref a_mc, .ref a_mt, .ref a_mk, .ref a_my, .ref a_mb, .ref a_mx, .ref a_ml, .int 0, .ref a_mh, .ref a_mf, .int 0, .ref a_mz, .int 0]))]) [0] rfl
    have hD9 := hD.sub (ws' := [(a_m, .inr (5, [.int 0, .ref a_sa, .int 0, .int 0, .int 0, .ref a_mr, .ref a_me, .ref a_le, .int 0, .ref a_mc, .ref a_mt, .ref a_mk, .ref a_my, .ref a_mb, .ref a_mx, .ref a_ml, .int 0, .ref a_mh, .ref a_mf, .int 0, .ref a_mz, .int 0]))]) [0] (by decide) rfl
    have hK9 := hK.sub (tys' := []) [] rfl
    exact W.iret (v := 0) hx hb hr (fun t ht hW => ⟨⟨0, (), rfl, hE.symm.trans hz, by rw [ht]; exact hP9, va_K.moved hW.alike hK9, hD9⟩, hS.F ht⟩) hS.2.2 d_M_lend_46
  · rw [if_neg c_3] at hE
    refine lv_iload_n hx hb d_M_lend_12 rfl (lv_at hl 2 rfl) ?_
    have hPc := hP.sub (ws' := []) [] rfl
    have hKc := hK.sub (tys' := []) [] rfl
    refine vp_callSi (va_Run.run (va_runS (As := [.int p1]) (rest := []) ⟨hx, hb, hml, hown, hts⟩ (c_Mo_isPerson l dC dI adK adV (p0 := p1)) (va_cwS 1 hts (gS tw_751 tw_752 tw_46 tw_753) rfl rfl rfl (by decide +kernel) ⟨(Nat.le_of_ble_eq_true rfl), (Nat.le_of_ble_eq_true rfl)⟩) ⟨fun a U g mk q => by obtain ⟨q0, qZ, qP, qK⟩ := q; exact ⟨q0, zz_call qZ, qP, va_K.moved (u := U) (U := U.calling g mk a) (Vm.Alike.refl U.vm) qK⟩, fun U hU hW => ⟨rfl, zz_ro hS hU hW hZ, by rw [hU]; exact hPc, va_K.moved hW.alike hKc⟩⟩ rfl rfl hl.1 rfl (lv_room (Nat.le_of_ble_eq_true rfl)) d_M_lend_13 ⟨(Nat.le_of_ble_eq_true rfl), (Nat.le_of_ble_eq_true rfl)⟩)) (fun r_4 hw_5 => ?_)
    subst hw_5
    refine lv_if_eq (tgt := 45) hx hb d_M_lend_16 (by decide) (fun c_6 => ?_) (fun c_6 => ?_)
    · rw [if_pos c_6] at hE
      refine lv_iconst (v := 0) hx hb d_M_lend_45 (by decide) ?_
      have hP9 := hP.sub (ws' := [(a_m, .inr (5, [.int 0, .ref a_sa, .int 0, .int 0, .int 0, .ref a_mr, .ref a_me, .ref a_le, .int 0, .ref a_mc, .ref a_mt, .ref a_mk, .ref a_my, .ref a_mb, .ref a_mx, .ref a_ml, .int 0, .ref a_mh, .ref a_mf, .int 0, .ref a_mz, .int 0]))]) [0] rfl
      have hD9 := hD.sub (ws' := [(a_m, .inr (5, [.int 0, .ref a_sa, .int 0, .int 0, .int 0, .ref a_mr, .ref a_me, .ref a_le, .int 0, .ref a_mc, .ref a_mt, .ref a_mk, .ref a_my, .ref a_mb, .ref a_mx, .ref a_ml, .int 0, .ref a_mh, .ref a_mf, .int 0, .ref a_mz, .int 0]))]) [0] (by decide) rfl
      have hK9 := hK.sub (tys' := []) [] rfl
      exact W.iret (v := 0) hx hb hr (fun t ht hW => ⟨⟨0, (), rfl, hE.symm.trans hz, by rw [ht]; exact hP9, va_K.moved hW.alike hK9, hD9⟩, hS.F ht⟩) hS.2.2 d_M_lend_46
    · rw [if_neg c_6] at hE
      refine lv_iload_n hx hb d_M_lend_19 rfl (lv_at hl 3 rfl) ?_
      have hPc := hP.sub (ws' := []) [] rfl
      have hKc := hK.sub (tys' := []) [] rfl
      refine vp_callSi (va_Run.run (va_runS (As := [.int p2]) (rest := []) ⟨hx, hb, hml, hown, hts⟩ (c_Mo_isDay l dC dI adK adV (p0 := p2)) (va_cwS 1 hts (gS tw_740 tw_741 tw_46 tw_742) rfl rfl rfl (by decide +kernel) ⟨(Nat.le_of_ble_eq_true rfl), (Nat.le_of_ble_eq_true rfl)⟩) ⟨fun a U g mk q => by obtain ⟨q0, qZ, qP, qK⟩ := q; exact ⟨q0, zz_call qZ, qP, va_K.moved (u := U) (U := U.calling g mk a) (Vm.Alike.refl U.vm) qK⟩, fun U hU hW => ⟨rfl, zz_ro hS hU hW hZ, by rw [hU]; exact hPc, va_K.moved hW.alike hKc⟩⟩ rfl rfl hl.1 rfl (lv_room (Nat.le_of_ble_eq_true rfl)) d_M_lend_20 ⟨(Nat.le_of_ble_eq_true rfl), (Nat.le_of_ble_eq_true rfl)⟩)) (fun r_7 hw_8 => ?_)
      subst hw_8
      refine lv_if_eq (tgt := 45) hx hb d_M_lend_23 (by decide) (fun c_9 => ?_) (fun c_9 => ?_)
      · rw [if_pos c_9] at hE
        refine lv_iconst (v := 0) hx hb d_M_lend_45 (by decide) ?_
        have hP9 := hP.sub (ws' := [(a_m, .inr (5, [.int 0, .ref a_sa, .int 0, .int 0, .int 0, .ref a_mr, .ref a_me, .ref a_le, .int 0, .ref a_mc, .ref a_mt, .ref a_mk, .ref a_my, .ref a_mb, .ref a_mx, .ref a_ml, .int 0, .ref a_mh, .ref a_mf, .int 0, .ref a_mz, .int 0]))]) [0] rfl
        have hD9 := hD.sub (ws' := [(a_m, .inr (5, [.int 0, .ref a_sa, .int 0, .int 0, .int 0, .ref a_mr, .ref a_me, .ref a_le, .int 0, .ref a_mc, .ref a_mt, .ref a_mk, .ref a_my, .ref a_mb, .ref a_mx, .ref a_ml, .int 0, .ref a_mh, .ref a_mf, .int 0, .ref a_mz, .int 0]))]) [0] (by decide) rfl
        have hK9 := hK.sub (tys' := []) [] rfl
        exact W.iret (v := 0) hx hb hr (fun t ht hW => ⟨⟨0, (), rfl, hE.symm.trans hz, by rw [ht]; exact hP9, va_K.moved hW.alike hK9, hD9⟩, hS.F ht⟩) hS.2.2 d_M_lend_46
      · rw [if_neg c_9] at hE
        refine lv_aload_n hx hb d_M_lend_26 rfl (lv_at hl 0 rfl) ?_
        refine va_get (D := (dC, dI)) (ci := 5) (v := .ref a_mh) (C := "LoanRulesModel") (T := Fz_M) (N := 22) hx hb hts it_M hown hK hP 0 rfl rfl 17 (by decide) (hts _ tw_618) (fun _ h9 => h9) rfl d_M_lend_27 ?_
        refine lv_iload_n hx hb d_M_lend_30 rfl (lv_at hl 2 rfl) ?_
        have i_10 : vp_in p1 50 := in_personM c_6
        refine va_iald (D := (dC, dI)) hx hb hK hP 1 0 rfl rfl i_10 d_M_lend_31 ?_
        refine lv_topi (fun x_11 ex_11 => ?_)
        obtain rfl : x_11 = 0 := ex_11
        refine lv_if_ne (tgt := 45) hx hb d_M_lend_32 (by decide) (fun c_12 => ?_) (fun c_12 => ?_)
        · exact absurd (by decide) c_12
        · refine lv_aload_n hx hb d_M_lend_35 rfl (lv_at hl 0 rfl) ?_
          refine va_get (D := (dC, dI)) (ci := 5) (v := .int 0) (C := "LoanRulesModel") (T := Fz_M) (N := 22) hx hb hts it_M hown hK hP 0 rfl rfl 16 (by decide) (hts _ tw_617) (fun _ h9 => h9) rfl d_M_lend_36 ?_
          refine lv_sipush (v := 200) hx hb d_M_lend_39 (by decide) ?_
          refine lv_icmp_ne (tgt := 47) hx hb d_M_lend_42 (by decide) (fun c_13 => ?_) (fun c_13 => ?_)
          · refine lv_aload_n hx hb d_M_lend_47 rfl (lv_at hl 0 rfl) ?_
            refine va_get (D := (dC, dI)) (ci := 5) (v := .ref a_mb) (C := "LoanRulesModel") (T := Fz_M) (N := 22) hx hb hts it_M hown hK hP 0 rfl rfl 13 (by decide) (hts _ tw_614) (fun _ h9 => h9) rfl d_M_lend_48 ?_
            refine lv_iload_n hx hb d_M_lend_51 rfl (lv_at hl 1 rfl) ?_
            have i_14 : vp_in p0 50 := in_personM c_3
            refine va_iald (D := (dC, dI)) hx hb hK hP 2 1 rfl rfl i_14 d_M_lend_52 ?_
            refine lv_topi (fun x_15 ex_15 => ?_)
            obtain rfl : x_15 = 0 := ex_15
            refine lv_if_le (tgt := 66) hx hb d_M_lend_53 (by decide) (fun c_16 => ?_) (fun c_16 => ?_)
            · refine lv_aload_n hx hb d_M_lend_66 rfl (lv_at hl 0 rfl) ?_
              refine lv_iload_n hx hb d_M_lend_67 rfl (lv_at hl 1 rfl) ?_
              refine lv_iload_n hx hb d_M_lend_68 rfl (lv_at hl 2 rfl) ?_
              refine lv_iload_n hx hb d_M_lend_69 rfl (lv_at hl 3 rfl) ?_
              have hPc := hP.sub (ws' := [(a_m, .inr (5, [.int 0, .ref a_sa, .int 0, .int 0, .int 0, .ref a_mr, .ref a_me, .ref a_le, .int 0, .ref a_mc, .ref a_mt, .ref a_mk, .ref a_my, .ref a_mb, .ref a_mx, .ref a_ml, .int 0, .ref a_mh, .ref a_mf, .int 0, .ref a_mz, .int 0]))]) [0] rfl
              have hKc := hK.sub (tys' := []) [] rfl
              have hDc := hD.sub (ws' := [(a_m, .inr (5, [.int 0, .ref a_sa, .int 0, .int 0, .int 0, .ref a_mr, .ref a_me, .ref a_le, .int 0, .ref a_mc, .ref a_mt, .ref a_mk, .ref a_my, .ref a_mb, .ref a_mx, .ref a_ml, .int 0, .ref a_mh, .ref a_mf, .int 0, .ref a_mz, .int 0]))]) [0] (by decide) rfl
              have hFc := va_free (wc := [(a_m, .inr (5, [.int 0, .ref a_sa, .int 0, .int 0, .int 0, .ref a_mr, .ref a_me, .ref a_le, .int 0, .ref a_mc, .ref a_mt, .ref a_mk, .ref a_my, .ref a_mb, .ref a_mx, .ref a_ml, .int 0, .ref a_mh, .ref a_mf, .int 0, .ref a_mz, .int 0]))]) hD hS hA [0] rfl
              refine va_callv (va_runV (As := [.int p0, .int p1, .int p2]) (rest := []) ⟨hx, hb, hml, hown, hts⟩ (c_Mo_find l dC dI adK adV (a_m := a_m) (p0 := p0) (p1 := p1) (p2 := p2) (a_sa := a_sa) (a_mr := a_mr) (a_me := a_me) (a_le := a_le) (a_mc := a_mc) (a_mt := a_mt) (a_mk := a_mk) (a_my := a_my) (a_mb := a_mb) (a_mx := a_mx) (a_ml := a_ml) (a_mh := a_mh) (a_mf := a_mf) (a_mz := a_mz) (sz := H.size)) (cwV 3 hts (gV tw_774 tw_776 tw_35 tw_46 tw_777) rfl rfl rfl (by decide +kernel) ⟨(Nat.le_of_ble_eq_true rfl), (Nat.le_of_ble_eq_true rfl)⟩) ⟨fun a U g mk q => by obtain ⟨q0, q1, qZ, qP, qK, qD⟩ := q; exact ⟨q0, q1, zz_call qZ, qP, va_K.moved (u := U) (U := U.calling g mk a) (Vm.Alike.refl U.vm) qK, qD⟩, va_recv hKc hPc (ci := 5) (q0 := 0) rfl rfl, fun U hU hW => ⟨rfl, by rw [hU], zz_rw hS hFc hU hW hZ, by rw [hU]; exact hPc, va_K.moved hW.alike hKc, hDc.weaken (fun _ _ _ _ => trivial)⟩⟩ rfl rfl hl.1 rfl (lv_room (Nat.le_of_ble_eq_true rfl)) d_M_lend_70 ⟨(Nat.le_of_ble_eq_true rfl), (Nat.le_of_ble_eq_true rfl)⟩) hS (fun q _ h => hFc q h) hFc (fun u t H1 locs ht hvm hw_17 hB hz1 hk1 hS => ?_)
              obtain ⟨hP1, hK1, hD1⟩ := hB
              rw [ht] at hP1
              have hK1 := va_K.moved hvm.symm hK1
              obtain ⟨hP, hD⟩ := va_join (wr := [(a_mh, .inl (k_mh, 50, .inl (fun _ => 0))), (a_mb, .inl (k_mb, 50, .inl (fun _ => 0)))]) (w1 := [(a_m, .inr (5, [.int 0, .ref a_sa, .int 0, .int 0, .int 0, .ref a_mr, .ref a_me, .ref a_le, .int 0, .ref a_mc, .ref a_mt, .ref a_mk, .ref a_my, .ref a_mb, .ref a_mx, .ref a_ml, .int 0, .ref a_mh, .ref a_mf, .int 0, .ref a_mz, .int 0]))]) hP hD [0] [1, 2] rfl rfl (by decide) (by decide) hk1 hFc hP1 hD1
              have hK := (hK.sub (tys' := [(k_mh, .int), (k_mb, .int)]) [0, 1] rfl).app hK1
              generalize H1 = H at hP hS ⊢
              replace hP : va_P (dC, dI) vwCl [(a_mh, .inl (k_mh, 50, .inl (fun _ => 0))), (a_mb, .inl (k_mb, 50, .inl (fun _ => 0))), (a_m, .inr (5, [.int 0, .ref a_sa, .int 0, .int 0, .int 0, .ref a_mr, .ref a_me, .ref a_le, .int 0, .ref a_mc, .ref a_mt, .ref a_mk, .ref a_my, .ref a_mb, .ref a_mx, .ref a_ml, .int 0, .ref a_mh, .ref a_mf, .int 0, .ref a_mz, .int 0]))] H := hP
              replace hD : va_D A [(a_mh, .inl (k_mh, 50, .inl (fun _ => 0))), (a_mb, .inl (k_mb, 50, .inl (fun _ => 0))), (a_m, .inr (5, [.int 0, .ref a_sa, .int 0, .int 0, .int 0, .ref a_mr, .ref a_me, .ref a_le, .int 0, .ref a_mc, .ref a_mt, .ref a_mk, .ref a_my, .ref a_mb, .ref a_mx, .ref a_ml, .int 0, .ref a_mh, .ref a_mf, .int 0, .ref a_mz, .int 0]))] := hD
              replace hK : va_K (dC, dI) vwCl [(k_mh, .int), (k_mb, .int)] s := hK
              refine lv_aload_n hx hb d_M_lend_73 rfl (lv_at hl 0 rfl) ?_
              refine va_get (D := (dC, dI)) (ci := 5) (v := .int 0) (C := "LoanRulesModel") (T := Fz_M) (N := 22) hx hb hts it_M hown hK hP 2 rfl rfl 19 (by decide) (hts _ tw_620) (fun _ h9 => h9) rfl d_M_lend_74 ?_
              refine lv_if_ne (tgt := 83) hx hb d_M_lend_77 (by decide) (fun c_18 => ?_) (fun c_18 => ?_)
              · exact absurd (by decide) c_18
              · refine lv_bipush (v := (-100)) hx hb d_M_lend_80 (by decide) ?_
                have hP9 := hP.sub (ws' := [(a_m, .inr (5, [.int 0, .ref a_sa, .int 0, .int 0, .int 0, .ref a_mr, .ref a_me, .ref a_le, .int 0, .ref a_mc, .ref a_mt, .ref a_mk, .ref a_my, .ref a_mb, .ref a_mx, .ref a_ml, .int 0, .ref a_mh, .ref a_mf, .int 0, .ref a_mz, .int 0]))]) [2] rfl
                have hD9 := hD.sub (ws' := [(a_m, .inr (5, [.int 0, .ref a_sa, .int 0, .int 0, .int 0, .ref a_mr, .ref a_me, .ref a_le, .int 0, .ref a_mc, .ref a_mt, .ref a_mk, .ref a_my, .ref a_mb, .ref a_mx, .ref a_ml, .int 0, .ref a_mh, .ref a_mf, .int 0, .ref a_mz, .int 0]))]) [2] (by decide) rfl
                have hK9 := hK.sub (tys' := []) [] rfl
                exact W.iret (v := (-100)) hx hb hr (fun t ht hW => ⟨⟨(-100), (), rfl, hE.symm.trans hz, by rw [ht]; exact hP9, va_K.moved hW.alike hK9, hD9⟩, hS.F ht⟩) hS.2.2 d_M_lend_82
            · exact absurd (by decide) c_16
          · exact absurd c_13 (by decide)
set_option maxHeartbeats 4000000 in
set_option maxRecDepth 100000 in
theorem c_Mo_isOut (l : Launch) (dC : Nat → ClassId) (dI : Nat → Nat → Nat) (adK adV : Nat → Nat) (a_m : Nat) (p0 : Int32) (a_sa : Nat) (a_mr : Nat) (a_me : Nat) (a_le : Nat) (a_mc : Nat) (a_mt : Nat) (a_mk : Nat) (a_my : Nat) (a_mb : Nat) (a_mx : Nat) (a_ml : Nat) (a_mh : Nat) (a_mf : Nat) (a_mz : Nat) : Met l y_M_isOut ws_M_isOut ({ frames := 0, cells := 0, slots := 0, locals := 0 }) (va_Pc [.ref a_m, .int p0] (fun U => zz adK adV (fun _ => False) U ∧ va_P (dC, dI) vwCl [(a_m, .inr (5, [.int 0, .ref a_sa, .int 0, .int 0, .int 0, .ref a_mr, .ref a_me, .ref a_le, .int 0, .ref a_mc, .ref a_mt, .ref a_mk, .ref a_my, .ref a_mb, .ref a_mx, .ref a_ml, .int 0, .ref a_mh, .ref a_mf, .int 0, .ref a_mz, .int 0]))] U.heap ∧ va_K (dC, dI) vwCl [] U)) (vp_Si (fun r => r = 0)) 0 0 (fun _ => False) := by
  refine Met.ofW (cc := c_M_isOut) (maxL := 2) (ret := (some .boolean)) (by decide) rfl ?_
  intro p e s m args below meth c s₁ B hml hv
  obtain ⟨rfl, hZ, hP, hK⟩ := hv
  have hx := B.exec
  have hb := B.bytes
  have hr := B.returns
  have hts0 := atoms_spec (ws := ws_M_isOut) B.pre
  have hts : ∀ w ∈ TT, w.before _ s = true := fun w h => hts0 w (List.mem_cons_of_mem _ h)
  have hown : s.vm.findClass "LoanRulesModel" = some m.cls := findClass_of_methodNamed B.named
  have hlocks := B.notSynchronized
  have hS : va_S (fun _ => False) s.heap s.heap [] := va_S.rf
  replace hP : va_P (dC, dI) vwCl [(a_m, .inr (5, [.int 0, .ref a_sa, .int 0, .int 0, .int 0, .ref a_mr, .ref a_me, .ref a_le, .int 0, .ref a_mc, .ref a_mt, .ref a_mk, .ref a_my, .ref a_mb, .ref a_mx, .ref a_ml, .int 0, .ref a_mh, .ref a_mf, .int 0, .ref a_mz, .int 0]))] s.heap := hP
  have hl := lv_entry ([.ref a_m, .int p0]) (n := 2) (Nat.le_of_ble_eq_true rfl)
  rw [lg_entry_eq]
  generalize (lg_sl ([.ref a_m, .int p0]) ++ List.replicate (2 - (lg_sl ([.ref a_m, .int p0])).length) Slot.unset).toArray = ls at hl ⊢
  replace hl : lv_has ls 2 [(0, .ref a_m), (1, .int p0)] := hl
  refine lv_iload_n hx hb d_M_isOut_0 rfl (lv_at hl 1 rfl) ?_
  refine lv_if_le (tgt := 31) hx hb d_M_isOut_1 (by decide) (fun c_1 => ?_) (fun c_1 => ?_)
  · refine lv_iconst (v := 0) hx hb d_M_isOut_31 (by decide) ?_
    exact W.zret (v := 0) hx hb hr rfl (fun t ht hW => ⟨0, rfl, rfl, ht⟩) (fun _ h => by cases h) d_M_isOut_32
  · refine lv_iload_n hx hb d_M_isOut_4 rfl (lv_at hl 1 rfl) ?_
    refine lv_aload_n hx hb d_M_isOut_5 rfl (lv_at hl 0 rfl) ?_
    refine va_get (D := (dC, dI)) (ci := 5) (v := .int 0) (C := "LoanRulesModel") (T := Fz_M) (N := 22) hx hb hts it_M hown hK hP 0 rfl rfl 16 (by decide) (hts _ tw_617) (fun _ h9 => h9) rfl d_M_isOut_6 ?_
    refine lv_icmp_gt (tgt := 31) hx hb d_M_isOut_9 (by decide) (fun c_2 => ?_) (fun c_2 => ?_)
    · refine lv_iconst (v := 0) hx hb d_M_isOut_31 (by decide) ?_
      exact W.zret (v := 0) hx hb hr rfl (fun t ht hW => ⟨0, rfl, rfl, ht⟩) (fun _ h => by cases h) d_M_isOut_32
    · exact absurd (Int32.not_le.mp c_1) c_2
set_option maxHeartbeats 4000000 in
set_option maxRecDepth 100000 in
theorem c_Mo_due (l : Launch) (dC : Nat → ClassId) (dI : Nat → Nat → Nat) (adK adV : Nat → Nat) (a_m : Nat) (p0 : Int32) (a_sa : Nat) (a_mr : Nat) (a_me : Nat) (a_le : Nat) (a_mc : Nat) (a_mt : Nat) (a_mk : Nat) (a_my : Nat) (a_mb : Nat) (a_mx : Nat) (a_ml : Nat) (a_mh : Nat) (a_mf : Nat) (a_mz : Nat) (sz : Nat) : Met l y_M_due ws_M_due ({ frames := 1, cells := 0, slots := 0, locals := 21 }) (va_Pc [.ref a_m, .int p0] (fun U => U.heap.size = sz ∧ zz adK adV (va_A [(a_m, .inr (5, [.int 0, .ref a_sa, .int 0, .int 0, .int 0, .ref a_mr, .ref a_me, .ref a_le, .int 0, .ref a_mc, .ref a_mt, .ref a_mk, .ref a_my, .ref a_mb, .ref a_mx, .ref a_ml, .int 0, .ref a_mh, .ref a_mf, .int 0, .ref a_mz, .int 0]))] sz) U ∧ va_P (dC, dI) vwCl [(a_m, .inr (5, [.int 0, .ref a_sa, .int 0, .int 0, .int 0, .ref a_mr, .ref a_me, .ref a_le, .int 0, .ref a_mc, .ref a_mt, .ref a_mk, .ref a_my, .ref a_mb, .ref a_mx, .ref a_ml, .int 0, .ref a_mh, .ref a_mf, .int 0, .ref a_mz, .int 0]))] U.heap ∧ va_K (dC, dI) vwCl [] U ∧ va_D (fun _ => True) [(a_m, .inr (5, [.int 0, .ref a_sa, .int 0, .int 0, .int 0, .ref a_mr, .ref a_me, .ref a_le, .int 0, .ref a_mc, .ref a_mt, .ref a_mk, .ref a_my, .ref a_mb, .ref a_mx, .ref a_ml, .int 0, .ref a_mh, .ref a_mf, .int 0, .ref a_mz, .int 0]))])) (va_Qi (fun (r : Int32) (_ : Unit) => r = (-1)) (fun (_ : Unit) (_ : State) => True) (va_A [(a_m, .inr (5, [.int 0, .ref a_sa, .int 0, .int 0, .int 0, .ref a_mr, .ref a_me, .ref a_le, .int 0, .ref a_mc, .ref a_mt, .ref a_mk, .ref a_my, .ref a_mb, .ref a_mx, .ref a_ml, .int 0, .ref a_mh, .ref a_mf, .int 0, .ref a_mz, .int 0]))] sz)) 0 0 (va_A [(a_m, .inr (5, [.int 0, .ref a_sa, .int 0, .int 0, .int 0, .ref a_mr, .ref a_me, .ref a_le, .int 0, .ref a_mc, .ref a_mt, .ref a_mk, .ref a_my, .ref a_mb, .ref a_mx, .ref a_ml, .int 0, .ref a_mh, .ref a_mf, .int 0, .ref a_mz, .int 0]))] sz) := by
  refine Met.ofW (cc := c_M_due) (maxL := 2) (ret := (some .int)) (by decide) rfl ?_
  intro p e s m args below meth c s₁ B hml hv
  obtain ⟨rfl, hsz, hZ, hP, hK, hD0⟩ := hv
  have hx := B.exec
  have hb := B.bytes
  have hr := B.returns
  have hts0 := atoms_spec (ws := ws_M_due) B.pre
  have hts : ∀ w ∈ TT, w.before _ s = true := fun w h => hts0 w (List.mem_cons_of_mem _ h)
  have hown : s.vm.findClass "LoanRulesModel" = some m.cls := findClass_of_methodNamed B.named
  have hlocks := B.notSynchronized
  subst hsz
  have hD := hD0.self (sz := s.heap.size)
  generalize hAe : va_A [(a_m, .inr (5, [.int 0, .ref a_sa, .int 0, .int 0, .int 0, .ref a_mr, .ref a_me, .ref a_le, .int 0, .ref a_mc, .ref a_mt, .ref a_mk, .ref a_my, .ref a_mb, .ref a_mx, .ref a_ml, .int 0, .ref a_mh, .ref a_mf, .int 0, .ref a_mz, .int 0]))] s.heap.size = A at hD hZ ⊢
  have hA : ∀ q : Nat, s.heap.size ≤ q → A q := fun q h => by rw [← hAe]; exact Or.inr h
  clear hAe hD0
  have hS : va_S A s.heap s.heap [] := va_S.rf
  replace hP : va_P (dC, dI) vwCl [(a_m, .inr (5, [.int 0, .ref a_sa, .int 0, .int 0, .int 0, .ref a_mr, .ref a_me, .ref a_le, .int 0, .ref a_mc, .ref a_mt, .ref a_mk, .ref a_my, .ref a_mb, .ref a_mx, .ref a_ml, .int 0, .ref a_mh, .ref a_mf, .int 0, .ref a_mz, .int 0]))] s.heap := hP
  have hl := lv_entry ([.ref a_m, .int p0]) (n := 2) (Nat.le_of_ble_eq_true rfl)
  rw [lg_entry_eq]
  generalize (lg_sl ([.ref a_m, .int p0]) ++ List.replicate (2 - (lg_sl ([.ref a_m, .int p0])).length) Slot.unset).toArray = ls at hl ⊢
  replace hl : lv_has ls 2 [(0, .ref a_m), (1, .int p0)] := hl
  refine lv_aload_n hx hb d_M_due_0 rfl (lv_at hl 0 rfl) ?_
  refine lv_iconst (v := 0) hx hb d_M_due_1 (by decide) ?_
  refine va_put (D := (dC, dI)) (ci := 5) (v := .int 0) (ty := .int) (C := "LoanRulesModel") (T := Fz_M) (N := 22) hx hb hts it_M tz_M tz_M_ok nz_M hown hK hP hD hS 0 rfl rfl 0 (by decide) (hts _ tw_601) (fun _ h9 => h9) rfl (by decide +kernel) rfl rfl (Nat.le_of_ble_eq_true rfl) d_M_due_2 (fun H locs hP hD hS => ?_)
  replace hP : va_P (dC, dI) vwCl [(a_m, .inr (5, [.int 0, .ref a_sa, .int 0, .int 0, .int 0, .ref a_mr, .ref a_me, .ref a_le, .int 0, .ref a_mc, .ref a_mt, .ref a_mk, .ref a_my, .ref a_mb, .ref a_mx, .ref a_ml, .int 0, .ref a_mh, .ref a_mf, .int 0, .ref a_mz, .int 0]))] H := hP
  replace hD : va_D A [(a_m, .inr (5, [.int 0, .ref a_sa, .int 0, .int 0, .int 0, .ref a_mr, .ref a_me, .ref a_le, .int 0, .ref a_mc, .ref a_mt, .ref a_mk, .ref a_my, .ref a_mb, .ref a_mx, .ref a_ml, .int 0, .ref a_mh, .ref a_mf, .int 0, .ref a_mz, .int 0]))] := hD
  refine lv_aload_n hx hb d_M_due_5 rfl (lv_at hl 0 rfl) ?_
  refine lv_iload_n hx hb d_M_due_6 rfl (lv_at hl 1 rfl) ?_
  have hPc := hP.sub (ws' := [(a_m, .inr (5, [.int 0, .ref a_sa, .int 0, .int 0, .int 0, .ref a_mr, .ref a_me, .ref a_le, .int 0, .ref a_mc, .ref a_mt, .ref a_mk, .ref a_my, .ref a_mb, .ref a_mx, .ref a_ml, .int 0, .ref a_mh, .ref a_mf, .int 0, .ref a_mz, .int 0]))]) [0] rfl
  have hKc := hK.sub (tys' := []) [] rfl
  refine vp_callSi (va_Run.run (va_runV (As := [.int p0]) (rest := []) ⟨hx, hb, hml, hown, hts⟩ (c_Mo_isOut l dC dI adK adV (a_m := a_m) (p0 := p0) (a_sa := a_sa) (a_mr := a_mr) (a_me := a_me) (a_le := a_le) (a_mc := a_mc) (a_mt := a_mt) (a_mk := a_mk) (a_my := a_my) (a_mb := a_mb) (a_mx := a_mx) (a_ml := a_ml) (a_mh := a_mh) (a_mf := a_mf) (a_mz := a_mz)) (cwV 1 hts (gV tw_798 tw_800 tw_40 tw_46 tw_801) rfl rfl rfl (by decide +kernel) ⟨(Nat.le_of_ble_eq_true rfl), (Nat.le_of_ble_eq_true rfl)⟩) ⟨fun a U g mk q => by obtain ⟨q0, qZ, qP, qK⟩ := q; exact ⟨q0, zz_call qZ, qP, va_K.moved (u := U) (U := U.calling g mk a) (Vm.Alike.refl U.vm) qK⟩, va_recv hKc hPc (ci := 5) (q0 := 0) rfl rfl, fun U hU hW => ⟨rfl, zz_ro hS hU hW hZ, by rw [hU]; exact hPc, va_K.moved hW.alike hKc⟩⟩ rfl rfl hl.1 rfl (lv_room (Nat.le_of_ble_eq_true rfl)) d_M_due_7 ⟨(Nat.le_of_ble_eq_true rfl), (Nat.le_of_ble_eq_true rfl)⟩)) (fun r_1 hw_2 => ?_)
  obtain rfl : r_1 = 0 := hw_2
  refine lv_if_eq (tgt := 27) hx hb d_M_due_10 (by decide) (fun c_3 => ?_) (fun c_3 => ?_)
  · refine lv_iconst (v := (-1)) hx hb d_M_due_27 (by decide) ?_
    exact W.iret (v := (-1)) hx hb hr (fun t ht hW => ⟨⟨(-1), (), rfl, rfl, trivial⟩, hS.F ht⟩) hS.2.2 d_M_due_28
  · exact absurd (by decide) c_3
set_option maxHeartbeats 4000000 in
set_option maxRecDepth 100000 in
theorem c_Mo_renew (l : Launch) (dC : Nat → ClassId) (dI : Nat → Nat → Nat) (adK adV : Nat → Nat) (a_m : Nat) (p0 : Int32) (p1 : Int32) (a_sa : Nat) (a_mr : Nat) (a_me : Nat) (a_le : Nat) (a_mc : Nat) (a_mt : Nat) (a_mk : Nat) (a_my : Nat) (a_mb : Nat) (a_mx : Nat) (a_ml : Nat) (a_mh : Nat) (a_mf : Nat) (a_mz : Nat) (sz : Nat) : Met l y_M_renew ws_M_renew ({ frames := 1, cells := 0, slots := 0, locals := 21 }) (va_Pc [.ref a_m, .int p0, .int p1] (fun U => U.heap.size = sz ∧ zz adK adV (va_A [(a_m, .inr (5, [.int 0, .ref a_sa, .int 0, .int 0, .int 0, .ref a_mr, .ref a_me, .ref a_le, .int 0, .ref a_mc, .ref a_mt, .ref a_mk, .ref a_my, .ref a_mb, .ref a_mx, .ref a_ml, .int 0, .ref a_mh, .ref a_mf, .int 0, .ref a_mz, .int 0]))] sz) U ∧ va_P (dC, dI) vwCl [(a_m, .inr (5, [.int 0, .ref a_sa, .int 0, .int 0, .int 0, .ref a_mr, .ref a_me, .ref a_le, .int 0, .ref a_mc, .ref a_mt, .ref a_mk, .ref a_my, .ref a_mb, .ref a_mx, .ref a_ml, .int 0, .ref a_mh, .ref a_mf, .int 0, .ref a_mz, .int 0]))] U.heap ∧ va_K (dC, dI) vwCl [] U ∧ va_D (fun _ => True) [(a_m, .inr (5, [.int 0, .ref a_sa, .int 0, .int 0, .int 0, .ref a_mr, .ref a_me, .ref a_le, .int 0, .ref a_mc, .ref a_mt, .ref a_mk, .ref a_my, .ref a_mb, .ref a_mx, .ref a_ml, .int 0, .ref a_mh, .ref a_mf, .int 0, .ref a_mz, .int 0]))])) (va_Qi (fun (r : Int32) (_ : Unit) => r = 0) (fun (_ : Unit) (_ : State) => True) (va_A [(a_m, .inr (5, [.int 0, .ref a_sa, .int 0, .int 0, .int 0, .ref a_mr, .ref a_me, .ref a_le, .int 0, .ref a_mc, .ref a_mt, .ref a_mk, .ref a_my, .ref a_mb, .ref a_mx, .ref a_ml, .int 0, .ref a_mh, .ref a_mf, .int 0, .ref a_mz, .int 0]))] sz)) 0 0 (va_A [(a_m, .inr (5, [.int 0, .ref a_sa, .int 0, .int 0, .int 0, .ref a_mr, .ref a_me, .ref a_le, .int 0, .ref a_mc, .ref a_mt, .ref a_mk, .ref a_my, .ref a_mb, .ref a_mx, .ref a_ml, .int 0, .ref a_mh, .ref a_mf, .int 0, .ref a_mz, .int 0]))] sz) := by
  refine Met.ofW (cc := c_M_renew) (maxL := 7) (ret := (some .int)) (by decide) rfl ?_
  intro p e s m args below meth c s₁ B hml hv
  obtain ⟨rfl, hsz, hZ, hP, hK, hD0⟩ := hv
  have hx := B.exec
  have hb := B.bytes
  have hr := B.returns
  have hts0 := atoms_spec (ws := ws_M_renew) B.pre
  have hts : ∀ w ∈ TT, w.before _ s = true := fun w h => hts0 w (List.mem_cons_of_mem _ h)
  have hown : s.vm.findClass "LoanRulesModel" = some m.cls := findClass_of_methodNamed B.named
  have hlocks := B.notSynchronized
  subst hsz
  have hD := hD0.self (sz := s.heap.size)
  generalize hAe : va_A [(a_m, .inr (5, [.int 0, .ref a_sa, .int 0, .int 0, .int 0, .ref a_mr, .ref a_me, .ref a_le, .int 0, .ref a_mc, .ref a_mt, .ref a_mk, .ref a_my, .ref a_mb, .ref a_mx, .ref a_ml, .int 0, .ref a_mh, .ref a_mf, .int 0, .ref a_mz, .int 0]))] s.heap.size = A at hD hZ ⊢
  have hA : ∀ q : Nat, s.heap.size ≤ q → A q := fun q h => by rw [← hAe]; exact Or.inr h
  clear hAe hD0
  have hS : va_S A s.heap s.heap [] := va_S.rf
  replace hP : va_P (dC, dI) vwCl [(a_m, .inr (5, [.int 0, .ref a_sa, .int 0, .int 0, .int 0, .ref a_mr, .ref a_me, .ref a_le, .int 0, .ref a_mc, .ref a_mt, .ref a_mk, .ref a_my, .ref a_mb, .ref a_mx, .ref a_ml, .int 0, .ref a_mh, .ref a_mf, .int 0, .ref a_mz, .int 0]))] s.heap := hP
  have hl := lv_entry ([.ref a_m, .int p0, .int p1]) (n := 7) (Nat.le_of_ble_eq_true rfl)
  rw [lg_entry_eq]
  generalize (lg_sl ([.ref a_m, .int p0, .int p1]) ++ List.replicate (7 - (lg_sl ([.ref a_m, .int p0, .int p1])).length) Slot.unset).toArray = ls at hl ⊢
  replace hl : lv_has ls 7 [(0, .ref a_m), (1, .int p0), (2, .int p1)] := hl
  refine lv_aload_n hx hb d_M_renew_0 rfl (lv_at hl 0 rfl) ?_
  refine lv_iconst (v := 0) hx hb d_M_renew_1 (by decide) ?_
  refine va_put (D := (dC, dI)) (ci := 5) (v := .int 0) (ty := .int) (C := "LoanRulesModel") (T := Fz_M) (N := 22) hx hb hts it_M tz_M tz_M_ok nz_M hown hK hP hD hS 0 rfl rfl 0 (by decide) (hts _ tw_601) (fun _ h9 => h9) rfl (by decide +kernel) rfl rfl (Nat.le_of_ble_eq_true rfl) d_M_renew_2 (fun H locs hP hD hS => ?_)
  replace hP : va_P (dC, dI) vwCl [(a_m, .inr (5, [.int 0, .ref a_sa, .int 0, .int 0, .int 0, .ref a_mr, .ref a_me, .ref a_le, .int 0, .ref a_mc, .ref a_mt, .ref a_mk, .ref a_my, .ref a_mb, .ref a_mx, .ref a_ml, .int 0, .ref a_mh, .ref a_mf, .int 0, .ref a_mz, .int 0]))] H := hP
  replace hD : va_D A [(a_m, .inr (5, [.int 0, .ref a_sa, .int 0, .int 0, .int 0, .ref a_mr, .ref a_me, .ref a_le, .int 0, .ref a_mc, .ref a_mt, .ref a_mk, .ref a_my, .ref a_mb, .ref a_mx, .ref a_ml, .int 0, .ref a_mh, .ref a_mf, .int 0, .ref a_mz, .int 0]))] := hD
  refine lv_aload_n hx hb d_M_renew_5 rfl (lv_at hl 0 rfl) ?_
  refine lv_iload_n hx hb d_M_renew_6 rfl (lv_at hl 1 rfl) ?_
  have hPc := hP.sub (ws' := [(a_m, .inr (5, [.int 0, .ref a_sa, .int 0, .int 0, .int 0, .ref a_mr, .ref a_me, .ref a_le, .int 0, .ref a_mc, .ref a_mt, .ref a_mk, .ref a_my, .ref a_mb, .ref a_mx, .ref a_ml, .int 0, .ref a_mh, .ref a_mf, .int 0, .ref a_mz, .int 0]))]) [0] rfl
  have hKc := hK.sub (tys' := []) [] rfl
  refine vp_callSi (va_Run.run (va_runV (As := [.int p0]) (rest := []) ⟨hx, hb, hml, hown, hts⟩ (c_Mo_isOut l dC dI adK adV (a_m := a_m) (p0 := p0) (a_sa := a_sa) (a_mr := a_mr) (a_me := a_me) (a_le := a_le) (a_mc := a_mc) (a_mt := a_mt) (a_mk := a_mk) (a_my := a_my) (a_mb := a_mb) (a_mx := a_mx) (a_ml := a_ml) (a_mh := a_mh) (a_mf := a_mf) (a_mz := a_mz)) (cwV 1 hts (gV tw_798 tw_800 tw_40 tw_46 tw_801) rfl rfl rfl (by decide +kernel) ⟨(Nat.le_of_ble_eq_true rfl), (Nat.le_of_ble_eq_true rfl)⟩) ⟨fun a U g mk q => by obtain ⟨q0, qZ, qP, qK⟩ := q; exact ⟨q0, zz_call qZ, qP, va_K.moved (u := U) (U := U.calling g mk a) (Vm.Alike.refl U.vm) qK⟩, va_recv hKc hPc (ci := 5) (q0 := 0) rfl rfl, fun U hU hW => ⟨rfl, zz_ro hS hU hW hZ, by rw [hU]; exact hPc, va_K.moved hW.alike hKc⟩⟩ rfl rfl hl.1 rfl (lv_room (Nat.le_of_ble_eq_true rfl)) d_M_renew_7 ⟨(Nat.le_of_ble_eq_true rfl), (Nat.le_of_ble_eq_true rfl)⟩)) (fun r_1 hw_2 => ?_)
  obtain rfl : r_1 = 0 := hw_2
  refine lv_if_eq (tgt := 20) hx hb d_M_renew_10 (by decide) (fun c_3 => ?_) (fun c_3 => ?_)
  · refine lv_iconst (v := 0) hx hb d_M_renew_20 (by decide) ?_
    exact W.iret (v := 0) hx hb hr (fun t ht hW => ⟨⟨0, (), rfl, rfl, trivial⟩, hS.F ht⟩) hS.2.2 d_M_renew_21
  · exact absurd (by decide) c_3
set_option maxHeartbeats 4000000 in
set_option maxRecDepth 100000 in
theorem c_Mo_recall (l : Launch) (dC : Nat → ClassId) (dI : Nat → Nat → Nat) (adK adV : Nat → Nat) (a_m : Nat) (p0 : Int32) (p1 : Int32) (a_sa : Nat) (a_mr : Nat) (a_me : Nat) (a_le : Nat) (a_mc : Nat) (a_mt : Nat) (a_mk : Nat) (a_my : Nat) (a_mb : Nat) (a_mx : Nat) (a_ml : Nat) (a_mh : Nat) (a_mf : Nat) (a_mz : Nat) (sz : Nat) : Met l y_M_recall ws_M_recall ({ frames := 1, cells := 0, slots := 0, locals := 21 }) (va_Pc [.ref a_m, .int p0, .int p1] (fun U => U.heap.size = sz ∧ zz adK adV (va_A [(a_m, .inr (5, [.int 0, .ref a_sa, .int 0, .int 0, .int 0, .ref a_mr, .ref a_me, .ref a_le, .int 0, .ref a_mc, .ref a_mt, .ref a_mk, .ref a_my, .ref a_mb, .ref a_mx, .ref a_ml, .int 0, .ref a_mh, .ref a_mf, .int 0, .ref a_mz, .int 0]))] sz) U ∧ va_P (dC, dI) vwCl [(a_m, .inr (5, [.int 0, .ref a_sa, .int 0, .int 0, .int 0, .ref a_mr, .ref a_me, .ref a_le, .int 0, .ref a_mc, .ref a_mt, .ref a_mk, .ref a_my, .ref a_mb, .ref a_mx, .ref a_ml, .int 0, .ref a_mh, .ref a_mf, .int 0, .ref a_mz, .int 0]))] U.heap ∧ va_K (dC, dI) vwCl [] U ∧ va_D (fun _ => True) [(a_m, .inr (5, [.int 0, .ref a_sa, .int 0, .int 0, .int 0, .ref a_mr, .ref a_me, .ref a_le, .int 0, .ref a_mc, .ref a_mt, .ref a_mk, .ref a_my, .ref a_mb, .ref a_mx, .ref a_ml, .int 0, .ref a_mh, .ref a_mf, .int 0, .ref a_mz, .int 0]))])) (va_Qi (fun (r : Int32) (_ : Unit) => r = 0) (fun (_ : Unit) (_ : State) => True) (va_A [(a_m, .inr (5, [.int 0, .ref a_sa, .int 0, .int 0, .int 0, .ref a_mr, .ref a_me, .ref a_le, .int 0, .ref a_mc, .ref a_mt, .ref a_mk, .ref a_my, .ref a_mb, .ref a_mx, .ref a_ml, .int 0, .ref a_mh, .ref a_mf, .int 0, .ref a_mz, .int 0]))] sz)) 0 0 (va_A [(a_m, .inr (5, [.int 0, .ref a_sa, .int 0, .int 0, .int 0, .ref a_mr, .ref a_me, .ref a_le, .int 0, .ref a_mc, .ref a_mt, .ref a_mk, .ref a_my, .ref a_mb, .ref a_mx, .ref a_ml, .int 0, .ref a_mh, .ref a_mf, .int 0, .ref a_mz, .int 0]))] sz) := by
  refine Met.ofW (cc := c_M_recall) (maxL := 5) (ret := (some .int)) (by decide) rfl ?_
  intro p e s m args below meth c s₁ B hml hv
  obtain ⟨rfl, hsz, hZ, hP, hK, hD0⟩ := hv
  have hx := B.exec
  have hb := B.bytes
  have hr := B.returns
  have hts0 := atoms_spec (ws := ws_M_recall) B.pre
  have hts : ∀ w ∈ TT, w.before _ s = true := fun w h => hts0 w (List.mem_cons_of_mem _ h)
  have hown : s.vm.findClass "LoanRulesModel" = some m.cls := findClass_of_methodNamed B.named
  have hlocks := B.notSynchronized
  subst hsz
  have hD := hD0.self (sz := s.heap.size)
  generalize hAe : va_A [(a_m, .inr (5, [.int 0, .ref a_sa, .int 0, .int 0, .int 0, .ref a_mr, .ref a_me, .ref a_le, .int 0, .ref a_mc, .ref a_mt, .ref a_mk, .ref a_my, .ref a_mb, .ref a_mx, .ref a_ml, .int 0, .ref a_mh, .ref a_mf, .int 0, .ref a_mz, .int 0]))] s.heap.size = A at hD hZ ⊢
  have hA : ∀ q : Nat, s.heap.size ≤ q → A q := fun q h => by rw [← hAe]; exact Or.inr h
  clear hAe hD0
  have hS : va_S A s.heap s.heap [] := va_S.rf
  replace hP : va_P (dC, dI) vwCl [(a_m, .inr (5, [.int 0, .ref a_sa, .int 0, .int 0, .int 0, .ref a_mr, .ref a_me, .ref a_le, .int 0, .ref a_mc, .ref a_mt, .ref a_mk, .ref a_my, .ref a_mb, .ref a_mx, .ref a_ml, .int 0, .ref a_mh, .ref a_mf, .int 0, .ref a_mz, .int 0]))] s.heap := hP
  have hl := lv_entry ([.ref a_m, .int p0, .int p1]) (n := 5) (Nat.le_of_ble_eq_true rfl)
  rw [lg_entry_eq]
  generalize (lg_sl ([.ref a_m, .int p0, .int p1]) ++ List.replicate (5 - (lg_sl ([.ref a_m, .int p0, .int p1])).length) Slot.unset).toArray = ls at hl ⊢
  replace hl : lv_has ls 5 [(0, .ref a_m), (1, .int p0), (2, .int p1)] := hl
  refine lv_aload_n hx hb d_M_recall_0 rfl (lv_at hl 0 rfl) ?_
  refine lv_iconst (v := 0) hx hb d_M_recall_1 (by decide) ?_
  refine va_put (D := (dC, dI)) (ci := 5) (v := .int 0) (ty := .int) (C := "LoanRulesModel") (T := Fz_M) (N := 22) hx hb hts it_M tz_M tz_M_ok nz_M hown hK hP hD hS 0 rfl rfl 0 (by decide) (hts _ tw_601) (fun _ h9 => h9) rfl (by decide +kernel) rfl rfl (Nat.le_of_ble_eq_true rfl) d_M_recall_2 (fun H locs hP hD hS => ?_)
  replace hP : va_P (dC, dI) vwCl [(a_m, .inr (5, [.int 0, .ref a_sa, .int 0, .int 0, .int 0, .ref a_mr, .ref a_me, .ref a_le, .int 0, .ref a_mc, .ref a_mt, .ref a_mk, .ref a_my, .ref a_mb, .ref a_mx, .ref a_ml, .int 0, .ref a_mh, .ref a_mf, .int 0, .ref a_mz, .int 0]))] H := hP
  replace hD : va_D A [(a_m, .inr (5, [.int 0, .ref a_sa, .int 0, .int 0, .int 0, .ref a_mr, .ref a_me, .ref a_le, .int 0, .ref a_mc, .ref a_mt, .ref a_mk, .ref a_my, .ref a_mb, .ref a_mx, .ref a_ml, .int 0, .ref a_mh, .ref a_mf, .int 0, .ref a_mz, .int 0]))] := hD
  refine lv_aload_n hx hb d_M_recall_5 rfl (lv_at hl 0 rfl) ?_
  refine lv_iload_n hx hb d_M_recall_6 rfl (lv_at hl 1 rfl) ?_
  have hPc := hP.sub (ws' := [(a_m, .inr (5, [.int 0, .ref a_sa, .int 0, .int 0, .int 0, .ref a_mr, .ref a_me, .ref a_le, .int 0, .ref a_mc, .ref a_mt, .ref a_mk, .ref a_my, .ref a_mb, .ref a_mx, .ref a_ml, .int 0, .ref a_mh, .ref a_mf, .int 0, .ref a_mz, .int 0]))]) [0] rfl
  have hKc := hK.sub (tys' := []) [] rfl
  refine vp_callSi (va_Run.run (va_runV (As := [.int p0]) (rest := []) ⟨hx, hb, hml, hown, hts⟩ (c_Mo_isOut l dC dI adK adV (a_m := a_m) (p0 := p0) (a_sa := a_sa) (a_mr := a_mr) (a_me := a_me) (a_le := a_le) (a_mc := a_mc) (a_mt := a_mt) (a_mk := a_mk) (a_my := a_my) (a_mb := a_mb) (a_mx := a_mx) (a_ml := a_ml) (a_mh := a_mh) (a_mf := a_mf) (a_mz := a_mz)) (cwV 1 hts (gV tw_798 tw_800 tw_40 tw_46 tw_801) rfl rfl rfl (by decide +kernel) ⟨(Nat.le_of_ble_eq_true rfl), (Nat.le_of_ble_eq_true rfl)⟩) ⟨fun a U g mk q => by obtain ⟨q0, qZ, qP, qK⟩ := q; exact ⟨q0, zz_call qZ, qP, va_K.moved (u := U) (U := U.calling g mk a) (Vm.Alike.refl U.vm) qK⟩, va_recv hKc hPc (ci := 5) (q0 := 0) rfl rfl, fun U hU hW => ⟨rfl, zz_ro hS hU hW hZ, by rw [hU]; exact hPc, va_K.moved hW.alike hKc⟩⟩ rfl rfl hl.1 rfl (lv_room (Nat.le_of_ble_eq_true rfl)) d_M_recall_7 ⟨(Nat.le_of_ble_eq_true rfl), (Nat.le_of_ble_eq_true rfl)⟩)) (fun r_1 hw_2 => ?_)
  obtain rfl : r_1 = 0 := hw_2
  refine lv_if_eq (tgt := 20) hx hb d_M_recall_10 (by decide) (fun c_3 => ?_) (fun c_3 => ?_)
  · refine lv_iconst (v := 0) hx hb d_M_recall_20 (by decide) ?_
    exact W.iret (v := 0) hx hb hr (fun t ht hW => ⟨⟨0, (), rfl, rfl, trivial⟩, hS.F ht⟩) hS.2.2 d_M_recall_21
  · exact absurd (by decide) c_3
set_option maxHeartbeats 4000000 in
set_option maxRecDepth 100000 in
theorem c_Mo_back (l : Launch) (dC : Nat → ClassId) (dI : Nat → Nat → Nat) (adK adV : Nat → Nat) (a_m : Nat) (p0 : Int32) (a_sa : Nat) (a_mr : Nat) (a_me : Nat) (a_le : Nat) (a_mc : Nat) (a_mt : Nat) (a_mk : Nat) (a_my : Nat) (a_mb : Nat) (a_mx : Nat) (a_ml : Nat) (a_mh : Nat) (a_mf : Nat) (a_mz : Nat) (sz : Nat) : Met l y_M_back ws_M_back ({ frames := 1, cells := 0, slots := 0, locals := 21 }) (va_Pc [.ref a_m, .int p0] (fun U => U.heap.size = sz ∧ zz adK adV (va_A [(a_m, .inr (5, [.int 0, .ref a_sa, .int 0, .int 0, .int 0, .ref a_mr, .ref a_me, .ref a_le, .int 0, .ref a_mc, .ref a_mt, .ref a_mk, .ref a_my, .ref a_mb, .ref a_mx, .ref a_ml, .int 0, .ref a_mh, .ref a_mf, .int 0, .ref a_mz, .int 0]))] sz) U ∧ va_P (dC, dI) vwCl [(a_m, .inr (5, [.int 0, .ref a_sa, .int 0, .int 0, .int 0, .ref a_mr, .ref a_me, .ref a_le, .int 0, .ref a_mc, .ref a_mt, .ref a_mk, .ref a_my, .ref a_mb, .ref a_mx, .ref a_ml, .int 0, .ref a_mh, .ref a_mf, .int 0, .ref a_mz, .int 0]))] U.heap ∧ va_K (dC, dI) vwCl [] U ∧ va_D (fun _ => True) [(a_m, .inr (5, [.int 0, .ref a_sa, .int 0, .int 0, .int 0, .ref a_mr, .ref a_me, .ref a_le, .int 0, .ref a_mc, .ref a_mt, .ref a_mk, .ref a_my, .ref a_mb, .ref a_mx, .ref a_ml, .int 0, .ref a_mh, .ref a_mf, .int 0, .ref a_mz, .int 0]))])) (va_Qi (fun (r : Int32) (_ : Unit) => r = 0) (fun (_ : Unit) (_ : State) => True) (va_A [(a_m, .inr (5, [.int 0, .ref a_sa, .int 0, .int 0, .int 0, .ref a_mr, .ref a_me, .ref a_le, .int 0, .ref a_mc, .ref a_mt, .ref a_mk, .ref a_my, .ref a_mb, .ref a_mx, .ref a_ml, .int 0, .ref a_mh, .ref a_mf, .int 0, .ref a_mz, .int 0]))] sz)) 0 0 (va_A [(a_m, .inr (5, [.int 0, .ref a_sa, .int 0, .int 0, .int 0, .ref a_mr, .ref a_me, .ref a_le, .int 0, .ref a_mc, .ref a_mt, .ref a_mk, .ref a_my, .ref a_mb, .ref a_mx, .ref a_ml, .int 0, .ref a_mh, .ref a_mf, .int 0, .ref a_mz, .int 0]))] sz) := by
  refine Met.ofW (cc := c_M_back) (maxL := 2) (ret := (some .int)) (by decide) rfl ?_
  intro p e s m args below meth c s₁ B hml hv
  obtain ⟨rfl, hsz, hZ, hP, hK, hD0⟩ := hv
  have hx := B.exec
  have hb := B.bytes
  have hr := B.returns
  have hts0 := atoms_spec (ws := ws_M_back) B.pre
  have hts : ∀ w ∈ TT, w.before _ s = true := fun w h => hts0 w (List.mem_cons_of_mem _ h)
  have hown : s.vm.findClass "LoanRulesModel" = some m.cls := findClass_of_methodNamed B.named
  have hlocks := B.notSynchronized
  subst hsz
  have hD := hD0.self (sz := s.heap.size)
  generalize hAe : va_A [(a_m, .inr (5, [.int 0, .ref a_sa, .int 0, .int 0, .int 0, .ref a_mr, .ref a_me, .ref a_le, .int 0, .ref a_mc, .ref a_mt, .ref a_mk, .ref a_my, .ref a_mb, .ref a_mx, .ref a_ml, .int 0, .ref a_mh, .ref a_mf, .int 0, .ref a_mz, .int 0]))] s.heap.size = A at hD hZ ⊢
  have hA : ∀ q : Nat, s.heap.size ≤ q → A q := fun q h => by rw [← hAe]; exact Or.inr h
  clear hAe hD0
  have hS : va_S A s.heap s.heap [] := va_S.rf
  replace hP : va_P (dC, dI) vwCl [(a_m, .inr (5, [.int 0, .ref a_sa, .int 0, .int 0, .int 0, .ref a_mr, .ref a_me, .ref a_le, .int 0, .ref a_mc, .ref a_mt, .ref a_mk, .ref a_my, .ref a_mb, .ref a_mx, .ref a_ml, .int 0, .ref a_mh, .ref a_mf, .int 0, .ref a_mz, .int 0]))] s.heap := hP
  have hl := lv_entry ([.ref a_m, .int p0]) (n := 2) (Nat.le_of_ble_eq_true rfl)
  rw [lg_entry_eq]
  generalize (lg_sl ([.ref a_m, .int p0]) ++ List.replicate (2 - (lg_sl ([.ref a_m, .int p0])).length) Slot.unset).toArray = ls at hl ⊢
  replace hl : lv_has ls 2 [(0, .ref a_m), (1, .int p0)] := hl
  refine lv_aload_n hx hb d_M_back_0 rfl (lv_at hl 0 rfl) ?_
  refine lv_iconst (v := 0) hx hb d_M_back_1 (by decide) ?_
  refine va_put (D := (dC, dI)) (ci := 5) (v := .int 0) (ty := .int) (C := "LoanRulesModel") (T := Fz_M) (N := 22) hx hb hts it_M tz_M tz_M_ok nz_M hown hK hP hD hS 0 rfl rfl 0 (by decide) (hts _ tw_601) (fun _ h9 => h9) rfl (by decide +kernel) rfl rfl (Nat.le_of_ble_eq_true rfl) d_M_back_2 (fun H locs hP hD hS => ?_)
  replace hP : va_P (dC, dI) vwCl [(a_m, .inr (5, [.int 0, .ref a_sa, .int 0, .int 0, .int 0, .ref a_mr, .ref a_me, .ref a_le, .int 0, .ref a_mc, .ref a_mt, .ref a_mk, .ref a_my, .ref a_mb, .ref a_mx, .ref a_ml, .int 0, .ref a_mh, .ref a_mf, .int 0, .ref a_mz, .int 0]))] H := hP
  replace hD : va_D A [(a_m, .inr (5, [.int 0, .ref a_sa, .int 0, .int 0, .int 0, .ref a_mr, .ref a_me, .ref a_le, .int 0, .ref a_mc, .ref a_mt, .ref a_mk, .ref a_my, .ref a_mb, .ref a_mx, .ref a_ml, .int 0, .ref a_mh, .ref a_mf, .int 0, .ref a_mz, .int 0]))] := hD
  refine lv_aload_n hx hb d_M_back_5 rfl (lv_at hl 0 rfl) ?_
  refine lv_iload_n hx hb d_M_back_6 rfl (lv_at hl 1 rfl) ?_
  have hPc := hP.sub (ws' := [(a_m, .inr (5, [.int 0, .ref a_sa, .int 0, .int 0, .int 0, .ref a_mr, .ref a_me, .ref a_le, .int 0, .ref a_mc, .ref a_mt, .ref a_mk, .ref a_my, .ref a_mb, .ref a_mx, .ref a_ml, .int 0, .ref a_mh, .ref a_mf, .int 0, .ref a_mz, .int 0]))]) [0] rfl
  have hKc := hK.sub (tys' := []) [] rfl
  refine vp_callSi (va_Run.run (va_runV (As := [.int p0]) (rest := []) ⟨hx, hb, hml, hown, hts⟩ (c_Mo_isOut l dC dI adK adV (a_m := a_m) (p0 := p0) (a_sa := a_sa) (a_mr := a_mr) (a_me := a_me) (a_le := a_le) (a_mc := a_mc) (a_mt := a_mt) (a_mk := a_mk) (a_my := a_my) (a_mb := a_mb) (a_mx := a_mx) (a_ml := a_ml) (a_mh := a_mh) (a_mf := a_mf) (a_mz := a_mz)) (cwV 1 hts (gV tw_798 tw_800 tw_40 tw_46 tw_801) rfl rfl rfl (by decide +kernel) ⟨(Nat.le_of_ble_eq_true rfl), (Nat.le_of_ble_eq_true rfl)⟩) ⟨fun a U g mk q => by obtain ⟨q0, qZ, qP, qK⟩ := q; exact ⟨q0, zz_call qZ, qP, va_K.moved (u := U) (U := U.calling g mk a) (Vm.Alike.refl U.vm) qK⟩, va_recv hKc hPc (ci := 5) (q0 := 0) rfl rfl, fun U hU hW => ⟨rfl, zz_ro hS hU hW hZ, by rw [hU]; exact hPc, va_K.moved hW.alike hKc⟩⟩ rfl rfl hl.1 rfl (lv_room (Nat.le_of_ble_eq_true rfl)) d_M_back_7 ⟨(Nat.le_of_ble_eq_true rfl), (Nat.le_of_ble_eq_true rfl)⟩)) (fun r_1 hw_2 => ?_)
  obtain rfl : r_1 = 0 := hw_2
  refine lv_if_ne (tgt := 15) hx hb d_M_back_10 (by decide) (fun c_3 => ?_) (fun c_3 => ?_)
  · exact absurd (by decide) c_3
  · refine lv_iconst (v := 0) hx hb d_M_back_13 (by decide) ?_
    exact W.iret (v := 0) hx hb hr (fun t ht hW => ⟨⟨0, (), rfl, rfl, trivial⟩, hS.F ht⟩) hS.2.2 d_M_back_14
set_option maxHeartbeats 4000000 in
set_option maxRecDepth 100000 in
theorem c_Mo_explain (l : Launch) (dC : Nat → ClassId) (dI : Nat → Nat → Nat) (adK adV : Nat → Nat) (a_m : Nat) (p0 : Int32) (a_sa : Nat) (a_mr : Nat) (a_me : Nat) (a_le : Nat) (a_mc : Nat) (a_mt : Nat) (a_mk : Nat) (a_my : Nat) (a_mb : Nat) (a_mx : Nat) (a_ml : Nat) (a_mh : Nat) (a_mf : Nat) (a_mz : Nat) (sz : Nat) : Met l y_M_explain ws_M_explain ({ frames := 0, cells := 0, slots := 0, locals := 0 }) (va_Pc [.ref a_m, .int p0] (fun U => U.heap.size = sz ∧ zz adK adV (va_A [(a_m, .inr (5, [.int 0, .ref a_sa, .int 0, .int 0, .int 0, .ref a_mr, .ref a_me, .ref a_le, .int 0, .ref a_mc, .ref a_mt, .ref a_mk, .ref a_my, .ref a_mb, .ref a_mx, .ref a_ml, .int 0, .ref a_mh, .ref a_mf, .int 0, .ref a_mz, .int 0]))] sz) U ∧ va_P (dC, dI) vwCl [(a_m, .inr (5, [.int 0, .ref a_sa, .int 0, .int 0, .int 0, .ref a_mr, .ref a_me, .ref a_le, .int 0, .ref a_mc, .ref a_mt, .ref a_mk, .ref a_my, .ref a_mb, .ref a_mx, .ref a_ml, .int 0, .ref a_mh, .ref a_mf, .int 0, .ref a_mz, .int 0]))] U.heap ∧ va_K (dC, dI) vwCl [] U ∧ va_D (fun _ => True) [(a_m, .inr (5, [.int 0, .ref a_sa, .int 0, .int 0, .int 0, .ref a_mr, .ref a_me, .ref a_le, .int 0, .ref a_mc, .ref a_mt, .ref a_mk, .ref a_my, .ref a_mb, .ref a_mx, .ref a_ml, .int 0, .ref a_mh, .ref a_mf, .int 0, .ref a_mz, .int 0]))])) (va_Qi (fun (r : Int32) (_ : Unit) => r = (-1)) (fun (_ : Unit) (_ : State) => True) (va_A [(a_m, .inr (5, [.int 0, .ref a_sa, .int 0, .int 0, .int 0, .ref a_mr, .ref a_me, .ref a_le, .int 0, .ref a_mc, .ref a_mt, .ref a_mk, .ref a_my, .ref a_mb, .ref a_mx, .ref a_ml, .int 0, .ref a_mh, .ref a_mf, .int 0, .ref a_mz, .int 0]))] sz)) 0 0 (va_A [(a_m, .inr (5, [.int 0, .ref a_sa, .int 0, .int 0, .int 0, .ref a_mr, .ref a_me, .ref a_le, .int 0, .ref a_mc, .ref a_mt, .ref a_mk, .ref a_my, .ref a_mb, .ref a_mx, .ref a_ml, .int 0, .ref a_mh, .ref a_mf, .int 0, .ref a_mz, .int 0]))] sz) := by
  refine Met.ofW (cc := c_M_explain) (maxL := 2) (ret := (some .int)) (by decide) rfl ?_
  intro p e s m args below meth c s₁ B hml hv
  obtain ⟨rfl, hsz, hZ, hP, hK, hD0⟩ := hv
  have hx := B.exec
  have hb := B.bytes
  have hr := B.returns
  have hts0 := atoms_spec (ws := ws_M_explain) B.pre
  have hts : ∀ w ∈ TT, w.before _ s = true := fun w h => hts0 w (List.mem_cons_of_mem _ h)
  have hown : s.vm.findClass "LoanRulesModel" = some m.cls := findClass_of_methodNamed B.named
  have hlocks := B.notSynchronized
  subst hsz
  have hD := hD0.self (sz := s.heap.size)
  generalize hAe : va_A [(a_m, .inr (5, [.int 0, .ref a_sa, .int 0, .int 0, .int 0, .ref a_mr, .ref a_me, .ref a_le, .int 0, .ref a_mc, .ref a_mt, .ref a_mk, .ref a_my, .ref a_mb, .ref a_mx, .ref a_ml, .int 0, .ref a_mh, .ref a_mf, .int 0, .ref a_mz, .int 0]))] s.heap.size = A at hD hZ ⊢
  have hA : ∀ q : Nat, s.heap.size ≤ q → A q := fun q h => by rw [← hAe]; exact Or.inr h
  clear hAe hD0
  have hS : va_S A s.heap s.heap [] := va_S.rf
  replace hP : va_P (dC, dI) vwCl [(a_m, .inr (5, [.int 0, .ref a_sa, .int 0, .int 0, .int 0, .ref a_mr, .ref a_me, .ref a_le, .int 0, .ref a_mc, .ref a_mt, .ref a_mk, .ref a_my, .ref a_mb, .ref a_mx, .ref a_ml, .int 0, .ref a_mh, .ref a_mf, .int 0, .ref a_mz, .int 0]))] s.heap := hP
  have hl := lv_entry ([.ref a_m, .int p0]) (n := 2) (Nat.le_of_ble_eq_true rfl)
  rw [lg_entry_eq]
  generalize (lg_sl ([.ref a_m, .int p0]) ++ List.replicate (2 - (lg_sl ([.ref a_m, .int p0])).length) Slot.unset).toArray = ls at hl ⊢
  replace hl : lv_has ls 2 [(0, .ref a_m), (1, .int p0)] := hl
  refine lv_aload_n hx hb d_M_explain_0 rfl (lv_at hl 0 rfl) ?_
  refine lv_iconst (v := 0) hx hb d_M_explain_1 (by decide) ?_
  refine va_put (D := (dC, dI)) (ci := 5) (v := .int 0) (ty := .int) (C := "LoanRulesModel") (T := Fz_M) (N := 22) hx hb hts it_M tz_M tz_M_ok nz_M hown hK hP hD hS 0 rfl rfl 0 (by decide) (hts _ tw_601) (fun _ h9 => h9) rfl (by decide +kernel) rfl rfl (Nat.le_of_ble_eq_true rfl) d_M_explain_2 (fun H locs hP hD hS => ?_)
  replace hP : va_P (dC, dI) vwCl [(a_m, .inr (5, [.int 0, .ref a_sa, .int 0, .int 0, .int 0, .ref a_mr, .ref a_me, .ref a_le, .int 0, .ref a_mc, .ref a_mt, .ref a_mk, .ref a_my, .ref a_mb, .ref a_mx, .ref a_ml, .int 0, .ref a_mh, .ref a_mf, .int 0, .ref a_mz, .int 0]))] H := hP
  replace hD : va_D A [(a_m, .inr (5, [.int 0, .ref a_sa, .int 0, .int 0, .int 0, .ref a_mr, .ref a_me, .ref a_le, .int 0, .ref a_mc, .ref a_mt, .ref a_mk, .ref a_my, .ref a_mb, .ref a_mx, .ref a_ml, .int 0, .ref a_mh, .ref a_mf, .int 0, .ref a_mz, .int 0]))] := hD
  refine lv_iload_n hx hb d_M_explain_5 rfl (lv_at hl 1 rfl) ?_
  refine lv_if_lt (tgt := 17) hx hb d_M_explain_6 (by decide) (fun c_1 => ?_) (fun c_1 => ?_)
  · refine lv_iconst (v := (-1)) hx hb d_M_explain_17 (by decide) ?_
    refine lv_goto (tgt := 27) hx hb d_M_explain_18 (by decide) ?_
    exact W.iret (v := (-1)) hx hb hr (fun t ht hW => ⟨⟨(-1), (), rfl, rfl, trivial⟩, hS.F ht⟩) hS.2.2 d_M_explain_27
  · refine lv_iload_n hx hb d_M_explain_9 rfl (lv_at hl 1 rfl) ?_
    refine lv_aload_n hx hb d_M_explain_10 rfl (lv_at hl 0 rfl) ?_
    refine va_get (D := (dC, dI)) (ci := 5) (v := .int 0) (C := "LoanRulesModel") (T := Fz_M) (N := 22) hx hb hts it_M hown hK hP 0 rfl rfl 19 (by decide) (hts _ tw_620) (fun _ h9 => h9) rfl d_M_explain_11 ?_
    refine lv_icmp_lt (tgt := 21) hx hb d_M_explain_14 (by decide) (fun c_2 => ?_) (fun c_2 => ?_)
    · exact absurd c_2 c_1
    · refine lv_iconst (v := (-1)) hx hb d_M_explain_17 (by decide) ?_
      refine lv_goto (tgt := 27) hx hb d_M_explain_18 (by decide) ?_
      exact W.iret (v := (-1)) hx hb hr (fun t ht hW => ⟨⟨(-1), (), rfl, rfl, trivial⟩, hS.F ht⟩) hS.2.2 d_M_explain_27
set_option maxHeartbeats 4000000 in
set_option maxRecDepth 100000 in
theorem c_Mo_never (l : Launch) (dC : Nat → ClassId) (dI : Nat → Nat → Nat) (adK adV : Nat → Nat) (a_m : Nat) (p0 : Int32) (a_sa : Nat) (a_mr : Nat) (a_me : Nat) (a_le : Nat) (a_mc : Nat) (a_mt : Nat) (a_mk : Nat) (a_my : Nat) (a_mb : Nat) (a_mx : Nat) (a_ml : Nat) (a_mh : Nat) (a_mf : Nat) (a_mz : Nat) (sz : Nat) : Met l y_M_never ws_M_never ({ frames := 0, cells := 0, slots := 0, locals := 0 }) (va_Pc [.ref a_m, .int p0] (fun U => U.heap.size = sz ∧ zz adK adV (va_A [(a_m, .inr (5, [.int 0, .ref a_sa, .int 0, .int 0, .int 0, .ref a_mr, .ref a_me, .ref a_le, .int 0, .ref a_mc, .ref a_mt, .ref a_mk, .ref a_my, .ref a_mb, .ref a_mx, .ref a_ml, .int 0, .ref a_mh, .ref a_mf, .int 0, .ref a_mz, .int 0]))] sz) U ∧ va_P (dC, dI) vwCl [(a_m, .inr (5, [.int 0, .ref a_sa, .int 0, .int 0, .int 0, .ref a_mr, .ref a_me, .ref a_le, .int 0, .ref a_mc, .ref a_mt, .ref a_mk, .ref a_my, .ref a_mb, .ref a_mx, .ref a_ml, .int 0, .ref a_mh, .ref a_mf, .int 0, .ref a_mz, .int 0]))] U.heap ∧ va_K (dC, dI) vwCl [] U ∧ va_D (fun _ => True) [(a_m, .inr (5, [.int 0, .ref a_sa, .int 0, .int 0, .int 0, .ref a_mr, .ref a_me, .ref a_le, .int 0, .ref a_mc, .ref a_mt, .ref a_mk, .ref a_my, .ref a_mb, .ref a_mx, .ref a_ml, .int 0, .ref a_mh, .ref a_mf, .int 0, .ref a_mz, .int 0]))])) (va_Qi (fun (r : Int32) (_ : Unit) => r = (-1)) (fun (_ : Unit) (_ : State) => True) (va_A [(a_m, .inr (5, [.int 0, .ref a_sa, .int 0, .int 0, .int 0, .ref a_mr, .ref a_me, .ref a_le, .int 0, .ref a_mc, .ref a_mt, .ref a_mk, .ref a_my, .ref a_mb, .ref a_mx, .ref a_ml, .int 0, .ref a_mh, .ref a_mf, .int 0, .ref a_mz, .int 0]))] sz)) 0 0 (va_A [(a_m, .inr (5, [.int 0, .ref a_sa, .int 0, .int 0, .int 0, .ref a_mr, .ref a_me, .ref a_le, .int 0, .ref a_mc, .ref a_mt, .ref a_mk, .ref a_my, .ref a_mb, .ref a_mx, .ref a_ml, .int 0, .ref a_mh, .ref a_mf, .int 0, .ref a_mz, .int 0]))] sz) := by
  refine Met.ofW (cc := c_M_never) (maxL := 4) (ret := (some .int)) (by decide) rfl ?_
  intro p e s m args below meth c s₁ B hml hv
  obtain ⟨rfl, hsz, hZ, hP, hK, hD0⟩ := hv
  have hx := B.exec
  have hb := B.bytes
  have hr := B.returns
  have hts0 := atoms_spec (ws := ws_M_never) B.pre
  have hts : ∀ w ∈ TT, w.before _ s = true := fun w h => hts0 w (List.mem_cons_of_mem _ h)
  have hown : s.vm.findClass "LoanRulesModel" = some m.cls := findClass_of_methodNamed B.named
  have hlocks := B.notSynchronized
  subst hsz
  have hD := hD0.self (sz := s.heap.size)
  generalize hAe : va_A [(a_m, .inr (5, [.int 0, .ref a_sa, .int 0, .int 0, .int 0, .ref a_mr, .ref a_me, .ref a_le, .int 0, .ref a_mc, .ref a_mt, .ref a_mk, .ref a_my, .ref a_mb, .ref a_mx, .ref a_ml, .int 0, .ref a_mh, .ref a_mf, .int 0, .ref a_mz, .int 0]))] s.heap.size = A at hD hZ ⊢
  have hA : ∀ q : Nat, s.heap.size ≤ q → A q := fun q h => by rw [← hAe]; exact Or.inr h
  clear hAe hD0
  have hS : va_S A s.heap s.heap [] := va_S.rf
  replace hP : va_P (dC, dI) vwCl [(a_m, .inr (5, [.int 0, .ref a_sa, .int 0, .int 0, .int 0, .ref a_mr, .ref a_me, .ref a_le, .int 0, .ref a_mc, .ref a_mt, .ref a_mk, .ref a_my, .ref a_mb, .ref a_mx, .ref a_ml, .int 0, .ref a_mh, .ref a_mf, .int 0, .ref a_mz, .int 0]))] s.heap := hP
  have hl := lv_entry ([.ref a_m, .int p0]) (n := 4) (Nat.le_of_ble_eq_true rfl)
  rw [lg_entry_eq]
  generalize (lg_sl ([.ref a_m, .int p0]) ++ List.replicate (4 - (lg_sl ([.ref a_m, .int p0])).length) Slot.unset).toArray = ls at hl ⊢
  replace hl : lv_has ls 4 [(0, .ref a_m), (1, .int p0)] := hl
  refine lv_aload_n hx hb d_M_never_0 rfl (lv_at hl 0 rfl) ?_
  refine lv_iconst (v := 0) hx hb d_M_never_1 (by decide) ?_
  refine va_put (D := (dC, dI)) (ci := 5) (v := .int 0) (ty := .int) (C := "LoanRulesModel") (T := Fz_M) (N := 22) hx hb hts it_M tz_M tz_M_ok nz_M hown hK hP hD hS 0 rfl rfl 0 (by decide) (hts _ tw_601) (fun _ h9 => h9) rfl (by decide +kernel) rfl rfl (Nat.le_of_ble_eq_true rfl) d_M_never_2 (fun H locs hP hD hS => ?_)
  replace hP : va_P (dC, dI) vwCl [(a_m, .inr (5, [.int 0, .ref a_sa, .int 0, .int 0, .int 0, .ref a_mr, .ref a_me, .ref a_le, .int 0, .ref a_mc, .ref a_mt, .ref a_mk, .ref a_my, .ref a_mb, .ref a_mx, .ref a_ml, .int 0, .ref a_mh, .ref a_mf, .int 0, .ref a_mz, .int 0]))] H := hP
  replace hD : va_D A [(a_m, .inr (5, [.int 0, .ref a_sa, .int 0, .int 0, .int 0, .ref a_mr, .ref a_me, .ref a_le, .int 0, .ref a_mc, .ref a_mt, .ref a_mk, .ref a_my, .ref a_mb, .ref a_mx, .ref a_ml, .int 0, .ref a_mh, .ref a_mf, .int 0, .ref a_mz, .int 0]))] := hD
  refine lv_iconst (v := 0) hx hb d_M_never_5 (by decide) ?_
  refine lv_istore_n (lv' := [(2, .int 0), (0, .ref a_m), (1, .int p0)]) hx hb d_M_never_6 rfl hl (by decide) rfl (fun ls hl => ?_)
  refine lv_iconst (v := 0) hx hb d_M_never_7 (by decide) ?_
  refine lv_istore_n (lv' := [(3, .int 0), (2, .int 0), (0, .ref a_m), (1, .int p0)]) hx hb d_M_never_8 rfl hl (by decide) rfl (fun ls hl => ?_)
  refine lv_iload_n hx hb d_M_never_9 rfl (lv_at hl 0 rfl) ?_
  refine lv_aload_n hx hb d_M_never_10 rfl (lv_at hl 2 rfl) ?_
  refine va_get (D := (dC, dI)) (ci := 5) (v := .int 0) (C := "LoanRulesModel") (T := Fz_M) (N := 22) hx hb hts it_M hown hK hP 0 rfl rfl 8 (by decide) (hts _ tw_609) (fun _ h9 => h9) rfl d_M_never_11 ?_
  refine lv_icmp_ge (tgt := 46) hx hb d_M_never_14 (by decide) (fun c_1 => ?_) (fun c_1 => ?_)
  · refine lv_iconst (v := (-1)) hx hb d_M_never_46 (by decide) ?_
    exact W.iret (v := (-1)) hx hb hr (fun t ht hW => ⟨⟨(-1), (), rfl, rfl, trivial⟩, hS.F ht⟩) hS.2.2 d_M_never_47
  · exact absurd (by decide) c_1
set_option maxHeartbeats 4000000 in
set_option maxRecDepth 100000 in
theorem c_Mo_clash (l : Launch) (dC : Nat → ClassId) (dI : Nat → Nat → Nat) (adK adV : Nat → Nat) (a_m : Nat) (p0 : Int32) (p1 : Int32) (a_sa : Nat) (a_mr : Nat) (a_me : Nat) (a_le : Nat) (a_mc : Nat) (a_mt : Nat) (a_mk : Nat) (a_my : Nat) (a_mb : Nat) (a_mx : Nat) (a_ml : Nat) (a_mh : Nat) (a_mf : Nat) (a_mz : Nat) (sz : Nat) : Met l y_M_clash ws_M_clash ({ frames := 0, cells := 0, slots := 0, locals := 0 }) (va_Pc [.ref a_m, .int p0, .int p1] (fun U => U.heap.size = sz ∧ zz adK adV (va_A [(a_m, .inr (5, [.int 0, .ref a_sa, .int 0, .int 0, .int 0, .ref a_mr, .ref a_me, .ref a_le, .int 0, .ref a_mc, .ref a_mt, .ref a_mk, .ref a_my, .ref a_mb, .ref a_mx, .ref a_ml, .int 0, .ref a_mh, .ref a_mf, .int 0, .ref a_mz, .int 0]))] sz) U ∧ va_P (dC, dI) vwCl [(a_m, .inr (5, [.int 0, .ref a_sa, .int 0, .int 0, .int 0, .ref a_mr, .ref a_me, .ref a_le, .int 0, .ref a_mc, .ref a_mt, .ref a_mk, .ref a_my, .ref a_mb, .ref a_mx, .ref a_ml, .int 0, .ref a_mh, .ref a_mf, .int 0, .ref a_mz, .int 0]))] U.heap ∧ va_K (dC, dI) vwCl [] U ∧ va_D (fun _ => True) [(a_m, .inr (5, [.int 0, .ref a_sa, .int 0, .int 0, .int 0, .ref a_mr, .ref a_me, .ref a_le, .int 0, .ref a_mc, .ref a_mt, .ref a_mk, .ref a_my, .ref a_mb, .ref a_mx, .ref a_ml, .int 0, .ref a_mh, .ref a_mf, .int 0, .ref a_mz, .int 0]))])) (va_Qi (fun (r : Int32) (_ : Unit) => r = (-1)) (fun (_ : Unit) (_ : State) => True) (va_A [(a_m, .inr (5, [.int 0, .ref a_sa, .int 0, .int 0, .int 0, .ref a_mr, .ref a_me, .ref a_le, .int 0, .ref a_mc, .ref a_mt, .ref a_mk, .ref a_my, .ref a_mb, .ref a_mx, .ref a_ml, .int 0, .ref a_mh, .ref a_mf, .int 0, .ref a_mz, .int 0]))] sz)) 0 0 (va_A [(a_m, .inr (5, [.int 0, .ref a_sa, .int 0, .int 0, .int 0, .ref a_mr, .ref a_me, .ref a_le, .int 0, .ref a_mc, .ref a_mt, .ref a_mk, .ref a_my, .ref a_mb, .ref a_mx, .ref a_ml, .int 0, .ref a_mh, .ref a_mf, .int 0, .ref a_mz, .int 0]))] sz) := by
  refine Met.ofW (cc := c_M_clash) (maxL := 3) (ret := (some .int)) (by decide) rfl ?_
  intro p e s m args below meth c s₁ B hml hv
  obtain ⟨rfl, hsz, hZ, hP, hK, hD0⟩ := hv
  have hx := B.exec
  have hb := B.bytes
  have hr := B.returns
  have hts0 := atoms_spec (ws := ws_M_clash) B.pre
  have hts : ∀ w ∈ TT, w.before _ s = true := fun w h => hts0 w (List.mem_cons_of_mem _ h)
  have hown : s.vm.findClass "LoanRulesModel" = some m.cls := findClass_of_methodNamed B.named
  have hlocks := B.notSynchronized
  subst hsz
  have hD := hD0.self (sz := s.heap.size)
  generalize hAe : va_A [(a_m, .inr (5, [.int 0, .ref a_sa, .int 0, .int 0, .int 0, .ref a_mr, .ref a_me, .ref a_le, .int 0, .ref a_mc, .ref a_mt, .ref a_mk, .ref a_my, .ref a_mb, .ref a_mx, .ref a_ml, .int 0, .ref a_mh, .ref a_mf, .int 0, .ref a_mz, .int 0]))] s.heap.size = A at hD hZ ⊢
  have hA : ∀ q : Nat, s.heap.size ≤ q → A q := fun q h => by rw [← hAe]; exact Or.inr h
  clear hAe hD0
  have hS : va_S A s.heap s.heap [] := va_S.rf
  replace hP : va_P (dC, dI) vwCl [(a_m, .inr (5, [.int 0, .ref a_sa, .int 0, .int 0, .int 0, .ref a_mr, .ref a_me, .ref a_le, .int 0, .ref a_mc, .ref a_mt, .ref a_mk, .ref a_my, .ref a_mb, .ref a_mx, .ref a_ml, .int 0, .ref a_mh, .ref a_mf, .int 0, .ref a_mz, .int 0]))] s.heap := hP
  have hl := lv_entry ([.ref a_m, .int p0, .int p1]) (n := 3) (Nat.le_of_ble_eq_true rfl)
  rw [lg_entry_eq]
  generalize (lg_sl ([.ref a_m, .int p0, .int p1]) ++ List.replicate (3 - (lg_sl ([.ref a_m, .int p0, .int p1])).length) Slot.unset).toArray = ls at hl ⊢
  replace hl : lv_has ls 3 [(0, .ref a_m), (1, .int p0), (2, .int p1)] := hl
  refine lv_aload_n hx hb d_M_clash_0 rfl (lv_at hl 0 rfl) ?_
  refine lv_iconst (v := 0) hx hb d_M_clash_1 (by decide) ?_
  refine va_put (D := (dC, dI)) (ci := 5) (v := .int 0) (ty := .int) (C := "LoanRulesModel") (T := Fz_M) (N := 22) hx hb hts it_M tz_M tz_M_ok nz_M hown hK hP hD hS 0 rfl rfl 0 (by decide) (hts _ tw_601) (fun _ h9 => h9) rfl (by decide +kernel) rfl rfl (Nat.le_of_ble_eq_true rfl) d_M_clash_2 (fun H locs hP hD hS => ?_)
  replace hP : va_P (dC, dI) vwCl [(a_m, .inr (5, [.int 0, .ref a_sa, .int 0, .int 0, .int 0, .ref a_mr, .ref a_me, .ref a_le, .int 0, .ref a_mc, .ref a_mt, .ref a_mk, .ref a_my, .ref a_mb, .ref a_mx, .ref a_ml, .int 0, .ref a_mh, .ref a_mf, .int 0, .ref a_mz, .int 0]))] H := hP
  replace hD : va_D A [(a_m, .inr (5, [.int 0, .ref a_sa, .int 0, .int 0, .int 0, .ref a_mr, .ref a_me, .ref a_le, .int 0, .ref a_mc, .ref a_mt, .ref a_mk, .ref a_my, .ref a_mb, .ref a_mx, .ref a_ml, .int 0, .ref a_mh, .ref a_mf, .int 0, .ref a_mz, .int 0]))] := hD
  refine lv_iload_n hx hb d_M_clash_5 rfl (lv_at hl 1 rfl) ?_
  refine lv_if_lt (tgt := 26) hx hb d_M_clash_6 (by decide) (fun c_1 => ?_) (fun c_1 => ?_)
  · refine lv_iconst (v := (-1)) hx hb d_M_clash_26 (by decide) ?_
    refine lv_goto (tgt := 40) hx hb d_M_clash_27 (by decide) ?_
    exact W.iret (v := (-1)) hx hb hr (fun t ht hW => ⟨⟨(-1), (), rfl, rfl, trivial⟩, hS.F ht⟩) hS.2.2 d_M_clash_40
  · refine lv_iload_n hx hb d_M_clash_9 rfl (lv_at hl 1 rfl) ?_
    refine lv_aload_n hx hb d_M_clash_10 rfl (lv_at hl 0 rfl) ?_
    refine va_get (D := (dC, dI)) (ci := 5) (v := .int 0) (C := "LoanRulesModel") (T := Fz_M) (N := 22) hx hb hts it_M hown hK hP 0 rfl rfl 21 (by decide) (hts _ tw_622) (fun _ h9 => h9) rfl d_M_clash_11 ?_
    refine lv_icmp_ge (tgt := 26) hx hb d_M_clash_14 (by decide) (fun c_2 => ?_) (fun c_2 => ?_)
    · refine lv_iconst (v := (-1)) hx hb d_M_clash_26 (by decide) ?_
      refine lv_goto (tgt := 40) hx hb d_M_clash_27 (by decide) ?_
      exact W.iret (v := (-1)) hx hb hr (fun t ht hW => ⟨⟨(-1), (), rfl, rfl, trivial⟩, hS.F ht⟩) hS.2.2 d_M_clash_40
    · exact absurd (lk_no c_1) c_2
end
