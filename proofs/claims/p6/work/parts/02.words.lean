/-- the words that may be handed on -/
def TT : List Cond := lw_tbl.filter goodWord
theorem tt_of {w : Cond} (i : Nat) (h : lw_tbl[i]? = some w) (g : goodWord w = true) : w ∈ TT := List.mem_filter.mpr ⟨List.mem_of_getElem? h, g⟩
theorem tt_good {w : Cond} (h : w ∈ TT) : w ∈ TT ∧ ((w.onTables && w.keeps) = true ∨ ∃ ty, w = .arrayClass ty) := ⟨h, good_of_word (List.mem_filter.mp h).2⟩
theorem tt_l (ws : List Cond) (ps : List Nat) (hp : ws = ps.filterMap (fun i => lw_tbl[i]?)) (h : ws.all goodWord = true) : ∀ w ∈ ws, w ∈ TT := by
  intro w hw
  have h1 := List.all_eq_true.mp h w hw
  rw [hp] at hw
  obtain ⟨i, -, hi⟩ := List.mem_filterMap.mp hw
  exact List.mem_filter.mpr ⟨List.mem_of_getElem? hi, h1⟩
theorem gI {cw : Cond} (h : cw ∈ TT) : GoodIn TT (cw :: TT) := fun w hw => (List.mem_cons.mp hw).elim (fun e => e ▸ tt_good h) tt_good
theorem gV {own C : String} {idx : Nat} {y : MethodName} {cw : Cond} (h1 : Cond.methodLink own idx y ∈ TT) (h2 : Cond.instanceMethod y ∈ TT) (h3 : Cond.selects C y y ∈ TT) (h4 : Cond.initialized C ∈ TT) (h5 : cw ∈ TT) : GoodIn TT (wsV own idx C y (cw :: TT)) := by
  intro w hw
  unfold wsV at hw
  rcases List.mem_append.mp hw with h | h
  · simp only [List.mem_cons, List.not_mem_nil, or_false] at h
    rcases h with rfl | rfl | rfl | rfl
    · exact tt_good h1
    · exact tt_good h2
    · exact tt_good h3
    · exact tt_good h4
  · exact gI h5 w h
theorem gS {own : String} {idx : Nat} {y : MethodName} {cw : Cond} (h1 : Cond.methodLink own idx y ∈ TT) (h2 : Cond.static y ∈ TT) (h4 : Cond.initialized y.cls ∈ TT) (h5 : cw ∈ TT) : GoodIn TT (va_wsS own idx y (cw :: TT)) := by
  intro w hw
  unfold va_wsS at hw
  rcases List.mem_append.mp hw with h | h
  · simp only [List.mem_cons, List.not_mem_nil, or_false] at h
    rcases h with rfl | rfl | rfl
    · exact tt_good h1
    · exact tt_good h2
    · exact tt_good h4
  · exact gI h5 w h
theorem tw_25 : (Cond.selects "LoanRulesModel" ⟨"LoanRulesModel", "reads", "()Z"⟩ ⟨"LoanRulesModel", "reads", "()Z"⟩) ∈ TT := tt_of 25 (by decide +kernel) (by decide +kernel)
theorem tw_26 : (Cond.selects "LoanRulesModel" ⟨"LoanRulesModel", "space", "()Z"⟩ ⟨"LoanRulesModel", "space", "()Z"⟩) ∈ TT := tt_of 26 (by decide +kernel) (by decide +kernel)
theorem tw_27 : (Cond.selects "LoanRulesModel" ⟨"LoanRulesModel", "look", "(I)I"⟩ ⟨"LoanRulesModel", "look", "(I)I"⟩) ∈ TT := tt_of 27 (by decide +kernel) (by decide +kernel)
theorem tw_28 : (Cond.selects "LoanRulesModel" ⟨"LoanRulesModel", "bad", "(I)Z"⟩ ⟨"LoanRulesModel", "bad", "(I)Z"⟩) ∈ TT := tt_of 28 (by decide +kernel) (by decide +kernel)
theorem tw_29 : (Cond.selects "LoanRulesModel" ⟨"LoanRulesModel", "word", "()J"⟩ ⟨"LoanRulesModel", "word", "()J"⟩) ∈ TT := tt_of 29 (by decide +kernel) (by decide +kernel)
theorem tw_30 : (Cond.selects "LoanRulesModel" ⟨"LoanRulesModel", "pass", "()V"⟩ ⟨"LoanRulesModel", "pass", "()V"⟩) ∈ TT := tt_of 30 (by decide +kernel) (by decide +kernel)
theorem tw_31 : (Cond.selects "LoanRulesModel" ⟨"LoanRulesModel", "one", "(I)Z"⟩ ⟨"LoanRulesModel", "one", "(I)Z"⟩) ∈ TT := tt_of 31 (by decide +kernel) (by decide +kernel)
theorem tw_32 : (Cond.selects "LoanRulesModel" ⟨"LoanRulesModel", "number", "(III)Z"⟩ ⟨"LoanRulesModel", "number", "(III)Z"⟩) ∈ TT := tt_of 32 (by decide +kernel) (by decide +kernel)
theorem tw_33 : (Cond.selects "LoanRulesModel" ⟨"LoanRulesModel", "lends", "()Z"⟩ ⟨"LoanRulesModel", "lends", "()Z"⟩) ∈ TT := tt_of 33 (by decide +kernel) (by decide +kernel)
theorem tw_34 : (Cond.selects "LoanRulesModel" ⟨"LoanRulesModel", "isRule", "(I)Z"⟩ ⟨"LoanRulesModel", "isRule", "(I)Z"⟩) ∈ TT := tt_of 34 (by decide +kernel) (by decide +kernel)
theorem tw_35 : (Cond.selects "LoanRulesModel" ⟨"LoanRulesModel", "find", "(III)V"⟩ ⟨"LoanRulesModel", "find", "(III)V"⟩) ∈ TT := tt_of 35 (by decide +kernel) (by decide +kernel)
theorem tw_36 : (Cond.selects "LoanRulesModel" ⟨"LoanRulesModel", "fitsFor", "(IIII)Z"⟩ ⟨"LoanRulesModel", "fitsFor", "(IIII)Z"⟩) ∈ TT := tt_of 36 (by decide +kernel) (by decide +kernel)
theorem tw_37 : (Cond.selects "LoanRulesModel" ⟨"LoanRulesModel", "clashes", "()V"⟩ ⟨"LoanRulesModel", "clashes", "()V"⟩) ∈ TT := tt_of 37 (by decide +kernel) (by decide +kernel)
theorem tw_38 : (Cond.selects "LoanRulesModel" ⟨"LoanRulesModel", "dueOf", "(II)I"⟩ ⟨"LoanRulesModel", "dueOf", "(II)I"⟩) ∈ TT := tt_of 38 (by decide +kernel) (by decide +kernel)
theorem tw_39 : (Cond.selects "LoanRulesModel" ⟨"LoanRulesModel", "open", "(I)I"⟩ ⟨"LoanRulesModel", "open", "(I)I"⟩) ∈ TT := tt_of 39 (by decide +kernel) (by decide +kernel)
theorem tw_40 : (Cond.selects "LoanRulesModel" ⟨"LoanRulesModel", "isOut", "(I)Z"⟩ ⟨"LoanRulesModel", "isOut", "(I)Z"⟩) ∈ TT := tt_of 40 (by decide +kernel) (by decide +kernel)
theorem tw_46 : (Cond.initialized "LoanRulesModel") ∈ TT := tt_of 46 (by decide +kernel) (by decide +kernel)
theorem tw_601 : (Cond.fieldLink "LoanRulesModel" (54 : Nat) "LoanRulesModel" "thrown" "I") ∈ TT := tt_of 601 (by decide +kernel) (by decide +kernel)
theorem tw_602 : (Cond.fieldLink "LoanRulesModel" (7 : Nat) "LoanRulesModel" "said" "[B") ∈ TT := tt_of 602 (by decide +kernel) (by decide +kernel)
theorem tw_603 : (Cond.fieldLink "LoanRulesModel" (58 : Nat) "LoanRulesModel" "size" "I") ∈ TT := tt_of 603 (by decide +kernel) (by decide +kernel)
theorem tw_604 : (Cond.fieldLink "LoanRulesModel" (64 : Nat) "LoanRulesModel" "at" "I") ∈ TT := tt_of 604 (by decide +kernel) (by decide +kernel)
theorem tw_605 : (Cond.fieldLink "LoanRulesModel" (61 : Nat) "LoanRulesModel" "wrong" "I") ∈ TT := tt_of 605 (by decide +kernel) (by decide +kernel)
theorem tw_606 : (Cond.fieldLink "LoanRulesModel" (13 : Nat) "LoanRulesModel" "rules" "[I") ∈ TT := tt_of 606 (by decide +kernel) (by decide +kernel)
theorem tw_607 : (Cond.fieldLink "LoanRulesModel" (17 : Nat) "LoanRulesModel" "met" "[Z") ∈ TT := tt_of 607 (by decide +kernel) (by decide +kernel)
theorem tw_608 : (Cond.fieldLink "LoanRulesModel" (21 : Nat) "LoanRulesModel" "lets" "[Z") ∈ TT := tt_of 608 (by decide +kernel) (by decide +kernel)
theorem tw_609 : (Cond.fieldLink "LoanRulesModel" (88 : Nat) "LoanRulesModel" "count" "I") ∈ TT := tt_of 609 (by decide +kernel) (by decide +kernel)
theorem tw_610 : (Cond.fieldLink "LoanRulesModel" (24 : Nat) "LoanRulesModel" "closed" "[Z") ∈ TT := tt_of 610 (by decide +kernel) (by decide +kernel)
theorem tw_611 : (Cond.fieldLink "LoanRulesModel" (27 : Nat) "LoanRulesModel" "terms" "[Z") ∈ TT := tt_of 611 (by decide +kernel) (by decide +kernel)
theorem tw_612 : (Cond.fieldLink "LoanRulesModel" (30 : Nat) "LoanRulesModel" "kinds" "[I") ∈ TT := tt_of 612 (by decide +kernel) (by decide +kernel)
theorem tw_613 : (Cond.fieldLink "LoanRulesModel" (33 : Nat) "LoanRulesModel" "types" "[I") ∈ TT := tt_of 613 (by decide +kernel) (by decide +kernel)
theorem tw_614 : (Cond.fieldLink "LoanRulesModel" (36 : Nat) "LoanRulesModel" "blocks" "[I") ∈ TT := tt_of 614 (by decide +kernel) (by decide +kernel)
theorem tw_615 : (Cond.fieldLink "LoanRulesModel" (39 : Nat) "LoanRulesModel" "excepted" "[I") ∈ TT := tt_of 615 (by decide +kernel) (by decide +kernel)
theorem tw_616 : (Cond.fieldLink "LoanRulesModel" (42 : Nat) "LoanRulesModel" "loans" "[I") ∈ TT := tt_of 616 (by decide +kernel) (by decide +kernel)
theorem tw_617 : (Cond.fieldLink "LoanRulesModel" (159 : Nat) "LoanRulesModel" "loanCount" "I") ∈ TT := tt_of 617 (by decide +kernel) (by decide +kernel)
theorem tw_618 : (Cond.fieldLink "LoanRulesModel" (45 : Nat) "LoanRulesModel" "holder" "[I") ∈ TT := tt_of 618 (by decide +kernel) (by decide +kernel)
theorem tw_619 : (Cond.fieldLink "LoanRulesModel" (48 : Nat) "LoanRulesModel" "fits" "[I") ∈ TT := tt_of 619 (by decide +kernel) (by decide +kernel)
theorem tw_620 : (Cond.fieldLink "LoanRulesModel" (149 : Nat) "LoanRulesModel" "fitCount" "I") ∈ TT := tt_of 620 (by decide +kernel) (by decide +kernel)
theorem tw_621 : (Cond.fieldLink "LoanRulesModel" (51 : Nat) "LoanRulesModel" "clashes" "[I") ∈ TT := tt_of 621 (by decide +kernel) (by decide +kernel)
theorem tw_622 : (Cond.fieldLink "LoanRulesModel" (156 : Nat) "LoanRulesModel" "clashCount" "I") ∈ TT := tt_of 622 (by decide +kernel) (by decide +kernel)
theorem tw_676 : (Cond.methodLink "LoanRulesModel" (134 : Nat) ({ cls := "LoanRulesModel", name := "reads", desc := "()Z" } : Jvm.MethodName)) ∈ TT := tt_of 676 (by decide +kernel) (by decide +kernel)
theorem tw_678 : (Cond.instanceMethod ({ cls := "LoanRulesModel", name := "reads", desc := "()Z" } : Jvm.MethodName)) ∈ TT := tt_of 678 (by decide +kernel) (by decide +kernel)
theorem tw_679 : (Cond.code ({ cls := "LoanRulesModel", name := "reads", desc := "()Z" } : Jvm.MethodName) prog_7_method_14_code (4 : Nat) (Option.some FieldType.boolean)) ∈ TT := tt_of 679 (by decide +kernel) (by decide +kernel)
theorem tw_680 : (Cond.methodLink "LoanRulesModel" (81 : Nat) ({ cls := "LoanRulesModel", name := "space", desc := "()Z" } : Jvm.MethodName)) ∈ TT := tt_of 680 (by decide +kernel) (by decide +kernel)
theorem tw_682 : (Cond.instanceMethod ({ cls := "LoanRulesModel", name := "space", desc := "()Z" } : Jvm.MethodName)) ∈ TT := tt_of 682 (by decide +kernel) (by decide +kernel)
theorem tw_683 : (Cond.code ({ cls := "LoanRulesModel", name := "space", desc := "()Z" } : Jvm.MethodName) prog_7_method_9_code (1 : Nat) (Option.some FieldType.boolean)) ∈ TT := tt_of 683 (by decide +kernel) (by decide +kernel)
theorem tw_684 : (Cond.methodLink "LoanRulesModel" (67 : Nat) ({ cls := "LoanRulesModel", name := "look", desc := "(I)I" } : Jvm.MethodName)) ∈ TT := tt_of 684 (by decide +kernel) (by decide +kernel)
theorem tw_686 : (Cond.instanceMethod ({ cls := "LoanRulesModel", name := "look", desc := "(I)I" } : Jvm.MethodName)) ∈ TT := tt_of 686 (by decide +kernel) (by decide +kernel)
theorem tw_687 : (Cond.code ({ cls := "LoanRulesModel", name := "look", desc := "(I)I" } : Jvm.MethodName) prog_7_method_4_code (2 : Nat) (Option.some FieldType.int)) ∈ TT := tt_of 687 (by decide +kernel) (by decide +kernel)
theorem tw_688 : (Cond.methodLink "LoanRulesModel" (77 : Nat) ({ cls := "LoanRulesModel", name := "bad", desc := "(I)Z" } : Jvm.MethodName)) ∈ TT := tt_of 688 (by decide +kernel) (by decide +kernel)
theorem tw_690 : (Cond.instanceMethod ({ cls := "LoanRulesModel", name := "bad", desc := "(I)Z" } : Jvm.MethodName)) ∈ TT := tt_of 690 (by decide +kernel) (by decide +kernel)
theorem tw_691 : (Cond.code ({ cls := "LoanRulesModel", name := "bad", desc := "(I)Z" } : Jvm.MethodName) prog_7_method_5_code (2 : Nat) (Option.some FieldType.boolean)) ∈ TT := tt_of 691 (by decide +kernel) (by decide +kernel)
theorem tw_692 : (Cond.methodLink "LoanRulesModel" (111 : Nat) ({ cls := "LoanRulesModel", name := "word", desc := "()J" } : Jvm.MethodName)) ∈ TT := tt_of 692 (by decide +kernel) (by decide +kernel)
theorem tw_694 : (Cond.instanceMethod ({ cls := "LoanRulesModel", name := "word", desc := "()J" } : Jvm.MethodName)) ∈ TT := tt_of 694 (by decide +kernel) (by decide +kernel)
theorem tw_695 : (Cond.code ({ cls := "LoanRulesModel", name := "word", desc := "()J" } : Jvm.MethodName) prog_7_method_7_code (4 : Nat) (Option.some FieldType.long)) ∈ TT := tt_of 695 (by decide +kernel) (by decide +kernel)
theorem tw_696 : (Cond.constantLong "LoanRulesModel" (71 : Nat) (1152921504606846976 : Int64)) ∈ TT := tt_of 696 (by decide +kernel) (by decide +kernel)
theorem tw_697 : (Cond.constantLong "LoanRulesModel" (73 : Nat) (32 : Int64)) ∈ TT := tt_of 697 (by decide +kernel) (by decide +kernel)
theorem tw_698 : (Cond.constantLong "LoanRulesModel" (75 : Nat) (96 : Int64)) ∈ TT := tt_of 698 (by decide +kernel) (by decide +kernel)
theorem tw_699 : (Cond.methodLink "LoanRulesModel" (127 : Nat) ({ cls := "LoanRulesModel", name := "step", desc := "(J)I" } : Jvm.MethodName)) ∈ TT := tt_of 699 (by decide +kernel) (by decide +kernel)
theorem tw_700 : (Cond.static ({ cls := "LoanRulesModel", name := "step", desc := "(J)I" } : Jvm.MethodName)) ∈ TT := tt_of 700 (by decide +kernel) (by decide +kernel)
theorem tw_701 : (Cond.code ({ cls := "LoanRulesModel", name := "step", desc := "(J)I" } : Jvm.MethodName) prog_7_method_11_code (2 : Nat) (Option.some FieldType.int)) ∈ TT := tt_of 701 (by decide +kernel) (by decide +kernel)
theorem tw_702 : (Cond.constantLong "LoanRulesModel" (91 : Nat) (370116 : Int64)) ∈ TT := tt_of 702 (by decide +kernel) (by decide +kernel)
theorem tw_703 : (Cond.constantLong "LoanRulesModel" (93 : Nat) (681477 : Int64)) ∈ TT := tt_of 703 (by decide +kernel) (by decide +kernel)
theorem tw_704 : (Cond.constantLong "LoanRulesModel" (95 : Nat) (542723566 : Int64)) ∈ TT := tt_of 704 (by decide +kernel) (by decide +kernel)
theorem tw_705 : (Cond.constantLong "LoanRulesModel" (97 : Nat) (398788 : Int64)) ∈ TT := tt_of 705 (by decide +kernel) (by decide +kernel)
theorem tw_706 : (Cond.constantLong "LoanRulesModel" (99 : Nat) (609441381 : Int64)) ∈ TT := tt_of 706 (by decide +kernel) (by decide +kernel)
theorem tw_707 : (Cond.constantLong "LoanRulesModel" (101 : Nat) (197932 : Int64)) ∈ TT := tt_of 707 (by decide +kernel) (by decide +kernel)
theorem tw_708 : (Cond.constantLong "LoanRulesModel" (103 : Nat) (19052727 : Int64)) ∈ TT := tt_of 708 (by decide +kernel) (by decide +kernel)
theorem tw_709 : (Cond.constantLong "LoanRulesModel" (105 : Nat) (7216 : Int64)) ∈ TT := tt_of 709 (by decide +kernel) (by decide +kernel)
theorem tw_710 : (Cond.constantLong "LoanRulesModel" (107 : Nat) (609322380 : Int64)) ∈ TT := tt_of 710 (by decide +kernel) (by decide +kernel)
theorem tw_711 : (Cond.constantLong "LoanRulesModel" (109 : Nat) (591307 : Int64)) ∈ TT := tt_of 711 (by decide +kernel) (by decide +kernel)
theorem tw_712 : (Cond.methodLink "LoanRulesModel" (117 : Nat) ({ cls := "LoanRulesModel", name := "pass", desc := "()V" } : Jvm.MethodName)) ∈ TT := tt_of 712 (by decide +kernel) (by decide +kernel)
theorem tw_714 : (Cond.instanceMethod ({ cls := "LoanRulesModel", name := "pass", desc := "()V" } : Jvm.MethodName)) ∈ TT := tt_of 714 (by decide +kernel) (by decide +kernel)
theorem tw_715 : (Cond.code ({ cls := "LoanRulesModel", name := "pass", desc := "()V" } : Jvm.MethodName) prog_7_method_8_code (1 : Nat) (Option.none : Option FieldType)) ∈ TT := tt_of 715 (by decide +kernel) (by decide +kernel)
theorem tw_716 : (Cond.methodLink "LoanRulesModel" (131 : Nat) ({ cls := "LoanRulesModel", name := "one", desc := "(I)Z" } : Jvm.MethodName)) ∈ TT := tt_of 716 (by decide +kernel) (by decide +kernel)
theorem tw_718 : (Cond.instanceMethod ({ cls := "LoanRulesModel", name := "one", desc := "(I)Z" } : Jvm.MethodName)) ∈ TT := tt_of 718 (by decide +kernel) (by decide +kernel)
theorem tw_719 : (Cond.code ({ cls := "LoanRulesModel", name := "one", desc := "(I)Z" } : Jvm.MethodName) prog_7_method_13_code (2 : Nat) (Option.some FieldType.boolean)) ∈ TT := tt_of 719 (by decide +kernel) (by decide +kernel)
theorem tw_720 : (Cond.methodLink "LoanRulesModel" (120 : Nat) ({ cls := "LoanRulesModel", name := "number", desc := "(III)Z" } : Jvm.MethodName)) ∈ TT := tt_of 720 (by decide +kernel) (by decide +kernel)
theorem tw_722 : (Cond.instanceMethod ({ cls := "LoanRulesModel", name := "number", desc := "(III)Z" } : Jvm.MethodName)) ∈ TT := tt_of 722 (by decide +kernel) (by decide +kernel)
theorem tw_723 : (Cond.code ({ cls := "LoanRulesModel", name := "number", desc := "(III)Z" } : Jvm.MethodName) prog_7_method_10_code (6 : Nat) (Option.some FieldType.boolean)) ∈ TT := tt_of 723 (by decide +kernel) (by decide +kernel)
theorem tw_724 : (Cond.methodLink "LoanRulesModel" (85 : Nat) ({ cls := "LoanRulesModel", name := "isDigit", desc := "(I)Z" } : Jvm.MethodName)) ∈ TT := tt_of 724 (by decide +kernel) (by decide +kernel)
theorem tw_725 : (Cond.static ({ cls := "LoanRulesModel", name := "isDigit", desc := "(I)Z" } : Jvm.MethodName)) ∈ TT := tt_of 725 (by decide +kernel) (by decide +kernel)
theorem tw_726 : (Cond.code ({ cls := "LoanRulesModel", name := "isDigit", desc := "(I)Z" } : Jvm.MethodName) prog_7_method_6_code (1 : Nat) (Option.some FieldType.boolean)) ∈ TT := tt_of 726 (by decide +kernel) (by decide +kernel)
theorem tw_727 : (Cond.methodLink "LoanRulesModel" (124 : Nat) ({ cls := "LoanRulesModel", name := "lends", desc := "()Z" } : Jvm.MethodName)) ∈ TT := tt_of 727 (by decide +kernel) (by decide +kernel)
theorem tw_729 : (Cond.instanceMethod ({ cls := "LoanRulesModel", name := "lends", desc := "()Z" } : Jvm.MethodName)) ∈ TT := tt_of 729 (by decide +kernel) (by decide +kernel)
theorem tw_730 : (Cond.code ({ cls := "LoanRulesModel", name := "lends", desc := "()Z" } : Jvm.MethodName) prog_7_method_12_code (1 : Nat) (Option.some FieldType.boolean)) ∈ TT := tt_of 730 (by decide +kernel) (by decide +kernel)
theorem tw_731 : (Cond.constantLong "LoanRulesModel" (115 : Nat) (661069 : Int64)) ∈ TT := tt_of 731 (by decide +kernel) (by decide +kernel)
theorem tw_736 : (Cond.methodLink "LoanRulesModel" (137 : Nat) ({ cls := "LoanRulesModel", name := "isDay", desc := "(I)Z" } : Jvm.MethodName)) ∈ TT := tt_of 736 (by decide +kernel) (by decide +kernel)
theorem tw_737 : (Cond.static ({ cls := "LoanRulesModel", name := "isDay", desc := "(I)Z" } : Jvm.MethodName)) ∈ TT := tt_of 737 (by decide +kernel) (by decide +kernel)
theorem tw_738 : (Cond.code ({ cls := "LoanRulesModel", name := "isDay", desc := "(I)Z" } : Jvm.MethodName) prog_7_method_16_code (1 : Nat) (Option.some FieldType.boolean)) ∈ TT := tt_of 738 (by decide +kernel) (by decide +kernel)
theorem tw_747 : (Cond.methodLink "LoanRulesModel" (143 : Nat) ({ cls := "LoanRulesModel", name := "isPerson", desc := "(I)Z" } : Jvm.MethodName)) ∈ TT := tt_of 747 (by decide +kernel) (by decide +kernel)
theorem tw_748 : (Cond.static ({ cls := "LoanRulesModel", name := "isPerson", desc := "(I)Z" } : Jvm.MethodName)) ∈ TT := tt_of 748 (by decide +kernel) (by decide +kernel)
theorem tw_749 : (Cond.code ({ cls := "LoanRulesModel", name := "isPerson", desc := "(I)Z" } : Jvm.MethodName) prog_7_method_21_code (1 : Nat) (Option.some FieldType.boolean)) ∈ TT := tt_of 749 (by decide +kernel) (by decide +kernel)
theorem tw_758 : (Cond.methodLink "LoanRulesModel" (146 : Nat) ({ cls := "LoanRulesModel", name := "isRule", desc := "(I)Z" } : Jvm.MethodName)) ∈ TT := tt_of 758 (by decide +kernel) (by decide +kernel)
theorem tw_760 : (Cond.instanceMethod ({ cls := "LoanRulesModel", name := "isRule", desc := "(I)Z" } : Jvm.MethodName)) ∈ TT := tt_of 760 (by decide +kernel) (by decide +kernel)
theorem tw_761 : (Cond.code ({ cls := "LoanRulesModel", name := "isRule", desc := "(I)Z" } : Jvm.MethodName) prog_7_method_24_code (2 : Nat) (Option.some FieldType.boolean)) ∈ TT := tt_of 761 (by decide +kernel) (by decide +kernel)
theorem tw_770 : (Cond.methodLink "LoanRulesModel" (162 : Nat) ({ cls := "LoanRulesModel", name := "find", desc := "(III)V" } : Jvm.MethodName)) ∈ TT := tt_of 770 (by decide +kernel) (by decide +kernel)
theorem tw_772 : (Cond.instanceMethod ({ cls := "LoanRulesModel", name := "find", desc := "(III)V" } : Jvm.MethodName)) ∈ TT := tt_of 772 (by decide +kernel) (by decide +kernel)
theorem tw_773 : (Cond.code ({ cls := "LoanRulesModel", name := "find", desc := "(III)V" } : Jvm.MethodName) prog_7_method_28_code (6 : Nat) (Option.none : Option FieldType)) ∈ TT := tt_of 773 (by decide +kernel) (by decide +kernel)
theorem tw_774 : (Cond.methodLink "LoanRulesModel" (152 : Nat) ({ cls := "LoanRulesModel", name := "fitsFor", desc := "(IIII)Z" } : Jvm.MethodName)) ∈ TT := tt_of 774 (by decide +kernel) (by decide +kernel)
theorem tw_776 : (Cond.instanceMethod ({ cls := "LoanRulesModel", name := "fitsFor", desc := "(IIII)Z" } : Jvm.MethodName)) ∈ TT := tt_of 776 (by decide +kernel) (by decide +kernel)
theorem tw_777 : (Cond.code ({ cls := "LoanRulesModel", name := "fitsFor", desc := "(IIII)Z" } : Jvm.MethodName) prog_7_method_27_code (8 : Nat) (Option.some FieldType.boolean)) ∈ TT := tt_of 777 (by decide +kernel) (by decide +kernel)
theorem tw_778 : (Cond.methodLink "LoanRulesModel" (166 : Nat) ({ cls := "LoanRulesModel", name := "clashes", desc := "()V" } : Jvm.MethodName)) ∈ TT := tt_of 778 (by decide +kernel) (by decide +kernel)
theorem tw_780 : (Cond.instanceMethod ({ cls := "LoanRulesModel", name := "clashes", desc := "()V" } : Jvm.MethodName)) ∈ TT := tt_of 780 (by decide +kernel) (by decide +kernel)
theorem tw_781 : (Cond.code ({ cls := "LoanRulesModel", name := "clashes", desc := "()V" } : Jvm.MethodName) prog_7_method_29_code (2 : Nat) (Option.none : Option FieldType)) ∈ TT := tt_of 781 (by decide +kernel) (by decide +kernel)
theorem tw_782 : (Cond.methodLink "LoanRulesModel" (168 : Nat) ({ cls := "LoanRulesModel", name := "dueOf", desc := "(II)I" } : Jvm.MethodName)) ∈ TT := tt_of 782 (by decide +kernel) (by decide +kernel)
theorem tw_784 : (Cond.instanceMethod ({ cls := "LoanRulesModel", name := "dueOf", desc := "(II)I" } : Jvm.MethodName)) ∈ TT := tt_of 784 (by decide +kernel) (by decide +kernel)
theorem tw_785 : (Cond.code ({ cls := "LoanRulesModel", name := "dueOf", desc := "(II)I" } : Jvm.MethodName) prog_7_method_20_code (4 : Nat) (Option.some FieldType.int)) ∈ TT := tt_of 785 (by decide +kernel) (by decide +kernel)
theorem tw_786 : (Cond.methodLink "LoanRulesModel" (140 : Nat) ({ cls := "LoanRulesModel", name := "open", desc := "(I)I" } : Jvm.MethodName)) ∈ TT := tt_of 786 (by decide +kernel) (by decide +kernel)
theorem tw_788 : (Cond.instanceMethod ({ cls := "LoanRulesModel", name := "open", desc := "(I)I" } : Jvm.MethodName)) ∈ TT := tt_of 788 (by decide +kernel) (by decide +kernel)
theorem tw_789 : (Cond.code ({ cls := "LoanRulesModel", name := "open", desc := "(I)I" } : Jvm.MethodName) prog_7_method_19_code (3 : Nat) (Option.some FieldType.int)) ∈ TT := tt_of 789 (by decide +kernel) (by decide +kernel)
theorem tw_794 : (Cond.methodLink "LoanRulesModel" (172 : Nat) ({ cls := "LoanRulesModel", name := "isOut", desc := "(I)Z" } : Jvm.MethodName)) ∈ TT := tt_of 794 (by decide +kernel) (by decide +kernel)
theorem tw_796 : (Cond.instanceMethod ({ cls := "LoanRulesModel", name := "isOut", desc := "(I)Z" } : Jvm.MethodName)) ∈ TT := tt_of 796 (by decide +kernel) (by decide +kernel)
theorem tw_797 : (Cond.code ({ cls := "LoanRulesModel", name := "isOut", desc := "(I)Z" } : Jvm.MethodName) prog_7_method_31_code (2 : Nat) (Option.some FieldType.boolean)) ∈ TT := tt_of 797 (by decide +kernel) (by decide +kernel)
