theorem d_AR_fill_0 : decode c_AR_fill 0 = .ok (.iconst 0, 1) := by decide +kernel
theorem d_AR_fill_1 : decode c_AR_fill 1 = .ok (.istore_n 2, 1) := by decide +kernel
theorem d_AR_fill_2 : decode c_AR_fill 2 = .ok (.aload_n 0, 1) := by decide +kernel
theorem d_AR_fill_3 : decode c_AR_fill 3 = .ok (.arraylength, 1) := by decide +kernel
theorem d_AR_fill_4 : decode c_AR_fill 4 = .ok (.istore_n 3, 1) := by decide +kernel
theorem d_AR_fill_5 : decode c_AR_fill 5 = .ok (.iload_n 2, 1) := by decide +kernel
theorem d_AR_fill_6 : decode c_AR_fill 6 = .ok (.iload_n 3, 1) := by decide +kernel
theorem d_AR_fill_7 : decode c_AR_fill 7 = .ok (.if_icmp .ge 13, 3) := by decide +kernel
theorem d_AR_fill_10 : decode c_AR_fill 10 = .ok (.aload_n 0, 1) := by decide +kernel
theorem d_AR_fill_11 : decode c_AR_fill 11 = .ok (.iload_n 2, 1) := by decide +kernel
theorem d_AR_fill_12 : decode c_AR_fill 12 = .ok (.iload_n 1, 1) := by decide +kernel
theorem d_AR_fill_13 : decode c_AR_fill 13 = .ok (.iastore, 1) := by decide +kernel
theorem d_AR_fill_14 : decode c_AR_fill 14 = .ok (.iinc 2 1, 3) := by decide +kernel
theorem d_AR_fill_17 : decode c_AR_fill 17 = .ok (.goto (-12), 3) := by decide +kernel
theorem d_AR_fill_20 : decode c_AR_fill 20 = .ok (.return_, 1) := by decide +kernel
theorem d_C_back_0 : decode c_C_back 0 = .ok (.aload_n 0, 1) := by decide +kernel
theorem d_C_back_1 : decode c_C_back 1 = .ok (.iload_n 1, 1) := by decide +kernel
theorem d_C_back_2 : decode c_C_back 2 = .ok (.invokevirtual 156, 3) := by decide +kernel
theorem d_C_back_5 : decode c_C_back 5 = .ok (.astore_n 2, 1) := by decide +kernel
theorem d_C_back_6 : decode c_C_back 6 = .ok (.aload_n 2, 1) := by decide +kernel
theorem d_C_back_7 : decode c_C_back 7 = .ok (.ifnonnull 5, 3) := by decide +kernel
theorem d_C_back_10 : decode c_C_back 10 = .ok (.iconst 0, 1) := by decide +kernel
theorem d_C_back_11 : decode c_C_back 11 = .ok (.ireturn, 1) := by decide +kernel
theorem d_C_block_0 : decode c_C_block 0 = .ok (.iload_n 1, 1) := by decide +kernel
theorem d_C_block_1 : decode c_C_block 1 = .ok (.invokestatic 103, 3) := by decide +kernel
theorem d_C_block_4 : decode c_C_block 4 = .ok (.ifCond .eq 13, 3) := by decide +kernel
theorem d_C_block_7 : decode c_C_block 7 = .ok (.iload_n 2, 1) := by decide +kernel
theorem d_C_block_8 : decode c_C_block 8 = .ok (.ifCond .lt 9, 3) := by decide +kernel
theorem d_C_block_11 : decode c_C_block 11 = .ok (.iload_n 2, 1) := by decide +kernel
theorem d_C_block_12 : decode c_C_block 12 = .ok (.bipush 9, 2) := by decide +kernel
theorem d_C_block_14 : decode c_C_block 14 = .ok (.if_icmp .le 5, 3) := by decide +kernel
theorem d_C_block_17 : decode c_C_block 17 = .ok (.iconst (-1), 1) := by decide +kernel
theorem d_C_block_18 : decode c_C_block 18 = .ok (.ireturn, 1) := by decide +kernel
theorem d_C_block_19 : decode c_C_block 19 = .ok (.aload_n 0, 1) := by decide +kernel
theorem d_C_block_20 : decode c_C_block 20 = .ok (.getfield 40, 3) := by decide +kernel
theorem d_C_block_23 : decode c_C_block 23 = .ok (.iload_n 1, 1) := by decide +kernel
theorem d_C_block_24 : decode c_C_block 24 = .ok (.iaload, 1) := by decide +kernel
theorem d_C_block_25 : decode c_C_block 25 = .ok (.istore_n 3, 1) := by decide +kernel
theorem d_C_block_26 : decode c_C_block 26 = .ok (.aload_n 0, 1) := by decide +kernel
theorem d_C_block_27 : decode c_C_block 27 = .ok (.getfield 40, 3) := by decide +kernel
theorem d_C_block_30 : decode c_C_block 30 = .ok (.iload_n 1, 1) := by decide +kernel
theorem d_C_block_31 : decode c_C_block 31 = .ok (.iload_n 2, 1) := by decide +kernel
theorem d_C_block_32 : decode c_C_block 32 = .ok (.iastore, 1) := by decide +kernel
theorem d_C_block_33 : decode c_C_block 33 = .ok (.iload_n 3, 1) := by decide +kernel
theorem d_C_block_34 : decode c_C_block 34 = .ok (.ireturn, 1) := by decide +kernel
theorem d_C_clash_0 : decode c_C_clash 0 = .ok (.iload_n 1, 1) := by decide +kernel
theorem d_C_clash_1 : decode c_C_clash 1 = .ok (.ifCond .lt 20, 3) := by decide +kernel
theorem d_C_clash_4 : decode c_C_clash 4 = .ok (.iload_n 1, 1) := by decide +kernel
theorem d_C_clash_5 : decode c_C_clash 5 = .ok (.aload_n 0, 1) := by decide +kernel
theorem d_C_clash_6 : decode c_C_clash 6 = .ok (.getfield 71, 3) := by decide +kernel
theorem d_C_clash_9 : decode c_C_clash 9 = .ok (.if_icmp .ge 12, 3) := by decide +kernel
theorem d_C_clash_21 : decode c_C_clash 21 = .ok (.iconst (-1), 1) := by decide +kernel
theorem d_C_clash_22 : decode c_C_clash 22 = .ok (.ireturn, 1) := by decide +kernel
theorem d_C_closed_0 : decode c_C_closed 0 = .ok (.iload_n 1, 1) := by decide +kernel
theorem d_C_closed_1 : decode c_C_closed 1 = .ok (.invokestatic 92, 3) := by decide +kernel
theorem d_C_closed_4 : decode c_C_closed 4 = .ok (.ifCond .ne 5, 3) := by decide +kernel
theorem d_C_closed_7 : decode c_C_closed 7 = .ok (.iconst 0, 1) := by decide +kernel
theorem d_C_closed_8 : decode c_C_closed 8 = .ok (.ireturn, 1) := by decide +kernel
theorem d_C_closed_9 : decode c_C_closed 9 = .ok (.aload_n 0, 1) := by decide +kernel
theorem d_C_closed_10 : decode c_C_closed 10 = .ok (.getfield 29, 3) := by decide +kernel
theorem d_C_closed_13 : decode c_C_closed 13 = .ok (.iload_n 1, 1) := by decide +kernel
theorem d_C_closed_14 : decode c_C_closed 14 = .ok (.invokevirtual 96, 3) := by decide +kernel
theorem d_C_closed_17 : decode c_C_closed 17 = .ok (.istore_n 3, 1) := by decide +kernel
theorem d_C_closed_18 : decode c_C_closed 18 = .ok (.aload_n 0, 1) := by decide +kernel
theorem d_C_closed_19 : decode c_C_closed 19 = .ok (.getfield 29, 3) := by decide +kernel
theorem d_C_closed_22 : decode c_C_closed 22 = .ok (.iload_n 1, 1) := by decide +kernel
theorem d_C_closed_23 : decode c_C_closed 23 = .ok (.iload_n 2, 1) := by decide +kernel
theorem d_C_closed_24 : decode c_C_closed 24 = .ok (.invokevirtual 99, 3) := by decide +kernel
theorem d_C_closed_27 : decode c_C_closed 27 = .ok (.iload_n 3, 1) := by decide +kernel
theorem d_C_closed_28 : decode c_C_closed 28 = .ok (.ireturn, 1) := by decide +kernel
theorem d_C_due_0 : decode c_C_due 0 = .ok (.aload_n 0, 1) := by decide +kernel
theorem d_C_due_1 : decode c_C_due 1 = .ok (.iload_n 1, 1) := by decide +kernel
theorem d_C_due_2 : decode c_C_due 2 = .ok (.invokevirtual 156, 3) := by decide +kernel
theorem d_C_due_5 : decode c_C_due 5 = .ok (.astore_n 2, 1) := by decide +kernel
theorem d_C_due_6 : decode c_C_due 6 = .ok (.aload_n 2, 1) := by decide +kernel
theorem d_C_due_7 : decode c_C_due 7 = .ok (.ifnonnull 7, 3) := by decide +kernel
theorem d_C_due_10 : decode c_C_due 10 = .ok (.iconst (-1), 1) := by decide +kernel
theorem d_C_due_11 : decode c_C_due 11 = .ok (.goto 7, 3) := by decide +kernel
theorem d_C_due_18 : decode c_C_due 18 = .ok (.ireturn, 1) := by decide +kernel
theorem d_C_except_0 : decode c_C_except 0 = .ok (.iload_n 1, 1) := by decide +kernel
theorem d_C_except_1 : decode c_C_except 1 = .ok (.invokestatic 103, 3) := by decide +kernel
theorem d_C_except_4 : decode c_C_except 4 = .ok (.ifCond .eq 11, 3) := by decide +kernel
theorem d_C_except_7 : decode c_C_except 7 = .ok (.aload_n 0, 1) := by decide +kernel
theorem d_C_except_8 : decode c_C_except 8 = .ok (.iload_n 2, 1) := by decide +kernel
theorem d_C_except_9 : decode c_C_except 9 = .ok (.invokevirtual 117, 3) := by decide +kernel
theorem d_C_except_12 : decode c_C_except 12 = .ok (.ifnonnull 5, 3) := by decide +kernel
theorem d_C_except_15 : decode c_C_except 15 = .ok (.iconst 0, 1) := by decide +kernel
theorem d_C_except_16 : decode c_C_except 16 = .ok (.ireturn, 1) := by decide +kernel
theorem d_C_explain_0 : decode c_C_explain 0 = .ok (.aload_n 0, 1) := by decide +kernel
theorem d_C_explain_1 : decode c_C_explain 1 = .ok (.iload_n 1, 1) := by decide +kernel
theorem d_C_explain_2 : decode c_C_explain 2 = .ok (.invokevirtual 113, 3) := by decide +kernel
theorem d_C_explain_5 : decode c_C_explain 5 = .ok (.ireturn, 1) := by decide +kernel
theorem d_C_fittingAt_0 : decode c_C_fittingAt 0 = .ok (.iload_n 1, 1) := by decide +kernel
theorem d_C_fittingAt_1 : decode c_C_fittingAt 1 = .ok (.ifCond .lt 29, 3) := by decide +kernel
theorem d_C_fittingAt_4 : decode c_C_fittingAt 4 = .ok (.iload_n 1, 1) := by decide +kernel
theorem d_C_fittingAt_5 : decode c_C_fittingAt 5 = .ok (.aload_n 0, 1) := by decide +kernel
theorem d_C_fittingAt_6 : decode c_C_fittingAt 6 = .ok (.getfield 65, 3) := by decide +kernel
theorem d_C_fittingAt_9 : decode c_C_fittingAt 9 = .ok (.if_icmp .ge 21, 3) := by decide +kernel
theorem d_C_fittingAt_30 : decode c_C_fittingAt 30 = .ok (.iconst (-1), 1) := by decide +kernel
theorem d_C_fittingAt_31 : decode c_C_fittingAt 31 = .ok (.ireturn, 1) := by decide +kernel
theorem d_C_gatherFitting_0 : decode c_C_gatherFitting 0 = .ok (.aload_n 0, 1) := by decide +kernel
theorem d_C_gatherFitting_1 : decode c_C_gatherFitting 1 = .ok (.iconst 0, 1) := by decide +kernel
theorem d_C_gatherFitting_2 : decode c_C_gatherFitting 2 = .ok (.putfield 65, 3) := by decide +kernel
theorem d_C_gatherFitting_5 : decode c_C_gatherFitting 5 = .ok (.iconst 0, 1) := by decide +kernel
theorem d_C_gatherFitting_6 : decode c_C_gatherFitting 6 = .ok (.istore 4, 2) := by decide +kernel
theorem d_C_gatherFitting_8 : decode c_C_gatherFitting 8 = .ok (.iload 4, 2) := by decide +kernel
theorem d_C_gatherFitting_10 : decode c_C_gatherFitting 10 = .ok (.bipush 40, 2) := by decide +kernel
theorem d_C_gatherFitting_12 : decode c_C_gatherFitting 12 = .ok (.if_icmp .ge 55, 3) := by decide +kernel
theorem d_C_gatherFitting_15 : decode c_C_gatherFitting 15 = .ok (.aload_n 0, 1) := by decide +kernel
theorem d_C_gatherFitting_16 : decode c_C_gatherFitting 16 = .ok (.iload 4, 2) := by decide +kernel
theorem d_C_gatherFitting_18 : decode c_C_gatherFitting 18 = .ok (.invokevirtual 117, 3) := by decide +kernel
theorem d_C_gatherFitting_21 : decode c_C_gatherFitting 21 = .ok (.astore 5, 2) := by decide +kernel
theorem d_C_gatherFitting_23 : decode c_C_gatherFitting 23 = .ok (.aload 5, 2) := by decide +kernel
theorem d_C_gatherFitting_25 : decode c_C_gatherFitting 25 = .ok (.ifnull 36, 3) := by decide +kernel
theorem d_C_gatherFitting_61 : decode c_C_gatherFitting 61 = .ok (.iinc 4 1, 3) := by decide +kernel
theorem d_C_gatherFitting_64 : decode c_C_gatherFitting 64 = .ok (.goto (-56), 3) := by decide +kernel
theorem d_C_gatherFitting_67 : decode c_C_gatherFitting 67 = .ok (.return_, 1) := by decide +kernel
theorem d_C_heldLoan_0 : decode c_C_heldLoan 0 = .ok (.iload_n 1, 1) := by decide +kernel
theorem d_C_heldLoan_1 : decode c_C_heldLoan 1 = .ok (.iconst 1, 1) := by decide +kernel
theorem d_C_heldLoan_2 : decode c_C_heldLoan 2 = .ok (.if_icmp .lt 20, 3) := by decide +kernel
theorem d_C_heldLoan_5 : decode c_C_heldLoan 5 = .ok (.iload_n 1, 1) := by decide +kernel
theorem d_C_heldLoan_6 : decode c_C_heldLoan 6 = .ok (.aload_n 0, 1) := by decide +kernel
theorem d_C_heldLoan_7 : decode c_C_heldLoan 7 = .ok (.getfield 59, 3) := by decide +kernel
theorem d_C_heldLoan_10 : decode c_C_heldLoan 10 = .ok (.if_icmp .gt 12, 3) := by decide +kernel
theorem d_C_heldLoan_22 : decode c_C_heldLoan 22 = .ok (.aconst_null, 1) := by decide +kernel
theorem d_C_heldLoan_23 : decode c_C_heldLoan 23 = .ok (.areturn, 1) := by decide +kernel
theorem d_C_init_0 : decode c_C_init 0 = .ok (.aload_n 0, 1) := by decide +kernel
theorem d_C_init_1 : decode c_C_init 1 = .ok (.invokespecial 3, 3) := by decide +kernel
theorem d_C_init_4 : decode c_C_init 4 = .ok (.aload_n 0, 1) := by decide +kernel
theorem d_C_init_5 : decode c_C_init 5 = .ok (.new 9, 3) := by decide +kernel
theorem d_C_init_8 : decode c_C_init 8 = .ok (.dup, 1) := by decide +kernel
theorem d_C_init_9 : decode c_C_init 9 = .ok (.invokespecial 11, 3) := by decide +kernel
theorem d_C_init_12 : decode c_C_init 12 = .ok (.putfield 12, 3) := by decide +kernel
theorem d_C_init_15 : decode c_C_init 15 = .ok (.aload_n 0, 1) := by decide +kernel
theorem d_C_init_16 : decode c_C_init 16 = .ok (.bipush 40, 2) := by decide +kernel
theorem d_C_init_18 : decode c_C_init 18 = .ok (.anewarray 16, 3) := by decide +kernel
theorem d_C_init_21 : decode c_C_init 21 = .ok (.putfield 18, 3) := by decide +kernel
theorem d_C_init_24 : decode c_C_init 24 = .ok (.aload_n 0, 1) := by decide +kernel
theorem d_C_init_25 : decode c_C_init 25 = .ok (.iconst 0, 1) := by decide +kernel
theorem d_C_init_26 : decode c_C_init 26 = .ok (.putfield 22, 3) := by decide +kernel
theorem d_C_init_29 : decode c_C_init 29 = .ok (.aload_n 0, 1) := by decide +kernel
theorem d_C_init_30 : decode c_C_init 30 = .ok (.new 26, 3) := by decide +kernel
theorem d_C_init_33 : decode c_C_init 33 = .ok (.dup, 1) := by decide +kernel
theorem d_C_init_34 : decode c_C_init 34 = .ok (.invokespecial 28, 3) := by decide +kernel
theorem d_C_init_37 : decode c_C_init 37 = .ok (.putfield 29, 3) := by decide +kernel
theorem d_C_init_40 : decode c_C_init 40 = .ok (.aload_n 0, 1) := by decide +kernel
theorem d_C_init_41 : decode c_C_init 41 = .ok (.new 26, 3) := by decide +kernel
theorem d_C_init_44 : decode c_C_init 44 = .ok (.dup, 1) := by decide +kernel
theorem d_C_init_45 : decode c_C_init 45 = .ok (.invokespecial 28, 3) := by decide +kernel
theorem d_C_init_48 : decode c_C_init 48 = .ok (.putfield 33, 3) := by decide +kernel
theorem d_C_init_51 : decode c_C_init 51 = .ok (.aload_n 0, 1) := by decide +kernel
theorem d_C_init_52 : decode c_C_init 52 = .ok (.bipush 50, 2) := by decide +kernel
theorem d_C_init_54 : decode c_C_init 54 = .ok (.newarray .int, 2) := by decide +kernel
theorem d_C_init_56 : decode c_C_init 56 = .ok (.putfield 36, 3) := by decide +kernel
theorem d_C_init_59 : decode c_C_init 59 = .ok (.aload_n 0, 1) := by decide +kernel
theorem d_C_init_60 : decode c_C_init 60 = .ok (.bipush 50, 2) := by decide +kernel
theorem d_C_init_62 : decode c_C_init 62 = .ok (.newarray .int, 2) := by decide +kernel
theorem d_C_init_64 : decode c_C_init 64 = .ok (.putfield 40, 3) := by decide +kernel
theorem d_C_init_67 : decode c_C_init 67 = .ok (.aload_n 0, 1) := by decide +kernel
theorem d_C_init_68 : decode c_C_init 68 = .ok (.bipush 50, 2) := by decide +kernel
theorem d_C_init_70 : decode c_C_init 70 = .ok (.newarray .int, 2) := by decide +kernel
theorem d_C_init_72 : decode c_C_init 72 = .ok (.putfield 43, 3) := by decide +kernel
theorem d_C_init_75 : decode c_C_init 75 = .ok (.aload_n 0, 1) := by decide +kernel
theorem d_C_init_76 : decode c_C_init 76 = .ok (.bipush 50, 2) := by decide +kernel
theorem d_C_init_78 : decode c_C_init 78 = .ok (.newarray .boolean, 2) := by decide +kernel
theorem d_C_init_80 : decode c_C_init 80 = .ok (.putfield 46, 3) := by decide +kernel
theorem d_C_init_83 : decode c_C_init 83 = .ok (.aload_n 0, 1) := by decide +kernel
theorem d_C_init_84 : decode c_C_init 84 = .ok (.sipush 2000, 3) := by decide +kernel
theorem d_C_init_87 : decode c_C_init 87 = .ok (.newarray .int, 2) := by decide +kernel
theorem d_C_init_89 : decode c_C_init 89 = .ok (.putfield 50, 3) := by decide +kernel
theorem d_C_init_92 : decode c_C_init 92 = .ok (.aload_n 0, 1) := by decide +kernel
theorem d_C_init_93 : decode c_C_init 93 = .ok (.sipush 200, 3) := by decide +kernel
theorem d_C_init_96 : decode c_C_init 96 = .ok (.anewarray 53, 3) := by decide +kernel
theorem d_C_init_99 : decode c_C_init 99 = .ok (.putfield 55, 3) := by decide +kernel
theorem d_C_init_102 : decode c_C_init 102 = .ok (.aload_n 0, 1) := by decide +kernel
theorem d_C_init_103 : decode c_C_init 103 = .ok (.iconst 0, 1) := by decide +kernel
theorem d_C_init_104 : decode c_C_init 104 = .ok (.putfield 59, 3) := by decide +kernel
theorem d_C_init_107 : decode c_C_init 107 = .ok (.aload_n 0, 1) := by decide +kernel
theorem d_C_init_108 : decode c_C_init 108 = .ok (.bipush 40, 2) := by decide +kernel
theorem d_C_init_110 : decode c_C_init 110 = .ok (.newarray .int, 2) := by decide +kernel
theorem d_C_init_112 : decode c_C_init 112 = .ok (.putfield 62, 3) := by decide +kernel
theorem d_C_init_115 : decode c_C_init 115 = .ok (.aload_n 0, 1) := by decide +kernel
theorem d_C_init_116 : decode c_C_init 116 = .ok (.iconst 0, 1) := by decide +kernel
theorem d_C_init_117 : decode c_C_init 117 = .ok (.putfield 65, 3) := by decide +kernel
theorem d_C_init_120 : decode c_C_init 120 = .ok (.aload_n 0, 1) := by decide +kernel
theorem d_C_init_121 : decode c_C_init 121 = .ok (.sipush 780, 3) := by decide +kernel
theorem d_C_init_124 : decode c_C_init 124 = .ok (.newarray .int, 2) := by decide +kernel
theorem d_C_init_126 : decode c_C_init 126 = .ok (.putfield 68, 3) := by decide +kernel
theorem d_C_init_129 : decode c_C_init 129 = .ok (.aload_n 0, 1) := by decide +kernel
theorem d_C_init_130 : decode c_C_init 130 = .ok (.iconst 0, 1) := by decide +kernel
theorem d_C_init_131 : decode c_C_init 131 = .ok (.putfield 71, 3) := by decide +kernel
theorem d_C_init_134 : decode c_C_init 134 = .ok (.aload_n 0, 1) := by decide +kernel
theorem d_C_init_135 : decode c_C_init 135 = .ok (.getfield 50, 3) := by decide +kernel
theorem d_C_init_138 : decode c_C_init 138 = .ok (.iconst (-1), 1) := by decide +kernel
theorem d_C_init_139 : decode c_C_init 139 = .ok (.invokestatic 74, 3) := by decide +kernel
theorem d_C_init_142 : decode c_C_init 142 = .ok (.return_, 1) := by decide +kernel
theorem d_C_isDay_0 : decode c_C_isDay 0 = .ok (.iload_n 0, 1) := by decide +kernel
theorem d_C_isDay_1 : decode c_C_isDay 1 = .ok (.ifCond .lt 14, 3) := by decide +kernel
theorem d_C_isDay_4 : decode c_C_isDay 4 = .ok (.iload_n 0, 1) := by decide +kernel
theorem d_C_isDay_5 : decode c_C_isDay 5 = .ok (.sipush 10000, 3) := by decide +kernel
theorem d_C_isDay_8 : decode c_C_isDay 8 = .ok (.if_icmp .ge 7, 3) := by decide +kernel
theorem d_C_isDay_11 : decode c_C_isDay 11 = .ok (.iconst 1, 1) := by decide +kernel
theorem d_C_isDay_12 : decode c_C_isDay 12 = .ok (.goto 4, 3) := by decide +kernel
theorem d_C_isDay_15 : decode c_C_isDay 15 = .ok (.iconst 0, 1) := by decide +kernel
theorem d_C_isDay_16 : decode c_C_isDay 16 = .ok (.ireturn, 1) := by decide +kernel
theorem d_C_isItem_0 : decode c_C_isItem 0 = .ok (.iload_n 0, 1) := by decide +kernel
theorem d_C_isItem_1 : decode c_C_isItem 1 = .ok (.ifCond .lt 13, 3) := by decide +kernel
theorem d_C_isItem_4 : decode c_C_isItem 4 = .ok (.iload_n 0, 1) := by decide +kernel
theorem d_C_isItem_5 : decode c_C_isItem 5 = .ok (.bipush 50, 2) := by decide +kernel
theorem d_C_isItem_7 : decode c_C_isItem 7 = .ok (.if_icmp .ge 7, 3) := by decide +kernel
theorem d_C_isItem_10 : decode c_C_isItem 10 = .ok (.iconst 1, 1) := by decide +kernel
theorem d_C_isItem_11 : decode c_C_isItem 11 = .ok (.goto 4, 3) := by decide +kernel
theorem d_C_isItem_14 : decode c_C_isItem 14 = .ok (.iconst 0, 1) := by decide +kernel
theorem d_C_isItem_15 : decode c_C_isItem 15 = .ok (.ireturn, 1) := by decide +kernel
theorem d_C_isPerson_0 : decode c_C_isPerson 0 = .ok (.iload_n 0, 1) := by decide +kernel
theorem d_C_isPerson_1 : decode c_C_isPerson 1 = .ok (.ifCond .lt 13, 3) := by decide +kernel
theorem d_C_isPerson_4 : decode c_C_isPerson 4 = .ok (.iload_n 0, 1) := by decide +kernel
theorem d_C_isPerson_5 : decode c_C_isPerson 5 = .ok (.bipush 50, 2) := by decide +kernel
theorem d_C_isPerson_7 : decode c_C_isPerson 7 = .ok (.if_icmp .ge 7, 3) := by decide +kernel
theorem d_C_isPerson_10 : decode c_C_isPerson 10 = .ok (.iconst 1, 1) := by decide +kernel
theorem d_C_isPerson_11 : decode c_C_isPerson 11 = .ok (.goto 4, 3) := by decide +kernel
theorem d_C_isPerson_14 : decode c_C_isPerson 14 = .ok (.iconst 0, 1) := by decide +kernel
theorem d_C_isPerson_15 : decode c_C_isPerson 15 = .ok (.ireturn, 1) := by decide +kernel
theorem d_C_lend_0 : decode c_C_lend 0 = .ok (.iload_n 1, 1) := by decide +kernel
theorem d_C_lend_1 : decode c_C_lend 1 = .ok (.invokestatic 103, 3) := by decide +kernel
theorem d_C_lend_4 : decode c_C_lend 4 = .ok (.ifCond .eq 17, 3) := by decide +kernel
theorem d_C_lend_7 : decode c_C_lend 7 = .ok (.iload_n 2, 1) := by decide +kernel
theorem d_C_lend_8 : decode c_C_lend 8 = .ok (.invokestatic 106, 3) := by decide +kernel
theorem d_C_lend_11 : decode c_C_lend 11 = .ok (.ifCond .eq 10, 3) := by decide +kernel
theorem d_C_lend_14 : decode c_C_lend 14 = .ok (.iload_n 3, 1) := by decide +kernel
theorem d_C_lend_15 : decode c_C_lend 15 = .ok (.invokestatic 92, 3) := by decide +kernel
theorem d_C_lend_18 : decode c_C_lend 18 = .ok (.ifCond .ne 5, 3) := by decide +kernel
theorem d_C_lend_21 : decode c_C_lend 21 = .ok (.iconst 0, 1) := by decide +kernel
theorem d_C_lend_22 : decode c_C_lend 22 = .ok (.ireturn, 1) := by decide +kernel
theorem d_C_lend_23 : decode c_C_lend 23 = .ok (.aload_n 0, 1) := by decide +kernel
theorem d_C_lend_24 : decode c_C_lend 24 = .ok (.getfield 46, 3) := by decide +kernel
theorem d_C_lend_27 : decode c_C_lend 27 = .ok (.iload_n 2, 1) := by decide +kernel
theorem d_C_lend_28 : decode c_C_lend 28 = .ok (.baload, 1) := by decide +kernel
theorem d_C_lend_29 : decode c_C_lend 29 = .ok (.ifCond .ne 13, 3) := by decide +kernel
theorem d_C_lend_32 : decode c_C_lend 32 = .ok (.aload_n 0, 1) := by decide +kernel
theorem d_C_lend_33 : decode c_C_lend 33 = .ok (.getfield 59, 3) := by decide +kernel
theorem d_C_lend_36 : decode c_C_lend 36 = .ok (.sipush 200, 3) := by decide +kernel
theorem d_C_lend_39 : decode c_C_lend 39 = .ok (.if_icmp .lt 5, 3) := by decide +kernel
theorem d_C_lend_44 : decode c_C_lend 44 = .ok (.aload_n 0, 1) := by decide +kernel
theorem d_C_lend_45 : decode c_C_lend 45 = .ok (.getfield 40, 3) := by decide +kernel
theorem d_C_lend_48 : decode c_C_lend 48 = .ok (.iload_n 1, 1) := by decide +kernel
theorem d_C_lend_49 : decode c_C_lend 49 = .ok (.iaload, 1) := by decide +kernel
theorem d_C_lend_50 : decode c_C_lend 50 = .ok (.ifCond .eq 13, 3) := by decide +kernel
theorem d_C_lend_63 : decode c_C_lend 63 = .ok (.aload_n 0, 1) := by decide +kernel
theorem d_C_lend_64 : decode c_C_lend 64 = .ok (.iload_n 1, 1) := by decide +kernel
theorem d_C_lend_65 : decode c_C_lend 65 = .ok (.iload_n 2, 1) := by decide +kernel
theorem d_C_lend_66 : decode c_C_lend 66 = .ok (.iload_n 3, 1) := by decide +kernel
theorem d_C_lend_67 : decode c_C_lend 67 = .ok (.invokevirtual 109, 3) := by decide +kernel
theorem d_C_lend_70 : decode c_C_lend 70 = .ok (.aload_n 0, 1) := by decide +kernel
theorem d_C_lend_71 : decode c_C_lend 71 = .ok (.aload_n 0, 1) := by decide +kernel
theorem d_C_lend_72 : decode c_C_lend 72 = .ok (.iconst 0, 1) := by decide +kernel
theorem d_C_lend_73 : decode c_C_lend 73 = .ok (.invokevirtual 113, 3) := by decide +kernel
theorem d_C_lend_76 : decode c_C_lend 76 = .ok (.invokevirtual 117, 3) := by decide +kernel
theorem d_C_lend_79 : decode c_C_lend 79 = .ok (.astore 4, 2) := by decide +kernel
theorem d_C_lend_81 : decode c_C_lend 81 = .ok (.aload 4, 2) := by decide +kernel
theorem d_C_lend_83 : decode c_C_lend 83 = .ok (.ifnonnull 6, 3) := by decide +kernel
theorem d_C_lend_86 : decode c_C_lend 86 = .ok (.bipush (-100), 2) := by decide +kernel
theorem d_C_lend_88 : decode c_C_lend 88 = .ok (.ireturn, 1) := by decide +kernel
theorem d_C_never_0 : decode c_C_never 0 = .ok (.iconst 0, 1) := by decide +kernel
theorem d_C_never_1 : decode c_C_never 1 = .ok (.istore_n 2, 1) := by decide +kernel
theorem d_C_never_2 : decode c_C_never 2 = .ok (.iconst 0, 1) := by decide +kernel
theorem d_C_never_3 : decode c_C_never 3 = .ok (.istore_n 3, 1) := by decide +kernel
theorem d_C_never_4 : decode c_C_never 4 = .ok (.iload_n 3, 1) := by decide +kernel
theorem d_C_never_5 : decode c_C_never 5 = .ok (.bipush 40, 2) := by decide +kernel
theorem d_C_never_7 : decode c_C_never 7 = .ok (.if_icmp .ge 39, 3) := by decide +kernel
theorem d_C_never_10 : decode c_C_never 10 = .ok (.aload_n 0, 1) := by decide +kernel
theorem d_C_never_11 : decode c_C_never 11 = .ok (.iload_n 3, 1) := by decide +kernel
theorem d_C_never_12 : decode c_C_never 12 = .ok (.invokevirtual 117, 3) := by decide +kernel
theorem d_C_never_15 : decode c_C_never 15 = .ok (.astore 4, 2) := by decide +kernel
theorem d_C_never_17 : decode c_C_never 17 = .ok (.aload 4, 2) := by decide +kernel
theorem d_C_never_19 : decode c_C_never 19 = .ok (.ifnull 21, 3) := by decide +kernel
theorem d_C_never_40 : decode c_C_never 40 = .ok (.iinc 3 1, 3) := by decide +kernel
theorem d_C_never_43 : decode c_C_never 43 = .ok (.goto (-39), 3) := by decide +kernel
theorem d_C_never_46 : decode c_C_never 46 = .ok (.iconst (-1), 1) := by decide +kernel
theorem d_C_never_47 : decode c_C_never 47 = .ok (.ireturn, 1) := by decide +kernel
theorem d_C_recall_0 : decode c_C_recall 0 = .ok (.aload_n 0, 1) := by decide +kernel
theorem d_C_recall_1 : decode c_C_recall 1 = .ok (.iload_n 1, 1) := by decide +kernel
theorem d_C_recall_2 : decode c_C_recall 2 = .ok (.invokevirtual 156, 3) := by decide +kernel
theorem d_C_recall_5 : decode c_C_recall 5 = .ok (.astore_n 3, 1) := by decide +kernel
theorem d_C_recall_6 : decode c_C_recall 6 = .ok (.aload_n 3, 1) := by decide +kernel
theorem d_C_recall_7 : decode c_C_recall 7 = .ok (.ifnull 10, 3) := by decide +kernel
theorem d_C_recall_17 : decode c_C_recall 17 = .ok (.iconst 0, 1) := by decide +kernel
theorem d_C_recall_18 : decode c_C_recall 18 = .ok (.ireturn, 1) := by decide +kernel
theorem d_C_renew_0 : decode c_C_renew 0 = .ok (.aload_n 0, 1) := by decide +kernel
theorem d_C_renew_1 : decode c_C_renew 1 = .ok (.iload_n 1, 1) := by decide +kernel
theorem d_C_renew_2 : decode c_C_renew 2 = .ok (.invokevirtual 156, 3) := by decide +kernel
theorem d_C_renew_5 : decode c_C_renew 5 = .ok (.astore_n 3, 1) := by decide +kernel
theorem d_C_renew_6 : decode c_C_renew 6 = .ok (.aload_n 3, 1) := by decide +kernel
theorem d_C_renew_7 : decode c_C_renew 7 = .ok (.ifnull 10, 3) := by decide +kernel
theorem d_C_renew_17 : decode c_C_renew 17 = .ok (.iconst 0, 1) := by decide +kernel
theorem d_C_renew_18 : decode c_C_renew 18 = .ok (.ireturn, 1) := by decide +kernel
theorem d_C_row_0 : decode c_C_row 0 = .ok (.iload_n 3, 1) := by decide +kernel
theorem d_C_row_1 : decode c_C_row 1 = .ok (.ifCond .lt 9, 3) := by decide +kernel
theorem d_C_row_4 : decode c_C_row 4 = .ok (.iload_n 3, 1) := by decide +kernel
theorem d_C_row_5 : decode c_C_row 5 = .ok (.bipush 9, 2) := by decide +kernel
theorem d_C_row_7 : decode c_C_row 7 = .ok (.if_icmp .le 5, 3) := by decide +kernel
theorem d_C_row_10 : decode c_C_row 10 = .ok (.iconst 0, 1) := by decide +kernel
theorem d_C_row_11 : decode c_C_row 11 = .ok (.ireturn, 1) := by decide +kernel
theorem d_C_row_12 : decode c_C_row 12 = .ok (.iload_n 1, 1) := by decide +kernel
theorem d_C_row_13 : decode c_C_row 13 = .ok (.ifCond .ne 19, 3) := by decide +kernel
theorem d_C_row_16 : decode c_C_row 16 = .ok (.iload_n 2, 1) := by decide +kernel
theorem d_C_row_17 : decode c_C_row 17 = .ok (.invokestatic 103, 3) := by decide +kernel
theorem d_C_row_20 : decode c_C_row 20 = .ok (.ifCond .eq 12, 3) := by decide +kernel
theorem d_C_row_23 : decode c_C_row 23 = .ok (.aload_n 0, 1) := by decide +kernel
theorem d_C_row_24 : decode c_C_row 24 = .ok (.getfield 36, 3) := by decide +kernel
theorem d_C_row_27 : decode c_C_row 27 = .ok (.iload_n 2, 1) := by decide +kernel
theorem d_C_row_28 : decode c_C_row 28 = .ok (.iload_n 3, 1) := by decide +kernel
theorem d_C_row_29 : decode c_C_row 29 = .ok (.iastore, 1) := by decide +kernel
theorem d_C_row_30 : decode c_C_row 30 = .ok (.iconst 1, 1) := by decide +kernel
theorem d_C_row_31 : decode c_C_row 31 = .ok (.ireturn, 1) := by decide +kernel
theorem d_C_row_32 : decode c_C_row 32 = .ok (.iload_n 1, 1) := by decide +kernel
theorem d_C_row_33 : decode c_C_row 33 = .ok (.iconst 1, 1) := by decide +kernel
theorem d_C_row_34 : decode c_C_row 34 = .ok (.if_icmp .ne 19, 3) := by decide +kernel
theorem d_C_row_37 : decode c_C_row 37 = .ok (.iload_n 2, 1) := by decide +kernel
theorem d_C_row_38 : decode c_C_row 38 = .ok (.invokestatic 106, 3) := by decide +kernel
theorem d_C_row_41 : decode c_C_row 41 = .ok (.ifCond .eq 12, 3) := by decide +kernel
theorem d_C_row_44 : decode c_C_row 44 = .ok (.aload_n 0, 1) := by decide +kernel
theorem d_C_row_45 : decode c_C_row 45 = .ok (.getfield 43, 3) := by decide +kernel
theorem d_C_row_48 : decode c_C_row 48 = .ok (.iload_n 2, 1) := by decide +kernel
theorem d_C_row_49 : decode c_C_row 49 = .ok (.iload_n 3, 1) := by decide +kernel
theorem d_C_row_50 : decode c_C_row 50 = .ok (.iastore, 1) := by decide +kernel
theorem d_C_row_51 : decode c_C_row 51 = .ok (.iconst 1, 1) := by decide +kernel
theorem d_C_row_52 : decode c_C_row 52 = .ok (.ireturn, 1) := by decide +kernel
theorem d_C_row_53 : decode c_C_row 53 = .ok (.iconst 0, 1) := by decide +kernel
theorem d_C_row_54 : decode c_C_row 54 = .ok (.ireturn, 1) := by decide +kernel
theorem d_C_rule_0 : decode c_C_rule 0 = .ok (.new 16, 3) := by decide +kernel
theorem d_C_rule_3 : decode c_C_rule 3 = .ok (.dup, 1) := by decide +kernel
theorem d_C_rule_4 : decode c_C_rule 4 = .ok (.invokespecial 84, 3) := by decide +kernel
theorem d_C_rule_7 : decode c_C_rule 7 = .ok (.astore_n 1, 1) := by decide +kernel
theorem d_C_rule_8 : decode c_C_rule 8 = .ok (.aload_n 0, 1) := by decide +kernel
theorem d_C_rule_9 : decode c_C_rule 9 = .ok (.getfield 12, 3) := by decide +kernel
theorem d_C_rule_12 : decode c_C_rule 12 = .ok (.aload_n 1, 1) := by decide +kernel
theorem d_C_rule_13 : decode c_C_rule 13 = .ok (.invokevirtual 85, 3) := by decide +kernel
theorem d_C_rule_16 : decode c_C_rule 16 = .ok (.istore_n 2, 1) := by decide +kernel
theorem d_C_rule_17 : decode c_C_rule 17 = .ok (.aload_n 0, 1) := by decide +kernel
theorem d_C_rule_18 : decode c_C_rule 18 = .ok (.getfield 12, 3) := by decide +kernel
theorem d_C_rule_21 : decode c_C_rule 21 = .ok (.invokevirtual 89, 3) := by decide +kernel
theorem d_C_rule_24 : decode c_C_rule 24 = .ok (.iload_n 2, 1) := by decide +kernel
theorem d_C_rule_25 : decode c_C_rule 25 = .ok (.iconst (-1), 1) := by decide +kernel
theorem d_C_rule_26 : decode c_C_rule 26 = .ok (.if_icmp .eq 7, 3) := by decide +kernel
theorem d_C_rule_29 : decode c_C_rule 29 = .ok (.iconst (-1), 1) := by decide +kernel
theorem d_C_rule_30 : decode c_C_rule 30 = .ok (.iload_n 2, 1) := by decide +kernel
theorem d_C_rule_31 : decode c_C_rule 31 = .ok (.isub, 1) := by decide +kernel
theorem d_C_rule_32 : decode c_C_rule 32 = .ok (.ireturn, 1) := by decide +kernel
theorem d_C_ruleAt_0 : decode c_C_ruleAt 0 = .ok (.iload_n 1, 1) := by decide +kernel
theorem d_C_ruleAt_1 : decode c_C_ruleAt 1 = .ok (.ifCond .lt 29, 3) := by decide +kernel
theorem d_C_ruleAt_4 : decode c_C_ruleAt 4 = .ok (.iload_n 1, 1) := by decide +kernel
theorem d_C_ruleAt_5 : decode c_C_ruleAt 5 = .ok (.aload_n 0, 1) := by decide +kernel
theorem d_C_ruleAt_6 : decode c_C_ruleAt 6 = .ok (.getfield 22, 3) := by decide +kernel
theorem d_C_ruleAt_9 : decode c_C_ruleAt 9 = .ok (.if_icmp .ge 21, 3) := by decide +kernel
theorem d_C_ruleAt_30 : decode c_C_ruleAt 30 = .ok (.aconst_null, 1) := by decide +kernel
theorem d_C_ruleAt_31 : decode c_C_ruleAt 31 = .ok (.areturn, 1) := by decide +kernel
theorem d_C_sign_0 : decode c_C_sign 0 = .ok (.aload_n 0, 1) := by decide +kernel
theorem d_C_sign_1 : decode c_C_sign 1 = .ok (.getfield 12, 3) := by decide +kernel
theorem d_C_sign_4 : decode c_C_sign 4 = .ok (.iload_n 1, 1) := by decide +kernel
theorem d_C_sign_5 : decode c_C_sign 5 = .ok (.invokevirtual 80, 3) := by decide +kernel
theorem d_C_sign_8 : decode c_C_sign 8 = .ok (.return_, 1) := by decide +kernel
theorem d_C_term_0 : decode c_C_term 0 = .ok (.iload_n 1, 1) := by decide +kernel
theorem d_C_term_1 : decode c_C_term 1 = .ok (.invokestatic 92, 3) := by decide +kernel
theorem d_C_term_4 : decode c_C_term 4 = .ok (.ifCond .eq 14, 3) := by decide +kernel
theorem d_C_term_7 : decode c_C_term 7 = .ok (.aload_n 0, 1) := by decide +kernel
theorem d_C_term_8 : decode c_C_term 8 = .ok (.getfield 33, 3) := by decide +kernel
theorem d_C_term_11 : decode c_C_term 11 = .ok (.iload_n 1, 1) := by decide +kernel
theorem d_C_term_12 : decode c_C_term 12 = .ok (.invokevirtual 96, 3) := by decide +kernel
theorem d_C_term_15 : decode c_C_term 15 = .ok (.ifCond .eq 5, 3) := by decide +kernel
theorem d_C_term_18 : decode c_C_term 18 = .ok (.iconst 0, 1) := by decide +kernel
theorem d_C_term_19 : decode c_C_term 19 = .ok (.ireturn, 1) := by decide +kernel
theorem d_C_term_20 : decode c_C_term 20 = .ok (.aload_n 0, 1) := by decide +kernel
theorem d_C_term_21 : decode c_C_term 21 = .ok (.getfield 33, 3) := by decide +kernel
theorem d_C_term_24 : decode c_C_term 24 = .ok (.iload_n 1, 1) := by decide +kernel
theorem d_C_term_25 : decode c_C_term 25 = .ok (.iconst 1, 1) := by decide +kernel
theorem d_C_term_26 : decode c_C_term 26 = .ok (.invokevirtual 99, 3) := by decide +kernel
theorem d_C_term_29 : decode c_C_term 29 = .ok (.iconst 1, 1) := by decide +kernel
theorem d_C_term_30 : decode c_C_term 30 = .ok (.ireturn, 1) := by decide +kernel
theorem d_C_throwsUp_0 : decode c_C_throwsUp 0 = .ok (.aload_n 0, 1) := by decide +kernel
theorem d_C_throwsUp_1 : decode c_C_throwsUp 1 = .ok (.iload_n 1, 1) := by decide +kernel
theorem d_C_throwsUp_2 : decode c_C_throwsUp 2 = .ok (.invokevirtual 117, 3) := by decide +kernel
theorem d_C_throwsUp_5 : decode c_C_throwsUp 5 = .ok (.astore_n 3, 1) := by decide +kernel
theorem d_C_throwsUp_6 : decode c_C_throwsUp 6 = .ok (.aload_n 3, 1) := by decide +kernel
theorem d_C_throwsUp_7 : decode c_C_throwsUp 7 = .ok (.ifnull 11, 3) := by decide +kernel
theorem d_C_throwsUp_18 : decode c_C_throwsUp 18 = .ok (.iconst 0, 1) := by decide +kernel
theorem d_C_throwsUp_19 : decode c_C_throwsUp 19 = .ok (.ireturn, 1) := by decide +kernel
theorem d_D_holds_0 : decode c_D_holds 0 = .ok (.iload_n 1, 1) := by decide +kernel
theorem d_D_holds_1 : decode c_D_holds 1 = .ok (.invokestatic 15, 3) := by decide +kernel
theorem d_D_holds_4 : decode c_D_holds 4 = .ok (.ifCond .eq 28, 3) := by decide +kernel
theorem d_D_holds_7 : decode c_D_holds 7 = .ok (.aload_n 0, 1) := by decide +kernel
theorem d_D_holds_8 : decode c_D_holds 8 = .ok (.getfield 11, 3) := by decide +kernel
theorem d_D_holds_11 : decode c_D_holds 11 = .ok (.iload_n 1, 1) := by decide +kernel
theorem d_D_holds_12 : decode c_D_holds 12 = .ok (.bipush 64, 2) := by decide +kernel
theorem d_D_holds_14 : decode c_D_holds 14 = .ok (.idiv, 1) := by decide +kernel
theorem d_D_holds_15 : decode c_D_holds 15 = .ok (.laload, 1) := by decide +kernel
theorem d_D_holds_16 : decode c_D_holds 16 = .ok (.iload_n 1, 1) := by decide +kernel
theorem d_D_holds_17 : decode c_D_holds 17 = .ok (.bipush 64, 2) := by decide +kernel
theorem d_D_holds_19 : decode c_D_holds 19 = .ok (.irem, 1) := by decide +kernel
theorem d_D_holds_20 : decode c_D_holds 20 = .ok (.lushr, 1) := by decide +kernel
theorem d_D_holds_21 : decode c_D_holds 21 = .ok (.lconst 1, 1) := by decide +kernel
theorem d_D_holds_22 : decode c_D_holds 22 = .ok (.land, 1) := by decide +kernel
theorem d_D_holds_23 : decode c_D_holds 23 = .ok (.lconst 0, 1) := by decide +kernel
theorem d_D_holds_24 : decode c_D_holds 24 = .ok (.lcmp, 1) := by decide +kernel
theorem d_D_holds_25 : decode c_D_holds 25 = .ok (.ifCond .eq 7, 3) := by decide +kernel
theorem d_D_holds_32 : decode c_D_holds 32 = .ok (.iconst 0, 1) := by decide +kernel
theorem d_D_holds_33 : decode c_D_holds 33 = .ok (.ireturn, 1) := by decide +kernel
theorem d_D_init_0 : decode c_D_init 0 = .ok (.aload_n 0, 1) := by decide +kernel
theorem d_D_init_1 : decode c_D_init 1 = .ok (.invokespecial 5, 3) := by decide +kernel
theorem d_D_init_4 : decode c_D_init 4 = .ok (.aload_n 0, 1) := by decide +kernel
theorem d_D_init_5 : decode c_D_init 5 = .ok (.sipush 157, 3) := by decide +kernel
theorem d_D_init_8 : decode c_D_init 8 = .ok (.newarray .long, 2) := by decide +kernel
theorem d_D_init_10 : decode c_D_init 10 = .ok (.putfield 11, 3) := by decide +kernel
theorem d_D_init_13 : decode c_D_init 13 = .ok (.return_, 1) := by decide +kernel
theorem d_D_put_0 : decode c_D_put 0 = .ok (.iload_n 1, 1) := by decide +kernel
theorem d_D_put_1 : decode c_D_put 1 = .ok (.invokestatic 15, 3) := by decide +kernel
theorem d_D_put_4 : decode c_D_put 4 = .ok (.ifCond .ne 4, 3) := by decide +kernel
theorem d_D_put_7 : decode c_D_put 7 = .ok (.return_, 1) := by decide +kernel
theorem d_D_put_8 : decode c_D_put 8 = .ok (.lconst 1, 1) := by decide +kernel
theorem d_D_put_9 : decode c_D_put 9 = .ok (.iload_n 1, 1) := by decide +kernel
theorem d_D_put_10 : decode c_D_put 10 = .ok (.bipush 64, 2) := by decide +kernel
theorem d_D_put_12 : decode c_D_put 12 = .ok (.irem, 1) := by decide +kernel
theorem d_D_put_13 : decode c_D_put 13 = .ok (.lshl, 1) := by decide +kernel
theorem d_D_put_14 : decode c_D_put 14 = .ok (.lstore_n 3, 1) := by decide +kernel
theorem d_D_put_15 : decode c_D_put 15 = .ok (.iload_n 2, 1) := by decide +kernel
theorem d_D_put_16 : decode c_D_put 16 = .ok (.ifCond .eq 19, 3) := by decide +kernel
theorem d_D_put_19 : decode c_D_put 19 = .ok (.aload_n 0, 1) := by decide +kernel
theorem d_D_put_20 : decode c_D_put 20 = .ok (.getfield 11, 3) := by decide +kernel
theorem d_D_put_23 : decode c_D_put 23 = .ok (.iload_n 1, 1) := by decide +kernel
theorem d_D_put_24 : decode c_D_put 24 = .ok (.bipush 64, 2) := by decide +kernel
theorem d_D_put_26 : decode c_D_put 26 = .ok (.idiv, 1) := by decide +kernel
theorem d_D_put_27 : decode c_D_put 27 = .ok (.dup2, 1) := by decide +kernel
theorem d_D_put_28 : decode c_D_put 28 = .ok (.laload, 1) := by decide +kernel
theorem d_D_put_29 : decode c_D_put 29 = .ok (.lload_n 3, 1) := by decide +kernel
theorem d_D_put_30 : decode c_D_put 30 = .ok (.lor, 1) := by decide +kernel
theorem d_D_put_31 : decode c_D_put 31 = .ok (.lastore, 1) := by decide +kernel
theorem d_D_put_32 : decode c_D_put 32 = .ok (.goto 20, 3) := by decide +kernel
theorem d_D_put_35 : decode c_D_put 35 = .ok (.aload_n 0, 1) := by decide +kernel
theorem d_D_put_36 : decode c_D_put 36 = .ok (.getfield 11, 3) := by decide +kernel
theorem d_D_put_39 : decode c_D_put 39 = .ok (.iload_n 1, 1) := by decide +kernel
theorem d_D_put_40 : decode c_D_put 40 = .ok (.bipush 64, 2) := by decide +kernel
theorem d_D_put_42 : decode c_D_put 42 = .ok (.idiv, 1) := by decide +kernel
theorem d_D_put_43 : decode c_D_put 43 = .ok (.dup2, 1) := by decide +kernel
theorem d_D_put_44 : decode c_D_put 44 = .ok (.laload, 1) := by decide +kernel
theorem d_D_put_45 : decode c_D_put 45 = .ok (.lload_n 3, 1) := by decide +kernel
theorem d_D_put_46 : decode c_D_put 46 = .ok (.ldc2_w 19, 3) := by decide +kernel
theorem d_D_put_49 : decode c_D_put 49 = .ok (.lxor, 1) := by decide +kernel
theorem d_D_put_50 : decode c_D_put 50 = .ok (.land, 1) := by decide +kernel
theorem d_D_put_51 : decode c_D_put 51 = .ok (.lastore, 1) := by decide +kernel
theorem d_D_put_52 : decode c_D_put 52 = .ok (.return_, 1) := by decide +kernel
theorem d_L_law_0 : decode c_L_law 0 = .ok (.new 8, 3) := by decide +kernel
theorem d_L_law_3 : decode c_L_law 3 = .ok (.dup, 1) := by decide +kernel
theorem d_L_law_4 : decode c_L_law 4 = .ok (.invokespecial 15, 3) := by decide +kernel
theorem d_L_law_7 : decode c_L_law 7 = .ok (.astore_n 1, 1) := by decide +kernel
theorem d_L_law_8 : decode c_L_law 8 = .ok (.new 16, 3) := by decide +kernel
theorem d_L_law_11 : decode c_L_law 11 = .ok (.dup, 1) := by decide +kernel
theorem d_L_law_12 : decode c_L_law 12 = .ok (.invokespecial 18, 3) := by decide +kernel
theorem d_L_law_15 : decode c_L_law 15 = .ok (.astore_n 2, 1) := by decide +kernel
theorem d_L_law_16 : decode c_L_law 16 = .ok (.iconst 1, 1) := by decide +kernel
theorem d_L_law_17 : decode c_L_law 17 = .ok (.newarray .long, 2) := by decide +kernel
theorem d_L_law_19 : decode c_L_law 19 = .ok (.astore_n 3, 1) := by decide +kernel
theorem d_L_law_20 : decode c_L_law 20 = .ok (.iconst 0, 1) := by decide +kernel
theorem d_L_law_21 : decode c_L_law 21 = .ok (.istore 4, 2) := by decide +kernel
theorem d_L_law_23 : decode c_L_law 23 = .ok (.iload 4, 2) := by decide +kernel
theorem d_L_law_25 : decode c_L_law 25 = .ok (.aload_n 0, 1) := by decide +kernel
theorem d_L_law_26 : decode c_L_law 26 = .ok (.arraylength, 1) := by decide +kernel
theorem d_L_law_27 : decode c_L_law 27 = .ok (.iconst 4, 1) := by decide +kernel
theorem d_L_law_28 : decode c_L_law 28 = .ok (.isub, 1) := by decide +kernel
theorem d_L_law_29 : decode c_L_law 29 = .ok (.if_icmp .gt 686, 3) := by decide +kernel
theorem d_L_law_32 : decode c_L_law 32 = .ok (.aload_n 0, 1) := by decide +kernel
theorem d_L_law_33 : decode c_L_law 33 = .ok (.iload 4, 2) := by decide +kernel
theorem d_L_law_35 : decode c_L_law 35 = .ok (.iaload, 1) := by decide +kernel
theorem d_L_law_36 : decode c_L_law 36 = .ok (.bipush 15, 2) := by decide +kernel
theorem d_L_law_38 : decode c_L_law 38 = .ok (.iand, 1) := by decide +kernel
theorem d_L_law_39 : decode c_L_law 39 = .ok (.tableswitch 670 0 15 #[77, 100, 113, 166, 191, 240, 320, 345, 382, 419, 444, 481, 530, 583, 608, 633], 77) := by decide +kernel
theorem d_L_law_116 : decode c_L_law 116 = .ok (.aload_n 1, 1) := by decide +kernel
theorem d_L_law_117 : decode c_L_law 117 = .ok (.aload_n 0, 1) := by decide +kernel
theorem d_L_law_118 : decode c_L_law 118 = .ok (.iload 4, 2) := by decide +kernel
theorem d_L_law_120 : decode c_L_law 120 = .ok (.iconst 1, 1) := by decide +kernel
theorem d_L_law_121 : decode c_L_law 121 = .ok (.iadd, 1) := by decide +kernel
theorem d_L_law_122 : decode c_L_law 122 = .ok (.iaload, 1) := by decide +kernel
theorem d_L_law_123 : decode c_L_law 123 = .ok (.invokevirtual 19, 3) := by decide +kernel
theorem d_L_law_126 : decode c_L_law 126 = .ok (.aload_n 2, 1) := by decide +kernel
theorem d_L_law_127 : decode c_L_law 127 = .ok (.aload_n 0, 1) := by decide +kernel
theorem d_L_law_128 : decode c_L_law 128 = .ok (.iload 4, 2) := by decide +kernel
theorem d_L_law_130 : decode c_L_law 130 = .ok (.iconst 1, 1) := by decide +kernel
theorem d_L_law_131 : decode c_L_law 131 = .ok (.iadd, 1) := by decide +kernel
theorem d_L_law_132 : decode c_L_law 132 = .ok (.iaload, 1) := by decide +kernel
theorem d_L_law_133 : decode c_L_law 133 = .ok (.invokevirtual 23, 3) := by decide +kernel
theorem d_L_law_136 : decode c_L_law 136 = .ok (.goto 573, 3) := by decide +kernel
theorem d_L_law_139 : decode c_L_law 139 = .ok (.aload_n 1, 1) := by decide +kernel
theorem d_L_law_140 : decode c_L_law 140 = .ok (.invokevirtual 24, 3) := by decide +kernel
theorem d_L_law_143 : decode c_L_law 143 = .ok (.aload_n 2, 1) := by decide +kernel
theorem d_L_law_144 : decode c_L_law 144 = .ok (.invokevirtual 28, 3) := by decide +kernel
theorem d_L_law_147 : decode c_L_law 147 = .ok (.if_icmp .eq 562, 3) := by decide +kernel
theorem d_L_law_152 : decode c_L_law 152 = .ok (.aload_n 1, 1) := by decide +kernel
theorem d_L_law_153 : decode c_L_law 153 = .ok (.aload_n 0, 1) := by decide +kernel
theorem d_L_law_154 : decode c_L_law 154 = .ok (.iload 4, 2) := by decide +kernel
theorem d_L_law_156 : decode c_L_law 156 = .ok (.iconst 1, 1) := by decide +kernel
theorem d_L_law_157 : decode c_L_law 157 = .ok (.iadd, 1) := by decide +kernel
theorem d_L_law_158 : decode c_L_law 158 = .ok (.iaload, 1) := by decide +kernel
theorem d_L_law_159 : decode c_L_law 159 = .ok (.aload_n 0, 1) := by decide +kernel
theorem d_L_law_160 : decode c_L_law 160 = .ok (.iload 4, 2) := by decide +kernel
theorem d_L_law_162 : decode c_L_law 162 = .ok (.iconst 2, 1) := by decide +kernel
theorem d_L_law_163 : decode c_L_law 163 = .ok (.iadd, 1) := by decide +kernel
theorem d_L_law_164 : decode c_L_law 164 = .ok (.iaload, 1) := by decide +kernel
theorem d_L_law_165 : decode c_L_law 165 = .ok (.ifCond .eq 7, 3) := by decide +kernel
theorem d_L_law_168 : decode c_L_law 168 = .ok (.iconst 1, 1) := by decide +kernel
theorem d_L_law_169 : decode c_L_law 169 = .ok (.goto 4, 3) := by decide +kernel
theorem d_L_law_172 : decode c_L_law 172 = .ok (.iconst 0, 1) := by decide +kernel
theorem d_L_law_173 : decode c_L_law 173 = .ok (.invokevirtual 29, 3) := by decide +kernel
theorem d_L_law_176 : decode c_L_law 176 = .ok (.aload_n 2, 1) := by decide +kernel
theorem d_L_law_177 : decode c_L_law 177 = .ok (.aload_n 0, 1) := by decide +kernel
theorem d_L_law_178 : decode c_L_law 178 = .ok (.iload 4, 2) := by decide +kernel
theorem d_L_law_180 : decode c_L_law 180 = .ok (.iconst 1, 1) := by decide +kernel
theorem d_L_law_181 : decode c_L_law 181 = .ok (.iadd, 1) := by decide +kernel
theorem d_L_law_182 : decode c_L_law 182 = .ok (.iaload, 1) := by decide +kernel
theorem d_L_law_183 : decode c_L_law 183 = .ok (.aload_n 0, 1) := by decide +kernel
theorem d_L_law_184 : decode c_L_law 184 = .ok (.iload 4, 2) := by decide +kernel
theorem d_L_law_186 : decode c_L_law 186 = .ok (.iconst 2, 1) := by decide +kernel
theorem d_L_law_187 : decode c_L_law 187 = .ok (.iadd, 1) := by decide +kernel
theorem d_L_law_188 : decode c_L_law 188 = .ok (.iaload, 1) := by decide +kernel
theorem d_L_law_189 : decode c_L_law 189 = .ok (.ifCond .eq 7, 3) := by decide +kernel
theorem d_L_law_192 : decode c_L_law 192 = .ok (.iconst 1, 1) := by decide +kernel
theorem d_L_law_193 : decode c_L_law 193 = .ok (.goto 4, 3) := by decide +kernel
theorem d_L_law_196 : decode c_L_law 196 = .ok (.iconst 0, 1) := by decide +kernel
theorem d_L_law_197 : decode c_L_law 197 = .ok (.invokevirtual 33, 3) := by decide +kernel
theorem d_L_law_200 : decode c_L_law 200 = .ok (.if_icmp .eq 509, 3) := by decide +kernel
theorem d_L_law_205 : decode c_L_law 205 = .ok (.aload_n 1, 1) := by decide +kernel
theorem d_L_law_206 : decode c_L_law 206 = .ok (.aload_n 0, 1) := by decide +kernel
theorem d_L_law_207 : decode c_L_law 207 = .ok (.iload 4, 2) := by decide +kernel
theorem d_L_law_209 : decode c_L_law 209 = .ok (.iconst 1, 1) := by decide +kernel
theorem d_L_law_210 : decode c_L_law 210 = .ok (.iadd, 1) := by decide +kernel
theorem d_L_law_211 : decode c_L_law 211 = .ok (.iaload, 1) := by decide +kernel
theorem d_L_law_212 : decode c_L_law 212 = .ok (.invokevirtual 34, 3) := by decide +kernel
theorem d_L_law_215 : decode c_L_law 215 = .ok (.aload_n 2, 1) := by decide +kernel
theorem d_L_law_216 : decode c_L_law 216 = .ok (.aload_n 0, 1) := by decide +kernel
theorem d_L_law_217 : decode c_L_law 217 = .ok (.iload 4, 2) := by decide +kernel
theorem d_L_law_219 : decode c_L_law 219 = .ok (.iconst 1, 1) := by decide +kernel
theorem d_L_law_220 : decode c_L_law 220 = .ok (.iadd, 1) := by decide +kernel
theorem d_L_law_221 : decode c_L_law 221 = .ok (.iaload, 1) := by decide +kernel
theorem d_L_law_222 : decode c_L_law 222 = .ok (.invokevirtual 38, 3) := by decide +kernel
theorem d_L_law_225 : decode c_L_law 225 = .ok (.if_icmp .eq 484, 3) := by decide +kernel
theorem d_L_law_230 : decode c_L_law 230 = .ok (.aload_n 1, 1) := by decide +kernel
theorem d_L_law_231 : decode c_L_law 231 = .ok (.aload_n 0, 1) := by decide +kernel
theorem d_L_law_232 : decode c_L_law 232 = .ok (.iload 4, 2) := by decide +kernel
theorem d_L_law_234 : decode c_L_law 234 = .ok (.iconst 1, 1) := by decide +kernel
theorem d_L_law_235 : decode c_L_law 235 = .ok (.iadd, 1) := by decide +kernel
theorem d_L_law_236 : decode c_L_law 236 = .ok (.iaload, 1) := by decide +kernel
theorem d_L_law_237 : decode c_L_law 237 = .ok (.aload_n 0, 1) := by decide +kernel
theorem d_L_law_238 : decode c_L_law 238 = .ok (.iload 4, 2) := by decide +kernel
theorem d_L_law_240 : decode c_L_law 240 = .ok (.iconst 2, 1) := by decide +kernel
theorem d_L_law_241 : decode c_L_law 241 = .ok (.iadd, 1) := by decide +kernel
theorem d_L_law_242 : decode c_L_law 242 = .ok (.iaload, 1) := by decide +kernel
theorem d_L_law_243 : decode c_L_law 243 = .ok (.aload_n 0, 1) := by decide +kernel
theorem d_L_law_244 : decode c_L_law 244 = .ok (.iload 4, 2) := by decide +kernel
theorem d_L_law_246 : decode c_L_law 246 = .ok (.iconst 3, 1) := by decide +kernel
theorem d_L_law_247 : decode c_L_law 247 = .ok (.iadd, 1) := by decide +kernel
theorem d_L_law_248 : decode c_L_law 248 = .ok (.iaload, 1) := by decide +kernel
theorem d_L_law_249 : decode c_L_law 249 = .ok (.invokevirtual 39, 3) := by decide +kernel
theorem d_L_law_252 : decode c_L_law 252 = .ok (.aload_n 2, 1) := by decide +kernel
theorem d_L_law_253 : decode c_L_law 253 = .ok (.aload_n 0, 1) := by decide +kernel
theorem d_L_law_254 : decode c_L_law 254 = .ok (.iload 4, 2) := by decide +kernel
theorem d_L_law_256 : decode c_L_law 256 = .ok (.iconst 1, 1) := by decide +kernel
theorem d_L_law_257 : decode c_L_law 257 = .ok (.iadd, 1) := by decide +kernel
theorem d_L_law_258 : decode c_L_law 258 = .ok (.iaload, 1) := by decide +kernel
theorem d_L_law_259 : decode c_L_law 259 = .ok (.aload_n 0, 1) := by decide +kernel
theorem d_L_law_260 : decode c_L_law 260 = .ok (.iload 4, 2) := by decide +kernel
theorem d_L_law_262 : decode c_L_law 262 = .ok (.iconst 2, 1) := by decide +kernel
theorem d_L_law_263 : decode c_L_law 263 = .ok (.iadd, 1) := by decide +kernel
theorem d_L_law_264 : decode c_L_law 264 = .ok (.iaload, 1) := by decide +kernel
theorem d_L_law_265 : decode c_L_law 265 = .ok (.aload_n 0, 1) := by decide +kernel
theorem d_L_law_266 : decode c_L_law 266 = .ok (.iload 4, 2) := by decide +kernel
theorem d_L_law_268 : decode c_L_law 268 = .ok (.iconst 3, 1) := by decide +kernel
theorem d_L_law_269 : decode c_L_law 269 = .ok (.iadd, 1) := by decide +kernel
theorem d_L_law_270 : decode c_L_law 270 = .ok (.iaload, 1) := by decide +kernel
theorem d_L_law_271 : decode c_L_law 271 = .ok (.invokevirtual 42, 3) := by decide +kernel
theorem d_L_law_274 : decode c_L_law 274 = .ok (.if_icmp .eq 435, 3) := by decide +kernel
theorem d_L_law_279 : decode c_L_law 279 = .ok (.aload_n 1, 1) := by decide +kernel
theorem d_L_law_280 : decode c_L_law 280 = .ok (.aload_n 0, 1) := by decide +kernel
theorem d_L_law_281 : decode c_L_law 281 = .ok (.iload 4, 2) := by decide +kernel
theorem d_L_law_283 : decode c_L_law 283 = .ok (.iconst 1, 1) := by decide +kernel
theorem d_L_law_284 : decode c_L_law 284 = .ok (.iadd, 1) := by decide +kernel
theorem d_L_law_285 : decode c_L_law 285 = .ok (.iaload, 1) := by decide +kernel
theorem d_L_law_286 : decode c_L_law 286 = .ok (.aload_n 0, 1) := by decide +kernel
theorem d_L_law_287 : decode c_L_law 287 = .ok (.iload 4, 2) := by decide +kernel
theorem d_L_law_289 : decode c_L_law 289 = .ok (.iconst 2, 1) := by decide +kernel
theorem d_L_law_290 : decode c_L_law 290 = .ok (.iadd, 1) := by decide +kernel
theorem d_L_law_291 : decode c_L_law 291 = .ok (.iaload, 1) := by decide +kernel
theorem d_L_law_292 : decode c_L_law 292 = .ok (.aload_n 0, 1) := by decide +kernel
theorem d_L_law_293 : decode c_L_law 293 = .ok (.iload 4, 2) := by decide +kernel
theorem d_L_law_295 : decode c_L_law 295 = .ok (.iconst 3, 1) := by decide +kernel
theorem d_L_law_296 : decode c_L_law 296 = .ok (.iadd, 1) := by decide +kernel
theorem d_L_law_297 : decode c_L_law 297 = .ok (.iaload, 1) := by decide +kernel
theorem d_L_law_298 : decode c_L_law 298 = .ok (.aload_n 3, 1) := by decide +kernel
theorem d_L_law_299 : decode c_L_law 299 = .ok (.invokestatic 43, 3) := by decide +kernel
theorem d_L_law_302 : decode c_L_law 302 = .ok (.istore 5, 2) := by decide +kernel
theorem d_L_law_304 : decode c_L_law 304 = .ok (.aload_n 2, 1) := by decide +kernel
theorem d_L_law_305 : decode c_L_law 305 = .ok (.aload_n 0, 1) := by decide +kernel
theorem d_L_law_306 : decode c_L_law 306 = .ok (.iload 4, 2) := by decide +kernel
theorem d_L_law_308 : decode c_L_law 308 = .ok (.iconst 1, 1) := by decide +kernel
theorem d_L_law_309 : decode c_L_law 309 = .ok (.iadd, 1) := by decide +kernel
theorem d_L_law_310 : decode c_L_law 310 = .ok (.iaload, 1) := by decide +kernel
theorem d_L_law_311 : decode c_L_law 311 = .ok (.aload_n 0, 1) := by decide +kernel
theorem d_L_law_312 : decode c_L_law 312 = .ok (.iload 4, 2) := by decide +kernel
theorem d_L_law_314 : decode c_L_law 314 = .ok (.iconst 2, 1) := by decide +kernel
theorem d_L_law_315 : decode c_L_law 315 = .ok (.iadd, 1) := by decide +kernel
theorem d_L_law_316 : decode c_L_law 316 = .ok (.iaload, 1) := by decide +kernel
theorem d_L_law_317 : decode c_L_law 317 = .ok (.aload_n 0, 1) := by decide +kernel
theorem d_L_law_318 : decode c_L_law 318 = .ok (.iload 4, 2) := by decide +kernel
theorem d_L_law_320 : decode c_L_law 320 = .ok (.iconst 3, 1) := by decide +kernel
theorem d_L_law_321 : decode c_L_law 321 = .ok (.iadd, 1) := by decide +kernel
theorem d_L_law_322 : decode c_L_law 322 = .ok (.iaload, 1) := by decide +kernel
theorem d_L_law_323 : decode c_L_law 323 = .ok (.invokevirtual 48, 3) := by decide +kernel
theorem d_L_law_326 : decode c_L_law 326 = .ok (.istore 6, 2) := by decide +kernel
theorem d_L_law_328 : decode c_L_law 328 = .ok (.aload_n 2, 1) := by decide +kernel
theorem d_L_law_329 : decode c_L_law 329 = .ok (.invokevirtual 49, 3) := by decide +kernel
theorem d_L_law_332 : decode c_L_law 332 = .ok (.iload 5, 2) := by decide +kernel
theorem d_L_law_334 : decode c_L_law 334 = .ok (.if_icmp .eq 5, 3) := by decide +kernel
theorem d_L_law_339 : decode c_L_law 339 = .ok (.iload 5, 2) := by decide +kernel
theorem d_L_law_341 : decode c_L_law 341 = .ok (.ifCond .ne 15, 3) := by decide +kernel
theorem d_L_law_344 : decode c_L_law 344 = .ok (.aload_n 3, 1) := by decide +kernel
theorem d_L_law_345 : decode c_L_law 345 = .ok (.iconst 0, 1) := by decide +kernel
theorem d_L_law_346 : decode c_L_law 346 = .ok (.laload, 1) := by decide +kernel
theorem d_L_law_347 : decode c_L_law 347 = .ok (.iload 6, 2) := by decide +kernel
theorem d_L_law_349 : decode c_L_law 349 = .ok (.i2l, 1) := by decide +kernel
theorem d_L_law_350 : decode c_L_law 350 = .ok (.lcmp, 1) := by decide +kernel
theorem d_L_law_351 : decode c_L_law 351 = .ok (.ifCond .eq 5, 3) := by decide +kernel
theorem d_L_law_356 : decode c_L_law 356 = .ok (.goto 353, 3) := by decide +kernel
theorem d_L_law_359 : decode c_L_law 359 = .ok (.aload_n 1, 1) := by decide +kernel
theorem d_L_law_360 : decode c_L_law 360 = .ok (.aload_n 0, 1) := by decide +kernel
theorem d_L_law_361 : decode c_L_law 361 = .ok (.iload 4, 2) := by decide +kernel
theorem d_L_law_363 : decode c_L_law 363 = .ok (.iconst 1, 1) := by decide +kernel
theorem d_L_law_364 : decode c_L_law 364 = .ok (.iadd, 1) := by decide +kernel
theorem d_L_law_365 : decode c_L_law 365 = .ok (.iaload, 1) := by decide +kernel
theorem d_L_law_366 : decode c_L_law 366 = .ok (.invokevirtual 52, 3) := by decide +kernel
theorem d_L_law_369 : decode c_L_law 369 = .ok (.aload_n 2, 1) := by decide +kernel
theorem d_L_law_370 : decode c_L_law 370 = .ok (.aload_n 0, 1) := by decide +kernel
theorem d_L_law_371 : decode c_L_law 371 = .ok (.iload 4, 2) := by decide +kernel
theorem d_L_law_373 : decode c_L_law 373 = .ok (.iconst 1, 1) := by decide +kernel
theorem d_L_law_374 : decode c_L_law 374 = .ok (.iadd, 1) := by decide +kernel
theorem d_L_law_375 : decode c_L_law 375 = .ok (.iaload, 1) := by decide +kernel
theorem d_L_law_376 : decode c_L_law 376 = .ok (.invokevirtual 55, 3) := by decide +kernel
theorem d_L_law_379 : decode c_L_law 379 = .ok (.if_icmp .eq 330, 3) := by decide +kernel
theorem d_L_law_384 : decode c_L_law 384 = .ok (.aload_n 1, 1) := by decide +kernel
theorem d_L_law_385 : decode c_L_law 385 = .ok (.aload_n 0, 1) := by decide +kernel
theorem d_L_law_386 : decode c_L_law 386 = .ok (.iload 4, 2) := by decide +kernel
theorem d_L_law_388 : decode c_L_law 388 = .ok (.iconst 1, 1) := by decide +kernel
theorem d_L_law_389 : decode c_L_law 389 = .ok (.iadd, 1) := by decide +kernel
theorem d_L_law_390 : decode c_L_law 390 = .ok (.iaload, 1) := by decide +kernel
theorem d_L_law_391 : decode c_L_law 391 = .ok (.aload_n 0, 1) := by decide +kernel
theorem d_L_law_392 : decode c_L_law 392 = .ok (.iload 4, 2) := by decide +kernel
theorem d_L_law_394 : decode c_L_law 394 = .ok (.iconst 2, 1) := by decide +kernel
theorem d_L_law_395 : decode c_L_law 395 = .ok (.iadd, 1) := by decide +kernel
theorem d_L_law_396 : decode c_L_law 396 = .ok (.iaload, 1) := by decide +kernel
theorem d_L_law_397 : decode c_L_law 397 = .ok (.invokevirtual 56, 3) := by decide +kernel
theorem d_L_law_400 : decode c_L_law 400 = .ok (.aload_n 2, 1) := by decide +kernel
theorem d_L_law_401 : decode c_L_law 401 = .ok (.aload_n 0, 1) := by decide +kernel
theorem d_L_law_402 : decode c_L_law 402 = .ok (.iload 4, 2) := by decide +kernel
theorem d_L_law_404 : decode c_L_law 404 = .ok (.iconst 1, 1) := by decide +kernel
theorem d_L_law_405 : decode c_L_law 405 = .ok (.iadd, 1) := by decide +kernel
theorem d_L_law_406 : decode c_L_law 406 = .ok (.iaload, 1) := by decide +kernel
theorem d_L_law_407 : decode c_L_law 407 = .ok (.aload_n 0, 1) := by decide +kernel
theorem d_L_law_408 : decode c_L_law 408 = .ok (.iload 4, 2) := by decide +kernel
theorem d_L_law_410 : decode c_L_law 410 = .ok (.iconst 2, 1) := by decide +kernel
theorem d_L_law_411 : decode c_L_law 411 = .ok (.iadd, 1) := by decide +kernel
theorem d_L_law_412 : decode c_L_law 412 = .ok (.iaload, 1) := by decide +kernel
theorem d_L_law_413 : decode c_L_law 413 = .ok (.invokevirtual 60, 3) := by decide +kernel
theorem d_L_law_416 : decode c_L_law 416 = .ok (.if_icmp .eq 293, 3) := by decide +kernel
theorem d_L_law_421 : decode c_L_law 421 = .ok (.aload_n 1, 1) := by decide +kernel
theorem d_L_law_422 : decode c_L_law 422 = .ok (.aload_n 0, 1) := by decide +kernel
theorem d_L_law_423 : decode c_L_law 423 = .ok (.iload 4, 2) := by decide +kernel
theorem d_L_law_425 : decode c_L_law 425 = .ok (.iconst 1, 1) := by decide +kernel
theorem d_L_law_426 : decode c_L_law 426 = .ok (.iadd, 1) := by decide +kernel
theorem d_L_law_427 : decode c_L_law 427 = .ok (.iaload, 1) := by decide +kernel
theorem d_L_law_428 : decode c_L_law 428 = .ok (.aload_n 0, 1) := by decide +kernel
theorem d_L_law_429 : decode c_L_law 429 = .ok (.iload 4, 2) := by decide +kernel
theorem d_L_law_431 : decode c_L_law 431 = .ok (.iconst 2, 1) := by decide +kernel
theorem d_L_law_432 : decode c_L_law 432 = .ok (.iadd, 1) := by decide +kernel
theorem d_L_law_433 : decode c_L_law 433 = .ok (.iaload, 1) := by decide +kernel
theorem d_L_law_434 : decode c_L_law 434 = .ok (.invokevirtual 61, 3) := by decide +kernel
theorem d_L_law_437 : decode c_L_law 437 = .ok (.aload_n 2, 1) := by decide +kernel
theorem d_L_law_438 : decode c_L_law 438 = .ok (.aload_n 0, 1) := by decide +kernel
theorem d_L_law_439 : decode c_L_law 439 = .ok (.iload 4, 2) := by decide +kernel
theorem d_L_law_441 : decode c_L_law 441 = .ok (.iconst 1, 1) := by decide +kernel
theorem d_L_law_442 : decode c_L_law 442 = .ok (.iadd, 1) := by decide +kernel
theorem d_L_law_443 : decode c_L_law 443 = .ok (.iaload, 1) := by decide +kernel
theorem d_L_law_444 : decode c_L_law 444 = .ok (.aload_n 0, 1) := by decide +kernel
theorem d_L_law_445 : decode c_L_law 445 = .ok (.iload 4, 2) := by decide +kernel
theorem d_L_law_447 : decode c_L_law 447 = .ok (.iconst 2, 1) := by decide +kernel
theorem d_L_law_448 : decode c_L_law 448 = .ok (.iadd, 1) := by decide +kernel
theorem d_L_law_449 : decode c_L_law 449 = .ok (.iaload, 1) := by decide +kernel
theorem d_L_law_450 : decode c_L_law 450 = .ok (.invokevirtual 64, 3) := by decide +kernel
theorem d_L_law_453 : decode c_L_law 453 = .ok (.if_icmp .eq 256, 3) := by decide +kernel
theorem d_L_law_458 : decode c_L_law 458 = .ok (.aload_n 1, 1) := by decide +kernel
theorem d_L_law_459 : decode c_L_law 459 = .ok (.aload_n 0, 1) := by decide +kernel
theorem d_L_law_460 : decode c_L_law 460 = .ok (.iload 4, 2) := by decide +kernel
theorem d_L_law_462 : decode c_L_law 462 = .ok (.iconst 1, 1) := by decide +kernel
theorem d_L_law_463 : decode c_L_law 463 = .ok (.iadd, 1) := by decide +kernel
theorem d_L_law_464 : decode c_L_law 464 = .ok (.iaload, 1) := by decide +kernel
theorem d_L_law_465 : decode c_L_law 465 = .ok (.invokevirtual 65, 3) := by decide +kernel
theorem d_L_law_468 : decode c_L_law 468 = .ok (.aload_n 2, 1) := by decide +kernel
theorem d_L_law_469 : decode c_L_law 469 = .ok (.aload_n 0, 1) := by decide +kernel
theorem d_L_law_470 : decode c_L_law 470 = .ok (.iload 4, 2) := by decide +kernel
theorem d_L_law_472 : decode c_L_law 472 = .ok (.iconst 1, 1) := by decide +kernel
theorem d_L_law_473 : decode c_L_law 473 = .ok (.iadd, 1) := by decide +kernel
theorem d_L_law_474 : decode c_L_law 474 = .ok (.iaload, 1) := by decide +kernel
theorem d_L_law_475 : decode c_L_law 475 = .ok (.invokevirtual 68, 3) := by decide +kernel
theorem d_L_law_478 : decode c_L_law 478 = .ok (.if_icmp .eq 231, 3) := by decide +kernel
theorem d_L_law_483 : decode c_L_law 483 = .ok (.aload_n 1, 1) := by decide +kernel
theorem d_L_law_484 : decode c_L_law 484 = .ok (.aload_n 0, 1) := by decide +kernel
theorem d_L_law_485 : decode c_L_law 485 = .ok (.iload 4, 2) := by decide +kernel
theorem d_L_law_487 : decode c_L_law 487 = .ok (.iconst 1, 1) := by decide +kernel
theorem d_L_law_488 : decode c_L_law 488 = .ok (.iadd, 1) := by decide +kernel
theorem d_L_law_489 : decode c_L_law 489 = .ok (.iaload, 1) := by decide +kernel
theorem d_L_law_490 : decode c_L_law 490 = .ok (.aload_n 0, 1) := by decide +kernel
theorem d_L_law_491 : decode c_L_law 491 = .ok (.iload 4, 2) := by decide +kernel
theorem d_L_law_493 : decode c_L_law 493 = .ok (.iconst 2, 1) := by decide +kernel
theorem d_L_law_494 : decode c_L_law 494 = .ok (.iadd, 1) := by decide +kernel
theorem d_L_law_495 : decode c_L_law 495 = .ok (.iaload, 1) := by decide +kernel
theorem d_L_law_496 : decode c_L_law 496 = .ok (.invokevirtual 69, 3) := by decide +kernel
theorem d_L_law_499 : decode c_L_law 499 = .ok (.aload_n 2, 1) := by decide +kernel
theorem d_L_law_500 : decode c_L_law 500 = .ok (.aload_n 0, 1) := by decide +kernel
theorem d_L_law_501 : decode c_L_law 501 = .ok (.iload 4, 2) := by decide +kernel
theorem d_L_law_503 : decode c_L_law 503 = .ok (.iconst 1, 1) := by decide +kernel
theorem d_L_law_504 : decode c_L_law 504 = .ok (.iadd, 1) := by decide +kernel
theorem d_L_law_505 : decode c_L_law 505 = .ok (.iaload, 1) := by decide +kernel
theorem d_L_law_506 : decode c_L_law 506 = .ok (.aload_n 0, 1) := by decide +kernel
theorem d_L_law_507 : decode c_L_law 507 = .ok (.iload 4, 2) := by decide +kernel
theorem d_L_law_509 : decode c_L_law 509 = .ok (.iconst 2, 1) := by decide +kernel
theorem d_L_law_510 : decode c_L_law 510 = .ok (.iadd, 1) := by decide +kernel
theorem d_L_law_511 : decode c_L_law 511 = .ok (.iaload, 1) := by decide +kernel
theorem d_L_law_512 : decode c_L_law 512 = .ok (.invokevirtual 72, 3) := by decide +kernel
theorem d_L_law_515 : decode c_L_law 515 = .ok (.if_icmp .eq 194, 3) := by decide +kernel
theorem d_L_law_520 : decode c_L_law 520 = .ok (.aload_n 1, 1) := by decide +kernel
theorem d_L_law_521 : decode c_L_law 521 = .ok (.aload_n 0, 1) := by decide +kernel
theorem d_L_law_522 : decode c_L_law 522 = .ok (.iload 4, 2) := by decide +kernel
theorem d_L_law_524 : decode c_L_law 524 = .ok (.iconst 1, 1) := by decide +kernel
theorem d_L_law_525 : decode c_L_law 525 = .ok (.iadd, 1) := by decide +kernel
theorem d_L_law_526 : decode c_L_law 526 = .ok (.iaload, 1) := by decide +kernel
theorem d_L_law_527 : decode c_L_law 527 = .ok (.aload_n 0, 1) := by decide +kernel
theorem d_L_law_528 : decode c_L_law 528 = .ok (.iload 4, 2) := by decide +kernel
theorem d_L_law_530 : decode c_L_law 530 = .ok (.iconst 2, 1) := by decide +kernel
theorem d_L_law_531 : decode c_L_law 531 = .ok (.iadd, 1) := by decide +kernel
theorem d_L_law_532 : decode c_L_law 532 = .ok (.iaload, 1) := by decide +kernel
theorem d_L_law_533 : decode c_L_law 533 = .ok (.aload_n 0, 1) := by decide +kernel
theorem d_L_law_534 : decode c_L_law 534 = .ok (.iload 4, 2) := by decide +kernel
theorem d_L_law_536 : decode c_L_law 536 = .ok (.iconst 3, 1) := by decide +kernel
theorem d_L_law_537 : decode c_L_law 537 = .ok (.iadd, 1) := by decide +kernel
theorem d_L_law_538 : decode c_L_law 538 = .ok (.iaload, 1) := by decide +kernel
theorem d_L_law_539 : decode c_L_law 539 = .ok (.invokevirtual 73, 3) := by decide +kernel
theorem d_L_law_542 : decode c_L_law 542 = .ok (.aload_n 2, 1) := by decide +kernel
theorem d_L_law_543 : decode c_L_law 543 = .ok (.aload_n 0, 1) := by decide +kernel
theorem d_L_law_544 : decode c_L_law 544 = .ok (.iload 4, 2) := by decide +kernel
theorem d_L_law_546 : decode c_L_law 546 = .ok (.iconst 1, 1) := by decide +kernel
theorem d_L_law_547 : decode c_L_law 547 = .ok (.iadd, 1) := by decide +kernel
theorem d_L_law_548 : decode c_L_law 548 = .ok (.iaload, 1) := by decide +kernel
theorem d_L_law_549 : decode c_L_law 549 = .ok (.aload_n 0, 1) := by decide +kernel
theorem d_L_law_550 : decode c_L_law 550 = .ok (.iload 4, 2) := by decide +kernel
theorem d_L_law_552 : decode c_L_law 552 = .ok (.iconst 2, 1) := by decide +kernel
theorem d_L_law_553 : decode c_L_law 553 = .ok (.iadd, 1) := by decide +kernel
theorem d_L_law_554 : decode c_L_law 554 = .ok (.iaload, 1) := by decide +kernel
theorem d_L_law_555 : decode c_L_law 555 = .ok (.aload_n 0, 1) := by decide +kernel
theorem d_L_law_556 : decode c_L_law 556 = .ok (.iload 4, 2) := by decide +kernel
theorem d_L_law_558 : decode c_L_law 558 = .ok (.iconst 3, 1) := by decide +kernel
theorem d_L_law_559 : decode c_L_law 559 = .ok (.iadd, 1) := by decide +kernel
theorem d_L_law_560 : decode c_L_law 560 = .ok (.iaload, 1) := by decide +kernel
theorem d_L_law_561 : decode c_L_law 561 = .ok (.invokevirtual 76, 3) := by decide +kernel
theorem d_L_law_564 : decode c_L_law 564 = .ok (.if_icmp .eq 145, 3) := by decide +kernel
theorem d_L_law_569 : decode c_L_law 569 = .ok (.aload_n 1, 1) := by decide +kernel
theorem d_L_law_570 : decode c_L_law 570 = .ok (.aload_n 0, 1) := by decide +kernel
theorem d_L_law_571 : decode c_L_law 571 = .ok (.iload 4, 2) := by decide +kernel
theorem d_L_law_573 : decode c_L_law 573 = .ok (.iconst 1, 1) := by decide +kernel
theorem d_L_law_574 : decode c_L_law 574 = .ok (.iadd, 1) := by decide +kernel
theorem d_L_law_575 : decode c_L_law 575 = .ok (.iaload, 1) := by decide +kernel
theorem d_L_law_576 : decode c_L_law 576 = .ok (.aload_n 0, 1) := by decide +kernel
theorem d_L_law_577 : decode c_L_law 577 = .ok (.iload 4, 2) := by decide +kernel
theorem d_L_law_579 : decode c_L_law 579 = .ok (.iconst 2, 1) := by decide +kernel
theorem d_L_law_580 : decode c_L_law 580 = .ok (.iadd, 1) := by decide +kernel
theorem d_L_law_581 : decode c_L_law 581 = .ok (.iaload, 1) := by decide +kernel
theorem d_L_law_582 : decode c_L_law 582 = .ok (.ifCond .eq 7, 3) := by decide +kernel
theorem d_L_law_585 : decode c_L_law 585 = .ok (.iconst 1, 1) := by decide +kernel
theorem d_L_law_586 : decode c_L_law 586 = .ok (.goto 4, 3) := by decide +kernel
theorem d_L_law_589 : decode c_L_law 589 = .ok (.iconst 0, 1) := by decide +kernel
theorem d_L_law_590 : decode c_L_law 590 = .ok (.invokevirtual 77, 3) := by decide +kernel
theorem d_L_law_593 : decode c_L_law 593 = .ok (.aload_n 2, 1) := by decide +kernel
theorem d_L_law_594 : decode c_L_law 594 = .ok (.aload_n 0, 1) := by decide +kernel
theorem d_L_law_595 : decode c_L_law 595 = .ok (.iload 4, 2) := by decide +kernel
theorem d_L_law_597 : decode c_L_law 597 = .ok (.iconst 1, 1) := by decide +kernel
theorem d_L_law_598 : decode c_L_law 598 = .ok (.iadd, 1) := by decide +kernel
theorem d_L_law_599 : decode c_L_law 599 = .ok (.iaload, 1) := by decide +kernel
theorem d_L_law_600 : decode c_L_law 600 = .ok (.aload_n 0, 1) := by decide +kernel
theorem d_L_law_601 : decode c_L_law 601 = .ok (.iload 4, 2) := by decide +kernel
theorem d_L_law_603 : decode c_L_law 603 = .ok (.iconst 2, 1) := by decide +kernel
theorem d_L_law_604 : decode c_L_law 604 = .ok (.iadd, 1) := by decide +kernel
theorem d_L_law_605 : decode c_L_law 605 = .ok (.iaload, 1) := by decide +kernel
theorem d_L_law_606 : decode c_L_law 606 = .ok (.ifCond .eq 7, 3) := by decide +kernel
theorem d_L_law_609 : decode c_L_law 609 = .ok (.iconst 1, 1) := by decide +kernel
theorem d_L_law_610 : decode c_L_law 610 = .ok (.goto 4, 3) := by decide +kernel
theorem d_L_law_613 : decode c_L_law 613 = .ok (.iconst 0, 1) := by decide +kernel
theorem d_L_law_614 : decode c_L_law 614 = .ok (.invokevirtual 80, 3) := by decide +kernel
theorem d_L_law_617 : decode c_L_law 617 = .ok (.if_icmp .eq 92, 3) := by decide +kernel
theorem d_L_law_622 : decode c_L_law 622 = .ok (.aload_n 1, 1) := by decide +kernel
theorem d_L_law_623 : decode c_L_law 623 = .ok (.aload_n 0, 1) := by decide +kernel
theorem d_L_law_624 : decode c_L_law 624 = .ok (.iload 4, 2) := by decide +kernel
theorem d_L_law_626 : decode c_L_law 626 = .ok (.iconst 1, 1) := by decide +kernel
theorem d_L_law_627 : decode c_L_law 627 = .ok (.iadd, 1) := by decide +kernel
theorem d_L_law_628 : decode c_L_law 628 = .ok (.iaload, 1) := by decide +kernel
theorem d_L_law_629 : decode c_L_law 629 = .ok (.invokevirtual 81, 3) := by decide +kernel
theorem d_L_law_632 : decode c_L_law 632 = .ok (.aload_n 2, 1) := by decide +kernel
theorem d_L_law_633 : decode c_L_law 633 = .ok (.aload_n 0, 1) := by decide +kernel
theorem d_L_law_634 : decode c_L_law 634 = .ok (.iload 4, 2) := by decide +kernel
theorem d_L_law_636 : decode c_L_law 636 = .ok (.iconst 1, 1) := by decide +kernel
theorem d_L_law_637 : decode c_L_law 637 = .ok (.iadd, 1) := by decide +kernel
theorem d_L_law_638 : decode c_L_law 638 = .ok (.iaload, 1) := by decide +kernel
theorem d_L_law_639 : decode c_L_law 639 = .ok (.invokevirtual 84, 3) := by decide +kernel
theorem d_L_law_642 : decode c_L_law 642 = .ok (.if_icmp .eq 67, 3) := by decide +kernel
theorem d_L_law_647 : decode c_L_law 647 = .ok (.aload_n 1, 1) := by decide +kernel
theorem d_L_law_648 : decode c_L_law 648 = .ok (.aload_n 0, 1) := by decide +kernel
theorem d_L_law_649 : decode c_L_law 649 = .ok (.iload 4, 2) := by decide +kernel
theorem d_L_law_651 : decode c_L_law 651 = .ok (.iconst 1, 1) := by decide +kernel
theorem d_L_law_652 : decode c_L_law 652 = .ok (.iadd, 1) := by decide +kernel
theorem d_L_law_653 : decode c_L_law 653 = .ok (.iaload, 1) := by decide +kernel
theorem d_L_law_654 : decode c_L_law 654 = .ok (.invokevirtual 85, 3) := by decide +kernel
theorem d_L_law_657 : decode c_L_law 657 = .ok (.aload_n 2, 1) := by decide +kernel
theorem d_L_law_658 : decode c_L_law 658 = .ok (.aload_n 0, 1) := by decide +kernel
theorem d_L_law_659 : decode c_L_law 659 = .ok (.iload 4, 2) := by decide +kernel
theorem d_L_law_661 : decode c_L_law 661 = .ok (.iconst 1, 1) := by decide +kernel
theorem d_L_law_662 : decode c_L_law 662 = .ok (.iadd, 1) := by decide +kernel
theorem d_L_law_663 : decode c_L_law 663 = .ok (.iaload, 1) := by decide +kernel
theorem d_L_law_664 : decode c_L_law 664 = .ok (.invokevirtual 88, 3) := by decide +kernel
theorem d_L_law_667 : decode c_L_law 667 = .ok (.if_icmp .eq 42, 3) := by decide +kernel
theorem d_L_law_672 : decode c_L_law 672 = .ok (.aload_n 1, 1) := by decide +kernel
theorem d_L_law_673 : decode c_L_law 673 = .ok (.aload_n 0, 1) := by decide +kernel
theorem d_L_law_674 : decode c_L_law 674 = .ok (.iload 4, 2) := by decide +kernel
theorem d_L_law_676 : decode c_L_law 676 = .ok (.iconst 1, 1) := by decide +kernel
theorem d_L_law_677 : decode c_L_law 677 = .ok (.iadd, 1) := by decide +kernel
theorem d_L_law_678 : decode c_L_law 678 = .ok (.iaload, 1) := by decide +kernel
theorem d_L_law_679 : decode c_L_law 679 = .ok (.aload_n 0, 1) := by decide +kernel
theorem d_L_law_680 : decode c_L_law 680 = .ok (.iload 4, 2) := by decide +kernel
theorem d_L_law_682 : decode c_L_law 682 = .ok (.iconst 2, 1) := by decide +kernel
theorem d_L_law_683 : decode c_L_law 683 = .ok (.iadd, 1) := by decide +kernel
theorem d_L_law_684 : decode c_L_law 684 = .ok (.iaload, 1) := by decide +kernel
theorem d_L_law_685 : decode c_L_law 685 = .ok (.invokevirtual 89, 3) := by decide +kernel
theorem d_L_law_688 : decode c_L_law 688 = .ok (.aload_n 2, 1) := by decide +kernel
theorem d_L_law_689 : decode c_L_law 689 = .ok (.aload_n 0, 1) := by decide +kernel
theorem d_L_law_690 : decode c_L_law 690 = .ok (.iload 4, 2) := by decide +kernel
theorem d_L_law_692 : decode c_L_law 692 = .ok (.iconst 1, 1) := by decide +kernel
theorem d_L_law_693 : decode c_L_law 693 = .ok (.iadd, 1) := by decide +kernel
theorem d_L_law_694 : decode c_L_law 694 = .ok (.iaload, 1) := by decide +kernel
theorem d_L_law_695 : decode c_L_law 695 = .ok (.aload_n 0, 1) := by decide +kernel
theorem d_L_law_696 : decode c_L_law 696 = .ok (.iload 4, 2) := by decide +kernel
theorem d_L_law_698 : decode c_L_law 698 = .ok (.iconst 2, 1) := by decide +kernel
theorem d_L_law_699 : decode c_L_law 699 = .ok (.iadd, 1) := by decide +kernel
theorem d_L_law_700 : decode c_L_law 700 = .ok (.iaload, 1) := by decide +kernel
theorem d_L_law_701 : decode c_L_law 701 = .ok (.invokevirtual 92, 3) := by decide +kernel
theorem d_L_law_704 : decode c_L_law 704 = .ok (.if_icmp .eq 5, 3) := by decide +kernel
theorem d_L_law_709 : decode c_L_law 709 = .ok (.iinc 4 4, 3) := by decide +kernel
theorem d_L_law_712 : decode c_L_law 712 = .ok (.goto (-689), 3) := by decide +kernel
theorem d_L_law_715 : decode c_L_law 715 = .ok (.iconst 1, 1) := by decide +kernel
theorem d_L_law_716 : decode c_L_law 716 = .ok (.ireturn, 1) := by decide +kernel
theorem d_L_lend_0 : decode c_L_lend 0 = .ok (.aload 4, 2) := by decide +kernel
theorem d_L_lend_2 : decode c_L_lend 2 = .ok (.iconst 0, 1) := by decide +kernel
theorem d_L_lend_3 : decode c_L_lend 3 = .ok (.aload_n 0, 1) := by decide +kernel
theorem d_L_lend_4 : decode c_L_lend 4 = .ok (.iload_n 1, 1) := by decide +kernel
theorem d_L_lend_5 : decode c_L_lend 5 = .ok (.iload_n 2, 1) := by decide +kernel
theorem d_L_lend_6 : decode c_L_lend 6 = .ok (.iload_n 3, 1) := by decide +kernel
theorem d_L_lend_7 : decode c_L_lend 7 = .ok (.invokevirtual 7, 3) := by decide +kernel
theorem d_L_lend_10 : decode c_L_lend 10 = .ok (.i2l, 1) := by decide +kernel
theorem d_L_lend_11 : decode c_L_lend 11 = .ok (.lastore, 1) := by decide +kernel
theorem d_L_lend_12 : decode c_L_lend 12 = .ok (.goto 7, 3) := by decide +kernel
theorem d_L_lend_19 : decode c_L_lend 19 = .ok (.iconst 0, 1) := by decide +kernel
theorem d_L_lend_20 : decode c_L_lend 20 = .ok (.ireturn, 1) := by decide +kernel
theorem d_M_back_0 : decode c_M_back 0 = .ok (.aload_n 0, 1) := by decide +kernel
theorem d_M_back_1 : decode c_M_back 1 = .ok (.iconst 0, 1) := by decide +kernel
theorem d_M_back_2 : decode c_M_back 2 = .ok (.putfield 54, 3) := by decide +kernel
theorem d_M_back_5 : decode c_M_back 5 = .ok (.aload_n 0, 1) := by decide +kernel
theorem d_M_back_6 : decode c_M_back 6 = .ok (.iload_n 1, 1) := by decide +kernel
theorem d_M_back_7 : decode c_M_back 7 = .ok (.invokevirtual 172, 3) := by decide +kernel
theorem d_M_back_10 : decode c_M_back 10 = .ok (.ifCond .ne 5, 3) := by decide +kernel
theorem d_M_back_13 : decode c_M_back 13 = .ok (.iconst 0, 1) := by decide +kernel
theorem d_M_back_14 : decode c_M_back 14 = .ok (.ireturn, 1) := by decide +kernel
theorem d_M_bad_0 : decode c_M_bad 0 = .ok (.aload_n 0, 1) := by decide +kernel
theorem d_M_bad_1 : decode c_M_bad 1 = .ok (.iload_n 1, 1) := by decide +kernel
theorem d_M_bad_2 : decode c_M_bad 2 = .ok (.putfield 61, 3) := by decide +kernel
theorem d_M_bad_5 : decode c_M_bad 5 = .ok (.iconst 0, 1) := by decide +kernel
theorem d_M_bad_6 : decode c_M_bad 6 = .ok (.ireturn, 1) := by decide +kernel
theorem d_M_block_0 : decode c_M_block 0 = .ok (.aload_n 0, 1) := by decide +kernel
theorem d_M_block_1 : decode c_M_block 1 = .ok (.iconst 0, 1) := by decide +kernel
theorem d_M_block_2 : decode c_M_block 2 = .ok (.putfield 54, 3) := by decide +kernel
theorem d_M_block_5 : decode c_M_block 5 = .ok (.iload_n 1, 1) := by decide +kernel
theorem d_M_block_6 : decode c_M_block 6 = .ok (.invokestatic 143, 3) := by decide +kernel
theorem d_M_block_9 : decode c_M_block 9 = .ok (.ifCond .eq 13, 3) := by decide +kernel
theorem d_M_block_12 : decode c_M_block 12 = .ok (.iload_n 2, 1) := by decide +kernel
theorem d_M_block_13 : decode c_M_block 13 = .ok (.ifCond .lt 9, 3) := by decide +kernel
theorem d_M_block_16 : decode c_M_block 16 = .ok (.iload_n 2, 1) := by decide +kernel
theorem d_M_block_17 : decode c_M_block 17 = .ok (.bipush 9, 2) := by decide +kernel
theorem d_M_block_19 : decode c_M_block 19 = .ok (.if_icmp .le 5, 3) := by decide +kernel
theorem d_M_block_22 : decode c_M_block 22 = .ok (.iconst (-1), 1) := by decide +kernel
theorem d_M_block_23 : decode c_M_block 23 = .ok (.ireturn, 1) := by decide +kernel
theorem d_M_block_24 : decode c_M_block 24 = .ok (.aload_n 0, 1) := by decide +kernel
theorem d_M_block_25 : decode c_M_block 25 = .ok (.getfield 36, 3) := by decide +kernel
theorem d_M_block_28 : decode c_M_block 28 = .ok (.iload_n 1, 1) := by decide +kernel
theorem d_M_block_29 : decode c_M_block 29 = .ok (.iaload, 1) := by decide +kernel
theorem d_M_block_30 : decode c_M_block 30 = .ok (.istore_n 3, 1) := by decide +kernel
theorem d_M_block_31 : decode c_M_block 31 = .ok (.aload_n 0, 1) := by decide +kernel
theorem d_M_block_32 : decode c_M_block 32 = .ok (.getfield 36, 3) := by decide +kernel
theorem d_M_block_35 : decode c_M_block 35 = .ok (.iload_n 1, 1) := by decide +kernel
theorem d_M_block_36 : decode c_M_block 36 = .ok (.iload_n 2, 1) := by decide +kernel
theorem d_M_block_37 : decode c_M_block 37 = .ok (.iastore, 1) := by decide +kernel
theorem d_M_block_38 : decode c_M_block 38 = .ok (.iload_n 3, 1) := by decide +kernel
theorem d_M_block_39 : decode c_M_block 39 = .ok (.ireturn, 1) := by decide +kernel
theorem d_M_clash_0 : decode c_M_clash 0 = .ok (.aload_n 0, 1) := by decide +kernel
theorem d_M_clash_1 : decode c_M_clash 1 = .ok (.iconst 0, 1) := by decide +kernel
theorem d_M_clash_2 : decode c_M_clash 2 = .ok (.putfield 54, 3) := by decide +kernel
theorem d_M_clash_5 : decode c_M_clash 5 = .ok (.iload_n 1, 1) := by decide +kernel
theorem d_M_clash_6 : decode c_M_clash 6 = .ok (.ifCond .lt 20, 3) := by decide +kernel
theorem d_M_clash_9 : decode c_M_clash 9 = .ok (.iload_n 1, 1) := by decide +kernel
theorem d_M_clash_10 : decode c_M_clash 10 = .ok (.aload_n 0, 1) := by decide +kernel
theorem d_M_clash_11 : decode c_M_clash 11 = .ok (.getfield 156, 3) := by decide +kernel
theorem d_M_clash_14 : decode c_M_clash 14 = .ok (.if_icmp .ge 12, 3) := by decide +kernel
theorem d_M_clash_26 : decode c_M_clash 26 = .ok (.iconst (-1), 1) := by decide +kernel
theorem d_M_clash_27 : decode c_M_clash 27 = .ok (.goto 13, 3) := by decide +kernel
theorem d_M_clash_40 : decode c_M_clash 40 = .ok (.ireturn, 1) := by decide +kernel
theorem d_M_closed_0 : decode c_M_closed 0 = .ok (.aload_n 0, 1) := by decide +kernel
theorem d_M_closed_1 : decode c_M_closed 1 = .ok (.iconst 0, 1) := by decide +kernel
theorem d_M_closed_2 : decode c_M_closed 2 = .ok (.putfield 54, 3) := by decide +kernel
theorem d_M_closed_5 : decode c_M_closed 5 = .ok (.iload_n 1, 1) := by decide +kernel
theorem d_M_closed_6 : decode c_M_closed 6 = .ok (.invokestatic 137, 3) := by decide +kernel
theorem d_M_closed_9 : decode c_M_closed 9 = .ok (.ifCond .ne 5, 3) := by decide +kernel
theorem d_M_closed_12 : decode c_M_closed 12 = .ok (.iconst 0, 1) := by decide +kernel
theorem d_M_closed_13 : decode c_M_closed 13 = .ok (.ireturn, 1) := by decide +kernel
theorem d_M_closed_14 : decode c_M_closed 14 = .ok (.aload_n 0, 1) := by decide +kernel
theorem d_M_closed_15 : decode c_M_closed 15 = .ok (.getfield 24, 3) := by decide +kernel
theorem d_M_closed_18 : decode c_M_closed 18 = .ok (.iload_n 1, 1) := by decide +kernel
theorem d_M_closed_19 : decode c_M_closed 19 = .ok (.baload, 1) := by decide +kernel
theorem d_M_closed_20 : decode c_M_closed 20 = .ok (.istore_n 3, 1) := by decide +kernel
theorem d_M_closed_21 : decode c_M_closed 21 = .ok (.aload_n 0, 1) := by decide +kernel
theorem d_M_closed_22 : decode c_M_closed 22 = .ok (.getfield 24, 3) := by decide +kernel
theorem d_M_closed_25 : decode c_M_closed 25 = .ok (.iload_n 1, 1) := by decide +kernel
theorem d_M_closed_26 : decode c_M_closed 26 = .ok (.iload_n 2, 1) := by decide +kernel
theorem d_M_closed_27 : decode c_M_closed 27 = .ok (.bastore, 1) := by decide +kernel
theorem d_M_closed_28 : decode c_M_closed 28 = .ok (.iload_n 3, 1) := by decide +kernel
theorem d_M_closed_29 : decode c_M_closed 29 = .ok (.ireturn, 1) := by decide +kernel
theorem d_M_due_0 : decode c_M_due 0 = .ok (.aload_n 0, 1) := by decide +kernel
theorem d_M_due_1 : decode c_M_due 1 = .ok (.iconst 0, 1) := by decide +kernel
theorem d_M_due_2 : decode c_M_due 2 = .ok (.putfield 54, 3) := by decide +kernel
theorem d_M_due_5 : decode c_M_due 5 = .ok (.aload_n 0, 1) := by decide +kernel
theorem d_M_due_6 : decode c_M_due 6 = .ok (.iload_n 1, 1) := by decide +kernel
theorem d_M_due_7 : decode c_M_due 7 = .ok (.invokevirtual 172, 3) := by decide +kernel
theorem d_M_due_10 : decode c_M_due 10 = .ok (.ifCond .eq 17, 3) := by decide +kernel
theorem d_M_due_27 : decode c_M_due 27 = .ok (.iconst (-1), 1) := by decide +kernel
theorem d_M_due_28 : decode c_M_due 28 = .ok (.ireturn, 1) := by decide +kernel
theorem d_M_except_0 : decode c_M_except 0 = .ok (.aload_n 0, 1) := by decide +kernel
theorem d_M_except_1 : decode c_M_except 1 = .ok (.iconst 0, 1) := by decide +kernel
theorem d_M_except_2 : decode c_M_except 2 = .ok (.putfield 54, 3) := by decide +kernel
theorem d_M_except_5 : decode c_M_except 5 = .ok (.iload_n 1, 1) := by decide +kernel
theorem d_M_except_6 : decode c_M_except 6 = .ok (.invokestatic 143, 3) := by decide +kernel
theorem d_M_except_9 : decode c_M_except 9 = .ok (.ifCond .eq 11, 3) := by decide +kernel
theorem d_M_except_12 : decode c_M_except 12 = .ok (.aload_n 0, 1) := by decide +kernel
theorem d_M_except_13 : decode c_M_except 13 = .ok (.iload_n 2, 1) := by decide +kernel
theorem d_M_except_14 : decode c_M_except 14 = .ok (.invokevirtual 146, 3) := by decide +kernel
theorem d_M_except_17 : decode c_M_except 17 = .ok (.ifCond .ne 5, 3) := by decide +kernel
theorem d_M_except_20 : decode c_M_except 20 = .ok (.iconst 0, 1) := by decide +kernel
theorem d_M_except_21 : decode c_M_except 21 = .ok (.ireturn, 1) := by decide +kernel
theorem d_M_explain_0 : decode c_M_explain 0 = .ok (.aload_n 0, 1) := by decide +kernel
theorem d_M_explain_1 : decode c_M_explain 1 = .ok (.iconst 0, 1) := by decide +kernel
theorem d_M_explain_2 : decode c_M_explain 2 = .ok (.putfield 54, 3) := by decide +kernel
theorem d_M_explain_5 : decode c_M_explain 5 = .ok (.iload_n 1, 1) := by decide +kernel
theorem d_M_explain_6 : decode c_M_explain 6 = .ok (.ifCond .lt 11, 3) := by decide +kernel
theorem d_M_explain_9 : decode c_M_explain 9 = .ok (.iload_n 1, 1) := by decide +kernel
theorem d_M_explain_10 : decode c_M_explain 10 = .ok (.aload_n 0, 1) := by decide +kernel
theorem d_M_explain_11 : decode c_M_explain 11 = .ok (.getfield 149, 3) := by decide +kernel
theorem d_M_explain_14 : decode c_M_explain 14 = .ok (.if_icmp .lt 7, 3) := by decide +kernel
theorem d_M_explain_17 : decode c_M_explain 17 = .ok (.iconst (-1), 1) := by decide +kernel
theorem d_M_explain_18 : decode c_M_explain 18 = .ok (.goto 9, 3) := by decide +kernel
theorem d_M_explain_27 : decode c_M_explain 27 = .ok (.ireturn, 1) := by decide +kernel
theorem d_M_find_0 : decode c_M_find 0 = .ok (.aload_n 0, 1) := by decide +kernel
theorem d_M_find_1 : decode c_M_find 1 = .ok (.iconst 0, 1) := by decide +kernel
theorem d_M_find_2 : decode c_M_find 2 = .ok (.putfield 149, 3) := by decide +kernel
theorem d_M_find_5 : decode c_M_find 5 = .ok (.iconst 0, 1) := by decide +kernel
theorem d_M_find_6 : decode c_M_find 6 = .ok (.istore 4, 2) := by decide +kernel
theorem d_M_find_8 : decode c_M_find 8 = .ok (.iload 4, 2) := by decide +kernel
theorem d_M_find_10 : decode c_M_find 10 = .ok (.aload_n 0, 1) := by decide +kernel
theorem d_M_find_11 : decode c_M_find 11 = .ok (.getfield 88, 3) := by decide +kernel
theorem d_M_find_14 : decode c_M_find 14 = .ok (.if_icmp .ge 109, 3) := by decide +kernel
theorem d_M_find_123 : decode c_M_find 123 = .ok (.return_, 1) := by decide +kernel
theorem d_M_init_0 : decode c_M_init 0 = .ok (.aload_n 0, 1) := by decide +kernel
theorem d_M_init_1 : decode c_M_init 1 = .ok (.invokespecial 1, 3) := by decide +kernel
theorem d_M_init_4 : decode c_M_init 4 = .ok (.aload_n 0, 1) := by decide +kernel
theorem d_M_init_5 : decode c_M_init 5 = .ok (.bipush 120, 2) := by decide +kernel
theorem d_M_init_7 : decode c_M_init 7 = .ok (.newarray .byte, 2) := by decide +kernel
theorem d_M_init_9 : decode c_M_init 9 = .ok (.putfield 7, 3) := by decide +kernel
theorem d_M_init_12 : decode c_M_init 12 = .ok (.aload_n 0, 1) := by decide +kernel
theorem d_M_init_13 : decode c_M_init 13 = .ok (.sipush 410, 3) := by decide +kernel
theorem d_M_init_16 : decode c_M_init 16 = .ok (.newarray .int, 2) := by decide +kernel
theorem d_M_init_18 : decode c_M_init 18 = .ok (.putfield 13, 3) := by decide +kernel
theorem d_M_init_21 : decode c_M_init 21 = .ok (.aload_n 0, 1) := by decide +kernel
theorem d_M_init_22 : decode c_M_init 22 = .ok (.bipush 40, 2) := by decide +kernel
theorem d_M_init_24 : decode c_M_init 24 = .ok (.newarray .boolean, 2) := by decide +kernel
theorem d_M_init_26 : decode c_M_init 26 = .ok (.putfield 17, 3) := by decide +kernel
theorem d_M_init_29 : decode c_M_init 29 = .ok (.aload_n 0, 1) := by decide +kernel
theorem d_M_init_30 : decode c_M_init 30 = .ok (.bipush 40, 2) := by decide +kernel
theorem d_M_init_32 : decode c_M_init 32 = .ok (.newarray .boolean, 2) := by decide +kernel
theorem d_M_init_34 : decode c_M_init 34 = .ok (.putfield 21, 3) := by decide +kernel
theorem d_M_init_37 : decode c_M_init 37 = .ok (.aload_n 0, 1) := by decide +kernel
theorem d_M_init_38 : decode c_M_init 38 = .ok (.sipush 10000, 3) := by decide +kernel
theorem d_M_init_41 : decode c_M_init 41 = .ok (.newarray .boolean, 2) := by decide +kernel
theorem d_M_init_43 : decode c_M_init 43 = .ok (.putfield 24, 3) := by decide +kernel
theorem d_M_init_46 : decode c_M_init 46 = .ok (.aload_n 0, 1) := by decide +kernel
theorem d_M_init_47 : decode c_M_init 47 = .ok (.sipush 10000, 3) := by decide +kernel
theorem d_M_init_50 : decode c_M_init 50 = .ok (.newarray .boolean, 2) := by decide +kernel
theorem d_M_init_52 : decode c_M_init 52 = .ok (.putfield 27, 3) := by decide +kernel
theorem d_M_init_55 : decode c_M_init 55 = .ok (.aload_n 0, 1) := by decide +kernel
theorem d_M_init_56 : decode c_M_init 56 = .ok (.bipush 50, 2) := by decide +kernel
theorem d_M_init_58 : decode c_M_init 58 = .ok (.newarray .int, 2) := by decide +kernel
theorem d_M_init_60 : decode c_M_init 60 = .ok (.putfield 30, 3) := by decide +kernel
theorem d_M_init_63 : decode c_M_init 63 = .ok (.aload_n 0, 1) := by decide +kernel
theorem d_M_init_64 : decode c_M_init 64 = .ok (.bipush 50, 2) := by decide +kernel
theorem d_M_init_66 : decode c_M_init 66 = .ok (.newarray .int, 2) := by decide +kernel
theorem d_M_init_68 : decode c_M_init 68 = .ok (.putfield 33, 3) := by decide +kernel
theorem d_M_init_71 : decode c_M_init 71 = .ok (.aload_n 0, 1) := by decide +kernel
theorem d_M_init_72 : decode c_M_init 72 = .ok (.bipush 50, 2) := by decide +kernel
theorem d_M_init_74 : decode c_M_init 74 = .ok (.newarray .int, 2) := by decide +kernel
theorem d_M_init_76 : decode c_M_init 76 = .ok (.putfield 36, 3) := by decide +kernel
theorem d_M_init_79 : decode c_M_init 79 = .ok (.aload_n 0, 1) := by decide +kernel
theorem d_M_init_80 : decode c_M_init 80 = .ok (.sipush 2000, 3) := by decide +kernel
theorem d_M_init_83 : decode c_M_init 83 = .ok (.newarray .int, 2) := by decide +kernel
theorem d_M_init_85 : decode c_M_init 85 = .ok (.putfield 39, 3) := by decide +kernel
theorem d_M_init_88 : decode c_M_init 88 = .ok (.aload_n 0, 1) := by decide +kernel
theorem d_M_init_89 : decode c_M_init 89 = .ok (.sipush 1407, 3) := by decide +kernel
theorem d_M_init_92 : decode c_M_init 92 = .ok (.newarray .int, 2) := by decide +kernel
theorem d_M_init_94 : decode c_M_init 94 = .ok (.putfield 42, 3) := by decide +kernel
theorem d_M_init_97 : decode c_M_init 97 = .ok (.aload_n 0, 1) := by decide +kernel
theorem d_M_init_98 : decode c_M_init 98 = .ok (.bipush 50, 2) := by decide +kernel
theorem d_M_init_100 : decode c_M_init 100 = .ok (.newarray .int, 2) := by decide +kernel
theorem d_M_init_102 : decode c_M_init 102 = .ok (.putfield 45, 3) := by decide +kernel
theorem d_M_init_105 : decode c_M_init 105 = .ok (.aload_n 0, 1) := by decide +kernel
theorem d_M_init_106 : decode c_M_init 106 = .ok (.bipush 40, 2) := by decide +kernel
theorem d_M_init_108 : decode c_M_init 108 = .ok (.newarray .int, 2) := by decide +kernel
theorem d_M_init_110 : decode c_M_init 110 = .ok (.putfield 48, 3) := by decide +kernel
theorem d_M_init_113 : decode c_M_init 113 = .ok (.aload_n 0, 1) := by decide +kernel
theorem d_M_init_114 : decode c_M_init 114 = .ok (.sipush 1600, 3) := by decide +kernel
theorem d_M_init_117 : decode c_M_init 117 = .ok (.newarray .int, 2) := by decide +kernel
theorem d_M_init_119 : decode c_M_init 119 = .ok (.putfield 51, 3) := by decide +kernel
theorem d_M_init_122 : decode c_M_init 122 = .ok (.return_, 1) := by decide +kernel
theorem d_M_isDay_0 : decode c_M_isDay 0 = .ok (.iload_n 0, 1) := by decide +kernel
theorem d_M_isDay_1 : decode c_M_isDay 1 = .ok (.ifCond .lt 14, 3) := by decide +kernel
theorem d_M_isDay_4 : decode c_M_isDay 4 = .ok (.iload_n 0, 1) := by decide +kernel
theorem d_M_isDay_5 : decode c_M_isDay 5 = .ok (.sipush 10000, 3) := by decide +kernel
theorem d_M_isDay_8 : decode c_M_isDay 8 = .ok (.if_icmp .ge 7, 3) := by decide +kernel
theorem d_M_isDay_11 : decode c_M_isDay 11 = .ok (.iconst 1, 1) := by decide +kernel
theorem d_M_isDay_12 : decode c_M_isDay 12 = .ok (.goto 4, 3) := by decide +kernel
theorem d_M_isDay_15 : decode c_M_isDay 15 = .ok (.iconst 0, 1) := by decide +kernel
theorem d_M_isDay_16 : decode c_M_isDay 16 = .ok (.ireturn, 1) := by decide +kernel
theorem d_M_isOut_0 : decode c_M_isOut 0 = .ok (.iload_n 1, 1) := by decide +kernel
theorem d_M_isOut_1 : decode c_M_isOut 1 = .ok (.ifCond .le 30, 3) := by decide +kernel
theorem d_M_isOut_4 : decode c_M_isOut 4 = .ok (.iload_n 1, 1) := by decide +kernel
theorem d_M_isOut_5 : decode c_M_isOut 5 = .ok (.aload_n 0, 1) := by decide +kernel
theorem d_M_isOut_6 : decode c_M_isOut 6 = .ok (.getfield 159, 3) := by decide +kernel
theorem d_M_isOut_9 : decode c_M_isOut 9 = .ok (.if_icmp .gt 22, 3) := by decide +kernel
theorem d_M_isOut_31 : decode c_M_isOut 31 = .ok (.iconst 0, 1) := by decide +kernel
theorem d_M_isOut_32 : decode c_M_isOut 32 = .ok (.ireturn, 1) := by decide +kernel
theorem d_M_isPerson_0 : decode c_M_isPerson 0 = .ok (.iload_n 0, 1) := by decide +kernel
theorem d_M_isPerson_1 : decode c_M_isPerson 1 = .ok (.ifCond .lt 13, 3) := by decide +kernel
theorem d_M_isPerson_4 : decode c_M_isPerson 4 = .ok (.iload_n 0, 1) := by decide +kernel
theorem d_M_isPerson_5 : decode c_M_isPerson 5 = .ok (.bipush 50, 2) := by decide +kernel
theorem d_M_isPerson_7 : decode c_M_isPerson 7 = .ok (.if_icmp .ge 7, 3) := by decide +kernel
theorem d_M_isPerson_10 : decode c_M_isPerson 10 = .ok (.iconst 1, 1) := by decide +kernel
theorem d_M_isPerson_11 : decode c_M_isPerson 11 = .ok (.goto 4, 3) := by decide +kernel
theorem d_M_isPerson_14 : decode c_M_isPerson 14 = .ok (.iconst 0, 1) := by decide +kernel
theorem d_M_isPerson_15 : decode c_M_isPerson 15 = .ok (.ireturn, 1) := by decide +kernel
theorem d_M_isRule_0 : decode c_M_isRule 0 = .ok (.iload_n 1, 1) := by decide +kernel
theorem d_M_isRule_1 : decode c_M_isRule 1 = .ok (.ifCond .lt 15, 3) := by decide +kernel
theorem d_M_isRule_4 : decode c_M_isRule 4 = .ok (.iload_n 1, 1) := by decide +kernel
theorem d_M_isRule_5 : decode c_M_isRule 5 = .ok (.aload_n 0, 1) := by decide +kernel
theorem d_M_isRule_6 : decode c_M_isRule 6 = .ok (.getfield 88, 3) := by decide +kernel
theorem d_M_isRule_9 : decode c_M_isRule 9 = .ok (.if_icmp .ge 7, 3) := by decide +kernel
theorem d_M_isRule_16 : decode c_M_isRule 16 = .ok (.iconst 0, 1) := by decide +kernel
theorem d_M_isRule_17 : decode c_M_isRule 17 = .ok (.ireturn, 1) := by decide +kernel
theorem d_M_lend_0 : decode c_M_lend 0 = .ok (.aload_n 0, 1) := by decide +kernel
theorem d_M_lend_1 : decode c_M_lend 1 = .ok (.iconst 0, 1) := by decide +kernel
theorem d_M_lend_2 : decode c_M_lend 2 = .ok (.putfield 54, 3) := by decide +kernel
theorem d_M_lend_5 : decode c_M_lend 5 = .ok (.iload_n 1, 1) := by decide +kernel
theorem d_M_lend_6 : decode c_M_lend 6 = .ok (.invokestatic 143, 3) := by decide +kernel
theorem d_M_lend_9 : decode c_M_lend 9 = .ok (.ifCond .eq 36, 3) := by decide +kernel
theorem d_M_lend_12 : decode c_M_lend 12 = .ok (.iload_n 2, 1) := by decide +kernel
theorem d_M_lend_13 : decode c_M_lend 13 = .ok (.invokestatic 143, 3) := by decide +kernel
theorem d_M_lend_16 : decode c_M_lend 16 = .ok (.ifCond .eq 29, 3) := by decide +kernel
theorem d_M_lend_19 : decode c_M_lend 19 = .ok (.iload_n 3, 1) := by decide +kernel
theorem d_M_lend_20 : decode c_M_lend 20 = .ok (.invokestatic 137, 3) := by decide +kernel
theorem d_M_lend_23 : decode c_M_lend 23 = .ok (.ifCond .eq 22, 3) := by decide +kernel
theorem d_M_lend_26 : decode c_M_lend 26 = .ok (.aload_n 0, 1) := by decide +kernel
theorem d_M_lend_27 : decode c_M_lend 27 = .ok (.getfield 45, 3) := by decide +kernel
theorem d_M_lend_30 : decode c_M_lend 30 = .ok (.iload_n 2, 1) := by decide +kernel
theorem d_M_lend_31 : decode c_M_lend 31 = .ok (.iaload, 1) := by decide +kernel
theorem d_M_lend_32 : decode c_M_lend 32 = .ok (.ifCond .ne 13, 3) := by decide +kernel
theorem d_M_lend_35 : decode c_M_lend 35 = .ok (.aload_n 0, 1) := by decide +kernel
theorem d_M_lend_36 : decode c_M_lend 36 = .ok (.getfield 159, 3) := by decide +kernel
theorem d_M_lend_39 : decode c_M_lend 39 = .ok (.sipush 200, 3) := by decide +kernel
theorem d_M_lend_42 : decode c_M_lend 42 = .ok (.if_icmp .ne 5, 3) := by decide +kernel
theorem d_M_lend_45 : decode c_M_lend 45 = .ok (.iconst 0, 1) := by decide +kernel
theorem d_M_lend_46 : decode c_M_lend 46 = .ok (.ireturn, 1) := by decide +kernel
theorem d_M_lend_47 : decode c_M_lend 47 = .ok (.aload_n 0, 1) := by decide +kernel
theorem d_M_lend_48 : decode c_M_lend 48 = .ok (.getfield 36, 3) := by decide +kernel
theorem d_M_lend_51 : decode c_M_lend 51 = .ok (.iload_n 1, 1) := by decide +kernel
theorem d_M_lend_52 : decode c_M_lend 52 = .ok (.iaload, 1) := by decide +kernel
theorem d_M_lend_53 : decode c_M_lend 53 = .ok (.ifCond .le 13, 3) := by decide +kernel
theorem d_M_lend_66 : decode c_M_lend 66 = .ok (.aload_n 0, 1) := by decide +kernel
theorem d_M_lend_67 : decode c_M_lend 67 = .ok (.iload_n 1, 1) := by decide +kernel
theorem d_M_lend_68 : decode c_M_lend 68 = .ok (.iload_n 2, 1) := by decide +kernel
theorem d_M_lend_69 : decode c_M_lend 69 = .ok (.iload_n 3, 1) := by decide +kernel
theorem d_M_lend_70 : decode c_M_lend 70 = .ok (.invokevirtual 162, 3) := by decide +kernel
theorem d_M_lend_73 : decode c_M_lend 73 = .ok (.aload_n 0, 1) := by decide +kernel
theorem d_M_lend_74 : decode c_M_lend 74 = .ok (.getfield 149, 3) := by decide +kernel
theorem d_M_lend_77 : decode c_M_lend 77 = .ok (.ifCond .ne 6, 3) := by decide +kernel
theorem d_M_lend_80 : decode c_M_lend 80 = .ok (.bipush (-100), 2) := by decide +kernel
theorem d_M_lend_82 : decode c_M_lend 82 = .ok (.ireturn, 1) := by decide +kernel
theorem d_M_look_0 : decode c_M_look 0 = .ok (.iload_n 1, 1) := by decide +kernel
theorem d_M_look_1 : decode c_M_look 1 = .ok (.aload_n 0, 1) := by decide +kernel
theorem d_M_look_2 : decode c_M_look 2 = .ok (.getfield 58, 3) := by decide +kernel
theorem d_M_look_5 : decode c_M_look 5 = .ok (.if_icmp .ge 16, 3) := by decide +kernel
theorem d_M_look_21 : decode c_M_look 21 = .ok (.iconst (-1), 1) := by decide +kernel
theorem d_M_look_22 : decode c_M_look 22 = .ok (.ireturn, 1) := by decide +kernel
theorem d_M_never_0 : decode c_M_never 0 = .ok (.aload_n 0, 1) := by decide +kernel
theorem d_M_never_1 : decode c_M_never 1 = .ok (.iconst 0, 1) := by decide +kernel
theorem d_M_never_2 : decode c_M_never 2 = .ok (.putfield 54, 3) := by decide +kernel
theorem d_M_never_5 : decode c_M_never 5 = .ok (.iconst 0, 1) := by decide +kernel
theorem d_M_never_6 : decode c_M_never 6 = .ok (.istore_n 2, 1) := by decide +kernel
theorem d_M_never_7 : decode c_M_never 7 = .ok (.iconst 0, 1) := by decide +kernel
theorem d_M_never_8 : decode c_M_never 8 = .ok (.istore_n 3, 1) := by decide +kernel
theorem d_M_never_9 : decode c_M_never 9 = .ok (.iload_n 3, 1) := by decide +kernel
theorem d_M_never_10 : decode c_M_never 10 = .ok (.aload_n 0, 1) := by decide +kernel
theorem d_M_never_11 : decode c_M_never 11 = .ok (.getfield 88, 3) := by decide +kernel
theorem d_M_never_14 : decode c_M_never 14 = .ok (.if_icmp .ge 32, 3) := by decide +kernel
theorem d_M_never_46 : decode c_M_never 46 = .ok (.iconst (-1), 1) := by decide +kernel
theorem d_M_never_47 : decode c_M_never 47 = .ok (.ireturn, 1) := by decide +kernel
theorem d_M_reads_0 : decode c_M_reads 0 = .ok (.iconst 0, 1) := by decide +kernel
theorem d_M_reads_1 : decode c_M_reads 1 = .ok (.istore_n 1, 1) := by decide +kernel
theorem d_M_reads_2 : decode c_M_reads 2 = .ok (.iload_n 1, 1) := by decide +kernel
theorem d_M_reads_3 : decode c_M_reads 3 = .ok (.bipush 10, 2) := by decide +kernel
theorem d_M_reads_5 : decode c_M_reads 5 = .ok (.if_icmp .ge 44, 3) := by decide +kernel
theorem d_M_reads_8 : decode c_M_reads 8 = .ok (.aload_n 0, 1) := by decide +kernel
theorem d_M_reads_9 : decode c_M_reads 9 = .ok (.getfield 13, 3) := by decide +kernel
theorem d_M_reads_12 : decode c_M_reads 12 = .ok (.bipush 10, 2) := by decide +kernel
theorem d_M_reads_14 : decode c_M_reads 14 = .ok (.aload_n 0, 1) := by decide +kernel
theorem d_M_reads_15 : decode c_M_reads 15 = .ok (.getfield 88, 3) := by decide +kernel
theorem d_M_reads_18 : decode c_M_reads 18 = .ok (.imul, 1) := by decide +kernel
theorem d_M_reads_19 : decode c_M_reads 19 = .ok (.iload_n 1, 1) := by decide +kernel
theorem d_M_reads_20 : decode c_M_reads 20 = .ok (.iadd, 1) := by decide +kernel
theorem d_M_reads_21 : decode c_M_reads 21 = .ok (.iload_n 1, 1) := by decide +kernel
theorem d_M_reads_22 : decode c_M_reads 22 = .ok (.iconst 3, 1) := by decide +kernel
theorem d_M_reads_23 : decode c_M_reads 23 = .ok (.if_icmp .ge 7, 3) := by decide +kernel
theorem d_M_reads_26 : decode c_M_reads 26 = .ok (.iconst (-1), 1) := by decide +kernel
theorem d_M_reads_27 : decode c_M_reads 27 = .ok (.goto 15, 3) := by decide +kernel
theorem d_M_reads_30 : decode c_M_reads 30 = .ok (.iload_n 1, 1) := by decide +kernel
theorem d_M_reads_31 : decode c_M_reads 31 = .ok (.bipush 7, 2) := by decide +kernel
theorem d_M_reads_33 : decode c_M_reads 33 = .ok (.if_icmp .ne 8, 3) := by decide +kernel
theorem d_M_reads_36 : decode c_M_reads 36 = .ok (.bipush 7, 2) := by decide +kernel
theorem d_M_reads_38 : decode c_M_reads 38 = .ok (.goto 4, 3) := by decide +kernel
theorem d_M_reads_41 : decode c_M_reads 41 = .ok (.iconst 0, 1) := by decide +kernel
theorem d_M_reads_42 : decode c_M_reads 42 = .ok (.iastore, 1) := by decide +kernel
theorem d_M_reads_43 : decode c_M_reads 43 = .ok (.iinc 1 1, 3) := by decide +kernel
theorem d_M_reads_46 : decode c_M_reads 46 = .ok (.goto (-44), 3) := by decide +kernel
theorem d_M_reads_49 : decode c_M_reads 49 = .ok (.aload_n 0, 1) := by decide +kernel
theorem d_M_reads_50 : decode c_M_reads 50 = .ok (.iconst 0, 1) := by decide +kernel
theorem d_M_reads_51 : decode c_M_reads 51 = .ok (.putfield 64, 3) := by decide +kernel
theorem d_M_reads_54 : decode c_M_reads 54 = .ok (.iconst 0, 1) := by decide +kernel
theorem d_M_reads_55 : decode c_M_reads 55 = .ok (.istore_n 1, 1) := by decide +kernel
theorem d_M_reads_56 : decode c_M_reads 56 = .ok (.aload_n 0, 1) := by decide +kernel
theorem d_M_reads_57 : decode c_M_reads 57 = .ok (.getfield 64, 3) := by decide +kernel
theorem d_M_reads_60 : decode c_M_reads 60 = .ok (.aload_n 0, 1) := by decide +kernel
theorem d_M_reads_61 : decode c_M_reads 61 = .ok (.getfield 58, 3) := by decide +kernel
theorem d_M_reads_64 : decode c_M_reads 64 = .ok (.if_icmp .lt 8, 3) := by decide +kernel
theorem d_M_reads_67 : decode c_M_reads 67 = .ok (.iload_n 1, 1) := by decide +kernel
theorem d_M_reads_68 : decode c_M_reads 68 = .ok (.iconst 4, 1) := by decide +kernel
theorem d_M_reads_69 : decode c_M_reads 69 = .ok (.if_icmp .ge 111, 3) := by decide +kernel
theorem d_M_reads_72 : decode c_M_reads 72 = .ok (.iload_n 1, 1) := by decide +kernel
theorem d_M_reads_73 : decode c_M_reads 73 = .ok (.ifCond .le 12, 3) := by decide +kernel
theorem d_M_reads_85 : decode c_M_reads 85 = .ok (.aload_n 0, 1) := by decide +kernel
theorem d_M_reads_86 : decode c_M_reads 86 = .ok (.invokevirtual 111, 3) := by decide +kernel
theorem d_M_reads_89 : decode c_M_reads 89 = .ok (.invokestatic 127, 3) := by decide +kernel
theorem d_M_reads_92 : decode c_M_reads 92 = .ok (.istore_n 2, 1) := by decide +kernel
theorem d_M_reads_93 : decode c_M_reads 93 = .ok (.iload_n 2, 1) := by decide +kernel
theorem d_M_reads_94 : decode c_M_reads 94 = .ok (.iload_n 1, 1) := by decide +kernel
theorem d_M_reads_95 : decode c_M_reads 95 = .ok (.if_icmp .le 47, 3) := by decide +kernel
theorem d_M_reads_142 : decode c_M_reads 142 = .ok (.iconst 0, 1) := by decide +kernel
theorem d_M_reads_143 : decode c_M_reads 143 = .ok (.istore_n 3, 1) := by decide +kernel
theorem d_M_reads_144 : decode c_M_reads 144 = .ok (.iload_n 2, 1) := by decide +kernel
theorem d_M_reads_145 : decode c_M_reads 145 = .ok (.ifCond .eq 7, 3) := by decide +kernel
theorem d_M_reads_152 : decode c_M_reads 152 = .ok (.aload_n 0, 1) := by decide +kernel
theorem d_M_reads_153 : decode c_M_reads 153 = .ok (.aload_n 0, 1) := by decide +kernel
theorem d_M_reads_154 : decode c_M_reads 154 = .ok (.getfield 64, 3) := by decide +kernel
theorem d_M_reads_157 : decode c_M_reads 157 = .ok (.invokevirtual 77, 3) := by decide +kernel
theorem d_M_reads_160 : decode c_M_reads 160 = .ok (.ireturn, 1) := by decide +kernel
theorem d_M_recall_0 : decode c_M_recall 0 = .ok (.aload_n 0, 1) := by decide +kernel
theorem d_M_recall_1 : decode c_M_recall 1 = .ok (.iconst 0, 1) := by decide +kernel
theorem d_M_recall_2 : decode c_M_recall 2 = .ok (.putfield 54, 3) := by decide +kernel
theorem d_M_recall_5 : decode c_M_recall 5 = .ok (.aload_n 0, 1) := by decide +kernel
theorem d_M_recall_6 : decode c_M_recall 6 = .ok (.iload_n 1, 1) := by decide +kernel
theorem d_M_recall_7 : decode c_M_recall 7 = .ok (.invokevirtual 172, 3) := by decide +kernel
theorem d_M_recall_10 : decode c_M_recall 10 = .ok (.ifCond .eq 10, 3) := by decide +kernel
theorem d_M_recall_20 : decode c_M_recall 20 = .ok (.iconst 0, 1) := by decide +kernel
theorem d_M_recall_21 : decode c_M_recall 21 = .ok (.ireturn, 1) := by decide +kernel
theorem d_M_renew_0 : decode c_M_renew 0 = .ok (.aload_n 0, 1) := by decide +kernel
theorem d_M_renew_1 : decode c_M_renew 1 = .ok (.iconst 0, 1) := by decide +kernel
theorem d_M_renew_2 : decode c_M_renew 2 = .ok (.putfield 54, 3) := by decide +kernel
theorem d_M_renew_5 : decode c_M_renew 5 = .ok (.aload_n 0, 1) := by decide +kernel
theorem d_M_renew_6 : decode c_M_renew 6 = .ok (.iload_n 1, 1) := by decide +kernel
theorem d_M_renew_7 : decode c_M_renew 7 = .ok (.invokevirtual 172, 3) := by decide +kernel
theorem d_M_renew_10 : decode c_M_renew 10 = .ok (.ifCond .eq 10, 3) := by decide +kernel
theorem d_M_renew_20 : decode c_M_renew 20 = .ok (.iconst 0, 1) := by decide +kernel
theorem d_M_renew_21 : decode c_M_renew 21 = .ok (.ireturn, 1) := by decide +kernel
theorem d_M_row_0 : decode c_M_row 0 = .ok (.aload_n 0, 1) := by decide +kernel
theorem d_M_row_1 : decode c_M_row 1 = .ok (.iconst 0, 1) := by decide +kernel
theorem d_M_row_2 : decode c_M_row 2 = .ok (.putfield 54, 3) := by decide +kernel
theorem d_M_row_5 : decode c_M_row 5 = .ok (.iload_n 1, 1) := by decide +kernel
theorem d_M_row_6 : decode c_M_row 6 = .ok (.ifCond .lt 25, 3) := by decide +kernel
theorem d_M_row_9 : decode c_M_row 9 = .ok (.iload_n 1, 1) := by decide +kernel
theorem d_M_row_10 : decode c_M_row 10 = .ok (.iconst 1, 1) := by decide +kernel
theorem d_M_row_11 : decode c_M_row 11 = .ok (.if_icmp .gt 20, 3) := by decide +kernel
theorem d_M_row_14 : decode c_M_row 14 = .ok (.iload_n 2, 1) := by decide +kernel
theorem d_M_row_15 : decode c_M_row 15 = .ok (.invokestatic 143, 3) := by decide +kernel
theorem d_M_row_18 : decode c_M_row 18 = .ok (.ifCond .eq 13, 3) := by decide +kernel
theorem d_M_row_21 : decode c_M_row 21 = .ok (.iload_n 3, 1) := by decide +kernel
theorem d_M_row_22 : decode c_M_row 22 = .ok (.ifCond .lt 9, 3) := by decide +kernel
theorem d_M_row_25 : decode c_M_row 25 = .ok (.iload_n 3, 1) := by decide +kernel
theorem d_M_row_26 : decode c_M_row 26 = .ok (.bipush 9, 2) := by decide +kernel
theorem d_M_row_28 : decode c_M_row 28 = .ok (.if_icmp .le 5, 3) := by decide +kernel
theorem d_M_row_31 : decode c_M_row 31 = .ok (.iconst 0, 1) := by decide +kernel
theorem d_M_row_32 : decode c_M_row 32 = .ok (.ireturn, 1) := by decide +kernel
theorem d_M_row_33 : decode c_M_row 33 = .ok (.iload_n 1, 1) := by decide +kernel
theorem d_M_row_34 : decode c_M_row 34 = .ok (.ifCond .ne 13, 3) := by decide +kernel
theorem d_M_row_37 : decode c_M_row 37 = .ok (.aload_n 0, 1) := by decide +kernel
theorem d_M_row_38 : decode c_M_row 38 = .ok (.getfield 30, 3) := by decide +kernel
theorem d_M_row_41 : decode c_M_row 41 = .ok (.iload_n 2, 1) := by decide +kernel
theorem d_M_row_42 : decode c_M_row 42 = .ok (.iload_n 3, 1) := by decide +kernel
theorem d_M_row_43 : decode c_M_row 43 = .ok (.iastore, 1) := by decide +kernel
theorem d_M_row_44 : decode c_M_row 44 = .ok (.goto 10, 3) := by decide +kernel
theorem d_M_row_47 : decode c_M_row 47 = .ok (.aload_n 0, 1) := by decide +kernel
theorem d_M_row_48 : decode c_M_row 48 = .ok (.getfield 33, 3) := by decide +kernel
theorem d_M_row_51 : decode c_M_row 51 = .ok (.iload_n 2, 1) := by decide +kernel
theorem d_M_row_52 : decode c_M_row 52 = .ok (.iload_n 3, 1) := by decide +kernel
theorem d_M_row_53 : decode c_M_row 53 = .ok (.iastore, 1) := by decide +kernel
theorem d_M_row_54 : decode c_M_row 54 = .ok (.iconst 1, 1) := by decide +kernel
theorem d_M_row_55 : decode c_M_row 55 = .ok (.ireturn, 1) := by decide +kernel
theorem d_M_rule_0 : decode c_M_rule 0 = .ok (.aload_n 0, 1) := by decide +kernel
theorem d_M_rule_1 : decode c_M_rule 1 = .ok (.iconst 0, 1) := by decide +kernel
theorem d_M_rule_2 : decode c_M_rule 2 = .ok (.putfield 54, 3) := by decide +kernel
theorem d_M_rule_5 : decode c_M_rule 5 = .ok (.aload_n 0, 1) := by decide +kernel
theorem d_M_rule_6 : decode c_M_rule 6 = .ok (.invokevirtual 134, 3) := by decide +kernel
theorem d_M_rule_9 : decode c_M_rule 9 = .ok (.istore_n 1, 1) := by decide +kernel
theorem d_M_rule_10 : decode c_M_rule 10 = .ok (.aload_n 0, 1) := by decide +kernel
theorem d_M_rule_11 : decode c_M_rule 11 = .ok (.iconst 0, 1) := by decide +kernel
theorem d_M_rule_12 : decode c_M_rule 12 = .ok (.putfield 58, 3) := by decide +kernel
theorem d_M_rule_15 : decode c_M_rule 15 = .ok (.iload_n 1, 1) := by decide +kernel
theorem d_M_rule_16 : decode c_M_rule 16 = .ok (.ifCond .ne 10, 3) := by decide +kernel
theorem d_M_rule_19 : decode c_M_rule 19 = .ok (.iconst (-1), 1) := by decide +kernel
theorem d_M_rule_20 : decode c_M_rule 20 = .ok (.aload_n 0, 1) := by decide +kernel
theorem d_M_rule_21 : decode c_M_rule 21 = .ok (.getfield 61, 3) := by decide +kernel
theorem d_M_rule_24 : decode c_M_rule 24 = .ok (.isub, 1) := by decide +kernel
theorem d_M_rule_25 : decode c_M_rule 25 = .ok (.ireturn, 1) := by decide +kernel
theorem d_M_sign_0 : decode c_M_sign 0 = .ok (.aload_n 0, 1) := by decide +kernel
theorem d_M_sign_1 : decode c_M_sign 1 = .ok (.iconst 0, 1) := by decide +kernel
theorem d_M_sign_2 : decode c_M_sign 2 = .ok (.putfield 54, 3) := by decide +kernel
theorem d_M_sign_5 : decode c_M_sign 5 = .ok (.aload_n 0, 1) := by decide +kernel
theorem d_M_sign_6 : decode c_M_sign 6 = .ok (.getfield 58, 3) := by decide +kernel
theorem d_M_sign_9 : decode c_M_sign 9 = .ok (.bipush 120, 2) := by decide +kernel
theorem d_M_sign_11 : decode c_M_sign 11 = .ok (.if_icmp .ge 24, 3) := by decide +kernel
theorem d_M_sign_14 : decode c_M_sign 14 = .ok (.aload_n 0, 1) := by decide +kernel
theorem d_M_sign_15 : decode c_M_sign 15 = .ok (.getfield 7, 3) := by decide +kernel
theorem d_M_sign_18 : decode c_M_sign 18 = .ok (.aload_n 0, 1) := by decide +kernel
theorem d_M_sign_19 : decode c_M_sign 19 = .ok (.getfield 58, 3) := by decide +kernel
theorem d_M_sign_22 : decode c_M_sign 22 = .ok (.iload_n 1, 1) := by decide +kernel
theorem d_M_sign_23 : decode c_M_sign 23 = .ok (.i2b, 1) := by decide +kernel
theorem d_M_sign_24 : decode c_M_sign 24 = .ok (.bastore, 1) := by decide +kernel
theorem d_M_sign_25 : decode c_M_sign 25 = .ok (.aload_n 0, 1) := by decide +kernel
theorem d_M_sign_26 : decode c_M_sign 26 = .ok (.dup, 1) := by decide +kernel
theorem d_M_sign_27 : decode c_M_sign 27 = .ok (.getfield 58, 3) := by decide +kernel
theorem d_M_sign_30 : decode c_M_sign 30 = .ok (.iconst 1, 1) := by decide +kernel
theorem d_M_sign_31 : decode c_M_sign 31 = .ok (.iadd, 1) := by decide +kernel
theorem d_M_sign_32 : decode c_M_sign 32 = .ok (.putfield 58, 3) := by decide +kernel
theorem d_M_sign_35 : decode c_M_sign 35 = .ok (.return_, 1) := by decide +kernel
theorem d_M_step_0 : decode c_M_step 0 = .ok (.lload_n 0, 1) := by decide +kernel
theorem d_M_step_1 : decode c_M_step 1 = .ok (.ldc2_w 91, 3) := by decide +kernel
theorem d_M_step_4 : decode c_M_step 4 = .ok (.lcmp, 1) := by decide +kernel
theorem d_M_step_5 : decode c_M_step 5 = .ok (.ifCond .ne 7, 3) := by decide +kernel
theorem d_M_step_12 : decode c_M_step 12 = .ok (.lload_n 0, 1) := by decide +kernel
theorem d_M_step_13 : decode c_M_step 13 = .ok (.ldc2_w 93, 3) := by decide +kernel
theorem d_M_step_16 : decode c_M_step 16 = .ok (.lcmp, 1) := by decide +kernel
theorem d_M_step_17 : decode c_M_step 17 = .ok (.ifCond .ne 7, 3) := by decide +kernel
theorem d_M_step_24 : decode c_M_step 24 = .ok (.lload_n 0, 1) := by decide +kernel
theorem d_M_step_25 : decode c_M_step 25 = .ok (.ldc2_w 95, 3) := by decide +kernel
theorem d_M_step_28 : decode c_M_step 28 = .ok (.lcmp, 1) := by decide +kernel
theorem d_M_step_29 : decode c_M_step 29 = .ok (.ifCond .ne 7, 3) := by decide +kernel
theorem d_M_step_36 : decode c_M_step 36 = .ok (.lload_n 0, 1) := by decide +kernel
theorem d_M_step_37 : decode c_M_step 37 = .ok (.ldc2_w 97, 3) := by decide +kernel
theorem d_M_step_40 : decode c_M_step 40 = .ok (.lcmp, 1) := by decide +kernel
theorem d_M_step_41 : decode c_M_step 41 = .ok (.ifCond .ne 7, 3) := by decide +kernel
theorem d_M_step_48 : decode c_M_step 48 = .ok (.lload_n 0, 1) := by decide +kernel
theorem d_M_step_49 : decode c_M_step 49 = .ok (.ldc2_w 99, 3) := by decide +kernel
theorem d_M_step_52 : decode c_M_step 52 = .ok (.lcmp, 1) := by decide +kernel
theorem d_M_step_53 : decode c_M_step 53 = .ok (.ifCond .ne 7, 3) := by decide +kernel
theorem d_M_step_60 : decode c_M_step 60 = .ok (.lload_n 0, 1) := by decide +kernel
theorem d_M_step_61 : decode c_M_step 61 = .ok (.ldc2_w 101, 3) := by decide +kernel
theorem d_M_step_64 : decode c_M_step 64 = .ok (.lcmp, 1) := by decide +kernel
theorem d_M_step_65 : decode c_M_step 65 = .ok (.ifCond .ne 8, 3) := by decide +kernel
theorem d_M_step_73 : decode c_M_step 73 = .ok (.lload_n 0, 1) := by decide +kernel
theorem d_M_step_74 : decode c_M_step 74 = .ok (.ldc2_w 103, 3) := by decide +kernel
theorem d_M_step_77 : decode c_M_step 77 = .ok (.lcmp, 1) := by decide +kernel
theorem d_M_step_78 : decode c_M_step 78 = .ok (.ifCond .ne 8, 3) := by decide +kernel
theorem d_M_step_86 : decode c_M_step 86 = .ok (.lload_n 0, 1) := by decide +kernel
theorem d_M_step_87 : decode c_M_step 87 = .ok (.ldc2_w 105, 3) := by decide +kernel
theorem d_M_step_90 : decode c_M_step 90 = .ok (.lcmp, 1) := by decide +kernel
theorem d_M_step_91 : decode c_M_step 91 = .ok (.ifCond .ne 8, 3) := by decide +kernel
theorem d_M_step_99 : decode c_M_step 99 = .ok (.lload_n 0, 1) := by decide +kernel
theorem d_M_step_100 : decode c_M_step 100 = .ok (.ldc2_w 107, 3) := by decide +kernel
theorem d_M_step_103 : decode c_M_step 103 = .ok (.lcmp, 1) := by decide +kernel
theorem d_M_step_104 : decode c_M_step 104 = .ok (.ifCond .ne 8, 3) := by decide +kernel
theorem d_M_step_112 : decode c_M_step 112 = .ok (.lload_n 0, 1) := by decide +kernel
theorem d_M_step_113 : decode c_M_step 113 = .ok (.ldc2_w 109, 3) := by decide +kernel
theorem d_M_step_116 : decode c_M_step 116 = .ok (.lcmp, 1) := by decide +kernel
theorem d_M_step_117 : decode c_M_step 117 = .ok (.ifCond .ne 8, 3) := by decide +kernel
theorem d_M_step_125 : decode c_M_step 125 = .ok (.iconst 0, 1) := by decide +kernel
theorem d_M_step_126 : decode c_M_step 126 = .ok (.ireturn, 1) := by decide +kernel
theorem d_M_term_0 : decode c_M_term 0 = .ok (.aload_n 0, 1) := by decide +kernel
theorem d_M_term_1 : decode c_M_term 1 = .ok (.iconst 0, 1) := by decide +kernel
theorem d_M_term_2 : decode c_M_term 2 = .ok (.putfield 54, 3) := by decide +kernel
theorem d_M_term_5 : decode c_M_term 5 = .ok (.iload_n 1, 1) := by decide +kernel
theorem d_M_term_6 : decode c_M_term 6 = .ok (.invokestatic 137, 3) := by decide +kernel
theorem d_M_term_9 : decode c_M_term 9 = .ok (.ifCond .eq 12, 3) := by decide +kernel
theorem d_M_term_12 : decode c_M_term 12 = .ok (.aload_n 0, 1) := by decide +kernel
theorem d_M_term_13 : decode c_M_term 13 = .ok (.getfield 27, 3) := by decide +kernel
theorem d_M_term_16 : decode c_M_term 16 = .ok (.iload_n 1, 1) := by decide +kernel
theorem d_M_term_17 : decode c_M_term 17 = .ok (.baload, 1) := by decide +kernel
theorem d_M_term_18 : decode c_M_term 18 = .ok (.ifCond .eq 5, 3) := by decide +kernel
theorem d_M_term_21 : decode c_M_term 21 = .ok (.iconst 0, 1) := by decide +kernel
theorem d_M_term_22 : decode c_M_term 22 = .ok (.ireturn, 1) := by decide +kernel
theorem d_M_term_23 : decode c_M_term 23 = .ok (.aload_n 0, 1) := by decide +kernel
theorem d_M_term_24 : decode c_M_term 24 = .ok (.getfield 27, 3) := by decide +kernel
theorem d_M_term_27 : decode c_M_term 27 = .ok (.iload_n 1, 1) := by decide +kernel
theorem d_M_term_28 : decode c_M_term 28 = .ok (.iconst 1, 1) := by decide +kernel
theorem d_M_term_29 : decode c_M_term 29 = .ok (.bastore, 1) := by decide +kernel
theorem d_M_term_30 : decode c_M_term 30 = .ok (.iconst 1, 1) := by decide +kernel
theorem d_M_term_31 : decode c_M_term 31 = .ok (.ireturn, 1) := by decide +kernel
theorem d_M_thrown_0 : decode c_M_thrown 0 = .ok (.aload_n 0, 1) := by decide +kernel
theorem d_M_thrown_1 : decode c_M_thrown 1 = .ok (.getfield 54, 3) := by decide +kernel
theorem d_M_thrown_4 : decode c_M_thrown 4 = .ok (.ireturn, 1) := by decide +kernel
theorem d_M_throwsUp_0 : decode c_M_throwsUp 0 = .ok (.aload_n 0, 1) := by decide +kernel
theorem d_M_throwsUp_1 : decode c_M_throwsUp 1 = .ok (.iconst 0, 1) := by decide +kernel
theorem d_M_throwsUp_2 : decode c_M_throwsUp 2 = .ok (.putfield 54, 3) := by decide +kernel
theorem d_M_throwsUp_5 : decode c_M_throwsUp 5 = .ok (.aload_n 0, 1) := by decide +kernel
theorem d_M_throwsUp_6 : decode c_M_throwsUp 6 = .ok (.iload_n 1, 1) := by decide +kernel
theorem d_M_throwsUp_7 : decode c_M_throwsUp 7 = .ok (.invokevirtual 146, 3) := by decide +kernel
theorem d_M_throwsUp_10 : decode c_M_throwsUp 10 = .ok (.ifCond .ne 5, 3) := by decide +kernel
theorem d_M_throwsUp_13 : decode c_M_throwsUp 13 = .ok (.iconst 0, 1) := by decide +kernel
theorem d_M_throwsUp_14 : decode c_M_throwsUp 14 = .ok (.ireturn, 1) := by decide +kernel
theorem d_M_word_0 : decode c_M_word 0 = .ok (.lconst 0, 1) := by decide +kernel
theorem d_M_word_1 : decode c_M_word 1 = .ok (.lstore_n 1, 1) := by decide +kernel
theorem d_M_word_2 : decode c_M_word 2 = .ok (.aload_n 0, 1) := by decide +kernel
theorem d_M_word_3 : decode c_M_word 3 = .ok (.getfield 64, 3) := by decide +kernel
theorem d_M_word_6 : decode c_M_word 6 = .ok (.istore_n 3, 1) := by decide +kernel
theorem d_M_word_7 : decode c_M_word 7 = .ok (.aload_n 0, 1) := by decide +kernel
theorem d_M_word_8 : decode c_M_word 8 = .ok (.iload_n 3, 1) := by decide +kernel
theorem d_M_word_9 : decode c_M_word 9 = .ok (.invokevirtual 67, 3) := by decide +kernel
theorem d_M_word_12 : decode c_M_word 12 = .ok (.bipush 97, 2) := by decide +kernel
theorem d_M_word_14 : decode c_M_word 14 = .ok (.if_icmp .lt 53, 3) := by decide +kernel
theorem d_M_word_67 : decode c_M_word 67 = .ok (.lload_n 1, 1) := by decide +kernel
theorem d_M_word_68 : decode c_M_word 68 = .ok (.lreturn, 1) := by decide +kernel
theorem d_PC_checkIndex_0 : decode c_PC_checkIndex 0 = .ok (.iload_n 0, 1) := by decide +kernel
theorem d_PC_checkIndex_1 : decode c_PC_checkIndex 1 = .ok (.ifCond .lt 8, 3) := by decide +kernel
theorem d_PC_checkIndex_4 : decode c_PC_checkIndex 4 = .ok (.iload_n 0, 1) := by decide +kernel
theorem d_PC_checkIndex_5 : decode c_PC_checkIndex 5 = .ok (.iload_n 1, 1) := by decide +kernel
theorem d_PC_checkIndex_6 : decode c_PC_checkIndex 6 = .ok (.if_icmp .lt 10, 3) := by decide +kernel
theorem d_PC_checkIndex_16 : decode c_PC_checkIndex 16 = .ok (.iload_n 0, 1) := by decide +kernel
theorem d_PC_checkIndex_17 : decode c_PC_checkIndex 17 = .ok (.ireturn, 1) := by decide +kernel
theorem d_R_init_0 : decode c_R_init 0 = .ok (.aload_n 0, 1) := by decide +kernel
theorem d_R_init_1 : decode c_R_init 1 = .ok (.invokespecial 3, 3) := by decide +kernel
theorem d_R_init_4 : decode c_R_init 4 = .ok (.aload_n 0, 1) := by decide +kernel
theorem d_R_init_5 : decode c_R_init 5 = .ok (.iconst (-1), 1) := by decide +kernel
theorem d_R_init_6 : decode c_R_init 6 = .ok (.putfield 9, 3) := by decide +kernel
theorem d_R_init_9 : decode c_R_init 9 = .ok (.aload_n 0, 1) := by decide +kernel
theorem d_R_init_10 : decode c_R_init 10 = .ok (.iconst (-1), 1) := by decide +kernel
theorem d_R_init_11 : decode c_R_init 11 = .ok (.putfield 15, 3) := by decide +kernel
theorem d_R_init_14 : decode c_R_init 14 = .ok (.aload_n 0, 1) := by decide +kernel
theorem d_R_init_15 : decode c_R_init 15 = .ok (.iconst (-1), 1) := by decide +kernel
theorem d_R_init_16 : decode c_R_init 16 = .ok (.putfield 18, 3) := by decide +kernel
theorem d_R_init_19 : decode c_R_init 19 = .ok (.aload_n 0, 1) := by decide +kernel
theorem d_R_init_20 : decode c_R_init 20 = .ok (.iconst 2, 1) := by decide +kernel
theorem d_R_init_21 : decode c_R_init 21 = .ok (.putfield 21, 3) := by decide +kernel
theorem d_R_init_24 : decode c_R_init 24 = .ok (.aload_n 0, 1) := by decide +kernel
theorem d_R_init_25 : decode c_R_init 25 = .ok (.iconst 0, 1) := by decide +kernel
theorem d_R_init_26 : decode c_R_init 26 = .ok (.putfield 24, 3) := by decide +kernel
theorem d_R_init_29 : decode c_R_init 29 = .ok (.aload_n 0, 1) := by decide +kernel
theorem d_R_init_30 : decode c_R_init 30 = .ok (.iconst 0, 1) := by decide +kernel
theorem d_R_init_31 : decode c_R_init 31 = .ok (.putfield 27, 3) := by decide +kernel
theorem d_R_init_34 : decode c_R_init 34 = .ok (.aload_n 0, 1) := by decide +kernel
theorem d_R_init_35 : decode c_R_init 35 = .ok (.iconst 0, 1) := by decide +kernel
theorem d_R_init_36 : decode c_R_init 36 = .ok (.putfield 30, 3) := by decide +kernel
theorem d_R_init_39 : decode c_R_init 39 = .ok (.aload_n 0, 1) := by decide +kernel
theorem d_R_init_40 : decode c_R_init 40 = .ok (.bipush 7, 2) := by decide +kernel
theorem d_R_init_42 : decode c_R_init 42 = .ok (.putfield 33, 3) := by decide +kernel
theorem d_R_init_45 : decode c_R_init 45 = .ok (.aload_n 0, 1) := by decide +kernel
theorem d_R_init_46 : decode c_R_init 46 = .ok (.iconst 0, 1) := by decide +kernel
theorem d_R_init_47 : decode c_R_init 47 = .ok (.putfield 36, 3) := by decide +kernel
theorem d_R_init_50 : decode c_R_init 50 = .ok (.aload_n 0, 1) := by decide +kernel
theorem d_R_init_51 : decode c_R_init 51 = .ok (.iconst 0, 1) := by decide +kernel
theorem d_R_init_52 : decode c_R_init 52 = .ok (.putfield 39, 3) := by decide +kernel
theorem d_R_init_55 : decode c_R_init 55 = .ok (.aload_n 0, 1) := by decide +kernel
theorem d_R_init_56 : decode c_R_init 56 = .ok (.iconst 0, 1) := by decide +kernel
theorem d_R_init_57 : decode c_R_init 57 = .ok (.putfield 43, 3) := by decide +kernel
theorem d_R_init_60 : decode c_R_init 60 = .ok (.return_, 1) := by decide +kernel
theorem d_R_lends_0 : decode c_R_lends 0 = .ok (.aload_n 0, 1) := by decide +kernel
theorem d_R_lends_1 : decode c_R_lends 1 = .ok (.getfield 21, 3) := by decide +kernel
theorem d_R_lends_4 : decode c_R_lends 4 = .ok (.ifCond .eq 11, 3) := by decide +kernel
theorem d_R_lends_7 : decode c_R_lends 7 = .ok (.aload_n 0, 1) := by decide +kernel
theorem d_R_lends_8 : decode c_R_lends 8 = .ok (.getfield 21, 3) := by decide +kernel
theorem d_R_lends_11 : decode c_R_lends 11 = .ok (.iconst 1, 1) := by decide +kernel
theorem d_R_lends_12 : decode c_R_lends 12 = .ok (.if_icmp .ne 7, 3) := by decide +kernel
theorem d_R_lends_19 : decode c_R_lends 19 = .ok (.iconst 0, 1) := by decide +kernel
theorem d_R_lends_20 : decode c_R_lends 20 = .ok (.ireturn, 1) := by decide +kernel
theorem d_SL_charAt_0 : decode c_SL_charAt 0 = .ok (.iload_n 1, 1) := by decide +kernel
theorem d_SL_charAt_1 : decode c_SL_charAt 1 = .ok (.aload_n 0, 1) := by decide +kernel
theorem d_SL_charAt_2 : decode c_SL_charAt 2 = .ok (.arraylength, 1) := by decide +kernel
theorem d_SL_charAt_3 : decode c_SL_charAt 3 = .ok (.invokestatic 9, 3) := by decide +kernel
theorem d_SL_charAt_6 : decode c_SL_charAt 6 = .ok (.aload_n 0, 1) := by decide +kernel
theorem d_SL_charAt_7 : decode c_SL_charAt 7 = .ok (.iload_n 1, 1) := by decide +kernel
theorem d_SL_charAt_8 : decode c_SL_charAt 8 = .ok (.baload, 1) := by decide +kernel
theorem d_SL_charAt_9 : decode c_SL_charAt 9 = .ok (.sipush 255, 3) := by decide +kernel
theorem d_SL_charAt_12 : decode c_SL_charAt 12 = .ok (.iand, 1) := by decide +kernel
theorem d_SL_charAt_13 : decode c_SL_charAt 13 = .ok (.i2c, 1) := by decide +kernel
theorem d_SL_charAt_14 : decode c_SL_charAt 14 = .ok (.ireturn, 1) := by decide +kernel
theorem d_S_charAt_0 : decode c_S_charAt 0 = .ok (.aload_n 0, 1) := by decide +kernel
theorem d_S_charAt_1 : decode c_S_charAt 1 = .ok (.invokevirtual 492, 3) := by decide +kernel
theorem d_S_charAt_4 : decode c_S_charAt 4 = .ok (.ifCond .eq 12, 3) := by decide +kernel
theorem d_S_charAt_7 : decode c_S_charAt 7 = .ok (.aload_n 0, 1) := by decide +kernel
theorem d_S_charAt_8 : decode c_S_charAt 8 = .ok (.getfield 9, 3) := by decide +kernel
theorem d_S_charAt_11 : decode c_S_charAt 11 = .ok (.iload_n 1, 1) := by decide +kernel
theorem d_S_charAt_12 : decode c_S_charAt 12 = .ok (.invokestatic 495, 3) := by decide +kernel
theorem d_S_charAt_15 : decode c_S_charAt 15 = .ok (.ireturn, 1) := by decide +kernel
theorem d_S_checkIndex_0 : decode c_S_checkIndex 0 = .ok (.iload_n 0, 1) := by decide +kernel
theorem d_S_checkIndex_1 : decode c_S_checkIndex 1 = .ok (.iload_n 1, 1) := by decide +kernel
theorem d_S_checkIndex_2 : decode c_S_checkIndex 2 = .ok (.getstatic 1053, 3) := by decide +kernel
theorem d_S_checkIndex_5 : decode c_S_checkIndex 5 = .ok (.invokestatic 1059, 3) := by decide +kernel
theorem d_S_checkIndex_8 : decode c_S_checkIndex 8 = .ok (.pop, 1) := by decide +kernel
theorem d_S_checkIndex_9 : decode c_S_checkIndex 9 = .ok (.return_, 1) := by decide +kernel
theorem d_S_coder_0 : decode c_S_coder 0 = .ok (.getstatic 38, 3) := by decide +kernel
theorem d_S_coder_3 : decode c_S_coder 3 = .ok (.ifCond .eq 10, 3) := by decide +kernel
theorem d_S_coder_6 : decode c_S_coder 6 = .ok (.aload_n 0, 1) := by decide +kernel
theorem d_S_coder_7 : decode c_S_coder 7 = .ok (.getfield 15, 3) := by decide +kernel
theorem d_S_coder_10 : decode c_S_coder 10 = .ok (.goto 4, 3) := by decide +kernel
theorem d_S_coder_14 : decode c_S_coder 14 = .ok (.ireturn, 1) := by decide +kernel
theorem d_S_isLatin1_0 : decode c_S_isLatin1 0 = .ok (.getstatic 38, 3) := by decide +kernel
theorem d_S_isLatin1_3 : decode c_S_isLatin1 3 = .ok (.ifCond .eq 14, 3) := by decide +kernel
theorem d_S_isLatin1_6 : decode c_S_isLatin1 6 = .ok (.aload_n 0, 1) := by decide +kernel
theorem d_S_isLatin1_7 : decode c_S_isLatin1 7 = .ok (.getfield 15, 3) := by decide +kernel
theorem d_S_isLatin1_10 : decode c_S_isLatin1 10 = .ok (.ifCond .ne 7, 3) := by decide +kernel
theorem d_S_isLatin1_13 : decode c_S_isLatin1 13 = .ok (.iconst 1, 1) := by decide +kernel
theorem d_S_isLatin1_14 : decode c_S_isLatin1 14 = .ok (.goto 4, 3) := by decide +kernel
theorem d_S_isLatin1_18 : decode c_S_isLatin1 18 = .ok (.ireturn, 1) := by decide +kernel
theorem d_S_length_0 : decode c_S_length 0 = .ok (.aload_n 0, 1) := by decide +kernel
theorem d_S_length_1 : decode c_S_length 1 = .ok (.getfield 9, 3) := by decide +kernel
theorem d_S_length_4 : decode c_S_length 4 = .ok (.arraylength, 1) := by decide +kernel
theorem d_S_length_5 : decode c_S_length 5 = .ok (.aload_n 0, 1) := by decide +kernel
theorem d_S_length_6 : decode c_S_length 6 = .ok (.invokevirtual 335, 3) := by decide +kernel
theorem d_S_length_9 : decode c_S_length 9 = .ok (.ishr, 1) := by decide +kernel
theorem d_S_length_10 : decode c_S_length 10 = .ok (.ireturn, 1) := by decide +kernel
theorem d_T_collect_0 : decode c_T_collect 0 = .ok (.aload_n 0, 1) := by decide +kernel
theorem d_T_collect_1 : decode c_T_collect 1 = .ok (.getfield 15, 3) := by decide +kernel
theorem d_T_collect_4 : decode c_T_collect 4 = .ok (.aload_n 0, 1) := by decide +kernel
theorem d_T_collect_5 : decode c_T_collect 5 = .ok (.getfield 11, 3) := by decide +kernel
theorem d_T_collect_8 : decode c_T_collect 8 = .ok (.arraylength, 1) := by decide +kernel
theorem d_T_collect_9 : decode c_T_collect 9 = .ok (.if_icmp .ge 28, 3) := by decide +kernel
theorem d_T_collect_12 : decode c_T_collect 12 = .ok (.aload_n 0, 1) := by decide +kernel
theorem d_T_collect_13 : decode c_T_collect 13 = .ok (.getfield 11, 3) := by decide +kernel
theorem d_T_collect_16 : decode c_T_collect 16 = .ok (.aload_n 0, 1) := by decide +kernel
theorem d_T_collect_17 : decode c_T_collect 17 = .ok (.getfield 15, 3) := by decide +kernel
theorem d_T_collect_20 : decode c_T_collect 20 = .ok (.iload_n 1, 1) := by decide +kernel
theorem d_T_collect_21 : decode c_T_collect 21 = .ok (.sipush 255, 3) := by decide +kernel
theorem d_T_collect_24 : decode c_T_collect 24 = .ok (.iand, 1) := by decide +kernel
theorem d_T_collect_25 : decode c_T_collect 25 = .ok (.i2c, 1) := by decide +kernel
theorem d_T_collect_26 : decode c_T_collect 26 = .ok (.castore, 1) := by decide +kernel
theorem d_T_collect_27 : decode c_T_collect 27 = .ok (.aload_n 0, 1) := by decide +kernel
theorem d_T_collect_28 : decode c_T_collect 28 = .ok (.dup, 1) := by decide +kernel
theorem d_T_collect_29 : decode c_T_collect 29 = .ok (.getfield 15, 3) := by decide +kernel
theorem d_T_collect_32 : decode c_T_collect 32 = .ok (.iconst 1, 1) := by decide +kernel
theorem d_T_collect_33 : decode c_T_collect 33 = .ok (.iadd, 1) := by decide +kernel
theorem d_T_collect_34 : decode c_T_collect 34 = .ok (.putfield 15, 3) := by decide +kernel
theorem d_T_collect_37 : decode c_T_collect 37 = .ok (.return_, 1) := by decide +kernel
theorem d_T_forget_0 : decode c_T_forget 0 = .ok (.aload_n 0, 1) := by decide +kernel
theorem d_T_forget_1 : decode c_T_forget 1 = .ok (.iconst 0, 1) := by decide +kernel
theorem d_T_forget_2 : decode c_T_forget 2 = .ok (.putfield 15, 3) := by decide +kernel
theorem d_T_forget_5 : decode c_T_forget 5 = .ok (.return_, 1) := by decide +kernel
theorem d_T_init_0 : decode c_T_init 0 = .ok (.aload_n 0, 1) := by decide +kernel
theorem d_T_init_1 : decode c_T_init 1 = .ok (.invokespecial 3, 3) := by decide +kernel
theorem d_T_init_4 : decode c_T_init 4 = .ok (.aload_n 0, 1) := by decide +kernel
theorem d_T_init_5 : decode c_T_init 5 = .ok (.bipush 120, 2) := by decide +kernel
theorem d_T_init_7 : decode c_T_init 7 = .ok (.newarray .char, 2) := by decide +kernel
theorem d_T_init_9 : decode c_T_init 9 = .ok (.putfield 11, 3) := by decide +kernel
theorem d_T_init_12 : decode c_T_init 12 = .ok (.aload_n 0, 1) := by decide +kernel
theorem d_T_init_13 : decode c_T_init 13 = .ok (.iconst 0, 1) := by decide +kernel
theorem d_T_init_14 : decode c_T_init 14 = .ok (.putfield 15, 3) := by decide +kernel
theorem d_T_init_17 : decode c_T_init 17 = .ok (.aload_n 0, 1) := by decide +kernel
theorem d_T_init_18 : decode c_T_init 18 = .ok (.iconst 0, 1) := by decide +kernel
theorem d_T_init_19 : decode c_T_init 19 = .ok (.putfield 19, 3) := by decide +kernel
theorem d_T_init_22 : decode c_T_init 22 = .ok (.aload_n 0, 1) := by decide +kernel
theorem d_T_init_23 : decode c_T_init 23 = .ok (.iconst (-1), 1) := by decide +kernel
theorem d_T_init_24 : decode c_T_init 24 = .ok (.putfield 22, 3) := by decide +kernel
theorem d_T_init_27 : decode c_T_init 27 = .ok (.return_, 1) := by decide +kernel
theorem d_T_markWrong_0 : decode c_T_markWrong 0 = .ok (.aload_n 0, 1) := by decide +kernel
theorem d_T_markWrong_1 : decode c_T_markWrong 1 = .ok (.getfield 22, 3) := by decide +kernel
theorem d_T_markWrong_4 : decode c_T_markWrong 4 = .ok (.iconst (-1), 1) := by decide +kernel
theorem d_T_markWrong_5 : decode c_T_markWrong 5 = .ok (.if_icmp .ne 8, 3) := by decide +kernel
theorem d_T_markWrong_8 : decode c_T_markWrong 8 = .ok (.aload_n 0, 1) := by decide +kernel
theorem d_T_markWrong_9 : decode c_T_markWrong 9 = .ok (.iload_n 1, 1) := by decide +kernel
theorem d_T_markWrong_10 : decode c_T_markWrong 10 = .ok (.putfield 22, 3) := by decide +kernel
theorem d_T_markWrong_13 : decode c_T_markWrong 13 = .ok (.return_, 1) := by decide +kernel
theorem d_T_readCondition_0 : decode c_T_readCondition 0 = .ok (.aload_n 0, 1) := by decide +kernel
theorem d_T_readCondition_1 : decode c_T_readCondition 1 = .ok (.aload_n 1, 1) := by decide +kernel
theorem d_T_readCondition_2 : decode c_T_readCondition 2 = .ok (.invokevirtual 50, 3) := by decide +kernel
theorem d_T_readCondition_5 : decode c_T_readCondition 5 = .ok (.ifCond .ne 5, 3) := by decide +kernel
theorem d_T_readCondition_8 : decode c_T_readCondition 8 = .ok (.iconst (-1), 1) := by decide +kernel
theorem d_T_readCondition_9 : decode c_T_readCondition 9 = .ok (.ireturn, 1) := by decide +kernel
theorem d_T_readDeed_0 : decode c_T_readDeed 0 = .ok (.aload_n 0, 1) := by decide +kernel
theorem d_T_readDeed_1 : decode c_T_readDeed 1 = .ok (.ldc 61, 2) := by decide +kernel
theorem d_T_readDeed_3 : decode c_T_readDeed 3 = .ok (.invokevirtual 50, 3) := by decide +kernel
theorem d_T_readDeed_6 : decode c_T_readDeed 6 = .ok (.ifCond .eq 11, 3) := by decide +kernel
theorem d_T_readDeed_17 : decode c_T_readDeed 17 = .ok (.aload_n 0, 1) := by decide +kernel
theorem d_T_readDeed_18 : decode c_T_readDeed 18 = .ok (.ldc 66, 2) := by decide +kernel
theorem d_T_readDeed_20 : decode c_T_readDeed 20 = .ok (.invokevirtual 50, 3) := by decide +kernel
theorem d_T_readDeed_23 : decode c_T_readDeed 23 = .ok (.ifCond .eq 11, 3) := by decide +kernel
theorem d_T_readDeed_34 : decode c_T_readDeed 34 = .ok (.aload_n 0, 1) := by decide +kernel
theorem d_T_readDeed_35 : decode c_T_readDeed 35 = .ok (.ldc 71, 2) := by decide +kernel
theorem d_T_readDeed_37 : decode c_T_readDeed 37 = .ok (.invokevirtual 50, 3) := by decide +kernel
theorem d_T_readDeed_40 : decode c_T_readDeed 40 = .ok (.ifCond .eq 11, 3) := by decide +kernel
theorem d_T_readDeed_51 : decode c_T_readDeed 51 = .ok (.aload_n 0, 1) := by decide +kernel
theorem d_T_readDeed_52 : decode c_T_readDeed 52 = .ok (.aload_n 0, 1) := by decide +kernel
theorem d_T_readDeed_53 : decode c_T_readDeed 53 = .ok (.getfield 19, 3) := by decide +kernel
theorem d_T_readDeed_56 : decode c_T_readDeed 56 = .ok (.invokevirtual 73, 3) := by decide +kernel
theorem d_T_readDeed_59 : decode c_T_readDeed 59 = .ok (.return_, 1) := by decide +kernel
theorem d_T_readInto_0 : decode c_T_readInto 0 = .ok (.aload_n 0, 1) := by decide +kernel
theorem d_T_readInto_1 : decode c_T_readInto 1 = .ok (.iconst 0, 1) := by decide +kernel
theorem d_T_readInto_2 : decode c_T_readInto 2 = .ok (.putfield 19, 3) := by decide +kernel
theorem d_T_readInto_5 : decode c_T_readInto 5 = .ok (.aload_n 0, 1) := by decide +kernel
theorem d_T_readInto_6 : decode c_T_readInto 6 = .ok (.iconst (-1), 1) := by decide +kernel
theorem d_T_readInto_7 : decode c_T_readInto 7 = .ok (.putfield 22, 3) := by decide +kernel
theorem d_T_readInto_10 : decode c_T_readInto 10 = .ok (.aload_n 1, 1) := by decide +kernel
theorem d_T_readInto_11 : decode c_T_readInto 11 = .ok (.aload_n 0, 1) := by decide +kernel
theorem d_T_readInto_12 : decode c_T_readInto 12 = .ok (.ldc 25, 2) := by decide +kernel
theorem d_T_readInto_14 : decode c_T_readInto 14 = .ok (.iconst 1, 1) := by decide +kernel
theorem d_T_readInto_15 : decode c_T_readInto 15 = .ok (.bipush 9, 2) := by decide +kernel
theorem d_T_readInto_17 : decode c_T_readInto 17 = .ok (.invokevirtual 27, 3) := by decide +kernel
theorem d_T_readInto_20 : decode c_T_readInto 20 = .ok (.putfield 31, 3) := by decide +kernel
theorem d_T_readInto_23 : decode c_T_readInto 23 = .ok (.aload_n 1, 1) := by decide +kernel
theorem d_T_readInto_24 : decode c_T_readInto 24 = .ok (.aload_n 0, 1) := by decide +kernel
theorem d_T_readInto_25 : decode c_T_readInto 25 = .ok (.ldc 35, 2) := by decide +kernel
theorem d_T_readInto_27 : decode c_T_readInto 27 = .ok (.iconst 1, 1) := by decide +kernel
theorem d_T_readInto_28 : decode c_T_readInto 28 = .ok (.bipush 9, 2) := by decide +kernel
theorem d_T_readInto_30 : decode c_T_readInto 30 = .ok (.invokevirtual 27, 3) := by decide +kernel
theorem d_T_readInto_33 : decode c_T_readInto 33 = .ok (.putfield 37, 3) := by decide +kernel
theorem d_T_readInto_36 : decode c_T_readInto 36 = .ok (.aload_n 1, 1) := by decide +kernel
theorem d_T_readInto_37 : decode c_T_readInto 37 = .ok (.aload_n 0, 1) := by decide +kernel
theorem d_T_readInto_38 : decode c_T_readInto 38 = .ok (.ldc 39, 2) := by decide +kernel
theorem d_T_readInto_40 : decode c_T_readInto 40 = .ok (.iconst 2, 1) := by decide +kernel
theorem d_T_readInto_41 : decode c_T_readInto 41 = .ok (.bipush 49, 2) := by decide +kernel
theorem d_T_readInto_43 : decode c_T_readInto 43 = .ok (.invokevirtual 27, 3) := by decide +kernel
theorem d_T_readInto_46 : decode c_T_readInto 46 = .ok (.putfield 41, 3) := by decide +kernel
theorem d_T_readInto_49 : decode c_T_readInto 49 = .ok (.aload_n 0, 1) := by decide +kernel
theorem d_T_readInto_50 : decode c_T_readInto 50 = .ok (.aload_n 1, 1) := by decide +kernel
theorem d_T_readInto_51 : decode c_T_readInto 51 = .ok (.invokevirtual 43, 3) := by decide +kernel
theorem d_T_readInto_54 : decode c_T_readInto 54 = .ok (.aload_n 0, 1) := by decide +kernel
theorem d_T_readInto_55 : decode c_T_readInto 55 = .ok (.aload_n 1, 1) := by decide +kernel
theorem d_T_readInto_56 : decode c_T_readInto 56 = .ok (.invokevirtual 47, 3) := by decide +kernel
theorem d_T_readInto_59 : decode c_T_readInto 59 = .ok (.aload_n 0, 1) := by decide +kernel
theorem d_T_readInto_60 : decode c_T_readInto 60 = .ok (.getfield 22, 3) := by decide +kernel
theorem d_T_readInto_63 : decode c_T_readInto 63 = .ok (.ireturn, 1) := by decide +kernel
theorem d_T_readOption_0 : decode c_T_readOption 0 = .ok (.aload_n 0, 1) := by decide +kernel
theorem d_T_readOption_1 : decode c_T_readOption 1 = .ok (.aload_n 1, 1) := by decide +kernel
theorem d_T_readOption_2 : decode c_T_readOption 2 = .ok (.invokevirtual 79, 3) := by decide +kernel
theorem d_T_readOption_5 : decode c_T_readOption 5 = .ok (.ifCond .eq 14, 3) := by decide +kernel
theorem d_T_readOption_19 : decode c_T_readOption 19 = .ok (.iload_n 2, 1) := by decide +kernel
theorem d_T_readOption_20 : decode c_T_readOption 20 = .ok (.ireturn, 1) := by decide +kernel
theorem d_T_readRest_0 : decode c_T_readRest 0 = .ok (.aload_n 1, 1) := by decide +kernel
theorem d_T_readRest_1 : decode c_T_readRest 1 = .ok (.invokevirtual 85, 3) := by decide +kernel
theorem d_T_readRest_4 : decode c_T_readRest 4 = .ok (.ifCond .eq 45, 3) := by decide +kernel
theorem d_T_readRest_49 : decode c_T_readRest 49 = .ok (.aload_n 1, 1) := by decide +kernel
theorem d_T_readRest_50 : decode c_T_readRest 50 = .ok (.aload_n 0, 1) := by decide +kernel
theorem d_T_readRest_51 : decode c_T_readRest 51 = .ok (.ldc 107, 2) := by decide +kernel
theorem d_T_readRest_53 : decode c_T_readRest 53 = .ok (.aload_n 1, 1) := by decide +kernel
theorem d_T_readRest_54 : decode c_T_readRest 54 = .ok (.getfield 109, 3) := by decide +kernel
theorem d_T_readRest_57 : decode c_T_readRest 57 = .ok (.invokevirtual 94, 3) := by decide +kernel
theorem d_T_readRest_60 : decode c_T_readRest 60 = .ok (.putfield 109, 3) := by decide +kernel
theorem d_T_readRest_63 : decode c_T_readRest 63 = .ok (.aload_n 0, 1) := by decide +kernel
theorem d_T_readRest_64 : decode c_T_readRest 64 = .ok (.aload_n 0, 1) := by decide +kernel
theorem d_T_readRest_65 : decode c_T_readRest 65 = .ok (.getfield 19, 3) := by decide +kernel
theorem d_T_readRest_68 : decode c_T_readRest 68 = .ok (.invokevirtual 111, 3) := by decide +kernel
theorem d_T_readRest_71 : decode c_T_readRest 71 = .ok (.iconst (-1), 1) := by decide +kernel
theorem d_T_readRest_72 : decode c_T_readRest 72 = .ok (.if_icmp .eq 15, 3) := by decide +kernel
theorem d_T_readRest_87 : decode c_T_readRest 87 = .ok (.return_, 1) := by decide +kernel
theorem d_T_signAt_0 : decode c_T_signAt 0 = .ok (.iload_n 1, 1) := by decide +kernel
theorem d_T_signAt_1 : decode c_T_signAt 1 = .ok (.ifCond .lt 29, 3) := by decide +kernel
theorem d_T_signAt_4 : decode c_T_signAt 4 = .ok (.iload_n 1, 1) := by decide +kernel
theorem d_T_signAt_5 : decode c_T_signAt 5 = .ok (.aload_n 0, 1) := by decide +kernel
theorem d_T_signAt_6 : decode c_T_signAt 6 = .ok (.getfield 15, 3) := by decide +kernel
theorem d_T_signAt_9 : decode c_T_signAt 9 = .ok (.if_icmp .ge 21, 3) := by decide +kernel
theorem d_T_signAt_30 : decode c_T_signAt 30 = .ok (.iconst (-1), 1) := by decide +kernel
theorem d_T_signAt_31 : decode c_T_signAt 31 = .ok (.ireturn, 1) := by decide +kernel
theorem d_T_takesWord_0 : decode c_T_takesWord 0 = .ok (.iconst 0, 1) := by decide +kernel
theorem d_T_takesWord_1 : decode c_T_takesWord 1 = .ok (.istore_n 2, 1) := by decide +kernel
theorem d_T_takesWord_2 : decode c_T_takesWord 2 = .ok (.iload_n 2, 1) := by decide +kernel
theorem d_T_takesWord_3 : decode c_T_takesWord 3 = .ok (.aload_n 1, 1) := by decide +kernel
theorem d_T_takesWord_4 : decode c_T_takesWord 4 = .ok (.invokevirtual 115, 3) := by decide +kernel
theorem d_T_takesWord_7 : decode c_T_takesWord 7 = .ok (.if_icmp .ge 29, 3) := by decide +kernel
theorem d_T_takesWord_10 : decode c_T_takesWord 10 = .ok (.aload_n 0, 1) := by decide +kernel
theorem d_T_takesWord_11 : decode c_T_takesWord 11 = .ok (.aload_n 0, 1) := by decide +kernel
theorem d_T_takesWord_12 : decode c_T_takesWord 12 = .ok (.getfield 19, 3) := by decide +kernel
theorem d_T_takesWord_15 : decode c_T_takesWord 15 = .ok (.iload_n 2, 1) := by decide +kernel
theorem d_T_takesWord_16 : decode c_T_takesWord 16 = .ok (.iadd, 1) := by decide +kernel
theorem d_T_takesWord_17 : decode c_T_takesWord 17 = .ok (.invokevirtual 111, 3) := by decide +kernel
theorem d_T_takesWord_20 : decode c_T_takesWord 20 = .ok (.aload_n 1, 1) := by decide +kernel
theorem d_T_takesWord_21 : decode c_T_takesWord 21 = .ok (.iload_n 2, 1) := by decide +kernel
theorem d_T_takesWord_22 : decode c_T_takesWord 22 = .ok (.invokevirtual 120, 3) := by decide +kernel
theorem d_T_takesWord_25 : decode c_T_takesWord 25 = .ok (.if_icmp .eq 5, 3) := by decide +kernel
theorem d_T_takesWord_28 : decode c_T_takesWord 28 = .ok (.iconst 0, 1) := by decide +kernel
theorem d_T_takesWord_29 : decode c_T_takesWord 29 = .ok (.ireturn, 1) := by decide +kernel
theorem d_T_takesWordBehindSpace_0 : decode c_T_takesWordBehindSpace 0 = .ok (.aload_n 0, 1) := by decide +kernel
theorem d_T_takesWordBehindSpace_1 : decode c_T_takesWordBehindSpace 1 = .ok (.aload_n 0, 1) := by decide +kernel
theorem d_T_takesWordBehindSpace_2 : decode c_T_takesWordBehindSpace 2 = .ok (.getfield 19, 3) := by decide +kernel
theorem d_T_takesWordBehindSpace_5 : decode c_T_takesWordBehindSpace 5 = .ok (.invokevirtual 111, 3) := by decide +kernel
theorem d_T_takesWordBehindSpace_8 : decode c_T_takesWordBehindSpace 8 = .ok (.bipush 32, 2) := by decide +kernel
theorem d_T_takesWordBehindSpace_10 : decode c_T_takesWordBehindSpace 10 = .ok (.if_icmp .eq 5, 3) := by decide +kernel
theorem d_T_takesWordBehindSpace_13 : decode c_T_takesWordBehindSpace 13 = .ok (.iconst 0, 1) := by decide +kernel
theorem d_T_takesWordBehindSpace_14 : decode c_T_takesWordBehindSpace 14 = .ok (.ireturn, 1) := by decide +kernel
