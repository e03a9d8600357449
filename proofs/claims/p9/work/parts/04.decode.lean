theorem d_AR_fill_0 : decode c_AR_fill 0 = .ok (.iconst 0, 1) := by decide +kernel
theorem d_AR_fill_1 : decode c_AR_fill 1 = .ok (.istore_n 2, 1) := by decide +kernel
theorem d_AR_fill_2 : decode c_AR_fill 2 = .ok (.aload_n 0, 1) := by decide +kernel
theorem d_AR_fill_3 : decode c_AR_fill 3 = .ok (.arraylength, 1) := by decide +kernel
theorem d_AR_fill_4 : decode c_AR_fill 4 = .ok (.istore_n 3, 1) := by decide +kernel
theorem d_AR_fill_5 : decode c_AR_fill 5 = .ok (.iload_n 2, 1) := by decide +kernel
theorem d_AR_fill_6 : decode c_AR_fill 6 = .ok (.iload_n 3, 1) := by decide +kernel
theorem d_AR_fill_7 : decode c_AR_fill 7 = .ok (.if_icmp .ge 13, 3) := by decide +kernel
theorem d_AR_fill_10 : decode c_AR_fill 10 = .ok (.aload_n 0, 1) := by decide +kernel
theorem d_AR_fill_11 : decode c_AR_fill 11 = .ok (.iload_n 2, 1) := by decide +kernel
theorem d_AR_fill_12 : decode c_AR_fill 12 = .ok (.iload_n 1, 1) := by decide +kernel
theorem d_AR_fill_13 : decode c_AR_fill 13 = .ok (.iastore, 1) := by decide +kernel
theorem d_AR_fill_14 : decode c_AR_fill 14 = .ok (.iinc 2 1, 3) := by decide +kernel
theorem d_AR_fill_17 : decode c_AR_fill 17 = .ok (.goto (-12), 3) := by decide +kernel
theorem d_AR_fill_20 : decode c_AR_fill 20 = .ok (.return_, 1) := by decide +kernel
theorem d_C_addLoan_0 : decode c_C_addLoan 0 = .ok (.aload_n 0, 1) := by decide +kernel
theorem d_C_addLoan_1 : decode c_C_addLoan 1 = .ok (.getfield 59, 3) := by decide +kernel
theorem d_C_addLoan_4 : decode c_C_addLoan 4 = .ok (.aload_n 0, 1) := by decide +kernel
theorem d_C_addLoan_5 : decode c_C_addLoan 5 = .ok (.getfield 55, 3) := by decide +kernel
theorem d_C_addLoan_8 : decode c_C_addLoan 8 = .ok (.arraylength, 1) := by decide +kernel
theorem d_C_addLoan_9 : decode c_C_addLoan 9 = .ok (.if_icmp .ge 13, 3) := by decide +kernel
theorem d_C_addLoan_12 : decode c_C_addLoan 12 = .ok (.aload_n 1, 1) := by decide +kernel
theorem d_C_addLoan_13 : decode c_C_addLoan 13 = .ok (.getfield 204, 3) := by decide +kernel
theorem d_C_addLoan_16 : decode c_C_addLoan 16 = .ok (.invokestatic 106, 3) := by decide +kernel
theorem d_C_addLoan_19 : decode c_C_addLoan 19 = .ok (.ifCond .ne 5, 3) := by decide +kernel
theorem d_C_addLoan_24 : decode c_C_addLoan 24 = .ok (.aload_n 0, 1) := by decide +kernel
theorem d_C_addLoan_25 : decode c_C_addLoan 25 = .ok (.getfield 55, 3) := by decide +kernel
theorem d_C_addLoan_28 : decode c_C_addLoan 28 = .ok (.aload_n 0, 1) := by decide +kernel
theorem d_C_addLoan_29 : decode c_C_addLoan 29 = .ok (.getfield 59, 3) := by decide +kernel
theorem d_C_addLoan_32 : decode c_C_addLoan 32 = .ok (.aload_n 1, 1) := by decide +kernel
theorem d_C_addLoan_33 : decode c_C_addLoan 33 = .ok (.aastore, 1) := by decide +kernel
theorem d_C_addLoan_34 : decode c_C_addLoan 34 = .ok (.aload_n 0, 1) := by decide +kernel
theorem d_C_addLoan_35 : decode c_C_addLoan 35 = .ok (.dup, 1) := by decide +kernel
theorem d_C_addLoan_36 : decode c_C_addLoan 36 = .ok (.getfield 59, 3) := by decide +kernel
theorem d_C_addLoan_39 : decode c_C_addLoan 39 = .ok (.iconst 1, 1) := by decide +kernel
theorem d_C_addLoan_40 : decode c_C_addLoan 40 = .ok (.iadd, 1) := by decide +kernel
theorem d_C_addLoan_41 : decode c_C_addLoan 41 = .ok (.putfield 59, 3) := by decide +kernel
theorem d_C_addLoan_44 : decode c_C_addLoan 44 = .ok (.aload_n 0, 1) := by decide +kernel
theorem d_C_addLoan_45 : decode c_C_addLoan 45 = .ok (.getfield 46, 3) := by decide +kernel
theorem d_C_addLoan_48 : decode c_C_addLoan 48 = .ok (.aload_n 1, 1) := by decide +kernel
theorem d_C_addLoan_49 : decode c_C_addLoan 49 = .ok (.getfield 204, 3) := by decide +kernel
theorem d_C_addLoan_52 : decode c_C_addLoan 52 = .ok (.iconst 1, 1) := by decide +kernel
theorem d_C_addLoan_53 : decode c_C_addLoan 53 = .ok (.bastore, 1) := by decide +kernel
theorem d_C_addLoan_54 : decode c_C_addLoan 54 = .ok (.aload_n 0, 1) := by decide +kernel
theorem d_C_addLoan_55 : decode c_C_addLoan 55 = .ok (.getfield 59, 3) := by decide +kernel
theorem d_C_addLoan_58 : decode c_C_addLoan 58 = .ok (.ireturn, 1) := by decide +kernel
theorem d_C_back_0 : decode c_C_back 0 = .ok (.aload_n 0, 1) := by decide +kernel
theorem d_C_back_1 : decode c_C_back 1 = .ok (.iload_n 1, 1) := by decide +kernel
theorem d_C_back_2 : decode c_C_back 2 = .ok (.invokevirtual 156, 3) := by decide +kernel
theorem d_C_back_5 : decode c_C_back 5 = .ok (.astore_n 2, 1) := by decide +kernel
theorem d_C_back_6 : decode c_C_back 6 = .ok (.aload_n 2, 1) := by decide +kernel
theorem d_C_back_7 : decode c_C_back 7 = .ok (.ifnonnull 5, 3) := by decide +kernel
theorem d_C_back_10 : decode c_C_back 10 = .ok (.iconst 0, 1) := by decide +kernel
theorem d_C_back_11 : decode c_C_back 11 = .ok (.ireturn, 1) := by decide +kernel
theorem d_C_back_12 : decode c_C_back 12 = .ok (.aload_n 2, 1) := by decide +kernel
theorem d_C_back_13 : decode c_C_back 13 = .ok (.iconst 1, 1) := by decide +kernel
theorem d_C_back_14 : decode c_C_back 14 = .ok (.putfield 201, 3) := by decide +kernel
theorem d_C_back_17 : decode c_C_back 17 = .ok (.aload_n 2, 1) := by decide +kernel
theorem d_C_back_18 : decode c_C_back 18 = .ok (.getfield 204, 3) := by decide +kernel
theorem d_C_back_21 : decode c_C_back 21 = .ok (.invokestatic 106, 3) := by decide +kernel
theorem d_C_back_24 : decode c_C_back 24 = .ok (.ifCond .eq 13, 3) := by decide +kernel
theorem d_C_back_27 : decode c_C_back 27 = .ok (.aload_n 0, 1) := by decide +kernel
theorem d_C_back_28 : decode c_C_back 28 = .ok (.getfield 46, 3) := by decide +kernel
theorem d_C_back_31 : decode c_C_back 31 = .ok (.aload_n 2, 1) := by decide +kernel
theorem d_C_back_32 : decode c_C_back 32 = .ok (.getfield 204, 3) := by decide +kernel
theorem d_C_back_35 : decode c_C_back 35 = .ok (.iconst 0, 1) := by decide +kernel
theorem d_C_back_36 : decode c_C_back 36 = .ok (.bastore, 1) := by decide +kernel
theorem d_C_back_37 : decode c_C_back 37 = .ok (.iconst 1, 1) := by decide +kernel
theorem d_C_back_38 : decode c_C_back 38 = .ok (.ireturn, 1) := by decide +kernel
theorem d_C_block_0 : decode c_C_block 0 = .ok (.iload_n 1, 1) := by decide +kernel
theorem d_C_block_1 : decode c_C_block 1 = .ok (.invokestatic 103, 3) := by decide +kernel
theorem d_C_block_4 : decode c_C_block 4 = .ok (.ifCond .eq 13, 3) := by decide +kernel
theorem d_C_block_7 : decode c_C_block 7 = .ok (.iload_n 2, 1) := by decide +kernel
theorem d_C_block_8 : decode c_C_block 8 = .ok (.ifCond .lt 9, 3) := by decide +kernel
theorem d_C_block_11 : decode c_C_block 11 = .ok (.iload_n 2, 1) := by decide +kernel
theorem d_C_block_12 : decode c_C_block 12 = .ok (.bipush 9, 2) := by decide +kernel
theorem d_C_block_14 : decode c_C_block 14 = .ok (.if_icmp .le 5, 3) := by decide +kernel
theorem d_C_block_17 : decode c_C_block 17 = .ok (.iconst (-1), 1) := by decide +kernel
theorem d_C_block_18 : decode c_C_block 18 = .ok (.ireturn, 1) := by decide +kernel
theorem d_C_block_19 : decode c_C_block 19 = .ok (.aload_n 0, 1) := by decide +kernel
theorem d_C_block_20 : decode c_C_block 20 = .ok (.getfield 40, 3) := by decide +kernel
theorem d_C_block_23 : decode c_C_block 23 = .ok (.iload_n 1, 1) := by decide +kernel
theorem d_C_block_24 : decode c_C_block 24 = .ok (.iaload, 1) := by decide +kernel
theorem d_C_block_25 : decode c_C_block 25 = .ok (.istore_n 3, 1) := by decide +kernel
theorem d_C_block_26 : decode c_C_block 26 = .ok (.aload_n 0, 1) := by decide +kernel
theorem d_C_block_27 : decode c_C_block 27 = .ok (.getfield 40, 3) := by decide +kernel
theorem d_C_block_30 : decode c_C_block 30 = .ok (.iload_n 1, 1) := by decide +kernel
theorem d_C_block_31 : decode c_C_block 31 = .ok (.iload_n 2, 1) := by decide +kernel
theorem d_C_block_32 : decode c_C_block 32 = .ok (.iastore, 1) := by decide +kernel
theorem d_C_block_33 : decode c_C_block 33 = .ok (.iload_n 3, 1) := by decide +kernel
theorem d_C_block_34 : decode c_C_block 34 = .ok (.ireturn, 1) := by decide +kernel
theorem d_C_causeOf_0 : decode c_C_causeOf 0 = .ok (.iload_n 1, 1) := by decide +kernel
theorem d_C_causeOf_1 : decode c_C_causeOf 1 = .ok (.invokestatic 103, 3) := by decide +kernel
theorem d_C_causeOf_4 : decode c_C_causeOf 4 = .ok (.ifCond .eq 12, 3) := by decide +kernel
theorem d_C_causeOf_7 : decode c_C_causeOf 7 = .ok (.aload_n 0, 1) := by decide +kernel
theorem d_C_causeOf_8 : decode c_C_causeOf 8 = .ok (.getfield 40, 3) := by decide +kernel
theorem d_C_causeOf_11 : decode c_C_causeOf 11 = .ok (.iload_n 1, 1) := by decide +kernel
theorem d_C_causeOf_12 : decode c_C_causeOf 12 = .ok (.iaload, 1) := by decide +kernel
theorem d_C_causeOf_13 : decode c_C_causeOf 13 = .ok (.goto 4, 3) := by decide +kernel
theorem d_C_causeOf_16 : decode c_C_causeOf 16 = .ok (.iconst 0, 1) := by decide +kernel
theorem d_C_causeOf_17 : decode c_C_causeOf 17 = .ok (.ireturn, 1) := by decide +kernel
theorem d_C_clash_0 : decode c_C_clash 0 = .ok (.iload_n 1, 1) := by decide +kernel
theorem d_C_clash_1 : decode c_C_clash 1 = .ok (.ifCond .lt 20, 3) := by decide +kernel
theorem d_C_clash_4 : decode c_C_clash 4 = .ok (.iload_n 1, 1) := by decide +kernel
theorem d_C_clash_5 : decode c_C_clash 5 = .ok (.aload_n 0, 1) := by decide +kernel
theorem d_C_clash_6 : decode c_C_clash 6 = .ok (.getfield 71, 3) := by decide +kernel
theorem d_C_clash_9 : decode c_C_clash 9 = .ok (.if_icmp .ge 12, 3) := by decide +kernel
theorem d_C_clash_12 : decode c_C_clash 12 = .ok (.iload_n 1, 1) := by decide +kernel
theorem d_C_clash_13 : decode c_C_clash 13 = .ok (.aload_n 0, 1) := by decide +kernel
theorem d_C_clash_14 : decode c_C_clash 14 = .ok (.getfield 68, 3) := by decide +kernel
theorem d_C_clash_17 : decode c_C_clash 17 = .ok (.arraylength, 1) := by decide +kernel
theorem d_C_clash_18 : decode c_C_clash 18 = .ok (.if_icmp .lt 5, 3) := by decide +kernel
theorem d_C_clash_21 : decode c_C_clash 21 = .ok (.iconst (-1), 1) := by decide +kernel
theorem d_C_clash_22 : decode c_C_clash 22 = .ok (.ireturn, 1) := by decide +kernel
theorem d_C_clash_23 : decode c_C_clash 23 = .ok (.iload_n 2, 1) := by decide +kernel
theorem d_C_clash_24 : decode c_C_clash 24 = .ok (.ifCond .ne 13, 3) := by decide +kernel
theorem d_C_clash_27 : decode c_C_clash 27 = .ok (.aload_n 0, 1) := by decide +kernel
theorem d_C_clash_28 : decode c_C_clash 28 = .ok (.getfield 68, 3) := by decide +kernel
theorem d_C_clash_31 : decode c_C_clash 31 = .ok (.iload_n 1, 1) := by decide +kernel
theorem d_C_clash_32 : decode c_C_clash 32 = .ok (.iaload, 1) := by decide +kernel
theorem d_C_clash_33 : decode c_C_clash 33 = .ok (.bipush 40, 2) := by decide +kernel
theorem d_C_clash_35 : decode c_C_clash 35 = .ok (.idiv, 1) := by decide +kernel
theorem d_C_clash_36 : decode c_C_clash 36 = .ok (.ireturn, 1) := by decide +kernel
theorem d_C_clash_37 : decode c_C_clash 37 = .ok (.iload_n 2, 1) := by decide +kernel
theorem d_C_clash_38 : decode c_C_clash 38 = .ok (.iconst 1, 1) := by decide +kernel
theorem d_C_clash_39 : decode c_C_clash 39 = .ok (.if_icmp .ne 15, 3) := by decide +kernel
theorem d_C_clash_42 : decode c_C_clash 42 = .ok (.aload_n 0, 1) := by decide +kernel
theorem d_C_clash_43 : decode c_C_clash 43 = .ok (.getfield 68, 3) := by decide +kernel
theorem d_C_clash_46 : decode c_C_clash 46 = .ok (.iload_n 1, 1) := by decide +kernel
theorem d_C_clash_47 : decode c_C_clash 47 = .ok (.iaload, 1) := by decide +kernel
theorem d_C_clash_48 : decode c_C_clash 48 = .ok (.bipush 40, 2) := by decide +kernel
theorem d_C_clash_50 : decode c_C_clash 50 = .ok (.irem, 1) := by decide +kernel
theorem d_C_clash_51 : decode c_C_clash 51 = .ok (.goto 4, 3) := by decide +kernel
theorem d_C_clash_54 : decode c_C_clash 54 = .ok (.iconst (-1), 1) := by decide +kernel
theorem d_C_clash_55 : decode c_C_clash 55 = .ok (.ireturn, 1) := by decide +kernel
theorem d_C_closed_0 : decode c_C_closed 0 = .ok (.iload_n 1, 1) := by decide +kernel
theorem d_C_closed_1 : decode c_C_closed 1 = .ok (.invokestatic 92, 3) := by decide +kernel
theorem d_C_closed_4 : decode c_C_closed 4 = .ok (.ifCond .ne 5, 3) := by decide +kernel
theorem d_C_closed_7 : decode c_C_closed 7 = .ok (.iconst 0, 1) := by decide +kernel
theorem d_C_closed_8 : decode c_C_closed 8 = .ok (.ireturn, 1) := by decide +kernel
theorem d_C_closed_9 : decode c_C_closed 9 = .ok (.aload_n 0, 1) := by decide +kernel
theorem d_C_closed_10 : decode c_C_closed 10 = .ok (.getfield 29, 3) := by decide +kernel
theorem d_C_closed_13 : decode c_C_closed 13 = .ok (.iload_n 1, 1) := by decide +kernel
theorem d_C_closed_14 : decode c_C_closed 14 = .ok (.invokevirtual 96, 3) := by decide +kernel
theorem d_C_closed_17 : decode c_C_closed 17 = .ok (.istore_n 3, 1) := by decide +kernel
theorem d_C_closed_18 : decode c_C_closed 18 = .ok (.aload_n 0, 1) := by decide +kernel
theorem d_C_closed_19 : decode c_C_closed 19 = .ok (.getfield 29, 3) := by decide +kernel
theorem d_C_closed_22 : decode c_C_closed 22 = .ok (.iload_n 1, 1) := by decide +kernel
theorem d_C_closed_23 : decode c_C_closed 23 = .ok (.iload_n 2, 1) := by decide +kernel
theorem d_C_closed_24 : decode c_C_closed 24 = .ok (.invokevirtual 99, 3) := by decide +kernel
theorem d_C_closed_27 : decode c_C_closed 27 = .ok (.iload_n 3, 1) := by decide +kernel
theorem d_C_closed_28 : decode c_C_closed 28 = .ok (.ireturn, 1) := by decide +kernel
theorem d_C_due_0 : decode c_C_due 0 = .ok (.aload_n 0, 1) := by decide +kernel
theorem d_C_due_1 : decode c_C_due 1 = .ok (.iload_n 1, 1) := by decide +kernel
theorem d_C_due_2 : decode c_C_due 2 = .ok (.invokevirtual 156, 3) := by decide +kernel
theorem d_C_due_5 : decode c_C_due 5 = .ok (.astore_n 2, 1) := by decide +kernel
theorem d_C_due_6 : decode c_C_due 6 = .ok (.aload_n 2, 1) := by decide +kernel
theorem d_C_due_7 : decode c_C_due 7 = .ok (.ifnonnull 7, 3) := by decide +kernel
theorem d_C_due_10 : decode c_C_due 10 = .ok (.iconst (-1), 1) := by decide +kernel
theorem d_C_due_11 : decode c_C_due 11 = .ok (.goto 7, 3) := by decide +kernel
theorem d_C_due_14 : decode c_C_due 14 = .ok (.aload_n 2, 1) := by decide +kernel
theorem d_C_due_15 : decode c_C_due 15 = .ok (.getfield 160, 3) := by decide +kernel
theorem d_C_due_18 : decode c_C_due 18 = .ok (.ireturn, 1) := by decide +kernel
theorem d_C_dueDayByRule_0 : decode c_C_dueDayByRule 0 = .ok (.aload_n 1, 1) := by decide +kernel
theorem d_C_dueDayByRule_1 : decode c_C_dueDayByRule 1 = .ok (.getfield 128, 3) := by decide +kernel
theorem d_C_dueDayByRule_4 : decode c_C_dueDayByRule 4 = .ok (.ifCond .ne 14, 3) := by decide +kernel
theorem d_C_dueDayByRule_7 : decode c_C_dueDayByRule 7 = .ok (.aload_n 0, 1) := by decide +kernel
theorem d_C_dueDayByRule_8 : decode c_C_dueDayByRule 8 = .ok (.iload_n 2, 1) := by decide +kernel
theorem d_C_dueDayByRule_9 : decode c_C_dueDayByRule 9 = .ok (.aload_n 1, 1) := by decide +kernel
theorem d_C_dueDayByRule_10 : decode c_C_dueDayByRule 10 = .ok (.getfield 232, 3) := by decide +kernel
theorem d_C_dueDayByRule_13 : decode c_C_dueDayByRule 13 = .ok (.iadd, 1) := by decide +kernel
theorem d_C_dueDayByRule_14 : decode c_C_dueDayByRule 14 = .ok (.invokevirtual 195, 3) := by decide +kernel
theorem d_C_dueDayByRule_17 : decode c_C_dueDayByRule 17 = .ok (.ireturn, 1) := by decide +kernel
theorem d_C_dueDayByRule_18 : decode c_C_dueDayByRule 18 = .ok (.aload_n 0, 1) := by decide +kernel
theorem d_C_dueDayByRule_19 : decode c_C_dueDayByRule 19 = .ok (.getfield 33, 3) := by decide +kernel
theorem d_C_dueDayByRule_22 : decode c_C_dueDayByRule 22 = .ok (.iload_n 2, 1) := by decide +kernel
theorem d_C_dueDayByRule_23 : decode c_C_dueDayByRule 23 = .ok (.iconst 1, 1) := by decide +kernel
theorem d_C_dueDayByRule_24 : decode c_C_dueDayByRule 24 = .ok (.invokevirtual 235, 3) := by decide +kernel
theorem d_C_dueDayByRule_27 : decode c_C_dueDayByRule 27 = .ok (.istore_n 3, 1) := by decide +kernel
theorem d_C_dueDayByRule_28 : decode c_C_dueDayByRule 28 = .ok (.iload_n 3, 1) := by decide +kernel
theorem d_C_dueDayByRule_29 : decode c_C_dueDayByRule 29 = .ok (.iconst (-1), 1) := by decide +kernel
theorem d_C_dueDayByRule_30 : decode c_C_dueDayByRule 30 = .ok (.if_icmp .ne 7, 3) := by decide +kernel
theorem d_C_dueDayByRule_33 : decode c_C_dueDayByRule 33 = .ok (.iconst (-1), 1) := by decide +kernel
theorem d_C_dueDayByRule_34 : decode c_C_dueDayByRule 34 = .ok (.goto 8, 3) := by decide +kernel
theorem d_C_dueDayByRule_37 : decode c_C_dueDayByRule 37 = .ok (.aload_n 0, 1) := by decide +kernel
theorem d_C_dueDayByRule_38 : decode c_C_dueDayByRule 38 = .ok (.iload_n 3, 1) := by decide +kernel
theorem d_C_dueDayByRule_39 : decode c_C_dueDayByRule 39 = .ok (.invokevirtual 195, 3) := by decide +kernel
theorem d_C_dueDayByRule_42 : decode c_C_dueDayByRule 42 = .ok (.ireturn, 1) := by decide +kernel
theorem d_C_except_0 : decode c_C_except 0 = .ok (.iload_n 1, 1) := by decide +kernel
theorem d_C_except_1 : decode c_C_except 1 = .ok (.invokestatic 103, 3) := by decide +kernel
theorem d_C_except_4 : decode c_C_except 4 = .ok (.ifCond .eq 11, 3) := by decide +kernel
theorem d_C_except_7 : decode c_C_except 7 = .ok (.aload_n 0, 1) := by decide +kernel
theorem d_C_except_8 : decode c_C_except 8 = .ok (.iload_n 2, 1) := by decide +kernel
theorem d_C_except_9 : decode c_C_except 9 = .ok (.invokevirtual 117, 3) := by decide +kernel
theorem d_C_except_12 : decode c_C_except 12 = .ok (.ifnonnull 5, 3) := by decide +kernel
theorem d_C_except_15 : decode c_C_except 15 = .ok (.iconst 0, 1) := by decide +kernel
theorem d_C_except_16 : decode c_C_except 16 = .ok (.ireturn, 1) := by decide +kernel
theorem d_C_except_17 : decode c_C_except 17 = .ok (.aload_n 0, 1) := by decide +kernel
theorem d_C_except_18 : decode c_C_except 18 = .ok (.getfield 50, 3) := by decide +kernel
theorem d_C_except_21 : decode c_C_except 21 = .ok (.iload_n 1, 1) := by decide +kernel
theorem d_C_except_22 : decode c_C_except 22 = .ok (.bipush 40, 2) := by decide +kernel
theorem d_C_except_24 : decode c_C_except 24 = .ok (.imul, 1) := by decide +kernel
theorem d_C_except_25 : decode c_C_except 25 = .ok (.iload_n 2, 1) := by decide +kernel
theorem d_C_except_26 : decode c_C_except 26 = .ok (.iadd, 1) := by decide +kernel
theorem d_C_except_27 : decode c_C_except 27 = .ok (.iload_n 3, 1) := by decide +kernel
theorem d_C_except_28 : decode c_C_except 28 = .ok (.iastore, 1) := by decide +kernel
theorem d_C_except_29 : decode c_C_except 29 = .ok (.iconst 1, 1) := by decide +kernel
theorem d_C_except_30 : decode c_C_except 30 = .ok (.ireturn, 1) := by decide +kernel
theorem d_C_explain_0 : decode c_C_explain 0 = .ok (.aload_n 0, 1) := by decide +kernel
theorem d_C_explain_1 : decode c_C_explain 1 = .ok (.iload_n 1, 1) := by decide +kernel
theorem d_C_explain_2 : decode c_C_explain 2 = .ok (.invokevirtual 113, 3) := by decide +kernel
theorem d_C_explain_5 : decode c_C_explain 5 = .ok (.ireturn, 1) := by decide +kernel
theorem d_C_fits_0 : decode c_C_fits 0 = .ok (.iload_n 2, 1) := by decide +kernel
theorem d_C_fits_1 : decode c_C_fits 1 = .ok (.invokestatic 103, 3) := by decide +kernel
theorem d_C_fits_4 : decode c_C_fits 4 = .ok (.ifCond .eq 72, 3) := by decide +kernel
theorem d_C_fits_7 : decode c_C_fits 7 = .ok (.iload_n 3, 1) := by decide +kernel
theorem d_C_fits_8 : decode c_C_fits 8 = .ok (.invokestatic 106, 3) := by decide +kernel
theorem d_C_fits_11 : decode c_C_fits 11 = .ok (.ifCond .eq 65, 3) := by decide +kernel
theorem d_C_fits_14 : decode c_C_fits 14 = .ok (.aload_n 1, 1) := by decide +kernel
theorem d_C_fits_15 : decode c_C_fits 15 = .ok (.getfield 222, 3) := by decide +kernel
theorem d_C_fits_18 : decode c_C_fits 18 = .ok (.iconst (-1), 1) := by decide +kernel
theorem d_C_fits_19 : decode c_C_fits 19 = .ok (.if_icmp .eq 16, 3) := by decide +kernel
theorem d_C_fits_22 : decode c_C_fits 22 = .ok (.aload_n 1, 1) := by decide +kernel
theorem d_C_fits_23 : decode c_C_fits 23 = .ok (.getfield 222, 3) := by decide +kernel
theorem d_C_fits_26 : decode c_C_fits 26 = .ok (.aload_n 0, 1) := by decide +kernel
theorem d_C_fits_27 : decode c_C_fits 27 = .ok (.getfield 36, 3) := by decide +kernel
theorem d_C_fits_30 : decode c_C_fits 30 = .ok (.iload_n 2, 1) := by decide +kernel
theorem d_C_fits_31 : decode c_C_fits 31 = .ok (.iaload, 1) := by decide +kernel
theorem d_C_fits_32 : decode c_C_fits 32 = .ok (.if_icmp .ne 44, 3) := by decide +kernel
theorem d_C_fits_35 : decode c_C_fits 35 = .ok (.aload_n 1, 1) := by decide +kernel
theorem d_C_fits_36 : decode c_C_fits 36 = .ok (.getfield 225, 3) := by decide +kernel
theorem d_C_fits_39 : decode c_C_fits 39 = .ok (.iconst (-1), 1) := by decide +kernel
theorem d_C_fits_40 : decode c_C_fits 40 = .ok (.if_icmp .eq 16, 3) := by decide +kernel
theorem d_C_fits_43 : decode c_C_fits 43 = .ok (.aload_n 1, 1) := by decide +kernel
theorem d_C_fits_44 : decode c_C_fits 44 = .ok (.getfield 225, 3) := by decide +kernel
theorem d_C_fits_47 : decode c_C_fits 47 = .ok (.aload_n 0, 1) := by decide +kernel
theorem d_C_fits_48 : decode c_C_fits 48 = .ok (.getfield 43, 3) := by decide +kernel
theorem d_C_fits_51 : decode c_C_fits 51 = .ok (.iload_n 3, 1) := by decide +kernel
theorem d_C_fits_52 : decode c_C_fits 52 = .ok (.iaload, 1) := by decide +kernel
theorem d_C_fits_53 : decode c_C_fits 53 = .ok (.if_icmp .ne 23, 3) := by decide +kernel
theorem d_C_fits_56 : decode c_C_fits 56 = .ok (.aload_n 1, 1) := by decide +kernel
theorem d_C_fits_57 : decode c_C_fits 57 = .ok (.getfield 228, 3) := by decide +kernel
theorem d_C_fits_60 : decode c_C_fits 60 = .ok (.iconst (-1), 1) := by decide +kernel
theorem d_C_fits_61 : decode c_C_fits 61 = .ok (.if_icmp .eq 11, 3) := by decide +kernel
theorem d_C_fits_64 : decode c_C_fits 64 = .ok (.aload_n 1, 1) := by decide +kernel
theorem d_C_fits_65 : decode c_C_fits 65 = .ok (.getfield 228, 3) := by decide +kernel
theorem d_C_fits_68 : decode c_C_fits 68 = .ok (.iload_n 2, 1) := by decide +kernel
theorem d_C_fits_69 : decode c_C_fits 69 = .ok (.if_icmp .ne 7, 3) := by decide +kernel
theorem d_C_fits_72 : decode c_C_fits 72 = .ok (.iconst 1, 1) := by decide +kernel
theorem d_C_fits_73 : decode c_C_fits 73 = .ok (.goto 4, 3) := by decide +kernel
theorem d_C_fits_76 : decode c_C_fits 76 = .ok (.iconst 0, 1) := by decide +kernel
theorem d_C_fits_77 : decode c_C_fits 77 = .ok (.ireturn, 1) := by decide +kernel
theorem d_C_fittingAt_0 : decode c_C_fittingAt 0 = .ok (.iload_n 1, 1) := by decide +kernel
theorem d_C_fittingAt_1 : decode c_C_fittingAt 1 = .ok (.ifCond .lt 29, 3) := by decide +kernel
theorem d_C_fittingAt_4 : decode c_C_fittingAt 4 = .ok (.iload_n 1, 1) := by decide +kernel
theorem d_C_fittingAt_5 : decode c_C_fittingAt 5 = .ok (.aload_n 0, 1) := by decide +kernel
theorem d_C_fittingAt_6 : decode c_C_fittingAt 6 = .ok (.getfield 65, 3) := by decide +kernel
theorem d_C_fittingAt_9 : decode c_C_fittingAt 9 = .ok (.if_icmp .ge 21, 3) := by decide +kernel
theorem d_C_fittingAt_12 : decode c_C_fittingAt 12 = .ok (.iload_n 1, 1) := by decide +kernel
theorem d_C_fittingAt_13 : decode c_C_fittingAt 13 = .ok (.aload_n 0, 1) := by decide +kernel
theorem d_C_fittingAt_14 : decode c_C_fittingAt 14 = .ok (.getfield 62, 3) := by decide +kernel
theorem d_C_fittingAt_17 : decode c_C_fittingAt 17 = .ok (.arraylength, 1) := by decide +kernel
theorem d_C_fittingAt_18 : decode c_C_fittingAt 18 = .ok (.if_icmp .ge 12, 3) := by decide +kernel
theorem d_C_fittingAt_21 : decode c_C_fittingAt 21 = .ok (.aload_n 0, 1) := by decide +kernel
theorem d_C_fittingAt_22 : decode c_C_fittingAt 22 = .ok (.getfield 62, 3) := by decide +kernel
theorem d_C_fittingAt_25 : decode c_C_fittingAt 25 = .ok (.iload_n 1, 1) := by decide +kernel
theorem d_C_fittingAt_26 : decode c_C_fittingAt 26 = .ok (.iaload, 1) := by decide +kernel
theorem d_C_fittingAt_27 : decode c_C_fittingAt 27 = .ok (.goto 4, 3) := by decide +kernel
theorem d_C_fittingAt_30 : decode c_C_fittingAt 30 = .ok (.iconst (-1), 1) := by decide +kernel
theorem d_C_fittingAt_31 : decode c_C_fittingAt 31 = .ok (.ireturn, 1) := by decide +kernel
theorem d_C_gatherFitting_0 : decode c_C_gatherFitting 0 = .ok (.aload_n 0, 1) := by decide +kernel
theorem d_C_gatherFitting_1 : decode c_C_gatherFitting 1 = .ok (.iconst 0, 1) := by decide +kernel
theorem d_C_gatherFitting_2 : decode c_C_gatherFitting 2 = .ok (.putfield 65, 3) := by decide +kernel
theorem d_C_gatherFitting_5 : decode c_C_gatherFitting 5 = .ok (.iconst 0, 1) := by decide +kernel
theorem d_C_gatherFitting_6 : decode c_C_gatherFitting 6 = .ok (.istore 4, 2) := by decide +kernel
theorem d_C_gatherFitting_8 : decode c_C_gatherFitting 8 = .ok (.iload 4, 2) := by decide +kernel
theorem d_C_gatherFitting_10 : decode c_C_gatherFitting 10 = .ok (.bipush 40, 2) := by decide +kernel
theorem d_C_gatherFitting_12 : decode c_C_gatherFitting 12 = .ok (.if_icmp .ge 55, 3) := by decide +kernel
theorem d_C_gatherFitting_15 : decode c_C_gatherFitting 15 = .ok (.aload_n 0, 1) := by decide +kernel
theorem d_C_gatherFitting_16 : decode c_C_gatherFitting 16 = .ok (.iload 4, 2) := by decide +kernel
theorem d_C_gatherFitting_18 : decode c_C_gatherFitting 18 = .ok (.invokevirtual 117, 3) := by decide +kernel
theorem d_C_gatherFitting_21 : decode c_C_gatherFitting 21 = .ok (.astore 5, 2) := by decide +kernel
theorem d_C_gatherFitting_23 : decode c_C_gatherFitting 23 = .ok (.aload 5, 2) := by decide +kernel
theorem d_C_gatherFitting_25 : decode c_C_gatherFitting 25 = .ok (.ifnull 36, 3) := by decide +kernel
theorem d_C_gatherFitting_28 : decode c_C_gatherFitting 28 = .ok (.aload_n 0, 1) := by decide +kernel
theorem d_C_gatherFitting_29 : decode c_C_gatherFitting 29 = .ok (.aload 5, 2) := by decide +kernel
theorem d_C_gatherFitting_31 : decode c_C_gatherFitting 31 = .ok (.iload_n 1, 1) := by decide +kernel
theorem d_C_gatherFitting_32 : decode c_C_gatherFitting 32 = .ok (.iload_n 2, 1) := by decide +kernel
theorem d_C_gatherFitting_33 : decode c_C_gatherFitting 33 = .ok (.invokevirtual 207, 3) := by decide +kernel
theorem d_C_gatherFitting_36 : decode c_C_gatherFitting 36 = .ok (.ifCond .eq 25, 3) := by decide +kernel
theorem d_C_gatherFitting_39 : decode c_C_gatherFitting 39 = .ok (.aload_n 0, 1) := by decide +kernel
theorem d_C_gatherFitting_40 : decode c_C_gatherFitting 40 = .ok (.iload_n 1, 1) := by decide +kernel
theorem d_C_gatherFitting_41 : decode c_C_gatherFitting 41 = .ok (.iload 4, 2) := by decide +kernel
theorem d_C_gatherFitting_43 : decode c_C_gatherFitting 43 = .ok (.iload_n 3, 1) := by decide +kernel
theorem d_C_gatherFitting_44 : decode c_C_gatherFitting 44 = .ok (.invokevirtual 211, 3) := by decide +kernel
theorem d_C_gatherFitting_47 : decode c_C_gatherFitting 47 = .ok (.ifCond .ne 14, 3) := by decide +kernel
theorem d_C_gatherFitting_50 : decode c_C_gatherFitting 50 = .ok (.aload_n 0, 1) := by decide +kernel
theorem d_C_gatherFitting_51 : decode c_C_gatherFitting 51 = .ok (.iload 4, 2) := by decide +kernel
theorem d_C_gatherFitting_53 : decode c_C_gatherFitting 53 = .ok (.aload 5, 2) := by decide +kernel
theorem d_C_gatherFitting_55 : decode c_C_gatherFitting 55 = .ok (.getfield 215, 3) := by decide +kernel
theorem d_C_gatherFitting_58 : decode c_C_gatherFitting 58 = .ok (.invokevirtual 218, 3) := by decide +kernel
theorem d_C_gatherFitting_61 : decode c_C_gatherFitting 61 = .ok (.iinc 4 1, 3) := by decide +kernel
theorem d_C_gatherFitting_64 : decode c_C_gatherFitting 64 = .ok (.goto (-56), 3) := by decide +kernel
theorem d_C_gatherFitting_67 : decode c_C_gatherFitting 67 = .ok (.return_, 1) := by decide +kernel
theorem d_C_heldLoan_0 : decode c_C_heldLoan 0 = .ok (.iload_n 1, 1) := by decide +kernel
theorem d_C_heldLoan_1 : decode c_C_heldLoan 1 = .ok (.iconst 1, 1) := by decide +kernel
theorem d_C_heldLoan_2 : decode c_C_heldLoan 2 = .ok (.if_icmp .lt 20, 3) := by decide +kernel
theorem d_C_heldLoan_5 : decode c_C_heldLoan 5 = .ok (.iload_n 1, 1) := by decide +kernel
theorem d_C_heldLoan_6 : decode c_C_heldLoan 6 = .ok (.aload_n 0, 1) := by decide +kernel
theorem d_C_heldLoan_7 : decode c_C_heldLoan 7 = .ok (.getfield 59, 3) := by decide +kernel
theorem d_C_heldLoan_10 : decode c_C_heldLoan 10 = .ok (.if_icmp .gt 12, 3) := by decide +kernel
theorem d_C_heldLoan_13 : decode c_C_heldLoan 13 = .ok (.iload_n 1, 1) := by decide +kernel
theorem d_C_heldLoan_14 : decode c_C_heldLoan 14 = .ok (.aload_n 0, 1) := by decide +kernel
theorem d_C_heldLoan_15 : decode c_C_heldLoan 15 = .ok (.getfield 55, 3) := by decide +kernel
theorem d_C_heldLoan_18 : decode c_C_heldLoan 18 = .ok (.arraylength, 1) := by decide +kernel
theorem d_C_heldLoan_19 : decode c_C_heldLoan 19 = .ok (.if_icmp .le 5, 3) := by decide +kernel
theorem d_C_heldLoan_22 : decode c_C_heldLoan 22 = .ok (.aconst_null, 1) := by decide +kernel
theorem d_C_heldLoan_23 : decode c_C_heldLoan 23 = .ok (.areturn, 1) := by decide +kernel
theorem d_C_heldLoan_24 : decode c_C_heldLoan 24 = .ok (.aload_n 0, 1) := by decide +kernel
theorem d_C_heldLoan_25 : decode c_C_heldLoan 25 = .ok (.getfield 55, 3) := by decide +kernel
theorem d_C_heldLoan_28 : decode c_C_heldLoan 28 = .ok (.iload_n 1, 1) := by decide +kernel
theorem d_C_heldLoan_29 : decode c_C_heldLoan 29 = .ok (.iconst 1, 1) := by decide +kernel
theorem d_C_heldLoan_30 : decode c_C_heldLoan 30 = .ok (.isub, 1) := by decide +kernel
theorem d_C_heldLoan_31 : decode c_C_heldLoan 31 = .ok (.aaload, 1) := by decide +kernel
theorem d_C_heldLoan_32 : decode c_C_heldLoan 32 = .ok (.astore_n 2, 1) := by decide +kernel
theorem d_C_heldLoan_33 : decode c_C_heldLoan 33 = .ok (.aload_n 2, 1) := by decide +kernel
theorem d_C_heldLoan_34 : decode c_C_heldLoan 34 = .ok (.ifnull 10, 3) := by decide +kernel
theorem d_C_heldLoan_37 : decode c_C_heldLoan 37 = .ok (.aload_n 2, 1) := by decide +kernel
theorem d_C_heldLoan_38 : decode c_C_heldLoan 38 = .ok (.getfield 201, 3) := by decide +kernel
theorem d_C_heldLoan_41 : decode c_C_heldLoan 41 = .ok (.ifCond .eq 7, 3) := by decide +kernel
theorem d_C_heldLoan_44 : decode c_C_heldLoan 44 = .ok (.aconst_null, 1) := by decide +kernel
theorem d_C_heldLoan_45 : decode c_C_heldLoan 45 = .ok (.goto 4, 3) := by decide +kernel
theorem d_C_heldLoan_48 : decode c_C_heldLoan 48 = .ok (.aload_n 2, 1) := by decide +kernel
theorem d_C_heldLoan_49 : decode c_C_heldLoan 49 = .ok (.areturn, 1) := by decide +kernel
theorem d_C_init_0 : decode c_C_init 0 = .ok (.aload_n 0, 1) := by decide +kernel
theorem d_C_init_1 : decode c_C_init 1 = .ok (.invokespecial 3, 3) := by decide +kernel
theorem d_C_init_4 : decode c_C_init 4 = .ok (.aload_n 0, 1) := by decide +kernel
theorem d_C_init_5 : decode c_C_init 5 = .ok (.new 9, 3) := by decide +kernel
theorem d_C_init_8 : decode c_C_init 8 = .ok (.dup, 1) := by decide +kernel
theorem d_C_init_9 : decode c_C_init 9 = .ok (.invokespecial 11, 3) := by decide +kernel
theorem d_C_init_12 : decode c_C_init 12 = .ok (.putfield 12, 3) := by decide +kernel
theorem d_C_init_15 : decode c_C_init 15 = .ok (.aload_n 0, 1) := by decide +kernel
theorem d_C_init_16 : decode c_C_init 16 = .ok (.bipush 40, 2) := by decide +kernel
theorem d_C_init_18 : decode c_C_init 18 = .ok (.anewarray 16, 3) := by decide +kernel
theorem d_C_init_21 : decode c_C_init 21 = .ok (.putfield 18, 3) := by decide +kernel
theorem d_C_init_24 : decode c_C_init 24 = .ok (.aload_n 0, 1) := by decide +kernel
theorem d_C_init_25 : decode c_C_init 25 = .ok (.iconst 0, 1) := by decide +kernel
theorem d_C_init_26 : decode c_C_init 26 = .ok (.putfield 22, 3) := by decide +kernel
theorem d_C_init_29 : decode c_C_init 29 = .ok (.aload_n 0, 1) := by decide +kernel
theorem d_C_init_30 : decode c_C_init 30 = .ok (.new 26, 3) := by decide +kernel
theorem d_C_init_33 : decode c_C_init 33 = .ok (.dup, 1) := by decide +kernel
theorem d_C_init_34 : decode c_C_init 34 = .ok (.invokespecial 28, 3) := by decide +kernel
theorem d_C_init_37 : decode c_C_init 37 = .ok (.putfield 29, 3) := by decide +kernel
theorem d_C_init_40 : decode c_C_init 40 = .ok (.aload_n 0, 1) := by decide +kernel
theorem d_C_init_41 : decode c_C_init 41 = .ok (.new 26, 3) := by decide +kernel
theorem d_C_init_44 : decode c_C_init 44 = .ok (.dup, 1) := by decide +kernel
theorem d_C_init_45 : decode c_C_init 45 = .ok (.invokespecial 28, 3) := by decide +kernel
theorem d_C_init_48 : decode c_C_init 48 = .ok (.putfield 33, 3) := by decide +kernel
theorem d_C_init_51 : decode c_C_init 51 = .ok (.aload_n 0, 1) := by decide +kernel
theorem d_C_init_52 : decode c_C_init 52 = .ok (.bipush 50, 2) := by decide +kernel
theorem d_C_init_54 : decode c_C_init 54 = .ok (.newarray .int, 2) := by decide +kernel
theorem d_C_init_56 : decode c_C_init 56 = .ok (.putfield 36, 3) := by decide +kernel
theorem d_C_init_59 : decode c_C_init 59 = .ok (.aload_n 0, 1) := by decide +kernel
theorem d_C_init_60 : decode c_C_init 60 = .ok (.bipush 50, 2) := by decide +kernel
theorem d_C_init_62 : decode c_C_init 62 = .ok (.newarray .int, 2) := by decide +kernel
theorem d_C_init_64 : decode c_C_init 64 = .ok (.putfield 40, 3) := by decide +kernel
theorem d_C_init_67 : decode c_C_init 67 = .ok (.aload_n 0, 1) := by decide +kernel
theorem d_C_init_68 : decode c_C_init 68 = .ok (.bipush 50, 2) := by decide +kernel
theorem d_C_init_70 : decode c_C_init 70 = .ok (.newarray .int, 2) := by decide +kernel
theorem d_C_init_72 : decode c_C_init 72 = .ok (.putfield 43, 3) := by decide +kernel
theorem d_C_init_75 : decode c_C_init 75 = .ok (.aload_n 0, 1) := by decide +kernel
theorem d_C_init_76 : decode c_C_init 76 = .ok (.bipush 50, 2) := by decide +kernel
theorem d_C_init_78 : decode c_C_init 78 = .ok (.newarray .boolean, 2) := by decide +kernel
theorem d_C_init_80 : decode c_C_init 80 = .ok (.putfield 46, 3) := by decide +kernel
theorem d_C_init_83 : decode c_C_init 83 = .ok (.aload_n 0, 1) := by decide +kernel
theorem d_C_init_84 : decode c_C_init 84 = .ok (.sipush 2000, 3) := by decide +kernel
theorem d_C_init_87 : decode c_C_init 87 = .ok (.newarray .int, 2) := by decide +kernel
theorem d_C_init_89 : decode c_C_init 89 = .ok (.putfield 50, 3) := by decide +kernel
theorem d_C_init_92 : decode c_C_init 92 = .ok (.aload_n 0, 1) := by decide +kernel
theorem d_C_init_93 : decode c_C_init 93 = .ok (.sipush 200, 3) := by decide +kernel
theorem d_C_init_96 : decode c_C_init 96 = .ok (.anewarray 53, 3) := by decide +kernel
theorem d_C_init_99 : decode c_C_init 99 = .ok (.putfield 55, 3) := by decide +kernel
theorem d_C_init_102 : decode c_C_init 102 = .ok (.aload_n 0, 1) := by decide +kernel
theorem d_C_init_103 : decode c_C_init 103 = .ok (.iconst 0, 1) := by decide +kernel
theorem d_C_init_104 : decode c_C_init 104 = .ok (.putfield 59, 3) := by decide +kernel
theorem d_C_init_107 : decode c_C_init 107 = .ok (.aload_n 0, 1) := by decide +kernel
theorem d_C_init_108 : decode c_C_init 108 = .ok (.bipush 40, 2) := by decide +kernel
theorem d_C_init_110 : decode c_C_init 110 = .ok (.newarray .int, 2) := by decide +kernel
theorem d_C_init_112 : decode c_C_init 112 = .ok (.putfield 62, 3) := by decide +kernel
theorem d_C_init_115 : decode c_C_init 115 = .ok (.aload_n 0, 1) := by decide +kernel
theorem d_C_init_116 : decode c_C_init 116 = .ok (.iconst 0, 1) := by decide +kernel
theorem d_C_init_117 : decode c_C_init 117 = .ok (.putfield 65, 3) := by decide +kernel
theorem d_C_init_120 : decode c_C_init 120 = .ok (.aload_n 0, 1) := by decide +kernel
theorem d_C_init_121 : decode c_C_init 121 = .ok (.sipush 780, 3) := by decide +kernel
theorem d_C_init_124 : decode c_C_init 124 = .ok (.newarray .int, 2) := by decide +kernel
theorem d_C_init_126 : decode c_C_init 126 = .ok (.putfield 68, 3) := by decide +kernel
theorem d_C_init_129 : decode c_C_init 129 = .ok (.aload_n 0, 1) := by decide +kernel
theorem d_C_init_130 : decode c_C_init 130 = .ok (.iconst 0, 1) := by decide +kernel
theorem d_C_init_131 : decode c_C_init 131 = .ok (.putfield 71, 3) := by decide +kernel
theorem d_C_init_134 : decode c_C_init 134 = .ok (.aload_n 0, 1) := by decide +kernel
theorem d_C_init_135 : decode c_C_init 135 = .ok (.getfield 50, 3) := by decide +kernel
theorem d_C_init_138 : decode c_C_init 138 = .ok (.iconst (-1), 1) := by decide +kernel
theorem d_C_init_139 : decode c_C_init 139 = .ok (.invokestatic 74, 3) := by decide +kernel
theorem d_C_init_142 : decode c_C_init 142 = .ok (.return_, 1) := by decide +kernel
theorem d_C_insertByRank_0 : decode c_C_insertByRank 0 = .ok (.aload_n 0, 1) := by decide +kernel
theorem d_C_insertByRank_1 : decode c_C_insertByRank 1 = .ok (.getfield 65, 3) := by decide +kernel
theorem d_C_insertByRank_4 : decode c_C_insertByRank 4 = .ok (.ifCond .lt 15, 3) := by decide +kernel
theorem d_C_insertByRank_7 : decode c_C_insertByRank 7 = .ok (.aload_n 0, 1) := by decide +kernel
theorem d_C_insertByRank_8 : decode c_C_insertByRank 8 = .ok (.getfield 65, 3) := by decide +kernel
theorem d_C_insertByRank_11 : decode c_C_insertByRank 11 = .ok (.aload_n 0, 1) := by decide +kernel
theorem d_C_insertByRank_12 : decode c_C_insertByRank 12 = .ok (.getfield 62, 3) := by decide +kernel
theorem d_C_insertByRank_15 : decode c_C_insertByRank 15 = .ok (.arraylength, 1) := by decide +kernel
theorem d_C_insertByRank_16 : decode c_C_insertByRank 16 = .ok (.if_icmp .lt 4, 3) := by decide +kernel
theorem d_C_insertByRank_19 : decode c_C_insertByRank 19 = .ok (.return_, 1) := by decide +kernel
theorem d_C_insertByRank_20 : decode c_C_insertByRank 20 = .ok (.aload_n 0, 1) := by decide +kernel
theorem d_C_insertByRank_21 : decode c_C_insertByRank 21 = .ok (.getfield 65, 3) := by decide +kernel
theorem d_C_insertByRank_24 : decode c_C_insertByRank 24 = .ok (.istore_n 3, 1) := by decide +kernel
theorem d_C_insertByRank_25 : decode c_C_insertByRank 25 = .ok (.iload_n 3, 1) := by decide +kernel
theorem d_C_insertByRank_26 : decode c_C_insertByRank 26 = .ok (.ifCond .le 39, 3) := by decide +kernel
theorem d_C_insertByRank_29 : decode c_C_insertByRank 29 = .ok (.aload_n 0, 1) := by decide +kernel
theorem d_C_insertByRank_30 : decode c_C_insertByRank 30 = .ok (.aload_n 0, 1) := by decide +kernel
theorem d_C_insertByRank_31 : decode c_C_insertByRank 31 = .ok (.getfield 62, 3) := by decide +kernel
theorem d_C_insertByRank_34 : decode c_C_insertByRank 34 = .ok (.iload_n 3, 1) := by decide +kernel
theorem d_C_insertByRank_35 : decode c_C_insertByRank 35 = .ok (.iconst 1, 1) := by decide +kernel
theorem d_C_insertByRank_36 : decode c_C_insertByRank 36 = .ok (.isub, 1) := by decide +kernel
theorem d_C_insertByRank_37 : decode c_C_insertByRank 37 = .ok (.iaload, 1) := by decide +kernel
theorem d_C_insertByRank_38 : decode c_C_insertByRank 38 = .ok (.invokevirtual 229, 3) := by decide +kernel
theorem d_C_insertByRank_41 : decode c_C_insertByRank 41 = .ok (.iload_n 2, 1) := by decide +kernel
theorem d_C_insertByRank_42 : decode c_C_insertByRank 42 = .ok (.if_icmp .ge 23, 3) := by decide +kernel
theorem d_C_insertByRank_45 : decode c_C_insertByRank 45 = .ok (.aload_n 0, 1) := by decide +kernel
theorem d_C_insertByRank_46 : decode c_C_insertByRank 46 = .ok (.getfield 62, 3) := by decide +kernel
theorem d_C_insertByRank_49 : decode c_C_insertByRank 49 = .ok (.iload_n 3, 1) := by decide +kernel
theorem d_C_insertByRank_50 : decode c_C_insertByRank 50 = .ok (.aload_n 0, 1) := by decide +kernel
theorem d_C_insertByRank_51 : decode c_C_insertByRank 51 = .ok (.getfield 62, 3) := by decide +kernel
theorem d_C_insertByRank_54 : decode c_C_insertByRank 54 = .ok (.iload_n 3, 1) := by decide +kernel
theorem d_C_insertByRank_55 : decode c_C_insertByRank 55 = .ok (.iconst 1, 1) := by decide +kernel
theorem d_C_insertByRank_56 : decode c_C_insertByRank 56 = .ok (.isub, 1) := by decide +kernel
theorem d_C_insertByRank_57 : decode c_C_insertByRank 57 = .ok (.iaload, 1) := by decide +kernel
theorem d_C_insertByRank_58 : decode c_C_insertByRank 58 = .ok (.iastore, 1) := by decide +kernel
theorem d_C_insertByRank_59 : decode c_C_insertByRank 59 = .ok (.iinc 3 (-1), 3) := by decide +kernel
theorem d_C_insertByRank_62 : decode c_C_insertByRank 62 = .ok (.goto (-37), 3) := by decide +kernel
theorem d_C_insertByRank_65 : decode c_C_insertByRank 65 = .ok (.aload_n 0, 1) := by decide +kernel
theorem d_C_insertByRank_66 : decode c_C_insertByRank 66 = .ok (.getfield 62, 3) := by decide +kernel
theorem d_C_insertByRank_69 : decode c_C_insertByRank 69 = .ok (.iload_n 3, 1) := by decide +kernel
theorem d_C_insertByRank_70 : decode c_C_insertByRank 70 = .ok (.iload_n 1, 1) := by decide +kernel
theorem d_C_insertByRank_71 : decode c_C_insertByRank 71 = .ok (.iastore, 1) := by decide +kernel
theorem d_C_insertByRank_72 : decode c_C_insertByRank 72 = .ok (.aload_n 0, 1) := by decide +kernel
theorem d_C_insertByRank_73 : decode c_C_insertByRank 73 = .ok (.dup, 1) := by decide +kernel
theorem d_C_insertByRank_74 : decode c_C_insertByRank 74 = .ok (.getfield 65, 3) := by decide +kernel
theorem d_C_insertByRank_77 : decode c_C_insertByRank 77 = .ok (.iconst 1, 1) := by decide +kernel
theorem d_C_insertByRank_78 : decode c_C_insertByRank 78 = .ok (.iadd, 1) := by decide +kernel
theorem d_C_insertByRank_79 : decode c_C_insertByRank 79 = .ok (.putfield 65, 3) := by decide +kernel
theorem d_C_insertByRank_82 : decode c_C_insertByRank 82 = .ok (.return_, 1) := by decide +kernel
theorem d_C_isDay_0 : decode c_C_isDay 0 = .ok (.iload_n 0, 1) := by decide +kernel
theorem d_C_isDay_1 : decode c_C_isDay 1 = .ok (.ifCond .lt 14, 3) := by decide +kernel
theorem d_C_isDay_4 : decode c_C_isDay 4 = .ok (.iload_n 0, 1) := by decide +kernel
theorem d_C_isDay_5 : decode c_C_isDay 5 = .ok (.sipush 10000, 3) := by decide +kernel
theorem d_C_isDay_8 : decode c_C_isDay 8 = .ok (.if_icmp .ge 7, 3) := by decide +kernel
theorem d_C_isDay_11 : decode c_C_isDay 11 = .ok (.iconst 1, 1) := by decide +kernel
theorem d_C_isDay_12 : decode c_C_isDay 12 = .ok (.goto 4, 3) := by decide +kernel
theorem d_C_isDay_15 : decode c_C_isDay 15 = .ok (.iconst 0, 1) := by decide +kernel
theorem d_C_isDay_16 : decode c_C_isDay 16 = .ok (.ireturn, 1) := by decide +kernel
theorem d_C_isExcepted_0 : decode c_C_isExcepted 0 = .ok (.iload_n 1, 1) := by decide +kernel
theorem d_C_isExcepted_1 : decode c_C_isExcepted 1 = .ok (.bipush 40, 2) := by decide +kernel
theorem d_C_isExcepted_3 : decode c_C_isExcepted 3 = .ok (.imul, 1) := by decide +kernel
theorem d_C_isExcepted_4 : decode c_C_isExcepted 4 = .ok (.iload_n 2, 1) := by decide +kernel
theorem d_C_isExcepted_5 : decode c_C_isExcepted 5 = .ok (.iadd, 1) := by decide +kernel
theorem d_C_isExcepted_6 : decode c_C_isExcepted 6 = .ok (.istore 4, 2) := by decide +kernel
theorem d_C_isExcepted_8 : decode c_C_isExcepted 8 = .ok (.iload 4, 2) := by decide +kernel
theorem d_C_isExcepted_10 : decode c_C_isExcepted 10 = .ok (.ifCond .lt 28, 3) := by decide +kernel
theorem d_C_isExcepted_13 : decode c_C_isExcepted 13 = .ok (.iload 4, 2) := by decide +kernel
theorem d_C_isExcepted_15 : decode c_C_isExcepted 15 = .ok (.aload_n 0, 1) := by decide +kernel
theorem d_C_isExcepted_16 : decode c_C_isExcepted 16 = .ok (.getfield 50, 3) := by decide +kernel
theorem d_C_isExcepted_19 : decode c_C_isExcepted 19 = .ok (.arraylength, 1) := by decide +kernel
theorem d_C_isExcepted_20 : decode c_C_isExcepted 20 = .ok (.if_icmp .ge 18, 3) := by decide +kernel
theorem d_C_isExcepted_23 : decode c_C_isExcepted 23 = .ok (.iload_n 3, 1) := by decide +kernel
theorem d_C_isExcepted_24 : decode c_C_isExcepted 24 = .ok (.aload_n 0, 1) := by decide +kernel
theorem d_C_isExcepted_25 : decode c_C_isExcepted 25 = .ok (.getfield 50, 3) := by decide +kernel
theorem d_C_isExcepted_28 : decode c_C_isExcepted 28 = .ok (.iload 4, 2) := by decide +kernel
theorem d_C_isExcepted_30 : decode c_C_isExcepted 30 = .ok (.iaload, 1) := by decide +kernel
theorem d_C_isExcepted_31 : decode c_C_isExcepted 31 = .ok (.if_icmp .gt 7, 3) := by decide +kernel
theorem d_C_isExcepted_34 : decode c_C_isExcepted 34 = .ok (.iconst 1, 1) := by decide +kernel
theorem d_C_isExcepted_35 : decode c_C_isExcepted 35 = .ok (.goto 4, 3) := by decide +kernel
theorem d_C_isExcepted_38 : decode c_C_isExcepted 38 = .ok (.iconst 0, 1) := by decide +kernel
theorem d_C_isExcepted_39 : decode c_C_isExcepted 39 = .ok (.ireturn, 1) := by decide +kernel
theorem d_C_isItem_0 : decode c_C_isItem 0 = .ok (.iload_n 0, 1) := by decide +kernel
theorem d_C_isItem_1 : decode c_C_isItem 1 = .ok (.ifCond .lt 13, 3) := by decide +kernel
theorem d_C_isItem_4 : decode c_C_isItem 4 = .ok (.iload_n 0, 1) := by decide +kernel
theorem d_C_isItem_5 : decode c_C_isItem 5 = .ok (.bipush 50, 2) := by decide +kernel
theorem d_C_isItem_7 : decode c_C_isItem 7 = .ok (.if_icmp .ge 7, 3) := by decide +kernel
theorem d_C_isItem_10 : decode c_C_isItem 10 = .ok (.iconst 1, 1) := by decide +kernel
theorem d_C_isItem_11 : decode c_C_isItem 11 = .ok (.goto 4, 3) := by decide +kernel
theorem d_C_isItem_14 : decode c_C_isItem 14 = .ok (.iconst 0, 1) := by decide +kernel
theorem d_C_isItem_15 : decode c_C_isItem 15 = .ok (.ireturn, 1) := by decide +kernel
theorem d_C_isPerson_0 : decode c_C_isPerson 0 = .ok (.iload_n 0, 1) := by decide +kernel
theorem d_C_isPerson_1 : decode c_C_isPerson 1 = .ok (.ifCond .lt 13, 3) := by decide +kernel
theorem d_C_isPerson_4 : decode c_C_isPerson 4 = .ok (.iload_n 0, 1) := by decide +kernel
theorem d_C_isPerson_5 : decode c_C_isPerson 5 = .ok (.bipush 50, 2) := by decide +kernel
theorem d_C_isPerson_7 : decode c_C_isPerson 7 = .ok (.if_icmp .ge 7, 3) := by decide +kernel
theorem d_C_isPerson_10 : decode c_C_isPerson 10 = .ok (.iconst 1, 1) := by decide +kernel
theorem d_C_isPerson_11 : decode c_C_isPerson 11 = .ok (.goto 4, 3) := by decide +kernel
theorem d_C_isPerson_14 : decode c_C_isPerson 14 = .ok (.iconst 0, 1) := by decide +kernel
theorem d_C_isPerson_15 : decode c_C_isPerson 15 = .ok (.ireturn, 1) := by decide +kernel
theorem d_C_lend_0 : decode c_C_lend 0 = .ok (.iload_n 1, 1) := by decide +kernel
theorem d_C_lend_1 : decode c_C_lend 1 = .ok (.invokestatic 103, 3) := by decide +kernel
theorem d_C_lend_4 : decode c_C_lend 4 = .ok (.ifCond .eq 17, 3) := by decide +kernel
theorem d_C_lend_7 : decode c_C_lend 7 = .ok (.iload_n 2, 1) := by decide +kernel
theorem d_C_lend_8 : decode c_C_lend 8 = .ok (.invokestatic 106, 3) := by decide +kernel
theorem d_C_lend_11 : decode c_C_lend 11 = .ok (.ifCond .eq 10, 3) := by decide +kernel
theorem d_C_lend_14 : decode c_C_lend 14 = .ok (.iload_n 3, 1) := by decide +kernel
theorem d_C_lend_15 : decode c_C_lend 15 = .ok (.invokestatic 92, 3) := by decide +kernel
theorem d_C_lend_18 : decode c_C_lend 18 = .ok (.ifCond .ne 5, 3) := by decide +kernel
theorem d_C_lend_21 : decode c_C_lend 21 = .ok (.iconst 0, 1) := by decide +kernel
theorem d_C_lend_22 : decode c_C_lend 22 = .ok (.ireturn, 1) := by decide +kernel
theorem d_C_lend_23 : decode c_C_lend 23 = .ok (.aload_n 0, 1) := by decide +kernel
theorem d_C_lend_24 : decode c_C_lend 24 = .ok (.getfield 46, 3) := by decide +kernel
theorem d_C_lend_27 : decode c_C_lend 27 = .ok (.iload_n 2, 1) := by decide +kernel
theorem d_C_lend_28 : decode c_C_lend 28 = .ok (.baload, 1) := by decide +kernel
theorem d_C_lend_29 : decode c_C_lend 29 = .ok (.ifCond .ne 13, 3) := by decide +kernel
theorem d_C_lend_32 : decode c_C_lend 32 = .ok (.aload_n 0, 1) := by decide +kernel
theorem d_C_lend_33 : decode c_C_lend 33 = .ok (.getfield 59, 3) := by decide +kernel
theorem d_C_lend_36 : decode c_C_lend 36 = .ok (.sipush 200, 3) := by decide +kernel
theorem d_C_lend_39 : decode c_C_lend 39 = .ok (.if_icmp .lt 5, 3) := by decide +kernel
theorem d_C_lend_42 : decode c_C_lend 42 = .ok (.iconst 0, 1) := by decide +kernel
theorem d_C_lend_43 : decode c_C_lend 43 = .ok (.ireturn, 1) := by decide +kernel
theorem d_C_lend_44 : decode c_C_lend 44 = .ok (.aload_n 0, 1) := by decide +kernel
theorem d_C_lend_45 : decode c_C_lend 45 = .ok (.getfield 40, 3) := by decide +kernel
theorem d_C_lend_48 : decode c_C_lend 48 = .ok (.iload_n 1, 1) := by decide +kernel
theorem d_C_lend_49 : decode c_C_lend 49 = .ok (.iaload, 1) := by decide +kernel
theorem d_C_lend_50 : decode c_C_lend 50 = .ok (.ifCond .eq 13, 3) := by decide +kernel
theorem d_C_lend_53 : decode c_C_lend 53 = .ok (.bipush (-102), 2) := by decide +kernel
theorem d_C_lend_55 : decode c_C_lend 55 = .ok (.aload_n 0, 1) := by decide +kernel
theorem d_C_lend_56 : decode c_C_lend 56 = .ok (.getfield 40, 3) := by decide +kernel
theorem d_C_lend_59 : decode c_C_lend 59 = .ok (.iload_n 1, 1) := by decide +kernel
theorem d_C_lend_60 : decode c_C_lend 60 = .ok (.iaload, 1) := by decide +kernel
theorem d_C_lend_61 : decode c_C_lend 61 = .ok (.isub, 1) := by decide +kernel
theorem d_C_lend_62 : decode c_C_lend 62 = .ok (.ireturn, 1) := by decide +kernel
theorem d_C_lend_63 : decode c_C_lend 63 = .ok (.aload_n 0, 1) := by decide +kernel
theorem d_C_lend_64 : decode c_C_lend 64 = .ok (.iload_n 1, 1) := by decide +kernel
theorem d_C_lend_65 : decode c_C_lend 65 = .ok (.iload_n 2, 1) := by decide +kernel
theorem d_C_lend_66 : decode c_C_lend 66 = .ok (.iload_n 3, 1) := by decide +kernel
theorem d_C_lend_67 : decode c_C_lend 67 = .ok (.invokevirtual 109, 3) := by decide +kernel
theorem d_C_lend_70 : decode c_C_lend 70 = .ok (.aload_n 0, 1) := by decide +kernel
theorem d_C_lend_71 : decode c_C_lend 71 = .ok (.aload_n 0, 1) := by decide +kernel
theorem d_C_lend_72 : decode c_C_lend 72 = .ok (.iconst 0, 1) := by decide +kernel
theorem d_C_lend_73 : decode c_C_lend 73 = .ok (.invokevirtual 113, 3) := by decide +kernel
theorem d_C_lend_76 : decode c_C_lend 76 = .ok (.invokevirtual 117, 3) := by decide +kernel
theorem d_C_lend_79 : decode c_C_lend 79 = .ok (.astore 4, 2) := by decide +kernel
theorem d_C_lend_81 : decode c_C_lend 81 = .ok (.aload 4, 2) := by decide +kernel
theorem d_C_lend_83 : decode c_C_lend 83 = .ok (.ifnonnull 6, 3) := by decide +kernel
theorem d_C_lend_86 : decode c_C_lend 86 = .ok (.bipush (-100), 2) := by decide +kernel
theorem d_C_lend_88 : decode c_C_lend 88 = .ok (.ireturn, 1) := by decide +kernel
theorem d_C_lend_89 : decode c_C_lend 89 = .ok (.aload 4, 2) := by decide +kernel
theorem d_C_lend_91 : decode c_C_lend 91 = .ok (.iconst 1, 1) := by decide +kernel
theorem d_C_lend_92 : decode c_C_lend 92 = .ok (.putfield 121, 3) := by decide +kernel
theorem d_C_lend_95 : decode c_C_lend 95 = .ok (.aload_n 0, 1) := by decide +kernel
theorem d_C_lend_96 : decode c_C_lend 96 = .ok (.invokevirtual 125, 3) := by decide +kernel
theorem d_C_lend_99 : decode c_C_lend 99 = .ok (.aload 4, 2) := by decide +kernel
theorem d_C_lend_101 : decode c_C_lend 101 = .ok (.getfield 128, 3) := by decide +kernel
theorem d_C_lend_104 : decode c_C_lend 104 = .ok (.iconst 3, 1) := by decide +kernel
theorem d_C_lend_105 : decode c_C_lend 105 = .ok (.if_icmp .ne 21, 3) := by decide +kernel
theorem d_C_lend_108 : decode c_C_lend 108 = .ok (.aload 4, 2) := by decide +kernel
theorem d_C_lend_110 : decode c_C_lend 110 = .ok (.getfield 131, 3) := by decide +kernel
theorem d_C_lend_113 : decode c_C_lend 113 = .ok (.ifCond .eq 13, 3) := by decide +kernel
theorem d_C_lend_116 : decode c_C_lend 116 = .ok (.new 134, 3) := by decide +kernel
theorem d_C_lend_119 : decode c_C_lend 119 = .ok (.dup, 1) := by decide +kernel
theorem d_C_lend_120 : decode c_C_lend 120 = .ok (.ldc 136, 2) := by decide +kernel
theorem d_C_lend_122 : decode c_C_lend 122 = .ok (.invokespecial 138, 3) := by decide +kernel
theorem d_C_lend_125 : decode c_C_lend 125 = .ok (.athrow, 1) := by decide +kernel
theorem d_C_lend_126 : decode c_C_lend 126 = .ok (.aload 4, 2) := by decide +kernel
theorem d_C_lend_128 : decode c_C_lend 128 = .ok (.invokevirtual 141, 3) := by decide +kernel
theorem d_C_lend_131 : decode c_C_lend 131 = .ok (.ifCond .ne 11, 3) := by decide +kernel
theorem d_C_lend_134 : decode c_C_lend 134 = .ok (.iconst (-1), 1) := by decide +kernel
theorem d_C_lend_135 : decode c_C_lend 135 = .ok (.aload_n 0, 1) := by decide +kernel
theorem d_C_lend_136 : decode c_C_lend 136 = .ok (.iconst 0, 1) := by decide +kernel
theorem d_C_lend_137 : decode c_C_lend 137 = .ok (.invokevirtual 113, 3) := by decide +kernel
theorem d_C_lend_140 : decode c_C_lend 140 = .ok (.isub, 1) := by decide +kernel
theorem d_C_lend_141 : decode c_C_lend 141 = .ok (.ireturn, 1) := by decide +kernel
theorem d_C_lend_142 : decode c_C_lend 142 = .ok (.aload_n 0, 1) := by decide +kernel
theorem d_C_lend_143 : decode c_C_lend 143 = .ok (.aload 4, 2) := by decide +kernel
theorem d_C_lend_145 : decode c_C_lend 145 = .ok (.iload_n 3, 1) := by decide +kernel
theorem d_C_lend_146 : decode c_C_lend 146 = .ok (.invokevirtual 145, 3) := by decide +kernel
theorem d_C_lend_149 : decode c_C_lend 149 = .ok (.istore 5, 2) := by decide +kernel
theorem d_C_lend_151 : decode c_C_lend 151 = .ok (.iload 5, 2) := by decide +kernel
theorem d_C_lend_153 : decode c_C_lend 153 = .ok (.iconst (-1), 1) := by decide +kernel
theorem d_C_lend_154 : decode c_C_lend 154 = .ok (.if_icmp .ne 6, 3) := by decide +kernel
theorem d_C_lend_157 : decode c_C_lend 157 = .ok (.bipush (-101), 2) := by decide +kernel
theorem d_C_lend_159 : decode c_C_lend 159 = .ok (.ireturn, 1) := by decide +kernel
theorem d_C_lend_160 : decode c_C_lend 160 = .ok (.aload_n 0, 1) := by decide +kernel
theorem d_C_lend_161 : decode c_C_lend 161 = .ok (.new 53, 3) := by decide +kernel
theorem d_C_lend_164 : decode c_C_lend 164 = .ok (.dup, 1) := by decide +kernel
theorem d_C_lend_165 : decode c_C_lend 165 = .ok (.iload_n 1, 1) := by decide +kernel
theorem d_C_lend_166 : decode c_C_lend 166 = .ok (.iload_n 2, 1) := by decide +kernel
theorem d_C_lend_167 : decode c_C_lend 167 = .ok (.aload 4, 2) := by decide +kernel
theorem d_C_lend_169 : decode c_C_lend 169 = .ok (.iload_n 3, 1) := by decide +kernel
theorem d_C_lend_170 : decode c_C_lend 170 = .ok (.iload 5, 2) := by decide +kernel
theorem d_C_lend_172 : decode c_C_lend 172 = .ok (.invokespecial 149, 3) := by decide +kernel
theorem d_C_lend_175 : decode c_C_lend 175 = .ok (.invokevirtual 152, 3) := by decide +kernel
theorem d_C_lend_178 : decode c_C_lend 178 = .ok (.ireturn, 1) := by decide +kernel
theorem d_C_never_0 : decode c_C_never 0 = .ok (.iconst 0, 1) := by decide +kernel
theorem d_C_never_1 : decode c_C_never 1 = .ok (.istore_n 2, 1) := by decide +kernel
theorem d_C_never_2 : decode c_C_never 2 = .ok (.iconst 0, 1) := by decide +kernel
theorem d_C_never_3 : decode c_C_never 3 = .ok (.istore_n 3, 1) := by decide +kernel
theorem d_C_never_4 : decode c_C_never 4 = .ok (.iload_n 3, 1) := by decide +kernel
theorem d_C_never_5 : decode c_C_never 5 = .ok (.bipush 40, 2) := by decide +kernel
theorem d_C_never_7 : decode c_C_never 7 = .ok (.if_icmp .ge 39, 3) := by decide +kernel
theorem d_C_never_10 : decode c_C_never 10 = .ok (.aload_n 0, 1) := by decide +kernel
theorem d_C_never_11 : decode c_C_never 11 = .ok (.iload_n 3, 1) := by decide +kernel
theorem d_C_never_12 : decode c_C_never 12 = .ok (.invokevirtual 117, 3) := by decide +kernel
theorem d_C_never_15 : decode c_C_never 15 = .ok (.astore 4, 2) := by decide +kernel
theorem d_C_never_17 : decode c_C_never 17 = .ok (.aload 4, 2) := by decide +kernel
theorem d_C_never_19 : decode c_C_never 19 = .ok (.ifnull 21, 3) := by decide +kernel
theorem d_C_never_22 : decode c_C_never 22 = .ok (.aload 4, 2) := by decide +kernel
theorem d_C_never_24 : decode c_C_never 24 = .ok (.getfield 121, 3) := by decide +kernel
theorem d_C_never_27 : decode c_C_never 27 = .ok (.ifCond .ne 13, 3) := by decide +kernel
theorem d_C_never_30 : decode c_C_never 30 = .ok (.iload_n 2, 1) := by decide +kernel
theorem d_C_never_31 : decode c_C_never 31 = .ok (.iload_n 1, 1) := by decide +kernel
theorem d_C_never_32 : decode c_C_never 32 = .ok (.if_icmp .ne 5, 3) := by decide +kernel
theorem d_C_never_35 : decode c_C_never 35 = .ok (.iload_n 3, 1) := by decide +kernel
theorem d_C_never_36 : decode c_C_never 36 = .ok (.ireturn, 1) := by decide +kernel
theorem d_C_never_37 : decode c_C_never 37 = .ok (.iinc 2 1, 3) := by decide +kernel
theorem d_C_never_40 : decode c_C_never 40 = .ok (.iinc 3 1, 3) := by decide +kernel
theorem d_C_never_43 : decode c_C_never 43 = .ok (.goto (-39), 3) := by decide +kernel
theorem d_C_never_46 : decode c_C_never 46 = .ok (.iconst (-1), 1) := by decide +kernel
theorem d_C_never_47 : decode c_C_never 47 = .ok (.ireturn, 1) := by decide +kernel
theorem d_C_noteClash_0 : decode c_C_noteClash 0 = .ok (.aload_n 0, 1) := by decide +kernel
theorem d_C_noteClash_1 : decode c_C_noteClash 1 = .ok (.iconst 0, 1) := by decide +kernel
theorem d_C_noteClash_2 : decode c_C_noteClash 2 = .ok (.invokevirtual 113, 3) := by decide +kernel
theorem d_C_noteClash_5 : decode c_C_noteClash 5 = .ok (.istore_n 1, 1) := by decide +kernel
theorem d_C_noteClash_6 : decode c_C_noteClash 6 = .ok (.aload_n 0, 1) := by decide +kernel
theorem d_C_noteClash_7 : decode c_C_noteClash 7 = .ok (.iconst 1, 1) := by decide +kernel
theorem d_C_noteClash_8 : decode c_C_noteClash 8 = .ok (.invokevirtual 113, 3) := by decide +kernel
theorem d_C_noteClash_11 : decode c_C_noteClash 11 = .ok (.istore_n 2, 1) := by decide +kernel
theorem d_C_noteClash_12 : decode c_C_noteClash 12 = .ok (.iload_n 2, 1) := by decide +kernel
theorem d_C_noteClash_13 : decode c_C_noteClash 13 = .ok (.iconst (-1), 1) := by decide +kernel
theorem d_C_noteClash_14 : decode c_C_noteClash 14 = .ok (.if_icmp .eq 16, 3) := by decide +kernel
theorem d_C_noteClash_17 : decode c_C_noteClash 17 = .ok (.aload_n 0, 1) := by decide +kernel
theorem d_C_noteClash_18 : decode c_C_noteClash 18 = .ok (.iload_n 1, 1) := by decide +kernel
theorem d_C_noteClash_19 : decode c_C_noteClash 19 = .ok (.invokevirtual 229, 3) := by decide +kernel
theorem d_C_noteClash_22 : decode c_C_noteClash 22 = .ok (.aload_n 0, 1) := by decide +kernel
theorem d_C_noteClash_23 : decode c_C_noteClash 23 = .ok (.iload_n 2, 1) := by decide +kernel
theorem d_C_noteClash_24 : decode c_C_noteClash 24 = .ok (.invokevirtual 229, 3) := by decide +kernel
theorem d_C_noteClash_27 : decode c_C_noteClash 27 = .ok (.if_icmp .eq 4, 3) := by decide +kernel
theorem d_C_noteClash_30 : decode c_C_noteClash 30 = .ok (.return_, 1) := by decide +kernel
theorem d_C_noteClash_31 : decode c_C_noteClash 31 = .ok (.iload_n 1, 1) := by decide +kernel
theorem d_C_noteClash_32 : decode c_C_noteClash 32 = .ok (.bipush 40, 2) := by decide +kernel
theorem d_C_noteClash_34 : decode c_C_noteClash 34 = .ok (.imul, 1) := by decide +kernel
theorem d_C_noteClash_35 : decode c_C_noteClash 35 = .ok (.iload_n 2, 1) := by decide +kernel
theorem d_C_noteClash_36 : decode c_C_noteClash 36 = .ok (.iadd, 1) := by decide +kernel
theorem d_C_noteClash_37 : decode c_C_noteClash 37 = .ok (.istore_n 3, 1) := by decide +kernel
theorem d_C_noteClash_38 : decode c_C_noteClash 38 = .ok (.iconst 0, 1) := by decide +kernel
theorem d_C_noteClash_39 : decode c_C_noteClash 39 = .ok (.istore 4, 2) := by decide +kernel
theorem d_C_noteClash_41 : decode c_C_noteClash 41 = .ok (.iload 4, 2) := by decide +kernel
theorem d_C_noteClash_43 : decode c_C_noteClash 43 = .ok (.aload_n 0, 1) := by decide +kernel
theorem d_C_noteClash_44 : decode c_C_noteClash 44 = .ok (.getfield 71, 3) := by decide +kernel
theorem d_C_noteClash_47 : decode c_C_noteClash 47 = .ok (.if_icmp .ge 31, 3) := by decide +kernel
theorem d_C_noteClash_50 : decode c_C_noteClash 50 = .ok (.iload 4, 2) := by decide +kernel
theorem d_C_noteClash_52 : decode c_C_noteClash 52 = .ok (.aload_n 0, 1) := by decide +kernel
theorem d_C_noteClash_53 : decode c_C_noteClash 53 = .ok (.getfield 68, 3) := by decide +kernel
theorem d_C_noteClash_56 : decode c_C_noteClash 56 = .ok (.arraylength, 1) := by decide +kernel
theorem d_C_noteClash_57 : decode c_C_noteClash 57 = .ok (.if_icmp .ge 21, 3) := by decide +kernel
theorem d_C_noteClash_60 : decode c_C_noteClash 60 = .ok (.aload_n 0, 1) := by decide +kernel
theorem d_C_noteClash_61 : decode c_C_noteClash 61 = .ok (.getfield 68, 3) := by decide +kernel
theorem d_C_noteClash_64 : decode c_C_noteClash 64 = .ok (.iload 4, 2) := by decide +kernel
theorem d_C_noteClash_66 : decode c_C_noteClash 66 = .ok (.iaload, 1) := by decide +kernel
theorem d_C_noteClash_67 : decode c_C_noteClash 67 = .ok (.iload_n 3, 1) := by decide +kernel
theorem d_C_noteClash_68 : decode c_C_noteClash 68 = .ok (.if_icmp .ne 4, 3) := by decide +kernel
theorem d_C_noteClash_71 : decode c_C_noteClash 71 = .ok (.return_, 1) := by decide +kernel
theorem d_C_noteClash_72 : decode c_C_noteClash 72 = .ok (.iinc 4 1, 3) := by decide +kernel
theorem d_C_noteClash_75 : decode c_C_noteClash 75 = .ok (.goto (-34), 3) := by decide +kernel
theorem d_C_noteClash_78 : decode c_C_noteClash 78 = .ok (.aload_n 0, 1) := by decide +kernel
theorem d_C_noteClash_79 : decode c_C_noteClash 79 = .ok (.getfield 71, 3) := by decide +kernel
theorem d_C_noteClash_82 : decode c_C_noteClash 82 = .ok (.aload_n 0, 1) := by decide +kernel
theorem d_C_noteClash_83 : decode c_C_noteClash 83 = .ok (.getfield 68, 3) := by decide +kernel
theorem d_C_noteClash_86 : decode c_C_noteClash 86 = .ok (.arraylength, 1) := by decide +kernel
theorem d_C_noteClash_87 : decode c_C_noteClash 87 = .ok (.if_icmp .ge 23, 3) := by decide +kernel
theorem d_C_noteClash_90 : decode c_C_noteClash 90 = .ok (.aload_n 0, 1) := by decide +kernel
theorem d_C_noteClash_91 : decode c_C_noteClash 91 = .ok (.getfield 68, 3) := by decide +kernel
theorem d_C_noteClash_94 : decode c_C_noteClash 94 = .ok (.aload_n 0, 1) := by decide +kernel
theorem d_C_noteClash_95 : decode c_C_noteClash 95 = .ok (.getfield 71, 3) := by decide +kernel
theorem d_C_noteClash_98 : decode c_C_noteClash 98 = .ok (.iload_n 3, 1) := by decide +kernel
theorem d_C_noteClash_99 : decode c_C_noteClash 99 = .ok (.iastore, 1) := by decide +kernel
theorem d_C_noteClash_100 : decode c_C_noteClash 100 = .ok (.aload_n 0, 1) := by decide +kernel
theorem d_C_noteClash_101 : decode c_C_noteClash 101 = .ok (.dup, 1) := by decide +kernel
theorem d_C_noteClash_102 : decode c_C_noteClash 102 = .ok (.getfield 71, 3) := by decide +kernel
theorem d_C_noteClash_105 : decode c_C_noteClash 105 = .ok (.iconst 1, 1) := by decide +kernel
theorem d_C_noteClash_106 : decode c_C_noteClash 106 = .ok (.iadd, 1) := by decide +kernel
theorem d_C_noteClash_107 : decode c_C_noteClash 107 = .ok (.putfield 71, 3) := by decide +kernel
theorem d_C_noteClash_110 : decode c_C_noteClash 110 = .ok (.return_, 1) := by decide +kernel
theorem d_C_openDayFrom_0 : decode c_C_openDayFrom 0 = .ok (.aload_n 0, 1) := by decide +kernel
theorem d_C_openDayFrom_1 : decode c_C_openDayFrom 1 = .ok (.getfield 29, 3) := by decide +kernel
theorem d_C_openDayFrom_4 : decode c_C_openDayFrom 4 = .ok (.iload_n 1, 1) := by decide +kernel
theorem d_C_openDayFrom_5 : decode c_C_openDayFrom 5 = .ok (.iconst 0, 1) := by decide +kernel
theorem d_C_openDayFrom_6 : decode c_C_openDayFrom 6 = .ok (.invokevirtual 235, 3) := by decide +kernel
theorem d_C_openDayFrom_9 : decode c_C_openDayFrom 9 = .ok (.ireturn, 1) := by decide +kernel
theorem d_C_rankOf_0 : decode c_C_rankOf 0 = .ok (.aload_n 0, 1) := by decide +kernel
theorem d_C_rankOf_1 : decode c_C_rankOf 1 = .ok (.iload_n 1, 1) := by decide +kernel
theorem d_C_rankOf_2 : decode c_C_rankOf 2 = .ok (.invokevirtual 117, 3) := by decide +kernel
theorem d_C_rankOf_5 : decode c_C_rankOf 5 = .ok (.astore_n 2, 1) := by decide +kernel
theorem d_C_rankOf_6 : decode c_C_rankOf 6 = .ok (.aload_n 2, 1) := by decide +kernel
theorem d_C_rankOf_7 : decode c_C_rankOf 7 = .ok (.ifnonnull 7, 3) := by decide +kernel
theorem d_C_rankOf_10 : decode c_C_rankOf 10 = .ok (.iconst (-1), 1) := by decide +kernel
theorem d_C_rankOf_11 : decode c_C_rankOf 11 = .ok (.goto 7, 3) := by decide +kernel
theorem d_C_rankOf_14 : decode c_C_rankOf 14 = .ok (.aload_n 2, 1) := by decide +kernel
theorem d_C_rankOf_15 : decode c_C_rankOf 15 = .ok (.getfield 215, 3) := by decide +kernel
theorem d_C_rankOf_18 : decode c_C_rankOf 18 = .ok (.ireturn, 1) := by decide +kernel
theorem d_C_recall_0 : decode c_C_recall 0 = .ok (.aload_n 0, 1) := by decide +kernel
theorem d_C_recall_1 : decode c_C_recall 1 = .ok (.iload_n 1, 1) := by decide +kernel
theorem d_C_recall_2 : decode c_C_recall 2 = .ok (.invokevirtual 156, 3) := by decide +kernel
theorem d_C_recall_5 : decode c_C_recall 5 = .ok (.astore_n 3, 1) := by decide +kernel
theorem d_C_recall_6 : decode c_C_recall 6 = .ok (.aload_n 3, 1) := by decide +kernel
theorem d_C_recall_7 : decode c_C_recall 7 = .ok (.ifnull 10, 3) := by decide +kernel
theorem d_C_recall_10 : decode c_C_recall 10 = .ok (.iload_n 2, 1) := by decide +kernel
theorem d_C_recall_11 : decode c_C_recall 11 = .ok (.invokestatic 92, 3) := by decide +kernel
theorem d_C_recall_14 : decode c_C_recall 14 = .ok (.ifCond .ne 5, 3) := by decide +kernel
theorem d_C_recall_17 : decode c_C_recall 17 = .ok (.iconst 0, 1) := by decide +kernel
theorem d_C_recall_18 : decode c_C_recall 18 = .ok (.ireturn, 1) := by decide +kernel
theorem d_C_recall_19 : decode c_C_recall 19 = .ok (.aload_n 3, 1) := by decide +kernel
theorem d_C_recall_20 : decode c_C_recall 20 = .ok (.getfield 183, 3) := by decide +kernel
theorem d_C_recall_23 : decode c_C_recall 23 = .ok (.ifCond .eq 5, 3) := by decide +kernel
theorem d_C_recall_26 : decode c_C_recall 26 = .ok (.iconst (-1), 1) := by decide +kernel
theorem d_C_recall_27 : decode c_C_recall 27 = .ok (.ireturn, 1) := by decide +kernel
theorem d_C_recall_28 : decode c_C_recall 28 = .ok (.aload_n 0, 1) := by decide +kernel
theorem d_C_recall_29 : decode c_C_recall 29 = .ok (.iload_n 2, 1) := by decide +kernel
theorem d_C_recall_30 : decode c_C_recall 30 = .ok (.aload_n 3, 1) := by decide +kernel
theorem d_C_recall_31 : decode c_C_recall 31 = .ok (.getfield 172, 3) := by decide +kernel
theorem d_C_recall_34 : decode c_C_recall 34 = .ok (.getfield 192, 3) := by decide +kernel
theorem d_C_recall_37 : decode c_C_recall 37 = .ok (.iadd, 1) := by decide +kernel
theorem d_C_recall_38 : decode c_C_recall 38 = .ok (.invokevirtual 195, 3) := by decide +kernel
theorem d_C_recall_41 : decode c_C_recall 41 = .ok (.istore 4, 2) := by decide +kernel
theorem d_C_recall_43 : decode c_C_recall 43 = .ok (.iload 4, 2) := by decide +kernel
theorem d_C_recall_45 : decode c_C_recall 45 = .ok (.iconst (-1), 1) := by decide +kernel
theorem d_C_recall_46 : decode c_C_recall 46 = .ok (.if_icmp .ne 6, 3) := by decide +kernel
theorem d_C_recall_49 : decode c_C_recall 49 = .ok (.bipush (-4), 2) := by decide +kernel
theorem d_C_recall_51 : decode c_C_recall 51 = .ok (.ireturn, 1) := by decide +kernel
theorem d_C_recall_52 : decode c_C_recall 52 = .ok (.aload_n 3, 1) := by decide +kernel
theorem d_C_recall_53 : decode c_C_recall 53 = .ok (.iconst 1, 1) := by decide +kernel
theorem d_C_recall_54 : decode c_C_recall 54 = .ok (.putfield 183, 3) := by decide +kernel
theorem d_C_recall_57 : decode c_C_recall 57 = .ok (.aload_n 3, 1) := by decide +kernel
theorem d_C_recall_58 : decode c_C_recall 58 = .ok (.aload_n 3, 1) := by decide +kernel
theorem d_C_recall_59 : decode c_C_recall 59 = .ok (.getfield 160, 3) := by decide +kernel
theorem d_C_recall_62 : decode c_C_recall 62 = .ok (.iload 4, 2) := by decide +kernel
theorem d_C_recall_64 : decode c_C_recall 64 = .ok (.invokestatic 198, 3) := by decide +kernel
theorem d_C_recall_67 : decode c_C_recall 67 = .ok (.putfield 160, 3) := by decide +kernel
theorem d_C_recall_70 : decode c_C_recall 70 = .ok (.aload_n 3, 1) := by decide +kernel
theorem d_C_recall_71 : decode c_C_recall 71 = .ok (.getfield 160, 3) := by decide +kernel
theorem d_C_recall_74 : decode c_C_recall 74 = .ok (.ireturn, 1) := by decide +kernel
theorem d_C_renew_0 : decode c_C_renew 0 = .ok (.aload_n 0, 1) := by decide +kernel
theorem d_C_renew_1 : decode c_C_renew 1 = .ok (.iload_n 1, 1) := by decide +kernel
theorem d_C_renew_2 : decode c_C_renew 2 = .ok (.invokevirtual 156, 3) := by decide +kernel
theorem d_C_renew_5 : decode c_C_renew 5 = .ok (.astore_n 3, 1) := by decide +kernel
theorem d_C_renew_6 : decode c_C_renew 6 = .ok (.aload_n 3, 1) := by decide +kernel
theorem d_C_renew_7 : decode c_C_renew 7 = .ok (.ifnull 10, 3) := by decide +kernel
theorem d_C_renew_10 : decode c_C_renew 10 = .ok (.iload_n 2, 1) := by decide +kernel
theorem d_C_renew_11 : decode c_C_renew 11 = .ok (.invokestatic 92, 3) := by decide +kernel
theorem d_C_renew_14 : decode c_C_renew 14 = .ok (.ifCond .ne 5, 3) := by decide +kernel
theorem d_C_renew_17 : decode c_C_renew 17 = .ok (.iconst 0, 1) := by decide +kernel
theorem d_C_renew_18 : decode c_C_renew 18 = .ok (.ireturn, 1) := by decide +kernel
theorem d_C_renew_19 : decode c_C_renew 19 = .ok (.aload_n 0, 1) := by decide +kernel
theorem d_C_renew_20 : decode c_C_renew 20 = .ok (.aload_n 3, 1) := by decide +kernel
theorem d_C_renew_21 : decode c_C_renew 21 = .ok (.getfield 163, 3) := by decide +kernel
theorem d_C_renew_24 : decode c_C_renew 24 = .ok (.invokevirtual 166, 3) := by decide +kernel
theorem d_C_renew_27 : decode c_C_renew 27 = .ok (.istore 4, 2) := by decide +kernel
theorem d_C_renew_29 : decode c_C_renew 29 = .ok (.iload 4, 2) := by decide +kernel
theorem d_C_renew_31 : decode c_C_renew 31 = .ok (.ifCond .eq 9, 3) := by decide +kernel
theorem d_C_renew_34 : decode c_C_renew 34 = .ok (.bipush (-102), 2) := by decide +kernel
theorem d_C_renew_36 : decode c_C_renew 36 = .ok (.iload 4, 2) := by decide +kernel
theorem d_C_renew_38 : decode c_C_renew 38 = .ok (.isub, 1) := by decide +kernel
theorem d_C_renew_39 : decode c_C_renew 39 = .ok (.ireturn, 1) := by decide +kernel
theorem d_C_renew_40 : decode c_C_renew 40 = .ok (.aload_n 3, 1) := by decide +kernel
theorem d_C_renew_41 : decode c_C_renew 41 = .ok (.getfield 169, 3) := by decide +kernel
theorem d_C_renew_44 : decode c_C_renew 44 = .ok (.aload_n 3, 1) := by decide +kernel
theorem d_C_renew_45 : decode c_C_renew 45 = .ok (.getfield 172, 3) := by decide +kernel
theorem d_C_renew_48 : decode c_C_renew 48 = .ok (.getfield 176, 3) := by decide +kernel
theorem d_C_renew_51 : decode c_C_renew 51 = .ok (.if_icmp .lt 5, 3) := by decide +kernel
theorem d_C_renew_54 : decode c_C_renew 54 = .ok (.iconst (-1), 1) := by decide +kernel
theorem d_C_renew_55 : decode c_C_renew 55 = .ok (.ireturn, 1) := by decide +kernel
theorem d_C_renew_56 : decode c_C_renew 56 = .ok (.iload_n 2, 1) := by decide +kernel
theorem d_C_renew_57 : decode c_C_renew 57 = .ok (.aload_n 3, 1) := by decide +kernel
theorem d_C_renew_58 : decode c_C_renew 58 = .ok (.getfield 177, 3) := by decide +kernel
theorem d_C_renew_61 : decode c_C_renew 61 = .ok (.isub, 1) := by decide +kernel
theorem d_C_renew_62 : decode c_C_renew 62 = .ok (.aload_n 3, 1) := by decide +kernel
theorem d_C_renew_63 : decode c_C_renew 63 = .ok (.getfield 172, 3) := by decide +kernel
theorem d_C_renew_66 : decode c_C_renew 66 = .ok (.getfield 180, 3) := by decide +kernel
theorem d_C_renew_69 : decode c_C_renew 69 = .ok (.if_icmp .ge 6, 3) := by decide +kernel
theorem d_C_renew_72 : decode c_C_renew 72 = .ok (.bipush (-2), 2) := by decide +kernel
theorem d_C_renew_74 : decode c_C_renew 74 = .ok (.ireturn, 1) := by decide +kernel
theorem d_C_renew_75 : decode c_C_renew 75 = .ok (.aload_n 3, 1) := by decide +kernel
theorem d_C_renew_76 : decode c_C_renew 76 = .ok (.getfield 183, 3) := by decide +kernel
theorem d_C_renew_79 : decode c_C_renew 79 = .ok (.ifCond .eq 6, 3) := by decide +kernel
theorem d_C_renew_82 : decode c_C_renew 82 = .ok (.bipush (-3), 2) := by decide +kernel
theorem d_C_renew_84 : decode c_C_renew 84 = .ok (.ireturn, 1) := by decide +kernel
theorem d_C_renew_85 : decode c_C_renew 85 = .ok (.aload_n 0, 1) := by decide +kernel
theorem d_C_renew_86 : decode c_C_renew 86 = .ok (.aload_n 3, 1) := by decide +kernel
theorem d_C_renew_87 : decode c_C_renew 87 = .ok (.getfield 172, 3) := by decide +kernel
theorem d_C_renew_90 : decode c_C_renew 90 = .ok (.iload_n 2, 1) := by decide +kernel
theorem d_C_renew_91 : decode c_C_renew 91 = .ok (.invokevirtual 145, 3) := by decide +kernel
theorem d_C_renew_94 : decode c_C_renew 94 = .ok (.istore 5, 2) := by decide +kernel
theorem d_C_renew_96 : decode c_C_renew 96 = .ok (.iload 5, 2) := by decide +kernel
theorem d_C_renew_98 : decode c_C_renew 98 = .ok (.iconst (-1), 1) := by decide +kernel
theorem d_C_renew_99 : decode c_C_renew 99 = .ok (.if_icmp .ne 6, 3) := by decide +kernel
theorem d_C_renew_102 : decode c_C_renew 102 = .ok (.bipush (-4), 2) := by decide +kernel
theorem d_C_renew_104 : decode c_C_renew 104 = .ok (.ireturn, 1) := by decide +kernel
theorem d_C_renew_105 : decode c_C_renew 105 = .ok (.aload_n 3, 1) := by decide +kernel
theorem d_C_renew_106 : decode c_C_renew 106 = .ok (.dup, 1) := by decide +kernel
theorem d_C_renew_107 : decode c_C_renew 107 = .ok (.getfield 169, 3) := by decide +kernel
theorem d_C_renew_110 : decode c_C_renew 110 = .ok (.iconst 1, 1) := by decide +kernel
theorem d_C_renew_111 : decode c_C_renew 111 = .ok (.iadd, 1) := by decide +kernel
theorem d_C_renew_112 : decode c_C_renew 112 = .ok (.putfield 169, 3) := by decide +kernel
theorem d_C_renew_115 : decode c_C_renew 115 = .ok (.aload_n 3, 1) := by decide +kernel
theorem d_C_renew_116 : decode c_C_renew 116 = .ok (.iload_n 2, 1) := by decide +kernel
theorem d_C_renew_117 : decode c_C_renew 117 = .ok (.putfield 177, 3) := by decide +kernel
theorem d_C_renew_120 : decode c_C_renew 120 = .ok (.aload_n 3, 1) := by decide +kernel
theorem d_C_renew_121 : decode c_C_renew 121 = .ok (.aload_n 3, 1) := by decide +kernel
theorem d_C_renew_122 : decode c_C_renew 122 = .ok (.getfield 160, 3) := by decide +kernel
theorem d_C_renew_125 : decode c_C_renew 125 = .ok (.iload 5, 2) := by decide +kernel
theorem d_C_renew_127 : decode c_C_renew 127 = .ok (.invokestatic 186, 3) := by decide +kernel
theorem d_C_renew_130 : decode c_C_renew 130 = .ok (.putfield 160, 3) := by decide +kernel
theorem d_C_renew_133 : decode c_C_renew 133 = .ok (.iconst 1, 1) := by decide +kernel
theorem d_C_renew_134 : decode c_C_renew 134 = .ok (.ireturn, 1) := by decide +kernel
theorem d_C_row_0 : decode c_C_row 0 = .ok (.iload_n 3, 1) := by decide +kernel
theorem d_C_row_1 : decode c_C_row 1 = .ok (.ifCond .lt 9, 3) := by decide +kernel
theorem d_C_row_4 : decode c_C_row 4 = .ok (.iload_n 3, 1) := by decide +kernel
theorem d_C_row_5 : decode c_C_row 5 = .ok (.bipush 9, 2) := by decide +kernel
theorem d_C_row_7 : decode c_C_row 7 = .ok (.if_icmp .le 5, 3) := by decide +kernel
theorem d_C_row_10 : decode c_C_row 10 = .ok (.iconst 0, 1) := by decide +kernel
theorem d_C_row_11 : decode c_C_row 11 = .ok (.ireturn, 1) := by decide +kernel
theorem d_C_row_12 : decode c_C_row 12 = .ok (.iload_n 1, 1) := by decide +kernel
theorem d_C_row_13 : decode c_C_row 13 = .ok (.ifCond .ne 19, 3) := by decide +kernel
theorem d_C_row_16 : decode c_C_row 16 = .ok (.iload_n 2, 1) := by decide +kernel
theorem d_C_row_17 : decode c_C_row 17 = .ok (.invokestatic 103, 3) := by decide +kernel
theorem d_C_row_20 : decode c_C_row 20 = .ok (.ifCond .eq 12, 3) := by decide +kernel
theorem d_C_row_23 : decode c_C_row 23 = .ok (.aload_n 0, 1) := by decide +kernel
theorem d_C_row_24 : decode c_C_row 24 = .ok (.getfield 36, 3) := by decide +kernel
theorem d_C_row_27 : decode c_C_row 27 = .ok (.iload_n 2, 1) := by decide +kernel
theorem d_C_row_28 : decode c_C_row 28 = .ok (.iload_n 3, 1) := by decide +kernel
theorem d_C_row_29 : decode c_C_row 29 = .ok (.iastore, 1) := by decide +kernel
theorem d_C_row_30 : decode c_C_row 30 = .ok (.iconst 1, 1) := by decide +kernel
theorem d_C_row_31 : decode c_C_row 31 = .ok (.ireturn, 1) := by decide +kernel
theorem d_C_row_32 : decode c_C_row 32 = .ok (.iload_n 1, 1) := by decide +kernel
theorem d_C_row_33 : decode c_C_row 33 = .ok (.iconst 1, 1) := by decide +kernel
theorem d_C_row_34 : decode c_C_row 34 = .ok (.if_icmp .ne 19, 3) := by decide +kernel
theorem d_C_row_37 : decode c_C_row 37 = .ok (.iload_n 2, 1) := by decide +kernel
theorem d_C_row_38 : decode c_C_row 38 = .ok (.invokestatic 106, 3) := by decide +kernel
theorem d_C_row_41 : decode c_C_row 41 = .ok (.ifCond .eq 12, 3) := by decide +kernel
theorem d_C_row_44 : decode c_C_row 44 = .ok (.aload_n 0, 1) := by decide +kernel
theorem d_C_row_45 : decode c_C_row 45 = .ok (.getfield 43, 3) := by decide +kernel
theorem d_C_row_48 : decode c_C_row 48 = .ok (.iload_n 2, 1) := by decide +kernel
theorem d_C_row_49 : decode c_C_row 49 = .ok (.iload_n 3, 1) := by decide +kernel
theorem d_C_row_50 : decode c_C_row 50 = .ok (.iastore, 1) := by decide +kernel
theorem d_C_row_51 : decode c_C_row 51 = .ok (.iconst 1, 1) := by decide +kernel
theorem d_C_row_52 : decode c_C_row 52 = .ok (.ireturn, 1) := by decide +kernel
theorem d_C_row_53 : decode c_C_row 53 = .ok (.iconst 0, 1) := by decide +kernel
theorem d_C_row_54 : decode c_C_row 54 = .ok (.ireturn, 1) := by decide +kernel
theorem d_C_rule_0 : decode c_C_rule 0 = .ok (.new 16, 3) := by decide +kernel
theorem d_C_rule_3 : decode c_C_rule 3 = .ok (.dup, 1) := by decide +kernel
theorem d_C_rule_4 : decode c_C_rule 4 = .ok (.invokespecial 84, 3) := by decide +kernel
theorem d_C_rule_7 : decode c_C_rule 7 = .ok (.astore_n 1, 1) := by decide +kernel
theorem d_C_rule_8 : decode c_C_rule 8 = .ok (.aload_n 0, 1) := by decide +kernel
theorem d_C_rule_9 : decode c_C_rule 9 = .ok (.getfield 12, 3) := by decide +kernel
theorem d_C_rule_12 : decode c_C_rule 12 = .ok (.aload_n 1, 1) := by decide +kernel
theorem d_C_rule_13 : decode c_C_rule 13 = .ok (.invokevirtual 85, 3) := by decide +kernel
theorem d_C_rule_16 : decode c_C_rule 16 = .ok (.istore_n 2, 1) := by decide +kernel
theorem d_C_rule_17 : decode c_C_rule 17 = .ok (.aload_n 0, 1) := by decide +kernel
theorem d_C_rule_18 : decode c_C_rule 18 = .ok (.getfield 12, 3) := by decide +kernel
theorem d_C_rule_21 : decode c_C_rule 21 = .ok (.invokevirtual 89, 3) := by decide +kernel
theorem d_C_rule_24 : decode c_C_rule 24 = .ok (.iload_n 2, 1) := by decide +kernel
theorem d_C_rule_25 : decode c_C_rule 25 = .ok (.iconst (-1), 1) := by decide +kernel
theorem d_C_rule_26 : decode c_C_rule 26 = .ok (.if_icmp .eq 7, 3) := by decide +kernel
theorem d_C_rule_29 : decode c_C_rule 29 = .ok (.iconst (-1), 1) := by decide +kernel
theorem d_C_rule_30 : decode c_C_rule 30 = .ok (.iload_n 2, 1) := by decide +kernel
theorem d_C_rule_31 : decode c_C_rule 31 = .ok (.isub, 1) := by decide +kernel
theorem d_C_rule_32 : decode c_C_rule 32 = .ok (.ireturn, 1) := by decide +kernel
theorem d_C_rule_33 : decode c_C_rule 33 = .ok (.aload_n 0, 1) := by decide +kernel
theorem d_C_rule_34 : decode c_C_rule 34 = .ok (.getfield 22, 3) := by decide +kernel
theorem d_C_rule_37 : decode c_C_rule 37 = .ok (.aload_n 0, 1) := by decide +kernel
theorem d_C_rule_38 : decode c_C_rule 38 = .ok (.getfield 18, 3) := by decide +kernel
theorem d_C_rule_41 : decode c_C_rule 41 = .ok (.arraylength, 1) := by decide +kernel
theorem d_C_rule_42 : decode c_C_rule 42 = .ok (.if_icmp .lt 7, 3) := by decide +kernel
theorem d_C_rule_45 : decode c_C_rule 45 = .ok (.sipush (-200), 3) := by decide +kernel
theorem d_C_rule_48 : decode c_C_rule 48 = .ok (.ireturn, 1) := by decide +kernel
theorem d_C_rule_49 : decode c_C_rule 49 = .ok (.aload_n 0, 1) := by decide +kernel
theorem d_C_rule_50 : decode c_C_rule 50 = .ok (.getfield 18, 3) := by decide +kernel
theorem d_C_rule_53 : decode c_C_rule 53 = .ok (.aload_n 0, 1) := by decide +kernel
theorem d_C_rule_54 : decode c_C_rule 54 = .ok (.getfield 22, 3) := by decide +kernel
theorem d_C_rule_57 : decode c_C_rule 57 = .ok (.aload_n 1, 1) := by decide +kernel
theorem d_C_rule_58 : decode c_C_rule 58 = .ok (.aastore, 1) := by decide +kernel
theorem d_C_rule_59 : decode c_C_rule 59 = .ok (.aload_n 0, 1) := by decide +kernel
theorem d_C_rule_60 : decode c_C_rule 60 = .ok (.dup, 1) := by decide +kernel
theorem d_C_rule_61 : decode c_C_rule 61 = .ok (.getfield 22, 3) := by decide +kernel
theorem d_C_rule_64 : decode c_C_rule 64 = .ok (.iconst 1, 1) := by decide +kernel
theorem d_C_rule_65 : decode c_C_rule 65 = .ok (.iadd, 1) := by decide +kernel
theorem d_C_rule_66 : decode c_C_rule 66 = .ok (.putfield 22, 3) := by decide +kernel
theorem d_C_rule_69 : decode c_C_rule 69 = .ok (.aload_n 0, 1) := by decide +kernel
theorem d_C_rule_70 : decode c_C_rule 70 = .ok (.getfield 22, 3) := by decide +kernel
theorem d_C_rule_73 : decode c_C_rule 73 = .ok (.iconst 1, 1) := by decide +kernel
theorem d_C_rule_74 : decode c_C_rule 74 = .ok (.isub, 1) := by decide +kernel
theorem d_C_rule_75 : decode c_C_rule 75 = .ok (.ireturn, 1) := by decide +kernel
theorem d_C_ruleAt_0 : decode c_C_ruleAt 0 = .ok (.iload_n 1, 1) := by decide +kernel
theorem d_C_ruleAt_1 : decode c_C_ruleAt 1 = .ok (.ifCond .lt 29, 3) := by decide +kernel
theorem d_C_ruleAt_4 : decode c_C_ruleAt 4 = .ok (.iload_n 1, 1) := by decide +kernel
theorem d_C_ruleAt_5 : decode c_C_ruleAt 5 = .ok (.aload_n 0, 1) := by decide +kernel
theorem d_C_ruleAt_6 : decode c_C_ruleAt 6 = .ok (.getfield 22, 3) := by decide +kernel
theorem d_C_ruleAt_9 : decode c_C_ruleAt 9 = .ok (.if_icmp .ge 21, 3) := by decide +kernel
theorem d_C_ruleAt_12 : decode c_C_ruleAt 12 = .ok (.iload_n 1, 1) := by decide +kernel
theorem d_C_ruleAt_13 : decode c_C_ruleAt 13 = .ok (.aload_n 0, 1) := by decide +kernel
theorem d_C_ruleAt_14 : decode c_C_ruleAt 14 = .ok (.getfield 18, 3) := by decide +kernel
theorem d_C_ruleAt_17 : decode c_C_ruleAt 17 = .ok (.arraylength, 1) := by decide +kernel
theorem d_C_ruleAt_18 : decode c_C_ruleAt 18 = .ok (.if_icmp .ge 12, 3) := by decide +kernel
theorem d_C_ruleAt_21 : decode c_C_ruleAt 21 = .ok (.aload_n 0, 1) := by decide +kernel
theorem d_C_ruleAt_22 : decode c_C_ruleAt 22 = .ok (.getfield 18, 3) := by decide +kernel
theorem d_C_ruleAt_25 : decode c_C_ruleAt 25 = .ok (.iload_n 1, 1) := by decide +kernel
theorem d_C_ruleAt_26 : decode c_C_ruleAt 26 = .ok (.aaload, 1) := by decide +kernel
theorem d_C_ruleAt_27 : decode c_C_ruleAt 27 = .ok (.goto 4, 3) := by decide +kernel
theorem d_C_ruleAt_30 : decode c_C_ruleAt 30 = .ok (.aconst_null, 1) := by decide +kernel
theorem d_C_ruleAt_31 : decode c_C_ruleAt 31 = .ok (.areturn, 1) := by decide +kernel
theorem d_C_sign_0 : decode c_C_sign 0 = .ok (.aload_n 0, 1) := by decide +kernel
theorem d_C_sign_1 : decode c_C_sign 1 = .ok (.getfield 12, 3) := by decide +kernel
theorem d_C_sign_4 : decode c_C_sign 4 = .ok (.iload_n 1, 1) := by decide +kernel
theorem d_C_sign_5 : decode c_C_sign 5 = .ok (.invokevirtual 80, 3) := by decide +kernel
theorem d_C_sign_8 : decode c_C_sign 8 = .ok (.return_, 1) := by decide +kernel
theorem d_C_term_0 : decode c_C_term 0 = .ok (.iload_n 1, 1) := by decide +kernel
theorem d_C_term_1 : decode c_C_term 1 = .ok (.invokestatic 92, 3) := by decide +kernel
theorem d_C_term_4 : decode c_C_term 4 = .ok (.ifCond .eq 14, 3) := by decide +kernel
theorem d_C_term_7 : decode c_C_term 7 = .ok (.aload_n 0, 1) := by decide +kernel
theorem d_C_term_8 : decode c_C_term 8 = .ok (.getfield 33, 3) := by decide +kernel
theorem d_C_term_11 : decode c_C_term 11 = .ok (.iload_n 1, 1) := by decide +kernel
theorem d_C_term_12 : decode c_C_term 12 = .ok (.invokevirtual 96, 3) := by decide +kernel
theorem d_C_term_15 : decode c_C_term 15 = .ok (.ifCond .eq 5, 3) := by decide +kernel
theorem d_C_term_18 : decode c_C_term 18 = .ok (.iconst 0, 1) := by decide +kernel
theorem d_C_term_19 : decode c_C_term 19 = .ok (.ireturn, 1) := by decide +kernel
theorem d_C_term_20 : decode c_C_term 20 = .ok (.aload_n 0, 1) := by decide +kernel
theorem d_C_term_21 : decode c_C_term 21 = .ok (.getfield 33, 3) := by decide +kernel
theorem d_C_term_24 : decode c_C_term 24 = .ok (.iload_n 1, 1) := by decide +kernel
theorem d_C_term_25 : decode c_C_term 25 = .ok (.iconst 1, 1) := by decide +kernel
theorem d_C_term_26 : decode c_C_term 26 = .ok (.invokevirtual 99, 3) := by decide +kernel
theorem d_C_term_29 : decode c_C_term 29 = .ok (.iconst 1, 1) := by decide +kernel
theorem d_C_term_30 : decode c_C_term 30 = .ok (.ireturn, 1) := by decide +kernel
theorem d_C_throwsUp_0 : decode c_C_throwsUp 0 = .ok (.aload_n 0, 1) := by decide +kernel
theorem d_C_throwsUp_1 : decode c_C_throwsUp 1 = .ok (.iload_n 1, 1) := by decide +kernel
theorem d_C_throwsUp_2 : decode c_C_throwsUp 2 = .ok (.invokevirtual 117, 3) := by decide +kernel
theorem d_C_throwsUp_5 : decode c_C_throwsUp 5 = .ok (.astore_n 3, 1) := by decide +kernel
theorem d_C_throwsUp_6 : decode c_C_throwsUp 6 = .ok (.aload_n 3, 1) := by decide +kernel
theorem d_C_throwsUp_7 : decode c_C_throwsUp 7 = .ok (.ifnull 11, 3) := by decide +kernel
theorem d_C_throwsUp_10 : decode c_C_throwsUp 10 = .ok (.aload_n 3, 1) := by decide +kernel
theorem d_C_throwsUp_11 : decode c_C_throwsUp 11 = .ok (.getfield 128, 3) := by decide +kernel
theorem d_C_throwsUp_14 : decode c_C_throwsUp 14 = .ok (.iconst 3, 1) := by decide +kernel
theorem d_C_throwsUp_15 : decode c_C_throwsUp 15 = .ok (.if_icmp .eq 5, 3) := by decide +kernel
theorem d_C_throwsUp_18 : decode c_C_throwsUp 18 = .ok (.iconst 0, 1) := by decide +kernel
theorem d_C_throwsUp_19 : decode c_C_throwsUp 19 = .ok (.ireturn, 1) := by decide +kernel
theorem d_C_throwsUp_20 : decode c_C_throwsUp 20 = .ok (.aload_n 3, 1) := by decide +kernel
theorem d_C_throwsUp_21 : decode c_C_throwsUp 21 = .ok (.getfield 131, 3) := by decide +kernel
theorem d_C_throwsUp_24 : decode c_C_throwsUp 24 = .ok (.istore 4, 2) := by decide +kernel
theorem d_C_throwsUp_26 : decode c_C_throwsUp 26 = .ok (.aload_n 3, 1) := by decide +kernel
theorem d_C_throwsUp_27 : decode c_C_throwsUp 27 = .ok (.iload_n 2, 1) := by decide +kernel
theorem d_C_throwsUp_28 : decode c_C_throwsUp 28 = .ok (.putfield 131, 3) := by decide +kernel
theorem d_C_throwsUp_31 : decode c_C_throwsUp 31 = .ok (.iload 4, 2) := by decide +kernel
theorem d_C_throwsUp_33 : decode c_C_throwsUp 33 = .ok (.ireturn, 1) := by decide +kernel
theorem d_D_firstFrom_0 : decode c_D_firstFrom 0 = .ok (.iload_n 2, 1) := by decide +kernel
theorem d_D_firstFrom_1 : decode c_D_firstFrom 1 = .ok (.ifCond .eq 7, 3) := by decide +kernel
theorem d_D_firstFrom_4 : decode c_D_firstFrom 4 = .ok (.lconst 0, 1) := by decide +kernel
theorem d_D_firstFrom_5 : decode c_D_firstFrom 5 = .ok (.goto 6, 3) := by decide +kernel
theorem d_D_firstFrom_8 : decode c_D_firstFrom 8 = .ok (.ldc2_w 19, 3) := by decide +kernel
theorem d_D_firstFrom_11 : decode c_D_firstFrom 11 = .ok (.lstore_n 3, 1) := by decide +kernel
theorem d_D_firstFrom_12 : decode c_D_firstFrom 12 = .ok (.iload_n 1, 1) := by decide +kernel
theorem d_D_firstFrom_13 : decode c_D_firstFrom 13 = .ok (.iconst 0, 1) := by decide +kernel
theorem d_D_firstFrom_14 : decode c_D_firstFrom 14 = .ok (.invokestatic 21, 3) := by decide +kernel
theorem d_D_firstFrom_17 : decode c_D_firstFrom 17 = .ok (.istore 5, 2) := by decide +kernel
theorem d_D_firstFrom_19 : decode c_D_firstFrom 19 = .ok (.iload 5, 2) := by decide +kernel
theorem d_D_firstFrom_21 : decode c_D_firstFrom 21 = .ok (.sipush 10000, 3) := by decide +kernel
theorem d_D_firstFrom_24 : decode c_D_firstFrom 24 = .ok (.if_icmp .ge 49, 3) := by decide +kernel
theorem d_D_firstFrom_27 : decode c_D_firstFrom 27 = .ok (.aload_n 0, 1) := by decide +kernel
theorem d_D_firstFrom_28 : decode c_D_firstFrom 28 = .ok (.getfield 11, 3) := by decide +kernel
theorem d_D_firstFrom_31 : decode c_D_firstFrom 31 = .ok (.iload 5, 2) := by decide +kernel
theorem d_D_firstFrom_33 : decode c_D_firstFrom 33 = .ok (.bipush 64, 2) := by decide +kernel
theorem d_D_firstFrom_35 : decode c_D_firstFrom 35 = .ok (.idiv, 1) := by decide +kernel
theorem d_D_firstFrom_36 : decode c_D_firstFrom 36 = .ok (.laload, 1) := by decide +kernel
theorem d_D_firstFrom_37 : decode c_D_firstFrom 37 = .ok (.lload_n 3, 1) := by decide +kernel
theorem d_D_firstFrom_38 : decode c_D_firstFrom 38 = .ok (.lcmp, 1) := by decide +kernel
theorem d_D_firstFrom_39 : decode c_D_firstFrom 39 = .ok (.ifCond .ne 15, 3) := by decide +kernel
theorem d_D_firstFrom_42 : decode c_D_firstFrom 42 = .ok (.iload 5, 2) := by decide +kernel
theorem d_D_firstFrom_44 : decode c_D_firstFrom 44 = .ok (.bipush 63, 2) := by decide +kernel
theorem d_D_firstFrom_46 : decode c_D_firstFrom 46 = .ok (.ior, 1) := by decide +kernel
theorem d_D_firstFrom_47 : decode c_D_firstFrom 47 = .ok (.iconst 1, 1) := by decide +kernel
theorem d_D_firstFrom_48 : decode c_D_firstFrom 48 = .ok (.iadd, 1) := by decide +kernel
theorem d_D_firstFrom_49 : decode c_D_firstFrom 49 = .ok (.istore 5, 2) := by decide +kernel
theorem d_D_firstFrom_51 : decode c_D_firstFrom 51 = .ok (.goto (-32), 3) := by decide +kernel
theorem d_D_firstFrom_54 : decode c_D_firstFrom 54 = .ok (.aload_n 0, 1) := by decide +kernel
theorem d_D_firstFrom_55 : decode c_D_firstFrom 55 = .ok (.iload 5, 2) := by decide +kernel
theorem d_D_firstFrom_57 : decode c_D_firstFrom 57 = .ok (.invokevirtual 27, 3) := by decide +kernel
theorem d_D_firstFrom_60 : decode c_D_firstFrom 60 = .ok (.iload_n 2, 1) := by decide +kernel
theorem d_D_firstFrom_61 : decode c_D_firstFrom 61 = .ok (.if_icmp .ne 6, 3) := by decide +kernel
theorem d_D_firstFrom_64 : decode c_D_firstFrom 64 = .ok (.iload 5, 2) := by decide +kernel
theorem d_D_firstFrom_66 : decode c_D_firstFrom 66 = .ok (.ireturn, 1) := by decide +kernel
theorem d_D_firstFrom_67 : decode c_D_firstFrom 67 = .ok (.iinc 5 1, 3) := by decide +kernel
theorem d_D_firstFrom_70 : decode c_D_firstFrom 70 = .ok (.goto (-51), 3) := by decide +kernel
theorem d_D_firstFrom_73 : decode c_D_firstFrom 73 = .ok (.iconst (-1), 1) := by decide +kernel
theorem d_D_firstFrom_74 : decode c_D_firstFrom 74 = .ok (.ireturn, 1) := by decide +kernel
theorem d_D_holds_0 : decode c_D_holds 0 = .ok (.iload_n 1, 1) := by decide +kernel
theorem d_D_holds_1 : decode c_D_holds 1 = .ok (.invokestatic 15, 3) := by decide +kernel
theorem d_D_holds_4 : decode c_D_holds 4 = .ok (.ifCond .eq 28, 3) := by decide +kernel
theorem d_D_holds_7 : decode c_D_holds 7 = .ok (.aload_n 0, 1) := by decide +kernel
theorem d_D_holds_8 : decode c_D_holds 8 = .ok (.getfield 11, 3) := by decide +kernel
theorem d_D_holds_11 : decode c_D_holds 11 = .ok (.iload_n 1, 1) := by decide +kernel
theorem d_D_holds_12 : decode c_D_holds 12 = .ok (.bipush 64, 2) := by decide +kernel
theorem d_D_holds_14 : decode c_D_holds 14 = .ok (.idiv, 1) := by decide +kernel
theorem d_D_holds_15 : decode c_D_holds 15 = .ok (.laload, 1) := by decide +kernel
theorem d_D_holds_16 : decode c_D_holds 16 = .ok (.iload_n 1, 1) := by decide +kernel
theorem d_D_holds_17 : decode c_D_holds 17 = .ok (.bipush 64, 2) := by decide +kernel
theorem d_D_holds_19 : decode c_D_holds 19 = .ok (.irem, 1) := by decide +kernel
theorem d_D_holds_20 : decode c_D_holds 20 = .ok (.lushr, 1) := by decide +kernel
theorem d_D_holds_21 : decode c_D_holds 21 = .ok (.lconst 1, 1) := by decide +kernel
theorem d_D_holds_22 : decode c_D_holds 22 = .ok (.land, 1) := by decide +kernel
theorem d_D_holds_23 : decode c_D_holds 23 = .ok (.lconst 0, 1) := by decide +kernel
theorem d_D_holds_24 : decode c_D_holds 24 = .ok (.lcmp, 1) := by decide +kernel
theorem d_D_holds_25 : decode c_D_holds 25 = .ok (.ifCond .eq 7, 3) := by decide +kernel
theorem d_D_holds_28 : decode c_D_holds 28 = .ok (.iconst 1, 1) := by decide +kernel
theorem d_D_holds_29 : decode c_D_holds 29 = .ok (.goto 4, 3) := by decide +kernel
theorem d_D_holds_32 : decode c_D_holds 32 = .ok (.iconst 0, 1) := by decide +kernel
theorem d_D_holds_33 : decode c_D_holds 33 = .ok (.ireturn, 1) := by decide +kernel
theorem d_D_init_0 : decode c_D_init 0 = .ok (.aload_n 0, 1) := by decide +kernel
theorem d_D_init_1 : decode c_D_init 1 = .ok (.invokespecial 5, 3) := by decide +kernel
theorem d_D_init_4 : decode c_D_init 4 = .ok (.aload_n 0, 1) := by decide +kernel
theorem d_D_init_5 : decode c_D_init 5 = .ok (.sipush 157, 3) := by decide +kernel
theorem d_D_init_8 : decode c_D_init 8 = .ok (.newarray .long, 2) := by decide +kernel
theorem d_D_init_10 : decode c_D_init 10 = .ok (.putfield 11, 3) := by decide +kernel
theorem d_D_init_13 : decode c_D_init 13 = .ok (.return_, 1) := by decide +kernel
theorem d_D_put_0 : decode c_D_put 0 = .ok (.iload_n 1, 1) := by decide +kernel
theorem d_D_put_1 : decode c_D_put 1 = .ok (.invokestatic 15, 3) := by decide +kernel
theorem d_D_put_4 : decode c_D_put 4 = .ok (.ifCond .ne 4, 3) := by decide +kernel
theorem d_D_put_7 : decode c_D_put 7 = .ok (.return_, 1) := by decide +kernel
theorem d_D_put_8 : decode c_D_put 8 = .ok (.lconst 1, 1) := by decide +kernel
theorem d_D_put_9 : decode c_D_put 9 = .ok (.iload_n 1, 1) := by decide +kernel
theorem d_D_put_10 : decode c_D_put 10 = .ok (.bipush 64, 2) := by decide +kernel
theorem d_D_put_12 : decode c_D_put 12 = .ok (.irem, 1) := by decide +kernel
theorem d_D_put_13 : decode c_D_put 13 = .ok (.lshl, 1) := by decide +kernel
theorem d_D_put_14 : decode c_D_put 14 = .ok (.lstore_n 3, 1) := by decide +kernel
theorem d_D_put_15 : decode c_D_put 15 = .ok (.iload_n 2, 1) := by decide +kernel
theorem d_D_put_16 : decode c_D_put 16 = .ok (.ifCond .eq 19, 3) := by decide +kernel
theorem d_D_put_19 : decode c_D_put 19 = .ok (.aload_n 0, 1) := by decide +kernel
theorem d_D_put_20 : decode c_D_put 20 = .ok (.getfield 11, 3) := by decide +kernel
theorem d_D_put_23 : decode c_D_put 23 = .ok (.iload_n 1, 1) := by decide +kernel
theorem d_D_put_24 : decode c_D_put 24 = .ok (.bipush 64, 2) := by decide +kernel
theorem d_D_put_26 : decode c_D_put 26 = .ok (.idiv, 1) := by decide +kernel
theorem d_D_put_27 : decode c_D_put 27 = .ok (.dup2, 1) := by decide +kernel
theorem d_D_put_28 : decode c_D_put 28 = .ok (.laload, 1) := by decide +kernel
theorem d_D_put_29 : decode c_D_put 29 = .ok (.lload_n 3, 1) := by decide +kernel
theorem d_D_put_30 : decode c_D_put 30 = .ok (.lor, 1) := by decide +kernel
theorem d_D_put_31 : decode c_D_put 31 = .ok (.lastore, 1) := by decide +kernel
theorem d_D_put_32 : decode c_D_put 32 = .ok (.goto 20, 3) := by decide +kernel
theorem d_D_put_35 : decode c_D_put 35 = .ok (.aload_n 0, 1) := by decide +kernel
theorem d_D_put_36 : decode c_D_put 36 = .ok (.getfield 11, 3) := by decide +kernel
theorem d_D_put_39 : decode c_D_put 39 = .ok (.iload_n 1, 1) := by decide +kernel
theorem d_D_put_40 : decode c_D_put 40 = .ok (.bipush 64, 2) := by decide +kernel
theorem d_D_put_42 : decode c_D_put 42 = .ok (.idiv, 1) := by decide +kernel
theorem d_D_put_43 : decode c_D_put 43 = .ok (.dup2, 1) := by decide +kernel
theorem d_D_put_44 : decode c_D_put 44 = .ok (.laload, 1) := by decide +kernel
theorem d_D_put_45 : decode c_D_put 45 = .ok (.lload_n 3, 1) := by decide +kernel
theorem d_D_put_46 : decode c_D_put 46 = .ok (.ldc2_w 19, 3) := by decide +kernel
theorem d_D_put_49 : decode c_D_put 49 = .ok (.lxor, 1) := by decide +kernel
theorem d_D_put_50 : decode c_D_put 50 = .ok (.land, 1) := by decide +kernel
theorem d_D_put_51 : decode c_D_put 51 = .ok (.lastore, 1) := by decide +kernel
theorem d_D_put_52 : decode c_D_put 52 = .ok (.return_, 1) := by decide +kernel
theorem d_L_law_0 : decode c_L_law 0 = .ok (.new 8, 3) := by decide +kernel
theorem d_L_law_3 : decode c_L_law 3 = .ok (.dup, 1) := by decide +kernel
theorem d_L_law_4 : decode c_L_law 4 = .ok (.invokespecial 15, 3) := by decide +kernel
theorem d_L_law_7 : decode c_L_law 7 = .ok (.astore_n 1, 1) := by decide +kernel
theorem d_L_law_8 : decode c_L_law 8 = .ok (.new 16, 3) := by decide +kernel
theorem d_L_law_11 : decode c_L_law 11 = .ok (.dup, 1) := by decide +kernel
theorem d_L_law_12 : decode c_L_law 12 = .ok (.invokespecial 18, 3) := by decide +kernel
theorem d_L_law_15 : decode c_L_law 15 = .ok (.astore_n 2, 1) := by decide +kernel
theorem d_L_law_16 : decode c_L_law 16 = .ok (.iconst 1, 1) := by decide +kernel
theorem d_L_law_17 : decode c_L_law 17 = .ok (.newarray .long, 2) := by decide +kernel
theorem d_L_law_19 : decode c_L_law 19 = .ok (.astore_n 3, 1) := by decide +kernel
theorem d_L_law_20 : decode c_L_law 20 = .ok (.iconst 0, 1) := by decide +kernel
theorem d_L_law_21 : decode c_L_law 21 = .ok (.istore 4, 2) := by decide +kernel
theorem d_L_law_23 : decode c_L_law 23 = .ok (.iload 4, 2) := by decide +kernel
theorem d_L_law_25 : decode c_L_law 25 = .ok (.aload_n 0, 1) := by decide +kernel
theorem d_L_law_26 : decode c_L_law 26 = .ok (.arraylength, 1) := by decide +kernel
theorem d_L_law_27 : decode c_L_law 27 = .ok (.iconst 4, 1) := by decide +kernel
theorem d_L_law_28 : decode c_L_law 28 = .ok (.isub, 1) := by decide +kernel
theorem d_L_law_29 : decode c_L_law 29 = .ok (.if_icmp .gt 658, 3) := by decide +kernel
theorem d_L_law_32 : decode c_L_law 32 = .ok (.aload_n 0, 1) := by decide +kernel
theorem d_L_law_33 : decode c_L_law 33 = .ok (.iload 4, 2) := by decide +kernel
theorem d_L_law_35 : decode c_L_law 35 = .ok (.iaload, 1) := by decide +kernel
theorem d_L_law_36 : decode c_L_law 36 = .ok (.bipush 15, 2) := by decide +kernel
theorem d_L_law_38 : decode c_L_law 38 = .ok (.iand, 1) := by decide +kernel
theorem d_L_law_39 : decode c_L_law 39 = .ok (.tableswitch 642 0 15 #[77, 100, 113, 166, 191, 240, 292, 317, 354, 391, 416, 453, 502, 555, 580, 605], 77) := by decide +kernel
theorem d_L_law_116 : decode c_L_law 116 = .ok (.aload_n 1, 1) := by decide +kernel
theorem d_L_law_117 : decode c_L_law 117 = .ok (.aload_n 0, 1) := by decide +kernel
theorem d_L_law_118 : decode c_L_law 118 = .ok (.iload 4, 2) := by decide +kernel
theorem d_L_law_120 : decode c_L_law 120 = .ok (.iconst 1, 1) := by decide +kernel
theorem d_L_law_121 : decode c_L_law 121 = .ok (.iadd, 1) := by decide +kernel
theorem d_L_law_122 : decode c_L_law 122 = .ok (.iaload, 1) := by decide +kernel
theorem d_L_law_123 : decode c_L_law 123 = .ok (.invokevirtual 19, 3) := by decide +kernel
theorem d_L_law_126 : decode c_L_law 126 = .ok (.aload_n 2, 1) := by decide +kernel
theorem d_L_law_127 : decode c_L_law 127 = .ok (.aload_n 0, 1) := by decide +kernel
theorem d_L_law_128 : decode c_L_law 128 = .ok (.iload 4, 2) := by decide +kernel
theorem d_L_law_130 : decode c_L_law 130 = .ok (.iconst 1, 1) := by decide +kernel
theorem d_L_law_131 : decode c_L_law 131 = .ok (.iadd, 1) := by decide +kernel
theorem d_L_law_132 : decode c_L_law 132 = .ok (.iaload, 1) := by decide +kernel
theorem d_L_law_133 : decode c_L_law 133 = .ok (.invokevirtual 23, 3) := by decide +kernel
theorem d_L_law_136 : decode c_L_law 136 = .ok (.goto 545, 3) := by decide +kernel
theorem d_L_law_139 : decode c_L_law 139 = .ok (.aload_n 1, 1) := by decide +kernel
theorem d_L_law_140 : decode c_L_law 140 = .ok (.invokevirtual 24, 3) := by decide +kernel
theorem d_L_law_143 : decode c_L_law 143 = .ok (.pop, 1) := by decide +kernel
theorem d_L_law_144 : decode c_L_law 144 = .ok (.aload_n 2, 1) := by decide +kernel
theorem d_L_law_145 : decode c_L_law 145 = .ok (.invokevirtual 28, 3) := by decide +kernel
theorem d_L_law_148 : decode c_L_law 148 = .ok (.pop, 1) := by decide +kernel
theorem d_L_law_149 : decode c_L_law 149 = .ok (.goto 532, 3) := by decide +kernel
theorem d_L_law_152 : decode c_L_law 152 = .ok (.aload_n 1, 1) := by decide +kernel
theorem d_L_law_153 : decode c_L_law 153 = .ok (.aload_n 0, 1) := by decide +kernel
theorem d_L_law_154 : decode c_L_law 154 = .ok (.iload 4, 2) := by decide +kernel
theorem d_L_law_156 : decode c_L_law 156 = .ok (.iconst 1, 1) := by decide +kernel
theorem d_L_law_157 : decode c_L_law 157 = .ok (.iadd, 1) := by decide +kernel
theorem d_L_law_158 : decode c_L_law 158 = .ok (.iaload, 1) := by decide +kernel
theorem d_L_law_159 : decode c_L_law 159 = .ok (.aload_n 0, 1) := by decide +kernel
theorem d_L_law_160 : decode c_L_law 160 = .ok (.iload 4, 2) := by decide +kernel
theorem d_L_law_162 : decode c_L_law 162 = .ok (.iconst 2, 1) := by decide +kernel
theorem d_L_law_163 : decode c_L_law 163 = .ok (.iadd, 1) := by decide +kernel
theorem d_L_law_164 : decode c_L_law 164 = .ok (.iaload, 1) := by decide +kernel
theorem d_L_law_165 : decode c_L_law 165 = .ok (.ifCond .eq 7, 3) := by decide +kernel
theorem d_L_law_168 : decode c_L_law 168 = .ok (.iconst 1, 1) := by decide +kernel
theorem d_L_law_169 : decode c_L_law 169 = .ok (.goto 4, 3) := by decide +kernel
theorem d_L_law_172 : decode c_L_law 172 = .ok (.iconst 0, 1) := by decide +kernel
theorem d_L_law_173 : decode c_L_law 173 = .ok (.invokevirtual 29, 3) := by decide +kernel
theorem d_L_law_176 : decode c_L_law 176 = .ok (.pop, 1) := by decide +kernel
theorem d_L_law_177 : decode c_L_law 177 = .ok (.aload_n 2, 1) := by decide +kernel
theorem d_L_law_178 : decode c_L_law 178 = .ok (.aload_n 0, 1) := by decide +kernel
theorem d_L_law_179 : decode c_L_law 179 = .ok (.iload 4, 2) := by decide +kernel
theorem d_L_law_181 : decode c_L_law 181 = .ok (.iconst 1, 1) := by decide +kernel
theorem d_L_law_182 : decode c_L_law 182 = .ok (.iadd, 1) := by decide +kernel
theorem d_L_law_183 : decode c_L_law 183 = .ok (.iaload, 1) := by decide +kernel
theorem d_L_law_184 : decode c_L_law 184 = .ok (.aload_n 0, 1) := by decide +kernel
theorem d_L_law_185 : decode c_L_law 185 = .ok (.iload 4, 2) := by decide +kernel
theorem d_L_law_187 : decode c_L_law 187 = .ok (.iconst 2, 1) := by decide +kernel
theorem d_L_law_188 : decode c_L_law 188 = .ok (.iadd, 1) := by decide +kernel
theorem d_L_law_189 : decode c_L_law 189 = .ok (.iaload, 1) := by decide +kernel
theorem d_L_law_190 : decode c_L_law 190 = .ok (.ifCond .eq 7, 3) := by decide +kernel
theorem d_L_law_193 : decode c_L_law 193 = .ok (.iconst 1, 1) := by decide +kernel
theorem d_L_law_194 : decode c_L_law 194 = .ok (.goto 4, 3) := by decide +kernel
theorem d_L_law_197 : decode c_L_law 197 = .ok (.iconst 0, 1) := by decide +kernel
theorem d_L_law_198 : decode c_L_law 198 = .ok (.invokevirtual 33, 3) := by decide +kernel
theorem d_L_law_201 : decode c_L_law 201 = .ok (.pop, 1) := by decide +kernel
theorem d_L_law_202 : decode c_L_law 202 = .ok (.goto 479, 3) := by decide +kernel
theorem d_L_law_205 : decode c_L_law 205 = .ok (.aload_n 1, 1) := by decide +kernel
theorem d_L_law_206 : decode c_L_law 206 = .ok (.aload_n 0, 1) := by decide +kernel
theorem d_L_law_207 : decode c_L_law 207 = .ok (.iload 4, 2) := by decide +kernel
theorem d_L_law_209 : decode c_L_law 209 = .ok (.iconst 1, 1) := by decide +kernel
theorem d_L_law_210 : decode c_L_law 210 = .ok (.iadd, 1) := by decide +kernel
theorem d_L_law_211 : decode c_L_law 211 = .ok (.iaload, 1) := by decide +kernel
theorem d_L_law_212 : decode c_L_law 212 = .ok (.invokevirtual 34, 3) := by decide +kernel
theorem d_L_law_215 : decode c_L_law 215 = .ok (.pop, 1) := by decide +kernel
theorem d_L_law_216 : decode c_L_law 216 = .ok (.aload_n 2, 1) := by decide +kernel
theorem d_L_law_217 : decode c_L_law 217 = .ok (.aload_n 0, 1) := by decide +kernel
theorem d_L_law_218 : decode c_L_law 218 = .ok (.iload 4, 2) := by decide +kernel
theorem d_L_law_220 : decode c_L_law 220 = .ok (.iconst 1, 1) := by decide +kernel
theorem d_L_law_221 : decode c_L_law 221 = .ok (.iadd, 1) := by decide +kernel
theorem d_L_law_222 : decode c_L_law 222 = .ok (.iaload, 1) := by decide +kernel
theorem d_L_law_223 : decode c_L_law 223 = .ok (.invokevirtual 38, 3) := by decide +kernel
theorem d_L_law_226 : decode c_L_law 226 = .ok (.pop, 1) := by decide +kernel
theorem d_L_law_227 : decode c_L_law 227 = .ok (.goto 454, 3) := by decide +kernel
theorem d_L_law_230 : decode c_L_law 230 = .ok (.aload_n 1, 1) := by decide +kernel
theorem d_L_law_231 : decode c_L_law 231 = .ok (.aload_n 0, 1) := by decide +kernel
theorem d_L_law_232 : decode c_L_law 232 = .ok (.iload 4, 2) := by decide +kernel
theorem d_L_law_234 : decode c_L_law 234 = .ok (.iconst 1, 1) := by decide +kernel
theorem d_L_law_235 : decode c_L_law 235 = .ok (.iadd, 1) := by decide +kernel
theorem d_L_law_236 : decode c_L_law 236 = .ok (.iaload, 1) := by decide +kernel
theorem d_L_law_237 : decode c_L_law 237 = .ok (.aload_n 0, 1) := by decide +kernel
theorem d_L_law_238 : decode c_L_law 238 = .ok (.iload 4, 2) := by decide +kernel
theorem d_L_law_240 : decode c_L_law 240 = .ok (.iconst 2, 1) := by decide +kernel
theorem d_L_law_241 : decode c_L_law 241 = .ok (.iadd, 1) := by decide +kernel
theorem d_L_law_242 : decode c_L_law 242 = .ok (.iaload, 1) := by decide +kernel
theorem d_L_law_243 : decode c_L_law 243 = .ok (.aload_n 0, 1) := by decide +kernel
theorem d_L_law_244 : decode c_L_law 244 = .ok (.iload 4, 2) := by decide +kernel
theorem d_L_law_246 : decode c_L_law 246 = .ok (.iconst 3, 1) := by decide +kernel
theorem d_L_law_247 : decode c_L_law 247 = .ok (.iadd, 1) := by decide +kernel
theorem d_L_law_248 : decode c_L_law 248 = .ok (.iaload, 1) := by decide +kernel
theorem d_L_law_249 : decode c_L_law 249 = .ok (.invokevirtual 39, 3) := by decide +kernel
theorem d_L_law_252 : decode c_L_law 252 = .ok (.pop, 1) := by decide +kernel
theorem d_L_law_253 : decode c_L_law 253 = .ok (.aload_n 2, 1) := by decide +kernel
theorem d_L_law_254 : decode c_L_law 254 = .ok (.aload_n 0, 1) := by decide +kernel
theorem d_L_law_255 : decode c_L_law 255 = .ok (.iload 4, 2) := by decide +kernel
theorem d_L_law_257 : decode c_L_law 257 = .ok (.iconst 1, 1) := by decide +kernel
theorem d_L_law_258 : decode c_L_law 258 = .ok (.iadd, 1) := by decide +kernel
theorem d_L_law_259 : decode c_L_law 259 = .ok (.iaload, 1) := by decide +kernel
theorem d_L_law_260 : decode c_L_law 260 = .ok (.aload_n 0, 1) := by decide +kernel
theorem d_L_law_261 : decode c_L_law 261 = .ok (.iload 4, 2) := by decide +kernel
theorem d_L_law_263 : decode c_L_law 263 = .ok (.iconst 2, 1) := by decide +kernel
theorem d_L_law_264 : decode c_L_law 264 = .ok (.iadd, 1) := by decide +kernel
theorem d_L_law_265 : decode c_L_law 265 = .ok (.iaload, 1) := by decide +kernel
theorem d_L_law_266 : decode c_L_law 266 = .ok (.aload_n 0, 1) := by decide +kernel
theorem d_L_law_267 : decode c_L_law 267 = .ok (.iload 4, 2) := by decide +kernel
theorem d_L_law_269 : decode c_L_law 269 = .ok (.iconst 3, 1) := by decide +kernel
theorem d_L_law_270 : decode c_L_law 270 = .ok (.iadd, 1) := by decide +kernel
theorem d_L_law_271 : decode c_L_law 271 = .ok (.iaload, 1) := by decide +kernel
theorem d_L_law_272 : decode c_L_law 272 = .ok (.invokevirtual 42, 3) := by decide +kernel
theorem d_L_law_275 : decode c_L_law 275 = .ok (.pop, 1) := by decide +kernel
theorem d_L_law_276 : decode c_L_law 276 = .ok (.goto 405, 3) := by decide +kernel
theorem d_L_law_279 : decode c_L_law 279 = .ok (.aload_n 1, 1) := by decide +kernel
theorem d_L_law_280 : decode c_L_law 280 = .ok (.aload_n 0, 1) := by decide +kernel
theorem d_L_law_281 : decode c_L_law 281 = .ok (.iload 4, 2) := by decide +kernel
theorem d_L_law_283 : decode c_L_law 283 = .ok (.iconst 1, 1) := by decide +kernel
theorem d_L_law_284 : decode c_L_law 284 = .ok (.iadd, 1) := by decide +kernel
theorem d_L_law_285 : decode c_L_law 285 = .ok (.iaload, 1) := by decide +kernel
theorem d_L_law_286 : decode c_L_law 286 = .ok (.aload_n 0, 1) := by decide +kernel
theorem d_L_law_287 : decode c_L_law 287 = .ok (.iload 4, 2) := by decide +kernel
theorem d_L_law_289 : decode c_L_law 289 = .ok (.iconst 2, 1) := by decide +kernel
theorem d_L_law_290 : decode c_L_law 290 = .ok (.iadd, 1) := by decide +kernel
theorem d_L_law_291 : decode c_L_law 291 = .ok (.iaload, 1) := by decide +kernel
theorem d_L_law_292 : decode c_L_law 292 = .ok (.aload_n 0, 1) := by decide +kernel
theorem d_L_law_293 : decode c_L_law 293 = .ok (.iload 4, 2) := by decide +kernel
theorem d_L_law_295 : decode c_L_law 295 = .ok (.iconst 3, 1) := by decide +kernel
theorem d_L_law_296 : decode c_L_law 296 = .ok (.iadd, 1) := by decide +kernel
theorem d_L_law_297 : decode c_L_law 297 = .ok (.iaload, 1) := by decide +kernel
theorem d_L_law_298 : decode c_L_law 298 = .ok (.aload_n 3, 1) := by decide +kernel
theorem d_L_law_299 : decode c_L_law 299 = .ok (.invokestatic 43, 3) := by decide +kernel
theorem d_L_law_302 : decode c_L_law 302 = .ok (.istore 5, 2) := by decide +kernel
theorem d_L_law_304 : decode c_L_law 304 = .ok (.aload_n 2, 1) := by decide +kernel
theorem d_L_law_305 : decode c_L_law 305 = .ok (.aload_n 0, 1) := by decide +kernel
theorem d_L_law_306 : decode c_L_law 306 = .ok (.iload 4, 2) := by decide +kernel
theorem d_L_law_308 : decode c_L_law 308 = .ok (.iconst 1, 1) := by decide +kernel
theorem d_L_law_309 : decode c_L_law 309 = .ok (.iadd, 1) := by decide +kernel
theorem d_L_law_310 : decode c_L_law 310 = .ok (.iaload, 1) := by decide +kernel
theorem d_L_law_311 : decode c_L_law 311 = .ok (.aload_n 0, 1) := by decide +kernel
theorem d_L_law_312 : decode c_L_law 312 = .ok (.iload 4, 2) := by decide +kernel
theorem d_L_law_314 : decode c_L_law 314 = .ok (.iconst 2, 1) := by decide +kernel
theorem d_L_law_315 : decode c_L_law 315 = .ok (.iadd, 1) := by decide +kernel
theorem d_L_law_316 : decode c_L_law 316 = .ok (.iaload, 1) := by decide +kernel
theorem d_L_law_317 : decode c_L_law 317 = .ok (.aload_n 0, 1) := by decide +kernel
theorem d_L_law_318 : decode c_L_law 318 = .ok (.iload 4, 2) := by decide +kernel
theorem d_L_law_320 : decode c_L_law 320 = .ok (.iconst 3, 1) := by decide +kernel
theorem d_L_law_321 : decode c_L_law 321 = .ok (.iadd, 1) := by decide +kernel
theorem d_L_law_322 : decode c_L_law 322 = .ok (.iaload, 1) := by decide +kernel
theorem d_L_law_323 : decode c_L_law 323 = .ok (.invokevirtual 48, 3) := by decide +kernel
theorem d_L_law_326 : decode c_L_law 326 = .ok (.istore 6, 2) := by decide +kernel
theorem d_L_law_328 : decode c_L_law 328 = .ok (.goto 353, 3) := by decide +kernel
theorem d_L_law_331 : decode c_L_law 331 = .ok (.aload_n 1, 1) := by decide +kernel
theorem d_L_law_332 : decode c_L_law 332 = .ok (.aload_n 0, 1) := by decide +kernel
theorem d_L_law_333 : decode c_L_law 333 = .ok (.iload 4, 2) := by decide +kernel
theorem d_L_law_335 : decode c_L_law 335 = .ok (.iconst 1, 1) := by decide +kernel
theorem d_L_law_336 : decode c_L_law 336 = .ok (.iadd, 1) := by decide +kernel
theorem d_L_law_337 : decode c_L_law 337 = .ok (.iaload, 1) := by decide +kernel
theorem d_L_law_338 : decode c_L_law 338 = .ok (.invokevirtual 49, 3) := by decide +kernel
theorem d_L_law_341 : decode c_L_law 341 = .ok (.pop, 1) := by decide +kernel
theorem d_L_law_342 : decode c_L_law 342 = .ok (.aload_n 2, 1) := by decide +kernel
theorem d_L_law_343 : decode c_L_law 343 = .ok (.aload_n 0, 1) := by decide +kernel
theorem d_L_law_344 : decode c_L_law 344 = .ok (.iload 4, 2) := by decide +kernel
theorem d_L_law_346 : decode c_L_law 346 = .ok (.iconst 1, 1) := by decide +kernel
theorem d_L_law_347 : decode c_L_law 347 = .ok (.iadd, 1) := by decide +kernel
theorem d_L_law_348 : decode c_L_law 348 = .ok (.iaload, 1) := by decide +kernel
theorem d_L_law_349 : decode c_L_law 349 = .ok (.invokevirtual 52, 3) := by decide +kernel
theorem d_L_law_352 : decode c_L_law 352 = .ok (.pop, 1) := by decide +kernel
theorem d_L_law_353 : decode c_L_law 353 = .ok (.goto 328, 3) := by decide +kernel
theorem d_L_law_356 : decode c_L_law 356 = .ok (.aload_n 1, 1) := by decide +kernel
theorem d_L_law_357 : decode c_L_law 357 = .ok (.aload_n 0, 1) := by decide +kernel
theorem d_L_law_358 : decode c_L_law 358 = .ok (.iload 4, 2) := by decide +kernel
theorem d_L_law_360 : decode c_L_law 360 = .ok (.iconst 1, 1) := by decide +kernel
theorem d_L_law_361 : decode c_L_law 361 = .ok (.iadd, 1) := by decide +kernel
theorem d_L_law_362 : decode c_L_law 362 = .ok (.iaload, 1) := by decide +kernel
theorem d_L_law_363 : decode c_L_law 363 = .ok (.aload_n 0, 1) := by decide +kernel
theorem d_L_law_364 : decode c_L_law 364 = .ok (.iload 4, 2) := by decide +kernel
theorem d_L_law_366 : decode c_L_law 366 = .ok (.iconst 2, 1) := by decide +kernel
theorem d_L_law_367 : decode c_L_law 367 = .ok (.iadd, 1) := by decide +kernel
theorem d_L_law_368 : decode c_L_law 368 = .ok (.iaload, 1) := by decide +kernel
theorem d_L_law_369 : decode c_L_law 369 = .ok (.invokevirtual 53, 3) := by decide +kernel
theorem d_L_law_372 : decode c_L_law 372 = .ok (.aload_n 2, 1) := by decide +kernel
theorem d_L_law_373 : decode c_L_law 373 = .ok (.aload_n 0, 1) := by decide +kernel
theorem d_L_law_374 : decode c_L_law 374 = .ok (.iload 4, 2) := by decide +kernel
theorem d_L_law_376 : decode c_L_law 376 = .ok (.iconst 1, 1) := by decide +kernel
theorem d_L_law_377 : decode c_L_law 377 = .ok (.iadd, 1) := by decide +kernel
theorem d_L_law_378 : decode c_L_law 378 = .ok (.iaload, 1) := by decide +kernel
theorem d_L_law_379 : decode c_L_law 379 = .ok (.aload_n 0, 1) := by decide +kernel
theorem d_L_law_380 : decode c_L_law 380 = .ok (.iload 4, 2) := by decide +kernel
theorem d_L_law_382 : decode c_L_law 382 = .ok (.iconst 2, 1) := by decide +kernel
theorem d_L_law_383 : decode c_L_law 383 = .ok (.iadd, 1) := by decide +kernel
theorem d_L_law_384 : decode c_L_law 384 = .ok (.iaload, 1) := by decide +kernel
theorem d_L_law_385 : decode c_L_law 385 = .ok (.invokevirtual 57, 3) := by decide +kernel
theorem d_L_law_388 : decode c_L_law 388 = .ok (.if_icmp .eq 293, 3) := by decide +kernel
theorem d_L_law_393 : decode c_L_law 393 = .ok (.aload_n 1, 1) := by decide +kernel
theorem d_L_law_394 : decode c_L_law 394 = .ok (.aload_n 0, 1) := by decide +kernel
theorem d_L_law_395 : decode c_L_law 395 = .ok (.iload 4, 2) := by decide +kernel
theorem d_L_law_397 : decode c_L_law 397 = .ok (.iconst 1, 1) := by decide +kernel
theorem d_L_law_398 : decode c_L_law 398 = .ok (.iadd, 1) := by decide +kernel
theorem d_L_law_399 : decode c_L_law 399 = .ok (.iaload, 1) := by decide +kernel
theorem d_L_law_400 : decode c_L_law 400 = .ok (.aload_n 0, 1) := by decide +kernel
theorem d_L_law_401 : decode c_L_law 401 = .ok (.iload 4, 2) := by decide +kernel
theorem d_L_law_403 : decode c_L_law 403 = .ok (.iconst 2, 1) := by decide +kernel
theorem d_L_law_404 : decode c_L_law 404 = .ok (.iadd, 1) := by decide +kernel
theorem d_L_law_405 : decode c_L_law 405 = .ok (.iaload, 1) := by decide +kernel
theorem d_L_law_406 : decode c_L_law 406 = .ok (.invokevirtual 58, 3) := by decide +kernel
theorem d_L_law_409 : decode c_L_law 409 = .ok (.pop, 1) := by decide +kernel
theorem d_L_law_410 : decode c_L_law 410 = .ok (.aload_n 2, 1) := by decide +kernel
theorem d_L_law_411 : decode c_L_law 411 = .ok (.aload_n 0, 1) := by decide +kernel
theorem d_L_law_412 : decode c_L_law 412 = .ok (.iload 4, 2) := by decide +kernel
theorem d_L_law_414 : decode c_L_law 414 = .ok (.iconst 1, 1) := by decide +kernel
theorem d_L_law_415 : decode c_L_law 415 = .ok (.iadd, 1) := by decide +kernel
theorem d_L_law_416 : decode c_L_law 416 = .ok (.iaload, 1) := by decide +kernel
theorem d_L_law_417 : decode c_L_law 417 = .ok (.aload_n 0, 1) := by decide +kernel
theorem d_L_law_418 : decode c_L_law 418 = .ok (.iload 4, 2) := by decide +kernel
theorem d_L_law_420 : decode c_L_law 420 = .ok (.iconst 2, 1) := by decide +kernel
theorem d_L_law_421 : decode c_L_law 421 = .ok (.iadd, 1) := by decide +kernel
theorem d_L_law_422 : decode c_L_law 422 = .ok (.iaload, 1) := by decide +kernel
theorem d_L_law_423 : decode c_L_law 423 = .ok (.invokevirtual 61, 3) := by decide +kernel
theorem d_L_law_426 : decode c_L_law 426 = .ok (.pop, 1) := by decide +kernel
theorem d_L_law_427 : decode c_L_law 427 = .ok (.goto 254, 3) := by decide +kernel
theorem d_L_law_430 : decode c_L_law 430 = .ok (.aload_n 1, 1) := by decide +kernel
theorem d_L_law_431 : decode c_L_law 431 = .ok (.aload_n 0, 1) := by decide +kernel
theorem d_L_law_432 : decode c_L_law 432 = .ok (.iload 4, 2) := by decide +kernel
theorem d_L_law_434 : decode c_L_law 434 = .ok (.iconst 1, 1) := by decide +kernel
theorem d_L_law_435 : decode c_L_law 435 = .ok (.iadd, 1) := by decide +kernel
theorem d_L_law_436 : decode c_L_law 436 = .ok (.iaload, 1) := by decide +kernel
theorem d_L_law_437 : decode c_L_law 437 = .ok (.invokevirtual 62, 3) := by decide +kernel
theorem d_L_law_440 : decode c_L_law 440 = .ok (.pop, 1) := by decide +kernel
theorem d_L_law_441 : decode c_L_law 441 = .ok (.aload_n 2, 1) := by decide +kernel
theorem d_L_law_442 : decode c_L_law 442 = .ok (.aload_n 0, 1) := by decide +kernel
theorem d_L_law_443 : decode c_L_law 443 = .ok (.iload 4, 2) := by decide +kernel
theorem d_L_law_445 : decode c_L_law 445 = .ok (.iconst 1, 1) := by decide +kernel
theorem d_L_law_446 : decode c_L_law 446 = .ok (.iadd, 1) := by decide +kernel
theorem d_L_law_447 : decode c_L_law 447 = .ok (.iaload, 1) := by decide +kernel
theorem d_L_law_448 : decode c_L_law 448 = .ok (.invokevirtual 65, 3) := by decide +kernel
theorem d_L_law_451 : decode c_L_law 451 = .ok (.pop, 1) := by decide +kernel
theorem d_L_law_452 : decode c_L_law 452 = .ok (.goto 229, 3) := by decide +kernel
theorem d_L_law_455 : decode c_L_law 455 = .ok (.aload_n 1, 1) := by decide +kernel
theorem d_L_law_456 : decode c_L_law 456 = .ok (.aload_n 0, 1) := by decide +kernel
theorem d_L_law_457 : decode c_L_law 457 = .ok (.iload 4, 2) := by decide +kernel
theorem d_L_law_459 : decode c_L_law 459 = .ok (.iconst 1, 1) := by decide +kernel
theorem d_L_law_460 : decode c_L_law 460 = .ok (.iadd, 1) := by decide +kernel
theorem d_L_law_461 : decode c_L_law 461 = .ok (.iaload, 1) := by decide +kernel
theorem d_L_law_462 : decode c_L_law 462 = .ok (.aload_n 0, 1) := by decide +kernel
theorem d_L_law_463 : decode c_L_law 463 = .ok (.iload 4, 2) := by decide +kernel
theorem d_L_law_465 : decode c_L_law 465 = .ok (.iconst 2, 1) := by decide +kernel
theorem d_L_law_466 : decode c_L_law 466 = .ok (.iadd, 1) := by decide +kernel
theorem d_L_law_467 : decode c_L_law 467 = .ok (.iaload, 1) := by decide +kernel
theorem d_L_law_468 : decode c_L_law 468 = .ok (.invokevirtual 66, 3) := by decide +kernel
theorem d_L_law_471 : decode c_L_law 471 = .ok (.pop, 1) := by decide +kernel
theorem d_L_law_472 : decode c_L_law 472 = .ok (.aload_n 2, 1) := by decide +kernel
theorem d_L_law_473 : decode c_L_law 473 = .ok (.aload_n 0, 1) := by decide +kernel
theorem d_L_law_474 : decode c_L_law 474 = .ok (.iload 4, 2) := by decide +kernel
theorem d_L_law_476 : decode c_L_law 476 = .ok (.iconst 1, 1) := by decide +kernel
theorem d_L_law_477 : decode c_L_law 477 = .ok (.iadd, 1) := by decide +kernel
theorem d_L_law_478 : decode c_L_law 478 = .ok (.iaload, 1) := by decide +kernel
theorem d_L_law_479 : decode c_L_law 479 = .ok (.aload_n 0, 1) := by decide +kernel
theorem d_L_law_480 : decode c_L_law 480 = .ok (.iload 4, 2) := by decide +kernel
theorem d_L_law_482 : decode c_L_law 482 = .ok (.iconst 2, 1) := by decide +kernel
theorem d_L_law_483 : decode c_L_law 483 = .ok (.iadd, 1) := by decide +kernel
theorem d_L_law_484 : decode c_L_law 484 = .ok (.iaload, 1) := by decide +kernel
theorem d_L_law_485 : decode c_L_law 485 = .ok (.invokevirtual 69, 3) := by decide +kernel
theorem d_L_law_488 : decode c_L_law 488 = .ok (.pop, 1) := by decide +kernel
theorem d_L_law_489 : decode c_L_law 489 = .ok (.goto 192, 3) := by decide +kernel
theorem d_L_law_492 : decode c_L_law 492 = .ok (.aload_n 1, 1) := by decide +kernel
theorem d_L_law_493 : decode c_L_law 493 = .ok (.aload_n 0, 1) := by decide +kernel
theorem d_L_law_494 : decode c_L_law 494 = .ok (.iload 4, 2) := by decide +kernel
theorem d_L_law_496 : decode c_L_law 496 = .ok (.iconst 1, 1) := by decide +kernel
theorem d_L_law_497 : decode c_L_law 497 = .ok (.iadd, 1) := by decide +kernel
theorem d_L_law_498 : decode c_L_law 498 = .ok (.iaload, 1) := by decide +kernel
theorem d_L_law_499 : decode c_L_law 499 = .ok (.aload_n 0, 1) := by decide +kernel
theorem d_L_law_500 : decode c_L_law 500 = .ok (.iload 4, 2) := by decide +kernel
theorem d_L_law_502 : decode c_L_law 502 = .ok (.iconst 2, 1) := by decide +kernel
theorem d_L_law_503 : decode c_L_law 503 = .ok (.iadd, 1) := by decide +kernel
theorem d_L_law_504 : decode c_L_law 504 = .ok (.iaload, 1) := by decide +kernel
theorem d_L_law_505 : decode c_L_law 505 = .ok (.aload_n 0, 1) := by decide +kernel
theorem d_L_law_506 : decode c_L_law 506 = .ok (.iload 4, 2) := by decide +kernel
theorem d_L_law_508 : decode c_L_law 508 = .ok (.iconst 3, 1) := by decide +kernel
theorem d_L_law_509 : decode c_L_law 509 = .ok (.iadd, 1) := by decide +kernel
theorem d_L_law_510 : decode c_L_law 510 = .ok (.iaload, 1) := by decide +kernel
theorem d_L_law_511 : decode c_L_law 511 = .ok (.invokevirtual 70, 3) := by decide +kernel
theorem d_L_law_514 : decode c_L_law 514 = .ok (.pop, 1) := by decide +kernel
theorem d_L_law_515 : decode c_L_law 515 = .ok (.aload_n 2, 1) := by decide +kernel
theorem d_L_law_516 : decode c_L_law 516 = .ok (.aload_n 0, 1) := by decide +kernel
theorem d_L_law_517 : decode c_L_law 517 = .ok (.iload 4, 2) := by decide +kernel
theorem d_L_law_519 : decode c_L_law 519 = .ok (.iconst 1, 1) := by decide +kernel
theorem d_L_law_520 : decode c_L_law 520 = .ok (.iadd, 1) := by decide +kernel
theorem d_L_law_521 : decode c_L_law 521 = .ok (.iaload, 1) := by decide +kernel
theorem d_L_law_522 : decode c_L_law 522 = .ok (.aload_n 0, 1) := by decide +kernel
theorem d_L_law_523 : decode c_L_law 523 = .ok (.iload 4, 2) := by decide +kernel
theorem d_L_law_525 : decode c_L_law 525 = .ok (.iconst 2, 1) := by decide +kernel
theorem d_L_law_526 : decode c_L_law 526 = .ok (.iadd, 1) := by decide +kernel
theorem d_L_law_527 : decode c_L_law 527 = .ok (.iaload, 1) := by decide +kernel
theorem d_L_law_528 : decode c_L_law 528 = .ok (.aload_n 0, 1) := by decide +kernel
theorem d_L_law_529 : decode c_L_law 529 = .ok (.iload 4, 2) := by decide +kernel
theorem d_L_law_531 : decode c_L_law 531 = .ok (.iconst 3, 1) := by decide +kernel
theorem d_L_law_532 : decode c_L_law 532 = .ok (.iadd, 1) := by decide +kernel
theorem d_L_law_533 : decode c_L_law 533 = .ok (.iaload, 1) := by decide +kernel
theorem d_L_law_534 : decode c_L_law 534 = .ok (.invokevirtual 73, 3) := by decide +kernel
theorem d_L_law_537 : decode c_L_law 537 = .ok (.pop, 1) := by decide +kernel
theorem d_L_law_538 : decode c_L_law 538 = .ok (.goto 143, 3) := by decide +kernel
theorem d_L_law_541 : decode c_L_law 541 = .ok (.aload_n 1, 1) := by decide +kernel
theorem d_L_law_542 : decode c_L_law 542 = .ok (.aload_n 0, 1) := by decide +kernel
theorem d_L_law_543 : decode c_L_law 543 = .ok (.iload 4, 2) := by decide +kernel
theorem d_L_law_545 : decode c_L_law 545 = .ok (.iconst 1, 1) := by decide +kernel
theorem d_L_law_546 : decode c_L_law 546 = .ok (.iadd, 1) := by decide +kernel
theorem d_L_law_547 : decode c_L_law 547 = .ok (.iaload, 1) := by decide +kernel
theorem d_L_law_548 : decode c_L_law 548 = .ok (.aload_n 0, 1) := by decide +kernel
theorem d_L_law_549 : decode c_L_law 549 = .ok (.iload 4, 2) := by decide +kernel
theorem d_L_law_551 : decode c_L_law 551 = .ok (.iconst 2, 1) := by decide +kernel
theorem d_L_law_552 : decode c_L_law 552 = .ok (.iadd, 1) := by decide +kernel
theorem d_L_law_553 : decode c_L_law 553 = .ok (.iaload, 1) := by decide +kernel
theorem d_L_law_554 : decode c_L_law 554 = .ok (.ifCond .eq 7, 3) := by decide +kernel
theorem d_L_law_557 : decode c_L_law 557 = .ok (.iconst 1, 1) := by decide +kernel
theorem d_L_law_558 : decode c_L_law 558 = .ok (.goto 4, 3) := by decide +kernel
theorem d_L_law_561 : decode c_L_law 561 = .ok (.iconst 0, 1) := by decide +kernel
theorem d_L_law_562 : decode c_L_law 562 = .ok (.invokevirtual 74, 3) := by decide +kernel
theorem d_L_law_565 : decode c_L_law 565 = .ok (.pop, 1) := by decide +kernel
theorem d_L_law_566 : decode c_L_law 566 = .ok (.aload_n 2, 1) := by decide +kernel
theorem d_L_law_567 : decode c_L_law 567 = .ok (.aload_n 0, 1) := by decide +kernel
theorem d_L_law_568 : decode c_L_law 568 = .ok (.iload 4, 2) := by decide +kernel
theorem d_L_law_570 : decode c_L_law 570 = .ok (.iconst 1, 1) := by decide +kernel
theorem d_L_law_571 : decode c_L_law 571 = .ok (.iadd, 1) := by decide +kernel
theorem d_L_law_572 : decode c_L_law 572 = .ok (.iaload, 1) := by decide +kernel
theorem d_L_law_573 : decode c_L_law 573 = .ok (.aload_n 0, 1) := by decide +kernel
theorem d_L_law_574 : decode c_L_law 574 = .ok (.iload 4, 2) := by decide +kernel
theorem d_L_law_576 : decode c_L_law 576 = .ok (.iconst 2, 1) := by decide +kernel
theorem d_L_law_577 : decode c_L_law 577 = .ok (.iadd, 1) := by decide +kernel
theorem d_L_law_578 : decode c_L_law 578 = .ok (.iaload, 1) := by decide +kernel
theorem d_L_law_579 : decode c_L_law 579 = .ok (.ifCond .eq 7, 3) := by decide +kernel
theorem d_L_law_582 : decode c_L_law 582 = .ok (.iconst 1, 1) := by decide +kernel
theorem d_L_law_583 : decode c_L_law 583 = .ok (.goto 4, 3) := by decide +kernel
theorem d_L_law_586 : decode c_L_law 586 = .ok (.iconst 0, 1) := by decide +kernel
theorem d_L_law_587 : decode c_L_law 587 = .ok (.invokevirtual 77, 3) := by decide +kernel
theorem d_L_law_590 : decode c_L_law 590 = .ok (.pop, 1) := by decide +kernel
theorem d_L_law_591 : decode c_L_law 591 = .ok (.goto 90, 3) := by decide +kernel
theorem d_L_law_594 : decode c_L_law 594 = .ok (.aload_n 1, 1) := by decide +kernel
theorem d_L_law_595 : decode c_L_law 595 = .ok (.aload_n 0, 1) := by decide +kernel
theorem d_L_law_596 : decode c_L_law 596 = .ok (.iload 4, 2) := by decide +kernel
theorem d_L_law_598 : decode c_L_law 598 = .ok (.iconst 1, 1) := by decide +kernel
theorem d_L_law_599 : decode c_L_law 599 = .ok (.iadd, 1) := by decide +kernel
theorem d_L_law_600 : decode c_L_law 600 = .ok (.iaload, 1) := by decide +kernel
theorem d_L_law_601 : decode c_L_law 601 = .ok (.invokevirtual 78, 3) := by decide +kernel
theorem d_L_law_604 : decode c_L_law 604 = .ok (.pop, 1) := by decide +kernel
theorem d_L_law_605 : decode c_L_law 605 = .ok (.aload_n 2, 1) := by decide +kernel
theorem d_L_law_606 : decode c_L_law 606 = .ok (.aload_n 0, 1) := by decide +kernel
theorem d_L_law_607 : decode c_L_law 607 = .ok (.iload 4, 2) := by decide +kernel
theorem d_L_law_609 : decode c_L_law 609 = .ok (.iconst 1, 1) := by decide +kernel
theorem d_L_law_610 : decode c_L_law 610 = .ok (.iadd, 1) := by decide +kernel
theorem d_L_law_611 : decode c_L_law 611 = .ok (.iaload, 1) := by decide +kernel
theorem d_L_law_612 : decode c_L_law 612 = .ok (.invokevirtual 81, 3) := by decide +kernel
theorem d_L_law_615 : decode c_L_law 615 = .ok (.pop, 1) := by decide +kernel
theorem d_L_law_616 : decode c_L_law 616 = .ok (.goto 65, 3) := by decide +kernel
theorem d_L_law_619 : decode c_L_law 619 = .ok (.aload_n 1, 1) := by decide +kernel
theorem d_L_law_620 : decode c_L_law 620 = .ok (.aload_n 0, 1) := by decide +kernel
theorem d_L_law_621 : decode c_L_law 621 = .ok (.iload 4, 2) := by decide +kernel
theorem d_L_law_623 : decode c_L_law 623 = .ok (.iconst 1, 1) := by decide +kernel
theorem d_L_law_624 : decode c_L_law 624 = .ok (.iadd, 1) := by decide +kernel
theorem d_L_law_625 : decode c_L_law 625 = .ok (.iaload, 1) := by decide +kernel
theorem d_L_law_626 : decode c_L_law 626 = .ok (.invokevirtual 82, 3) := by decide +kernel
theorem d_L_law_629 : decode c_L_law 629 = .ok (.pop, 1) := by decide +kernel
theorem d_L_law_630 : decode c_L_law 630 = .ok (.aload_n 2, 1) := by decide +kernel
theorem d_L_law_631 : decode c_L_law 631 = .ok (.aload_n 0, 1) := by decide +kernel
theorem d_L_law_632 : decode c_L_law 632 = .ok (.iload 4, 2) := by decide +kernel
theorem d_L_law_634 : decode c_L_law 634 = .ok (.iconst 1, 1) := by decide +kernel
theorem d_L_law_635 : decode c_L_law 635 = .ok (.iadd, 1) := by decide +kernel
theorem d_L_law_636 : decode c_L_law 636 = .ok (.iaload, 1) := by decide +kernel
theorem d_L_law_637 : decode c_L_law 637 = .ok (.invokevirtual 85, 3) := by decide +kernel
theorem d_L_law_640 : decode c_L_law 640 = .ok (.pop, 1) := by decide +kernel
theorem d_L_law_641 : decode c_L_law 641 = .ok (.goto 40, 3) := by decide +kernel
theorem d_L_law_644 : decode c_L_law 644 = .ok (.aload_n 1, 1) := by decide +kernel
theorem d_L_law_645 : decode c_L_law 645 = .ok (.aload_n 0, 1) := by decide +kernel
theorem d_L_law_646 : decode c_L_law 646 = .ok (.iload 4, 2) := by decide +kernel
theorem d_L_law_648 : decode c_L_law 648 = .ok (.iconst 1, 1) := by decide +kernel
theorem d_L_law_649 : decode c_L_law 649 = .ok (.iadd, 1) := by decide +kernel
theorem d_L_law_650 : decode c_L_law 650 = .ok (.iaload, 1) := by decide +kernel
theorem d_L_law_651 : decode c_L_law 651 = .ok (.aload_n 0, 1) := by decide +kernel
theorem d_L_law_652 : decode c_L_law 652 = .ok (.iload 4, 2) := by decide +kernel
theorem d_L_law_654 : decode c_L_law 654 = .ok (.iconst 2, 1) := by decide +kernel
theorem d_L_law_655 : decode c_L_law 655 = .ok (.iadd, 1) := by decide +kernel
theorem d_L_law_656 : decode c_L_law 656 = .ok (.iaload, 1) := by decide +kernel
theorem d_L_law_657 : decode c_L_law 657 = .ok (.invokevirtual 86, 3) := by decide +kernel
theorem d_L_law_660 : decode c_L_law 660 = .ok (.pop, 1) := by decide +kernel
theorem d_L_law_661 : decode c_L_law 661 = .ok (.aload_n 2, 1) := by decide +kernel
theorem d_L_law_662 : decode c_L_law 662 = .ok (.aload_n 0, 1) := by decide +kernel
theorem d_L_law_663 : decode c_L_law 663 = .ok (.iload 4, 2) := by decide +kernel
theorem d_L_law_665 : decode c_L_law 665 = .ok (.iconst 1, 1) := by decide +kernel
theorem d_L_law_666 : decode c_L_law 666 = .ok (.iadd, 1) := by decide +kernel
theorem d_L_law_667 : decode c_L_law 667 = .ok (.iaload, 1) := by decide +kernel
theorem d_L_law_668 : decode c_L_law 668 = .ok (.aload_n 0, 1) := by decide +kernel
theorem d_L_law_669 : decode c_L_law 669 = .ok (.iload 4, 2) := by decide +kernel
theorem d_L_law_671 : decode c_L_law 671 = .ok (.iconst 2, 1) := by decide +kernel
theorem d_L_law_672 : decode c_L_law 672 = .ok (.iadd, 1) := by decide +kernel
theorem d_L_law_673 : decode c_L_law 673 = .ok (.iaload, 1) := by decide +kernel
theorem d_L_law_674 : decode c_L_law 674 = .ok (.invokevirtual 89, 3) := by decide +kernel
theorem d_L_law_677 : decode c_L_law 677 = .ok (.pop, 1) := by decide +kernel
theorem d_L_law_678 : decode c_L_law 678 = .ok (.goto 3, 3) := by decide +kernel
theorem d_L_law_681 : decode c_L_law 681 = .ok (.iinc 4 4, 3) := by decide +kernel
theorem d_L_law_684 : decode c_L_law 684 = .ok (.goto (-661), 3) := by decide +kernel
theorem d_L_law_687 : decode c_L_law 687 = .ok (.iconst 1, 1) := by decide +kernel
theorem d_L_law_688 : decode c_L_law 688 = .ok (.ireturn, 1) := by decide +kernel
theorem d_L_lend_0 : decode c_L_lend 0 = .ok (.aload 4, 2) := by decide +kernel
theorem d_L_lend_2 : decode c_L_lend 2 = .ok (.iconst 0, 1) := by decide +kernel
theorem d_L_lend_3 : decode c_L_lend 3 = .ok (.aload_n 0, 1) := by decide +kernel
theorem d_L_lend_4 : decode c_L_lend 4 = .ok (.iload_n 1, 1) := by decide +kernel
theorem d_L_lend_5 : decode c_L_lend 5 = .ok (.iload_n 2, 1) := by decide +kernel
theorem d_L_lend_6 : decode c_L_lend 6 = .ok (.iload_n 3, 1) := by decide +kernel
theorem d_L_lend_7 : decode c_L_lend 7 = .ok (.invokevirtual 7, 3) := by decide +kernel
theorem d_L_lend_10 : decode c_L_lend 10 = .ok (.i2l, 1) := by decide +kernel
theorem d_L_lend_11 : decode c_L_lend 11 = .ok (.lastore, 1) := by decide +kernel
theorem d_L_lend_12 : decode c_L_lend 12 = .ok (.goto 7, 3) := by decide +kernel
theorem d_L_lend_15 : decode c_L_lend 15 = .ok (.astore 5, 2) := by decide +kernel
theorem d_L_lend_17 : decode c_L_lend 17 = .ok (.iconst 1, 1) := by decide +kernel
theorem d_L_lend_18 : decode c_L_lend 18 = .ok (.ireturn, 1) := by decide +kernel
theorem d_L_lend_19 : decode c_L_lend 19 = .ok (.iconst 0, 1) := by decide +kernel
theorem d_L_lend_20 : decode c_L_lend 20 = .ok (.ireturn, 1) := by decide +kernel
theorem d_M_back_0 : decode c_M_back 0 = .ok (.aload_n 0, 1) := by decide +kernel
theorem d_M_back_1 : decode c_M_back 1 = .ok (.iconst 0, 1) := by decide +kernel
theorem d_M_back_2 : decode c_M_back 2 = .ok (.putfield 54, 3) := by decide +kernel
theorem d_M_back_5 : decode c_M_back 5 = .ok (.aload_n 0, 1) := by decide +kernel
theorem d_M_back_6 : decode c_M_back 6 = .ok (.iload_n 1, 1) := by decide +kernel
theorem d_M_back_7 : decode c_M_back 7 = .ok (.invokevirtual 172, 3) := by decide +kernel
theorem d_M_back_10 : decode c_M_back 10 = .ok (.ifCond .ne 5, 3) := by decide +kernel
theorem d_M_back_13 : decode c_M_back 13 = .ok (.iconst 0, 1) := by decide +kernel
theorem d_M_back_14 : decode c_M_back 14 = .ok (.ireturn, 1) := by decide +kernel
theorem d_M_back_15 : decode c_M_back 15 = .ok (.aload_n 0, 1) := by decide +kernel
theorem d_M_back_16 : decode c_M_back 16 = .ok (.getfield 42, 3) := by decide +kernel
theorem d_M_back_19 : decode c_M_back 19 = .ok (.bipush 7, 2) := by decide +kernel
theorem d_M_back_21 : decode c_M_back 21 = .ok (.iload_n 1, 1) := by decide +kernel
theorem d_M_back_22 : decode c_M_back 22 = .ok (.imul, 1) := by decide +kernel
theorem d_M_back_23 : decode c_M_back 23 = .ok (.bipush 6, 2) := by decide +kernel
theorem d_M_back_25 : decode c_M_back 25 = .ok (.iadd, 1) := by decide +kernel
theorem d_M_back_26 : decode c_M_back 26 = .ok (.iconst 0, 1) := by decide +kernel
theorem d_M_back_27 : decode c_M_back 27 = .ok (.iastore, 1) := by decide +kernel
theorem d_M_back_28 : decode c_M_back 28 = .ok (.aload_n 0, 1) := by decide +kernel
theorem d_M_back_29 : decode c_M_back 29 = .ok (.getfield 45, 3) := by decide +kernel
theorem d_M_back_32 : decode c_M_back 32 = .ok (.aload_n 0, 1) := by decide +kernel
theorem d_M_back_33 : decode c_M_back 33 = .ok (.getfield 42, 3) := by decide +kernel
theorem d_M_back_36 : decode c_M_back 36 = .ok (.bipush 7, 2) := by decide +kernel
theorem d_M_back_38 : decode c_M_back 38 = .ok (.iload_n 1, 1) := by decide +kernel
theorem d_M_back_39 : decode c_M_back 39 = .ok (.imul, 1) := by decide +kernel
theorem d_M_back_40 : decode c_M_back 40 = .ok (.iaload, 1) := by decide +kernel
theorem d_M_back_41 : decode c_M_back 41 = .ok (.iconst 0, 1) := by decide +kernel
theorem d_M_back_42 : decode c_M_back 42 = .ok (.iastore, 1) := by decide +kernel
theorem d_M_back_43 : decode c_M_back 43 = .ok (.iconst 1, 1) := by decide +kernel
theorem d_M_back_44 : decode c_M_back 44 = .ok (.ireturn, 1) := by decide +kernel
theorem d_M_bad_0 : decode c_M_bad 0 = .ok (.aload_n 0, 1) := by decide +kernel
theorem d_M_bad_1 : decode c_M_bad 1 = .ok (.iload_n 1, 1) := by decide +kernel
theorem d_M_bad_2 : decode c_M_bad 2 = .ok (.putfield 61, 3) := by decide +kernel
theorem d_M_bad_5 : decode c_M_bad 5 = .ok (.iconst 0, 1) := by decide +kernel
theorem d_M_bad_6 : decode c_M_bad 6 = .ok (.ireturn, 1) := by decide +kernel
theorem d_M_block_0 : decode c_M_block 0 = .ok (.aload_n 0, 1) := by decide +kernel
theorem d_M_block_1 : decode c_M_block 1 = .ok (.iconst 0, 1) := by decide +kernel
theorem d_M_block_2 : decode c_M_block 2 = .ok (.putfield 54, 3) := by decide +kernel
theorem d_M_block_5 : decode c_M_block 5 = .ok (.iload_n 1, 1) := by decide +kernel
theorem d_M_block_6 : decode c_M_block 6 = .ok (.invokestatic 143, 3) := by decide +kernel
theorem d_M_block_9 : decode c_M_block 9 = .ok (.ifCond .eq 13, 3) := by decide +kernel
theorem d_M_block_12 : decode c_M_block 12 = .ok (.iload_n 2, 1) := by decide +kernel
theorem d_M_block_13 : decode c_M_block 13 = .ok (.ifCond .lt 9, 3) := by decide +kernel
theorem d_M_block_16 : decode c_M_block 16 = .ok (.iload_n 2, 1) := by decide +kernel
theorem d_M_block_17 : decode c_M_block 17 = .ok (.bipush 9, 2) := by decide +kernel
theorem d_M_block_19 : decode c_M_block 19 = .ok (.if_icmp .le 5, 3) := by decide +kernel
theorem d_M_block_22 : decode c_M_block 22 = .ok (.iconst (-1), 1) := by decide +kernel
theorem d_M_block_23 : decode c_M_block 23 = .ok (.ireturn, 1) := by decide +kernel
theorem d_M_block_24 : decode c_M_block 24 = .ok (.aload_n 0, 1) := by decide +kernel
theorem d_M_block_25 : decode c_M_block 25 = .ok (.getfield 36, 3) := by decide +kernel
theorem d_M_block_28 : decode c_M_block 28 = .ok (.iload_n 1, 1) := by decide +kernel
theorem d_M_block_29 : decode c_M_block 29 = .ok (.iaload, 1) := by decide +kernel
theorem d_M_block_30 : decode c_M_block 30 = .ok (.istore_n 3, 1) := by decide +kernel
theorem d_M_block_31 : decode c_M_block 31 = .ok (.aload_n 0, 1) := by decide +kernel
theorem d_M_block_32 : decode c_M_block 32 = .ok (.getfield 36, 3) := by decide +kernel
theorem d_M_block_35 : decode c_M_block 35 = .ok (.iload_n 1, 1) := by decide +kernel
theorem d_M_block_36 : decode c_M_block 36 = .ok (.iload_n 2, 1) := by decide +kernel
theorem d_M_block_37 : decode c_M_block 37 = .ok (.iastore, 1) := by decide +kernel
theorem d_M_block_38 : decode c_M_block 38 = .ok (.iload_n 3, 1) := by decide +kernel
theorem d_M_block_39 : decode c_M_block 39 = .ok (.ireturn, 1) := by decide +kernel
theorem d_M_clash_0 : decode c_M_clash 0 = .ok (.aload_n 0, 1) := by decide +kernel
theorem d_M_clash_1 : decode c_M_clash 1 = .ok (.iconst 0, 1) := by decide +kernel
theorem d_M_clash_2 : decode c_M_clash 2 = .ok (.putfield 54, 3) := by decide +kernel
theorem d_M_clash_5 : decode c_M_clash 5 = .ok (.iload_n 1, 1) := by decide +kernel
theorem d_M_clash_6 : decode c_M_clash 6 = .ok (.ifCond .lt 20, 3) := by decide +kernel
theorem d_M_clash_9 : decode c_M_clash 9 = .ok (.iload_n 1, 1) := by decide +kernel
theorem d_M_clash_10 : decode c_M_clash 10 = .ok (.aload_n 0, 1) := by decide +kernel
theorem d_M_clash_11 : decode c_M_clash 11 = .ok (.getfield 156, 3) := by decide +kernel
theorem d_M_clash_14 : decode c_M_clash 14 = .ok (.if_icmp .ge 12, 3) := by decide +kernel
theorem d_M_clash_17 : decode c_M_clash 17 = .ok (.iload_n 2, 1) := by decide +kernel
theorem d_M_clash_18 : decode c_M_clash 18 = .ok (.ifCond .lt 8, 3) := by decide +kernel
theorem d_M_clash_21 : decode c_M_clash 21 = .ok (.iload_n 2, 1) := by decide +kernel
theorem d_M_clash_22 : decode c_M_clash 22 = .ok (.iconst 1, 1) := by decide +kernel
theorem d_M_clash_23 : decode c_M_clash 23 = .ok (.if_icmp .le 7, 3) := by decide +kernel
theorem d_M_clash_26 : decode c_M_clash 26 = .ok (.iconst (-1), 1) := by decide +kernel
theorem d_M_clash_27 : decode c_M_clash 27 = .ok (.goto 13, 3) := by decide +kernel
theorem d_M_clash_30 : decode c_M_clash 30 = .ok (.aload_n 0, 1) := by decide +kernel
theorem d_M_clash_31 : decode c_M_clash 31 = .ok (.getfield 51, 3) := by decide +kernel
theorem d_M_clash_34 : decode c_M_clash 34 = .ok (.iconst 2, 1) := by decide +kernel
theorem d_M_clash_35 : decode c_M_clash 35 = .ok (.iload_n 1, 1) := by decide +kernel
theorem d_M_clash_36 : decode c_M_clash 36 = .ok (.imul, 1) := by decide +kernel
theorem d_M_clash_37 : decode c_M_clash 37 = .ok (.iload_n 2, 1) := by decide +kernel
theorem d_M_clash_38 : decode c_M_clash 38 = .ok (.iadd, 1) := by decide +kernel
theorem d_M_clash_39 : decode c_M_clash 39 = .ok (.iaload, 1) := by decide +kernel
theorem d_M_clash_40 : decode c_M_clash 40 = .ok (.ireturn, 1) := by decide +kernel
theorem d_M_clashes_0 : decode c_M_clashes 0 = .ok (.aload_n 0, 1) := by decide +kernel
theorem d_M_clashes_1 : decode c_M_clashes 1 = .ok (.getfield 149, 3) := by decide +kernel
theorem d_M_clashes_4 : decode c_M_clashes 4 = .ok (.iconst 2, 1) := by decide +kernel
theorem d_M_clashes_5 : decode c_M_clashes 5 = .ok (.if_icmp .lt 40, 3) := by decide +kernel
theorem d_M_clashes_8 : decode c_M_clashes 8 = .ok (.aload_n 0, 1) := by decide +kernel
theorem d_M_clashes_9 : decode c_M_clashes 9 = .ok (.getfield 13, 3) := by decide +kernel
theorem d_M_clashes_12 : decode c_M_clashes 12 = .ok (.bipush 10, 2) := by decide +kernel
theorem d_M_clashes_14 : decode c_M_clashes 14 = .ok (.aload_n 0, 1) := by decide +kernel
theorem d_M_clashes_15 : decode c_M_clashes 15 = .ok (.getfield 48, 3) := by decide +kernel
theorem d_M_clashes_18 : decode c_M_clashes 18 = .ok (.iconst 0, 1) := by decide +kernel
theorem d_M_clashes_19 : decode c_M_clashes 19 = .ok (.iaload, 1) := by decide +kernel
theorem d_M_clashes_20 : decode c_M_clashes 20 = .ok (.imul, 1) := by decide +kernel
theorem d_M_clashes_21 : decode c_M_clashes 21 = .ok (.bipush 8, 2) := by decide +kernel
theorem d_M_clashes_23 : decode c_M_clashes 23 = .ok (.iadd, 1) := by decide +kernel
theorem d_M_clashes_24 : decode c_M_clashes 24 = .ok (.iaload, 1) := by decide +kernel
theorem d_M_clashes_25 : decode c_M_clashes 25 = .ok (.aload_n 0, 1) := by decide +kernel
theorem d_M_clashes_26 : decode c_M_clashes 26 = .ok (.getfield 13, 3) := by decide +kernel
theorem d_M_clashes_29 : decode c_M_clashes 29 = .ok (.bipush 10, 2) := by decide +kernel
theorem d_M_clashes_31 : decode c_M_clashes 31 = .ok (.aload_n 0, 1) := by decide +kernel
theorem d_M_clashes_32 : decode c_M_clashes 32 = .ok (.getfield 48, 3) := by decide +kernel
theorem d_M_clashes_35 : decode c_M_clashes 35 = .ok (.iconst 1, 1) := by decide +kernel
theorem d_M_clashes_36 : decode c_M_clashes 36 = .ok (.iaload, 1) := by decide +kernel
theorem d_M_clashes_37 : decode c_M_clashes 37 = .ok (.imul, 1) := by decide +kernel
theorem d_M_clashes_38 : decode c_M_clashes 38 = .ok (.bipush 8, 2) := by decide +kernel
theorem d_M_clashes_40 : decode c_M_clashes 40 = .ok (.iadd, 1) := by decide +kernel
theorem d_M_clashes_41 : decode c_M_clashes 41 = .ok (.iaload, 1) := by decide +kernel
theorem d_M_clashes_42 : decode c_M_clashes 42 = .ok (.if_icmp .eq 4, 3) := by decide +kernel
theorem d_M_clashes_45 : decode c_M_clashes 45 = .ok (.return_, 1) := by decide +kernel
theorem d_M_clashes_46 : decode c_M_clashes 46 = .ok (.iconst 0, 1) := by decide +kernel
theorem d_M_clashes_47 : decode c_M_clashes 47 = .ok (.istore_n 1, 1) := by decide +kernel
theorem d_M_clashes_48 : decode c_M_clashes 48 = .ok (.iload_n 1, 1) := by decide +kernel
theorem d_M_clashes_49 : decode c_M_clashes 49 = .ok (.aload_n 0, 1) := by decide +kernel
theorem d_M_clashes_50 : decode c_M_clashes 50 = .ok (.getfield 156, 3) := by decide +kernel
theorem d_M_clashes_53 : decode c_M_clashes 53 = .ok (.if_icmp .ge 46, 3) := by decide +kernel
theorem d_M_clashes_56 : decode c_M_clashes 56 = .ok (.aload_n 0, 1) := by decide +kernel
theorem d_M_clashes_57 : decode c_M_clashes 57 = .ok (.getfield 51, 3) := by decide +kernel
theorem d_M_clashes_60 : decode c_M_clashes 60 = .ok (.iconst 2, 1) := by decide +kernel
theorem d_M_clashes_61 : decode c_M_clashes 61 = .ok (.iload_n 1, 1) := by decide +kernel
theorem d_M_clashes_62 : decode c_M_clashes 62 = .ok (.imul, 1) := by decide +kernel
theorem d_M_clashes_63 : decode c_M_clashes 63 = .ok (.iaload, 1) := by decide +kernel
theorem d_M_clashes_64 : decode c_M_clashes 64 = .ok (.aload_n 0, 1) := by decide +kernel
theorem d_M_clashes_65 : decode c_M_clashes 65 = .ok (.getfield 48, 3) := by decide +kernel
theorem d_M_clashes_68 : decode c_M_clashes 68 = .ok (.iconst 0, 1) := by decide +kernel
theorem d_M_clashes_69 : decode c_M_clashes 69 = .ok (.iaload, 1) := by decide +kernel
theorem d_M_clashes_70 : decode c_M_clashes 70 = .ok (.if_icmp .ne 23, 3) := by decide +kernel
theorem d_M_clashes_73 : decode c_M_clashes 73 = .ok (.aload_n 0, 1) := by decide +kernel
theorem d_M_clashes_74 : decode c_M_clashes 74 = .ok (.getfield 51, 3) := by decide +kernel
theorem d_M_clashes_77 : decode c_M_clashes 77 = .ok (.iconst 2, 1) := by decide +kernel
theorem d_M_clashes_78 : decode c_M_clashes 78 = .ok (.iload_n 1, 1) := by decide +kernel
theorem d_M_clashes_79 : decode c_M_clashes 79 = .ok (.imul, 1) := by decide +kernel
theorem d_M_clashes_80 : decode c_M_clashes 80 = .ok (.iconst 1, 1) := by decide +kernel
theorem d_M_clashes_81 : decode c_M_clashes 81 = .ok (.iadd, 1) := by decide +kernel
theorem d_M_clashes_82 : decode c_M_clashes 82 = .ok (.iaload, 1) := by decide +kernel
theorem d_M_clashes_83 : decode c_M_clashes 83 = .ok (.aload_n 0, 1) := by decide +kernel
theorem d_M_clashes_84 : decode c_M_clashes 84 = .ok (.getfield 48, 3) := by decide +kernel
theorem d_M_clashes_87 : decode c_M_clashes 87 = .ok (.iconst 1, 1) := by decide +kernel
theorem d_M_clashes_88 : decode c_M_clashes 88 = .ok (.iaload, 1) := by decide +kernel
theorem d_M_clashes_89 : decode c_M_clashes 89 = .ok (.if_icmp .ne 4, 3) := by decide +kernel
theorem d_M_clashes_92 : decode c_M_clashes 92 = .ok (.return_, 1) := by decide +kernel
theorem d_M_clashes_93 : decode c_M_clashes 93 = .ok (.iinc 1 1, 3) := by decide +kernel
theorem d_M_clashes_96 : decode c_M_clashes 96 = .ok (.goto (-48), 3) := by decide +kernel
theorem d_M_clashes_99 : decode c_M_clashes 99 = .ok (.aload_n 0, 1) := by decide +kernel
theorem d_M_clashes_100 : decode c_M_clashes 100 = .ok (.getfield 51, 3) := by decide +kernel
theorem d_M_clashes_103 : decode c_M_clashes 103 = .ok (.iconst 2, 1) := by decide +kernel
theorem d_M_clashes_104 : decode c_M_clashes 104 = .ok (.aload_n 0, 1) := by decide +kernel
theorem d_M_clashes_105 : decode c_M_clashes 105 = .ok (.getfield 156, 3) := by decide +kernel
theorem d_M_clashes_108 : decode c_M_clashes 108 = .ok (.imul, 1) := by decide +kernel
theorem d_M_clashes_109 : decode c_M_clashes 109 = .ok (.aload_n 0, 1) := by decide +kernel
theorem d_M_clashes_110 : decode c_M_clashes 110 = .ok (.getfield 48, 3) := by decide +kernel
theorem d_M_clashes_113 : decode c_M_clashes 113 = .ok (.iconst 0, 1) := by decide +kernel
theorem d_M_clashes_114 : decode c_M_clashes 114 = .ok (.iaload, 1) := by decide +kernel
theorem d_M_clashes_115 : decode c_M_clashes 115 = .ok (.iastore, 1) := by decide +kernel
theorem d_M_clashes_116 : decode c_M_clashes 116 = .ok (.aload_n 0, 1) := by decide +kernel
theorem d_M_clashes_117 : decode c_M_clashes 117 = .ok (.getfield 51, 3) := by decide +kernel
theorem d_M_clashes_120 : decode c_M_clashes 120 = .ok (.iconst 2, 1) := by decide +kernel
theorem d_M_clashes_121 : decode c_M_clashes 121 = .ok (.aload_n 0, 1) := by decide +kernel
theorem d_M_clashes_122 : decode c_M_clashes 122 = .ok (.getfield 156, 3) := by decide +kernel
theorem d_M_clashes_125 : decode c_M_clashes 125 = .ok (.imul, 1) := by decide +kernel
theorem d_M_clashes_126 : decode c_M_clashes 126 = .ok (.iconst 1, 1) := by decide +kernel
theorem d_M_clashes_127 : decode c_M_clashes 127 = .ok (.iadd, 1) := by decide +kernel
theorem d_M_clashes_128 : decode c_M_clashes 128 = .ok (.aload_n 0, 1) := by decide +kernel
theorem d_M_clashes_129 : decode c_M_clashes 129 = .ok (.getfield 48, 3) := by decide +kernel
theorem d_M_clashes_132 : decode c_M_clashes 132 = .ok (.iconst 1, 1) := by decide +kernel
theorem d_M_clashes_133 : decode c_M_clashes 133 = .ok (.iaload, 1) := by decide +kernel
theorem d_M_clashes_134 : decode c_M_clashes 134 = .ok (.iastore, 1) := by decide +kernel
theorem d_M_clashes_135 : decode c_M_clashes 135 = .ok (.aload_n 0, 1) := by decide +kernel
theorem d_M_clashes_136 : decode c_M_clashes 136 = .ok (.dup, 1) := by decide +kernel
theorem d_M_clashes_137 : decode c_M_clashes 137 = .ok (.getfield 156, 3) := by decide +kernel
theorem d_M_clashes_140 : decode c_M_clashes 140 = .ok (.iconst 1, 1) := by decide +kernel
theorem d_M_clashes_141 : decode c_M_clashes 141 = .ok (.iadd, 1) := by decide +kernel
theorem d_M_clashes_142 : decode c_M_clashes 142 = .ok (.putfield 156, 3) := by decide +kernel
theorem d_M_clashes_145 : decode c_M_clashes 145 = .ok (.return_, 1) := by decide +kernel
theorem d_M_closed_0 : decode c_M_closed 0 = .ok (.aload_n 0, 1) := by decide +kernel
theorem d_M_closed_1 : decode c_M_closed 1 = .ok (.iconst 0, 1) := by decide +kernel
theorem d_M_closed_2 : decode c_M_closed 2 = .ok (.putfield 54, 3) := by decide +kernel
theorem d_M_closed_5 : decode c_M_closed 5 = .ok (.iload_n 1, 1) := by decide +kernel
theorem d_M_closed_6 : decode c_M_closed 6 = .ok (.invokestatic 137, 3) := by decide +kernel
theorem d_M_closed_9 : decode c_M_closed 9 = .ok (.ifCond .ne 5, 3) := by decide +kernel
theorem d_M_closed_12 : decode c_M_closed 12 = .ok (.iconst 0, 1) := by decide +kernel
theorem d_M_closed_13 : decode c_M_closed 13 = .ok (.ireturn, 1) := by decide +kernel
theorem d_M_closed_14 : decode c_M_closed 14 = .ok (.aload_n 0, 1) := by decide +kernel
theorem d_M_closed_15 : decode c_M_closed 15 = .ok (.getfield 24, 3) := by decide +kernel
theorem d_M_closed_18 : decode c_M_closed 18 = .ok (.iload_n 1, 1) := by decide +kernel
theorem d_M_closed_19 : decode c_M_closed 19 = .ok (.baload, 1) := by decide +kernel
theorem d_M_closed_20 : decode c_M_closed 20 = .ok (.istore_n 3, 1) := by decide +kernel
theorem d_M_closed_21 : decode c_M_closed 21 = .ok (.aload_n 0, 1) := by decide +kernel
theorem d_M_closed_22 : decode c_M_closed 22 = .ok (.getfield 24, 3) := by decide +kernel
theorem d_M_closed_25 : decode c_M_closed 25 = .ok (.iload_n 1, 1) := by decide +kernel
theorem d_M_closed_26 : decode c_M_closed 26 = .ok (.iload_n 2, 1) := by decide +kernel
theorem d_M_closed_27 : decode c_M_closed 27 = .ok (.bastore, 1) := by decide +kernel
theorem d_M_closed_28 : decode c_M_closed 28 = .ok (.iload_n 3, 1) := by decide +kernel
theorem d_M_closed_29 : decode c_M_closed 29 = .ok (.ireturn, 1) := by decide +kernel
theorem d_M_due_0 : decode c_M_due 0 = .ok (.aload_n 0, 1) := by decide +kernel
theorem d_M_due_1 : decode c_M_due 1 = .ok (.iconst 0, 1) := by decide +kernel
theorem d_M_due_2 : decode c_M_due 2 = .ok (.putfield 54, 3) := by decide +kernel
theorem d_M_due_5 : decode c_M_due 5 = .ok (.aload_n 0, 1) := by decide +kernel
theorem d_M_due_6 : decode c_M_due 6 = .ok (.iload_n 1, 1) := by decide +kernel
theorem d_M_due_7 : decode c_M_due 7 = .ok (.invokevirtual 172, 3) := by decide +kernel
theorem d_M_due_10 : decode c_M_due 10 = .ok (.ifCond .eq 17, 3) := by decide +kernel
theorem d_M_due_13 : decode c_M_due 13 = .ok (.aload_n 0, 1) := by decide +kernel
theorem d_M_due_14 : decode c_M_due 14 = .ok (.getfield 42, 3) := by decide +kernel
theorem d_M_due_17 : decode c_M_due 17 = .ok (.bipush 7, 2) := by decide +kernel
theorem d_M_due_19 : decode c_M_due 19 = .ok (.iload_n 1, 1) := by decide +kernel
theorem d_M_due_20 : decode c_M_due 20 = .ok (.imul, 1) := by decide +kernel
theorem d_M_due_21 : decode c_M_due 21 = .ok (.iconst 2, 1) := by decide +kernel
theorem d_M_due_22 : decode c_M_due 22 = .ok (.iadd, 1) := by decide +kernel
theorem d_M_due_23 : decode c_M_due 23 = .ok (.iaload, 1) := by decide +kernel
theorem d_M_due_24 : decode c_M_due 24 = .ok (.goto 4, 3) := by decide +kernel
theorem d_M_due_27 : decode c_M_due 27 = .ok (.iconst (-1), 1) := by decide +kernel
theorem d_M_due_28 : decode c_M_due 28 = .ok (.ireturn, 1) := by decide +kernel
theorem d_M_dueOf_0 : decode c_M_dueOf 0 = .ok (.aload_n 0, 1) := by decide +kernel
theorem d_M_dueOf_1 : decode c_M_dueOf 1 = .ok (.getfield 13, 3) := by decide +kernel
theorem d_M_dueOf_4 : decode c_M_dueOf 4 = .ok (.bipush 10, 2) := by decide +kernel
theorem d_M_dueOf_6 : decode c_M_dueOf 6 = .ok (.iload_n 1, 1) := by decide +kernel
theorem d_M_dueOf_7 : decode c_M_dueOf 7 = .ok (.imul, 1) := by decide +kernel
theorem d_M_dueOf_8 : decode c_M_dueOf 8 = .ok (.iconst 3, 1) := by decide +kernel
theorem d_M_dueOf_9 : decode c_M_dueOf 9 = .ok (.iadd, 1) := by decide +kernel
theorem d_M_dueOf_10 : decode c_M_dueOf 10 = .ok (.iaload, 1) := by decide +kernel
theorem d_M_dueOf_11 : decode c_M_dueOf 11 = .ok (.ifCond .ne 21, 3) := by decide +kernel
theorem d_M_dueOf_14 : decode c_M_dueOf 14 = .ok (.aload_n 0, 1) := by decide +kernel
theorem d_M_dueOf_15 : decode c_M_dueOf 15 = .ok (.iload_n 2, 1) := by decide +kernel
theorem d_M_dueOf_16 : decode c_M_dueOf 16 = .ok (.aload_n 0, 1) := by decide +kernel
theorem d_M_dueOf_17 : decode c_M_dueOf 17 = .ok (.getfield 13, 3) := by decide +kernel
theorem d_M_dueOf_20 : decode c_M_dueOf 20 = .ok (.bipush 10, 2) := by decide +kernel
theorem d_M_dueOf_22 : decode c_M_dueOf 22 = .ok (.iload_n 1, 1) := by decide +kernel
theorem d_M_dueOf_23 : decode c_M_dueOf 23 = .ok (.imul, 1) := by decide +kernel
theorem d_M_dueOf_24 : decode c_M_dueOf 24 = .ok (.iconst 4, 1) := by decide +kernel
theorem d_M_dueOf_25 : decode c_M_dueOf 25 = .ok (.iadd, 1) := by decide +kernel
theorem d_M_dueOf_26 : decode c_M_dueOf 26 = .ok (.iaload, 1) := by decide +kernel
theorem d_M_dueOf_27 : decode c_M_dueOf 27 = .ok (.iadd, 1) := by decide +kernel
theorem d_M_dueOf_28 : decode c_M_dueOf 28 = .ok (.invokevirtual 140, 3) := by decide +kernel
theorem d_M_dueOf_31 : decode c_M_dueOf 31 = .ok (.ireturn, 1) := by decide +kernel
theorem d_M_dueOf_32 : decode c_M_dueOf 32 = .ok (.iload_n 2, 1) := by decide +kernel
theorem d_M_dueOf_33 : decode c_M_dueOf 33 = .ok (.istore_n 3, 1) := by decide +kernel
theorem d_M_dueOf_34 : decode c_M_dueOf 34 = .ok (.iload_n 3, 1) := by decide +kernel
theorem d_M_dueOf_35 : decode c_M_dueOf 35 = .ok (.sipush 10000, 3) := by decide +kernel
theorem d_M_dueOf_38 : decode c_M_dueOf 38 = .ok (.if_icmp .ge 18, 3) := by decide +kernel
theorem d_M_dueOf_41 : decode c_M_dueOf 41 = .ok (.aload_n 0, 1) := by decide +kernel
theorem d_M_dueOf_42 : decode c_M_dueOf 42 = .ok (.getfield 27, 3) := by decide +kernel
theorem d_M_dueOf_45 : decode c_M_dueOf 45 = .ok (.iload_n 3, 1) := by decide +kernel
theorem d_M_dueOf_46 : decode c_M_dueOf 46 = .ok (.baload, 1) := by decide +kernel
theorem d_M_dueOf_47 : decode c_M_dueOf 47 = .ok (.ifCond .ne 9, 3) := by decide +kernel
theorem d_M_dueOf_50 : decode c_M_dueOf 50 = .ok (.iinc 3 1, 3) := by decide +kernel
theorem d_M_dueOf_53 : decode c_M_dueOf 53 = .ok (.goto (-19), 3) := by decide +kernel
theorem d_M_dueOf_56 : decode c_M_dueOf 56 = .ok (.aload_n 0, 1) := by decide +kernel
theorem d_M_dueOf_57 : decode c_M_dueOf 57 = .ok (.iload_n 3, 1) := by decide +kernel
theorem d_M_dueOf_58 : decode c_M_dueOf 58 = .ok (.invokevirtual 140, 3) := by decide +kernel
theorem d_M_dueOf_61 : decode c_M_dueOf 61 = .ok (.ireturn, 1) := by decide +kernel
theorem d_M_except_0 : decode c_M_except 0 = .ok (.aload_n 0, 1) := by decide +kernel
theorem d_M_except_1 : decode c_M_except 1 = .ok (.iconst 0, 1) := by decide +kernel
theorem d_M_except_2 : decode c_M_except 2 = .ok (.putfield 54, 3) := by decide +kernel
theorem d_M_except_5 : decode c_M_except 5 = .ok (.iload_n 1, 1) := by decide +kernel
theorem d_M_except_6 : decode c_M_except 6 = .ok (.invokestatic 143, 3) := by decide +kernel
theorem d_M_except_9 : decode c_M_except 9 = .ok (.ifCond .eq 11, 3) := by decide +kernel
theorem d_M_except_12 : decode c_M_except 12 = .ok (.aload_n 0, 1) := by decide +kernel
theorem d_M_except_13 : decode c_M_except 13 = .ok (.iload_n 2, 1) := by decide +kernel
theorem d_M_except_14 : decode c_M_except 14 = .ok (.invokevirtual 146, 3) := by decide +kernel
theorem d_M_except_17 : decode c_M_except 17 = .ok (.ifCond .ne 5, 3) := by decide +kernel
theorem d_M_except_20 : decode c_M_except 20 = .ok (.iconst 0, 1) := by decide +kernel
theorem d_M_except_21 : decode c_M_except 21 = .ok (.ireturn, 1) := by decide +kernel
theorem d_M_except_22 : decode c_M_except 22 = .ok (.aload_n 0, 1) := by decide +kernel
theorem d_M_except_23 : decode c_M_except 23 = .ok (.getfield 39, 3) := by decide +kernel
theorem d_M_except_26 : decode c_M_except 26 = .ok (.bipush 40, 2) := by decide +kernel
theorem d_M_except_28 : decode c_M_except 28 = .ok (.iload_n 1, 1) := by decide +kernel
theorem d_M_except_29 : decode c_M_except 29 = .ok (.imul, 1) := by decide +kernel
theorem d_M_except_30 : decode c_M_except 30 = .ok (.iload_n 2, 1) := by decide +kernel
theorem d_M_except_31 : decode c_M_except 31 = .ok (.iadd, 1) := by decide +kernel
theorem d_M_except_32 : decode c_M_except 32 = .ok (.iload_n 3, 1) := by decide +kernel
theorem d_M_except_33 : decode c_M_except 33 = .ok (.ifCond .ge 7, 3) := by decide +kernel
theorem d_M_except_36 : decode c_M_except 36 = .ok (.iconst 0, 1) := by decide +kernel
theorem d_M_except_37 : decode c_M_except 37 = .ok (.goto 19, 3) := by decide +kernel
theorem d_M_except_40 : decode c_M_except 40 = .ok (.iload_n 3, 1) := by decide +kernel
theorem d_M_except_41 : decode c_M_except 41 = .ok (.sipush 9999, 3) := by decide +kernel
theorem d_M_except_44 : decode c_M_except 44 = .ok (.if_icmp .le 9, 3) := by decide +kernel
theorem d_M_except_47 : decode c_M_except 47 = .ok (.sipush 10000, 3) := by decide +kernel
theorem d_M_except_50 : decode c_M_except 50 = .ok (.goto 6, 3) := by decide +kernel
theorem d_M_except_53 : decode c_M_except 53 = .ok (.iload_n 3, 1) := by decide +kernel
theorem d_M_except_54 : decode c_M_except 54 = .ok (.iconst 1, 1) := by decide +kernel
theorem d_M_except_55 : decode c_M_except 55 = .ok (.iadd, 1) := by decide +kernel
theorem d_M_except_56 : decode c_M_except 56 = .ok (.iastore, 1) := by decide +kernel
theorem d_M_except_57 : decode c_M_except 57 = .ok (.iconst 1, 1) := by decide +kernel
theorem d_M_except_58 : decode c_M_except 58 = .ok (.ireturn, 1) := by decide +kernel
theorem d_M_explain_0 : decode c_M_explain 0 = .ok (.aload_n 0, 1) := by decide +kernel
theorem d_M_explain_1 : decode c_M_explain 1 = .ok (.iconst 0, 1) := by decide +kernel
theorem d_M_explain_2 : decode c_M_explain 2 = .ok (.putfield 54, 3) := by decide +kernel
theorem d_M_explain_5 : decode c_M_explain 5 = .ok (.iload_n 1, 1) := by decide +kernel
theorem d_M_explain_6 : decode c_M_explain 6 = .ok (.ifCond .lt 11, 3) := by decide +kernel
theorem d_M_explain_9 : decode c_M_explain 9 = .ok (.iload_n 1, 1) := by decide +kernel
theorem d_M_explain_10 : decode c_M_explain 10 = .ok (.aload_n 0, 1) := by decide +kernel
theorem d_M_explain_11 : decode c_M_explain 11 = .ok (.getfield 149, 3) := by decide +kernel
theorem d_M_explain_14 : decode c_M_explain 14 = .ok (.if_icmp .lt 7, 3) := by decide +kernel
theorem d_M_explain_17 : decode c_M_explain 17 = .ok (.iconst (-1), 1) := by decide +kernel
theorem d_M_explain_18 : decode c_M_explain 18 = .ok (.goto 9, 3) := by decide +kernel
theorem d_M_explain_21 : decode c_M_explain 21 = .ok (.aload_n 0, 1) := by decide +kernel
theorem d_M_explain_22 : decode c_M_explain 22 = .ok (.getfield 48, 3) := by decide +kernel
theorem d_M_explain_25 : decode c_M_explain 25 = .ok (.iload_n 1, 1) := by decide +kernel
theorem d_M_explain_26 : decode c_M_explain 26 = .ok (.iaload, 1) := by decide +kernel
theorem d_M_explain_27 : decode c_M_explain 27 = .ok (.ireturn, 1) := by decide +kernel
theorem d_M_find_0 : decode c_M_find 0 = .ok (.aload_n 0, 1) := by decide +kernel
theorem d_M_find_1 : decode c_M_find 1 = .ok (.iconst 0, 1) := by decide +kernel
theorem d_M_find_2 : decode c_M_find 2 = .ok (.putfield 149, 3) := by decide +kernel
theorem d_M_find_5 : decode c_M_find 5 = .ok (.iconst 0, 1) := by decide +kernel
theorem d_M_find_6 : decode c_M_find 6 = .ok (.istore 4, 2) := by decide +kernel
theorem d_M_find_8 : decode c_M_find 8 = .ok (.iload 4, 2) := by decide +kernel
theorem d_M_find_10 : decode c_M_find 10 = .ok (.aload_n 0, 1) := by decide +kernel
theorem d_M_find_11 : decode c_M_find 11 = .ok (.getfield 88, 3) := by decide +kernel
theorem d_M_find_14 : decode c_M_find 14 = .ok (.if_icmp .ge 109, 3) := by decide +kernel
theorem d_M_find_17 : decode c_M_find 17 = .ok (.aload_n 0, 1) := by decide +kernel
theorem d_M_find_18 : decode c_M_find 18 = .ok (.iload 4, 2) := by decide +kernel
theorem d_M_find_20 : decode c_M_find 20 = .ok (.iload_n 1, 1) := by decide +kernel
theorem d_M_find_21 : decode c_M_find 21 = .ok (.iload_n 2, 1) := by decide +kernel
theorem d_M_find_22 : decode c_M_find 22 = .ok (.iload_n 3, 1) := by decide +kernel
theorem d_M_find_23 : decode c_M_find 23 = .ok (.invokevirtual 152, 3) := by decide +kernel
theorem d_M_find_26 : decode c_M_find 26 = .ok (.ifCond .eq 91, 3) := by decide +kernel
theorem d_M_find_29 : decode c_M_find 29 = .ok (.aload_n 0, 1) := by decide +kernel
theorem d_M_find_30 : decode c_M_find 30 = .ok (.getfield 149, 3) := by decide +kernel
theorem d_M_find_33 : decode c_M_find 33 = .ok (.istore 5, 2) := by decide +kernel
theorem d_M_find_35 : decode c_M_find 35 = .ok (.iload 5, 2) := by decide +kernel
theorem d_M_find_37 : decode c_M_find 37 = .ok (.ifCond .le 61, 3) := by decide +kernel
theorem d_M_find_40 : decode c_M_find 40 = .ok (.aload_n 0, 1) := by decide +kernel
theorem d_M_find_41 : decode c_M_find 41 = .ok (.getfield 13, 3) := by decide +kernel
theorem d_M_find_44 : decode c_M_find 44 = .ok (.bipush 10, 2) := by decide +kernel
theorem d_M_find_46 : decode c_M_find 46 = .ok (.aload_n 0, 1) := by decide +kernel
theorem d_M_find_47 : decode c_M_find 47 = .ok (.getfield 48, 3) := by decide +kernel
theorem d_M_find_50 : decode c_M_find 50 = .ok (.iload 5, 2) := by decide +kernel
theorem d_M_find_52 : decode c_M_find 52 = .ok (.iconst 1, 1) := by decide +kernel
theorem d_M_find_53 : decode c_M_find 53 = .ok (.isub, 1) := by decide +kernel
theorem d_M_find_54 : decode c_M_find 54 = .ok (.iaload, 1) := by decide +kernel
theorem d_M_find_55 : decode c_M_find 55 = .ok (.imul, 1) := by decide +kernel
theorem d_M_find_56 : decode c_M_find 56 = .ok (.bipush 8, 2) := by decide +kernel
theorem d_M_find_58 : decode c_M_find 58 = .ok (.iadd, 1) := by decide +kernel
theorem d_M_find_59 : decode c_M_find 59 = .ok (.iaload, 1) := by decide +kernel
theorem d_M_find_60 : decode c_M_find 60 = .ok (.aload_n 0, 1) := by decide +kernel
theorem d_M_find_61 : decode c_M_find 61 = .ok (.getfield 13, 3) := by decide +kernel
theorem d_M_find_64 : decode c_M_find 64 = .ok (.bipush 10, 2) := by decide +kernel
theorem d_M_find_66 : decode c_M_find 66 = .ok (.iload 4, 2) := by decide +kernel
theorem d_M_find_68 : decode c_M_find 68 = .ok (.imul, 1) := by decide +kernel
theorem d_M_find_69 : decode c_M_find 69 = .ok (.bipush 8, 2) := by decide +kernel
theorem d_M_find_71 : decode c_M_find 71 = .ok (.iadd, 1) := by decide +kernel
theorem d_M_find_72 : decode c_M_find 72 = .ok (.iaload, 1) := by decide +kernel
theorem d_M_find_73 : decode c_M_find 73 = .ok (.if_icmp .ge 25, 3) := by decide +kernel
theorem d_M_find_76 : decode c_M_find 76 = .ok (.aload_n 0, 1) := by decide +kernel
theorem d_M_find_77 : decode c_M_find 77 = .ok (.getfield 48, 3) := by decide +kernel
theorem d_M_find_80 : decode c_M_find 80 = .ok (.iload 5, 2) := by decide +kernel
theorem d_M_find_82 : decode c_M_find 82 = .ok (.aload_n 0, 1) := by decide +kernel
theorem d_M_find_83 : decode c_M_find 83 = .ok (.getfield 48, 3) := by decide +kernel
theorem d_M_find_86 : decode c_M_find 86 = .ok (.iload 5, 2) := by decide +kernel
theorem d_M_find_88 : decode c_M_find 88 = .ok (.iconst 1, 1) := by decide +kernel
theorem d_M_find_89 : decode c_M_find 89 = .ok (.isub, 1) := by decide +kernel
theorem d_M_find_90 : decode c_M_find 90 = .ok (.iaload, 1) := by decide +kernel
theorem d_M_find_91 : decode c_M_find 91 = .ok (.iastore, 1) := by decide +kernel
theorem d_M_find_92 : decode c_M_find 92 = .ok (.iinc 5 (-1), 3) := by decide +kernel
theorem d_M_find_95 : decode c_M_find 95 = .ok (.goto (-60), 3) := by decide +kernel
theorem d_M_find_98 : decode c_M_find 98 = .ok (.aload_n 0, 1) := by decide +kernel
theorem d_M_find_99 : decode c_M_find 99 = .ok (.getfield 48, 3) := by decide +kernel
theorem d_M_find_102 : decode c_M_find 102 = .ok (.iload 5, 2) := by decide +kernel
theorem d_M_find_104 : decode c_M_find 104 = .ok (.iload 4, 2) := by decide +kernel
theorem d_M_find_106 : decode c_M_find 106 = .ok (.iastore, 1) := by decide +kernel
theorem d_M_find_107 : decode c_M_find 107 = .ok (.aload_n 0, 1) := by decide +kernel
theorem d_M_find_108 : decode c_M_find 108 = .ok (.dup, 1) := by decide +kernel
theorem d_M_find_109 : decode c_M_find 109 = .ok (.getfield 149, 3) := by decide +kernel
theorem d_M_find_112 : decode c_M_find 112 = .ok (.iconst 1, 1) := by decide +kernel
theorem d_M_find_113 : decode c_M_find 113 = .ok (.iadd, 1) := by decide +kernel
theorem d_M_find_114 : decode c_M_find 114 = .ok (.putfield 149, 3) := by decide +kernel
theorem d_M_find_117 : decode c_M_find 117 = .ok (.iinc 4 1, 3) := by decide +kernel
theorem d_M_find_120 : decode c_M_find 120 = .ok (.goto (-112), 3) := by decide +kernel
theorem d_M_find_123 : decode c_M_find 123 = .ok (.return_, 1) := by decide +kernel
theorem d_M_fitsFor_0 : decode c_M_fitsFor 0 = .ok (.aload_n 0, 1) := by decide +kernel
theorem d_M_fitsFor_1 : decode c_M_fitsFor 1 = .ok (.getfield 13, 3) := by decide +kernel
theorem d_M_fitsFor_4 : decode c_M_fitsFor 4 = .ok (.bipush 10, 2) := by decide +kernel
theorem d_M_fitsFor_6 : decode c_M_fitsFor 6 = .ok (.iload_n 1, 1) := by decide +kernel
theorem d_M_fitsFor_7 : decode c_M_fitsFor 7 = .ok (.imul, 1) := by decide +kernel
theorem d_M_fitsFor_8 : decode c_M_fitsFor 8 = .ok (.iaload, 1) := by decide +kernel
theorem d_M_fitsFor_9 : decode c_M_fitsFor 9 = .ok (.istore 5, 2) := by decide +kernel
theorem d_M_fitsFor_11 : decode c_M_fitsFor 11 = .ok (.aload_n 0, 1) := by decide +kernel
theorem d_M_fitsFor_12 : decode c_M_fitsFor 12 = .ok (.getfield 13, 3) := by decide +kernel
theorem d_M_fitsFor_15 : decode c_M_fitsFor 15 = .ok (.bipush 10, 2) := by decide +kernel
theorem d_M_fitsFor_17 : decode c_M_fitsFor 17 = .ok (.iload_n 1, 1) := by decide +kernel
theorem d_M_fitsFor_18 : decode c_M_fitsFor 18 = .ok (.imul, 1) := by decide +kernel
theorem d_M_fitsFor_19 : decode c_M_fitsFor 19 = .ok (.iconst 1, 1) := by decide +kernel
theorem d_M_fitsFor_20 : decode c_M_fitsFor 20 = .ok (.iadd, 1) := by decide +kernel
theorem d_M_fitsFor_21 : decode c_M_fitsFor 21 = .ok (.iaload, 1) := by decide +kernel
theorem d_M_fitsFor_22 : decode c_M_fitsFor 22 = .ok (.istore 6, 2) := by decide +kernel
theorem d_M_fitsFor_24 : decode c_M_fitsFor 24 = .ok (.aload_n 0, 1) := by decide +kernel
theorem d_M_fitsFor_25 : decode c_M_fitsFor 25 = .ok (.getfield 13, 3) := by decide +kernel
theorem d_M_fitsFor_28 : decode c_M_fitsFor 28 = .ok (.bipush 10, 2) := by decide +kernel
theorem d_M_fitsFor_30 : decode c_M_fitsFor 30 = .ok (.iload_n 1, 1) := by decide +kernel
theorem d_M_fitsFor_31 : decode c_M_fitsFor 31 = .ok (.imul, 1) := by decide +kernel
theorem d_M_fitsFor_32 : decode c_M_fitsFor 32 = .ok (.iconst 2, 1) := by decide +kernel
theorem d_M_fitsFor_33 : decode c_M_fitsFor 33 = .ok (.iadd, 1) := by decide +kernel
theorem d_M_fitsFor_34 : decode c_M_fitsFor 34 = .ok (.iaload, 1) := by decide +kernel
theorem d_M_fitsFor_35 : decode c_M_fitsFor 35 = .ok (.istore 7, 2) := by decide +kernel
theorem d_M_fitsFor_37 : decode c_M_fitsFor 37 = .ok (.iload 5, 2) := by decide +kernel
theorem d_M_fitsFor_39 : decode c_M_fitsFor 39 = .ok (.ifCond .lt 14, 3) := by decide +kernel
theorem d_M_fitsFor_42 : decode c_M_fitsFor 42 = .ok (.iload 5, 2) := by decide +kernel
theorem d_M_fitsFor_44 : decode c_M_fitsFor 44 = .ok (.aload_n 0, 1) := by decide +kernel
theorem d_M_fitsFor_45 : decode c_M_fitsFor 45 = .ok (.getfield 30, 3) := by decide +kernel
theorem d_M_fitsFor_48 : decode c_M_fitsFor 48 = .ok (.iload_n 2, 1) := by decide +kernel
theorem d_M_fitsFor_49 : decode c_M_fitsFor 49 = .ok (.iaload, 1) := by decide +kernel
theorem d_M_fitsFor_50 : decode c_M_fitsFor 50 = .ok (.if_icmp .ne 50, 3) := by decide +kernel
theorem d_M_fitsFor_53 : decode c_M_fitsFor 53 = .ok (.iload 6, 2) := by decide +kernel
theorem d_M_fitsFor_55 : decode c_M_fitsFor 55 = .ok (.ifCond .lt 14, 3) := by decide +kernel
theorem d_M_fitsFor_58 : decode c_M_fitsFor 58 = .ok (.iload 6, 2) := by decide +kernel
theorem d_M_fitsFor_60 : decode c_M_fitsFor 60 = .ok (.aload_n 0, 1) := by decide +kernel
theorem d_M_fitsFor_61 : decode c_M_fitsFor 61 = .ok (.getfield 33, 3) := by decide +kernel
theorem d_M_fitsFor_64 : decode c_M_fitsFor 64 = .ok (.iload_n 3, 1) := by decide +kernel
theorem d_M_fitsFor_65 : decode c_M_fitsFor 65 = .ok (.iaload, 1) := by decide +kernel
theorem d_M_fitsFor_66 : decode c_M_fitsFor 66 = .ok (.if_icmp .ne 34, 3) := by decide +kernel
theorem d_M_fitsFor_69 : decode c_M_fitsFor 69 = .ok (.iload 7, 2) := by decide +kernel
theorem d_M_fitsFor_71 : decode c_M_fitsFor 71 = .ok (.ifCond .lt 9, 3) := by decide +kernel
theorem d_M_fitsFor_74 : decode c_M_fitsFor 74 = .ok (.iload 7, 2) := by decide +kernel
theorem d_M_fitsFor_76 : decode c_M_fitsFor 76 = .ok (.iload_n 2, 1) := by decide +kernel
theorem d_M_fitsFor_77 : decode c_M_fitsFor 77 = .ok (.if_icmp .ne 23, 3) := by decide +kernel
theorem d_M_fitsFor_80 : decode c_M_fitsFor 80 = .ok (.iload 4, 2) := by decide +kernel
theorem d_M_fitsFor_82 : decode c_M_fitsFor 82 = .ok (.aload_n 0, 1) := by decide +kernel
theorem d_M_fitsFor_83 : decode c_M_fitsFor 83 = .ok (.getfield 39, 3) := by decide +kernel
theorem d_M_fitsFor_86 : decode c_M_fitsFor 86 = .ok (.bipush 40, 2) := by decide +kernel
theorem d_M_fitsFor_88 : decode c_M_fitsFor 88 = .ok (.iload_n 2, 1) := by decide +kernel
theorem d_M_fitsFor_89 : decode c_M_fitsFor 89 = .ok (.imul, 1) := by decide +kernel
theorem d_M_fitsFor_90 : decode c_M_fitsFor 90 = .ok (.iload_n 1, 1) := by decide +kernel
theorem d_M_fitsFor_91 : decode c_M_fitsFor 91 = .ok (.iadd, 1) := by decide +kernel
theorem d_M_fitsFor_92 : decode c_M_fitsFor 92 = .ok (.iaload, 1) := by decide +kernel
theorem d_M_fitsFor_93 : decode c_M_fitsFor 93 = .ok (.if_icmp .lt 7, 3) := by decide +kernel
theorem d_M_fitsFor_96 : decode c_M_fitsFor 96 = .ok (.iconst 1, 1) := by decide +kernel
theorem d_M_fitsFor_97 : decode c_M_fitsFor 97 = .ok (.goto 4, 3) := by decide +kernel
theorem d_M_fitsFor_100 : decode c_M_fitsFor 100 = .ok (.iconst 0, 1) := by decide +kernel
theorem d_M_fitsFor_101 : decode c_M_fitsFor 101 = .ok (.ireturn, 1) := by decide +kernel
theorem d_M_init_0 : decode c_M_init 0 = .ok (.aload_n 0, 1) := by decide +kernel
theorem d_M_init_1 : decode c_M_init 1 = .ok (.invokespecial 1, 3) := by decide +kernel
theorem d_M_init_4 : decode c_M_init 4 = .ok (.aload_n 0, 1) := by decide +kernel
theorem d_M_init_5 : decode c_M_init 5 = .ok (.bipush 120, 2) := by decide +kernel
theorem d_M_init_7 : decode c_M_init 7 = .ok (.newarray .byte, 2) := by decide +kernel
theorem d_M_init_9 : decode c_M_init 9 = .ok (.putfield 7, 3) := by decide +kernel
theorem d_M_init_12 : decode c_M_init 12 = .ok (.aload_n 0, 1) := by decide +kernel
theorem d_M_init_13 : decode c_M_init 13 = .ok (.sipush 410, 3) := by decide +kernel
theorem d_M_init_16 : decode c_M_init 16 = .ok (.newarray .int, 2) := by decide +kernel
theorem d_M_init_18 : decode c_M_init 18 = .ok (.putfield 13, 3) := by decide +kernel
theorem d_M_init_21 : decode c_M_init 21 = .ok (.aload_n 0, 1) := by decide +kernel
theorem d_M_init_22 : decode c_M_init 22 = .ok (.bipush 40, 2) := by decide +kernel
theorem d_M_init_24 : decode c_M_init 24 = .ok (.newarray .boolean, 2) := by decide +kernel
theorem d_M_init_26 : decode c_M_init 26 = .ok (.putfield 17, 3) := by decide +kernel
theorem d_M_init_29 : decode c_M_init 29 = .ok (.aload_n 0, 1) := by decide +kernel
theorem d_M_init_30 : decode c_M_init 30 = .ok (.bipush 40, 2) := by decide +kernel
theorem d_M_init_32 : decode c_M_init 32 = .ok (.newarray .boolean, 2) := by decide +kernel
theorem d_M_init_34 : decode c_M_init 34 = .ok (.putfield 21, 3) := by decide +kernel
theorem d_M_init_37 : decode c_M_init 37 = .ok (.aload_n 0, 1) := by decide +kernel
theorem d_M_init_38 : decode c_M_init 38 = .ok (.sipush 10000, 3) := by decide +kernel
theorem d_M_init_41 : decode c_M_init 41 = .ok (.newarray .boolean, 2) := by decide +kernel
theorem d_M_init_43 : decode c_M_init 43 = .ok (.putfield 24, 3) := by decide +kernel
theorem d_M_init_46 : decode c_M_init 46 = .ok (.aload_n 0, 1) := by decide +kernel
theorem d_M_init_47 : decode c_M_init 47 = .ok (.sipush 10000, 3) := by decide +kernel
theorem d_M_init_50 : decode c_M_init 50 = .ok (.newarray .boolean, 2) := by decide +kernel
theorem d_M_init_52 : decode c_M_init 52 = .ok (.putfield 27, 3) := by decide +kernel
theorem d_M_init_55 : decode c_M_init 55 = .ok (.aload_n 0, 1) := by decide +kernel
theorem d_M_init_56 : decode c_M_init 56 = .ok (.bipush 50, 2) := by decide +kernel
theorem d_M_init_58 : decode c_M_init 58 = .ok (.newarray .int, 2) := by decide +kernel
theorem d_M_init_60 : decode c_M_init 60 = .ok (.putfield 30, 3) := by decide +kernel
theorem d_M_init_63 : decode c_M_init 63 = .ok (.aload_n 0, 1) := by decide +kernel
theorem d_M_init_64 : decode c_M_init 64 = .ok (.bipush 50, 2) := by decide +kernel
theorem d_M_init_66 : decode c_M_init 66 = .ok (.newarray .int, 2) := by decide +kernel
theorem d_M_init_68 : decode c_M_init 68 = .ok (.putfield 33, 3) := by decide +kernel
theorem d_M_init_71 : decode c_M_init 71 = .ok (.aload_n 0, 1) := by decide +kernel
theorem d_M_init_72 : decode c_M_init 72 = .ok (.bipush 50, 2) := by decide +kernel
theorem d_M_init_74 : decode c_M_init 74 = .ok (.newarray .int, 2) := by decide +kernel
theorem d_M_init_76 : decode c_M_init 76 = .ok (.putfield 36, 3) := by decide +kernel
theorem d_M_init_79 : decode c_M_init 79 = .ok (.aload_n 0, 1) := by decide +kernel
theorem d_M_init_80 : decode c_M_init 80 = .ok (.sipush 2000, 3) := by decide +kernel
theorem d_M_init_83 : decode c_M_init 83 = .ok (.newarray .int, 2) := by decide +kernel
theorem d_M_init_85 : decode c_M_init 85 = .ok (.putfield 39, 3) := by decide +kernel
theorem d_M_init_88 : decode c_M_init 88 = .ok (.aload_n 0, 1) := by decide +kernel
theorem d_M_init_89 : decode c_M_init 89 = .ok (.sipush 1407, 3) := by decide +kernel
theorem d_M_init_92 : decode c_M_init 92 = .ok (.newarray .int, 2) := by decide +kernel
theorem d_M_init_94 : decode c_M_init 94 = .ok (.putfield 42, 3) := by decide +kernel
theorem d_M_init_97 : decode c_M_init 97 = .ok (.aload_n 0, 1) := by decide +kernel
theorem d_M_init_98 : decode c_M_init 98 = .ok (.bipush 50, 2) := by decide +kernel
theorem d_M_init_100 : decode c_M_init 100 = .ok (.newarray .int, 2) := by decide +kernel
theorem d_M_init_102 : decode c_M_init 102 = .ok (.putfield 45, 3) := by decide +kernel
theorem d_M_init_105 : decode c_M_init 105 = .ok (.aload_n 0, 1) := by decide +kernel
theorem d_M_init_106 : decode c_M_init 106 = .ok (.bipush 40, 2) := by decide +kernel
theorem d_M_init_108 : decode c_M_init 108 = .ok (.newarray .int, 2) := by decide +kernel
theorem d_M_init_110 : decode c_M_init 110 = .ok (.putfield 48, 3) := by decide +kernel
theorem d_M_init_113 : decode c_M_init 113 = .ok (.aload_n 0, 1) := by decide +kernel
theorem d_M_init_114 : decode c_M_init 114 = .ok (.sipush 1600, 3) := by decide +kernel
theorem d_M_init_117 : decode c_M_init 117 = .ok (.newarray .int, 2) := by decide +kernel
theorem d_M_init_119 : decode c_M_init 119 = .ok (.putfield 51, 3) := by decide +kernel
theorem d_M_init_122 : decode c_M_init 122 = .ok (.return_, 1) := by decide +kernel
theorem d_M_isDay_0 : decode c_M_isDay 0 = .ok (.iload_n 0, 1) := by decide +kernel
theorem d_M_isDay_1 : decode c_M_isDay 1 = .ok (.ifCond .lt 14, 3) := by decide +kernel
theorem d_M_isDay_4 : decode c_M_isDay 4 = .ok (.iload_n 0, 1) := by decide +kernel
theorem d_M_isDay_5 : decode c_M_isDay 5 = .ok (.sipush 10000, 3) := by decide +kernel
theorem d_M_isDay_8 : decode c_M_isDay 8 = .ok (.if_icmp .ge 7, 3) := by decide +kernel
theorem d_M_isDay_11 : decode c_M_isDay 11 = .ok (.iconst 1, 1) := by decide +kernel
theorem d_M_isDay_12 : decode c_M_isDay 12 = .ok (.goto 4, 3) := by decide +kernel
theorem d_M_isDay_15 : decode c_M_isDay 15 = .ok (.iconst 0, 1) := by decide +kernel
theorem d_M_isDay_16 : decode c_M_isDay 16 = .ok (.ireturn, 1) := by decide +kernel
theorem d_M_isDigit_0 : decode c_M_isDigit 0 = .ok (.iload_n 0, 1) := by decide +kernel
theorem d_M_isDigit_1 : decode c_M_isDigit 1 = .ok (.bipush 48, 2) := by decide +kernel
theorem d_M_isDigit_3 : decode c_M_isDigit 3 = .ok (.if_icmp .lt 13, 3) := by decide +kernel
theorem d_M_isDigit_6 : decode c_M_isDigit 6 = .ok (.iload_n 0, 1) := by decide +kernel
theorem d_M_isDigit_7 : decode c_M_isDigit 7 = .ok (.bipush 57, 2) := by decide +kernel
theorem d_M_isDigit_9 : decode c_M_isDigit 9 = .ok (.if_icmp .gt 7, 3) := by decide +kernel
theorem d_M_isDigit_12 : decode c_M_isDigit 12 = .ok (.iconst 1, 1) := by decide +kernel
theorem d_M_isDigit_13 : decode c_M_isDigit 13 = .ok (.goto 4, 3) := by decide +kernel
theorem d_M_isDigit_16 : decode c_M_isDigit 16 = .ok (.iconst 0, 1) := by decide +kernel
theorem d_M_isDigit_17 : decode c_M_isDigit 17 = .ok (.ireturn, 1) := by decide +kernel
theorem d_M_isOut_0 : decode c_M_isOut 0 = .ok (.iload_n 1, 1) := by decide +kernel
theorem d_M_isOut_1 : decode c_M_isOut 1 = .ok (.ifCond .le 30, 3) := by decide +kernel
theorem d_M_isOut_4 : decode c_M_isOut 4 = .ok (.iload_n 1, 1) := by decide +kernel
theorem d_M_isOut_5 : decode c_M_isOut 5 = .ok (.aload_n 0, 1) := by decide +kernel
theorem d_M_isOut_6 : decode c_M_isOut 6 = .ok (.getfield 159, 3) := by decide +kernel
theorem d_M_isOut_9 : decode c_M_isOut 9 = .ok (.if_icmp .gt 22, 3) := by decide +kernel
theorem d_M_isOut_12 : decode c_M_isOut 12 = .ok (.aload_n 0, 1) := by decide +kernel
theorem d_M_isOut_13 : decode c_M_isOut 13 = .ok (.getfield 42, 3) := by decide +kernel
theorem d_M_isOut_16 : decode c_M_isOut 16 = .ok (.bipush 7, 2) := by decide +kernel
theorem d_M_isOut_18 : decode c_M_isOut 18 = .ok (.iload_n 1, 1) := by decide +kernel
theorem d_M_isOut_19 : decode c_M_isOut 19 = .ok (.imul, 1) := by decide +kernel
theorem d_M_isOut_20 : decode c_M_isOut 20 = .ok (.bipush 6, 2) := by decide +kernel
theorem d_M_isOut_22 : decode c_M_isOut 22 = .ok (.iadd, 1) := by decide +kernel
theorem d_M_isOut_23 : decode c_M_isOut 23 = .ok (.iaload, 1) := by decide +kernel
theorem d_M_isOut_24 : decode c_M_isOut 24 = .ok (.ifCond .ge 7, 3) := by decide +kernel
theorem d_M_isOut_27 : decode c_M_isOut 27 = .ok (.iconst 1, 1) := by decide +kernel
theorem d_M_isOut_28 : decode c_M_isOut 28 = .ok (.goto 4, 3) := by decide +kernel
theorem d_M_isOut_31 : decode c_M_isOut 31 = .ok (.iconst 0, 1) := by decide +kernel
theorem d_M_isOut_32 : decode c_M_isOut 32 = .ok (.ireturn, 1) := by decide +kernel
theorem d_M_isPerson_0 : decode c_M_isPerson 0 = .ok (.iload_n 0, 1) := by decide +kernel
theorem d_M_isPerson_1 : decode c_M_isPerson 1 = .ok (.ifCond .lt 13, 3) := by decide +kernel
theorem d_M_isPerson_4 : decode c_M_isPerson 4 = .ok (.iload_n 0, 1) := by decide +kernel
theorem d_M_isPerson_5 : decode c_M_isPerson 5 = .ok (.bipush 50, 2) := by decide +kernel
theorem d_M_isPerson_7 : decode c_M_isPerson 7 = .ok (.if_icmp .ge 7, 3) := by decide +kernel
theorem d_M_isPerson_10 : decode c_M_isPerson 10 = .ok (.iconst 1, 1) := by decide +kernel
theorem d_M_isPerson_11 : decode c_M_isPerson 11 = .ok (.goto 4, 3) := by decide +kernel
theorem d_M_isPerson_14 : decode c_M_isPerson 14 = .ok (.iconst 0, 1) := by decide +kernel
theorem d_M_isPerson_15 : decode c_M_isPerson 15 = .ok (.ireturn, 1) := by decide +kernel
theorem d_M_isRule_0 : decode c_M_isRule 0 = .ok (.iload_n 1, 1) := by decide +kernel
theorem d_M_isRule_1 : decode c_M_isRule 1 = .ok (.ifCond .lt 15, 3) := by decide +kernel
theorem d_M_isRule_4 : decode c_M_isRule 4 = .ok (.iload_n 1, 1) := by decide +kernel
theorem d_M_isRule_5 : decode c_M_isRule 5 = .ok (.aload_n 0, 1) := by decide +kernel
theorem d_M_isRule_6 : decode c_M_isRule 6 = .ok (.getfield 88, 3) := by decide +kernel
theorem d_M_isRule_9 : decode c_M_isRule 9 = .ok (.if_icmp .ge 7, 3) := by decide +kernel
theorem d_M_isRule_12 : decode c_M_isRule 12 = .ok (.iconst 1, 1) := by decide +kernel
theorem d_M_isRule_13 : decode c_M_isRule 13 = .ok (.goto 4, 3) := by decide +kernel
theorem d_M_isRule_16 : decode c_M_isRule 16 = .ok (.iconst 0, 1) := by decide +kernel
theorem d_M_isRule_17 : decode c_M_isRule 17 = .ok (.ireturn, 1) := by decide +kernel
theorem d_M_lend_0 : decode c_M_lend 0 = .ok (.aload_n 0, 1) := by decide +kernel
theorem d_M_lend_1 : decode c_M_lend 1 = .ok (.iconst 0, 1) := by decide +kernel
theorem d_M_lend_2 : decode c_M_lend 2 = .ok (.putfield 54, 3) := by decide +kernel
theorem d_M_lend_5 : decode c_M_lend 5 = .ok (.iload_n 1, 1) := by decide +kernel
theorem d_M_lend_6 : decode c_M_lend 6 = .ok (.invokestatic 143, 3) := by decide +kernel
theorem d_M_lend_9 : decode c_M_lend 9 = .ok (.ifCond .eq 36, 3) := by decide +kernel
theorem d_M_lend_12 : decode c_M_lend 12 = .ok (.iload_n 2, 1) := by decide +kernel
theorem d_M_lend_13 : decode c_M_lend 13 = .ok (.invokestatic 143, 3) := by decide +kernel
theorem d_M_lend_16 : decode c_M_lend 16 = .ok (.ifCond .eq 29, 3) := by decide +kernel
theorem d_M_lend_19 : decode c_M_lend 19 = .ok (.iload_n 3, 1) := by decide +kernel
theorem d_M_lend_20 : decode c_M_lend 20 = .ok (.invokestatic 137, 3) := by decide +kernel
theorem d_M_lend_23 : decode c_M_lend 23 = .ok (.ifCond .eq 22, 3) := by decide +kernel
theorem d_M_lend_26 : decode c_M_lend 26 = .ok (.aload_n 0, 1) := by decide +kernel
theorem d_M_lend_27 : decode c_M_lend 27 = .ok (.getfield 45, 3) := by decide +kernel
theorem d_M_lend_30 : decode c_M_lend 30 = .ok (.iload_n 2, 1) := by decide +kernel
theorem d_M_lend_31 : decode c_M_lend 31 = .ok (.iaload, 1) := by decide +kernel
theorem d_M_lend_32 : decode c_M_lend 32 = .ok (.ifCond .ne 13, 3) := by decide +kernel
theorem d_M_lend_35 : decode c_M_lend 35 = .ok (.aload_n 0, 1) := by decide +kernel
theorem d_M_lend_36 : decode c_M_lend 36 = .ok (.getfield 159, 3) := by decide +kernel
theorem d_M_lend_39 : decode c_M_lend 39 = .ok (.sipush 200, 3) := by decide +kernel
theorem d_M_lend_42 : decode c_M_lend 42 = .ok (.if_icmp .ne 5, 3) := by decide +kernel
theorem d_M_lend_45 : decode c_M_lend 45 = .ok (.iconst 0, 1) := by decide +kernel
theorem d_M_lend_46 : decode c_M_lend 46 = .ok (.ireturn, 1) := by decide +kernel
theorem d_M_lend_47 : decode c_M_lend 47 = .ok (.aload_n 0, 1) := by decide +kernel
theorem d_M_lend_48 : decode c_M_lend 48 = .ok (.getfield 36, 3) := by decide +kernel
theorem d_M_lend_51 : decode c_M_lend 51 = .ok (.iload_n 1, 1) := by decide +kernel
theorem d_M_lend_52 : decode c_M_lend 52 = .ok (.iaload, 1) := by decide +kernel
theorem d_M_lend_53 : decode c_M_lend 53 = .ok (.ifCond .le 13, 3) := by decide +kernel
theorem d_M_lend_56 : decode c_M_lend 56 = .ok (.bipush (-102), 2) := by decide +kernel
theorem d_M_lend_58 : decode c_M_lend 58 = .ok (.aload_n 0, 1) := by decide +kernel
theorem d_M_lend_59 : decode c_M_lend 59 = .ok (.getfield 36, 3) := by decide +kernel
theorem d_M_lend_62 : decode c_M_lend 62 = .ok (.iload_n 1, 1) := by decide +kernel
theorem d_M_lend_63 : decode c_M_lend 63 = .ok (.iaload, 1) := by decide +kernel
theorem d_M_lend_64 : decode c_M_lend 64 = .ok (.isub, 1) := by decide +kernel
theorem d_M_lend_65 : decode c_M_lend 65 = .ok (.ireturn, 1) := by decide +kernel
theorem d_M_lend_66 : decode c_M_lend 66 = .ok (.aload_n 0, 1) := by decide +kernel
theorem d_M_lend_67 : decode c_M_lend 67 = .ok (.iload_n 1, 1) := by decide +kernel
theorem d_M_lend_68 : decode c_M_lend 68 = .ok (.iload_n 2, 1) := by decide +kernel
theorem d_M_lend_69 : decode c_M_lend 69 = .ok (.iload_n 3, 1) := by decide +kernel
theorem d_M_lend_70 : decode c_M_lend 70 = .ok (.invokevirtual 162, 3) := by decide +kernel
theorem d_M_lend_73 : decode c_M_lend 73 = .ok (.aload_n 0, 1) := by decide +kernel
theorem d_M_lend_74 : decode c_M_lend 74 = .ok (.getfield 149, 3) := by decide +kernel
theorem d_M_lend_77 : decode c_M_lend 77 = .ok (.ifCond .ne 6, 3) := by decide +kernel
theorem d_M_lend_80 : decode c_M_lend 80 = .ok (.bipush (-100), 2) := by decide +kernel
theorem d_M_lend_82 : decode c_M_lend 82 = .ok (.ireturn, 1) := by decide +kernel
theorem d_M_lend_83 : decode c_M_lend 83 = .ok (.aload_n 0, 1) := by decide +kernel
theorem d_M_lend_84 : decode c_M_lend 84 = .ok (.getfield 48, 3) := by decide +kernel
theorem d_M_lend_87 : decode c_M_lend 87 = .ok (.iconst 0, 1) := by decide +kernel
theorem d_M_lend_88 : decode c_M_lend 88 = .ok (.iaload, 1) := by decide +kernel
theorem d_M_lend_89 : decode c_M_lend 89 = .ok (.istore 4, 2) := by decide +kernel
theorem d_M_lend_91 : decode c_M_lend 91 = .ok (.aload_n 0, 1) := by decide +kernel
theorem d_M_lend_92 : decode c_M_lend 92 = .ok (.getfield 17, 3) := by decide +kernel
theorem d_M_lend_95 : decode c_M_lend 95 = .ok (.iload 4, 2) := by decide +kernel
theorem d_M_lend_97 : decode c_M_lend 97 = .ok (.iconst 1, 1) := by decide +kernel
theorem d_M_lend_98 : decode c_M_lend 98 = .ok (.bastore, 1) := by decide +kernel
theorem d_M_lend_99 : decode c_M_lend 99 = .ok (.aload_n 0, 1) := by decide +kernel
theorem d_M_lend_100 : decode c_M_lend 100 = .ok (.invokevirtual 166, 3) := by decide +kernel
theorem d_M_lend_103 : decode c_M_lend 103 = .ok (.aload_n 0, 1) := by decide +kernel
theorem d_M_lend_104 : decode c_M_lend 104 = .ok (.getfield 13, 3) := by decide +kernel
theorem d_M_lend_107 : decode c_M_lend 107 = .ok (.bipush 10, 2) := by decide +kernel
theorem d_M_lend_109 : decode c_M_lend 109 = .ok (.iload 4, 2) := by decide +kernel
theorem d_M_lend_111 : decode c_M_lend 111 = .ok (.imul, 1) := by decide +kernel
theorem d_M_lend_112 : decode c_M_lend 112 = .ok (.iconst 3, 1) := by decide +kernel
theorem d_M_lend_113 : decode c_M_lend 113 = .ok (.iadd, 1) := by decide +kernel
theorem d_M_lend_114 : decode c_M_lend 114 = .ok (.iaload, 1) := by decide +kernel
theorem d_M_lend_115 : decode c_M_lend 115 = .ok (.istore 5, 2) := by decide +kernel
theorem d_M_lend_117 : decode c_M_lend 117 = .ok (.iload 5, 2) := by decide +kernel
theorem d_M_lend_119 : decode c_M_lend 119 = .ok (.iconst 3, 1) := by decide +kernel
theorem d_M_lend_120 : decode c_M_lend 120 = .ok (.if_icmp .ne 20, 3) := by decide +kernel
theorem d_M_lend_123 : decode c_M_lend 123 = .ok (.aload_n 0, 1) := by decide +kernel
theorem d_M_lend_124 : decode c_M_lend 124 = .ok (.getfield 21, 3) := by decide +kernel
theorem d_M_lend_127 : decode c_M_lend 127 = .ok (.iload 4, 2) := by decide +kernel
theorem d_M_lend_129 : decode c_M_lend 129 = .ok (.baload, 1) := by decide +kernel
theorem d_M_lend_130 : decode c_M_lend 130 = .ok (.ifCond .eq 10, 3) := by decide +kernel
theorem d_M_lend_133 : decode c_M_lend 133 = .ok (.aload_n 0, 1) := by decide +kernel
theorem d_M_lend_134 : decode c_M_lend 134 = .ok (.iconst 1, 1) := by decide +kernel
theorem d_M_lend_135 : decode c_M_lend 135 = .ok (.putfield 54, 3) := by decide +kernel
theorem d_M_lend_138 : decode c_M_lend 138 = .ok (.iconst 0, 1) := by decide +kernel
theorem d_M_lend_139 : decode c_M_lend 139 = .ok (.ireturn, 1) := by decide +kernel
theorem d_M_lend_140 : decode c_M_lend 140 = .ok (.iload 5, 2) := by decide +kernel
theorem d_M_lend_142 : decode c_M_lend 142 = .ok (.iconst 1, 1) := by decide +kernel
theorem d_M_lend_143 : decode c_M_lend 143 = .ok (.if_icmp .le 8, 3) := by decide +kernel
theorem d_M_lend_146 : decode c_M_lend 146 = .ok (.iconst (-1), 1) := by decide +kernel
theorem d_M_lend_147 : decode c_M_lend 147 = .ok (.iload 4, 2) := by decide +kernel
theorem d_M_lend_149 : decode c_M_lend 149 = .ok (.isub, 1) := by decide +kernel
theorem d_M_lend_150 : decode c_M_lend 150 = .ok (.ireturn, 1) := by decide +kernel
theorem d_M_lend_151 : decode c_M_lend 151 = .ok (.aload_n 0, 1) := by decide +kernel
theorem d_M_lend_152 : decode c_M_lend 152 = .ok (.iload 4, 2) := by decide +kernel
theorem d_M_lend_154 : decode c_M_lend 154 = .ok (.iload_n 3, 1) := by decide +kernel
theorem d_M_lend_155 : decode c_M_lend 155 = .ok (.invokevirtual 168, 3) := by decide +kernel
theorem d_M_lend_158 : decode c_M_lend 158 = .ok (.istore 6, 2) := by decide +kernel
theorem d_M_lend_160 : decode c_M_lend 160 = .ok (.iload 6, 2) := by decide +kernel
theorem d_M_lend_162 : decode c_M_lend 162 = .ok (.iconst (-1), 1) := by decide +kernel
theorem d_M_lend_163 : decode c_M_lend 163 = .ok (.if_icmp .ne 6, 3) := by decide +kernel
theorem d_M_lend_166 : decode c_M_lend 166 = .ok (.bipush (-101), 2) := by decide +kernel
theorem d_M_lend_168 : decode c_M_lend 168 = .ok (.ireturn, 1) := by decide +kernel
theorem d_M_lend_169 : decode c_M_lend 169 = .ok (.aload_n 0, 1) := by decide +kernel
theorem d_M_lend_170 : decode c_M_lend 170 = .ok (.dup, 1) := by decide +kernel
theorem d_M_lend_171 : decode c_M_lend 171 = .ok (.getfield 159, 3) := by decide +kernel
theorem d_M_lend_174 : decode c_M_lend 174 = .ok (.iconst 1, 1) := by decide +kernel
theorem d_M_lend_175 : decode c_M_lend 175 = .ok (.iadd, 1) := by decide +kernel
theorem d_M_lend_176 : decode c_M_lend 176 = .ok (.putfield 159, 3) := by decide +kernel
theorem d_M_lend_179 : decode c_M_lend 179 = .ok (.aload_n 0, 1) := by decide +kernel
theorem d_M_lend_180 : decode c_M_lend 180 = .ok (.getfield 45, 3) := by decide +kernel
theorem d_M_lend_183 : decode c_M_lend 183 = .ok (.iload_n 2, 1) := by decide +kernel
theorem d_M_lend_184 : decode c_M_lend 184 = .ok (.aload_n 0, 1) := by decide +kernel
theorem d_M_lend_185 : decode c_M_lend 185 = .ok (.getfield 159, 3) := by decide +kernel
theorem d_M_lend_188 : decode c_M_lend 188 = .ok (.iastore, 1) := by decide +kernel
theorem d_M_lend_189 : decode c_M_lend 189 = .ok (.bipush 7, 2) := by decide +kernel
theorem d_M_lend_191 : decode c_M_lend 191 = .ok (.aload_n 0, 1) := by decide +kernel
theorem d_M_lend_192 : decode c_M_lend 192 = .ok (.getfield 159, 3) := by decide +kernel
theorem d_M_lend_195 : decode c_M_lend 195 = .ok (.imul, 1) := by decide +kernel
theorem d_M_lend_196 : decode c_M_lend 196 = .ok (.istore 7, 2) := by decide +kernel
theorem d_M_lend_198 : decode c_M_lend 198 = .ok (.aload_n 0, 1) := by decide +kernel
theorem d_M_lend_199 : decode c_M_lend 199 = .ok (.getfield 42, 3) := by decide +kernel
theorem d_M_lend_202 : decode c_M_lend 202 = .ok (.iload 7, 2) := by decide +kernel
theorem d_M_lend_204 : decode c_M_lend 204 = .ok (.iload_n 2, 1) := by decide +kernel
theorem d_M_lend_205 : decode c_M_lend 205 = .ok (.iastore, 1) := by decide +kernel
theorem d_M_lend_206 : decode c_M_lend 206 = .ok (.aload_n 0, 1) := by decide +kernel
theorem d_M_lend_207 : decode c_M_lend 207 = .ok (.getfield 42, 3) := by decide +kernel
theorem d_M_lend_210 : decode c_M_lend 210 = .ok (.iload 7, 2) := by decide +kernel
theorem d_M_lend_212 : decode c_M_lend 212 = .ok (.iconst 1, 1) := by decide +kernel
theorem d_M_lend_213 : decode c_M_lend 213 = .ok (.iadd, 1) := by decide +kernel
theorem d_M_lend_214 : decode c_M_lend 214 = .ok (.iload 4, 2) := by decide +kernel
theorem d_M_lend_216 : decode c_M_lend 216 = .ok (.iastore, 1) := by decide +kernel
theorem d_M_lend_217 : decode c_M_lend 217 = .ok (.aload_n 0, 1) := by decide +kernel
theorem d_M_lend_218 : decode c_M_lend 218 = .ok (.getfield 42, 3) := by decide +kernel
theorem d_M_lend_221 : decode c_M_lend 221 = .ok (.iload 7, 2) := by decide +kernel
theorem d_M_lend_223 : decode c_M_lend 223 = .ok (.iconst 2, 1) := by decide +kernel
theorem d_M_lend_224 : decode c_M_lend 224 = .ok (.iadd, 1) := by decide +kernel
theorem d_M_lend_225 : decode c_M_lend 225 = .ok (.iload 6, 2) := by decide +kernel
theorem d_M_lend_227 : decode c_M_lend 227 = .ok (.iastore, 1) := by decide +kernel
theorem d_M_lend_228 : decode c_M_lend 228 = .ok (.aload_n 0, 1) := by decide +kernel
theorem d_M_lend_229 : decode c_M_lend 229 = .ok (.getfield 42, 3) := by decide +kernel
theorem d_M_lend_232 : decode c_M_lend 232 = .ok (.iload 7, 2) := by decide +kernel
theorem d_M_lend_234 : decode c_M_lend 234 = .ok (.iconst 4, 1) := by decide +kernel
theorem d_M_lend_235 : decode c_M_lend 235 = .ok (.iadd, 1) := by decide +kernel
theorem d_M_lend_236 : decode c_M_lend 236 = .ok (.iload_n 3, 1) := by decide +kernel
theorem d_M_lend_237 : decode c_M_lend 237 = .ok (.iastore, 1) := by decide +kernel
theorem d_M_lend_238 : decode c_M_lend 238 = .ok (.aload_n 0, 1) := by decide +kernel
theorem d_M_lend_239 : decode c_M_lend 239 = .ok (.getfield 42, 3) := by decide +kernel
theorem d_M_lend_242 : decode c_M_lend 242 = .ok (.iload 7, 2) := by decide +kernel
theorem d_M_lend_244 : decode c_M_lend 244 = .ok (.bipush 6, 2) := by decide +kernel
theorem d_M_lend_246 : decode c_M_lend 246 = .ok (.iadd, 1) := by decide +kernel
theorem d_M_lend_247 : decode c_M_lend 247 = .ok (.iconst (-1), 1) := by decide +kernel
theorem d_M_lend_248 : decode c_M_lend 248 = .ok (.iload_n 1, 1) := by decide +kernel
theorem d_M_lend_249 : decode c_M_lend 249 = .ok (.isub, 1) := by decide +kernel
theorem d_M_lend_250 : decode c_M_lend 250 = .ok (.iastore, 1) := by decide +kernel
theorem d_M_lend_251 : decode c_M_lend 251 = .ok (.aload_n 0, 1) := by decide +kernel
theorem d_M_lend_252 : decode c_M_lend 252 = .ok (.getfield 159, 3) := by decide +kernel
theorem d_M_lend_255 : decode c_M_lend 255 = .ok (.ireturn, 1) := by decide +kernel
theorem d_M_lends_0 : decode c_M_lends 0 = .ok (.aload_n 0, 1) := by decide +kernel
theorem d_M_lends_1 : decode c_M_lends 1 = .ok (.aload_n 0, 1) := by decide +kernel
theorem d_M_lends_2 : decode c_M_lends 2 = .ok (.getfield 64, 3) := by decide +kernel
theorem d_M_lends_5 : decode c_M_lends 5 = .ok (.invokevirtual 67, 3) := by decide +kernel
theorem d_M_lends_8 : decode c_M_lends 8 = .ok (.bipush 32, 2) := by decide +kernel
theorem d_M_lends_10 : decode c_M_lends 10 = .ok (.if_icmp .ne 70, 3) := by decide +kernel
theorem d_M_lends_13 : decode c_M_lends 13 = .ok (.aload_n 0, 1) := by decide +kernel
theorem d_M_lends_14 : decode c_M_lends 14 = .ok (.aload_n 0, 1) := by decide +kernel
theorem d_M_lends_15 : decode c_M_lends 15 = .ok (.getfield 64, 3) := by decide +kernel
theorem d_M_lends_18 : decode c_M_lends 18 = .ok (.iconst 1, 1) := by decide +kernel
theorem d_M_lends_19 : decode c_M_lends 19 = .ok (.iadd, 1) := by decide +kernel
theorem d_M_lends_20 : decode c_M_lends 20 = .ok (.invokevirtual 67, 3) := by decide +kernel
theorem d_M_lends_23 : decode c_M_lends 23 = .ok (.invokestatic 85, 3) := by decide +kernel
theorem d_M_lends_26 : decode c_M_lends 26 = .ok (.ifCond .ne 54, 3) := by decide +kernel
theorem d_M_lends_29 : decode c_M_lends 29 = .ok (.aload_n 0, 1) := by decide +kernel
theorem d_M_lends_30 : decode c_M_lends 30 = .ok (.dup, 1) := by decide +kernel
theorem d_M_lends_31 : decode c_M_lends 31 = .ok (.getfield 64, 3) := by decide +kernel
theorem d_M_lends_34 : decode c_M_lends 34 = .ok (.iconst 1, 1) := by decide +kernel
theorem d_M_lends_35 : decode c_M_lends 35 = .ok (.iadd, 1) := by decide +kernel
theorem d_M_lends_36 : decode c_M_lends 36 = .ok (.putfield 64, 3) := by decide +kernel
theorem d_M_lends_39 : decode c_M_lends 39 = .ok (.aload_n 0, 1) := by decide +kernel
theorem d_M_lends_40 : decode c_M_lends 40 = .ok (.invokevirtual 111, 3) := by decide +kernel
theorem d_M_lends_43 : decode c_M_lends 43 = .ok (.ldc2_w 115, 3) := by decide +kernel
theorem d_M_lends_46 : decode c_M_lends 46 = .ok (.lcmp, 1) := by decide +kernel
theorem d_M_lends_47 : decode c_M_lends 47 = .ok (.ifCond .eq 12, 3) := by decide +kernel
theorem d_M_lends_50 : decode c_M_lends 50 = .ok (.aload_n 0, 1) := by decide +kernel
theorem d_M_lends_51 : decode c_M_lends 51 = .ok (.aload_n 0, 1) := by decide +kernel
theorem d_M_lends_52 : decode c_M_lends 52 = .ok (.getfield 64, 3) := by decide +kernel
theorem d_M_lends_55 : decode c_M_lends 55 = .ok (.invokevirtual 77, 3) := by decide +kernel
theorem d_M_lends_58 : decode c_M_lends 58 = .ok (.ireturn, 1) := by decide +kernel
theorem d_M_lends_59 : decode c_M_lends 59 = .ok (.aload_n 0, 1) := by decide +kernel
theorem d_M_lends_60 : decode c_M_lends 60 = .ok (.invokevirtual 117, 3) := by decide +kernel
theorem d_M_lends_63 : decode c_M_lends 63 = .ok (.aload_n 0, 1) := by decide +kernel
theorem d_M_lends_64 : decode c_M_lends 64 = .ok (.getfield 13, 3) := by decide +kernel
theorem d_M_lends_67 : decode c_M_lends 67 = .ok (.bipush 10, 2) := by decide +kernel
theorem d_M_lends_69 : decode c_M_lends 69 = .ok (.aload_n 0, 1) := by decide +kernel
theorem d_M_lends_70 : decode c_M_lends 70 = .ok (.getfield 88, 3) := by decide +kernel
theorem d_M_lends_73 : decode c_M_lends 73 = .ok (.imul, 1) := by decide +kernel
theorem d_M_lends_74 : decode c_M_lends 74 = .ok (.iconst 3, 1) := by decide +kernel
theorem d_M_lends_75 : decode c_M_lends 75 = .ok (.iadd, 1) := by decide +kernel
theorem d_M_lends_76 : decode c_M_lends 76 = .ok (.iconst 1, 1) := by decide +kernel
theorem d_M_lends_77 : decode c_M_lends 77 = .ok (.iastore, 1) := by decide +kernel
theorem d_M_lends_78 : decode c_M_lends 78 = .ok (.iconst 1, 1) := by decide +kernel
theorem d_M_lends_79 : decode c_M_lends 79 = .ok (.ireturn, 1) := by decide +kernel
theorem d_M_lends_80 : decode c_M_lends 80 = .ok (.aload_n 0, 1) := by decide +kernel
theorem d_M_lends_81 : decode c_M_lends 81 = .ok (.iconst 4, 1) := by decide +kernel
theorem d_M_lends_82 : decode c_M_lends 82 = .ok (.iconst 3, 1) := by decide +kernel
theorem d_M_lends_83 : decode c_M_lends 83 = .ok (.sipush 999, 3) := by decide +kernel
theorem d_M_lends_86 : decode c_M_lends 86 = .ok (.invokevirtual 120, 3) := by decide +kernel
theorem d_M_lends_89 : decode c_M_lends 89 = .ok (.ireturn, 1) := by decide +kernel
theorem d_M_look_0 : decode c_M_look 0 = .ok (.iload_n 1, 1) := by decide +kernel
theorem d_M_look_1 : decode c_M_look 1 = .ok (.aload_n 0, 1) := by decide +kernel
theorem d_M_look_2 : decode c_M_look 2 = .ok (.getfield 58, 3) := by decide +kernel
theorem d_M_look_5 : decode c_M_look 5 = .ok (.if_icmp .ge 16, 3) := by decide +kernel
theorem d_M_look_8 : decode c_M_look 8 = .ok (.aload_n 0, 1) := by decide +kernel
theorem d_M_look_9 : decode c_M_look 9 = .ok (.getfield 7, 3) := by decide +kernel
theorem d_M_look_12 : decode c_M_look 12 = .ok (.iload_n 1, 1) := by decide +kernel
theorem d_M_look_13 : decode c_M_look 13 = .ok (.baload, 1) := by decide +kernel
theorem d_M_look_14 : decode c_M_look 14 = .ok (.sipush 255, 3) := by decide +kernel
theorem d_M_look_17 : decode c_M_look 17 = .ok (.iand, 1) := by decide +kernel
theorem d_M_look_18 : decode c_M_look 18 = .ok (.goto 4, 3) := by decide +kernel
theorem d_M_look_21 : decode c_M_look 21 = .ok (.iconst (-1), 1) := by decide +kernel
theorem d_M_look_22 : decode c_M_look 22 = .ok (.ireturn, 1) := by decide +kernel
theorem d_M_never_0 : decode c_M_never 0 = .ok (.aload_n 0, 1) := by decide +kernel
theorem d_M_never_1 : decode c_M_never 1 = .ok (.iconst 0, 1) := by decide +kernel
theorem d_M_never_2 : decode c_M_never 2 = .ok (.putfield 54, 3) := by decide +kernel
theorem d_M_never_5 : decode c_M_never 5 = .ok (.iconst 0, 1) := by decide +kernel
theorem d_M_never_6 : decode c_M_never 6 = .ok (.istore_n 2, 1) := by decide +kernel
theorem d_M_never_7 : decode c_M_never 7 = .ok (.iconst 0, 1) := by decide +kernel
theorem d_M_never_8 : decode c_M_never 8 = .ok (.istore_n 3, 1) := by decide +kernel
theorem d_M_never_9 : decode c_M_never 9 = .ok (.iload_n 3, 1) := by decide +kernel
theorem d_M_never_10 : decode c_M_never 10 = .ok (.aload_n 0, 1) := by decide +kernel
theorem d_M_never_11 : decode c_M_never 11 = .ok (.getfield 88, 3) := by decide +kernel
theorem d_M_never_14 : decode c_M_never 14 = .ok (.if_icmp .ge 32, 3) := by decide +kernel
theorem d_M_never_17 : decode c_M_never 17 = .ok (.iload_n 1, 1) := by decide +kernel
theorem d_M_never_18 : decode c_M_never 18 = .ok (.ifCond .lt 28, 3) := by decide +kernel
theorem d_M_never_21 : decode c_M_never 21 = .ok (.aload_n 0, 1) := by decide +kernel
theorem d_M_never_22 : decode c_M_never 22 = .ok (.getfield 17, 3) := by decide +kernel
theorem d_M_never_25 : decode c_M_never 25 = .ok (.iload_n 3, 1) := by decide +kernel
theorem d_M_never_26 : decode c_M_never 26 = .ok (.baload, 1) := by decide +kernel
theorem d_M_never_27 : decode c_M_never 27 = .ok (.ifCond .ne 13, 3) := by decide +kernel
theorem d_M_never_30 : decode c_M_never 30 = .ok (.iload_n 2, 1) := by decide +kernel
theorem d_M_never_31 : decode c_M_never 31 = .ok (.iload_n 1, 1) := by decide +kernel
theorem d_M_never_32 : decode c_M_never 32 = .ok (.if_icmp .ne 5, 3) := by decide +kernel
theorem d_M_never_35 : decode c_M_never 35 = .ok (.iload_n 3, 1) := by decide +kernel
theorem d_M_never_36 : decode c_M_never 36 = .ok (.ireturn, 1) := by decide +kernel
theorem d_M_never_37 : decode c_M_never 37 = .ok (.iinc 2 1, 3) := by decide +kernel
theorem d_M_never_40 : decode c_M_never 40 = .ok (.iinc 3 1, 3) := by decide +kernel
theorem d_M_never_43 : decode c_M_never 43 = .ok (.goto (-34), 3) := by decide +kernel
theorem d_M_never_46 : decode c_M_never 46 = .ok (.iconst (-1), 1) := by decide +kernel
theorem d_M_never_47 : decode c_M_never 47 = .ok (.ireturn, 1) := by decide +kernel
theorem d_M_number_0 : decode c_M_number 0 = .ok (.aload_n 0, 1) := by decide +kernel
theorem d_M_number_1 : decode c_M_number 1 = .ok (.invokevirtual 81, 3) := by decide +kernel
theorem d_M_number_4 : decode c_M_number 4 = .ok (.ifCond .ne 5, 3) := by decide +kernel
theorem d_M_number_7 : decode c_M_number 7 = .ok (.iconst 0, 1) := by decide +kernel
theorem d_M_number_8 : decode c_M_number 8 = .ok (.ireturn, 1) := by decide +kernel
theorem d_M_number_9 : decode c_M_number 9 = .ok (.aload_n 0, 1) := by decide +kernel
theorem d_M_number_10 : decode c_M_number 10 = .ok (.getfield 64, 3) := by decide +kernel
theorem d_M_number_13 : decode c_M_number 13 = .ok (.istore 4, 2) := by decide +kernel
theorem d_M_number_15 : decode c_M_number 15 = .ok (.iconst 0, 1) := by decide +kernel
theorem d_M_number_16 : decode c_M_number 16 = .ok (.istore 5, 2) := by decide +kernel
theorem d_M_number_18 : decode c_M_number 18 = .ok (.aload_n 0, 1) := by decide +kernel
theorem d_M_number_19 : decode c_M_number 19 = .ok (.aload_n 0, 1) := by decide +kernel
theorem d_M_number_20 : decode c_M_number 20 = .ok (.getfield 64, 3) := by decide +kernel
theorem d_M_number_23 : decode c_M_number 23 = .ok (.invokevirtual 67, 3) := by decide +kernel
theorem d_M_number_26 : decode c_M_number 26 = .ok (.invokestatic 85, 3) := by decide +kernel
theorem d_M_number_29 : decode c_M_number 29 = .ok (.ifCond .eq 52, 3) := by decide +kernel
theorem d_M_number_32 : decode c_M_number 32 = .ok (.aload_n 0, 1) := by decide +kernel
theorem d_M_number_33 : decode c_M_number 33 = .ok (.getfield 64, 3) := by decide +kernel
theorem d_M_number_36 : decode c_M_number 36 = .ok (.iload 4, 2) := by decide +kernel
theorem d_M_number_38 : decode c_M_number 38 = .ok (.isub, 1) := by decide +kernel
theorem d_M_number_39 : decode c_M_number 39 = .ok (.iconst 3, 1) := by decide +kernel
theorem d_M_number_40 : decode c_M_number 40 = .ok (.if_icmp .le 9, 3) := by decide +kernel
theorem d_M_number_43 : decode c_M_number 43 = .ok (.sipush 9999, 3) := by decide +kernel
theorem d_M_number_46 : decode c_M_number 46 = .ok (.goto 20, 3) := by decide +kernel
theorem d_M_number_49 : decode c_M_number 49 = .ok (.bipush 10, 2) := by decide +kernel
theorem d_M_number_51 : decode c_M_number 51 = .ok (.iload 5, 2) := by decide +kernel
theorem d_M_number_53 : decode c_M_number 53 = .ok (.imul, 1) := by decide +kernel
theorem d_M_number_54 : decode c_M_number 54 = .ok (.aload_n 0, 1) := by decide +kernel
theorem d_M_number_55 : decode c_M_number 55 = .ok (.aload_n 0, 1) := by decide +kernel
theorem d_M_number_56 : decode c_M_number 56 = .ok (.getfield 64, 3) := by decide +kernel
theorem d_M_number_59 : decode c_M_number 59 = .ok (.invokevirtual 67, 3) := by decide +kernel
theorem d_M_number_62 : decode c_M_number 62 = .ok (.iadd, 1) := by decide +kernel
theorem d_M_number_63 : decode c_M_number 63 = .ok (.bipush 48, 2) := by decide +kernel
theorem d_M_number_65 : decode c_M_number 65 = .ok (.isub, 1) := by decide +kernel
theorem d_M_number_66 : decode c_M_number 66 = .ok (.istore 5, 2) := by decide +kernel
theorem d_M_number_68 : decode c_M_number 68 = .ok (.aload_n 0, 1) := by decide +kernel
theorem d_M_number_69 : decode c_M_number 69 = .ok (.dup, 1) := by decide +kernel
theorem d_M_number_70 : decode c_M_number 70 = .ok (.getfield 64, 3) := by decide +kernel
theorem d_M_number_73 : decode c_M_number 73 = .ok (.iconst 1, 1) := by decide +kernel
theorem d_M_number_74 : decode c_M_number 74 = .ok (.iadd, 1) := by decide +kernel
theorem d_M_number_75 : decode c_M_number 75 = .ok (.putfield 64, 3) := by decide +kernel
theorem d_M_number_78 : decode c_M_number 78 = .ok (.goto (-60), 3) := by decide +kernel
theorem d_M_number_81 : decode c_M_number 81 = .ok (.aload_n 0, 1) := by decide +kernel
theorem d_M_number_82 : decode c_M_number 82 = .ok (.getfield 64, 3) := by decide +kernel
theorem d_M_number_85 : decode c_M_number 85 = .ok (.iload 4, 2) := by decide +kernel
theorem d_M_number_87 : decode c_M_number 87 = .ok (.if_icmp .eq 20, 3) := by decide +kernel
theorem d_M_number_90 : decode c_M_number 90 = .ok (.aload_n 0, 1) := by decide +kernel
theorem d_M_number_91 : decode c_M_number 91 = .ok (.getfield 64, 3) := by decide +kernel
theorem d_M_number_94 : decode c_M_number 94 = .ok (.iload 4, 2) := by decide +kernel
theorem d_M_number_96 : decode c_M_number 96 = .ok (.isub, 1) := by decide +kernel
theorem d_M_number_97 : decode c_M_number 97 = .ok (.iload_n 2, 1) := by decide +kernel
theorem d_M_number_98 : decode c_M_number 98 = .ok (.if_icmp .gt 9, 3) := by decide +kernel
theorem d_M_number_101 : decode c_M_number 101 = .ok (.iload 5, 2) := by decide +kernel
theorem d_M_number_103 : decode c_M_number 103 = .ok (.iload_n 3, 1) := by decide +kernel
theorem d_M_number_104 : decode c_M_number 104 = .ok (.if_icmp .le 10, 3) := by decide +kernel
theorem d_M_number_107 : decode c_M_number 107 = .ok (.aload_n 0, 1) := by decide +kernel
theorem d_M_number_108 : decode c_M_number 108 = .ok (.iload 4, 2) := by decide +kernel
theorem d_M_number_110 : decode c_M_number 110 = .ok (.invokevirtual 77, 3) := by decide +kernel
theorem d_M_number_113 : decode c_M_number 113 = .ok (.ireturn, 1) := by decide +kernel
theorem d_M_number_114 : decode c_M_number 114 = .ok (.aload_n 0, 1) := by decide +kernel
theorem d_M_number_115 : decode c_M_number 115 = .ok (.getfield 13, 3) := by decide +kernel
theorem d_M_number_118 : decode c_M_number 118 = .ok (.bipush 10, 2) := by decide +kernel
theorem d_M_number_120 : decode c_M_number 120 = .ok (.aload_n 0, 1) := by decide +kernel
theorem d_M_number_121 : decode c_M_number 121 = .ok (.getfield 88, 3) := by decide +kernel
theorem d_M_number_124 : decode c_M_number 124 = .ok (.imul, 1) := by decide +kernel
theorem d_M_number_125 : decode c_M_number 125 = .ok (.iload_n 1, 1) := by decide +kernel
theorem d_M_number_126 : decode c_M_number 126 = .ok (.iadd, 1) := by decide +kernel
theorem d_M_number_127 : decode c_M_number 127 = .ok (.iload 5, 2) := by decide +kernel
theorem d_M_number_129 : decode c_M_number 129 = .ok (.iastore, 1) := by decide +kernel
theorem d_M_number_130 : decode c_M_number 130 = .ok (.iconst 1, 1) := by decide +kernel
theorem d_M_number_131 : decode c_M_number 131 = .ok (.ireturn, 1) := by decide +kernel
theorem d_M_one_0 : decode c_M_one 0 = .ok (.iload_n 1, 1) := by decide +kernel
theorem d_M_one_1 : decode c_M_one 1 = .ok (.tableswitch 149 1 9 #[51, 60, 69, 78, 83, 100, 117, 127, 138], 51) := by decide +kernel
theorem d_M_one_52 : decode c_M_one 52 = .ok (.aload_n 0, 1) := by decide +kernel
theorem d_M_one_53 : decode c_M_one 53 = .ok (.iconst 0, 1) := by decide +kernel
theorem d_M_one_54 : decode c_M_one 54 = .ok (.iconst 1, 1) := by decide +kernel
theorem d_M_one_55 : decode c_M_one 55 = .ok (.bipush 9, 2) := by decide +kernel
theorem d_M_one_57 : decode c_M_one 57 = .ok (.invokevirtual 120, 3) := by decide +kernel
theorem d_M_one_60 : decode c_M_one 60 = .ok (.ireturn, 1) := by decide +kernel
theorem d_M_one_61 : decode c_M_one 61 = .ok (.aload_n 0, 1) := by decide +kernel
theorem d_M_one_62 : decode c_M_one 62 = .ok (.iconst 1, 1) := by decide +kernel
theorem d_M_one_63 : decode c_M_one 63 = .ok (.iconst 1, 1) := by decide +kernel
theorem d_M_one_64 : decode c_M_one 64 = .ok (.bipush 9, 2) := by decide +kernel
theorem d_M_one_66 : decode c_M_one 66 = .ok (.invokevirtual 120, 3) := by decide +kernel
theorem d_M_one_69 : decode c_M_one 69 = .ok (.ireturn, 1) := by decide +kernel
theorem d_M_one_70 : decode c_M_one 70 = .ok (.aload_n 0, 1) := by decide +kernel
theorem d_M_one_71 : decode c_M_one 71 = .ok (.iconst 2, 1) := by decide +kernel
theorem d_M_one_72 : decode c_M_one 72 = .ok (.iconst 2, 1) := by decide +kernel
theorem d_M_one_73 : decode c_M_one 73 = .ok (.bipush 49, 2) := by decide +kernel
theorem d_M_one_75 : decode c_M_one 75 = .ok (.invokevirtual 120, 3) := by decide +kernel
theorem d_M_one_78 : decode c_M_one 78 = .ok (.ireturn, 1) := by decide +kernel
theorem d_M_one_79 : decode c_M_one 79 = .ok (.aload_n 0, 1) := by decide +kernel
theorem d_M_one_80 : decode c_M_one 80 = .ok (.invokevirtual 124, 3) := by decide +kernel
theorem d_M_one_83 : decode c_M_one 83 = .ok (.ireturn, 1) := by decide +kernel
theorem d_M_one_84 : decode c_M_one 84 = .ok (.aload_n 0, 1) := by decide +kernel
theorem d_M_one_85 : decode c_M_one 85 = .ok (.getfield 13, 3) := by decide +kernel
theorem d_M_one_88 : decode c_M_one 88 = .ok (.bipush 10, 2) := by decide +kernel
theorem d_M_one_90 : decode c_M_one 90 = .ok (.aload_n 0, 1) := by decide +kernel
theorem d_M_one_91 : decode c_M_one 91 = .ok (.getfield 88, 3) := by decide +kernel
theorem d_M_one_94 : decode c_M_one 94 = .ok (.imul, 1) := by decide +kernel
theorem d_M_one_95 : decode c_M_one 95 = .ok (.iconst 3, 1) := by decide +kernel
theorem d_M_one_96 : decode c_M_one 96 = .ok (.iadd, 1) := by decide +kernel
theorem d_M_one_97 : decode c_M_one 97 = .ok (.iconst 2, 1) := by decide +kernel
theorem d_M_one_98 : decode c_M_one 98 = .ok (.iastore, 1) := by decide +kernel
theorem d_M_one_99 : decode c_M_one 99 = .ok (.iconst 1, 1) := by decide +kernel
theorem d_M_one_100 : decode c_M_one 100 = .ok (.ireturn, 1) := by decide +kernel
theorem d_M_one_101 : decode c_M_one 101 = .ok (.aload_n 0, 1) := by decide +kernel
theorem d_M_one_102 : decode c_M_one 102 = .ok (.getfield 13, 3) := by decide +kernel
theorem d_M_one_105 : decode c_M_one 105 = .ok (.bipush 10, 2) := by decide +kernel
theorem d_M_one_107 : decode c_M_one 107 = .ok (.aload_n 0, 1) := by decide +kernel
theorem d_M_one_108 : decode c_M_one 108 = .ok (.getfield 88, 3) := by decide +kernel
theorem d_M_one_111 : decode c_M_one 111 = .ok (.imul, 1) := by decide +kernel
theorem d_M_one_112 : decode c_M_one 112 = .ok (.iconst 3, 1) := by decide +kernel
theorem d_M_one_113 : decode c_M_one 113 = .ok (.iadd, 1) := by decide +kernel
theorem d_M_one_114 : decode c_M_one 114 = .ok (.iconst 3, 1) := by decide +kernel
theorem d_M_one_115 : decode c_M_one 115 = .ok (.iastore, 1) := by decide +kernel
theorem d_M_one_116 : decode c_M_one 116 = .ok (.iconst 1, 1) := by decide +kernel
theorem d_M_one_117 : decode c_M_one 117 = .ok (.ireturn, 1) := by decide +kernel
theorem d_M_one_118 : decode c_M_one 118 = .ok (.aload_n 0, 1) := by decide +kernel
theorem d_M_one_119 : decode c_M_one 119 = .ok (.iconst 5, 1) := by decide +kernel
theorem d_M_one_120 : decode c_M_one 120 = .ok (.iconst 3, 1) := by decide +kernel
theorem d_M_one_121 : decode c_M_one 121 = .ok (.sipush 999, 3) := by decide +kernel
theorem d_M_one_124 : decode c_M_one 124 = .ok (.invokevirtual 120, 3) := by decide +kernel
theorem d_M_one_127 : decode c_M_one 127 = .ok (.ireturn, 1) := by decide +kernel
theorem d_M_one_128 : decode c_M_one 128 = .ok (.aload_n 0, 1) := by decide +kernel
theorem d_M_one_129 : decode c_M_one 129 = .ok (.bipush 6, 2) := by decide +kernel
theorem d_M_one_131 : decode c_M_one 131 = .ok (.iconst 3, 1) := by decide +kernel
theorem d_M_one_132 : decode c_M_one 132 = .ok (.sipush 999, 3) := by decide +kernel
theorem d_M_one_135 : decode c_M_one 135 = .ok (.invokevirtual 120, 3) := by decide +kernel
theorem d_M_one_138 : decode c_M_one 138 = .ok (.ireturn, 1) := by decide +kernel
theorem d_M_one_139 : decode c_M_one 139 = .ok (.aload_n 0, 1) := by decide +kernel
theorem d_M_one_140 : decode c_M_one 140 = .ok (.bipush 7, 2) := by decide +kernel
theorem d_M_one_142 : decode c_M_one 142 = .ok (.iconst 3, 1) := by decide +kernel
theorem d_M_one_143 : decode c_M_one 143 = .ok (.sipush 999, 3) := by decide +kernel
theorem d_M_one_146 : decode c_M_one 146 = .ok (.invokevirtual 120, 3) := by decide +kernel
theorem d_M_one_149 : decode c_M_one 149 = .ok (.ireturn, 1) := by decide +kernel
theorem d_M_one_150 : decode c_M_one 150 = .ok (.aload_n 0, 1) := by decide +kernel
theorem d_M_one_151 : decode c_M_one 151 = .ok (.bipush 8, 2) := by decide +kernel
theorem d_M_one_153 : decode c_M_one 153 = .ok (.iconst 3, 1) := by decide +kernel
theorem d_M_one_154 : decode c_M_one 154 = .ok (.sipush 999, 3) := by decide +kernel
theorem d_M_one_157 : decode c_M_one 157 = .ok (.invokevirtual 120, 3) := by decide +kernel
theorem d_M_one_160 : decode c_M_one 160 = .ok (.ireturn, 1) := by decide +kernel
theorem d_M_open_0 : decode c_M_open 0 = .ok (.iload_n 1, 1) := by decide +kernel
theorem d_M_open_1 : decode c_M_open 1 = .ok (.istore_n 2, 1) := by decide +kernel
theorem d_M_open_2 : decode c_M_open 2 = .ok (.iload_n 2, 1) := by decide +kernel
theorem d_M_open_3 : decode c_M_open 3 = .ok (.sipush 10000, 3) := by decide +kernel
theorem d_M_open_6 : decode c_M_open 6 = .ok (.if_icmp .ge 18, 3) := by decide +kernel
theorem d_M_open_9 : decode c_M_open 9 = .ok (.aload_n 0, 1) := by decide +kernel
theorem d_M_open_10 : decode c_M_open 10 = .ok (.getfield 24, 3) := by decide +kernel
theorem d_M_open_13 : decode c_M_open 13 = .ok (.iload_n 2, 1) := by decide +kernel
theorem d_M_open_14 : decode c_M_open 14 = .ok (.baload, 1) := by decide +kernel
theorem d_M_open_15 : decode c_M_open 15 = .ok (.ifCond .eq 9, 3) := by decide +kernel
theorem d_M_open_18 : decode c_M_open 18 = .ok (.iinc 2 1, 3) := by decide +kernel
theorem d_M_open_21 : decode c_M_open 21 = .ok (.goto (-19), 3) := by decide +kernel
theorem d_M_open_24 : decode c_M_open 24 = .ok (.iload_n 2, 1) := by decide +kernel
theorem d_M_open_25 : decode c_M_open 25 = .ok (.sipush 10000, 3) := by decide +kernel
theorem d_M_open_28 : decode c_M_open 28 = .ok (.if_icmp .ge 7, 3) := by decide +kernel
theorem d_M_open_31 : decode c_M_open 31 = .ok (.iload_n 2, 1) := by decide +kernel
theorem d_M_open_32 : decode c_M_open 32 = .ok (.goto 4, 3) := by decide +kernel
theorem d_M_open_35 : decode c_M_open 35 = .ok (.iconst (-1), 1) := by decide +kernel
theorem d_M_open_36 : decode c_M_open 36 = .ok (.ireturn, 1) := by decide +kernel
theorem d_M_pass_0 : decode c_M_pass 0 = .ok (.aload_n 0, 1) := by decide +kernel
theorem d_M_pass_1 : decode c_M_pass 1 = .ok (.aload_n 0, 1) := by decide +kernel
theorem d_M_pass_2 : decode c_M_pass 2 = .ok (.getfield 64, 3) := by decide +kernel
theorem d_M_pass_5 : decode c_M_pass 5 = .ok (.invokevirtual 67, 3) := by decide +kernel
theorem d_M_pass_8 : decode c_M_pass 8 = .ok (.bipush 97, 2) := by decide +kernel
theorem d_M_pass_10 : decode c_M_pass 10 = .ok (.if_icmp .lt 29, 3) := by decide +kernel
theorem d_M_pass_13 : decode c_M_pass 13 = .ok (.aload_n 0, 1) := by decide +kernel
theorem d_M_pass_14 : decode c_M_pass 14 = .ok (.aload_n 0, 1) := by decide +kernel
theorem d_M_pass_15 : decode c_M_pass 15 = .ok (.getfield 64, 3) := by decide +kernel
theorem d_M_pass_18 : decode c_M_pass 18 = .ok (.invokevirtual 67, 3) := by decide +kernel
theorem d_M_pass_21 : decode c_M_pass 21 = .ok (.bipush 122, 2) := by decide +kernel
theorem d_M_pass_23 : decode c_M_pass 23 = .ok (.if_icmp .gt 16, 3) := by decide +kernel
theorem d_M_pass_26 : decode c_M_pass 26 = .ok (.aload_n 0, 1) := by decide +kernel
theorem d_M_pass_27 : decode c_M_pass 27 = .ok (.dup, 1) := by decide +kernel
theorem d_M_pass_28 : decode c_M_pass 28 = .ok (.getfield 64, 3) := by decide +kernel
theorem d_M_pass_31 : decode c_M_pass 31 = .ok (.iconst 1, 1) := by decide +kernel
theorem d_M_pass_32 : decode c_M_pass 32 = .ok (.iadd, 1) := by decide +kernel
theorem d_M_pass_33 : decode c_M_pass 33 = .ok (.putfield 64, 3) := by decide +kernel
theorem d_M_pass_36 : decode c_M_pass 36 = .ok (.goto (-36), 3) := by decide +kernel
theorem d_M_pass_39 : decode c_M_pass 39 = .ok (.return_, 1) := by decide +kernel
theorem d_M_reads_0 : decode c_M_reads 0 = .ok (.iconst 0, 1) := by decide +kernel
theorem d_M_reads_1 : decode c_M_reads 1 = .ok (.istore_n 1, 1) := by decide +kernel
theorem d_M_reads_2 : decode c_M_reads 2 = .ok (.iload_n 1, 1) := by decide +kernel
theorem d_M_reads_3 : decode c_M_reads 3 = .ok (.bipush 10, 2) := by decide +kernel
theorem d_M_reads_5 : decode c_M_reads 5 = .ok (.if_icmp .ge 44, 3) := by decide +kernel
theorem d_M_reads_8 : decode c_M_reads 8 = .ok (.aload_n 0, 1) := by decide +kernel
theorem d_M_reads_9 : decode c_M_reads 9 = .ok (.getfield 13, 3) := by decide +kernel
theorem d_M_reads_12 : decode c_M_reads 12 = .ok (.bipush 10, 2) := by decide +kernel
theorem d_M_reads_14 : decode c_M_reads 14 = .ok (.aload_n 0, 1) := by decide +kernel
theorem d_M_reads_15 : decode c_M_reads 15 = .ok (.getfield 88, 3) := by decide +kernel
theorem d_M_reads_18 : decode c_M_reads 18 = .ok (.imul, 1) := by decide +kernel
theorem d_M_reads_19 : decode c_M_reads 19 = .ok (.iload_n 1, 1) := by decide +kernel
theorem d_M_reads_20 : decode c_M_reads 20 = .ok (.iadd, 1) := by decide +kernel
theorem d_M_reads_21 : decode c_M_reads 21 = .ok (.iload_n 1, 1) := by decide +kernel
theorem d_M_reads_22 : decode c_M_reads 22 = .ok (.iconst 3, 1) := by decide +kernel
theorem d_M_reads_23 : decode c_M_reads 23 = .ok (.if_icmp .ge 7, 3) := by decide +kernel
theorem d_M_reads_26 : decode c_M_reads 26 = .ok (.iconst (-1), 1) := by decide +kernel
theorem d_M_reads_27 : decode c_M_reads 27 = .ok (.goto 15, 3) := by decide +kernel
theorem d_M_reads_30 : decode c_M_reads 30 = .ok (.iload_n 1, 1) := by decide +kernel
theorem d_M_reads_31 : decode c_M_reads 31 = .ok (.bipush 7, 2) := by decide +kernel
theorem d_M_reads_33 : decode c_M_reads 33 = .ok (.if_icmp .ne 8, 3) := by decide +kernel
theorem d_M_reads_36 : decode c_M_reads 36 = .ok (.bipush 7, 2) := by decide +kernel
theorem d_M_reads_38 : decode c_M_reads 38 = .ok (.goto 4, 3) := by decide +kernel
theorem d_M_reads_41 : decode c_M_reads 41 = .ok (.iconst 0, 1) := by decide +kernel
theorem d_M_reads_42 : decode c_M_reads 42 = .ok (.iastore, 1) := by decide +kernel
theorem d_M_reads_43 : decode c_M_reads 43 = .ok (.iinc 1 1, 3) := by decide +kernel
theorem d_M_reads_46 : decode c_M_reads 46 = .ok (.goto (-44), 3) := by decide +kernel
theorem d_M_reads_49 : decode c_M_reads 49 = .ok (.aload_n 0, 1) := by decide +kernel
theorem d_M_reads_50 : decode c_M_reads 50 = .ok (.iconst 0, 1) := by decide +kernel
theorem d_M_reads_51 : decode c_M_reads 51 = .ok (.putfield 64, 3) := by decide +kernel
theorem d_M_reads_54 : decode c_M_reads 54 = .ok (.iconst 0, 1) := by decide +kernel
theorem d_M_reads_55 : decode c_M_reads 55 = .ok (.istore_n 1, 1) := by decide +kernel
theorem d_M_reads_56 : decode c_M_reads 56 = .ok (.aload_n 0, 1) := by decide +kernel
theorem d_M_reads_57 : decode c_M_reads 57 = .ok (.getfield 64, 3) := by decide +kernel
theorem d_M_reads_60 : decode c_M_reads 60 = .ok (.aload_n 0, 1) := by decide +kernel
theorem d_M_reads_61 : decode c_M_reads 61 = .ok (.getfield 58, 3) := by decide +kernel
theorem d_M_reads_64 : decode c_M_reads 64 = .ok (.if_icmp .lt 8, 3) := by decide +kernel
theorem d_M_reads_67 : decode c_M_reads 67 = .ok (.iload_n 1, 1) := by decide +kernel
theorem d_M_reads_68 : decode c_M_reads 68 = .ok (.iconst 4, 1) := by decide +kernel
theorem d_M_reads_69 : decode c_M_reads 69 = .ok (.if_icmp .ge 111, 3) := by decide +kernel
theorem d_M_reads_72 : decode c_M_reads 72 = .ok (.iload_n 1, 1) := by decide +kernel
theorem d_M_reads_73 : decode c_M_reads 73 = .ok (.ifCond .le 12, 3) := by decide +kernel
theorem d_M_reads_76 : decode c_M_reads 76 = .ok (.aload_n 0, 1) := by decide +kernel
theorem d_M_reads_77 : decode c_M_reads 77 = .ok (.invokevirtual 81, 3) := by decide +kernel
theorem d_M_reads_80 : decode c_M_reads 80 = .ok (.ifCond .ne 5, 3) := by decide +kernel
theorem d_M_reads_83 : decode c_M_reads 83 = .ok (.iconst 0, 1) := by decide +kernel
theorem d_M_reads_84 : decode c_M_reads 84 = .ok (.ireturn, 1) := by decide +kernel
theorem d_M_reads_85 : decode c_M_reads 85 = .ok (.aload_n 0, 1) := by decide +kernel
theorem d_M_reads_86 : decode c_M_reads 86 = .ok (.invokevirtual 111, 3) := by decide +kernel
theorem d_M_reads_89 : decode c_M_reads 89 = .ok (.invokestatic 127, 3) := by decide +kernel
theorem d_M_reads_92 : decode c_M_reads 92 = .ok (.istore_n 2, 1) := by decide +kernel
theorem d_M_reads_93 : decode c_M_reads 93 = .ok (.iload_n 2, 1) := by decide +kernel
theorem d_M_reads_94 : decode c_M_reads 94 = .ok (.iload_n 1, 1) := by decide +kernel
theorem d_M_reads_95 : decode c_M_reads 95 = .ok (.if_icmp .le 47, 3) := by decide +kernel
theorem d_M_reads_98 : decode c_M_reads 98 = .ok (.iload_n 1, 1) := by decide +kernel
theorem d_M_reads_99 : decode c_M_reads 99 = .ok (.iconst 4, 1) := by decide +kernel
theorem d_M_reads_100 : decode c_M_reads 100 = .ok (.if_icmp .ge 12, 3) := by decide +kernel
theorem d_M_reads_103 : decode c_M_reads 103 = .ok (.iload_n 2, 1) := by decide +kernel
theorem d_M_reads_104 : decode c_M_reads 104 = .ok (.bipush 7, 2) := by decide +kernel
theorem d_M_reads_106 : decode c_M_reads 106 = .ok (.if_icmp .ge 36, 3) := by decide +kernel
theorem d_M_reads_109 : decode c_M_reads 109 = .ok (.goto 29, 3) := by decide +kernel
theorem d_M_reads_112 : decode c_M_reads 112 = .ok (.iload_n 1, 1) := by decide +kernel
theorem d_M_reads_113 : decode c_M_reads 113 = .ok (.iconst 5, 1) := by decide +kernel
theorem d_M_reads_114 : decode c_M_reads 114 = .ok (.if_icmp .eq 9, 3) := by decide +kernel
theorem d_M_reads_117 : decode c_M_reads 117 = .ok (.iload_n 1, 1) := by decide +kernel
theorem d_M_reads_118 : decode c_M_reads 118 = .ok (.bipush 6, 2) := by decide +kernel
theorem d_M_reads_120 : decode c_M_reads 120 = .ok (.if_icmp .ne 12, 3) := by decide +kernel
theorem d_M_reads_123 : decode c_M_reads 123 = .ok (.iload_n 2, 1) := by decide +kernel
theorem d_M_reads_124 : decode c_M_reads 124 = .ok (.bipush 10, 2) := by decide +kernel
theorem d_M_reads_126 : decode c_M_reads 126 = .ok (.if_icmp .ne 16, 3) := by decide +kernel
theorem d_M_reads_129 : decode c_M_reads 129 = .ok (.goto 9, 3) := by decide +kernel
theorem d_M_reads_132 : decode c_M_reads 132 = .ok (.iload_n 2, 1) := by decide +kernel
theorem d_M_reads_133 : decode c_M_reads 133 = .ok (.bipush 6, 2) := by decide +kernel
theorem d_M_reads_135 : decode c_M_reads 135 = .ok (.if_icmp .le 7, 3) := by decide +kernel
theorem d_M_reads_138 : decode c_M_reads 138 = .ok (.iconst 1, 1) := by decide +kernel
theorem d_M_reads_139 : decode c_M_reads 139 = .ok (.goto 4, 3) := by decide +kernel
theorem d_M_reads_142 : decode c_M_reads 142 = .ok (.iconst 0, 1) := by decide +kernel
theorem d_M_reads_143 : decode c_M_reads 143 = .ok (.istore_n 3, 1) := by decide +kernel
theorem d_M_reads_144 : decode c_M_reads 144 = .ok (.iload_n 2, 1) := by decide +kernel
theorem d_M_reads_145 : decode c_M_reads 145 = .ok (.ifCond .eq 7, 3) := by decide +kernel
theorem d_M_reads_148 : decode c_M_reads 148 = .ok (.iload_n 3, 1) := by decide +kernel
theorem d_M_reads_149 : decode c_M_reads 149 = .ok (.ifCond .ne 12, 3) := by decide +kernel
theorem d_M_reads_152 : decode c_M_reads 152 = .ok (.aload_n 0, 1) := by decide +kernel
theorem d_M_reads_153 : decode c_M_reads 153 = .ok (.aload_n 0, 1) := by decide +kernel
theorem d_M_reads_154 : decode c_M_reads 154 = .ok (.getfield 64, 3) := by decide +kernel
theorem d_M_reads_157 : decode c_M_reads 157 = .ok (.invokevirtual 77, 3) := by decide +kernel
theorem d_M_reads_160 : decode c_M_reads 160 = .ok (.ireturn, 1) := by decide +kernel
theorem d_M_reads_161 : decode c_M_reads 161 = .ok (.aload_n 0, 1) := by decide +kernel
theorem d_M_reads_162 : decode c_M_reads 162 = .ok (.invokevirtual 117, 3) := by decide +kernel
theorem d_M_reads_165 : decode c_M_reads 165 = .ok (.aload_n 0, 1) := by decide +kernel
theorem d_M_reads_166 : decode c_M_reads 166 = .ok (.iload_n 2, 1) := by decide +kernel
theorem d_M_reads_167 : decode c_M_reads 167 = .ok (.invokevirtual 131, 3) := by decide +kernel
theorem d_M_reads_170 : decode c_M_reads 170 = .ok (.ifCond .ne 5, 3) := by decide +kernel
theorem d_M_reads_173 : decode c_M_reads 173 = .ok (.iconst 0, 1) := by decide +kernel
theorem d_M_reads_174 : decode c_M_reads 174 = .ok (.ireturn, 1) := by decide +kernel
theorem d_M_reads_175 : decode c_M_reads 175 = .ok (.iload_n 2, 1) := by decide +kernel
theorem d_M_reads_176 : decode c_M_reads 176 = .ok (.istore_n 1, 1) := by decide +kernel
theorem d_M_reads_177 : decode c_M_reads 177 = .ok (.goto (-121), 3) := by decide +kernel
theorem d_M_reads_180 : decode c_M_reads 180 = .ok (.iconst 1, 1) := by decide +kernel
theorem d_M_reads_181 : decode c_M_reads 181 = .ok (.ireturn, 1) := by decide +kernel
theorem d_M_recall_0 : decode c_M_recall 0 = .ok (.aload_n 0, 1) := by decide +kernel
theorem d_M_recall_1 : decode c_M_recall 1 = .ok (.iconst 0, 1) := by decide +kernel
theorem d_M_recall_2 : decode c_M_recall 2 = .ok (.putfield 54, 3) := by decide +kernel
theorem d_M_recall_5 : decode c_M_recall 5 = .ok (.aload_n 0, 1) := by decide +kernel
theorem d_M_recall_6 : decode c_M_recall 6 = .ok (.iload_n 1, 1) := by decide +kernel
theorem d_M_recall_7 : decode c_M_recall 7 = .ok (.invokevirtual 172, 3) := by decide +kernel
theorem d_M_recall_10 : decode c_M_recall 10 = .ok (.ifCond .eq 10, 3) := by decide +kernel
theorem d_M_recall_13 : decode c_M_recall 13 = .ok (.iload_n 2, 1) := by decide +kernel
theorem d_M_recall_14 : decode c_M_recall 14 = .ok (.invokestatic 137, 3) := by decide +kernel
theorem d_M_recall_17 : decode c_M_recall 17 = .ok (.ifCond .ne 5, 3) := by decide +kernel
theorem d_M_recall_20 : decode c_M_recall 20 = .ok (.iconst 0, 1) := by decide +kernel
theorem d_M_recall_21 : decode c_M_recall 21 = .ok (.ireturn, 1) := by decide +kernel
theorem d_M_recall_22 : decode c_M_recall 22 = .ok (.bipush 7, 2) := by decide +kernel
theorem d_M_recall_24 : decode c_M_recall 24 = .ok (.iload_n 1, 1) := by decide +kernel
theorem d_M_recall_25 : decode c_M_recall 25 = .ok (.imul, 1) := by decide +kernel
theorem d_M_recall_26 : decode c_M_recall 26 = .ok (.istore_n 3, 1) := by decide +kernel
theorem d_M_recall_27 : decode c_M_recall 27 = .ok (.aload_n 0, 1) := by decide +kernel
theorem d_M_recall_28 : decode c_M_recall 28 = .ok (.getfield 42, 3) := by decide +kernel
theorem d_M_recall_31 : decode c_M_recall 31 = .ok (.iload_n 3, 1) := by decide +kernel
theorem d_M_recall_32 : decode c_M_recall 32 = .ok (.iconst 5, 1) := by decide +kernel
theorem d_M_recall_33 : decode c_M_recall 33 = .ok (.iadd, 1) := by decide +kernel
theorem d_M_recall_34 : decode c_M_recall 34 = .ok (.iaload, 1) := by decide +kernel
theorem d_M_recall_35 : decode c_M_recall 35 = .ok (.iconst 1, 1) := by decide +kernel
theorem d_M_recall_36 : decode c_M_recall 36 = .ok (.if_icmp .ne 5, 3) := by decide +kernel
theorem d_M_recall_39 : decode c_M_recall 39 = .ok (.iconst (-1), 1) := by decide +kernel
theorem d_M_recall_40 : decode c_M_recall 40 = .ok (.ireturn, 1) := by decide +kernel
theorem d_M_recall_41 : decode c_M_recall 41 = .ok (.aload_n 0, 1) := by decide +kernel
theorem d_M_recall_42 : decode c_M_recall 42 = .ok (.iload_n 2, 1) := by decide +kernel
theorem d_M_recall_43 : decode c_M_recall 43 = .ok (.aload_n 0, 1) := by decide +kernel
theorem d_M_recall_44 : decode c_M_recall 44 = .ok (.getfield 13, 3) := by decide +kernel
theorem d_M_recall_47 : decode c_M_recall 47 = .ok (.bipush 10, 2) := by decide +kernel
theorem d_M_recall_49 : decode c_M_recall 49 = .ok (.aload_n 0, 1) := by decide +kernel
theorem d_M_recall_50 : decode c_M_recall 50 = .ok (.getfield 42, 3) := by decide +kernel
theorem d_M_recall_53 : decode c_M_recall 53 = .ok (.iload_n 3, 1) := by decide +kernel
theorem d_M_recall_54 : decode c_M_recall 54 = .ok (.iconst 1, 1) := by decide +kernel
theorem d_M_recall_55 : decode c_M_recall 55 = .ok (.iadd, 1) := by decide +kernel
theorem d_M_recall_56 : decode c_M_recall 56 = .ok (.iaload, 1) := by decide +kernel
theorem d_M_recall_57 : decode c_M_recall 57 = .ok (.imul, 1) := by decide +kernel
theorem d_M_recall_58 : decode c_M_recall 58 = .ok (.bipush 7, 2) := by decide +kernel
theorem d_M_recall_60 : decode c_M_recall 60 = .ok (.iadd, 1) := by decide +kernel
theorem d_M_recall_61 : decode c_M_recall 61 = .ok (.iaload, 1) := by decide +kernel
theorem d_M_recall_62 : decode c_M_recall 62 = .ok (.iadd, 1) := by decide +kernel
theorem d_M_recall_63 : decode c_M_recall 63 = .ok (.invokevirtual 140, 3) := by decide +kernel
theorem d_M_recall_66 : decode c_M_recall 66 = .ok (.istore 4, 2) := by decide +kernel
theorem d_M_recall_68 : decode c_M_recall 68 = .ok (.iload 4, 2) := by decide +kernel
theorem d_M_recall_70 : decode c_M_recall 70 = .ok (.iconst (-1), 1) := by decide +kernel
theorem d_M_recall_71 : decode c_M_recall 71 = .ok (.if_icmp .ne 6, 3) := by decide +kernel
theorem d_M_recall_74 : decode c_M_recall 74 = .ok (.bipush (-4), 2) := by decide +kernel
theorem d_M_recall_76 : decode c_M_recall 76 = .ok (.ireturn, 1) := by decide +kernel
theorem d_M_recall_77 : decode c_M_recall 77 = .ok (.aload_n 0, 1) := by decide +kernel
theorem d_M_recall_78 : decode c_M_recall 78 = .ok (.getfield 42, 3) := by decide +kernel
theorem d_M_recall_81 : decode c_M_recall 81 = .ok (.iload_n 3, 1) := by decide +kernel
theorem d_M_recall_82 : decode c_M_recall 82 = .ok (.iconst 5, 1) := by decide +kernel
theorem d_M_recall_83 : decode c_M_recall 83 = .ok (.iadd, 1) := by decide +kernel
theorem d_M_recall_84 : decode c_M_recall 84 = .ok (.iconst 1, 1) := by decide +kernel
theorem d_M_recall_85 : decode c_M_recall 85 = .ok (.iastore, 1) := by decide +kernel
theorem d_M_recall_86 : decode c_M_recall 86 = .ok (.aload_n 0, 1) := by decide +kernel
theorem d_M_recall_87 : decode c_M_recall 87 = .ok (.getfield 42, 3) := by decide +kernel
theorem d_M_recall_90 : decode c_M_recall 90 = .ok (.iload_n 3, 1) := by decide +kernel
theorem d_M_recall_91 : decode c_M_recall 91 = .ok (.iconst 2, 1) := by decide +kernel
theorem d_M_recall_92 : decode c_M_recall 92 = .ok (.iadd, 1) := by decide +kernel
theorem d_M_recall_93 : decode c_M_recall 93 = .ok (.iload 4, 2) := by decide +kernel
theorem d_M_recall_95 : decode c_M_recall 95 = .ok (.aload_n 0, 1) := by decide +kernel
theorem d_M_recall_96 : decode c_M_recall 96 = .ok (.getfield 42, 3) := by decide +kernel
theorem d_M_recall_99 : decode c_M_recall 99 = .ok (.iload_n 3, 1) := by decide +kernel
theorem d_M_recall_100 : decode c_M_recall 100 = .ok (.iconst 2, 1) := by decide +kernel
theorem d_M_recall_101 : decode c_M_recall 101 = .ok (.iadd, 1) := by decide +kernel
theorem d_M_recall_102 : decode c_M_recall 102 = .ok (.iaload, 1) := by decide +kernel
theorem d_M_recall_103 : decode c_M_recall 103 = .ok (.if_icmp .ge 8, 3) := by decide +kernel
theorem d_M_recall_106 : decode c_M_recall 106 = .ok (.iload 4, 2) := by decide +kernel
theorem d_M_recall_108 : decode c_M_recall 108 = .ok (.goto 11, 3) := by decide +kernel
theorem d_M_recall_111 : decode c_M_recall 111 = .ok (.aload_n 0, 1) := by decide +kernel
theorem d_M_recall_112 : decode c_M_recall 112 = .ok (.getfield 42, 3) := by decide +kernel
theorem d_M_recall_115 : decode c_M_recall 115 = .ok (.iload_n 3, 1) := by decide +kernel
theorem d_M_recall_116 : decode c_M_recall 116 = .ok (.iconst 2, 1) := by decide +kernel
theorem d_M_recall_117 : decode c_M_recall 117 = .ok (.iadd, 1) := by decide +kernel
theorem d_M_recall_118 : decode c_M_recall 118 = .ok (.iaload, 1) := by decide +kernel
theorem d_M_recall_119 : decode c_M_recall 119 = .ok (.iastore, 1) := by decide +kernel
theorem d_M_recall_120 : decode c_M_recall 120 = .ok (.aload_n 0, 1) := by decide +kernel
theorem d_M_recall_121 : decode c_M_recall 121 = .ok (.getfield 42, 3) := by decide +kernel
theorem d_M_recall_124 : decode c_M_recall 124 = .ok (.iload_n 3, 1) := by decide +kernel
theorem d_M_recall_125 : decode c_M_recall 125 = .ok (.iconst 2, 1) := by decide +kernel
theorem d_M_recall_126 : decode c_M_recall 126 = .ok (.iadd, 1) := by decide +kernel
theorem d_M_recall_127 : decode c_M_recall 127 = .ok (.iaload, 1) := by decide +kernel
theorem d_M_recall_128 : decode c_M_recall 128 = .ok (.ireturn, 1) := by decide +kernel
theorem d_M_renew_0 : decode c_M_renew 0 = .ok (.aload_n 0, 1) := by decide +kernel
theorem d_M_renew_1 : decode c_M_renew 1 = .ok (.iconst 0, 1) := by decide +kernel
theorem d_M_renew_2 : decode c_M_renew 2 = .ok (.putfield 54, 3) := by decide +kernel
theorem d_M_renew_5 : decode c_M_renew 5 = .ok (.aload_n 0, 1) := by decide +kernel
theorem d_M_renew_6 : decode c_M_renew 6 = .ok (.iload_n 1, 1) := by decide +kernel
theorem d_M_renew_7 : decode c_M_renew 7 = .ok (.invokevirtual 172, 3) := by decide +kernel
theorem d_M_renew_10 : decode c_M_renew 10 = .ok (.ifCond .eq 10, 3) := by decide +kernel
theorem d_M_renew_13 : decode c_M_renew 13 = .ok (.iload_n 2, 1) := by decide +kernel
theorem d_M_renew_14 : decode c_M_renew 14 = .ok (.invokestatic 137, 3) := by decide +kernel
theorem d_M_renew_17 : decode c_M_renew 17 = .ok (.ifCond .ne 5, 3) := by decide +kernel
theorem d_M_renew_20 : decode c_M_renew 20 = .ok (.iconst 0, 1) := by decide +kernel
theorem d_M_renew_21 : decode c_M_renew 21 = .ok (.ireturn, 1) := by decide +kernel
theorem d_M_renew_22 : decode c_M_renew 22 = .ok (.bipush 7, 2) := by decide +kernel
theorem d_M_renew_24 : decode c_M_renew 24 = .ok (.iload_n 1, 1) := by decide +kernel
theorem d_M_renew_25 : decode c_M_renew 25 = .ok (.imul, 1) := by decide +kernel
theorem d_M_renew_26 : decode c_M_renew 26 = .ok (.istore_n 3, 1) := by decide +kernel
theorem d_M_renew_27 : decode c_M_renew 27 = .ok (.aload_n 0, 1) := by decide +kernel
theorem d_M_renew_28 : decode c_M_renew 28 = .ok (.getfield 36, 3) := by decide +kernel
theorem d_M_renew_31 : decode c_M_renew 31 = .ok (.iconst (-1), 1) := by decide +kernel
theorem d_M_renew_32 : decode c_M_renew 32 = .ok (.aload_n 0, 1) := by decide +kernel
theorem d_M_renew_33 : decode c_M_renew 33 = .ok (.getfield 42, 3) := by decide +kernel
theorem d_M_renew_36 : decode c_M_renew 36 = .ok (.iload_n 3, 1) := by decide +kernel
theorem d_M_renew_37 : decode c_M_renew 37 = .ok (.bipush 6, 2) := by decide +kernel
theorem d_M_renew_39 : decode c_M_renew 39 = .ok (.iadd, 1) := by decide +kernel
theorem d_M_renew_40 : decode c_M_renew 40 = .ok (.iaload, 1) := by decide +kernel
theorem d_M_renew_41 : decode c_M_renew 41 = .ok (.isub, 1) := by decide +kernel
theorem d_M_renew_42 : decode c_M_renew 42 = .ok (.iaload, 1) := by decide +kernel
theorem d_M_renew_43 : decode c_M_renew 43 = .ok (.istore 4, 2) := by decide +kernel
theorem d_M_renew_45 : decode c_M_renew 45 = .ok (.iload 4, 2) := by decide +kernel
theorem d_M_renew_47 : decode c_M_renew 47 = .ok (.ifCond .le 9, 3) := by decide +kernel
theorem d_M_renew_50 : decode c_M_renew 50 = .ok (.bipush (-102), 2) := by decide +kernel
theorem d_M_renew_52 : decode c_M_renew 52 = .ok (.iload 4, 2) := by decide +kernel
theorem d_M_renew_54 : decode c_M_renew 54 = .ok (.isub, 1) := by decide +kernel
theorem d_M_renew_55 : decode c_M_renew 55 = .ok (.ireturn, 1) := by decide +kernel
theorem d_M_renew_56 : decode c_M_renew 56 = .ok (.aload_n 0, 1) := by decide +kernel
theorem d_M_renew_57 : decode c_M_renew 57 = .ok (.getfield 42, 3) := by decide +kernel
theorem d_M_renew_60 : decode c_M_renew 60 = .ok (.iload_n 3, 1) := by decide +kernel
theorem d_M_renew_61 : decode c_M_renew 61 = .ok (.iconst 1, 1) := by decide +kernel
theorem d_M_renew_62 : decode c_M_renew 62 = .ok (.iadd, 1) := by decide +kernel
theorem d_M_renew_63 : decode c_M_renew 63 = .ok (.iaload, 1) := by decide +kernel
theorem d_M_renew_64 : decode c_M_renew 64 = .ok (.istore 5, 2) := by decide +kernel
theorem d_M_renew_66 : decode c_M_renew 66 = .ok (.aload_n 0, 1) := by decide +kernel
theorem d_M_renew_67 : decode c_M_renew 67 = .ok (.getfield 42, 3) := by decide +kernel
theorem d_M_renew_70 : decode c_M_renew 70 = .ok (.iload_n 3, 1) := by decide +kernel
theorem d_M_renew_71 : decode c_M_renew 71 = .ok (.iconst 3, 1) := by decide +kernel
theorem d_M_renew_72 : decode c_M_renew 72 = .ok (.iadd, 1) := by decide +kernel
theorem d_M_renew_73 : decode c_M_renew 73 = .ok (.iaload, 1) := by decide +kernel
theorem d_M_renew_74 : decode c_M_renew 74 = .ok (.aload_n 0, 1) := by decide +kernel
theorem d_M_renew_75 : decode c_M_renew 75 = .ok (.getfield 13, 3) := by decide +kernel
theorem d_M_renew_78 : decode c_M_renew 78 = .ok (.bipush 10, 2) := by decide +kernel
theorem d_M_renew_80 : decode c_M_renew 80 = .ok (.iload 5, 2) := by decide +kernel
theorem d_M_renew_82 : decode c_M_renew 82 = .ok (.imul, 1) := by decide +kernel
theorem d_M_renew_83 : decode c_M_renew 83 = .ok (.iconst 5, 1) := by decide +kernel
theorem d_M_renew_84 : decode c_M_renew 84 = .ok (.iadd, 1) := by decide +kernel
theorem d_M_renew_85 : decode c_M_renew 85 = .ok (.iaload, 1) := by decide +kernel
theorem d_M_renew_86 : decode c_M_renew 86 = .ok (.if_icmp .lt 5, 3) := by decide +kernel
theorem d_M_renew_89 : decode c_M_renew 89 = .ok (.iconst (-1), 1) := by decide +kernel
theorem d_M_renew_90 : decode c_M_renew 90 = .ok (.ireturn, 1) := by decide +kernel
theorem d_M_renew_91 : decode c_M_renew 91 = .ok (.iload_n 2, 1) := by decide +kernel
theorem d_M_renew_92 : decode c_M_renew 92 = .ok (.aload_n 0, 1) := by decide +kernel
theorem d_M_renew_93 : decode c_M_renew 93 = .ok (.getfield 42, 3) := by decide +kernel
theorem d_M_renew_96 : decode c_M_renew 96 = .ok (.iload_n 3, 1) := by decide +kernel
theorem d_M_renew_97 : decode c_M_renew 97 = .ok (.iconst 4, 1) := by decide +kernel
theorem d_M_renew_98 : decode c_M_renew 98 = .ok (.iadd, 1) := by decide +kernel
theorem d_M_renew_99 : decode c_M_renew 99 = .ok (.iaload, 1) := by decide +kernel
theorem d_M_renew_100 : decode c_M_renew 100 = .ok (.aload_n 0, 1) := by decide +kernel
theorem d_M_renew_101 : decode c_M_renew 101 = .ok (.getfield 13, 3) := by decide +kernel
theorem d_M_renew_104 : decode c_M_renew 104 = .ok (.bipush 10, 2) := by decide +kernel
theorem d_M_renew_106 : decode c_M_renew 106 = .ok (.iload 5, 2) := by decide +kernel
theorem d_M_renew_108 : decode c_M_renew 108 = .ok (.imul, 1) := by decide +kernel
theorem d_M_renew_109 : decode c_M_renew 109 = .ok (.bipush 6, 2) := by decide +kernel
theorem d_M_renew_111 : decode c_M_renew 111 = .ok (.iadd, 1) := by decide +kernel
theorem d_M_renew_112 : decode c_M_renew 112 = .ok (.iaload, 1) := by decide +kernel
theorem d_M_renew_113 : decode c_M_renew 113 = .ok (.iadd, 1) := by decide +kernel
theorem d_M_renew_114 : decode c_M_renew 114 = .ok (.if_icmp .ge 6, 3) := by decide +kernel
theorem d_M_renew_117 : decode c_M_renew 117 = .ok (.bipush (-2), 2) := by decide +kernel
theorem d_M_renew_119 : decode c_M_renew 119 = .ok (.ireturn, 1) := by decide +kernel
theorem d_M_renew_120 : decode c_M_renew 120 = .ok (.aload_n 0, 1) := by decide +kernel
theorem d_M_renew_121 : decode c_M_renew 121 = .ok (.getfield 42, 3) := by decide +kernel
theorem d_M_renew_124 : decode c_M_renew 124 = .ok (.iload_n 3, 1) := by decide +kernel
theorem d_M_renew_125 : decode c_M_renew 125 = .ok (.iconst 5, 1) := by decide +kernel
theorem d_M_renew_126 : decode c_M_renew 126 = .ok (.iadd, 1) := by decide +kernel
theorem d_M_renew_127 : decode c_M_renew 127 = .ok (.iaload, 1) := by decide +kernel
theorem d_M_renew_128 : decode c_M_renew 128 = .ok (.iconst 1, 1) := by decide +kernel
theorem d_M_renew_129 : decode c_M_renew 129 = .ok (.if_icmp .ne 6, 3) := by decide +kernel
theorem d_M_renew_132 : decode c_M_renew 132 = .ok (.bipush (-3), 2) := by decide +kernel
theorem d_M_renew_134 : decode c_M_renew 134 = .ok (.ireturn, 1) := by decide +kernel
theorem d_M_renew_135 : decode c_M_renew 135 = .ok (.aload_n 0, 1) := by decide +kernel
theorem d_M_renew_136 : decode c_M_renew 136 = .ok (.iload 5, 2) := by decide +kernel
theorem d_M_renew_138 : decode c_M_renew 138 = .ok (.iload_n 2, 1) := by decide +kernel
theorem d_M_renew_139 : decode c_M_renew 139 = .ok (.invokevirtual 168, 3) := by decide +kernel
theorem d_M_renew_142 : decode c_M_renew 142 = .ok (.istore 6, 2) := by decide +kernel
theorem d_M_renew_144 : decode c_M_renew 144 = .ok (.iload 6, 2) := by decide +kernel
theorem d_M_renew_146 : decode c_M_renew 146 = .ok (.iconst (-1), 1) := by decide +kernel
theorem d_M_renew_147 : decode c_M_renew 147 = .ok (.if_icmp .ne 6, 3) := by decide +kernel
theorem d_M_renew_150 : decode c_M_renew 150 = .ok (.bipush (-4), 2) := by decide +kernel
theorem d_M_renew_152 : decode c_M_renew 152 = .ok (.ireturn, 1) := by decide +kernel
theorem d_M_renew_153 : decode c_M_renew 153 = .ok (.aload_n 0, 1) := by decide +kernel
theorem d_M_renew_154 : decode c_M_renew 154 = .ok (.getfield 42, 3) := by decide +kernel
theorem d_M_renew_157 : decode c_M_renew 157 = .ok (.iload_n 3, 1) := by decide +kernel
theorem d_M_renew_158 : decode c_M_renew 158 = .ok (.iconst 2, 1) := by decide +kernel
theorem d_M_renew_159 : decode c_M_renew 159 = .ok (.iadd, 1) := by decide +kernel
theorem d_M_renew_160 : decode c_M_renew 160 = .ok (.iload 6, 2) := by decide +kernel
theorem d_M_renew_162 : decode c_M_renew 162 = .ok (.aload_n 0, 1) := by decide +kernel
theorem d_M_renew_163 : decode c_M_renew 163 = .ok (.getfield 42, 3) := by decide +kernel
theorem d_M_renew_166 : decode c_M_renew 166 = .ok (.iload_n 3, 1) := by decide +kernel
theorem d_M_renew_167 : decode c_M_renew 167 = .ok (.iconst 2, 1) := by decide +kernel
theorem d_M_renew_168 : decode c_M_renew 168 = .ok (.iadd, 1) := by decide +kernel
theorem d_M_renew_169 : decode c_M_renew 169 = .ok (.iaload, 1) := by decide +kernel
theorem d_M_renew_170 : decode c_M_renew 170 = .ok (.if_icmp .le 8, 3) := by decide +kernel
theorem d_M_renew_173 : decode c_M_renew 173 = .ok (.iload 6, 2) := by decide +kernel
theorem d_M_renew_175 : decode c_M_renew 175 = .ok (.goto 11, 3) := by decide +kernel
theorem d_M_renew_178 : decode c_M_renew 178 = .ok (.aload_n 0, 1) := by decide +kernel
theorem d_M_renew_179 : decode c_M_renew 179 = .ok (.getfield 42, 3) := by decide +kernel
theorem d_M_renew_182 : decode c_M_renew 182 = .ok (.iload_n 3, 1) := by decide +kernel
theorem d_M_renew_183 : decode c_M_renew 183 = .ok (.iconst 2, 1) := by decide +kernel
theorem d_M_renew_184 : decode c_M_renew 184 = .ok (.iadd, 1) := by decide +kernel
theorem d_M_renew_185 : decode c_M_renew 185 = .ok (.iaload, 1) := by decide +kernel
theorem d_M_renew_186 : decode c_M_renew 186 = .ok (.iastore, 1) := by decide +kernel
theorem d_M_renew_187 : decode c_M_renew 187 = .ok (.aload_n 0, 1) := by decide +kernel
theorem d_M_renew_188 : decode c_M_renew 188 = .ok (.getfield 42, 3) := by decide +kernel
theorem d_M_renew_191 : decode c_M_renew 191 = .ok (.iload_n 3, 1) := by decide +kernel
theorem d_M_renew_192 : decode c_M_renew 192 = .ok (.iconst 3, 1) := by decide +kernel
theorem d_M_renew_193 : decode c_M_renew 193 = .ok (.iadd, 1) := by decide +kernel
theorem d_M_renew_194 : decode c_M_renew 194 = .ok (.dup2, 1) := by decide +kernel
theorem d_M_renew_195 : decode c_M_renew 195 = .ok (.iaload, 1) := by decide +kernel
theorem d_M_renew_196 : decode c_M_renew 196 = .ok (.iconst 1, 1) := by decide +kernel
theorem d_M_renew_197 : decode c_M_renew 197 = .ok (.iadd, 1) := by decide +kernel
theorem d_M_renew_198 : decode c_M_renew 198 = .ok (.iastore, 1) := by decide +kernel
theorem d_M_renew_199 : decode c_M_renew 199 = .ok (.aload_n 0, 1) := by decide +kernel
theorem d_M_renew_200 : decode c_M_renew 200 = .ok (.getfield 42, 3) := by decide +kernel
theorem d_M_renew_203 : decode c_M_renew 203 = .ok (.iload_n 3, 1) := by decide +kernel
theorem d_M_renew_204 : decode c_M_renew 204 = .ok (.iconst 4, 1) := by decide +kernel
theorem d_M_renew_205 : decode c_M_renew 205 = .ok (.iadd, 1) := by decide +kernel
theorem d_M_renew_206 : decode c_M_renew 206 = .ok (.iload_n 2, 1) := by decide +kernel
theorem d_M_renew_207 : decode c_M_renew 207 = .ok (.iastore, 1) := by decide +kernel
theorem d_M_renew_208 : decode c_M_renew 208 = .ok (.iconst 1, 1) := by decide +kernel
theorem d_M_renew_209 : decode c_M_renew 209 = .ok (.ireturn, 1) := by decide +kernel
theorem d_M_row_0 : decode c_M_row 0 = .ok (.aload_n 0, 1) := by decide +kernel
theorem d_M_row_1 : decode c_M_row 1 = .ok (.iconst 0, 1) := by decide +kernel
theorem d_M_row_2 : decode c_M_row 2 = .ok (.putfield 54, 3) := by decide +kernel
theorem d_M_row_5 : decode c_M_row 5 = .ok (.iload_n 1, 1) := by decide +kernel
theorem d_M_row_6 : decode c_M_row 6 = .ok (.ifCond .lt 25, 3) := by decide +kernel
theorem d_M_row_9 : decode c_M_row 9 = .ok (.iload_n 1, 1) := by decide +kernel
theorem d_M_row_10 : decode c_M_row 10 = .ok (.iconst 1, 1) := by decide +kernel
theorem d_M_row_11 : decode c_M_row 11 = .ok (.if_icmp .gt 20, 3) := by decide +kernel
theorem d_M_row_14 : decode c_M_row 14 = .ok (.iload_n 2, 1) := by decide +kernel
theorem d_M_row_15 : decode c_M_row 15 = .ok (.invokestatic 143, 3) := by decide +kernel
theorem d_M_row_18 : decode c_M_row 18 = .ok (.ifCond .eq 13, 3) := by decide +kernel
theorem d_M_row_21 : decode c_M_row 21 = .ok (.iload_n 3, 1) := by decide +kernel
theorem d_M_row_22 : decode c_M_row 22 = .ok (.ifCond .lt 9, 3) := by decide +kernel
theorem d_M_row_25 : decode c_M_row 25 = .ok (.iload_n 3, 1) := by decide +kernel
theorem d_M_row_26 : decode c_M_row 26 = .ok (.bipush 9, 2) := by decide +kernel
theorem d_M_row_28 : decode c_M_row 28 = .ok (.if_icmp .le 5, 3) := by decide +kernel
theorem d_M_row_31 : decode c_M_row 31 = .ok (.iconst 0, 1) := by decide +kernel
theorem d_M_row_32 : decode c_M_row 32 = .ok (.ireturn, 1) := by decide +kernel
theorem d_M_row_33 : decode c_M_row 33 = .ok (.iload_n 1, 1) := by decide +kernel
theorem d_M_row_34 : decode c_M_row 34 = .ok (.ifCond .ne 13, 3) := by decide +kernel
theorem d_M_row_37 : decode c_M_row 37 = .ok (.aload_n 0, 1) := by decide +kernel
theorem d_M_row_38 : decode c_M_row 38 = .ok (.getfield 30, 3) := by decide +kernel
theorem d_M_row_41 : decode c_M_row 41 = .ok (.iload_n 2, 1) := by decide +kernel
theorem d_M_row_42 : decode c_M_row 42 = .ok (.iload_n 3, 1) := by decide +kernel
theorem d_M_row_43 : decode c_M_row 43 = .ok (.iastore, 1) := by decide +kernel
theorem d_M_row_44 : decode c_M_row 44 = .ok (.goto 10, 3) := by decide +kernel
theorem d_M_row_47 : decode c_M_row 47 = .ok (.aload_n 0, 1) := by decide +kernel
theorem d_M_row_48 : decode c_M_row 48 = .ok (.getfield 33, 3) := by decide +kernel
theorem d_M_row_51 : decode c_M_row 51 = .ok (.iload_n 2, 1) := by decide +kernel
theorem d_M_row_52 : decode c_M_row 52 = .ok (.iload_n 3, 1) := by decide +kernel
theorem d_M_row_53 : decode c_M_row 53 = .ok (.iastore, 1) := by decide +kernel
theorem d_M_row_54 : decode c_M_row 54 = .ok (.iconst 1, 1) := by decide +kernel
theorem d_M_row_55 : decode c_M_row 55 = .ok (.ireturn, 1) := by decide +kernel
theorem d_M_rule_0 : decode c_M_rule 0 = .ok (.aload_n 0, 1) := by decide +kernel
theorem d_M_rule_1 : decode c_M_rule 1 = .ok (.iconst 0, 1) := by decide +kernel
theorem d_M_rule_2 : decode c_M_rule 2 = .ok (.putfield 54, 3) := by decide +kernel
theorem d_M_rule_5 : decode c_M_rule 5 = .ok (.aload_n 0, 1) := by decide +kernel
theorem d_M_rule_6 : decode c_M_rule 6 = .ok (.invokevirtual 134, 3) := by decide +kernel
theorem d_M_rule_9 : decode c_M_rule 9 = .ok (.istore_n 1, 1) := by decide +kernel
theorem d_M_rule_10 : decode c_M_rule 10 = .ok (.aload_n 0, 1) := by decide +kernel
theorem d_M_rule_11 : decode c_M_rule 11 = .ok (.iconst 0, 1) := by decide +kernel
theorem d_M_rule_12 : decode c_M_rule 12 = .ok (.putfield 58, 3) := by decide +kernel
theorem d_M_rule_15 : decode c_M_rule 15 = .ok (.iload_n 1, 1) := by decide +kernel
theorem d_M_rule_16 : decode c_M_rule 16 = .ok (.ifCond .ne 10, 3) := by decide +kernel
theorem d_M_rule_19 : decode c_M_rule 19 = .ok (.iconst (-1), 1) := by decide +kernel
theorem d_M_rule_20 : decode c_M_rule 20 = .ok (.aload_n 0, 1) := by decide +kernel
theorem d_M_rule_21 : decode c_M_rule 21 = .ok (.getfield 61, 3) := by decide +kernel
theorem d_M_rule_24 : decode c_M_rule 24 = .ok (.isub, 1) := by decide +kernel
theorem d_M_rule_25 : decode c_M_rule 25 = .ok (.ireturn, 1) := by decide +kernel
theorem d_M_rule_26 : decode c_M_rule 26 = .ok (.aload_n 0, 1) := by decide +kernel
theorem d_M_rule_27 : decode c_M_rule 27 = .ok (.getfield 88, 3) := by decide +kernel
theorem d_M_rule_30 : decode c_M_rule 30 = .ok (.bipush 40, 2) := by decide +kernel
theorem d_M_rule_32 : decode c_M_rule 32 = .ok (.if_icmp .ne 7, 3) := by decide +kernel
theorem d_M_rule_35 : decode c_M_rule 35 = .ok (.sipush (-200), 3) := by decide +kernel
theorem d_M_rule_38 : decode c_M_rule 38 = .ok (.ireturn, 1) := by decide +kernel
theorem d_M_rule_39 : decode c_M_rule 39 = .ok (.aload_n 0, 1) := by decide +kernel
theorem d_M_rule_40 : decode c_M_rule 40 = .ok (.dup, 1) := by decide +kernel
theorem d_M_rule_41 : decode c_M_rule 41 = .ok (.getfield 88, 3) := by decide +kernel
theorem d_M_rule_44 : decode c_M_rule 44 = .ok (.iconst 1, 1) := by decide +kernel
theorem d_M_rule_45 : decode c_M_rule 45 = .ok (.iadd, 1) := by decide +kernel
theorem d_M_rule_46 : decode c_M_rule 46 = .ok (.putfield 88, 3) := by decide +kernel
theorem d_M_rule_49 : decode c_M_rule 49 = .ok (.aload_n 0, 1) := by decide +kernel
theorem d_M_rule_50 : decode c_M_rule 50 = .ok (.getfield 88, 3) := by decide +kernel
theorem d_M_rule_53 : decode c_M_rule 53 = .ok (.iconst 1, 1) := by decide +kernel
theorem d_M_rule_54 : decode c_M_rule 54 = .ok (.isub, 1) := by decide +kernel
theorem d_M_rule_55 : decode c_M_rule 55 = .ok (.ireturn, 1) := by decide +kernel
theorem d_M_sign_0 : decode c_M_sign 0 = .ok (.aload_n 0, 1) := by decide +kernel
theorem d_M_sign_1 : decode c_M_sign 1 = .ok (.iconst 0, 1) := by decide +kernel
theorem d_M_sign_2 : decode c_M_sign 2 = .ok (.putfield 54, 3) := by decide +kernel
theorem d_M_sign_5 : decode c_M_sign 5 = .ok (.aload_n 0, 1) := by decide +kernel
theorem d_M_sign_6 : decode c_M_sign 6 = .ok (.getfield 58, 3) := by decide +kernel
theorem d_M_sign_9 : decode c_M_sign 9 = .ok (.bipush 120, 2) := by decide +kernel
theorem d_M_sign_11 : decode c_M_sign 11 = .ok (.if_icmp .ge 24, 3) := by decide +kernel
theorem d_M_sign_14 : decode c_M_sign 14 = .ok (.aload_n 0, 1) := by decide +kernel
theorem d_M_sign_15 : decode c_M_sign 15 = .ok (.getfield 7, 3) := by decide +kernel
theorem d_M_sign_18 : decode c_M_sign 18 = .ok (.aload_n 0, 1) := by decide +kernel
theorem d_M_sign_19 : decode c_M_sign 19 = .ok (.getfield 58, 3) := by decide +kernel
theorem d_M_sign_22 : decode c_M_sign 22 = .ok (.iload_n 1, 1) := by decide +kernel
theorem d_M_sign_23 : decode c_M_sign 23 = .ok (.i2b, 1) := by decide +kernel
theorem d_M_sign_24 : decode c_M_sign 24 = .ok (.bastore, 1) := by decide +kernel
theorem d_M_sign_25 : decode c_M_sign 25 = .ok (.aload_n 0, 1) := by decide +kernel
theorem d_M_sign_26 : decode c_M_sign 26 = .ok (.dup, 1) := by decide +kernel
theorem d_M_sign_27 : decode c_M_sign 27 = .ok (.getfield 58, 3) := by decide +kernel
theorem d_M_sign_30 : decode c_M_sign 30 = .ok (.iconst 1, 1) := by decide +kernel
theorem d_M_sign_31 : decode c_M_sign 31 = .ok (.iadd, 1) := by decide +kernel
theorem d_M_sign_32 : decode c_M_sign 32 = .ok (.putfield 58, 3) := by decide +kernel
theorem d_M_sign_35 : decode c_M_sign 35 = .ok (.return_, 1) := by decide +kernel
theorem d_M_space_0 : decode c_M_space 0 = .ok (.aload_n 0, 1) := by decide +kernel
theorem d_M_space_1 : decode c_M_space 1 = .ok (.aload_n 0, 1) := by decide +kernel
theorem d_M_space_2 : decode c_M_space 2 = .ok (.getfield 64, 3) := by decide +kernel
theorem d_M_space_5 : decode c_M_space 5 = .ok (.invokevirtual 67, 3) := by decide +kernel
theorem d_M_space_8 : decode c_M_space 8 = .ok (.bipush 32, 2) := by decide +kernel
theorem d_M_space_10 : decode c_M_space 10 = .ok (.if_icmp .eq 12, 3) := by decide +kernel
theorem d_M_space_13 : decode c_M_space 13 = .ok (.aload_n 0, 1) := by decide +kernel
theorem d_M_space_14 : decode c_M_space 14 = .ok (.aload_n 0, 1) := by decide +kernel
theorem d_M_space_15 : decode c_M_space 15 = .ok (.getfield 64, 3) := by decide +kernel
theorem d_M_space_18 : decode c_M_space 18 = .ok (.invokevirtual 77, 3) := by decide +kernel
theorem d_M_space_21 : decode c_M_space 21 = .ok (.ireturn, 1) := by decide +kernel
theorem d_M_space_22 : decode c_M_space 22 = .ok (.aload_n 0, 1) := by decide +kernel
theorem d_M_space_23 : decode c_M_space 23 = .ok (.dup, 1) := by decide +kernel
theorem d_M_space_24 : decode c_M_space 24 = .ok (.getfield 64, 3) := by decide +kernel
theorem d_M_space_27 : decode c_M_space 27 = .ok (.iconst 1, 1) := by decide +kernel
theorem d_M_space_28 : decode c_M_space 28 = .ok (.iadd, 1) := by decide +kernel
theorem d_M_space_29 : decode c_M_space 29 = .ok (.putfield 64, 3) := by decide +kernel
theorem d_M_space_32 : decode c_M_space 32 = .ok (.iconst 1, 1) := by decide +kernel
theorem d_M_space_33 : decode c_M_space 33 = .ok (.ireturn, 1) := by decide +kernel
theorem d_M_step_0 : decode c_M_step 0 = .ok (.lload_n 0, 1) := by decide +kernel
theorem d_M_step_1 : decode c_M_step 1 = .ok (.ldc2_w 91, 3) := by decide +kernel
theorem d_M_step_4 : decode c_M_step 4 = .ok (.lcmp, 1) := by decide +kernel
theorem d_M_step_5 : decode c_M_step 5 = .ok (.ifCond .ne 7, 3) := by decide +kernel
theorem d_M_step_8 : decode c_M_step 8 = .ok (.iconst 1, 1) := by decide +kernel
theorem d_M_step_9 : decode c_M_step 9 = .ok (.goto 117, 3) := by decide +kernel
theorem d_M_step_12 : decode c_M_step 12 = .ok (.lload_n 0, 1) := by decide +kernel
theorem d_M_step_13 : decode c_M_step 13 = .ok (.ldc2_w 93, 3) := by decide +kernel
theorem d_M_step_16 : decode c_M_step 16 = .ok (.lcmp, 1) := by decide +kernel
theorem d_M_step_17 : decode c_M_step 17 = .ok (.ifCond .ne 7, 3) := by decide +kernel
theorem d_M_step_20 : decode c_M_step 20 = .ok (.iconst 2, 1) := by decide +kernel
theorem d_M_step_21 : decode c_M_step 21 = .ok (.goto 105, 3) := by decide +kernel
theorem d_M_step_24 : decode c_M_step 24 = .ok (.lload_n 0, 1) := by decide +kernel
theorem d_M_step_25 : decode c_M_step 25 = .ok (.ldc2_w 95, 3) := by decide +kernel
theorem d_M_step_28 : decode c_M_step 28 = .ok (.lcmp, 1) := by decide +kernel
theorem d_M_step_29 : decode c_M_step 29 = .ok (.ifCond .ne 7, 3) := by decide +kernel
theorem d_M_step_32 : decode c_M_step 32 = .ok (.iconst 3, 1) := by decide +kernel
theorem d_M_step_33 : decode c_M_step 33 = .ok (.goto 93, 3) := by decide +kernel
theorem d_M_step_36 : decode c_M_step 36 = .ok (.lload_n 0, 1) := by decide +kernel
theorem d_M_step_37 : decode c_M_step 37 = .ok (.ldc2_w 97, 3) := by decide +kernel
theorem d_M_step_40 : decode c_M_step 40 = .ok (.lcmp, 1) := by decide +kernel
theorem d_M_step_41 : decode c_M_step 41 = .ok (.ifCond .ne 7, 3) := by decide +kernel
theorem d_M_step_44 : decode c_M_step 44 = .ok (.iconst 4, 1) := by decide +kernel
theorem d_M_step_45 : decode c_M_step 45 = .ok (.goto 81, 3) := by decide +kernel
theorem d_M_step_48 : decode c_M_step 48 = .ok (.lload_n 0, 1) := by decide +kernel
theorem d_M_step_49 : decode c_M_step 49 = .ok (.ldc2_w 99, 3) := by decide +kernel
theorem d_M_step_52 : decode c_M_step 52 = .ok (.lcmp, 1) := by decide +kernel
theorem d_M_step_53 : decode c_M_step 53 = .ok (.ifCond .ne 7, 3) := by decide +kernel
theorem d_M_step_56 : decode c_M_step 56 = .ok (.iconst 5, 1) := by decide +kernel
theorem d_M_step_57 : decode c_M_step 57 = .ok (.goto 69, 3) := by decide +kernel
theorem d_M_step_60 : decode c_M_step 60 = .ok (.lload_n 0, 1) := by decide +kernel
theorem d_M_step_61 : decode c_M_step 61 = .ok (.ldc2_w 101, 3) := by decide +kernel
theorem d_M_step_64 : decode c_M_step 64 = .ok (.lcmp, 1) := by decide +kernel
theorem d_M_step_65 : decode c_M_step 65 = .ok (.ifCond .ne 8, 3) := by decide +kernel
theorem d_M_step_68 : decode c_M_step 68 = .ok (.bipush 6, 2) := by decide +kernel
theorem d_M_step_70 : decode c_M_step 70 = .ok (.goto 56, 3) := by decide +kernel
theorem d_M_step_73 : decode c_M_step 73 = .ok (.lload_n 0, 1) := by decide +kernel
theorem d_M_step_74 : decode c_M_step 74 = .ok (.ldc2_w 103, 3) := by decide +kernel
theorem d_M_step_77 : decode c_M_step 77 = .ok (.lcmp, 1) := by decide +kernel
theorem d_M_step_78 : decode c_M_step 78 = .ok (.ifCond .ne 8, 3) := by decide +kernel
theorem d_M_step_81 : decode c_M_step 81 = .ok (.bipush 7, 2) := by decide +kernel
theorem d_M_step_83 : decode c_M_step 83 = .ok (.goto 43, 3) := by decide +kernel
theorem d_M_step_86 : decode c_M_step 86 = .ok (.lload_n 0, 1) := by decide +kernel
theorem d_M_step_87 : decode c_M_step 87 = .ok (.ldc2_w 105, 3) := by decide +kernel
theorem d_M_step_90 : decode c_M_step 90 = .ok (.lcmp, 1) := by decide +kernel
theorem d_M_step_91 : decode c_M_step 91 = .ok (.ifCond .ne 8, 3) := by decide +kernel
theorem d_M_step_94 : decode c_M_step 94 = .ok (.bipush 8, 2) := by decide +kernel
theorem d_M_step_96 : decode c_M_step 96 = .ok (.goto 30, 3) := by decide +kernel
theorem d_M_step_99 : decode c_M_step 99 = .ok (.lload_n 0, 1) := by decide +kernel
theorem d_M_step_100 : decode c_M_step 100 = .ok (.ldc2_w 107, 3) := by decide +kernel
theorem d_M_step_103 : decode c_M_step 103 = .ok (.lcmp, 1) := by decide +kernel
theorem d_M_step_104 : decode c_M_step 104 = .ok (.ifCond .ne 8, 3) := by decide +kernel
theorem d_M_step_107 : decode c_M_step 107 = .ok (.bipush 9, 2) := by decide +kernel
theorem d_M_step_109 : decode c_M_step 109 = .ok (.goto 17, 3) := by decide +kernel
theorem d_M_step_112 : decode c_M_step 112 = .ok (.lload_n 0, 1) := by decide +kernel
theorem d_M_step_113 : decode c_M_step 113 = .ok (.ldc2_w 109, 3) := by decide +kernel
theorem d_M_step_116 : decode c_M_step 116 = .ok (.lcmp, 1) := by decide +kernel
theorem d_M_step_117 : decode c_M_step 117 = .ok (.ifCond .ne 8, 3) := by decide +kernel
theorem d_M_step_120 : decode c_M_step 120 = .ok (.bipush 10, 2) := by decide +kernel
theorem d_M_step_122 : decode c_M_step 122 = .ok (.goto 4, 3) := by decide +kernel
theorem d_M_step_125 : decode c_M_step 125 = .ok (.iconst 0, 1) := by decide +kernel
theorem d_M_step_126 : decode c_M_step 126 = .ok (.ireturn, 1) := by decide +kernel
theorem d_M_term_0 : decode c_M_term 0 = .ok (.aload_n 0, 1) := by decide +kernel
theorem d_M_term_1 : decode c_M_term 1 = .ok (.iconst 0, 1) := by decide +kernel
theorem d_M_term_2 : decode c_M_term 2 = .ok (.putfield 54, 3) := by decide +kernel
theorem d_M_term_5 : decode c_M_term 5 = .ok (.iload_n 1, 1) := by decide +kernel
theorem d_M_term_6 : decode c_M_term 6 = .ok (.invokestatic 137, 3) := by decide +kernel
theorem d_M_term_9 : decode c_M_term 9 = .ok (.ifCond .eq 12, 3) := by decide +kernel
theorem d_M_term_12 : decode c_M_term 12 = .ok (.aload_n 0, 1) := by decide +kernel
theorem d_M_term_13 : decode c_M_term 13 = .ok (.getfield 27, 3) := by decide +kernel
theorem d_M_term_16 : decode c_M_term 16 = .ok (.iload_n 1, 1) := by decide +kernel
theorem d_M_term_17 : decode c_M_term 17 = .ok (.baload, 1) := by decide +kernel
theorem d_M_term_18 : decode c_M_term 18 = .ok (.ifCond .eq 5, 3) := by decide +kernel
theorem d_M_term_21 : decode c_M_term 21 = .ok (.iconst 0, 1) := by decide +kernel
theorem d_M_term_22 : decode c_M_term 22 = .ok (.ireturn, 1) := by decide +kernel
theorem d_M_term_23 : decode c_M_term 23 = .ok (.aload_n 0, 1) := by decide +kernel
theorem d_M_term_24 : decode c_M_term 24 = .ok (.getfield 27, 3) := by decide +kernel
theorem d_M_term_27 : decode c_M_term 27 = .ok (.iload_n 1, 1) := by decide +kernel
theorem d_M_term_28 : decode c_M_term 28 = .ok (.iconst 1, 1) := by decide +kernel
theorem d_M_term_29 : decode c_M_term 29 = .ok (.bastore, 1) := by decide +kernel
theorem d_M_term_30 : decode c_M_term 30 = .ok (.iconst 1, 1) := by decide +kernel
theorem d_M_term_31 : decode c_M_term 31 = .ok (.ireturn, 1) := by decide +kernel
theorem d_M_throwsUp_0 : decode c_M_throwsUp 0 = .ok (.aload_n 0, 1) := by decide +kernel
theorem d_M_throwsUp_1 : decode c_M_throwsUp 1 = .ok (.iconst 0, 1) := by decide +kernel
theorem d_M_throwsUp_2 : decode c_M_throwsUp 2 = .ok (.putfield 54, 3) := by decide +kernel
theorem d_M_throwsUp_5 : decode c_M_throwsUp 5 = .ok (.aload_n 0, 1) := by decide +kernel
theorem d_M_throwsUp_6 : decode c_M_throwsUp 6 = .ok (.iload_n 1, 1) := by decide +kernel
theorem d_M_throwsUp_7 : decode c_M_throwsUp 7 = .ok (.invokevirtual 146, 3) := by decide +kernel
theorem d_M_throwsUp_10 : decode c_M_throwsUp 10 = .ok (.ifCond .ne 5, 3) := by decide +kernel
theorem d_M_throwsUp_13 : decode c_M_throwsUp 13 = .ok (.iconst 0, 1) := by decide +kernel
theorem d_M_throwsUp_14 : decode c_M_throwsUp 14 = .ok (.ireturn, 1) := by decide +kernel
theorem d_M_throwsUp_15 : decode c_M_throwsUp 15 = .ok (.aload_n 0, 1) := by decide +kernel
theorem d_M_throwsUp_16 : decode c_M_throwsUp 16 = .ok (.getfield 21, 3) := by decide +kernel
theorem d_M_throwsUp_19 : decode c_M_throwsUp 19 = .ok (.iload_n 1, 1) := by decide +kernel
theorem d_M_throwsUp_20 : decode c_M_throwsUp 20 = .ok (.baload, 1) := by decide +kernel
theorem d_M_throwsUp_21 : decode c_M_throwsUp 21 = .ok (.istore_n 3, 1) := by decide +kernel
theorem d_M_throwsUp_22 : decode c_M_throwsUp 22 = .ok (.aload_n 0, 1) := by decide +kernel
theorem d_M_throwsUp_23 : decode c_M_throwsUp 23 = .ok (.getfield 21, 3) := by decide +kernel
theorem d_M_throwsUp_26 : decode c_M_throwsUp 26 = .ok (.iload_n 1, 1) := by decide +kernel
theorem d_M_throwsUp_27 : decode c_M_throwsUp 27 = .ok (.iload_n 2, 1) := by decide +kernel
theorem d_M_throwsUp_28 : decode c_M_throwsUp 28 = .ok (.bastore, 1) := by decide +kernel
theorem d_M_throwsUp_29 : decode c_M_throwsUp 29 = .ok (.iload_n 3, 1) := by decide +kernel
theorem d_M_throwsUp_30 : decode c_M_throwsUp 30 = .ok (.ireturn, 1) := by decide +kernel
theorem d_M_word_0 : decode c_M_word 0 = .ok (.lconst 0, 1) := by decide +kernel
theorem d_M_word_1 : decode c_M_word 1 = .ok (.lstore_n 1, 1) := by decide +kernel
theorem d_M_word_2 : decode c_M_word 2 = .ok (.aload_n 0, 1) := by decide +kernel
theorem d_M_word_3 : decode c_M_word 3 = .ok (.getfield 64, 3) := by decide +kernel
theorem d_M_word_6 : decode c_M_word 6 = .ok (.istore_n 3, 1) := by decide +kernel
theorem d_M_word_7 : decode c_M_word 7 = .ok (.aload_n 0, 1) := by decide +kernel
theorem d_M_word_8 : decode c_M_word 8 = .ok (.iload_n 3, 1) := by decide +kernel
theorem d_M_word_9 : decode c_M_word 9 = .ok (.invokevirtual 67, 3) := by decide +kernel
theorem d_M_word_12 : decode c_M_word 12 = .ok (.bipush 97, 2) := by decide +kernel
theorem d_M_word_14 : decode c_M_word 14 = .ok (.if_icmp .lt 53, 3) := by decide +kernel
theorem d_M_word_17 : decode c_M_word 17 = .ok (.aload_n 0, 1) := by decide +kernel
theorem d_M_word_18 : decode c_M_word 18 = .ok (.iload_n 3, 1) := by decide +kernel
theorem d_M_word_19 : decode c_M_word 19 = .ok (.invokevirtual 67, 3) := by decide +kernel
theorem d_M_word_22 : decode c_M_word 22 = .ok (.bipush 122, 2) := by decide +kernel
theorem d_M_word_24 : decode c_M_word 24 = .ok (.if_icmp .gt 43, 3) := by decide +kernel
theorem d_M_word_27 : decode c_M_word 27 = .ok (.iload_n 3, 1) := by decide +kernel
theorem d_M_word_28 : decode c_M_word 28 = .ok (.aload_n 0, 1) := by decide +kernel
theorem d_M_word_29 : decode c_M_word 29 = .ok (.getfield 64, 3) := by decide +kernel
theorem d_M_word_32 : decode c_M_word 32 = .ok (.isub, 1) := by decide +kernel
theorem d_M_word_33 : decode c_M_word 33 = .ok (.bipush 10, 2) := by decide +kernel
theorem d_M_word_35 : decode c_M_word 35 = .ok (.if_icmp .le 9, 3) := by decide +kernel
theorem d_M_word_38 : decode c_M_word 38 = .ok (.ldc2_w 71, 3) := by decide +kernel
theorem d_M_word_41 : decode c_M_word 41 = .ok (.goto 19, 3) := by decide +kernel
theorem d_M_word_44 : decode c_M_word 44 = .ok (.lload_n 1, 1) := by decide +kernel
theorem d_M_word_45 : decode c_M_word 45 = .ok (.ldc2_w 73, 3) := by decide +kernel
theorem d_M_word_48 : decode c_M_word 48 = .ok (.lmul, 1) := by decide +kernel
theorem d_M_word_49 : decode c_M_word 49 = .ok (.aload_n 0, 1) := by decide +kernel
theorem d_M_word_50 : decode c_M_word 50 = .ok (.iload_n 3, 1) := by decide +kernel
theorem d_M_word_51 : decode c_M_word 51 = .ok (.invokevirtual 67, 3) := by decide +kernel
theorem d_M_word_54 : decode c_M_word 54 = .ok (.i2l, 1) := by decide +kernel
theorem d_M_word_55 : decode c_M_word 55 = .ok (.ladd, 1) := by decide +kernel
theorem d_M_word_56 : decode c_M_word 56 = .ok (.ldc2_w 75, 3) := by decide +kernel
theorem d_M_word_59 : decode c_M_word 59 = .ok (.lsub, 1) := by decide +kernel
theorem d_M_word_60 : decode c_M_word 60 = .ok (.lstore_n 1, 1) := by decide +kernel
theorem d_M_word_61 : decode c_M_word 61 = .ok (.iinc 3 1, 3) := by decide +kernel
theorem d_M_word_64 : decode c_M_word 64 = .ok (.goto (-57), 3) := by decide +kernel
theorem d_M_word_67 : decode c_M_word 67 = .ok (.lload_n 1, 1) := by decide +kernel
theorem d_M_word_68 : decode c_M_word 68 = .ok (.lreturn, 1) := by decide +kernel
theorem d_N_init_0 : decode c_N_init 0 = .ok (.aload_n 0, 1) := by decide +kernel
theorem d_N_init_1 : decode c_N_init 1 = .ok (.invokespecial 1, 3) := by decide +kernel
theorem d_N_init_4 : decode c_N_init 4 = .ok (.aload_n 0, 1) := by decide +kernel
theorem d_N_init_5 : decode c_N_init 5 = .ok (.iconst 0, 1) := by decide +kernel
theorem d_N_init_6 : decode c_N_init 6 = .ok (.putfield 7, 3) := by decide +kernel
theorem d_N_init_9 : decode c_N_init 9 = .ok (.aload_n 0, 1) := by decide +kernel
theorem d_N_init_10 : decode c_N_init 10 = .ok (.iconst 0, 1) := by decide +kernel
theorem d_N_init_11 : decode c_N_init 11 = .ok (.putfield 13, 3) := by decide +kernel
theorem d_N_init_14 : decode c_N_init 14 = .ok (.aload_n 0, 1) := by decide +kernel
theorem d_N_init_15 : decode c_N_init 15 = .ok (.iconst 0, 1) := by decide +kernel
theorem d_N_init_16 : decode c_N_init 16 = .ok (.putfield 17, 3) := by decide +kernel
theorem d_N_init_19 : decode c_N_init 19 = .ok (.aload_n 0, 1) := by decide +kernel
theorem d_N_init_20 : decode c_N_init 20 = .ok (.iload_n 1, 1) := by decide +kernel
theorem d_N_init_21 : decode c_N_init 21 = .ok (.putfield 20, 3) := by decide +kernel
theorem d_N_init_24 : decode c_N_init 24 = .ok (.aload_n 0, 1) := by decide +kernel
theorem d_N_init_25 : decode c_N_init 25 = .ok (.iload_n 2, 1) := by decide +kernel
theorem d_N_init_26 : decode c_N_init 26 = .ok (.putfield 23, 3) := by decide +kernel
theorem d_N_init_29 : decode c_N_init 29 = .ok (.aload_n 0, 1) := by decide +kernel
theorem d_N_init_30 : decode c_N_init 30 = .ok (.aload_n 3, 1) := by decide +kernel
theorem d_N_init_31 : decode c_N_init 31 = .ok (.putfield 26, 3) := by decide +kernel
theorem d_N_init_34 : decode c_N_init 34 = .ok (.aload_n 0, 1) := by decide +kernel
theorem d_N_init_35 : decode c_N_init 35 = .ok (.iload 4, 2) := by decide +kernel
theorem d_N_init_37 : decode c_N_init 37 = .ok (.putfield 30, 3) := by decide +kernel
theorem d_N_init_40 : decode c_N_init 40 = .ok (.aload_n 0, 1) := by decide +kernel
theorem d_N_init_41 : decode c_N_init 41 = .ok (.iload 5, 2) := by decide +kernel
theorem d_N_init_43 : decode c_N_init 43 = .ok (.putfield 33, 3) := by decide +kernel
theorem d_N_init_46 : decode c_N_init 46 = .ok (.return_, 1) := by decide +kernel
theorem d_PC_checkIndex_0 : decode c_PC_checkIndex 0 = .ok (.iload_n 0, 1) := by decide +kernel
theorem d_PC_checkIndex_1 : decode c_PC_checkIndex 1 = .ok (.ifCond .lt 8, 3) := by decide +kernel
theorem d_PC_checkIndex_4 : decode c_PC_checkIndex 4 = .ok (.iload_n 0, 1) := by decide +kernel
theorem d_PC_checkIndex_5 : decode c_PC_checkIndex 5 = .ok (.iload_n 1, 1) := by decide +kernel
theorem d_PC_checkIndex_6 : decode c_PC_checkIndex 6 = .ok (.if_icmp .lt 10, 3) := by decide +kernel
theorem d_PC_checkIndex_16 : decode c_PC_checkIndex 16 = .ok (.iload_n 0, 1) := by decide +kernel
theorem d_PC_checkIndex_17 : decode c_PC_checkIndex 17 = .ok (.ireturn, 1) := by decide +kernel
theorem d_R_init_0 : decode c_R_init 0 = .ok (.aload_n 0, 1) := by decide +kernel
theorem d_R_init_1 : decode c_R_init 1 = .ok (.invokespecial 3, 3) := by decide +kernel
theorem d_R_init_4 : decode c_R_init 4 = .ok (.aload_n 0, 1) := by decide +kernel
theorem d_R_init_5 : decode c_R_init 5 = .ok (.iconst (-1), 1) := by decide +kernel
theorem d_R_init_6 : decode c_R_init 6 = .ok (.putfield 9, 3) := by decide +kernel
theorem d_R_init_9 : decode c_R_init 9 = .ok (.aload_n 0, 1) := by decide +kernel
theorem d_R_init_10 : decode c_R_init 10 = .ok (.iconst (-1), 1) := by decide +kernel
theorem d_R_init_11 : decode c_R_init 11 = .ok (.putfield 15, 3) := by decide +kernel
theorem d_R_init_14 : decode c_R_init 14 = .ok (.aload_n 0, 1) := by decide +kernel
theorem d_R_init_15 : decode c_R_init 15 = .ok (.iconst (-1), 1) := by decide +kernel
theorem d_R_init_16 : decode c_R_init 16 = .ok (.putfield 18, 3) := by decide +kernel
theorem d_R_init_19 : decode c_R_init 19 = .ok (.aload_n 0, 1) := by decide +kernel
theorem d_R_init_20 : decode c_R_init 20 = .ok (.iconst 2, 1) := by decide +kernel
theorem d_R_init_21 : decode c_R_init 21 = .ok (.putfield 21, 3) := by decide +kernel
theorem d_R_init_24 : decode c_R_init 24 = .ok (.aload_n 0, 1) := by decide +kernel
theorem d_R_init_25 : decode c_R_init 25 = .ok (.iconst 0, 1) := by decide +kernel
theorem d_R_init_26 : decode c_R_init 26 = .ok (.putfield 24, 3) := by decide +kernel
theorem d_R_init_29 : decode c_R_init 29 = .ok (.aload_n 0, 1) := by decide +kernel
theorem d_R_init_30 : decode c_R_init 30 = .ok (.iconst 0, 1) := by decide +kernel
theorem d_R_init_31 : decode c_R_init 31 = .ok (.putfield 27, 3) := by decide +kernel
theorem d_R_init_34 : decode c_R_init 34 = .ok (.aload_n 0, 1) := by decide +kernel
theorem d_R_init_35 : decode c_R_init 35 = .ok (.iconst 0, 1) := by decide +kernel
theorem d_R_init_36 : decode c_R_init 36 = .ok (.putfield 30, 3) := by decide +kernel
theorem d_R_init_39 : decode c_R_init 39 = .ok (.aload_n 0, 1) := by decide +kernel
theorem d_R_init_40 : decode c_R_init 40 = .ok (.bipush 7, 2) := by decide +kernel
theorem d_R_init_42 : decode c_R_init 42 = .ok (.putfield 33, 3) := by decide +kernel
theorem d_R_init_45 : decode c_R_init 45 = .ok (.aload_n 0, 1) := by decide +kernel
theorem d_R_init_46 : decode c_R_init 46 = .ok (.iconst 0, 1) := by decide +kernel
theorem d_R_init_47 : decode c_R_init 47 = .ok (.putfield 36, 3) := by decide +kernel
theorem d_R_init_50 : decode c_R_init 50 = .ok (.aload_n 0, 1) := by decide +kernel
theorem d_R_init_51 : decode c_R_init 51 = .ok (.iconst 0, 1) := by decide +kernel
theorem d_R_init_52 : decode c_R_init 52 = .ok (.putfield 39, 3) := by decide +kernel
theorem d_R_init_55 : decode c_R_init 55 = .ok (.aload_n 0, 1) := by decide +kernel
theorem d_R_init_56 : decode c_R_init 56 = .ok (.iconst 0, 1) := by decide +kernel
theorem d_R_init_57 : decode c_R_init 57 = .ok (.putfield 43, 3) := by decide +kernel
theorem d_R_init_60 : decode c_R_init 60 = .ok (.return_, 1) := by decide +kernel
theorem d_R_lends_0 : decode c_R_lends 0 = .ok (.aload_n 0, 1) := by decide +kernel
theorem d_R_lends_1 : decode c_R_lends 1 = .ok (.getfield 21, 3) := by decide +kernel
theorem d_R_lends_4 : decode c_R_lends 4 = .ok (.ifCond .eq 11, 3) := by decide +kernel
theorem d_R_lends_7 : decode c_R_lends 7 = .ok (.aload_n 0, 1) := by decide +kernel
theorem d_R_lends_8 : decode c_R_lends 8 = .ok (.getfield 21, 3) := by decide +kernel
theorem d_R_lends_11 : decode c_R_lends 11 = .ok (.iconst 1, 1) := by decide +kernel
theorem d_R_lends_12 : decode c_R_lends 12 = .ok (.if_icmp .ne 7, 3) := by decide +kernel
theorem d_R_lends_15 : decode c_R_lends 15 = .ok (.iconst 1, 1) := by decide +kernel
theorem d_R_lends_16 : decode c_R_lends 16 = .ok (.goto 4, 3) := by decide +kernel
theorem d_R_lends_19 : decode c_R_lends 19 = .ok (.iconst 0, 1) := by decide +kernel
theorem d_R_lends_20 : decode c_R_lends 20 = .ok (.ireturn, 1) := by decide +kernel
theorem d_SL_charAt_0 : decode c_SL_charAt 0 = .ok (.iload_n 1, 1) := by decide +kernel
theorem d_SL_charAt_1 : decode c_SL_charAt 1 = .ok (.aload_n 0, 1) := by decide +kernel
theorem d_SL_charAt_2 : decode c_SL_charAt 2 = .ok (.arraylength, 1) := by decide +kernel
theorem d_SL_charAt_3 : decode c_SL_charAt 3 = .ok (.invokestatic 9, 3) := by decide +kernel
theorem d_SL_charAt_6 : decode c_SL_charAt 6 = .ok (.aload_n 0, 1) := by decide +kernel
theorem d_SL_charAt_7 : decode c_SL_charAt 7 = .ok (.iload_n 1, 1) := by decide +kernel
theorem d_SL_charAt_8 : decode c_SL_charAt 8 = .ok (.baload, 1) := by decide +kernel
theorem d_SL_charAt_9 : decode c_SL_charAt 9 = .ok (.sipush 255, 3) := by decide +kernel
theorem d_SL_charAt_12 : decode c_SL_charAt 12 = .ok (.iand, 1) := by decide +kernel
theorem d_SL_charAt_13 : decode c_SL_charAt 13 = .ok (.i2c, 1) := by decide +kernel
theorem d_SL_charAt_14 : decode c_SL_charAt 14 = .ok (.ireturn, 1) := by decide +kernel
theorem d_S_charAt_0 : decode c_S_charAt 0 = .ok (.aload_n 0, 1) := by decide +kernel
theorem d_S_charAt_1 : decode c_S_charAt 1 = .ok (.invokevirtual 492, 3) := by decide +kernel
theorem d_S_charAt_4 : decode c_S_charAt 4 = .ok (.ifCond .eq 12, 3) := by decide +kernel
theorem d_S_charAt_7 : decode c_S_charAt 7 = .ok (.aload_n 0, 1) := by decide +kernel
theorem d_S_charAt_8 : decode c_S_charAt 8 = .ok (.getfield 9, 3) := by decide +kernel
theorem d_S_charAt_11 : decode c_S_charAt 11 = .ok (.iload_n 1, 1) := by decide +kernel
theorem d_S_charAt_12 : decode c_S_charAt 12 = .ok (.invokestatic 495, 3) := by decide +kernel
theorem d_S_charAt_15 : decode c_S_charAt 15 = .ok (.ireturn, 1) := by decide +kernel
theorem d_S_checkIndex_0 : decode c_S_checkIndex 0 = .ok (.iload_n 0, 1) := by decide +kernel
theorem d_S_checkIndex_1 : decode c_S_checkIndex 1 = .ok (.iload_n 1, 1) := by decide +kernel
theorem d_S_checkIndex_2 : decode c_S_checkIndex 2 = .ok (.getstatic 1053, 3) := by decide +kernel
theorem d_S_checkIndex_5 : decode c_S_checkIndex 5 = .ok (.invokestatic 1059, 3) := by decide +kernel
theorem d_S_checkIndex_8 : decode c_S_checkIndex 8 = .ok (.pop, 1) := by decide +kernel
theorem d_S_checkIndex_9 : decode c_S_checkIndex 9 = .ok (.return_, 1) := by decide +kernel
theorem d_S_coder_0 : decode c_S_coder 0 = .ok (.getstatic 38, 3) := by decide +kernel
theorem d_S_coder_3 : decode c_S_coder 3 = .ok (.ifCond .eq 10, 3) := by decide +kernel
theorem d_S_coder_6 : decode c_S_coder 6 = .ok (.aload_n 0, 1) := by decide +kernel
theorem d_S_coder_7 : decode c_S_coder 7 = .ok (.getfield 15, 3) := by decide +kernel
theorem d_S_coder_10 : decode c_S_coder 10 = .ok (.goto 4, 3) := by decide +kernel
theorem d_S_coder_14 : decode c_S_coder 14 = .ok (.ireturn, 1) := by decide +kernel
theorem d_S_isLatin1_0 : decode c_S_isLatin1 0 = .ok (.getstatic 38, 3) := by decide +kernel
theorem d_S_isLatin1_3 : decode c_S_isLatin1 3 = .ok (.ifCond .eq 14, 3) := by decide +kernel
theorem d_S_isLatin1_6 : decode c_S_isLatin1 6 = .ok (.aload_n 0, 1) := by decide +kernel
theorem d_S_isLatin1_7 : decode c_S_isLatin1 7 = .ok (.getfield 15, 3) := by decide +kernel
theorem d_S_isLatin1_10 : decode c_S_isLatin1 10 = .ok (.ifCond .ne 7, 3) := by decide +kernel
theorem d_S_isLatin1_13 : decode c_S_isLatin1 13 = .ok (.iconst 1, 1) := by decide +kernel
theorem d_S_isLatin1_14 : decode c_S_isLatin1 14 = .ok (.goto 4, 3) := by decide +kernel
theorem d_S_isLatin1_18 : decode c_S_isLatin1 18 = .ok (.ireturn, 1) := by decide +kernel
theorem d_S_length_0 : decode c_S_length 0 = .ok (.aload_n 0, 1) := by decide +kernel
theorem d_S_length_1 : decode c_S_length 1 = .ok (.getfield 9, 3) := by decide +kernel
theorem d_S_length_4 : decode c_S_length 4 = .ok (.arraylength, 1) := by decide +kernel
theorem d_S_length_5 : decode c_S_length 5 = .ok (.aload_n 0, 1) := by decide +kernel
theorem d_S_length_6 : decode c_S_length 6 = .ok (.invokevirtual 335, 3) := by decide +kernel
theorem d_S_length_9 : decode c_S_length 9 = .ok (.ishr, 1) := by decide +kernel
theorem d_S_length_10 : decode c_S_length 10 = .ok (.ireturn, 1) := by decide +kernel
theorem d_T_collect_0 : decode c_T_collect 0 = .ok (.aload_n 0, 1) := by decide +kernel
theorem d_T_collect_1 : decode c_T_collect 1 = .ok (.getfield 15, 3) := by decide +kernel
theorem d_T_collect_4 : decode c_T_collect 4 = .ok (.aload_n 0, 1) := by decide +kernel
theorem d_T_collect_5 : decode c_T_collect 5 = .ok (.getfield 11, 3) := by decide +kernel
theorem d_T_collect_8 : decode c_T_collect 8 = .ok (.arraylength, 1) := by decide +kernel
theorem d_T_collect_9 : decode c_T_collect 9 = .ok (.if_icmp .ge 28, 3) := by decide +kernel
theorem d_T_collect_12 : decode c_T_collect 12 = .ok (.aload_n 0, 1) := by decide +kernel
theorem d_T_collect_13 : decode c_T_collect 13 = .ok (.getfield 11, 3) := by decide +kernel
theorem d_T_collect_16 : decode c_T_collect 16 = .ok (.aload_n 0, 1) := by decide +kernel
theorem d_T_collect_17 : decode c_T_collect 17 = .ok (.getfield 15, 3) := by decide +kernel
theorem d_T_collect_20 : decode c_T_collect 20 = .ok (.iload_n 1, 1) := by decide +kernel
theorem d_T_collect_21 : decode c_T_collect 21 = .ok (.sipush 255, 3) := by decide +kernel
theorem d_T_collect_24 : decode c_T_collect 24 = .ok (.iand, 1) := by decide +kernel
theorem d_T_collect_25 : decode c_T_collect 25 = .ok (.i2c, 1) := by decide +kernel
theorem d_T_collect_26 : decode c_T_collect 26 = .ok (.castore, 1) := by decide +kernel
theorem d_T_collect_27 : decode c_T_collect 27 = .ok (.aload_n 0, 1) := by decide +kernel
theorem d_T_collect_28 : decode c_T_collect 28 = .ok (.dup, 1) := by decide +kernel
theorem d_T_collect_29 : decode c_T_collect 29 = .ok (.getfield 15, 3) := by decide +kernel
theorem d_T_collect_32 : decode c_T_collect 32 = .ok (.iconst 1, 1) := by decide +kernel
theorem d_T_collect_33 : decode c_T_collect 33 = .ok (.iadd, 1) := by decide +kernel
theorem d_T_collect_34 : decode c_T_collect 34 = .ok (.putfield 15, 3) := by decide +kernel
theorem d_T_collect_37 : decode c_T_collect 37 = .ok (.return_, 1) := by decide +kernel
theorem d_T_forget_0 : decode c_T_forget 0 = .ok (.aload_n 0, 1) := by decide +kernel
theorem d_T_forget_1 : decode c_T_forget 1 = .ok (.iconst 0, 1) := by decide +kernel
theorem d_T_forget_2 : decode c_T_forget 2 = .ok (.putfield 15, 3) := by decide +kernel
theorem d_T_forget_5 : decode c_T_forget 5 = .ok (.return_, 1) := by decide +kernel
theorem d_T_init_0 : decode c_T_init 0 = .ok (.aload_n 0, 1) := by decide +kernel
theorem d_T_init_1 : decode c_T_init 1 = .ok (.invokespecial 3, 3) := by decide +kernel
theorem d_T_init_4 : decode c_T_init 4 = .ok (.aload_n 0, 1) := by decide +kernel
theorem d_T_init_5 : decode c_T_init 5 = .ok (.bipush 120, 2) := by decide +kernel
theorem d_T_init_7 : decode c_T_init 7 = .ok (.newarray .char, 2) := by decide +kernel
theorem d_T_init_9 : decode c_T_init 9 = .ok (.putfield 11, 3) := by decide +kernel
theorem d_T_init_12 : decode c_T_init 12 = .ok (.aload_n 0, 1) := by decide +kernel
theorem d_T_init_13 : decode c_T_init 13 = .ok (.iconst 0, 1) := by decide +kernel
theorem d_T_init_14 : decode c_T_init 14 = .ok (.putfield 15, 3) := by decide +kernel
theorem d_T_init_17 : decode c_T_init 17 = .ok (.aload_n 0, 1) := by decide +kernel
theorem d_T_init_18 : decode c_T_init 18 = .ok (.iconst 0, 1) := by decide +kernel
theorem d_T_init_19 : decode c_T_init 19 = .ok (.putfield 19, 3) := by decide +kernel
theorem d_T_init_22 : decode c_T_init 22 = .ok (.aload_n 0, 1) := by decide +kernel
theorem d_T_init_23 : decode c_T_init 23 = .ok (.iconst (-1), 1) := by decide +kernel
theorem d_T_init_24 : decode c_T_init 24 = .ok (.putfield 22, 3) := by decide +kernel
theorem d_T_init_27 : decode c_T_init 27 = .ok (.return_, 1) := by decide +kernel
theorem d_T_isDigit_0 : decode c_T_isDigit 0 = .ok (.iload_n 0, 1) := by decide +kernel
theorem d_T_isDigit_1 : decode c_T_isDigit 1 = .ok (.bipush 48, 2) := by decide +kernel
theorem d_T_isDigit_3 : decode c_T_isDigit 3 = .ok (.if_icmp .lt 13, 3) := by decide +kernel
theorem d_T_isDigit_6 : decode c_T_isDigit 6 = .ok (.iload_n 0, 1) := by decide +kernel
theorem d_T_isDigit_7 : decode c_T_isDigit 7 = .ok (.bipush 57, 2) := by decide +kernel
theorem d_T_isDigit_9 : decode c_T_isDigit 9 = .ok (.if_icmp .gt 7, 3) := by decide +kernel
theorem d_T_isDigit_12 : decode c_T_isDigit 12 = .ok (.iconst 1, 1) := by decide +kernel
theorem d_T_isDigit_13 : decode c_T_isDigit 13 = .ok (.goto 4, 3) := by decide +kernel
theorem d_T_isDigit_16 : decode c_T_isDigit 16 = .ok (.iconst 0, 1) := by decide +kernel
theorem d_T_isDigit_17 : decode c_T_isDigit 17 = .ok (.ireturn, 1) := by decide +kernel
theorem d_T_isLetter_0 : decode c_T_isLetter 0 = .ok (.iload_n 0, 1) := by decide +kernel
theorem d_T_isLetter_1 : decode c_T_isLetter 1 = .ok (.bipush 97, 2) := by decide +kernel
theorem d_T_isLetter_3 : decode c_T_isLetter 3 = .ok (.if_icmp .lt 9, 3) := by decide +kernel
theorem d_T_isLetter_6 : decode c_T_isLetter 6 = .ok (.iload_n 0, 1) := by decide +kernel
theorem d_T_isLetter_7 : decode c_T_isLetter 7 = .ok (.bipush 122, 2) := by decide +kernel
theorem d_T_isLetter_9 : decode c_T_isLetter 9 = .ok (.if_icmp .le 15, 3) := by decide +kernel
theorem d_T_isLetter_12 : decode c_T_isLetter 12 = .ok (.iload_n 0, 1) := by decide +kernel
theorem d_T_isLetter_13 : decode c_T_isLetter 13 = .ok (.bipush 65, 2) := by decide +kernel
theorem d_T_isLetter_15 : decode c_T_isLetter 15 = .ok (.if_icmp .lt 13, 3) := by decide +kernel
theorem d_T_isLetter_18 : decode c_T_isLetter 18 = .ok (.iload_n 0, 1) := by decide +kernel
theorem d_T_isLetter_19 : decode c_T_isLetter 19 = .ok (.bipush 90, 2) := by decide +kernel
theorem d_T_isLetter_21 : decode c_T_isLetter 21 = .ok (.if_icmp .gt 7, 3) := by decide +kernel
theorem d_T_isLetter_24 : decode c_T_isLetter 24 = .ok (.iconst 1, 1) := by decide +kernel
theorem d_T_isLetter_25 : decode c_T_isLetter 25 = .ok (.goto 4, 3) := by decide +kernel
theorem d_T_isLetter_28 : decode c_T_isLetter 28 = .ok (.iconst 0, 1) := by decide +kernel
theorem d_T_isLetter_29 : decode c_T_isLetter 29 = .ok (.ireturn, 1) := by decide +kernel
theorem d_T_markWrong_0 : decode c_T_markWrong 0 = .ok (.aload_n 0, 1) := by decide +kernel
theorem d_T_markWrong_1 : decode c_T_markWrong 1 = .ok (.getfield 22, 3) := by decide +kernel
theorem d_T_markWrong_4 : decode c_T_markWrong 4 = .ok (.iconst (-1), 1) := by decide +kernel
theorem d_T_markWrong_5 : decode c_T_markWrong 5 = .ok (.if_icmp .ne 8, 3) := by decide +kernel
theorem d_T_markWrong_8 : decode c_T_markWrong 8 = .ok (.aload_n 0, 1) := by decide +kernel
theorem d_T_markWrong_9 : decode c_T_markWrong 9 = .ok (.iload_n 1, 1) := by decide +kernel
theorem d_T_markWrong_10 : decode c_T_markWrong 10 = .ok (.putfield 22, 3) := by decide +kernel
theorem d_T_markWrong_13 : decode c_T_markWrong 13 = .ok (.return_, 1) := by decide +kernel
theorem d_T_readCondition_0 : decode c_T_readCondition 0 = .ok (.aload_n 0, 1) := by decide +kernel
theorem d_T_readCondition_1 : decode c_T_readCondition 1 = .ok (.aload_n 1, 1) := by decide +kernel
theorem d_T_readCondition_2 : decode c_T_readCondition 2 = .ok (.invokevirtual 50, 3) := by decide +kernel
theorem d_T_readCondition_5 : decode c_T_readCondition 5 = .ok (.ifCond .ne 5, 3) := by decide +kernel
theorem d_T_readCondition_8 : decode c_T_readCondition 8 = .ok (.iconst (-1), 1) := by decide +kernel
theorem d_T_readCondition_9 : decode c_T_readCondition 9 = .ok (.ireturn, 1) := by decide +kernel
theorem d_T_readCondition_10 : decode c_T_readCondition 10 = .ok (.aload_n 0, 1) := by decide +kernel
theorem d_T_readCondition_11 : decode c_T_readCondition 11 = .ok (.iload_n 2, 1) := by decide +kernel
theorem d_T_readCondition_12 : decode c_T_readCondition 12 = .ok (.iload_n 3, 1) := by decide +kernel
theorem d_T_readCondition_13 : decode c_T_readCondition 13 = .ok (.invokevirtual 54, 3) := by decide +kernel
theorem d_T_readCondition_16 : decode c_T_readCondition 16 = .ok (.istore 4, 2) := by decide +kernel
theorem d_T_readCondition_18 : decode c_T_readCondition 18 = .ok (.aload_n 0, 1) := by decide +kernel
theorem d_T_readCondition_19 : decode c_T_readCondition 19 = .ok (.invokevirtual 58, 3) := by decide +kernel
theorem d_T_readCondition_22 : decode c_T_readCondition 22 = .ok (.iload 4, 2) := by decide +kernel
theorem d_T_readCondition_24 : decode c_T_readCondition 24 = .ok (.ireturn, 1) := by decide +kernel
theorem d_T_readDeed_0 : decode c_T_readDeed 0 = .ok (.aload_n 0, 1) := by decide +kernel
theorem d_T_readDeed_1 : decode c_T_readDeed 1 = .ok (.ldc 61, 2) := by decide +kernel
theorem d_T_readDeed_3 : decode c_T_readDeed 3 = .ok (.invokevirtual 50, 3) := by decide +kernel
theorem d_T_readDeed_6 : decode c_T_readDeed 6 = .ok (.ifCond .eq 11, 3) := by decide +kernel
theorem d_T_readDeed_9 : decode c_T_readDeed 9 = .ok (.aload_n 0, 1) := by decide +kernel
theorem d_T_readDeed_10 : decode c_T_readDeed 10 = .ok (.aload_n 1, 1) := by decide +kernel
theorem d_T_readDeed_11 : decode c_T_readDeed 11 = .ok (.invokevirtual 63, 3) := by decide +kernel
theorem d_T_readDeed_14 : decode c_T_readDeed 14 = .ok (.goto 45, 3) := by decide +kernel
theorem d_T_readDeed_17 : decode c_T_readDeed 17 = .ok (.aload_n 0, 1) := by decide +kernel
theorem d_T_readDeed_18 : decode c_T_readDeed 18 = .ok (.ldc 66, 2) := by decide +kernel
theorem d_T_readDeed_20 : decode c_T_readDeed 20 = .ok (.invokevirtual 50, 3) := by decide +kernel
theorem d_T_readDeed_23 : decode c_T_readDeed 23 = .ok (.ifCond .eq 11, 3) := by decide +kernel
theorem d_T_readDeed_26 : decode c_T_readDeed 26 = .ok (.aload_n 1, 1) := by decide +kernel
theorem d_T_readDeed_27 : decode c_T_readDeed 27 = .ok (.iconst 2, 1) := by decide +kernel
theorem d_T_readDeed_28 : decode c_T_readDeed 28 = .ok (.putfield 68, 3) := by decide +kernel
theorem d_T_readDeed_31 : decode c_T_readDeed 31 = .ok (.goto 28, 3) := by decide +kernel
theorem d_T_readDeed_34 : decode c_T_readDeed 34 = .ok (.aload_n 0, 1) := by decide +kernel
theorem d_T_readDeed_35 : decode c_T_readDeed 35 = .ok (.ldc 71, 2) := by decide +kernel
theorem d_T_readDeed_37 : decode c_T_readDeed 37 = .ok (.invokevirtual 50, 3) := by decide +kernel
theorem d_T_readDeed_40 : decode c_T_readDeed 40 = .ok (.ifCond .eq 11, 3) := by decide +kernel
theorem d_T_readDeed_43 : decode c_T_readDeed 43 = .ok (.aload_n 1, 1) := by decide +kernel
theorem d_T_readDeed_44 : decode c_T_readDeed 44 = .ok (.iconst 3, 1) := by decide +kernel
theorem d_T_readDeed_45 : decode c_T_readDeed 45 = .ok (.putfield 68, 3) := by decide +kernel
theorem d_T_readDeed_48 : decode c_T_readDeed 48 = .ok (.goto 11, 3) := by decide +kernel
theorem d_T_readDeed_51 : decode c_T_readDeed 51 = .ok (.aload_n 0, 1) := by decide +kernel
theorem d_T_readDeed_52 : decode c_T_readDeed 52 = .ok (.aload_n 0, 1) := by decide +kernel
theorem d_T_readDeed_53 : decode c_T_readDeed 53 = .ok (.getfield 19, 3) := by decide +kernel
theorem d_T_readDeed_56 : decode c_T_readDeed 56 = .ok (.invokevirtual 73, 3) := by decide +kernel
theorem d_T_readDeed_59 : decode c_T_readDeed 59 = .ok (.return_, 1) := by decide +kernel
theorem d_T_readInto_0 : decode c_T_readInto 0 = .ok (.aload_n 0, 1) := by decide +kernel
theorem d_T_readInto_1 : decode c_T_readInto 1 = .ok (.iconst 0, 1) := by decide +kernel
theorem d_T_readInto_2 : decode c_T_readInto 2 = .ok (.putfield 19, 3) := by decide +kernel
theorem d_T_readInto_5 : decode c_T_readInto 5 = .ok (.aload_n 0, 1) := by decide +kernel
theorem d_T_readInto_6 : decode c_T_readInto 6 = .ok (.iconst (-1), 1) := by decide +kernel
theorem d_T_readInto_7 : decode c_T_readInto 7 = .ok (.putfield 22, 3) := by decide +kernel
theorem d_T_readInto_10 : decode c_T_readInto 10 = .ok (.aload_n 1, 1) := by decide +kernel
theorem d_T_readInto_11 : decode c_T_readInto 11 = .ok (.aload_n 0, 1) := by decide +kernel
theorem d_T_readInto_12 : decode c_T_readInto 12 = .ok (.ldc 25, 2) := by decide +kernel
theorem d_T_readInto_14 : decode c_T_readInto 14 = .ok (.iconst 1, 1) := by decide +kernel
theorem d_T_readInto_15 : decode c_T_readInto 15 = .ok (.bipush 9, 2) := by decide +kernel
theorem d_T_readInto_17 : decode c_T_readInto 17 = .ok (.invokevirtual 27, 3) := by decide +kernel
theorem d_T_readInto_20 : decode c_T_readInto 20 = .ok (.putfield 31, 3) := by decide +kernel
theorem d_T_readInto_23 : decode c_T_readInto 23 = .ok (.aload_n 1, 1) := by decide +kernel
theorem d_T_readInto_24 : decode c_T_readInto 24 = .ok (.aload_n 0, 1) := by decide +kernel
theorem d_T_readInto_25 : decode c_T_readInto 25 = .ok (.ldc 35, 2) := by decide +kernel
theorem d_T_readInto_27 : decode c_T_readInto 27 = .ok (.iconst 1, 1) := by decide +kernel
theorem d_T_readInto_28 : decode c_T_readInto 28 = .ok (.bipush 9, 2) := by decide +kernel
theorem d_T_readInto_30 : decode c_T_readInto 30 = .ok (.invokevirtual 27, 3) := by decide +kernel
theorem d_T_readInto_33 : decode c_T_readInto 33 = .ok (.putfield 37, 3) := by decide +kernel
theorem d_T_readInto_36 : decode c_T_readInto 36 = .ok (.aload_n 1, 1) := by decide +kernel
theorem d_T_readInto_37 : decode c_T_readInto 37 = .ok (.aload_n 0, 1) := by decide +kernel
theorem d_T_readInto_38 : decode c_T_readInto 38 = .ok (.ldc 39, 2) := by decide +kernel
theorem d_T_readInto_40 : decode c_T_readInto 40 = .ok (.iconst 2, 1) := by decide +kernel
theorem d_T_readInto_41 : decode c_T_readInto 41 = .ok (.bipush 49, 2) := by decide +kernel
theorem d_T_readInto_43 : decode c_T_readInto 43 = .ok (.invokevirtual 27, 3) := by decide +kernel
theorem d_T_readInto_46 : decode c_T_readInto 46 = .ok (.putfield 41, 3) := by decide +kernel
theorem d_T_readInto_49 : decode c_T_readInto 49 = .ok (.aload_n 0, 1) := by decide +kernel
theorem d_T_readInto_50 : decode c_T_readInto 50 = .ok (.aload_n 1, 1) := by decide +kernel
theorem d_T_readInto_51 : decode c_T_readInto 51 = .ok (.invokevirtual 43, 3) := by decide +kernel
theorem d_T_readInto_54 : decode c_T_readInto 54 = .ok (.aload_n 0, 1) := by decide +kernel
theorem d_T_readInto_55 : decode c_T_readInto 55 = .ok (.aload_n 1, 1) := by decide +kernel
theorem d_T_readInto_56 : decode c_T_readInto 56 = .ok (.invokevirtual 47, 3) := by decide +kernel
theorem d_T_readInto_59 : decode c_T_readInto 59 = .ok (.aload_n 0, 1) := by decide +kernel
theorem d_T_readInto_60 : decode c_T_readInto 60 = .ok (.getfield 22, 3) := by decide +kernel
theorem d_T_readInto_63 : decode c_T_readInto 63 = .ok (.ireturn, 1) := by decide +kernel
theorem d_T_readLength_0 : decode c_T_readLength 0 = .ok (.aload_n 0, 1) := by decide +kernel
theorem d_T_readLength_1 : decode c_T_readLength 1 = .ok (.ldc 77, 2) := by decide +kernel
theorem d_T_readLength_3 : decode c_T_readLength 3 = .ok (.invokevirtual 79, 3) := by decide +kernel
theorem d_T_readLength_6 : decode c_T_readLength 6 = .ok (.ifCond .eq 11, 3) := by decide +kernel
theorem d_T_readLength_9 : decode c_T_readLength 9 = .ok (.aload_n 1, 1) := by decide +kernel
theorem d_T_readLength_10 : decode c_T_readLength 10 = .ok (.iconst 1, 1) := by decide +kernel
theorem d_T_readLength_11 : decode c_T_readLength 11 = .ok (.putfield 68, 3) := by decide +kernel
theorem d_T_readLength_14 : decode c_T_readLength 14 = .ok (.goto 20, 3) := by decide +kernel
theorem d_T_readLength_17 : decode c_T_readLength 17 = .ok (.aload_n 1, 1) := by decide +kernel
theorem d_T_readLength_18 : decode c_T_readLength 18 = .ok (.iconst 0, 1) := by decide +kernel
theorem d_T_readLength_19 : decode c_T_readLength 19 = .ok (.putfield 68, 3) := by decide +kernel
theorem d_T_readLength_22 : decode c_T_readLength 22 = .ok (.aload_n 1, 1) := by decide +kernel
theorem d_T_readLength_23 : decode c_T_readLength 23 = .ok (.aload_n 0, 1) := by decide +kernel
theorem d_T_readLength_24 : decode c_T_readLength 24 = .ok (.iconst 3, 1) := by decide +kernel
theorem d_T_readLength_25 : decode c_T_readLength 25 = .ok (.sipush 999, 3) := by decide +kernel
theorem d_T_readLength_28 : decode c_T_readLength 28 = .ok (.invokevirtual 54, 3) := by decide +kernel
theorem d_T_readLength_31 : decode c_T_readLength 31 = .ok (.putfield 82, 3) := by decide +kernel
theorem d_T_readLength_34 : decode c_T_readLength 34 = .ok (.return_, 1) := by decide +kernel
theorem d_T_readOption_0 : decode c_T_readOption 0 = .ok (.aload_n 0, 1) := by decide +kernel
theorem d_T_readOption_1 : decode c_T_readOption 1 = .ok (.aload_n 1, 1) := by decide +kernel
theorem d_T_readOption_2 : decode c_T_readOption 2 = .ok (.invokevirtual 79, 3) := by decide +kernel
theorem d_T_readOption_5 : decode c_T_readOption 5 = .ok (.ifCond .eq 14, 3) := by decide +kernel
theorem d_T_readOption_8 : decode c_T_readOption 8 = .ok (.aload_n 0, 1) := by decide +kernel
theorem d_T_readOption_9 : decode c_T_readOption 9 = .ok (.iconst 3, 1) := by decide +kernel
theorem d_T_readOption_10 : decode c_T_readOption 10 = .ok (.sipush 999, 3) := by decide +kernel
theorem d_T_readOption_13 : decode c_T_readOption 13 = .ok (.invokevirtual 54, 3) := by decide +kernel
theorem d_T_readOption_16 : decode c_T_readOption 16 = .ok (.goto 4, 3) := by decide +kernel
theorem d_T_readOption_19 : decode c_T_readOption 19 = .ok (.iload_n 2, 1) := by decide +kernel
theorem d_T_readOption_20 : decode c_T_readOption 20 = .ok (.ireturn, 1) := by decide +kernel
theorem d_T_readRest_0 : decode c_T_readRest 0 = .ok (.aload_n 1, 1) := by decide +kernel
theorem d_T_readRest_1 : decode c_T_readRest 1 = .ok (.invokevirtual 85, 3) := by decide +kernel
theorem d_T_readRest_4 : decode c_T_readRest 4 = .ok (.ifCond .eq 45, 3) := by decide +kernel
theorem d_T_readRest_7 : decode c_T_readRest 7 = .ok (.aload_n 1, 1) := by decide +kernel
theorem d_T_readRest_8 : decode c_T_readRest 8 = .ok (.aload_n 0, 1) := by decide +kernel
theorem d_T_readRest_9 : decode c_T_readRest 9 = .ok (.ldc 89, 2) := by decide +kernel
theorem d_T_readRest_11 : decode c_T_readRest 11 = .ok (.aload_n 1, 1) := by decide +kernel
theorem d_T_readRest_12 : decode c_T_readRest 12 = .ok (.getfield 91, 3) := by decide +kernel
theorem d_T_readRest_15 : decode c_T_readRest 15 = .ok (.invokevirtual 94, 3) := by decide +kernel
theorem d_T_readRest_18 : decode c_T_readRest 18 = .ok (.putfield 91, 3) := by decide +kernel
theorem d_T_readRest_21 : decode c_T_readRest 21 = .ok (.aload_n 1, 1) := by decide +kernel
theorem d_T_readRest_22 : decode c_T_readRest 22 = .ok (.aload_n 0, 1) := by decide +kernel
theorem d_T_readRest_23 : decode c_T_readRest 23 = .ok (.ldc 98, 2) := by decide +kernel
theorem d_T_readRest_25 : decode c_T_readRest 25 = .ok (.aload_n 1, 1) := by decide +kernel
theorem d_T_readRest_26 : decode c_T_readRest 26 = .ok (.getfield 100, 3) := by decide +kernel
theorem d_T_readRest_29 : decode c_T_readRest 29 = .ok (.invokevirtual 94, 3) := by decide +kernel
theorem d_T_readRest_32 : decode c_T_readRest 32 = .ok (.putfield 100, 3) := by decide +kernel
theorem d_T_readRest_35 : decode c_T_readRest 35 = .ok (.aload_n 1, 1) := by decide +kernel
theorem d_T_readRest_36 : decode c_T_readRest 36 = .ok (.aload_n 0, 1) := by decide +kernel
theorem d_T_readRest_37 : decode c_T_readRest 37 = .ok (.ldc 102, 2) := by decide +kernel
theorem d_T_readRest_39 : decode c_T_readRest 39 = .ok (.aload_n 1, 1) := by decide +kernel
theorem d_T_readRest_40 : decode c_T_readRest 40 = .ok (.getfield 104, 3) := by decide +kernel
theorem d_T_readRest_43 : decode c_T_readRest 43 = .ok (.invokevirtual 94, 3) := by decide +kernel
theorem d_T_readRest_46 : decode c_T_readRest 46 = .ok (.putfield 104, 3) := by decide +kernel
theorem d_T_readRest_49 : decode c_T_readRest 49 = .ok (.aload_n 1, 1) := by decide +kernel
theorem d_T_readRest_50 : decode c_T_readRest 50 = .ok (.aload_n 0, 1) := by decide +kernel
theorem d_T_readRest_51 : decode c_T_readRest 51 = .ok (.ldc 107, 2) := by decide +kernel
theorem d_T_readRest_53 : decode c_T_readRest 53 = .ok (.aload_n 1, 1) := by decide +kernel
theorem d_T_readRest_54 : decode c_T_readRest 54 = .ok (.getfield 109, 3) := by decide +kernel
theorem d_T_readRest_57 : decode c_T_readRest 57 = .ok (.invokevirtual 94, 3) := by decide +kernel
theorem d_T_readRest_60 : decode c_T_readRest 60 = .ok (.putfield 109, 3) := by decide +kernel
theorem d_T_readRest_63 : decode c_T_readRest 63 = .ok (.aload_n 0, 1) := by decide +kernel
theorem d_T_readRest_64 : decode c_T_readRest 64 = .ok (.aload_n 0, 1) := by decide +kernel
theorem d_T_readRest_65 : decode c_T_readRest 65 = .ok (.getfield 19, 3) := by decide +kernel
theorem d_T_readRest_68 : decode c_T_readRest 68 = .ok (.invokevirtual 111, 3) := by decide +kernel
theorem d_T_readRest_71 : decode c_T_readRest 71 = .ok (.iconst (-1), 1) := by decide +kernel
theorem d_T_readRest_72 : decode c_T_readRest 72 = .ok (.if_icmp .eq 15, 3) := by decide +kernel
theorem d_T_readRest_75 : decode c_T_readRest 75 = .ok (.aload_n 0, 1) := by decide +kernel
theorem d_T_readRest_76 : decode c_T_readRest 76 = .ok (.invokevirtual 58, 3) := by decide +kernel
theorem d_T_readRest_79 : decode c_T_readRest 79 = .ok (.aload_n 0, 1) := by decide +kernel
theorem d_T_readRest_80 : decode c_T_readRest 80 = .ok (.aload_n 0, 1) := by decide +kernel
theorem d_T_readRest_81 : decode c_T_readRest 81 = .ok (.getfield 19, 3) := by decide +kernel
theorem d_T_readRest_84 : decode c_T_readRest 84 = .ok (.invokevirtual 73, 3) := by decide +kernel
theorem d_T_readRest_87 : decode c_T_readRest 87 = .ok (.return_, 1) := by decide +kernel
theorem d_T_signAt_0 : decode c_T_signAt 0 = .ok (.iload_n 1, 1) := by decide +kernel
theorem d_T_signAt_1 : decode c_T_signAt 1 = .ok (.ifCond .lt 29, 3) := by decide +kernel
theorem d_T_signAt_4 : decode c_T_signAt 4 = .ok (.iload_n 1, 1) := by decide +kernel
theorem d_T_signAt_5 : decode c_T_signAt 5 = .ok (.aload_n 0, 1) := by decide +kernel
theorem d_T_signAt_6 : decode c_T_signAt 6 = .ok (.getfield 15, 3) := by decide +kernel
theorem d_T_signAt_9 : decode c_T_signAt 9 = .ok (.if_icmp .ge 21, 3) := by decide +kernel
theorem d_T_signAt_12 : decode c_T_signAt 12 = .ok (.iload_n 1, 1) := by decide +kernel
theorem d_T_signAt_13 : decode c_T_signAt 13 = .ok (.aload_n 0, 1) := by decide +kernel
theorem d_T_signAt_14 : decode c_T_signAt 14 = .ok (.getfield 11, 3) := by decide +kernel
theorem d_T_signAt_17 : decode c_T_signAt 17 = .ok (.arraylength, 1) := by decide +kernel
theorem d_T_signAt_18 : decode c_T_signAt 18 = .ok (.if_icmp .ge 12, 3) := by decide +kernel
theorem d_T_signAt_21 : decode c_T_signAt 21 = .ok (.aload_n 0, 1) := by decide +kernel
theorem d_T_signAt_22 : decode c_T_signAt 22 = .ok (.getfield 11, 3) := by decide +kernel
theorem d_T_signAt_25 : decode c_T_signAt 25 = .ok (.iload_n 1, 1) := by decide +kernel
theorem d_T_signAt_26 : decode c_T_signAt 26 = .ok (.caload, 1) := by decide +kernel
theorem d_T_signAt_27 : decode c_T_signAt 27 = .ok (.goto 4, 3) := by decide +kernel
theorem d_T_signAt_30 : decode c_T_signAt 30 = .ok (.iconst (-1), 1) := by decide +kernel
theorem d_T_signAt_31 : decode c_T_signAt 31 = .ok (.ireturn, 1) := by decide +kernel
theorem d_T_takeNumber_0 : decode c_T_takeNumber 0 = .ok (.aload_n 0, 1) := by decide +kernel
theorem d_T_takeNumber_1 : decode c_T_takeNumber 1 = .ok (.invokevirtual 58, 3) := by decide +kernel
theorem d_T_takeNumber_4 : decode c_T_takeNumber 4 = .ok (.aload_n 0, 1) := by decide +kernel
theorem d_T_takeNumber_5 : decode c_T_takeNumber 5 = .ok (.getfield 19, 3) := by decide +kernel
theorem d_T_takeNumber_8 : decode c_T_takeNumber 8 = .ok (.istore_n 3, 1) := by decide +kernel
theorem d_T_takeNumber_9 : decode c_T_takeNumber 9 = .ok (.iconst 0, 1) := by decide +kernel
theorem d_T_takeNumber_10 : decode c_T_takeNumber 10 = .ok (.istore 4, 2) := by decide +kernel
theorem d_T_takeNumber_12 : decode c_T_takeNumber 12 = .ok (.aload_n 0, 1) := by decide +kernel
theorem d_T_takeNumber_13 : decode c_T_takeNumber 13 = .ok (.getfield 19, 3) := by decide +kernel
theorem d_T_takeNumber_16 : decode c_T_takeNumber 16 = .ok (.aload_n 0, 1) := by decide +kernel
theorem d_T_takeNumber_17 : decode c_T_takeNumber 17 = .ok (.getfield 15, 3) := by decide +kernel
theorem d_T_takeNumber_20 : decode c_T_takeNumber 20 = .ok (.if_icmp .ge 59, 3) := by decide +kernel
theorem d_T_takeNumber_23 : decode c_T_takeNumber 23 = .ok (.aload_n 0, 1) := by decide +kernel
theorem d_T_takeNumber_24 : decode c_T_takeNumber 24 = .ok (.aload_n 0, 1) := by decide +kernel
theorem d_T_takeNumber_25 : decode c_T_takeNumber 25 = .ok (.getfield 19, 3) := by decide +kernel
theorem d_T_takeNumber_28 : decode c_T_takeNumber 28 = .ok (.invokevirtual 111, 3) := by decide +kernel
theorem d_T_takeNumber_31 : decode c_T_takeNumber 31 = .ok (.invokestatic 128, 3) := by decide +kernel
theorem d_T_takeNumber_34 : decode c_T_takeNumber 34 = .ok (.ifCond .eq 45, 3) := by decide +kernel
theorem d_T_takeNumber_37 : decode c_T_takeNumber 37 = .ok (.aload_n 0, 1) := by decide +kernel
theorem d_T_takeNumber_38 : decode c_T_takeNumber 38 = .ok (.getfield 19, 3) := by decide +kernel
theorem d_T_takeNumber_41 : decode c_T_takeNumber 41 = .ok (.iload_n 3, 1) := by decide +kernel
theorem d_T_takeNumber_42 : decode c_T_takeNumber 42 = .ok (.isub, 1) := by decide +kernel
theorem d_T_takeNumber_43 : decode c_T_takeNumber 43 = .ok (.iload_n 1, 1) := by decide +kernel
theorem d_T_takeNumber_44 : decode c_T_takeNumber 44 = .ok (.if_icmp .ge 22, 3) := by decide +kernel
theorem d_T_takeNumber_47 : decode c_T_takeNumber 47 = .ok (.iload 4, 2) := by decide +kernel
theorem d_T_takeNumber_49 : decode c_T_takeNumber 49 = .ok (.bipush 10, 2) := by decide +kernel
theorem d_T_takeNumber_51 : decode c_T_takeNumber 51 = .ok (.imul, 1) := by decide +kernel
theorem d_T_takeNumber_52 : decode c_T_takeNumber 52 = .ok (.aload_n 0, 1) := by decide +kernel
theorem d_T_takeNumber_53 : decode c_T_takeNumber 53 = .ok (.aload_n 0, 1) := by decide +kernel
theorem d_T_takeNumber_54 : decode c_T_takeNumber 54 = .ok (.getfield 19, 3) := by decide +kernel
theorem d_T_takeNumber_57 : decode c_T_takeNumber 57 = .ok (.invokevirtual 111, 3) := by decide +kernel
theorem d_T_takeNumber_60 : decode c_T_takeNumber 60 = .ok (.bipush 48, 2) := by decide +kernel
theorem d_T_takeNumber_62 : decode c_T_takeNumber 62 = .ok (.isub, 1) := by decide +kernel
theorem d_T_takeNumber_63 : decode c_T_takeNumber 63 = .ok (.iadd, 1) := by decide +kernel
theorem d_T_takeNumber_64 : decode c_T_takeNumber 64 = .ok (.istore 4, 2) := by decide +kernel
theorem d_T_takeNumber_66 : decode c_T_takeNumber 66 = .ok (.aload_n 0, 1) := by decide +kernel
theorem d_T_takeNumber_67 : decode c_T_takeNumber 67 = .ok (.dup, 1) := by decide +kernel
theorem d_T_takeNumber_68 : decode c_T_takeNumber 68 = .ok (.getfield 19, 3) := by decide +kernel
theorem d_T_takeNumber_71 : decode c_T_takeNumber 71 = .ok (.iconst 1, 1) := by decide +kernel
theorem d_T_takeNumber_72 : decode c_T_takeNumber 72 = .ok (.iadd, 1) := by decide +kernel
theorem d_T_takeNumber_73 : decode c_T_takeNumber 73 = .ok (.putfield 19, 3) := by decide +kernel
theorem d_T_takeNumber_76 : decode c_T_takeNumber 76 = .ok (.goto (-64), 3) := by decide +kernel
theorem d_T_takeNumber_79 : decode c_T_takeNumber 79 = .ok (.aload_n 0, 1) := by decide +kernel
theorem d_T_takeNumber_80 : decode c_T_takeNumber 80 = .ok (.getfield 19, 3) := by decide +kernel
theorem d_T_takeNumber_83 : decode c_T_takeNumber 83 = .ok (.iload_n 3, 1) := by decide +kernel
theorem d_T_takeNumber_84 : decode c_T_takeNumber 84 = .ok (.isub, 1) := by decide +kernel
theorem d_T_takeNumber_85 : decode c_T_takeNumber 85 = .ok (.istore 5, 2) := by decide +kernel
theorem d_T_takeNumber_87 : decode c_T_takeNumber 87 = .ok (.iload 5, 2) := by decide +kernel
theorem d_T_takeNumber_89 : decode c_T_takeNumber 89 = .ok (.ifCond .eq 15, 3) := by decide +kernel
theorem d_T_takeNumber_92 : decode c_T_takeNumber 92 = .ok (.iload 5, 2) := by decide +kernel
theorem d_T_takeNumber_94 : decode c_T_takeNumber 94 = .ok (.iload_n 1, 1) := by decide +kernel
theorem d_T_takeNumber_95 : decode c_T_takeNumber 95 = .ok (.if_icmp .gt 9, 3) := by decide +kernel
theorem d_T_takeNumber_98 : decode c_T_takeNumber 98 = .ok (.iload 4, 2) := by decide +kernel
theorem d_T_takeNumber_100 : decode c_T_takeNumber 100 = .ok (.iload_n 2, 1) := by decide +kernel
theorem d_T_takeNumber_101 : decode c_T_takeNumber 101 = .ok (.if_icmp .le 8, 3) := by decide +kernel
theorem d_T_takeNumber_104 : decode c_T_takeNumber 104 = .ok (.aload_n 0, 1) := by decide +kernel
theorem d_T_takeNumber_105 : decode c_T_takeNumber 105 = .ok (.iload_n 3, 1) := by decide +kernel
theorem d_T_takeNumber_106 : decode c_T_takeNumber 106 = .ok (.invokevirtual 73, 3) := by decide +kernel
theorem d_T_takeNumber_109 : decode c_T_takeNumber 109 = .ok (.iload 4, 2) := by decide +kernel
theorem d_T_takeNumber_111 : decode c_T_takeNumber 111 = .ok (.ireturn, 1) := by decide +kernel
theorem d_T_takeSpace_0 : decode c_T_takeSpace 0 = .ok (.aload_n 0, 1) := by decide +kernel
theorem d_T_takeSpace_1 : decode c_T_takeSpace 1 = .ok (.aload_n 0, 1) := by decide +kernel
theorem d_T_takeSpace_2 : decode c_T_takeSpace 2 = .ok (.getfield 19, 3) := by decide +kernel
theorem d_T_takeSpace_5 : decode c_T_takeSpace 5 = .ok (.invokevirtual 111, 3) := by decide +kernel
theorem d_T_takeSpace_8 : decode c_T_takeSpace 8 = .ok (.bipush 32, 2) := by decide +kernel
theorem d_T_takeSpace_10 : decode c_T_takeSpace 10 = .ok (.if_icmp .ne 16, 3) := by decide +kernel
theorem d_T_takeSpace_13 : decode c_T_takeSpace 13 = .ok (.aload_n 0, 1) := by decide +kernel
theorem d_T_takeSpace_14 : decode c_T_takeSpace 14 = .ok (.dup, 1) := by decide +kernel
theorem d_T_takeSpace_15 : decode c_T_takeSpace 15 = .ok (.getfield 19, 3) := by decide +kernel
theorem d_T_takeSpace_18 : decode c_T_takeSpace 18 = .ok (.iconst 1, 1) := by decide +kernel
theorem d_T_takeSpace_19 : decode c_T_takeSpace 19 = .ok (.iadd, 1) := by decide +kernel
theorem d_T_takeSpace_20 : decode c_T_takeSpace 20 = .ok (.putfield 19, 3) := by decide +kernel
theorem d_T_takeSpace_23 : decode c_T_takeSpace 23 = .ok (.goto 11, 3) := by decide +kernel
theorem d_T_takeSpace_26 : decode c_T_takeSpace 26 = .ok (.aload_n 0, 1) := by decide +kernel
theorem d_T_takeSpace_27 : decode c_T_takeSpace 27 = .ok (.aload_n 0, 1) := by decide +kernel
theorem d_T_takeSpace_28 : decode c_T_takeSpace 28 = .ok (.getfield 19, 3) := by decide +kernel
theorem d_T_takeSpace_31 : decode c_T_takeSpace 31 = .ok (.invokevirtual 73, 3) := by decide +kernel
theorem d_T_takeSpace_34 : decode c_T_takeSpace 34 = .ok (.return_, 1) := by decide +kernel
theorem d_T_takesWord_0 : decode c_T_takesWord 0 = .ok (.iconst 0, 1) := by decide +kernel
theorem d_T_takesWord_1 : decode c_T_takesWord 1 = .ok (.istore_n 2, 1) := by decide +kernel
theorem d_T_takesWord_2 : decode c_T_takesWord 2 = .ok (.iload_n 2, 1) := by decide +kernel
theorem d_T_takesWord_3 : decode c_T_takesWord 3 = .ok (.aload_n 1, 1) := by decide +kernel
theorem d_T_takesWord_4 : decode c_T_takesWord 4 = .ok (.invokevirtual 115, 3) := by decide +kernel
theorem d_T_takesWord_7 : decode c_T_takesWord 7 = .ok (.if_icmp .ge 29, 3) := by decide +kernel
theorem d_T_takesWord_10 : decode c_T_takesWord 10 = .ok (.aload_n 0, 1) := by decide +kernel
theorem d_T_takesWord_11 : decode c_T_takesWord 11 = .ok (.aload_n 0, 1) := by decide +kernel
theorem d_T_takesWord_12 : decode c_T_takesWord 12 = .ok (.getfield 19, 3) := by decide +kernel
theorem d_T_takesWord_15 : decode c_T_takesWord 15 = .ok (.iload_n 2, 1) := by decide +kernel
theorem d_T_takesWord_16 : decode c_T_takesWord 16 = .ok (.iadd, 1) := by decide +kernel
theorem d_T_takesWord_17 : decode c_T_takesWord 17 = .ok (.invokevirtual 111, 3) := by decide +kernel
theorem d_T_takesWord_20 : decode c_T_takesWord 20 = .ok (.aload_n 1, 1) := by decide +kernel
theorem d_T_takesWord_21 : decode c_T_takesWord 21 = .ok (.iload_n 2, 1) := by decide +kernel
theorem d_T_takesWord_22 : decode c_T_takesWord 22 = .ok (.invokevirtual 120, 3) := by decide +kernel
theorem d_T_takesWord_25 : decode c_T_takesWord 25 = .ok (.if_icmp .eq 5, 3) := by decide +kernel
theorem d_T_takesWord_28 : decode c_T_takesWord 28 = .ok (.iconst 0, 1) := by decide +kernel
theorem d_T_takesWord_29 : decode c_T_takesWord 29 = .ok (.ireturn, 1) := by decide +kernel
theorem d_T_takesWord_30 : decode c_T_takesWord 30 = .ok (.iinc 2 1, 3) := by decide +kernel
theorem d_T_takesWord_33 : decode c_T_takesWord 33 = .ok (.goto (-31), 3) := by decide +kernel
theorem d_T_takesWord_36 : decode c_T_takesWord 36 = .ok (.aload_n 0, 1) := by decide +kernel
theorem d_T_takesWord_37 : decode c_T_takesWord 37 = .ok (.aload_n 0, 1) := by decide +kernel
theorem d_T_takesWord_38 : decode c_T_takesWord 38 = .ok (.getfield 19, 3) := by decide +kernel
theorem d_T_takesWord_41 : decode c_T_takesWord 41 = .ok (.aload_n 1, 1) := by decide +kernel
theorem d_T_takesWord_42 : decode c_T_takesWord 42 = .ok (.invokevirtual 115, 3) := by decide +kernel
theorem d_T_takesWord_45 : decode c_T_takesWord 45 = .ok (.iadd, 1) := by decide +kernel
theorem d_T_takesWord_46 : decode c_T_takesWord 46 = .ok (.invokevirtual 111, 3) := by decide +kernel
theorem d_T_takesWord_49 : decode c_T_takesWord 49 = .ok (.invokestatic 124, 3) := by decide +kernel
theorem d_T_takesWord_52 : decode c_T_takesWord 52 = .ok (.ifCond .eq 5, 3) := by decide +kernel
theorem d_T_takesWord_55 : decode c_T_takesWord 55 = .ok (.iconst 0, 1) := by decide +kernel
theorem d_T_takesWord_56 : decode c_T_takesWord 56 = .ok (.ireturn, 1) := by decide +kernel
theorem d_T_takesWord_57 : decode c_T_takesWord 57 = .ok (.aload_n 0, 1) := by decide +kernel
theorem d_T_takesWord_58 : decode c_T_takesWord 58 = .ok (.dup, 1) := by decide +kernel
theorem d_T_takesWord_59 : decode c_T_takesWord 59 = .ok (.getfield 19, 3) := by decide +kernel
theorem d_T_takesWord_62 : decode c_T_takesWord 62 = .ok (.aload_n 1, 1) := by decide +kernel
theorem d_T_takesWord_63 : decode c_T_takesWord 63 = .ok (.invokevirtual 115, 3) := by decide +kernel
theorem d_T_takesWord_66 : decode c_T_takesWord 66 = .ok (.iadd, 1) := by decide +kernel
theorem d_T_takesWord_67 : decode c_T_takesWord 67 = .ok (.putfield 19, 3) := by decide +kernel
theorem d_T_takesWord_70 : decode c_T_takesWord 70 = .ok (.iconst 1, 1) := by decide +kernel
theorem d_T_takesWord_71 : decode c_T_takesWord 71 = .ok (.ireturn, 1) := by decide +kernel
theorem d_T_takesWordBehindSpace_0 : decode c_T_takesWordBehindSpace 0 = .ok (.aload_n 0, 1) := by decide +kernel
theorem d_T_takesWordBehindSpace_1 : decode c_T_takesWordBehindSpace 1 = .ok (.aload_n 0, 1) := by decide +kernel
theorem d_T_takesWordBehindSpace_2 : decode c_T_takesWordBehindSpace 2 = .ok (.getfield 19, 3) := by decide +kernel
theorem d_T_takesWordBehindSpace_5 : decode c_T_takesWordBehindSpace 5 = .ok (.invokevirtual 111, 3) := by decide +kernel
theorem d_T_takesWordBehindSpace_8 : decode c_T_takesWordBehindSpace 8 = .ok (.bipush 32, 2) := by decide +kernel
theorem d_T_takesWordBehindSpace_10 : decode c_T_takesWordBehindSpace 10 = .ok (.if_icmp .eq 5, 3) := by decide +kernel
theorem d_T_takesWordBehindSpace_13 : decode c_T_takesWordBehindSpace 13 = .ok (.iconst 0, 1) := by decide +kernel
theorem d_T_takesWordBehindSpace_14 : decode c_T_takesWordBehindSpace 14 = .ok (.ireturn, 1) := by decide +kernel
theorem d_T_takesWordBehindSpace_15 : decode c_T_takesWordBehindSpace 15 = .ok (.aload_n 0, 1) := by decide +kernel
theorem d_T_takesWordBehindSpace_16 : decode c_T_takesWordBehindSpace 16 = .ok (.dup, 1) := by decide +kernel
theorem d_T_takesWordBehindSpace_17 : decode c_T_takesWordBehindSpace 17 = .ok (.getfield 19, 3) := by decide +kernel
theorem d_T_takesWordBehindSpace_20 : decode c_T_takesWordBehindSpace 20 = .ok (.iconst 1, 1) := by decide +kernel
theorem d_T_takesWordBehindSpace_21 : decode c_T_takesWordBehindSpace 21 = .ok (.iadd, 1) := by decide +kernel
theorem d_T_takesWordBehindSpace_22 : decode c_T_takesWordBehindSpace 22 = .ok (.putfield 19, 3) := by decide +kernel
theorem d_T_takesWordBehindSpace_25 : decode c_T_takesWordBehindSpace 25 = .ok (.aload_n 0, 1) := by decide +kernel
theorem d_T_takesWordBehindSpace_26 : decode c_T_takesWordBehindSpace 26 = .ok (.aload_n 1, 1) := by decide +kernel
theorem d_T_takesWordBehindSpace_27 : decode c_T_takesWordBehindSpace 27 = .ok (.invokevirtual 50, 3) := by decide +kernel
theorem d_T_takesWordBehindSpace_30 : decode c_T_takesWordBehindSpace 30 = .ok (.ifCond .eq 5, 3) := by decide +kernel
theorem d_T_takesWordBehindSpace_33 : decode c_T_takesWordBehindSpace 33 = .ok (.iconst 1, 1) := by decide +kernel
theorem d_T_takesWordBehindSpace_34 : decode c_T_takesWordBehindSpace 34 = .ok (.ireturn, 1) := by decide +kernel
theorem d_T_takesWordBehindSpace_35 : decode c_T_takesWordBehindSpace 35 = .ok (.aload_n 0, 1) := by decide +kernel
theorem d_T_takesWordBehindSpace_36 : decode c_T_takesWordBehindSpace 36 = .ok (.dup, 1) := by decide +kernel
theorem d_T_takesWordBehindSpace_37 : decode c_T_takesWordBehindSpace 37 = .ok (.getfield 19, 3) := by decide +kernel
theorem d_T_takesWordBehindSpace_40 : decode c_T_takesWordBehindSpace 40 = .ok (.iconst 1, 1) := by decide +kernel
theorem d_T_takesWordBehindSpace_41 : decode c_T_takesWordBehindSpace 41 = .ok (.isub, 1) := by decide +kernel
theorem d_T_takesWordBehindSpace_42 : decode c_T_takesWordBehindSpace 42 = .ok (.putfield 19, 3) := by decide +kernel
theorem d_T_takesWordBehindSpace_45 : decode c_T_takesWordBehindSpace 45 = .ok (.iconst 0, 1) := by decide +kernel
theorem d_T_takesWordBehindSpace_46 : decode c_T_takesWordBehindSpace 46 = .ok (.ireturn, 1) := by decide +kernel
