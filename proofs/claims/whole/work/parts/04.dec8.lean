theorem dX8_init_0 : decode cX8_init 0 = .ok (.aload_n 0, 1) := by decide +kernel
theorem dX8_init_1 : decode cX8_init 1 = .ok (.invokespecial 3, 3) := by decide +kernel
theorem dX8_init_4 : decode cX8_init 4 = .ok (.aload_n 0, 1) := by decide +kernel
theorem dX8_init_5 : decode cX8_init 5 = .ok (.sipush 900, 3) := by decide +kernel
theorem dX8_init_8 : decode cX8_init 8 = .ok (.newarray .int, 2) := by decide +kernel
theorem dX8_init_10 : decode cX8_init 10 = .ok (.putfield 9, 3) := by decide +kernel
theorem dX8_init_13 : decode cX8_init 13 = .ok (.aload_n 0, 1) := by decide +kernel
theorem dX8_init_14 : decode cX8_init 14 = .ok (.iconst (-1), 1) := by decide +kernel
theorem dX8_init_15 : decode cX8_init 15 = .ok (.putfield 13, 3) := by decide +kernel
theorem dX8_init_18 : decode cX8_init 18 = .ok (.aload_n 0, 1) := by decide +kernel
theorem dX8_init_19 : decode cX8_init 19 = .ok (.sipush 1798, 3) := by decide +kernel
theorem dX8_init_22 : decode cX8_init 22 = .ok (.newarray .int, 2) := by decide +kernel
theorem dX8_init_24 : decode cX8_init 24 = .ok (.putfield 17, 3) := by decide +kernel
theorem dX8_init_27 : decode cX8_init 27 = .ok (.aload_n 0, 1) := by decide +kernel
theorem dX8_init_28 : decode cX8_init 28 = .ok (.sipush 1798, 3) := by decide +kernel
theorem dX8_init_31 : decode cX8_init 31 = .ok (.newarray .int, 2) := by decide +kernel
theorem dX8_init_33 : decode cX8_init 33 = .ok (.putfield 20, 3) := by decide +kernel
theorem dX8_init_36 : decode cX8_init 36 = .ok (.aload_n 0, 1) := by decide +kernel
theorem dX8_init_37 : decode cX8_init 37 = .ok (.bipush 8, 2) := by decide +kernel
theorem dX8_init_39 : decode cX8_init 39 = .ok (.sipush 1798, 3) := by decide +kernel
theorem dX8_init_42 : decode cX8_init 42 = .ok (.multianewarray 23 2, 4) := by decide +kernel
theorem dX8_init_46 : decode cX8_init 46 = .ok (.putfield 25, 3) := by decide +kernel
theorem dX8_init_49 : decode cX8_init 49 = .ok (.aload_n 0, 1) := by decide +kernel
theorem dX8_init_50 : decode cX8_init 50 = .ok (.sipush 1500, 3) := by decide +kernel
theorem dX8_init_53 : decode cX8_init 53 = .ok (.newarray .long, 2) := by decide +kernel
theorem dX8_init_55 : decode cX8_init 55 = .ok (.putfield 28, 3) := by decide +kernel
theorem dX8_init_58 : decode cX8_init 58 = .ok (.return_, 1) := by decide +kernel
theorem dX8_thrown_0 : decode cX8_thrown 0 = .ok (.aload_n 0, 1) := by decide +kernel
theorem dX8_thrown_1 : decode cX8_thrown 1 = .ok (.getfield 32, 3) := by decide +kernel
theorem dX8_thrown_4 : decode cX8_thrown 4 = .ok (.ireturn, 1) := by decide +kernel
theorem dX8_fails_0 : decode cX8_fails 0 = .ok (.iload_n 1, 1) := by decide +kernel
theorem dX8_fails_1 : decode cX8_fails 1 = .ok (.ifCond .eq 15, 3) := by decide +kernel
theorem dX8_fails_4 : decode cX8_fails 4 = .ok (.aload_n 0, 1) := by decide +kernel
theorem dX8_fails_5 : decode cX8_fails 5 = .ok (.getfield 32, 3) := by decide +kernel
theorem dX8_fails_8 : decode cX8_fails 8 = .ok (.ifCond .ne 8, 3) := by decide +kernel
theorem dX8_fails_11 : decode cX8_fails 11 = .ok (.aload_n 0, 1) := by decide +kernel
theorem dX8_fails_12 : decode cX8_fails 12 = .ok (.iload_n 2, 1) := by decide +kernel
theorem dX8_fails_13 : decode cX8_fails 13 = .ok (.putfield 32, 3) := by decide +kernel
theorem dX8_fails_16 : decode cX8_fails 16 = .ok (.aload_n 0, 1) := by decide +kernel
theorem dX8_fails_17 : decode cX8_fails 17 = .ok (.getfield 32, 3) := by decide +kernel
theorem dX8_fails_20 : decode cX8_fails 20 = .ok (.ifCond .eq 7, 3) := by decide +kernel
theorem dX8_fails_23 : decode cX8_fails 23 = .ok (.iconst 1, 1) := by decide +kernel
theorem dX8_fails_24 : decode cX8_fails 24 = .ok (.goto 4, 3) := by decide +kernel
theorem dX8_fails_27 : decode cX8_fails 27 = .ok (.iconst 0, 1) := by decide +kernel
theorem dX8_fails_28 : decode cX8_fails 28 = .ok (.ireturn, 1) := by decide +kernel
theorem dX8_in_0 : decode cX8_in 0 = .ok (.iload_n 0, 1) := by decide +kernel
theorem dX8_in_1 : decode cX8_in 1 = .ok (.iload_n 1, 1) := by decide +kernel
theorem dX8_in_2 : decode cX8_in 2 = .ok (.if_icmp .lt 12, 3) := by decide +kernel
theorem dX8_in_5 : decode cX8_in 5 = .ok (.iload_n 0, 1) := by decide +kernel
theorem dX8_in_6 : decode cX8_in 6 = .ok (.iload_n 2, 1) := by decide +kernel
theorem dX8_in_7 : decode cX8_in 7 = .ok (.if_icmp .gt 7, 3) := by decide +kernel
theorem dX8_in_10 : decode cX8_in 10 = .ok (.iconst 1, 1) := by decide +kernel
theorem dX8_in_11 : decode cX8_in 11 = .ok (.goto 4, 3) := by decide +kernel
theorem dX8_in_14 : decode cX8_in 14 = .ok (.iconst 0, 1) := by decide +kernel
theorem dX8_in_15 : decode cX8_in 15 = .ok (.ireturn, 1) := by decide +kernel
theorem dX8_min_0 : decode cX8_min 0 = .ok (.iload_n 0, 1) := by decide +kernel
theorem dX8_min_1 : decode cX8_min 1 = .ok (.iload_n 1, 1) := by decide +kernel
theorem dX8_min_2 : decode cX8_min 2 = .ok (.if_icmp .ge 7, 3) := by decide +kernel
theorem dX8_min_5 : decode cX8_min 5 = .ok (.iload_n 0, 1) := by decide +kernel
theorem dX8_min_6 : decode cX8_min 6 = .ok (.goto 4, 3) := by decide +kernel
theorem dX8_min_9 : decode cX8_min 9 = .ok (.iload_n 1, 1) := by decide +kernel
theorem dX8_min_10 : decode cX8_min 10 = .ok (.ireturn, 1) := by decide +kernel
theorem dX8_copy_0 : decode cX8_copy 0 = .ok (.iconst 0, 1) := by decide +kernel
theorem dX8_copy_1 : decode cX8_copy 1 = .ok (.istore_n 2, 1) := by decide +kernel
theorem dX8_copy_2 : decode cX8_copy 2 = .ok (.iload_n 2, 1) := by decide +kernel
theorem dX8_copy_3 : decode cX8_copy 3 = .ok (.sipush 1798, 3) := by decide +kernel
theorem dX8_copy_6 : decode cX8_copy 6 = .ok (.if_icmp .ge 15, 3) := by decide +kernel
theorem dX8_copy_9 : decode cX8_copy 9 = .ok (.aload_n 1, 1) := by decide +kernel
theorem dX8_copy_10 : decode cX8_copy 10 = .ok (.iload_n 2, 1) := by decide +kernel
theorem dX8_copy_11 : decode cX8_copy 11 = .ok (.aload_n 0, 1) := by decide +kernel
theorem dX8_copy_12 : decode cX8_copy 12 = .ok (.iload_n 2, 1) := by decide +kernel
theorem dX8_copy_13 : decode cX8_copy 13 = .ok (.iaload, 1) := by decide +kernel
theorem dX8_copy_14 : decode cX8_copy 14 = .ok (.iastore, 1) := by decide +kernel
theorem dX8_copy_15 : decode cX8_copy 15 = .ok (.iinc 2 1, 3) := by decide +kernel
theorem dX8_copy_18 : decode cX8_copy 18 = .ok (.goto (-16), 3) := by decide +kernel
theorem dX8_copy_21 : decode cX8_copy 21 = .ok (.return_, 1) := by decide +kernel
theorem dX8_credit_0 : decode cX8_credit 0 = .ok (.bipush 22, 2) := by decide +kernel
theorem dX8_credit_2 : decode cX8_credit 2 = .ok (.bipush 11, 2) := by decide +kernel
theorem dX8_credit_4 : decode cX8_credit 4 = .ok (.iload_n 0, 1) := by decide +kernel
theorem dX8_credit_5 : decode cX8_credit 5 = .ok (.imul, 1) := by decide +kernel
theorem dX8_credit_6 : decode cX8_credit 6 = .ok (.iadd, 1) := by decide +kernel
theorem dX8_credit_7 : decode cX8_credit 7 = .ok (.ireturn, 1) := by decide +kernel
theorem dX8_presentation_0 : decode cX8_presentation 0 = .ok (.sipush 154, 3) := by decide +kernel
theorem dX8_presentation_3 : decode cX8_presentation 3 = .ok (.bipush 6, 2) := by decide +kernel
theorem dX8_presentation_5 : decode cX8_presentation 5 = .ok (.iload_n 0, 1) := by decide +kernel
theorem dX8_presentation_6 : decode cX8_presentation 6 = .ok (.imul, 1) := by decide +kernel
theorem dX8_presentation_7 : decode cX8_presentation 7 = .ok (.iadd, 1) := by decide +kernel
theorem dX8_presentation_8 : decode cX8_presentation 8 = .ok (.ireturn, 1) := by decide +kernel
theorem dX8_append_0 : decode cX8_append 0 = .ok (.aload_n 0, 1) := by decide +kernel
theorem dX8_append_1 : decode cX8_append 1 = .ok (.iconst 0, 1) := by decide +kernel
theorem dX8_append_2 : decode cX8_append 2 = .ok (.putfield 32, 3) := by decide +kernel
theorem dX8_append_5 : decode cX8_append 5 = .ok (.aload_n 0, 1) := by decide +kernel
theorem dX8_append_6 : decode cX8_append 6 = .ok (.getfield 35, 3) := by decide +kernel
theorem dX8_append_9 : decode cX8_append 9 = .ok (.bipush 20, 2) := by decide +kernel
theorem dX8_append_11 : decode cX8_append 11 = .ok (.iadd, 1) := by decide +kernel
theorem dX8_append_12 : decode cX8_append 12 = .ok (.sipush 900, 3) := by decide +kernel
theorem dX8_append_15 : decode cX8_append 15 = .ok (.if_icmp .le 5, 3) := by decide +kernel
theorem dX8_append_18 : decode cX8_append 18 = .ok (.iconst (-1), 1) := by decide +kernel
theorem dX8_append_19 : decode cX8_append 19 = .ok (.ireturn, 1) := by decide +kernel
theorem dX8_append_20 : decode cX8_append 20 = .ok (.iconst 0, 1) := by decide +kernel
theorem dX8_append_21 : decode cX8_append 21 = .ok (.istore 6, 2) := by decide +kernel
theorem dX8_append_23 : decode cX8_append 23 = .ok (.iload 6, 2) := by decide +kernel
theorem dX8_append_25 : decode cX8_append 25 = .ok (.bipush 20, 2) := by decide +kernel
theorem dX8_append_27 : decode cX8_append 27 = .ok (.if_icmp .ge 93, 3) := by decide +kernel
theorem dX8_append_30 : decode cX8_append 30 = .ok (.iload 6, 2) := by decide +kernel
theorem dX8_append_32 : decode cX8_append 32 = .ok (.iconst 4, 1) := by decide +kernel
theorem dX8_append_33 : decode cX8_append 33 = .ok (.if_icmp .ge 7, 3) := by decide +kernel
theorem dX8_append_36 : decode cX8_append 36 = .ok (.iload_n 1, 1) := by decide +kernel
theorem dX8_append_37 : decode cX8_append 37 = .ok (.goto 39, 3) := by decide +kernel
theorem dX8_append_40 : decode cX8_append 40 = .ok (.iload 6, 2) := by decide +kernel
theorem dX8_append_42 : decode cX8_append 42 = .ok (.bipush 8, 2) := by decide +kernel
theorem dX8_append_44 : decode cX8_append 44 = .ok (.if_icmp .ge 7, 3) := by decide +kernel
theorem dX8_append_47 : decode cX8_append 47 = .ok (.iload_n 2, 1) := by decide +kernel
theorem dX8_append_48 : decode cX8_append 48 = .ok (.goto 28, 3) := by decide +kernel
theorem dX8_append_51 : decode cX8_append 51 = .ok (.iload 6, 2) := by decide +kernel
theorem dX8_append_53 : decode cX8_append 53 = .ok (.bipush 12, 2) := by decide +kernel
theorem dX8_append_55 : decode cX8_append 55 = .ok (.if_icmp .ge 7, 3) := by decide +kernel
theorem dX8_append_58 : decode cX8_append 58 = .ok (.iload_n 3, 1) := by decide +kernel
theorem dX8_append_59 : decode cX8_append 59 = .ok (.goto 17, 3) := by decide +kernel
theorem dX8_append_62 : decode cX8_append 62 = .ok (.iload 6, 2) := by decide +kernel
theorem dX8_append_64 : decode cX8_append 64 = .ok (.bipush 16, 2) := by decide +kernel
theorem dX8_append_66 : decode cX8_append 66 = .ok (.if_icmp .ge 8, 3) := by decide +kernel
theorem dX8_append_69 : decode cX8_append 69 = .ok (.iload 4, 2) := by decide +kernel
theorem dX8_append_71 : decode cX8_append 71 = .ok (.goto 5, 3) := by decide +kernel
theorem dX8_append_74 : decode cX8_append 74 = .ok (.iload 5, 2) := by decide +kernel
theorem dX8_append_76 : decode cX8_append 76 = .ok (.istore 7, 2) := by decide +kernel
theorem dX8_append_78 : decode cX8_append 78 = .ok (.aload_n 0, 1) := by decide +kernel
theorem dX8_append_79 : decode cX8_append 79 = .ok (.getfield 9, 3) := by decide +kernel
theorem dX8_append_82 : decode cX8_append 82 = .ok (.aload_n 0, 1) := by decide +kernel
theorem dX8_append_83 : decode cX8_append 83 = .ok (.getfield 35, 3) := by decide +kernel
theorem dX8_append_86 : decode cX8_append 86 = .ok (.iload 7, 2) := by decide +kernel
theorem dX8_append_88 : decode cX8_append 88 = .ok (.bipush 24, 2) := by decide +kernel
theorem dX8_append_90 : decode cX8_append 90 = .ok (.bipush 8, 2) := by decide +kernel
theorem dX8_append_92 : decode cX8_append 92 = .ok (.iload 6, 2) := by decide +kernel
theorem dX8_append_94 : decode cX8_append 94 = .ok (.iconst 4, 1) := by decide +kernel
theorem dX8_append_95 : decode cX8_append 95 = .ok (.irem, 1) := by decide +kernel
theorem dX8_append_96 : decode cX8_append 96 = .ok (.imul, 1) := by decide +kernel
theorem dX8_append_97 : decode cX8_append 97 = .ok (.isub, 1) := by decide +kernel
theorem dX8_append_98 : decode cX8_append 98 = .ok (.ishr, 1) := by decide +kernel
theorem dX8_append_99 : decode cX8_append 99 = .ok (.sipush 255, 3) := by decide +kernel
theorem dX8_append_102 : decode cX8_append 102 = .ok (.iand, 1) := by decide +kernel
theorem dX8_append_103 : decode cX8_append 103 = .ok (.iastore, 1) := by decide +kernel
theorem dX8_append_104 : decode cX8_append 104 = .ok (.aload_n 0, 1) := by decide +kernel
theorem dX8_append_105 : decode cX8_append 105 = .ok (.dup, 1) := by decide +kernel
theorem dX8_append_106 : decode cX8_append 106 = .ok (.getfield 35, 3) := by decide +kernel
theorem dX8_append_109 : decode cX8_append 109 = .ok (.iconst 1, 1) := by decide +kernel
theorem dX8_append_110 : decode cX8_append 110 = .ok (.iadd, 1) := by decide +kernel
theorem dX8_append_111 : decode cX8_append 111 = .ok (.putfield 35, 3) := by decide +kernel
theorem dX8_append_114 : decode cX8_append 114 = .ok (.iinc 6 1, 3) := by decide +kernel
theorem dX8_append_117 : decode cX8_append 117 = .ok (.goto (-94), 3) := by decide +kernel
theorem dX8_append_120 : decode cX8_append 120 = .ok (.aload_n 0, 1) := by decide +kernel
theorem dX8_append_121 : decode cX8_append 121 = .ok (.getfield 35, 3) := by decide +kernel
theorem dX8_append_124 : decode cX8_append 124 = .ok (.ireturn, 1) := by decide +kernel
theorem dX8_byteAt_0 : decode cX8_byteAt 0 = .ok (.iload_n 1, 1) := by decide +kernel
theorem dX8_byteAt_1 : decode cX8_byteAt 1 = .ok (.aload_n 0, 1) := by decide +kernel
theorem dX8_byteAt_2 : decode cX8_byteAt 2 = .ok (.getfield 38, 3) := by decide +kernel
theorem dX8_byteAt_5 : decode cX8_byteAt 5 = .ok (.if_icmp .ge 12, 3) := by decide +kernel
theorem dX8_byteAt_8 : decode cX8_byteAt 8 = .ok (.aload_n 0, 1) := by decide +kernel
theorem dX8_byteAt_9 : decode cX8_byteAt 9 = .ok (.getfield 9, 3) := by decide +kernel
theorem dX8_byteAt_12 : decode cX8_byteAt 12 = .ok (.iload_n 1, 1) := by decide +kernel
theorem dX8_byteAt_13 : decode cX8_byteAt 13 = .ok (.iaload, 1) := by decide +kernel
theorem dX8_byteAt_14 : decode cX8_byteAt 14 = .ok (.goto 4, 3) := by decide +kernel
theorem dX8_byteAt_17 : decode cX8_byteAt 17 = .ok (.iconst (-1), 1) := by decide +kernel
theorem dX8_byteAt_18 : decode cX8_byteAt 18 = .ok (.ireturn, 1) := by decide +kernel
theorem dX8_next_0 : decode cX8_next 0 = .ok (.aload_n 0, 1) := by decide +kernel
theorem dX8_next_1 : decode cX8_next 1 = .ok (.aload_n 0, 1) := by decide +kernel
theorem dX8_next_2 : decode cX8_next 2 = .ok (.getfield 41, 3) := by decide +kernel
theorem dX8_next_5 : decode cX8_next 5 = .ok (.invokevirtual 44, 3) := by decide +kernel
theorem dX8_next_8 : decode cX8_next 8 = .ok (.bipush 32, 2) := by decide +kernel
theorem dX8_next_10 : decode cX8_next 10 = .ok (.if_icmp .ne 16, 3) := by decide +kernel
theorem dX8_next_13 : decode cX8_next 13 = .ok (.aload_n 0, 1) := by decide +kernel
theorem dX8_next_14 : decode cX8_next 14 = .ok (.dup, 1) := by decide +kernel
theorem dX8_next_15 : decode cX8_next 15 = .ok (.getfield 41, 3) := by decide +kernel
theorem dX8_next_18 : decode cX8_next 18 = .ok (.iconst 1, 1) := by decide +kernel
theorem dX8_next_19 : decode cX8_next 19 = .ok (.iadd, 1) := by decide +kernel
theorem dX8_next_20 : decode cX8_next 20 = .ok (.putfield 41, 3) := by decide +kernel
theorem dX8_next_23 : decode cX8_next 23 = .ok (.goto (-23), 3) := by decide +kernel
theorem dX8_next_26 : decode cX8_next 26 = .ok (.aload_n 0, 1) := by decide +kernel
theorem dX8_next_27 : decode cX8_next 27 = .ok (.aload_n 0, 1) := by decide +kernel
theorem dX8_next_28 : decode cX8_next 28 = .ok (.getfield 41, 3) := by decide +kernel
theorem dX8_next_31 : decode cX8_next 31 = .ok (.invokevirtual 44, 3) := by decide +kernel
theorem dX8_next_34 : decode cX8_next 34 = .ok (.ireturn, 1) := by decide +kernel
theorem dX8_isGood_0 : decode cX8_isGood 0 = .ok (.aload_n 0, 1) := by decide +kernel
theorem dX8_isGood_1 : decode cX8_isGood 1 = .ok (.getfield 48, 3) := by decide +kernel
theorem dX8_isGood_4 : decode cX8_isGood 4 = .ok (.ifCond .ne 7, 3) := by decide +kernel
theorem dX8_isGood_7 : decode cX8_isGood 7 = .ok (.iconst 1, 1) := by decide +kernel
theorem dX8_isGood_8 : decode cX8_isGood 8 = .ok (.goto 4, 3) := by decide +kernel
theorem dX8_isGood_11 : decode cX8_isGood 11 = .ok (.iconst 0, 1) := by decide +kernel
theorem dX8_isGood_12 : decode cX8_isGood 12 = .ok (.ireturn, 1) := by decide +kernel
theorem dX8_report_0 : decode cX8_report 0 = .ok (.aload_n 0, 1) := by decide +kernel
theorem dX8_report_1 : decode cX8_report 1 = .ok (.getfield 48, 3) := by decide +kernel
theorem dX8_report_4 : decode cX8_report 4 = .ok (.ifCond .eq 4, 3) := by decide +kernel
theorem dX8_report_7 : decode cX8_report 7 = .ok (.return_, 1) := by decide +kernel
theorem dX8_report_8 : decode cX8_report 8 = .ok (.aload_n 0, 1) := by decide +kernel
theorem dX8_report_9 : decode cX8_report 9 = .ok (.iload_n 1, 1) := by decide +kernel
theorem dX8_report_10 : decode cX8_report 10 = .ok (.putfield 48, 3) := by decide +kernel
theorem dX8_report_13 : decode cX8_report 13 = .ok (.aload_n 0, 1) := by decide +kernel
theorem dX8_report_14 : decode cX8_report 14 = .ok (.iload_n 2, 1) := by decide +kernel
theorem dX8_report_15 : decode cX8_report 15 = .ok (.putfield 51, 3) := by decide +kernel
theorem dX8_report_18 : decode cX8_report 18 = .ok (.return_, 1) := by decide +kernel
theorem dX8_isDigit_0 : decode cX8_isDigit 0 = .ok (.iload_n 0, 1) := by decide +kernel
theorem dX8_isDigit_1 : decode cX8_isDigit 1 = .ok (.bipush 48, 2) := by decide +kernel
theorem dX8_isDigit_3 : decode cX8_isDigit 3 = .ok (.bipush 57, 2) := by decide +kernel
theorem dX8_isDigit_5 : decode cX8_isDigit 5 = .ok (.invokestatic 54, 3) := by decide +kernel
theorem dX8_isDigit_8 : decode cX8_isDigit 8 = .ok (.ireturn, 1) := by decide +kernel
theorem dX8_takeWord_0 : decode cX8_takeWord 0 = .ok (.aload_n 0, 1) := by decide +kernel
theorem dX8_takeWord_1 : decode cX8_takeWord 1 = .ok (.invokevirtual 58, 3) := by decide +kernel
theorem dX8_takeWord_4 : decode cX8_takeWord 4 = .ok (.ifCond .ne 5, 3) := by decide +kernel
theorem dX8_takeWord_7 : decode cX8_takeWord 7 = .ok (.iconst 0, 1) := by decide +kernel
theorem dX8_takeWord_8 : decode cX8_takeWord 8 = .ok (.ireturn, 1) := by decide +kernel
theorem dX8_takeWord_9 : decode cX8_takeWord 9 = .ok (.aload_n 0, 1) := by decide +kernel
theorem dX8_takeWord_10 : decode cX8_takeWord 10 = .ok (.invokevirtual 62, 3) := by decide +kernel
theorem dX8_takeWord_13 : decode cX8_takeWord 13 = .ok (.pop, 1) := by decide +kernel
theorem dX8_takeWord_14 : decode cX8_takeWord 14 = .ok (.iconst 0, 1) := by decide +kernel
theorem dX8_takeWord_15 : decode cX8_takeWord 15 = .ok (.istore_n 2, 1) := by decide +kernel
theorem dX8_takeWord_16 : decode cX8_takeWord 16 = .ok (.iload_n 2, 1) := by decide +kernel
theorem dX8_takeWord_17 : decode cX8_takeWord 17 = .ok (.aload_n 1, 1) := by decide +kernel
theorem dX8_takeWord_18 : decode cX8_takeWord 18 = .ok (.invokevirtual 66, 3) := by decide +kernel
theorem dX8_takeWord_21 : decode cX8_takeWord 21 = .ok (.if_icmp .ge 27, 3) := by decide +kernel
theorem dX8_takeWord_24 : decode cX8_takeWord 24 = .ok (.aload_n 0, 1) := by decide +kernel
theorem dX8_takeWord_25 : decode cX8_takeWord 25 = .ok (.aload_n 0, 1) := by decide +kernel
theorem dX8_takeWord_26 : decode cX8_takeWord 26 = .ok (.getfield 41, 3) := by decide +kernel
theorem dX8_takeWord_29 : decode cX8_takeWord 29 = .ok (.iload_n 2, 1) := by decide +kernel
theorem dX8_takeWord_30 : decode cX8_takeWord 30 = .ok (.iadd, 1) := by decide +kernel
theorem dX8_takeWord_31 : decode cX8_takeWord 31 = .ok (.invokevirtual 44, 3) := by decide +kernel
theorem dX8_takeWord_34 : decode cX8_takeWord 34 = .ok (.aload_n 1, 1) := by decide +kernel
theorem dX8_takeWord_35 : decode cX8_takeWord 35 = .ok (.iload_n 2, 1) := by decide +kernel
theorem dX8_takeWord_36 : decode cX8_takeWord 36 = .ok (.invokevirtual 71, 3) := by decide +kernel
theorem dX8_takeWord_39 : decode cX8_takeWord 39 = .ok (.if_icmp .ne 9, 3) := by decide +kernel
theorem dX8_takeWord_42 : decode cX8_takeWord 42 = .ok (.iinc 2 1, 3) := by decide +kernel
theorem dX8_takeWord_45 : decode cX8_takeWord 45 = .ok (.goto (-29), 3) := by decide +kernel
theorem dX8_takeWord_48 : decode cX8_takeWord 48 = .ok (.iload_n 2, 1) := by decide +kernel
theorem dX8_takeWord_49 : decode cX8_takeWord 49 = .ok (.aload_n 1, 1) := by decide +kernel
theorem dX8_takeWord_50 : decode cX8_takeWord 50 = .ok (.invokevirtual 66, 3) := by decide +kernel
theorem dX8_takeWord_53 : decode cX8_takeWord 53 = .ok (.if_icmp .lt 23, 3) := by decide +kernel
theorem dX8_takeWord_56 : decode cX8_takeWord 56 = .ok (.aload_n 0, 1) := by decide +kernel
theorem dX8_takeWord_57 : decode cX8_takeWord 57 = .ok (.aload_n 0, 1) := by decide +kernel
theorem dX8_takeWord_58 : decode cX8_takeWord 58 = .ok (.getfield 41, 3) := by decide +kernel
theorem dX8_takeWord_61 : decode cX8_takeWord 61 = .ok (.iload_n 2, 1) := by decide +kernel
theorem dX8_takeWord_62 : decode cX8_takeWord 62 = .ok (.iadd, 1) := by decide +kernel
theorem dX8_takeWord_63 : decode cX8_takeWord 63 = .ok (.invokevirtual 44, 3) := by decide +kernel
theorem dX8_takeWord_66 : decode cX8_takeWord 66 = .ok (.bipush 97, 2) := by decide +kernel
theorem dX8_takeWord_68 : decode cX8_takeWord 68 = .ok (.bipush 122, 2) := by decide +kernel
theorem dX8_takeWord_70 : decode cX8_takeWord 70 = .ok (.invokestatic 54, 3) := by decide +kernel
theorem dX8_takeWord_73 : decode cX8_takeWord 73 = .ok (.ifCond .eq 5, 3) := by decide +kernel
theorem dX8_takeWord_76 : decode cX8_takeWord 76 = .ok (.iconst 0, 1) := by decide +kernel
theorem dX8_takeWord_77 : decode cX8_takeWord 77 = .ok (.ireturn, 1) := by decide +kernel
theorem dX8_takeWord_78 : decode cX8_takeWord 78 = .ok (.aload_n 0, 1) := by decide +kernel
theorem dX8_takeWord_79 : decode cX8_takeWord 79 = .ok (.dup, 1) := by decide +kernel
theorem dX8_takeWord_80 : decode cX8_takeWord 80 = .ok (.getfield 41, 3) := by decide +kernel
theorem dX8_takeWord_83 : decode cX8_takeWord 83 = .ok (.iload_n 2, 1) := by decide +kernel
theorem dX8_takeWord_84 : decode cX8_takeWord 84 = .ok (.iadd, 1) := by decide +kernel
theorem dX8_takeWord_85 : decode cX8_takeWord 85 = .ok (.putfield 41, 3) := by decide +kernel
theorem dX8_takeWord_88 : decode cX8_takeWord 88 = .ok (.iconst 1, 1) := by decide +kernel
theorem dX8_takeWord_89 : decode cX8_takeWord 89 = .ok (.ireturn, 1) := by decide +kernel
theorem dX8_expect_0 : decode cX8_expect 0 = .ok (.aload_n 0, 1) := by decide +kernel
theorem dX8_expect_1 : decode cX8_expect 1 = .ok (.invokevirtual 58, 3) := by decide +kernel
theorem dX8_expect_4 : decode cX8_expect 4 = .ok (.ifCond .ne 4, 3) := by decide +kernel
theorem dX8_expect_7 : decode cX8_expect 7 = .ok (.return_, 1) := by decide +kernel
theorem dX8_expect_8 : decode cX8_expect 8 = .ok (.aload_n 0, 1) := by decide +kernel
theorem dX8_expect_9 : decode cX8_expect 9 = .ok (.invokevirtual 62, 3) := by decide +kernel
theorem dX8_expect_12 : decode cX8_expect 12 = .ok (.iload_n 1, 1) := by decide +kernel
theorem dX8_expect_13 : decode cX8_expect 13 = .ok (.if_icmp .ne 16, 3) := by decide +kernel
theorem dX8_expect_16 : decode cX8_expect 16 = .ok (.aload_n 0, 1) := by decide +kernel
theorem dX8_expect_17 : decode cX8_expect 17 = .ok (.dup, 1) := by decide +kernel
theorem dX8_expect_18 : decode cX8_expect 18 = .ok (.getfield 41, 3) := by decide +kernel
theorem dX8_expect_21 : decode cX8_expect 21 = .ok (.iconst 1, 1) := by decide +kernel
theorem dX8_expect_22 : decode cX8_expect 22 = .ok (.iadd, 1) := by decide +kernel
theorem dX8_expect_23 : decode cX8_expect 23 = .ok (.putfield 41, 3) := by decide +kernel
theorem dX8_expect_26 : decode cX8_expect 26 = .ok (.goto 13, 3) := by decide +kernel
theorem dX8_expect_29 : decode cX8_expect 29 = .ok (.aload_n 0, 1) := by decide +kernel
theorem dX8_expect_30 : decode cX8_expect 30 = .ok (.bipush (-2), 2) := by decide +kernel
theorem dX8_expect_32 : decode cX8_expect 32 = .ok (.aload_n 0, 1) := by decide +kernel
theorem dX8_expect_33 : decode cX8_expect 33 = .ok (.getfield 41, 3) := by decide +kernel
theorem dX8_expect_36 : decode cX8_expect 36 = .ok (.invokevirtual 75, 3) := by decide +kernel
theorem dX8_expect_39 : decode cX8_expect 39 = .ok (.return_, 1) := by decide +kernel
theorem dX8_number_0 : decode cX8_number 0 = .ok (.aload_n 0, 1) := by decide +kernel
theorem dX8_number_1 : decode cX8_number 1 = .ok (.invokevirtual 58, 3) := by decide +kernel
theorem dX8_number_4 : decode cX8_number 4 = .ok (.ifCond .ne 5, 3) := by decide +kernel
theorem dX8_number_7 : decode cX8_number 7 = .ok (.iconst 0, 1) := by decide +kernel
theorem dX8_number_8 : decode cX8_number 8 = .ok (.ireturn, 1) := by decide +kernel
theorem dX8_number_9 : decode cX8_number 9 = .ok (.aload_n 0, 1) := by decide +kernel
theorem dX8_number_10 : decode cX8_number 10 = .ok (.invokevirtual 62, 3) := by decide +kernel
theorem dX8_number_13 : decode cX8_number 13 = .ok (.invokestatic 79, 3) := by decide +kernel
theorem dX8_number_16 : decode cX8_number 16 = .ok (.ifCond .ne 15, 3) := by decide +kernel
theorem dX8_number_19 : decode cX8_number 19 = .ok (.aload_n 0, 1) := by decide +kernel
theorem dX8_number_20 : decode cX8_number 20 = .ok (.bipush (-2), 2) := by decide +kernel
theorem dX8_number_22 : decode cX8_number 22 = .ok (.aload_n 0, 1) := by decide +kernel
theorem dX8_number_23 : decode cX8_number 23 = .ok (.getfield 41, 3) := by decide +kernel
theorem dX8_number_26 : decode cX8_number 26 = .ok (.invokevirtual 75, 3) := by decide +kernel
theorem dX8_number_29 : decode cX8_number 29 = .ok (.iconst 0, 1) := by decide +kernel
theorem dX8_number_30 : decode cX8_number 30 = .ok (.ireturn, 1) := by decide +kernel
theorem dX8_number_31 : decode cX8_number 31 = .ok (.aload_n 0, 1) := by decide +kernel
theorem dX8_number_32 : decode cX8_number 32 = .ok (.aload_n 0, 1) := by decide +kernel
theorem dX8_number_33 : decode cX8_number 33 = .ok (.getfield 41, 3) := by decide +kernel
theorem dX8_number_36 : decode cX8_number 36 = .ok (.putfield 83, 3) := by decide +kernel
theorem dX8_number_39 : decode cX8_number 39 = .ok (.iconst 0, 1) := by decide +kernel
theorem dX8_number_40 : decode cX8_number 40 = .ok (.istore_n 3, 1) := by decide +kernel
theorem dX8_number_41 : decode cX8_number 41 = .ok (.aload_n 0, 1) := by decide +kernel
theorem dX8_number_42 : decode cX8_number 42 = .ok (.aload_n 0, 1) := by decide +kernel
theorem dX8_number_43 : decode cX8_number 43 = .ok (.getfield 41, 3) := by decide +kernel
theorem dX8_number_46 : decode cX8_number 46 = .ok (.invokevirtual 44, 3) := by decide +kernel
theorem dX8_number_49 : decode cX8_number 49 = .ok (.invokestatic 79, 3) := by decide +kernel
theorem dX8_number_52 : decode cX8_number 52 = .ok (.ifCond .eq 38, 3) := by decide +kernel
theorem dX8_number_55 : decode cX8_number 55 = .ok (.ldc 86, 2) := by decide +kernel
theorem dX8_number_57 : decode cX8_number 57 = .ok (.bipush 10, 2) := by decide +kernel
theorem dX8_number_59 : decode cX8_number 59 = .ok (.iload_n 3, 1) := by decide +kernel
theorem dX8_number_60 : decode cX8_number 60 = .ok (.imul, 1) := by decide +kernel
theorem dX8_number_61 : decode cX8_number 61 = .ok (.aload_n 0, 1) := by decide +kernel
theorem dX8_number_62 : decode cX8_number 62 = .ok (.aload_n 0, 1) := by decide +kernel
theorem dX8_number_63 : decode cX8_number 63 = .ok (.getfield 41, 3) := by decide +kernel
theorem dX8_number_66 : decode cX8_number 66 = .ok (.invokevirtual 44, 3) := by decide +kernel
theorem dX8_number_69 : decode cX8_number 69 = .ok (.iadd, 1) := by decide +kernel
theorem dX8_number_70 : decode cX8_number 70 = .ok (.bipush 48, 2) := by decide +kernel
theorem dX8_number_72 : decode cX8_number 72 = .ok (.isub, 1) := by decide +kernel
theorem dX8_number_73 : decode cX8_number 73 = .ok (.invokestatic 87, 3) := by decide +kernel
theorem dX8_number_76 : decode cX8_number 76 = .ok (.istore_n 3, 1) := by decide +kernel
theorem dX8_number_77 : decode cX8_number 77 = .ok (.aload_n 0, 1) := by decide +kernel
theorem dX8_number_78 : decode cX8_number 78 = .ok (.dup, 1) := by decide +kernel
theorem dX8_number_79 : decode cX8_number 79 = .ok (.getfield 41, 3) := by decide +kernel
theorem dX8_number_82 : decode cX8_number 82 = .ok (.iconst 1, 1) := by decide +kernel
theorem dX8_number_83 : decode cX8_number 83 = .ok (.iadd, 1) := by decide +kernel
theorem dX8_number_84 : decode cX8_number 84 = .ok (.putfield 41, 3) := by decide +kernel
theorem dX8_number_87 : decode cX8_number 87 = .ok (.goto (-46), 3) := by decide +kernel
theorem dX8_number_90 : decode cX8_number 90 = .ok (.iload_n 3, 1) := by decide +kernel
theorem dX8_number_91 : decode cX8_number 91 = .ok (.iload_n 1, 1) := by decide +kernel
theorem dX8_number_92 : decode cX8_number 92 = .ok (.iload_n 2, 1) := by decide +kernel
theorem dX8_number_93 : decode cX8_number 93 = .ok (.invokestatic 54, 3) := by decide +kernel
theorem dX8_number_96 : decode cX8_number 96 = .ok (.ifCond .ne 13, 3) := by decide +kernel
theorem dX8_number_99 : decode cX8_number 99 = .ok (.aload_n 0, 1) := by decide +kernel
theorem dX8_number_100 : decode cX8_number 100 = .ok (.bipush (-3), 2) := by decide +kernel
theorem dX8_number_102 : decode cX8_number 102 = .ok (.aload_n 0, 1) := by decide +kernel
theorem dX8_number_103 : decode cX8_number 103 = .ok (.getfield 83, 3) := by decide +kernel
theorem dX8_number_106 : decode cX8_number 106 = .ok (.invokevirtual 75, 3) := by decide +kernel
theorem dX8_number_109 : decode cX8_number 109 = .ok (.iload_n 3, 1) := by decide +kernel
theorem dX8_number_110 : decode cX8_number 110 = .ok (.ireturn, 1) := by decide +kernel
theorem dX8_emit_0 : decode cX8_emit 0 = .ok (.aload_n 0, 1) := by decide +kernel
theorem dX8_emit_1 : decode cX8_emit 1 = .ok (.invokevirtual 58, 3) := by decide +kernel
theorem dX8_emit_4 : decode cX8_emit 4 = .ok (.ifCond .ne 4, 3) := by decide +kernel
theorem dX8_emit_7 : decode cX8_emit 7 = .ok (.return_, 1) := by decide +kernel
theorem dX8_emit_8 : decode cX8_emit 8 = .ok (.aload_n 0, 1) := by decide +kernel
theorem dX8_emit_9 : decode cX8_emit 9 = .ok (.getfield 20, 3) := by decide +kernel
theorem dX8_emit_12 : decode cX8_emit 12 = .ok (.sipush 298, 3) := by decide +kernel
theorem dX8_emit_15 : decode cX8_emit 15 = .ok (.aload_n 0, 1) := by decide +kernel
theorem dX8_emit_16 : decode cX8_emit 16 = .ok (.getfield 20, 3) := by decide +kernel
theorem dX8_emit_19 : decode cX8_emit 19 = .ok (.iconst 5, 1) := by decide +kernel
theorem dX8_emit_20 : decode cX8_emit 20 = .ok (.iaload, 1) := by decide +kernel
theorem dX8_emit_21 : decode cX8_emit 21 = .ok (.iadd, 1) := by decide +kernel
theorem dX8_emit_22 : decode cX8_emit 22 = .ok (.iload_n 1, 1) := by decide +kernel
theorem dX8_emit_23 : decode cX8_emit 23 = .ok (.iastore, 1) := by decide +kernel
theorem dX8_emit_24 : decode cX8_emit 24 = .ok (.aload_n 0, 1) := by decide +kernel
theorem dX8_emit_25 : decode cX8_emit 25 = .ok (.getfield 20, 3) := by decide +kernel
theorem dX8_emit_28 : decode cX8_emit 28 = .ok (.iconst 5, 1) := by decide +kernel
theorem dX8_emit_29 : decode cX8_emit 29 = .ok (.dup2, 1) := by decide +kernel
theorem dX8_emit_30 : decode cX8_emit 30 = .ok (.iaload, 1) := by decide +kernel
theorem dX8_emit_31 : decode cX8_emit 31 = .ok (.iconst 1, 1) := by decide +kernel
theorem dX8_emit_32 : decode cX8_emit 32 = .ok (.iadd, 1) := by decide +kernel
theorem dX8_emit_33 : decode cX8_emit 33 = .ok (.iastore, 1) := by decide +kernel
theorem dX8_emit_34 : decode cX8_emit 34 = .ok (.return_, 1) := by decide +kernel
theorem dX8_factor_0 : decode cX8_factor 0 = .ok (.aload_n 0, 1) := by decide +kernel
theorem dX8_factor_1 : decode cX8_factor 1 = .ok (.invokevirtual 58, 3) := by decide +kernel
theorem dX8_factor_4 : decode cX8_factor 4 = .ok (.ifCond .ne 4, 3) := by decide +kernel
theorem dX8_factor_7 : decode cX8_factor 7 = .ok (.return_, 1) := by decide +kernel
theorem dX8_factor_8 : decode cX8_factor 8 = .ok (.aload_n 0, 1) := by decide +kernel
theorem dX8_factor_9 : decode cX8_factor 9 = .ok (.invokevirtual 62, 3) := by decide +kernel
theorem dX8_factor_12 : decode cX8_factor 12 = .ok (.istore_n 1, 1) := by decide +kernel
theorem dX8_factor_13 : decode cX8_factor 13 = .ok (.iload_n 1, 1) := by decide +kernel
theorem dX8_factor_14 : decode cX8_factor 14 = .ok (.bipush 40, 2) := by decide +kernel
theorem dX8_factor_16 : decode cX8_factor 16 = .ok (.if_icmp .ne 62, 3) := by decide +kernel
theorem dX8_factor_19 : decode cX8_factor 19 = .ok (.aload_n 0, 1) := by decide +kernel
theorem dX8_factor_20 : decode cX8_factor 20 = .ok (.getfield 91, 3) := by decide +kernel
theorem dX8_factor_23 : decode cX8_factor 23 = .ok (.iconst 4, 1) := by decide +kernel
theorem dX8_factor_24 : decode cX8_factor 24 = .ok (.if_icmp .ne 13, 3) := by decide +kernel
theorem dX8_factor_27 : decode cX8_factor 27 = .ok (.aload_n 0, 1) := by decide +kernel
theorem dX8_factor_28 : decode cX8_factor 28 = .ok (.bipush (-5), 2) := by decide +kernel
theorem dX8_factor_30 : decode cX8_factor 30 = .ok (.aload_n 0, 1) := by decide +kernel
theorem dX8_factor_31 : decode cX8_factor 31 = .ok (.getfield 41, 3) := by decide +kernel
theorem dX8_factor_34 : decode cX8_factor 34 = .ok (.invokevirtual 75, 3) := by decide +kernel
theorem dX8_factor_37 : decode cX8_factor 37 = .ok (.aload_n 0, 1) := by decide +kernel
theorem dX8_factor_38 : decode cX8_factor 38 = .ok (.dup, 1) := by decide +kernel
theorem dX8_factor_39 : decode cX8_factor 39 = .ok (.getfield 41, 3) := by decide +kernel
theorem dX8_factor_42 : decode cX8_factor 42 = .ok (.iconst 1, 1) := by decide +kernel
theorem dX8_factor_43 : decode cX8_factor 43 = .ok (.iadd, 1) := by decide +kernel
theorem dX8_factor_44 : decode cX8_factor 44 = .ok (.putfield 41, 3) := by decide +kernel
theorem dX8_factor_47 : decode cX8_factor 47 = .ok (.aload_n 0, 1) := by decide +kernel
theorem dX8_factor_48 : decode cX8_factor 48 = .ok (.dup, 1) := by decide +kernel
theorem dX8_factor_49 : decode cX8_factor 49 = .ok (.getfield 91, 3) := by decide +kernel
theorem dX8_factor_52 : decode cX8_factor 52 = .ok (.iconst 1, 1) := by decide +kernel
theorem dX8_factor_53 : decode cX8_factor 53 = .ok (.iadd, 1) := by decide +kernel
theorem dX8_factor_54 : decode cX8_factor 54 = .ok (.putfield 91, 3) := by decide +kernel
theorem dX8_factor_57 : decode cX8_factor 57 = .ok (.aload_n 0, 1) := by decide +kernel
theorem dX8_factor_58 : decode cX8_factor 58 = .ok (.invokevirtual 94, 3) := by decide +kernel
theorem dX8_factor_61 : decode cX8_factor 61 = .ok (.aload_n 0, 1) := by decide +kernel
theorem dX8_factor_62 : decode cX8_factor 62 = .ok (.bipush 41, 2) := by decide +kernel
theorem dX8_factor_64 : decode cX8_factor 64 = .ok (.invokevirtual 97, 3) := by decide +kernel
theorem dX8_factor_67 : decode cX8_factor 67 = .ok (.aload_n 0, 1) := by decide +kernel
theorem dX8_factor_68 : decode cX8_factor 68 = .ok (.dup, 1) := by decide +kernel
theorem dX8_factor_69 : decode cX8_factor 69 = .ok (.getfield 91, 3) := by decide +kernel
theorem dX8_factor_72 : decode cX8_factor 72 = .ok (.iconst 1, 1) := by decide +kernel
theorem dX8_factor_73 : decode cX8_factor 73 = .ok (.isub, 1) := by decide +kernel
theorem dX8_factor_74 : decode cX8_factor 74 = .ok (.putfield 91, 3) := by decide +kernel
theorem dX8_factor_77 : decode cX8_factor 77 = .ok (.return_, 1) := by decide +kernel
theorem dX8_factor_78 : decode cX8_factor 78 = .ok (.iload_n 1, 1) := by decide +kernel
theorem dX8_factor_79 : decode cX8_factor 79 = .ok (.invokestatic 79, 3) := by decide +kernel
theorem dX8_factor_82 : decode cX8_factor 82 = .ok (.ifCond .eq 7, 3) := by decide +kernel
theorem dX8_factor_85 : decode cX8_factor 85 = .ok (.iconst (-1), 1) := by decide +kernel
theorem dX8_factor_86 : decode cX8_factor 86 = .ok (.goto 43, 3) := by decide +kernel
theorem dX8_factor_89 : decode cX8_factor 89 = .ok (.aload_n 0, 1) := by decide +kernel
theorem dX8_factor_90 : decode cX8_factor 90 = .ok (.ldc 101, 2) := by decide +kernel
theorem dX8_factor_92 : decode cX8_factor 92 = .ok (.invokevirtual 103, 3) := by decide +kernel
theorem dX8_factor_95 : decode cX8_factor 95 = .ok (.ifCond .eq 7, 3) := by decide +kernel
theorem dX8_factor_98 : decode cX8_factor 98 = .ok (.iconst 0, 1) := by decide +kernel
theorem dX8_factor_99 : decode cX8_factor 99 = .ok (.goto 30, 3) := by decide +kernel
theorem dX8_factor_102 : decode cX8_factor 102 = .ok (.aload_n 0, 1) := by decide +kernel
theorem dX8_factor_103 : decode cX8_factor 103 = .ok (.ldc 107, 2) := by decide +kernel
theorem dX8_factor_105 : decode cX8_factor 105 = .ok (.invokevirtual 103, 3) := by decide +kernel
theorem dX8_factor_108 : decode cX8_factor 108 = .ok (.ifCond .eq 7, 3) := by decide +kernel
theorem dX8_factor_111 : decode cX8_factor 111 = .ok (.iconst 1, 1) := by decide +kernel
theorem dX8_factor_112 : decode cX8_factor 112 = .ok (.goto 17, 3) := by decide +kernel
theorem dX8_factor_115 : decode cX8_factor 115 = .ok (.aload_n 0, 1) := by decide +kernel
theorem dX8_factor_116 : decode cX8_factor 116 = .ok (.ldc 109, 2) := by decide +kernel
theorem dX8_factor_118 : decode cX8_factor 118 = .ok (.invokevirtual 103, 3) := by decide +kernel
theorem dX8_factor_121 : decode cX8_factor 121 = .ok (.ifCond .eq 7, 3) := by decide +kernel
theorem dX8_factor_124 : decode cX8_factor 124 = .ok (.iconst 2, 1) := by decide +kernel
theorem dX8_factor_125 : decode cX8_factor 125 = .ok (.goto 4, 3) := by decide +kernel
theorem dX8_factor_128 : decode cX8_factor 128 = .ok (.iconst (-1), 1) := by decide +kernel
theorem dX8_factor_129 : decode cX8_factor 129 = .ok (.istore_n 2, 1) := by decide +kernel
theorem dX8_factor_130 : decode cX8_factor 130 = .ok (.iload_n 2, 1) := by decide +kernel
theorem dX8_factor_131 : decode cX8_factor 131 = .ok (.ifCond .ge 14, 3) := by decide +kernel
theorem dX8_factor_134 : decode cX8_factor 134 = .ok (.aload_n 0, 1) := by decide +kernel
theorem dX8_factor_135 : decode cX8_factor 135 = .ok (.iconst 0, 1) := by decide +kernel
theorem dX8_factor_136 : decode cX8_factor 136 = .ok (.sipush 9999, 3) := by decide +kernel
theorem dX8_factor_139 : decode cX8_factor 139 = .ok (.invokevirtual 111, 3) := by decide +kernel
theorem dX8_factor_142 : decode cX8_factor 142 = .ok (.goto 4, 3) := by decide +kernel
theorem dX8_factor_145 : decode cX8_factor 145 = .ok (.iload_n 2, 1) := by decide +kernel
theorem dX8_factor_146 : decode cX8_factor 146 = .ok (.istore_n 3, 1) := by decide +kernel
theorem dX8_factor_147 : decode cX8_factor 147 = .ok (.aload_n 0, 1) := by decide +kernel
theorem dX8_factor_148 : decode cX8_factor 148 = .ok (.iload_n 2, 1) := by decide +kernel
theorem dX8_factor_149 : decode cX8_factor 149 = .ok (.ifCond .ge 7, 3) := by decide +kernel
theorem dX8_factor_152 : decode cX8_factor 152 = .ok (.iconst 0, 1) := by decide +kernel
theorem dX8_factor_153 : decode cX8_factor 153 = .ok (.goto 4, 3) := by decide +kernel
theorem dX8_factor_156 : decode cX8_factor 156 = .ok (.iconst 1, 1) := by decide +kernel
theorem dX8_factor_157 : decode cX8_factor 157 = .ok (.invokevirtual 114, 3) := by decide +kernel
theorem dX8_factor_160 : decode cX8_factor 160 = .ok (.aload_n 0, 1) := by decide +kernel
theorem dX8_factor_161 : decode cX8_factor 161 = .ok (.iload_n 3, 1) := by decide +kernel
theorem dX8_factor_162 : decode cX8_factor 162 = .ok (.invokevirtual 114, 3) := by decide +kernel
theorem dX8_factor_165 : decode cX8_factor 165 = .ok (.return_, 1) := by decide +kernel
theorem dX8_term_0 : decode cX8_term 0 = .ok (.aload_n 0, 1) := by decide +kernel
theorem dX8_term_1 : decode cX8_term 1 = .ok (.invokevirtual 117, 3) := by decide +kernel
theorem dX8_term_4 : decode cX8_term 4 = .ok (.aload_n 0, 1) := by decide +kernel
theorem dX8_term_5 : decode cX8_term 5 = .ok (.invokevirtual 58, 3) := by decide +kernel
theorem dX8_term_8 : decode cX8_term 8 = .ok (.ifCond .eq 66, 3) := by decide +kernel
theorem dX8_term_11 : decode cX8_term 11 = .ok (.aload_n 0, 1) := by decide +kernel
theorem dX8_term_12 : decode cX8_term 12 = .ok (.invokevirtual 62, 3) := by decide +kernel
theorem dX8_term_15 : decode cX8_term 15 = .ok (.bipush 42, 2) := by decide +kernel
theorem dX8_term_17 : decode cX8_term 17 = .ok (.if_icmp .eq 12, 3) := by decide +kernel
theorem dX8_term_20 : decode cX8_term 20 = .ok (.aload_n 0, 1) := by decide +kernel
theorem dX8_term_21 : decode cX8_term 21 = .ok (.invokevirtual 62, 3) := by decide +kernel
theorem dX8_term_24 : decode cX8_term 24 = .ok (.bipush 47, 2) := by decide +kernel
theorem dX8_term_26 : decode cX8_term 26 = .ok (.if_icmp .ne 48, 3) := by decide +kernel
theorem dX8_term_29 : decode cX8_term 29 = .ok (.aload_n 0, 1) := by decide +kernel
theorem dX8_term_30 : decode cX8_term 30 = .ok (.invokevirtual 62, 3) := by decide +kernel
theorem dX8_term_33 : decode cX8_term 33 = .ok (.bipush 42, 2) := by decide +kernel
theorem dX8_term_35 : decode cX8_term 35 = .ok (.if_icmp .ne 7, 3) := by decide +kernel
theorem dX8_term_38 : decode cX8_term 38 = .ok (.iconst 1, 1) := by decide +kernel
theorem dX8_term_39 : decode cX8_term 39 = .ok (.goto 4, 3) := by decide +kernel
theorem dX8_term_42 : decode cX8_term 42 = .ok (.iconst 0, 1) := by decide +kernel
theorem dX8_term_43 : decode cX8_term 43 = .ok (.istore_n 1, 1) := by decide +kernel
theorem dX8_term_44 : decode cX8_term 44 = .ok (.aload_n 0, 1) := by decide +kernel
theorem dX8_term_45 : decode cX8_term 45 = .ok (.dup, 1) := by decide +kernel
theorem dX8_term_46 : decode cX8_term 46 = .ok (.getfield 41, 3) := by decide +kernel
theorem dX8_term_49 : decode cX8_term 49 = .ok (.iconst 1, 1) := by decide +kernel
theorem dX8_term_50 : decode cX8_term 50 = .ok (.iadd, 1) := by decide +kernel
theorem dX8_term_51 : decode cX8_term 51 = .ok (.putfield 41, 3) := by decide +kernel
theorem dX8_term_54 : decode cX8_term 54 = .ok (.aload_n 0, 1) := by decide +kernel
theorem dX8_term_55 : decode cX8_term 55 = .ok (.invokevirtual 117, 3) := by decide +kernel
theorem dX8_term_58 : decode cX8_term 58 = .ok (.aload_n 0, 1) := by decide +kernel
theorem dX8_term_59 : decode cX8_term 59 = .ok (.iload_n 1, 1) := by decide +kernel
theorem dX8_term_60 : decode cX8_term 60 = .ok (.ifCond .eq 7, 3) := by decide +kernel
theorem dX8_term_63 : decode cX8_term 63 = .ok (.iconst 4, 1) := by decide +kernel
theorem dX8_term_64 : decode cX8_term 64 = .ok (.goto 4, 3) := by decide +kernel
theorem dX8_term_67 : decode cX8_term 67 = .ok (.iconst 5, 1) := by decide +kernel
theorem dX8_term_68 : decode cX8_term 68 = .ok (.invokevirtual 114, 3) := by decide +kernel
theorem dX8_term_71 : decode cX8_term 71 = .ok (.goto (-67), 3) := by decide +kernel
theorem dX8_term_74 : decode cX8_term 74 = .ok (.return_, 1) := by decide +kernel
theorem dX8_sum_0 : decode cX8_sum 0 = .ok (.aload_n 0, 1) := by decide +kernel
theorem dX8_sum_1 : decode cX8_sum 1 = .ok (.invokevirtual 120, 3) := by decide +kernel
theorem dX8_sum_4 : decode cX8_sum 4 = .ok (.aload_n 0, 1) := by decide +kernel
theorem dX8_sum_5 : decode cX8_sum 5 = .ok (.invokevirtual 58, 3) := by decide +kernel
theorem dX8_sum_8 : decode cX8_sum 8 = .ok (.ifCond .eq 66, 3) := by decide +kernel
theorem dX8_sum_11 : decode cX8_sum 11 = .ok (.aload_n 0, 1) := by decide +kernel
theorem dX8_sum_12 : decode cX8_sum 12 = .ok (.invokevirtual 62, 3) := by decide +kernel
theorem dX8_sum_15 : decode cX8_sum 15 = .ok (.bipush 43, 2) := by decide +kernel
theorem dX8_sum_17 : decode cX8_sum 17 = .ok (.if_icmp .eq 12, 3) := by decide +kernel
theorem dX8_sum_20 : decode cX8_sum 20 = .ok (.aload_n 0, 1) := by decide +kernel
theorem dX8_sum_21 : decode cX8_sum 21 = .ok (.invokevirtual 62, 3) := by decide +kernel
theorem dX8_sum_24 : decode cX8_sum 24 = .ok (.bipush 45, 2) := by decide +kernel
theorem dX8_sum_26 : decode cX8_sum 26 = .ok (.if_icmp .ne 48, 3) := by decide +kernel
theorem dX8_sum_29 : decode cX8_sum 29 = .ok (.aload_n 0, 1) := by decide +kernel
theorem dX8_sum_30 : decode cX8_sum 30 = .ok (.invokevirtual 62, 3) := by decide +kernel
theorem dX8_sum_33 : decode cX8_sum 33 = .ok (.bipush 43, 2) := by decide +kernel
theorem dX8_sum_35 : decode cX8_sum 35 = .ok (.if_icmp .ne 7, 3) := by decide +kernel
theorem dX8_sum_38 : decode cX8_sum 38 = .ok (.iconst 1, 1) := by decide +kernel
theorem dX8_sum_39 : decode cX8_sum 39 = .ok (.goto 4, 3) := by decide +kernel
theorem dX8_sum_42 : decode cX8_sum 42 = .ok (.iconst 0, 1) := by decide +kernel
theorem dX8_sum_43 : decode cX8_sum 43 = .ok (.istore_n 1, 1) := by decide +kernel
theorem dX8_sum_44 : decode cX8_sum 44 = .ok (.aload_n 0, 1) := by decide +kernel
theorem dX8_sum_45 : decode cX8_sum 45 = .ok (.dup, 1) := by decide +kernel
theorem dX8_sum_46 : decode cX8_sum 46 = .ok (.getfield 41, 3) := by decide +kernel
theorem dX8_sum_49 : decode cX8_sum 49 = .ok (.iconst 1, 1) := by decide +kernel
theorem dX8_sum_50 : decode cX8_sum 50 = .ok (.iadd, 1) := by decide +kernel
theorem dX8_sum_51 : decode cX8_sum 51 = .ok (.putfield 41, 3) := by decide +kernel
theorem dX8_sum_54 : decode cX8_sum 54 = .ok (.aload_n 0, 1) := by decide +kernel
theorem dX8_sum_55 : decode cX8_sum 55 = .ok (.invokevirtual 120, 3) := by decide +kernel
theorem dX8_sum_58 : decode cX8_sum 58 = .ok (.aload_n 0, 1) := by decide +kernel
theorem dX8_sum_59 : decode cX8_sum 59 = .ok (.iload_n 1, 1) := by decide +kernel
theorem dX8_sum_60 : decode cX8_sum 60 = .ok (.ifCond .eq 7, 3) := by decide +kernel
theorem dX8_sum_63 : decode cX8_sum 63 = .ok (.iconst 2, 1) := by decide +kernel
theorem dX8_sum_64 : decode cX8_sum 64 = .ok (.goto 4, 3) := by decide +kernel
theorem dX8_sum_67 : decode cX8_sum 67 = .ok (.iconst 3, 1) := by decide +kernel
theorem dX8_sum_68 : decode cX8_sum 68 = .ok (.invokevirtual 114, 3) := by decide +kernel
theorem dX8_sum_71 : decode cX8_sum 71 = .ok (.goto (-67), 3) := by decide +kernel
theorem dX8_sum_74 : decode cX8_sum 74 = .ok (.return_, 1) := by decide +kernel
theorem dX8_once_0 : decode cX8_once 0 = .ok (.aload_n 0, 1) := by decide +kernel
theorem dX8_once_1 : decode cX8_once 1 = .ok (.getfield 123, 3) := by decide +kernel
theorem dX8_once_4 : decode cX8_once 4 = .ok (.iload_n 1, 1) := by decide +kernel
theorem dX8_once_5 : decode cX8_once 5 = .ok (.ishr, 1) := by decide +kernel
theorem dX8_once_6 : decode cX8_once 6 = .ok (.iconst 1, 1) := by decide +kernel
theorem dX8_once_7 : decode cX8_once 7 = .ok (.iand, 1) := by decide +kernel
theorem dX8_once_8 : decode cX8_once 8 = .ok (.iconst 1, 1) := by decide +kernel
theorem dX8_once_9 : decode cX8_once 9 = .ok (.if_icmp .ne 10, 3) := by decide +kernel
theorem dX8_once_12 : decode cX8_once 12 = .ok (.aload_n 0, 1) := by decide +kernel
theorem dX8_once_13 : decode cX8_once 13 = .ok (.bipush (-2), 2) := by decide +kernel
theorem dX8_once_15 : decode cX8_once 15 = .ok (.iload_n 2, 1) := by decide +kernel
theorem dX8_once_16 : decode cX8_once 16 = .ok (.invokevirtual 75, 3) := by decide +kernel
theorem dX8_once_19 : decode cX8_once 19 = .ok (.aload_n 0, 1) := by decide +kernel
theorem dX8_once_20 : decode cX8_once 20 = .ok (.dup, 1) := by decide +kernel
theorem dX8_once_21 : decode cX8_once 21 = .ok (.getfield 123, 3) := by decide +kernel
theorem dX8_once_24 : decode cX8_once 24 = .ok (.iconst 1, 1) := by decide +kernel
theorem dX8_once_25 : decode cX8_once 25 = .ok (.iload_n 1, 1) := by decide +kernel
theorem dX8_once_26 : decode cX8_once 26 = .ok (.ishl, 1) := by decide +kernel
theorem dX8_once_27 : decode cX8_once 27 = .ok (.ior, 1) := by decide +kernel
theorem dX8_once_28 : decode cX8_once 28 = .ok (.putfield 123, 3) := by decide +kernel
theorem dX8_once_31 : decode cX8_once 31 = .ok (.return_, 1) := by decide +kernel
theorem dX8_readHoliday_0 : decode cX8_readHoliday 0 = .ok (.aload_n 0, 1) := by decide +kernel
theorem dX8_readHoliday_1 : decode cX8_readHoliday 1 = .ok (.iconst 0, 1) := by decide +kernel
theorem dX8_readHoliday_2 : decode cX8_readHoliday 2 = .ok (.sipush 999, 3) := by decide +kernel
theorem dX8_readHoliday_5 : decode cX8_readHoliday 5 = .ok (.invokevirtual 111, 3) := by decide +kernel
theorem dX8_readHoliday_8 : decode cX8_readHoliday 8 = .ok (.istore_n 1, 1) := by decide +kernel
theorem dX8_readHoliday_9 : decode cX8_readHoliday 9 = .ok (.iconst 0, 1) := by decide +kernel
theorem dX8_readHoliday_10 : decode cX8_readHoliday 10 = .ok (.istore_n 2, 1) := by decide +kernel
theorem dX8_readHoliday_11 : decode cX8_readHoliday 11 = .ok (.iload_n 2, 1) := by decide +kernel
theorem dX8_readHoliday_12 : decode cX8_readHoliday 12 = .ok (.aload_n 0, 1) := by decide +kernel
theorem dX8_readHoliday_13 : decode cX8_readHoliday 13 = .ok (.getfield 20, 3) := by decide +kernel
theorem dX8_readHoliday_16 : decode cX8_readHoliday 16 = .ok (.iconst 2, 1) := by decide +kernel
theorem dX8_readHoliday_17 : decode cX8_readHoliday 17 = .ok (.iaload, 1) := by decide +kernel
theorem dX8_readHoliday_18 : decode cX8_readHoliday 18 = .ok (.if_icmp .ge 39, 3) := by decide +kernel
theorem dX8_readHoliday_21 : decode cX8_readHoliday 21 = .ok (.aload_n 0, 1) := by decide +kernel
theorem dX8_readHoliday_22 : decode cX8_readHoliday 22 = .ok (.invokevirtual 58, 3) := by decide +kernel
theorem dX8_readHoliday_25 : decode cX8_readHoliday 25 = .ok (.ifCond .eq 26, 3) := by decide +kernel
theorem dX8_readHoliday_28 : decode cX8_readHoliday 28 = .ok (.aload_n 0, 1) := by decide +kernel
theorem dX8_readHoliday_29 : decode cX8_readHoliday 29 = .ok (.getfield 20, 3) := by decide +kernel
theorem dX8_readHoliday_32 : decode cX8_readHoliday 32 = .ok (.bipush 6, 2) := by decide +kernel
theorem dX8_readHoliday_34 : decode cX8_readHoliday 34 = .ok (.iload_n 2, 1) := by decide +kernel
theorem dX8_readHoliday_35 : decode cX8_readHoliday 35 = .ok (.iadd, 1) := by decide +kernel
theorem dX8_readHoliday_36 : decode cX8_readHoliday 36 = .ok (.iaload, 1) := by decide +kernel
theorem dX8_readHoliday_37 : decode cX8_readHoliday 37 = .ok (.iload_n 1, 1) := by decide +kernel
theorem dX8_readHoliday_38 : decode cX8_readHoliday 38 = .ok (.if_icmp .ne 13, 3) := by decide +kernel
theorem dX8_readHoliday_41 : decode cX8_readHoliday 41 = .ok (.aload_n 0, 1) := by decide +kernel
theorem dX8_readHoliday_42 : decode cX8_readHoliday 42 = .ok (.bipush (-3), 2) := by decide +kernel
theorem dX8_readHoliday_44 : decode cX8_readHoliday 44 = .ok (.aload_n 0, 1) := by decide +kernel
theorem dX8_readHoliday_45 : decode cX8_readHoliday 45 = .ok (.getfield 83, 3) := by decide +kernel
theorem dX8_readHoliday_48 : decode cX8_readHoliday 48 = .ok (.invokevirtual 75, 3) := by decide +kernel
theorem dX8_readHoliday_51 : decode cX8_readHoliday 51 = .ok (.iinc 2 1, 3) := by decide +kernel
theorem dX8_readHoliday_54 : decode cX8_readHoliday 54 = .ok (.goto (-43), 3) := by decide +kernel
theorem dX8_readHoliday_57 : decode cX8_readHoliday 57 = .ok (.aload_n 0, 1) := by decide +kernel
theorem dX8_readHoliday_58 : decode cX8_readHoliday 58 = .ok (.getfield 20, 3) := by decide +kernel
theorem dX8_readHoliday_61 : decode cX8_readHoliday 61 = .ok (.iconst 2, 1) := by decide +kernel
theorem dX8_readHoliday_62 : decode cX8_readHoliday 62 = .ok (.iaload, 1) := by decide +kernel
theorem dX8_readHoliday_63 : decode cX8_readHoliday 63 = .ok (.bipush 16, 2) := by decide +kernel
theorem dX8_readHoliday_65 : decode cX8_readHoliday 65 = .ok (.if_icmp .ne 13, 3) := by decide +kernel
theorem dX8_readHoliday_68 : decode cX8_readHoliday 68 = .ok (.aload_n 0, 1) := by decide +kernel
theorem dX8_readHoliday_69 : decode cX8_readHoliday 69 = .ok (.bipush (-4), 2) := by decide +kernel
theorem dX8_readHoliday_71 : decode cX8_readHoliday 71 = .ok (.aload_n 0, 1) := by decide +kernel
theorem dX8_readHoliday_72 : decode cX8_readHoliday 72 = .ok (.getfield 83, 3) := by decide +kernel
theorem dX8_readHoliday_75 : decode cX8_readHoliday 75 = .ok (.invokevirtual 75, 3) := by decide +kernel
theorem dX8_readHoliday_78 : decode cX8_readHoliday 78 = .ok (.aload_n 0, 1) := by decide +kernel
theorem dX8_readHoliday_79 : decode cX8_readHoliday 79 = .ok (.invokevirtual 58, 3) := by decide +kernel
theorem dX8_readHoliday_82 : decode cX8_readHoliday 82 = .ok (.ifCond .ne 4, 3) := by decide +kernel
theorem dX8_readHoliday_85 : decode cX8_readHoliday 85 = .ok (.return_, 1) := by decide +kernel
theorem dX8_readHoliday_86 : decode cX8_readHoliday 86 = .ok (.aload_n 0, 1) := by decide +kernel
theorem dX8_readHoliday_87 : decode cX8_readHoliday 87 = .ok (.getfield 20, 3) := by decide +kernel
theorem dX8_readHoliday_90 : decode cX8_readHoliday 90 = .ok (.bipush 6, 2) := by decide +kernel
theorem dX8_readHoliday_92 : decode cX8_readHoliday 92 = .ok (.aload_n 0, 1) := by decide +kernel
theorem dX8_readHoliday_93 : decode cX8_readHoliday 93 = .ok (.getfield 20, 3) := by decide +kernel
theorem dX8_readHoliday_96 : decode cX8_readHoliday 96 = .ok (.iconst 2, 1) := by decide +kernel
theorem dX8_readHoliday_97 : decode cX8_readHoliday 97 = .ok (.iaload, 1) := by decide +kernel
theorem dX8_readHoliday_98 : decode cX8_readHoliday 98 = .ok (.iadd, 1) := by decide +kernel
theorem dX8_readHoliday_99 : decode cX8_readHoliday 99 = .ok (.iload_n 1, 1) := by decide +kernel
theorem dX8_readHoliday_100 : decode cX8_readHoliday 100 = .ok (.iastore, 1) := by decide +kernel
theorem dX8_readHoliday_101 : decode cX8_readHoliday 101 = .ok (.aload_n 0, 1) := by decide +kernel
theorem dX8_readHoliday_102 : decode cX8_readHoliday 102 = .ok (.getfield 20, 3) := by decide +kernel
theorem dX8_readHoliday_105 : decode cX8_readHoliday 105 = .ok (.iconst 2, 1) := by decide +kernel
theorem dX8_readHoliday_106 : decode cX8_readHoliday 106 = .ok (.dup2, 1) := by decide +kernel
theorem dX8_readHoliday_107 : decode cX8_readHoliday 107 = .ok (.iaload, 1) := by decide +kernel
theorem dX8_readHoliday_108 : decode cX8_readHoliday 108 = .ok (.iconst 1, 1) := by decide +kernel
theorem dX8_readHoliday_109 : decode cX8_readHoliday 109 = .ok (.iadd, 1) := by decide +kernel
theorem dX8_readHoliday_110 : decode cX8_readHoliday 110 = .ok (.iastore, 1) := by decide +kernel
theorem dX8_readHoliday_111 : decode cX8_readHoliday 111 = .ok (.aload_n 0, 1) := by decide +kernel
theorem dX8_readHoliday_112 : decode cX8_readHoliday 112 = .ok (.invokevirtual 62, 3) := by decide +kernel
theorem dX8_readHoliday_115 : decode cX8_readHoliday 115 = .ok (.invokestatic 79, 3) := by decide +kernel
theorem dX8_readHoliday_118 : decode cX8_readHoliday 118 = .ok (.ifCond .ne (-118), 3) := by decide +kernel
theorem dX8_readHoliday_121 : decode cX8_readHoliday 121 = .ok (.return_, 1) := by decide +kernel
theorem dX8_readNeeds_0 : decode cX8_readNeeds 0 = .ok (.aload_n 0, 1) := by decide +kernel
theorem dX8_readNeeds_1 : decode cX8_readNeeds 1 = .ok (.iconst 0, 1) := by decide +kernel
theorem dX8_readNeeds_2 : decode cX8_readNeeds 2 = .ok (.bipush 7, 2) := by decide +kernel
theorem dX8_readNeeds_4 : decode cX8_readNeeds 4 = .ok (.invokevirtual 111, 3) := by decide +kernel
theorem dX8_readNeeds_7 : decode cX8_readNeeds 7 = .ok (.istore_n 2, 1) := by decide +kernel
theorem dX8_readNeeds_8 : decode cX8_readNeeds 8 = .ok (.aload_n 0, 1) := by decide +kernel
theorem dX8_readNeeds_9 : decode cX8_readNeeds 9 = .ok (.invokevirtual 58, 3) := by decide +kernel
theorem dX8_readNeeds_12 : decode cX8_readNeeds 12 = .ok (.ifCond .eq 27, 3) := by decide +kernel
theorem dX8_readNeeds_15 : decode cX8_readNeeds 15 = .ok (.aload_n 0, 1) := by decide +kernel
theorem dX8_readNeeds_16 : decode cX8_readNeeds 16 = .ok (.getfield 20, 3) := by decide +kernel
theorem dX8_readNeeds_19 : decode cX8_readNeeds 19 = .ok (.iload_n 1, 1) := by decide +kernel
theorem dX8_readNeeds_20 : decode cX8_readNeeds 20 = .ok (.iaload, 1) := by decide +kernel
theorem dX8_readNeeds_21 : decode cX8_readNeeds 21 = .ok (.iload_n 2, 1) := by decide +kernel
theorem dX8_readNeeds_22 : decode cX8_readNeeds 22 = .ok (.ishr, 1) := by decide +kernel
theorem dX8_readNeeds_23 : decode cX8_readNeeds 23 = .ok (.iconst 1, 1) := by decide +kernel
theorem dX8_readNeeds_24 : decode cX8_readNeeds 24 = .ok (.iand, 1) := by decide +kernel
theorem dX8_readNeeds_25 : decode cX8_readNeeds 25 = .ok (.iconst 1, 1) := by decide +kernel
theorem dX8_readNeeds_26 : decode cX8_readNeeds 26 = .ok (.if_icmp .ne 13, 3) := by decide +kernel
theorem dX8_readNeeds_29 : decode cX8_readNeeds 29 = .ok (.aload_n 0, 1) := by decide +kernel
theorem dX8_readNeeds_30 : decode cX8_readNeeds 30 = .ok (.bipush (-3), 2) := by decide +kernel
theorem dX8_readNeeds_32 : decode cX8_readNeeds 32 = .ok (.aload_n 0, 1) := by decide +kernel
theorem dX8_readNeeds_33 : decode cX8_readNeeds 33 = .ok (.getfield 83, 3) := by decide +kernel
theorem dX8_readNeeds_36 : decode cX8_readNeeds 36 = .ok (.invokevirtual 75, 3) := by decide +kernel
theorem dX8_readNeeds_39 : decode cX8_readNeeds 39 = .ok (.aload_n 0, 1) := by decide +kernel
theorem dX8_readNeeds_40 : decode cX8_readNeeds 40 = .ok (.invokevirtual 58, 3) := by decide +kernel
theorem dX8_readNeeds_43 : decode cX8_readNeeds 43 = .ok (.ifCond .ne 4, 3) := by decide +kernel
theorem dX8_readNeeds_46 : decode cX8_readNeeds 46 = .ok (.return_, 1) := by decide +kernel
theorem dX8_readNeeds_47 : decode cX8_readNeeds 47 = .ok (.aload_n 0, 1) := by decide +kernel
theorem dX8_readNeeds_48 : decode cX8_readNeeds 48 = .ok (.getfield 20, 3) := by decide +kernel
theorem dX8_readNeeds_51 : decode cX8_readNeeds 51 = .ok (.iload_n 1, 1) := by decide +kernel
theorem dX8_readNeeds_52 : decode cX8_readNeeds 52 = .ok (.dup2, 1) := by decide +kernel
theorem dX8_readNeeds_53 : decode cX8_readNeeds 53 = .ok (.iaload, 1) := by decide +kernel
theorem dX8_readNeeds_54 : decode cX8_readNeeds 54 = .ok (.iconst 1, 1) := by decide +kernel
theorem dX8_readNeeds_55 : decode cX8_readNeeds 55 = .ok (.iload_n 2, 1) := by decide +kernel
theorem dX8_readNeeds_56 : decode cX8_readNeeds 56 = .ok (.ishl, 1) := by decide +kernel
theorem dX8_readNeeds_57 : decode cX8_readNeeds 57 = .ok (.ior, 1) := by decide +kernel
theorem dX8_readNeeds_58 : decode cX8_readNeeds 58 = .ok (.iastore, 1) := by decide +kernel
theorem dX8_readNeeds_59 : decode cX8_readNeeds 59 = .ok (.aload_n 0, 1) := by decide +kernel
theorem dX8_readNeeds_60 : decode cX8_readNeeds 60 = .ok (.invokevirtual 62, 3) := by decide +kernel
theorem dX8_readNeeds_63 : decode cX8_readNeeds 63 = .ok (.invokestatic 79, 3) := by decide +kernel
theorem dX8_readNeeds_66 : decode cX8_readNeeds 66 = .ok (.ifCond .ne (-66), 3) := by decide +kernel
theorem dX8_readNeeds_69 : decode cX8_readNeeds 69 = .ok (.return_, 1) := by decide +kernel
theorem dX8_readCredit_0 : decode cX8_readCredit 0 = .ok (.aload_n 0, 1) := by decide +kernel
theorem dX8_readCredit_1 : decode cX8_readCredit 1 = .ok (.getfield 20, 3) := by decide +kernel
theorem dX8_readCredit_4 : decode cX8_readCredit 4 = .ok (.iconst 0, 1) := by decide +kernel
theorem dX8_readCredit_5 : decode cX8_readCredit 5 = .ok (.iaload, 1) := by decide +kernel
theorem dX8_readCredit_6 : decode cX8_readCredit 6 = .ok (.bipush 12, 2) := by decide +kernel
theorem dX8_readCredit_8 : decode cX8_readCredit 8 = .ok (.if_icmp .ne 10, 3) := by decide +kernel
theorem dX8_readCredit_11 : decode cX8_readCredit 11 = .ok (.aload_n 0, 1) := by decide +kernel
theorem dX8_readCredit_12 : decode cX8_readCredit 12 = .ok (.bipush (-4), 2) := by decide +kernel
theorem dX8_readCredit_14 : decode cX8_readCredit 14 = .ok (.iload_n 1, 1) := by decide +kernel
theorem dX8_readCredit_15 : decode cX8_readCredit 15 = .ok (.invokevirtual 75, 3) := by decide +kernel
theorem dX8_readCredit_18 : decode cX8_readCredit 18 = .ok (.aload_n 0, 1) := by decide +kernel
theorem dX8_readCredit_19 : decode cX8_readCredit 19 = .ok (.invokevirtual 58, 3) := by decide +kernel
theorem dX8_readCredit_22 : decode cX8_readCredit 22 = .ok (.ifCond .ne 4, 3) := by decide +kernel
theorem dX8_readCredit_25 : decode cX8_readCredit 25 = .ok (.return_, 1) := by decide +kernel
theorem dX8_readCredit_26 : decode cX8_readCredit 26 = .ok (.aload_n 0, 1) := by decide +kernel
theorem dX8_readCredit_27 : decode cX8_readCredit 27 = .ok (.getfield 20, 3) := by decide +kernel
theorem dX8_readCredit_30 : decode cX8_readCredit 30 = .ok (.iconst 0, 1) := by decide +kernel
theorem dX8_readCredit_31 : decode cX8_readCredit 31 = .ok (.iaload, 1) := by decide +kernel
theorem dX8_readCredit_32 : decode cX8_readCredit 32 = .ok (.invokestatic 126, 3) := by decide +kernel
theorem dX8_readCredit_35 : decode cX8_readCredit 35 = .ok (.istore_n 2, 1) := by decide +kernel
theorem dX8_readCredit_36 : decode cX8_readCredit 36 = .ok (.aload_n 0, 1) := by decide +kernel
theorem dX8_readCredit_37 : decode cX8_readCredit 37 = .ok (.getfield 20, 3) := by decide +kernel
theorem dX8_readCredit_40 : decode cX8_readCredit 40 = .ok (.iload_n 2, 1) := by decide +kernel
theorem dX8_readCredit_41 : decode cX8_readCredit 41 = .ok (.aload_n 0, 1) := by decide +kernel
theorem dX8_readCredit_42 : decode cX8_readCredit 42 = .ok (.iconst 1, 1) := by decide +kernel
theorem dX8_readCredit_43 : decode cX8_readCredit 43 = .ok (.ldc 129, 2) := by decide +kernel
theorem dX8_readCredit_45 : decode cX8_readCredit 45 = .ok (.invokevirtual 111, 3) := by decide +kernel
theorem dX8_readCredit_48 : decode cX8_readCredit 48 = .ok (.iastore, 1) := by decide +kernel
theorem dX8_readCredit_49 : decode cX8_readCredit 49 = .ok (.aload_n 0, 1) := by decide +kernel
theorem dX8_readCredit_50 : decode cX8_readCredit 50 = .ok (.getfield 20, 3) := by decide +kernel
theorem dX8_readCredit_53 : decode cX8_readCredit 53 = .ok (.iload_n 2, 1) := by decide +kernel
theorem dX8_readCredit_54 : decode cX8_readCredit 54 = .ok (.iconst 1, 1) := by decide +kernel
theorem dX8_readCredit_55 : decode cX8_readCredit 55 = .ok (.iadd, 1) := by decide +kernel
theorem dX8_readCredit_56 : decode cX8_readCredit 56 = .ok (.aload_n 0, 1) := by decide +kernel
theorem dX8_readCredit_57 : decode cX8_readCredit 57 = .ok (.iconst 0, 1) := by decide +kernel
theorem dX8_readCredit_58 : decode cX8_readCredit 58 = .ok (.bipush 10, 2) := by decide +kernel
theorem dX8_readCredit_60 : decode cX8_readCredit 60 = .ok (.invokevirtual 111, 3) := by decide +kernel
theorem dX8_readCredit_63 : decode cX8_readCredit 63 = .ok (.iastore, 1) := by decide +kernel
theorem dX8_readCredit_64 : decode cX8_readCredit 64 = .ok (.aload_n 0, 1) := by decide +kernel
theorem dX8_readCredit_65 : decode cX8_readCredit 65 = .ok (.getfield 20, 3) := by decide +kernel
theorem dX8_readCredit_68 : decode cX8_readCredit 68 = .ok (.iload_n 2, 1) := by decide +kernel
theorem dX8_readCredit_69 : decode cX8_readCredit 69 = .ok (.iconst 2, 1) := by decide +kernel
theorem dX8_readCredit_70 : decode cX8_readCredit 70 = .ok (.iadd, 1) := by decide +kernel
theorem dX8_readCredit_71 : decode cX8_readCredit 71 = .ok (.aload_n 0, 1) := by decide +kernel
theorem dX8_readCredit_72 : decode cX8_readCredit 72 = .ok (.iconst 0, 1) := by decide +kernel
theorem dX8_readCredit_73 : decode cX8_readCredit 73 = .ok (.bipush 10, 2) := by decide +kernel
theorem dX8_readCredit_75 : decode cX8_readCredit 75 = .ok (.invokevirtual 111, 3) := by decide +kernel
theorem dX8_readCredit_78 : decode cX8_readCredit 78 = .ok (.iastore, 1) := by decide +kernel
theorem dX8_readCredit_79 : decode cX8_readCredit 79 = .ok (.aload_n 0, 1) := by decide +kernel
theorem dX8_readCredit_80 : decode cX8_readCredit 80 = .ok (.getfield 20, 3) := by decide +kernel
theorem dX8_readCredit_83 : decode cX8_readCredit 83 = .ok (.iload_n 2, 1) := by decide +kernel
theorem dX8_readCredit_84 : decode cX8_readCredit 84 = .ok (.iconst 3, 1) := by decide +kernel
theorem dX8_readCredit_85 : decode cX8_readCredit 85 = .ok (.iadd, 1) := by decide +kernel
theorem dX8_readCredit_86 : decode cX8_readCredit 86 = .ok (.aload_n 0, 1) := by decide +kernel
theorem dX8_readCredit_87 : decode cX8_readCredit 87 = .ok (.iconst 0, 1) := by decide +kernel
theorem dX8_readCredit_88 : decode cX8_readCredit 88 = .ok (.sipush 999, 3) := by decide +kernel
theorem dX8_readCredit_91 : decode cX8_readCredit 91 = .ok (.invokevirtual 111, 3) := by decide +kernel
theorem dX8_readCredit_94 : decode cX8_readCredit 94 = .ok (.iastore, 1) := by decide +kernel
theorem dX8_readCredit_95 : decode cX8_readCredit 95 = .ok (.aload_n 0, 1) := by decide +kernel
theorem dX8_readCredit_96 : decode cX8_readCredit 96 = .ok (.getfield 20, 3) := by decide +kernel
theorem dX8_readCredit_99 : decode cX8_readCredit 99 = .ok (.iload_n 2, 1) := by decide +kernel
theorem dX8_readCredit_100 : decode cX8_readCredit 100 = .ok (.iconst 4, 1) := by decide +kernel
theorem dX8_readCredit_101 : decode cX8_readCredit 101 = .ok (.iadd, 1) := by decide +kernel
theorem dX8_readCredit_102 : decode cX8_readCredit 102 = .ok (.aload_n 0, 1) := by decide +kernel
theorem dX8_readCredit_103 : decode cX8_readCredit 103 = .ok (.iconst 0, 1) := by decide +kernel
theorem dX8_readCredit_104 : decode cX8_readCredit 104 = .ok (.sipush 999, 3) := by decide +kernel
theorem dX8_readCredit_107 : decode cX8_readCredit 107 = .ok (.invokevirtual 111, 3) := by decide +kernel
theorem dX8_readCredit_110 : decode cX8_readCredit 110 = .ok (.iastore, 1) := by decide +kernel
theorem dX8_readCredit_111 : decode cX8_readCredit 111 = .ok (.aload_n 0, 1) := by decide +kernel
theorem dX8_readCredit_112 : decode cX8_readCredit 112 = .ok (.getfield 20, 3) := by decide +kernel
theorem dX8_readCredit_115 : decode cX8_readCredit 115 = .ok (.iload_n 2, 1) := by decide +kernel
theorem dX8_readCredit_116 : decode cX8_readCredit 116 = .ok (.iconst 5, 1) := by decide +kernel
theorem dX8_readCredit_117 : decode cX8_readCredit 117 = .ok (.iadd, 1) := by decide +kernel
theorem dX8_readCredit_118 : decode cX8_readCredit 118 = .ok (.aload_n 0, 1) := by decide +kernel
theorem dX8_readCredit_119 : decode cX8_readCredit 119 = .ok (.iconst 1, 1) := by decide +kernel
theorem dX8_readCredit_120 : decode cX8_readCredit 120 = .ok (.bipush 60, 2) := by decide +kernel
theorem dX8_readCredit_122 : decode cX8_readCredit 122 = .ok (.invokevirtual 111, 3) := by decide +kernel
theorem dX8_readCredit_125 : decode cX8_readCredit 125 = .ok (.iastore, 1) := by decide +kernel
theorem dX8_readCredit_126 : decode cX8_readCredit 126 = .ok (.aload_n 0, 1) := by decide +kernel
theorem dX8_readCredit_127 : decode cX8_readCredit 127 = .ok (.getfield 20, 3) := by decide +kernel
theorem dX8_readCredit_130 : decode cX8_readCredit 130 = .ok (.iload_n 2, 1) := by decide +kernel
theorem dX8_readCredit_131 : decode cX8_readCredit 131 = .ok (.bipush 6, 2) := by decide +kernel
theorem dX8_readCredit_133 : decode cX8_readCredit 133 = .ok (.iadd, 1) := by decide +kernel
theorem dX8_readCredit_134 : decode cX8_readCredit 134 = .ok (.aload_n 0, 1) := by decide +kernel
theorem dX8_readCredit_135 : decode cX8_readCredit 135 = .ok (.iconst 0, 1) := by decide +kernel
theorem dX8_readCredit_136 : decode cX8_readCredit 136 = .ok (.sipush 180, 3) := by decide +kernel
theorem dX8_readCredit_139 : decode cX8_readCredit 139 = .ok (.invokevirtual 111, 3) := by decide +kernel
theorem dX8_readCredit_142 : decode cX8_readCredit 142 = .ok (.iastore, 1) := by decide +kernel
theorem dX8_readCredit_143 : decode cX8_readCredit 143 = .ok (.aload_n 0, 1) := by decide +kernel
theorem dX8_readCredit_144 : decode cX8_readCredit 144 = .ok (.getfield 20, 3) := by decide +kernel
theorem dX8_readCredit_147 : decode cX8_readCredit 147 = .ok (.iload_n 2, 1) := by decide +kernel
theorem dX8_readCredit_148 : decode cX8_readCredit 148 = .ok (.bipush 7, 2) := by decide +kernel
theorem dX8_readCredit_150 : decode cX8_readCredit 150 = .ok (.iadd, 1) := by decide +kernel
theorem dX8_readCredit_151 : decode cX8_readCredit 151 = .ok (.aload_n 0, 1) := by decide +kernel
theorem dX8_readCredit_152 : decode cX8_readCredit 152 = .ok (.ldc 130, 2) := by decide +kernel
theorem dX8_readCredit_154 : decode cX8_readCredit 154 = .ok (.invokevirtual 103, 3) := by decide +kernel
theorem dX8_readCredit_157 : decode cX8_readCredit 157 = .ok (.ifCond .eq 7, 3) := by decide +kernel
theorem dX8_readCredit_160 : decode cX8_readCredit 160 = .ok (.iconst 1, 1) := by decide +kernel
theorem dX8_readCredit_161 : decode cX8_readCredit 161 = .ok (.goto 4, 3) := by decide +kernel
theorem dX8_readCredit_164 : decode cX8_readCredit 164 = .ok (.iconst 0, 1) := by decide +kernel
theorem dX8_readCredit_165 : decode cX8_readCredit 165 = .ok (.iastore, 1) := by decide +kernel
theorem dX8_readCredit_166 : decode cX8_readCredit 166 = .ok (.aload_n 0, 1) := by decide +kernel
theorem dX8_readCredit_167 : decode cX8_readCredit 167 = .ok (.getfield 20, 3) := by decide +kernel
theorem dX8_readCredit_170 : decode cX8_readCredit 170 = .ok (.iload_n 2, 1) := by decide +kernel
theorem dX8_readCredit_171 : decode cX8_readCredit 171 = .ok (.bipush 8, 2) := by decide +kernel
theorem dX8_readCredit_173 : decode cX8_readCredit 173 = .ok (.iadd, 1) := by decide +kernel
theorem dX8_readCredit_174 : decode cX8_readCredit 174 = .ok (.aload_n 0, 1) := by decide +kernel
theorem dX8_readCredit_175 : decode cX8_readCredit 175 = .ok (.ldc 132, 2) := by decide +kernel
theorem dX8_readCredit_177 : decode cX8_readCredit 177 = .ok (.invokevirtual 103, 3) := by decide +kernel
theorem dX8_readCredit_180 : decode cX8_readCredit 180 = .ok (.ifCond .eq 7, 3) := by decide +kernel
theorem dX8_readCredit_183 : decode cX8_readCredit 183 = .ok (.iconst 1, 1) := by decide +kernel
theorem dX8_readCredit_184 : decode cX8_readCredit 184 = .ok (.goto 4, 3) := by decide +kernel
theorem dX8_readCredit_187 : decode cX8_readCredit 187 = .ok (.iconst 0, 1) := by decide +kernel
theorem dX8_readCredit_188 : decode cX8_readCredit 188 = .ok (.iastore, 1) := by decide +kernel
theorem dX8_readCredit_189 : decode cX8_readCredit 189 = .ok (.aload_n 0, 1) := by decide +kernel
theorem dX8_readCredit_190 : decode cX8_readCredit 190 = .ok (.getfield 20, 3) := by decide +kernel
theorem dX8_readCredit_193 : decode cX8_readCredit 193 = .ok (.iload_n 2, 1) := by decide +kernel
theorem dX8_readCredit_194 : decode cX8_readCredit 194 = .ok (.bipush 9, 2) := by decide +kernel
theorem dX8_readCredit_196 : decode cX8_readCredit 196 = .ok (.iadd, 1) := by decide +kernel
theorem dX8_readCredit_197 : decode cX8_readCredit 197 = .ok (.iconst 0, 1) := by decide +kernel
theorem dX8_readCredit_198 : decode cX8_readCredit 198 = .ok (.iastore, 1) := by decide +kernel
theorem dX8_readCredit_199 : decode cX8_readCredit 199 = .ok (.aload_n 0, 1) := by decide +kernel
theorem dX8_readCredit_200 : decode cX8_readCredit 200 = .ok (.getfield 20, 3) := by decide +kernel
theorem dX8_readCredit_203 : decode cX8_readCredit 203 = .ok (.iload_n 2, 1) := by decide +kernel
theorem dX8_readCredit_204 : decode cX8_readCredit 204 = .ok (.bipush 10, 2) := by decide +kernel
theorem dX8_readCredit_206 : decode cX8_readCredit 206 = .ok (.iadd, 1) := by decide +kernel
theorem dX8_readCredit_207 : decode cX8_readCredit 207 = .ok (.iconst (-1), 1) := by decide +kernel
theorem dX8_readCredit_208 : decode cX8_readCredit 208 = .ok (.iastore, 1) := by decide +kernel
theorem dX8_readCredit_209 : decode cX8_readCredit 209 = .ok (.aload_n 0, 1) := by decide +kernel
theorem dX8_readCredit_210 : decode cX8_readCredit 210 = .ok (.ldc 134, 2) := by decide +kernel
theorem dX8_readCredit_212 : decode cX8_readCredit 212 = .ok (.invokevirtual 103, 3) := by decide +kernel
theorem dX8_readCredit_215 : decode cX8_readCredit 215 = .ok (.ifCond .eq 11, 3) := by decide +kernel
theorem dX8_readCredit_218 : decode cX8_readCredit 218 = .ok (.aload_n 0, 1) := by decide +kernel
theorem dX8_readCredit_219 : decode cX8_readCredit 219 = .ok (.iload_n 2, 1) := by decide +kernel
theorem dX8_readCredit_220 : decode cX8_readCredit 220 = .ok (.bipush 9, 2) := by decide +kernel
theorem dX8_readCredit_222 : decode cX8_readCredit 222 = .ok (.iadd, 1) := by decide +kernel
theorem dX8_readCredit_223 : decode cX8_readCredit 223 = .ok (.invokevirtual 136, 3) := by decide +kernel
theorem dX8_readCredit_226 : decode cX8_readCredit 226 = .ok (.aload_n 0, 1) := by decide +kernel
theorem dX8_readCredit_227 : decode cX8_readCredit 227 = .ok (.getfield 20, 3) := by decide +kernel
theorem dX8_readCredit_230 : decode cX8_readCredit 230 = .ok (.iconst 0, 1) := by decide +kernel
theorem dX8_readCredit_231 : decode cX8_readCredit 231 = .ok (.dup2, 1) := by decide +kernel
theorem dX8_readCredit_232 : decode cX8_readCredit 232 = .ok (.iaload, 1) := by decide +kernel
theorem dX8_readCredit_233 : decode cX8_readCredit 233 = .ok (.iconst 1, 1) := by decide +kernel
theorem dX8_readCredit_234 : decode cX8_readCredit 234 = .ok (.iadd, 1) := by decide +kernel
theorem dX8_readCredit_235 : decode cX8_readCredit 235 = .ok (.iastore, 1) := by decide +kernel
theorem dX8_readCredit_236 : decode cX8_readCredit 236 = .ok (.return_, 1) := by decide +kernel
theorem dX8_statement_0 : decode cX8_statement 0 = .ok (.aload_n 0, 1) := by decide +kernel
theorem dX8_statement_1 : decode cX8_statement 1 = .ok (.invokevirtual 62, 3) := by decide +kernel
theorem dX8_statement_4 : decode cX8_statement 4 = .ok (.pop, 1) := by decide +kernel
theorem dX8_statement_5 : decode cX8_statement 5 = .ok (.aload_n 0, 1) := by decide +kernel
theorem dX8_statement_6 : decode cX8_statement 6 = .ok (.getfield 41, 3) := by decide +kernel
theorem dX8_statement_9 : decode cX8_statement 9 = .ok (.istore_n 1, 1) := by decide +kernel
theorem dX8_statement_10 : decode cX8_statement 10 = .ok (.aload_n 0, 1) := by decide +kernel
theorem dX8_statement_11 : decode cX8_statement 11 = .ok (.ldc 139, 2) := by decide +kernel
theorem dX8_statement_13 : decode cX8_statement 13 = .ok (.invokevirtual 103, 3) := by decide +kernel
theorem dX8_statement_16 : decode cX8_statement 16 = .ok (.ifCond .eq 10, 3) := by decide +kernel
theorem dX8_statement_19 : decode cX8_statement 19 = .ok (.aload_n 0, 1) := by decide +kernel
theorem dX8_statement_20 : decode cX8_statement 20 = .ok (.invokevirtual 141, 3) := by decide +kernel
theorem dX8_statement_23 : decode cX8_statement 23 = .ok (.goto 56, 3) := by decide +kernel
theorem dX8_statement_26 : decode cX8_statement 26 = .ok (.aload_n 0, 1) := by decide +kernel
theorem dX8_statement_27 : decode cX8_statement 27 = .ok (.ldc 144, 2) := by decide +kernel
theorem dX8_statement_29 : decode cX8_statement 29 = .ok (.invokevirtual 103, 3) := by decide +kernel
theorem dX8_statement_32 : decode cX8_statement 32 = .ok (.ifCond .eq 11, 3) := by decide +kernel
theorem dX8_statement_35 : decode cX8_statement 35 = .ok (.aload_n 0, 1) := by decide +kernel
theorem dX8_statement_36 : decode cX8_statement 36 = .ok (.iload_n 1, 1) := by decide +kernel
theorem dX8_statement_37 : decode cX8_statement 37 = .ok (.invokevirtual 145, 3) := by decide +kernel
theorem dX8_statement_40 : decode cX8_statement 40 = .ok (.goto 39, 3) := by decide +kernel
theorem dX8_statement_43 : decode cX8_statement 43 = .ok (.aload_n 0, 1) := by decide +kernel
theorem dX8_statement_44 : decode cX8_statement 44 = .ok (.ldc 148, 2) := by decide +kernel
theorem dX8_statement_46 : decode cX8_statement 46 = .ok (.invokevirtual 103, 3) := by decide +kernel
theorem dX8_statement_49 : decode cX8_statement 49 = .ok (.ifCond .eq 23, 3) := by decide +kernel
theorem dX8_statement_52 : decode cX8_statement 52 = .ok (.aload_n 0, 1) := by decide +kernel
theorem dX8_statement_53 : decode cX8_statement 53 = .ok (.iconst 0, 1) := by decide +kernel
theorem dX8_statement_54 : decode cX8_statement 54 = .ok (.iload_n 1, 1) := by decide +kernel
theorem dX8_statement_55 : decode cX8_statement 55 = .ok (.invokevirtual 150, 3) := by decide +kernel
theorem dX8_statement_58 : decode cX8_statement 58 = .ok (.aload_n 0, 1) := by decide +kernel
theorem dX8_statement_59 : decode cX8_statement 59 = .ok (.getfield 20, 3) := by decide +kernel
theorem dX8_statement_62 : decode cX8_statement 62 = .ok (.iconst 4, 1) := by decide +kernel
theorem dX8_statement_63 : decode cX8_statement 63 = .ok (.iconst 1, 1) := by decide +kernel
theorem dX8_statement_64 : decode cX8_statement 64 = .ok (.iastore, 1) := by decide +kernel
theorem dX8_statement_65 : decode cX8_statement 65 = .ok (.aload_n 0, 1) := by decide +kernel
theorem dX8_statement_66 : decode cX8_statement 66 = .ok (.invokevirtual 94, 3) := by decide +kernel
theorem dX8_statement_69 : decode cX8_statement 69 = .ok (.goto 10, 3) := by decide +kernel
theorem dX8_statement_72 : decode cX8_statement 72 = .ok (.aload_n 0, 1) := by decide +kernel
theorem dX8_statement_73 : decode cX8_statement 73 = .ok (.bipush (-2), 2) := by decide +kernel
theorem dX8_statement_75 : decode cX8_statement 75 = .ok (.iload_n 1, 1) := by decide +kernel
theorem dX8_statement_76 : decode cX8_statement 76 = .ok (.invokevirtual 75, 3) := by decide +kernel
theorem dX8_statement_79 : decode cX8_statement 79 = .ok (.aload_n 0, 1) := by decide +kernel
theorem dX8_statement_80 : decode cX8_statement 80 = .ok (.bipush 59, 2) := by decide +kernel
theorem dX8_statement_82 : decode cX8_statement 82 = .ok (.invokevirtual 97, 3) := by decide +kernel
theorem dX8_statement_85 : decode cX8_statement 85 = .ok (.return_, 1) := by decide +kernel
theorem dX8_load_0 : decode cX8_load 0 = .ok (.aload_n 0, 1) := by decide +kernel
theorem dX8_load_1 : decode cX8_load 1 = .ok (.iconst 0, 1) := by decide +kernel
theorem dX8_load_2 : decode cX8_load 2 = .ok (.putfield 32, 3) := by decide +kernel
theorem dX8_load_5 : decode cX8_load 5 = .ok (.aload_n 0, 1) := by decide +kernel
theorem dX8_load_6 : decode cX8_load 6 = .ok (.iload_n 1, 1) := by decide +kernel
theorem dX8_load_7 : decode cX8_load 7 = .ok (.iconst 0, 1) := by decide +kernel
theorem dX8_load_8 : decode cX8_load 8 = .ok (.aload_n 0, 1) := by decide +kernel
theorem dX8_load_9 : decode cX8_load 9 = .ok (.getfield 35, 3) := by decide +kernel
theorem dX8_load_12 : decode cX8_load 12 = .ok (.invokestatic 54, 3) := by decide +kernel
theorem dX8_load_15 : decode cX8_load 15 = .ok (.ifCond .ne 7, 3) := by decide +kernel
theorem dX8_load_18 : decode cX8_load 18 = .ok (.iconst 1, 1) := by decide +kernel
theorem dX8_load_19 : decode cX8_load 19 = .ok (.goto 4, 3) := by decide +kernel
theorem dX8_load_22 : decode cX8_load 22 = .ok (.iconst 0, 1) := by decide +kernel
theorem dX8_load_23 : decode cX8_load 23 = .ok (.iconst 1, 1) := by decide +kernel
theorem dX8_load_24 : decode cX8_load 24 = .ok (.invokevirtual 153, 3) := by decide +kernel
theorem dX8_load_27 : decode cX8_load 27 = .ok (.ifCond .eq 5, 3) := by decide +kernel
theorem dX8_load_30 : decode cX8_load 30 = .ok (.iconst 0, 1) := by decide +kernel
theorem dX8_load_31 : decode cX8_load 31 = .ok (.ireturn, 1) := by decide +kernel
theorem dX8_load_32 : decode cX8_load 32 = .ok (.aload_n 0, 1) := by decide +kernel
theorem dX8_load_33 : decode cX8_load 33 = .ok (.iconst 0, 1) := by decide +kernel
theorem dX8_load_34 : decode cX8_load 34 = .ok (.putfield 35, 3) := by decide +kernel
theorem dX8_load_37 : decode cX8_load 37 = .ok (.aload_n 0, 1) := by decide +kernel
theorem dX8_load_38 : decode cX8_load 38 = .ok (.iload_n 1, 1) := by decide +kernel
theorem dX8_load_39 : decode cX8_load 39 = .ok (.putfield 38, 3) := by decide +kernel
theorem dX8_load_42 : decode cX8_load 42 = .ok (.aload_n 0, 1) := by decide +kernel
theorem dX8_load_43 : decode cX8_load 43 = .ok (.iconst 0, 1) := by decide +kernel
theorem dX8_load_44 : decode cX8_load 44 = .ok (.putfield 41, 3) := by decide +kernel
theorem dX8_load_47 : decode cX8_load 47 = .ok (.aload_n 0, 1) := by decide +kernel
theorem dX8_load_48 : decode cX8_load 48 = .ok (.iconst 0, 1) := by decide +kernel
theorem dX8_load_49 : decode cX8_load 49 = .ok (.putfield 48, 3) := by decide +kernel
theorem dX8_load_52 : decode cX8_load 52 = .ok (.aload_n 0, 1) := by decide +kernel
theorem dX8_load_53 : decode cX8_load 53 = .ok (.iconst (-1), 1) := by decide +kernel
theorem dX8_load_54 : decode cX8_load 54 = .ok (.putfield 51, 3) := by decide +kernel
theorem dX8_load_57 : decode cX8_load 57 = .ok (.aload_n 0, 1) := by decide +kernel
theorem dX8_load_58 : decode cX8_load 58 = .ok (.iconst 0, 1) := by decide +kernel
theorem dX8_load_59 : decode cX8_load 59 = .ok (.putfield 91, 3) := by decide +kernel
theorem dX8_load_62 : decode cX8_load 62 = .ok (.aload_n 0, 1) := by decide +kernel
theorem dX8_load_63 : decode cX8_load 63 = .ok (.iconst 0, 1) := by decide +kernel
theorem dX8_load_64 : decode cX8_load 64 = .ok (.putfield 123, 3) := by decide +kernel
theorem dX8_load_67 : decode cX8_load 67 = .ok (.iconst 0, 1) := by decide +kernel
theorem dX8_load_68 : decode cX8_load 68 = .ok (.istore_n 2, 1) := by decide +kernel
theorem dX8_load_69 : decode cX8_load 69 = .ok (.iload_n 2, 1) := by decide +kernel
theorem dX8_load_70 : decode cX8_load 70 = .ok (.sipush 1798, 3) := by decide +kernel
theorem dX8_load_73 : decode cX8_load 73 = .ok (.if_icmp .ge 16, 3) := by decide +kernel
theorem dX8_load_76 : decode cX8_load 76 = .ok (.aload_n 0, 1) := by decide +kernel
theorem dX8_load_77 : decode cX8_load 77 = .ok (.getfield 20, 3) := by decide +kernel
theorem dX8_load_80 : decode cX8_load 80 = .ok (.iload_n 2, 1) := by decide +kernel
theorem dX8_load_81 : decode cX8_load 81 = .ok (.iconst 0, 1) := by decide +kernel
theorem dX8_load_82 : decode cX8_load 82 = .ok (.iastore, 1) := by decide +kernel
theorem dX8_load_83 : decode cX8_load 83 = .ok (.iinc 2 1, 3) := by decide +kernel
theorem dX8_load_86 : decode cX8_load 86 = .ok (.goto (-17), 3) := by decide +kernel
theorem dX8_load_89 : decode cX8_load 89 = .ok (.aload_n 0, 1) := by decide +kernel
theorem dX8_load_90 : decode cX8_load 90 = .ok (.invokevirtual 58, 3) := by decide +kernel
theorem dX8_load_93 : decode cX8_load 93 = .ok (.ifCond .eq 18, 3) := by decide +kernel
theorem dX8_load_96 : decode cX8_load 96 = .ok (.aload_n 0, 1) := by decide +kernel
theorem dX8_load_97 : decode cX8_load 97 = .ok (.invokevirtual 62, 3) := by decide +kernel
theorem dX8_load_100 : decode cX8_load 100 = .ok (.iconst (-1), 1) := by decide +kernel
theorem dX8_load_101 : decode cX8_load 101 = .ok (.if_icmp .eq 10, 3) := by decide +kernel
theorem dX8_load_104 : decode cX8_load 104 = .ok (.aload_n 0, 1) := by decide +kernel
theorem dX8_load_105 : decode cX8_load 105 = .ok (.invokevirtual 157, 3) := by decide +kernel
theorem dX8_load_108 : decode cX8_load 108 = .ok (.goto (-19), 3) := by decide +kernel
theorem dX8_load_111 : decode cX8_load 111 = .ok (.aload_n 0, 1) := by decide +kernel
theorem dX8_load_112 : decode cX8_load 112 = .ok (.aload_n 0, 1) := by decide +kernel
theorem dX8_load_113 : decode cX8_load 113 = .ok (.getfield 51, 3) := by decide +kernel
theorem dX8_load_116 : decode cX8_load 116 = .ok (.putfield 13, 3) := by decide +kernel
theorem dX8_load_119 : decode cX8_load 119 = .ok (.aload_n 0, 1) := by decide +kernel
theorem dX8_load_120 : decode cX8_load 120 = .ok (.invokevirtual 58, 3) := by decide +kernel
theorem dX8_load_123 : decode cX8_load 123 = .ok (.ifCond .ne 8, 3) := by decide +kernel
theorem dX8_load_126 : decode cX8_load 126 = .ok (.aload_n 0, 1) := by decide +kernel
theorem dX8_load_127 : decode cX8_load 127 = .ok (.getfield 48, 3) := by decide +kernel
theorem dX8_load_130 : decode cX8_load 130 = .ok (.ireturn, 1) := by decide +kernel
theorem dX8_load_131 : decode cX8_load 131 = .ok (.aload_n 0, 1) := by decide +kernel
theorem dX8_load_132 : decode cX8_load 132 = .ok (.invokevirtual 160, 3) := by decide +kernel
theorem dX8_load_135 : decode cX8_load 135 = .ok (.aload_n 0, 1) := by decide +kernel
theorem dX8_load_136 : decode cX8_load 136 = .ok (.getfield 20, 3) := by decide +kernel
theorem dX8_load_139 : decode cX8_load 139 = .ok (.aload_n 0, 1) := by decide +kernel
theorem dX8_load_140 : decode cX8_load 140 = .ok (.getfield 17, 3) := by decide +kernel
theorem dX8_load_143 : decode cX8_load 143 = .ok (.invokestatic 163, 3) := by decide +kernel
theorem dX8_load_146 : decode cX8_load 146 = .ok (.aload_n 0, 1) := by decide +kernel
theorem dX8_load_147 : decode cX8_load 147 = .ok (.getfield 17, 3) := by decide +kernel
theorem dX8_load_150 : decode cX8_load 150 = .ok (.iconst 0, 1) := by decide +kernel
theorem dX8_load_151 : decode cX8_load 151 = .ok (.iaload, 1) := by decide +kernel
theorem dX8_load_152 : decode cX8_load 152 = .ok (.ireturn, 1) := by decide +kernel
theorem dX8_errorOffset_0 : decode cX8_errorOffset 0 = .ok (.aload_n 0, 1) := by decide +kernel
theorem dX8_errorOffset_1 : decode cX8_errorOffset 1 = .ok (.iconst 0, 1) := by decide +kernel
theorem dX8_errorOffset_2 : decode cX8_errorOffset 2 = .ok (.putfield 32, 3) := by decide +kernel
theorem dX8_errorOffset_5 : decode cX8_errorOffset 5 = .ok (.aload_n 0, 1) := by decide +kernel
theorem dX8_errorOffset_6 : decode cX8_errorOffset 6 = .ok (.getfield 13, 3) := by decide +kernel
theorem dX8_errorOffset_9 : decode cX8_errorOffset 9 = .ok (.ireturn, 1) := by decide +kernel
theorem dX8_isBusiness_0 : decode cX8_isBusiness 0 = .ok (.iload_n 1, 1) := by decide +kernel
theorem dX8_isBusiness_1 : decode cX8_isBusiness 1 = .ok (.bipush 7, 2) := by decide +kernel
theorem dX8_isBusiness_3 : decode cX8_isBusiness 3 = .ok (.irem, 1) := by decide +kernel
theorem dX8_isBusiness_4 : decode cX8_isBusiness 4 = .ok (.iconst 4, 1) := by decide +kernel
theorem dX8_isBusiness_5 : decode cX8_isBusiness 5 = .ok (.if_icmp .le 5, 3) := by decide +kernel
theorem dX8_isBusiness_8 : decode cX8_isBusiness 8 = .ok (.iconst 0, 1) := by decide +kernel
theorem dX8_isBusiness_9 : decode cX8_isBusiness 9 = .ok (.ireturn, 1) := by decide +kernel
theorem dX8_isBusiness_10 : decode cX8_isBusiness 10 = .ok (.iconst 0, 1) := by decide +kernel
theorem dX8_isBusiness_11 : decode cX8_isBusiness 11 = .ok (.istore_n 2, 1) := by decide +kernel
theorem dX8_isBusiness_12 : decode cX8_isBusiness 12 = .ok (.iload_n 2, 1) := by decide +kernel
theorem dX8_isBusiness_13 : decode cX8_isBusiness 13 = .ok (.aload_n 0, 1) := by decide +kernel
theorem dX8_isBusiness_14 : decode cX8_isBusiness 14 = .ok (.getfield 17, 3) := by decide +kernel
theorem dX8_isBusiness_17 : decode cX8_isBusiness 17 = .ok (.iconst 2, 1) := by decide +kernel
theorem dX8_isBusiness_18 : decode cX8_isBusiness 18 = .ok (.iaload, 1) := by decide +kernel
theorem dX8_isBusiness_19 : decode cX8_isBusiness 19 = .ok (.if_icmp .ge 24, 3) := by decide +kernel
theorem dX8_isBusiness_22 : decode cX8_isBusiness 22 = .ok (.aload_n 0, 1) := by decide +kernel
theorem dX8_isBusiness_23 : decode cX8_isBusiness 23 = .ok (.getfield 17, 3) := by decide +kernel
theorem dX8_isBusiness_26 : decode cX8_isBusiness 26 = .ok (.bipush 6, 2) := by decide +kernel
theorem dX8_isBusiness_28 : decode cX8_isBusiness 28 = .ok (.iload_n 2, 1) := by decide +kernel
theorem dX8_isBusiness_29 : decode cX8_isBusiness 29 = .ok (.iadd, 1) := by decide +kernel
theorem dX8_isBusiness_30 : decode cX8_isBusiness 30 = .ok (.iaload, 1) := by decide +kernel
theorem dX8_isBusiness_31 : decode cX8_isBusiness 31 = .ok (.iload_n 1, 1) := by decide +kernel
theorem dX8_isBusiness_32 : decode cX8_isBusiness 32 = .ok (.if_icmp .ne 5, 3) := by decide +kernel
theorem dX8_isBusiness_35 : decode cX8_isBusiness 35 = .ok (.iconst 0, 1) := by decide +kernel
theorem dX8_isBusiness_36 : decode cX8_isBusiness 36 = .ok (.ireturn, 1) := by decide +kernel
theorem dX8_isBusiness_37 : decode cX8_isBusiness 37 = .ok (.iinc 2 1, 3) := by decide +kernel
theorem dX8_isBusiness_40 : decode cX8_isBusiness 40 = .ok (.goto (-28), 3) := by decide +kernel
theorem dX8_isBusiness_43 : decode cX8_isBusiness 43 = .ok (.iconst 1, 1) := by decide +kernel
theorem dX8_isBusiness_44 : decode cX8_isBusiness 44 = .ok (.ireturn, 1) := by decide +kernel
theorem dX8_extend_0 : decode cX8_extend 0 = .ok (.iload_n 1, 1) := by decide +kernel
theorem dX8_extend_1 : decode cX8_extend 1 = .ok (.istore_n 2, 1) := by decide +kernel
theorem dX8_extend_2 : decode cX8_extend 2 = .ok (.aload_n 0, 1) := by decide +kernel
theorem dX8_extend_3 : decode cX8_extend 3 = .ok (.iload_n 2, 1) := by decide +kernel
theorem dX8_extend_4 : decode cX8_extend 4 = .ok (.invokevirtual 167, 3) := by decide +kernel
theorem dX8_extend_7 : decode cX8_extend 7 = .ok (.ifCond .ne 9, 3) := by decide +kernel
theorem dX8_extend_10 : decode cX8_extend 10 = .ok (.iinc 2 1, 3) := by decide +kernel
theorem dX8_extend_13 : decode cX8_extend 13 = .ok (.goto (-11), 3) := by decide +kernel
theorem dX8_extend_16 : decode cX8_extend 16 = .ok (.iload_n 2, 1) := by decide +kernel
theorem dX8_extend_17 : decode cX8_extend 17 = .ok (.ireturn, 1) := by decide +kernel
theorem dX8_add_0 : decode cX8_add 0 = .ok (.iload_n 1, 1) := by decide +kernel
theorem dX8_add_1 : decode cX8_add 1 = .ok (.istore_n 3, 1) := by decide +kernel
theorem dX8_add_2 : decode cX8_add 2 = .ok (.iload_n 2, 1) := by decide +kernel
theorem dX8_add_3 : decode cX8_add 3 = .ok (.istore 4, 2) := by decide +kernel
theorem dX8_add_5 : decode cX8_add 5 = .ok (.iload 4, 2) := by decide +kernel
theorem dX8_add_7 : decode cX8_add 7 = .ok (.ifCond .le 17, 3) := by decide +kernel
theorem dX8_add_10 : decode cX8_add 10 = .ok (.aload_n 0, 1) := by decide +kernel
theorem dX8_add_11 : decode cX8_add 11 = .ok (.iload_n 3, 1) := by decide +kernel
theorem dX8_add_12 : decode cX8_add 12 = .ok (.iconst 1, 1) := by decide +kernel
theorem dX8_add_13 : decode cX8_add 13 = .ok (.iadd, 1) := by decide +kernel
theorem dX8_add_14 : decode cX8_add 14 = .ok (.invokevirtual 170, 3) := by decide +kernel
theorem dX8_add_17 : decode cX8_add 17 = .ok (.istore_n 3, 1) := by decide +kernel
theorem dX8_add_18 : decode cX8_add 18 = .ok (.iinc 4 (-1), 3) := by decide +kernel
theorem dX8_add_21 : decode cX8_add 21 = .ok (.goto (-16), 3) := by decide +kernel
theorem dX8_add_24 : decode cX8_add 24 = .ok (.iload_n 3, 1) := by decide +kernel
theorem dX8_add_25 : decode cX8_add 25 = .ok (.ireturn, 1) := by decide +kernel
theorem dX8_isDay_0 : decode cX8_isDay 0 = .ok (.iload_n 0, 1) := by decide +kernel
theorem dX8_isDay_1 : decode cX8_isDay 1 = .ok (.iconst 0, 1) := by decide +kernel
theorem dX8_isDay_2 : decode cX8_isDay 2 = .ok (.sipush 9999, 3) := by decide +kernel
theorem dX8_isDay_5 : decode cX8_isDay 5 = .ok (.invokestatic 54, 3) := by decide +kernel
theorem dX8_isDay_8 : decode cX8_isDay 8 = .ok (.ireturn, 1) := by decide +kernel
theorem dX8_today_0 : decode cX8_today 0 = .ok (.aload_n 0, 1) := by decide +kernel
theorem dX8_today_1 : decode cX8_today 1 = .ok (.iconst 0, 1) := by decide +kernel
theorem dX8_today_2 : decode cX8_today 2 = .ok (.putfield 32, 3) := by decide +kernel
theorem dX8_today_5 : decode cX8_today 5 = .ok (.aload_n 0, 1) := by decide +kernel
theorem dX8_today_6 : decode cX8_today 6 = .ok (.getfield 17, 3) := by decide +kernel
theorem dX8_today_9 : decode cX8_today 9 = .ok (.iconst 3, 1) := by decide +kernel
theorem dX8_today_10 : decode cX8_today 10 = .ok (.iaload, 1) := by decide +kernel
theorem dX8_today_11 : decode cX8_today 11 = .ok (.ireturn, 1) := by decide +kernel
theorem dX8_isBusinessDay_0 : decode cX8_isBusinessDay 0 = .ok (.aload_n 0, 1) := by decide +kernel
theorem dX8_isBusinessDay_1 : decode cX8_isBusinessDay 1 = .ok (.iconst 0, 1) := by decide +kernel
theorem dX8_isBusinessDay_2 : decode cX8_isBusinessDay 2 = .ok (.putfield 32, 3) := by decide +kernel
theorem dX8_isBusinessDay_5 : decode cX8_isBusinessDay 5 = .ok (.aload_n 0, 1) := by decide +kernel
theorem dX8_isBusinessDay_6 : decode cX8_isBusinessDay 6 = .ok (.iload_n 1, 1) := by decide +kernel
theorem dX8_isBusinessDay_7 : decode cX8_isBusinessDay 7 = .ok (.invokestatic 173, 3) := by decide +kernel
theorem dX8_isBusinessDay_10 : decode cX8_isBusinessDay 10 = .ok (.ifCond .ne 7, 3) := by decide +kernel
theorem dX8_isBusinessDay_13 : decode cX8_isBusinessDay 13 = .ok (.iconst 1, 1) := by decide +kernel
theorem dX8_isBusinessDay_14 : decode cX8_isBusinessDay 14 = .ok (.goto 4, 3) := by decide +kernel
theorem dX8_isBusinessDay_17 : decode cX8_isBusinessDay 17 = .ok (.iconst 0, 1) := by decide +kernel
theorem dX8_isBusinessDay_18 : decode cX8_isBusinessDay 18 = .ok (.iconst 1, 1) := by decide +kernel
theorem dX8_isBusinessDay_19 : decode cX8_isBusinessDay 19 = .ok (.invokevirtual 153, 3) := by decide +kernel
theorem dX8_isBusinessDay_22 : decode cX8_isBusinessDay 22 = .ok (.ifCond .ne 15, 3) := by decide +kernel
theorem dX8_isBusinessDay_25 : decode cX8_isBusinessDay 25 = .ok (.aload_n 0, 1) := by decide +kernel
theorem dX8_isBusinessDay_26 : decode cX8_isBusinessDay 26 = .ok (.iload_n 1, 1) := by decide +kernel
theorem dX8_isBusinessDay_27 : decode cX8_isBusinessDay 27 = .ok (.invokevirtual 167, 3) := by decide +kernel
theorem dX8_isBusinessDay_30 : decode cX8_isBusinessDay 30 = .ok (.ifCond .eq 7, 3) := by decide +kernel
theorem dX8_isBusinessDay_33 : decode cX8_isBusinessDay 33 = .ok (.iconst 1, 1) := by decide +kernel
theorem dX8_isBusinessDay_34 : decode cX8_isBusinessDay 34 = .ok (.goto 4, 3) := by decide +kernel
theorem dX8_isBusinessDay_37 : decode cX8_isBusinessDay 37 = .ok (.iconst 0, 1) := by decide +kernel
theorem dX8_isBusinessDay_38 : decode cX8_isBusinessDay 38 = .ok (.ireturn, 1) := by decide +kernel
theorem dX8_extended_0 : decode cX8_extended 0 = .ok (.aload_n 0, 1) := by decide +kernel
theorem dX8_extended_1 : decode cX8_extended 1 = .ok (.iconst 0, 1) := by decide +kernel
theorem dX8_extended_2 : decode cX8_extended 2 = .ok (.putfield 32, 3) := by decide +kernel
theorem dX8_extended_5 : decode cX8_extended 5 = .ok (.aload_n 0, 1) := by decide +kernel
theorem dX8_extended_6 : decode cX8_extended 6 = .ok (.iload_n 1, 1) := by decide +kernel
theorem dX8_extended_7 : decode cX8_extended 7 = .ok (.invokestatic 173, 3) := by decide +kernel
theorem dX8_extended_10 : decode cX8_extended 10 = .ok (.ifCond .ne 7, 3) := by decide +kernel
theorem dX8_extended_13 : decode cX8_extended 13 = .ok (.iconst 1, 1) := by decide +kernel
theorem dX8_extended_14 : decode cX8_extended 14 = .ok (.goto 4, 3) := by decide +kernel
theorem dX8_extended_17 : decode cX8_extended 17 = .ok (.iconst 0, 1) := by decide +kernel
theorem dX8_extended_18 : decode cX8_extended 18 = .ok (.iconst 1, 1) := by decide +kernel
theorem dX8_extended_19 : decode cX8_extended 19 = .ok (.invokevirtual 153, 3) := by decide +kernel
theorem dX8_extended_22 : decode cX8_extended 22 = .ok (.ifCond .eq 7, 3) := by decide +kernel
theorem dX8_extended_25 : decode cX8_extended 25 = .ok (.iconst 0, 1) := by decide +kernel
theorem dX8_extended_26 : decode cX8_extended 26 = .ok (.goto 8, 3) := by decide +kernel
theorem dX8_extended_29 : decode cX8_extended 29 = .ok (.aload_n 0, 1) := by decide +kernel
theorem dX8_extended_30 : decode cX8_extended 30 = .ok (.iload_n 1, 1) := by decide +kernel
theorem dX8_extended_31 : decode cX8_extended 31 = .ok (.invokevirtual 170, 3) := by decide +kernel
theorem dX8_extended_34 : decode cX8_extended 34 = .ok (.ireturn, 1) := by decide +kernel
theorem dX8_addBusinessDays_0 : decode cX8_addBusinessDays 0 = .ok (.aload_n 0, 1) := by decide +kernel
theorem dX8_addBusinessDays_1 : decode cX8_addBusinessDays 1 = .ok (.iconst 0, 1) := by decide +kernel
theorem dX8_addBusinessDays_2 : decode cX8_addBusinessDays 2 = .ok (.putfield 32, 3) := by decide +kernel
theorem dX8_addBusinessDays_5 : decode cX8_addBusinessDays 5 = .ok (.aload_n 0, 1) := by decide +kernel
theorem dX8_addBusinessDays_6 : decode cX8_addBusinessDays 6 = .ok (.iload_n 1, 1) := by decide +kernel
theorem dX8_addBusinessDays_7 : decode cX8_addBusinessDays 7 = .ok (.invokestatic 173, 3) := by decide +kernel
theorem dX8_addBusinessDays_10 : decode cX8_addBusinessDays 10 = .ok (.ifCond .eq 13, 3) := by decide +kernel
theorem dX8_addBusinessDays_13 : decode cX8_addBusinessDays 13 = .ok (.iload_n 2, 1) := by decide +kernel
theorem dX8_addBusinessDays_14 : decode cX8_addBusinessDays 14 = .ok (.iconst 0, 1) := by decide +kernel
theorem dX8_addBusinessDays_15 : decode cX8_addBusinessDays 15 = .ok (.bipush 100, 2) := by decide +kernel
theorem dX8_addBusinessDays_17 : decode cX8_addBusinessDays 17 = .ok (.invokestatic 54, 3) := by decide +kernel
theorem dX8_addBusinessDays_20 : decode cX8_addBusinessDays 20 = .ok (.ifCond .ne 7, 3) := by decide +kernel
theorem dX8_addBusinessDays_23 : decode cX8_addBusinessDays 23 = .ok (.iconst 1, 1) := by decide +kernel
theorem dX8_addBusinessDays_24 : decode cX8_addBusinessDays 24 = .ok (.goto 4, 3) := by decide +kernel
theorem dX8_addBusinessDays_27 : decode cX8_addBusinessDays 27 = .ok (.iconst 0, 1) := by decide +kernel
theorem dX8_addBusinessDays_28 : decode cX8_addBusinessDays 28 = .ok (.iconst 1, 1) := by decide +kernel
theorem dX8_addBusinessDays_29 : decode cX8_addBusinessDays 29 = .ok (.invokevirtual 153, 3) := by decide +kernel
theorem dX8_addBusinessDays_32 : decode cX8_addBusinessDays 32 = .ok (.ifCond .eq 7, 3) := by decide +kernel
theorem dX8_addBusinessDays_35 : decode cX8_addBusinessDays 35 = .ok (.iconst 0, 1) := by decide +kernel
theorem dX8_addBusinessDays_36 : decode cX8_addBusinessDays 36 = .ok (.goto 9, 3) := by decide +kernel
theorem dX8_addBusinessDays_39 : decode cX8_addBusinessDays 39 = .ok (.aload_n 0, 1) := by decide +kernel
theorem dX8_addBusinessDays_40 : decode cX8_addBusinessDays 40 = .ok (.iload_n 1, 1) := by decide +kernel
theorem dX8_addBusinessDays_41 : decode cX8_addBusinessDays 41 = .ok (.iload_n 2, 1) := by decide +kernel
theorem dX8_addBusinessDays_42 : decode cX8_addBusinessDays 42 = .ok (.invokevirtual 176, 3) := by decide +kernel
theorem dX8_addBusinessDays_45 : decode cX8_addBusinessDays 45 = .ok (.ireturn, 1) := by decide +kernel
theorem dX8_businessDays_0 : decode cX8_businessDays 0 = .ok (.aload_n 0, 1) := by decide +kernel
theorem dX8_businessDays_1 : decode cX8_businessDays 1 = .ok (.iconst 0, 1) := by decide +kernel
theorem dX8_businessDays_2 : decode cX8_businessDays 2 = .ok (.putfield 32, 3) := by decide +kernel
theorem dX8_businessDays_5 : decode cX8_businessDays 5 = .ok (.aload_n 0, 1) := by decide +kernel
theorem dX8_businessDays_6 : decode cX8_businessDays 6 = .ok (.iload_n 1, 1) := by decide +kernel
theorem dX8_businessDays_7 : decode cX8_businessDays 7 = .ok (.invokestatic 173, 3) := by decide +kernel
theorem dX8_businessDays_10 : decode cX8_businessDays 10 = .ok (.ifCond .eq 10, 3) := by decide +kernel
theorem dX8_businessDays_13 : decode cX8_businessDays 13 = .ok (.iload_n 2, 1) := by decide +kernel
theorem dX8_businessDays_14 : decode cX8_businessDays 14 = .ok (.invokestatic 173, 3) := by decide +kernel
theorem dX8_businessDays_17 : decode cX8_businessDays 17 = .ok (.ifCond .ne 7, 3) := by decide +kernel
theorem dX8_businessDays_20 : decode cX8_businessDays 20 = .ok (.iconst 1, 1) := by decide +kernel
theorem dX8_businessDays_21 : decode cX8_businessDays 21 = .ok (.goto 4, 3) := by decide +kernel
theorem dX8_businessDays_24 : decode cX8_businessDays 24 = .ok (.iconst 0, 1) := by decide +kernel
theorem dX8_businessDays_25 : decode cX8_businessDays 25 = .ok (.iconst 1, 1) := by decide +kernel
theorem dX8_businessDays_26 : decode cX8_businessDays 26 = .ok (.invokevirtual 153, 3) := by decide +kernel
theorem dX8_businessDays_29 : decode cX8_businessDays 29 = .ok (.ifCond .eq 5, 3) := by decide +kernel
theorem dX8_businessDays_32 : decode cX8_businessDays 32 = .ok (.iconst 0, 1) := by decide +kernel
theorem dX8_businessDays_33 : decode cX8_businessDays 33 = .ok (.ireturn, 1) := by decide +kernel
theorem dX8_businessDays_34 : decode cX8_businessDays 34 = .ok (.iconst 0, 1) := by decide +kernel
theorem dX8_businessDays_35 : decode cX8_businessDays 35 = .ok (.istore_n 3, 1) := by decide +kernel
theorem dX8_businessDays_36 : decode cX8_businessDays 36 = .ok (.iload_n 1, 1) := by decide +kernel
theorem dX8_businessDays_37 : decode cX8_businessDays 37 = .ok (.istore 4, 2) := by decide +kernel
theorem dX8_businessDays_39 : decode cX8_businessDays 39 = .ok (.iload 4, 2) := by decide +kernel
theorem dX8_businessDays_41 : decode cX8_businessDays 41 = .ok (.iload_n 2, 1) := by decide +kernel
theorem dX8_businessDays_42 : decode cX8_businessDays 42 = .ok (.if_icmp .ge 26, 3) := by decide +kernel
theorem dX8_businessDays_45 : decode cX8_businessDays 45 = .ok (.iload_n 3, 1) := by decide +kernel
theorem dX8_businessDays_46 : decode cX8_businessDays 46 = .ok (.aload_n 0, 1) := by decide +kernel
theorem dX8_businessDays_47 : decode cX8_businessDays 47 = .ok (.iload 4, 2) := by decide +kernel
theorem dX8_businessDays_49 : decode cX8_businessDays 49 = .ok (.invokevirtual 167, 3) := by decide +kernel
theorem dX8_businessDays_52 : decode cX8_businessDays 52 = .ok (.ifCond .eq 7, 3) := by decide +kernel
theorem dX8_businessDays_55 : decode cX8_businessDays 55 = .ok (.iconst 1, 1) := by decide +kernel
theorem dX8_businessDays_56 : decode cX8_businessDays 56 = .ok (.goto 4, 3) := by decide +kernel
theorem dX8_businessDays_59 : decode cX8_businessDays 59 = .ok (.iconst 0, 1) := by decide +kernel
theorem dX8_businessDays_60 : decode cX8_businessDays 60 = .ok (.iadd, 1) := by decide +kernel
theorem dX8_businessDays_61 : decode cX8_businessDays 61 = .ok (.istore_n 3, 1) := by decide +kernel
theorem dX8_businessDays_62 : decode cX8_businessDays 62 = .ok (.iinc 4 1, 3) := by decide +kernel
theorem dX8_businessDays_65 : decode cX8_businessDays 65 = .ok (.goto (-26), 3) := by decide +kernel
theorem dX8_businessDays_68 : decode cX8_businessDays 68 = .ok (.iload_n 3, 1) := by decide +kernel
theorem dX8_businessDays_69 : decode cX8_businessDays 69 = .ok (.ireturn, 1) := by decide +kernel
theorem dX8_noCredit_0 : decode cX8_noCredit 0 = .ok (.aload_n 0, 1) := by decide +kernel
theorem dX8_noCredit_1 : decode cX8_noCredit 1 = .ok (.iload_n 1, 1) := by decide +kernel
theorem dX8_noCredit_2 : decode cX8_noCredit 2 = .ok (.iconst 0, 1) := by decide +kernel
theorem dX8_noCredit_3 : decode cX8_noCredit 3 = .ok (.aload_n 0, 1) := by decide +kernel
theorem dX8_noCredit_4 : decode cX8_noCredit 4 = .ok (.getfield 17, 3) := by decide +kernel
theorem dX8_noCredit_7 : decode cX8_noCredit 7 = .ok (.iconst 0, 1) := by decide +kernel
theorem dX8_noCredit_8 : decode cX8_noCredit 8 = .ok (.iaload, 1) := by decide +kernel
theorem dX8_noCredit_9 : decode cX8_noCredit 9 = .ok (.iconst 1, 1) := by decide +kernel
theorem dX8_noCredit_10 : decode cX8_noCredit 10 = .ok (.isub, 1) := by decide +kernel
theorem dX8_noCredit_11 : decode cX8_noCredit 11 = .ok (.invokestatic 54, 3) := by decide +kernel
theorem dX8_noCredit_14 : decode cX8_noCredit 14 = .ok (.ifCond .ne 7, 3) := by decide +kernel
theorem dX8_noCredit_17 : decode cX8_noCredit 17 = .ok (.iconst 1, 1) := by decide +kernel
theorem dX8_noCredit_18 : decode cX8_noCredit 18 = .ok (.goto 4, 3) := by decide +kernel
theorem dX8_noCredit_21 : decode cX8_noCredit 21 = .ok (.iconst 0, 1) := by decide +kernel
theorem dX8_noCredit_22 : decode cX8_noCredit 22 = .ok (.iconst 1, 1) := by decide +kernel
theorem dX8_noCredit_23 : decode cX8_noCredit 23 = .ok (.invokevirtual 153, 3) := by decide +kernel
theorem dX8_noCredit_26 : decode cX8_noCredit 26 = .ok (.ireturn, 1) := by decide +kernel
theorem dX8_noPresentation_0 : decode cX8_noPresentation 0 = .ok (.aload_n 0, 1) := by decide +kernel
theorem dX8_noPresentation_1 : decode cX8_noPresentation 1 = .ok (.iload_n 1, 1) := by decide +kernel
theorem dX8_noPresentation_2 : decode cX8_noPresentation 2 = .ok (.iconst 0, 1) := by decide +kernel
theorem dX8_noPresentation_3 : decode cX8_noPresentation 3 = .ok (.aload_n 0, 1) := by decide +kernel
theorem dX8_noPresentation_4 : decode cX8_noPresentation 4 = .ok (.getfield 17, 3) := by decide +kernel
theorem dX8_noPresentation_7 : decode cX8_noPresentation 7 = .ok (.iconst 1, 1) := by decide +kernel
theorem dX8_noPresentation_8 : decode cX8_noPresentation 8 = .ok (.iaload, 1) := by decide +kernel
theorem dX8_noPresentation_9 : decode cX8_noPresentation 9 = .ok (.iconst 1, 1) := by decide +kernel
theorem dX8_noPresentation_10 : decode cX8_noPresentation 10 = .ok (.isub, 1) := by decide +kernel
theorem dX8_noPresentation_11 : decode cX8_noPresentation 11 = .ok (.invokestatic 54, 3) := by decide +kernel
theorem dX8_noPresentation_14 : decode cX8_noPresentation 14 = .ok (.ifCond .ne 7, 3) := by decide +kernel
theorem dX8_noPresentation_17 : decode cX8_noPresentation 17 = .ok (.iconst 1, 1) := by decide +kernel
theorem dX8_noPresentation_18 : decode cX8_noPresentation 18 = .ok (.goto 4, 3) := by decide +kernel
theorem dX8_noPresentation_21 : decode cX8_noPresentation 21 = .ok (.iconst 0, 1) := by decide +kernel
theorem dX8_noPresentation_22 : decode cX8_noPresentation 22 = .ok (.iconst 1, 1) := by decide +kernel
theorem dX8_noPresentation_23 : decode cX8_noPresentation 23 = .ok (.invokevirtual 153, 3) := by decide +kernel
theorem dX8_noPresentation_26 : decode cX8_noPresentation 26 = .ok (.ireturn, 1) := by decide +kernel
theorem dX8_creditCount_0 : decode cX8_creditCount 0 = .ok (.aload_n 0, 1) := by decide +kernel
theorem dX8_creditCount_1 : decode cX8_creditCount 1 = .ok (.iconst 0, 1) := by decide +kernel
theorem dX8_creditCount_2 : decode cX8_creditCount 2 = .ok (.putfield 32, 3) := by decide +kernel
theorem dX8_creditCount_5 : decode cX8_creditCount 5 = .ok (.aload_n 0, 1) := by decide +kernel
theorem dX8_creditCount_6 : decode cX8_creditCount 6 = .ok (.getfield 17, 3) := by decide +kernel
theorem dX8_creditCount_9 : decode cX8_creditCount 9 = .ok (.iconst 0, 1) := by decide +kernel
theorem dX8_creditCount_10 : decode cX8_creditCount 10 = .ok (.iaload, 1) := by decide +kernel
theorem dX8_creditCount_11 : decode cX8_creditCount 11 = .ok (.ireturn, 1) := by decide +kernel
theorem dX8_presentationCount_0 : decode cX8_presentationCount 0 = .ok (.aload_n 0, 1) := by decide +kernel
theorem dX8_presentationCount_1 : decode cX8_presentationCount 1 = .ok (.iconst 0, 1) := by decide +kernel
theorem dX8_presentationCount_2 : decode cX8_presentationCount 2 = .ok (.putfield 32, 3) := by decide +kernel
theorem dX8_presentationCount_5 : decode cX8_presentationCount 5 = .ok (.aload_n 0, 1) := by decide +kernel
theorem dX8_presentationCount_6 : decode cX8_presentationCount 6 = .ok (.getfield 17, 3) := by decide +kernel
theorem dX8_presentationCount_9 : decode cX8_presentationCount 9 = .ok (.iconst 1, 1) := by decide +kernel
theorem dX8_presentationCount_10 : decode cX8_presentationCount 10 = .ok (.iaload, 1) := by decide +kernel
theorem dX8_presentationCount_11 : decode cX8_presentationCount 11 = .ok (.ireturn, 1) := by decide +kernel
theorem dX8_parent_0 : decode cX8_parent 0 = .ok (.aload_n 0, 1) := by decide +kernel
theorem dX8_parent_1 : decode cX8_parent 1 = .ok (.iconst 0, 1) := by decide +kernel
theorem dX8_parent_2 : decode cX8_parent 2 = .ok (.putfield 32, 3) := by decide +kernel
theorem dX8_parent_5 : decode cX8_parent 5 = .ok (.aload_n 0, 1) := by decide +kernel
theorem dX8_parent_6 : decode cX8_parent 6 = .ok (.iload_n 1, 1) := by decide +kernel
theorem dX8_parent_7 : decode cX8_parent 7 = .ok (.invokevirtual 179, 3) := by decide +kernel
theorem dX8_parent_10 : decode cX8_parent 10 = .ok (.ifCond .eq 7, 3) := by decide +kernel
theorem dX8_parent_13 : decode cX8_parent 13 = .ok (.iconst 0, 1) := by decide +kernel
theorem dX8_parent_14 : decode cX8_parent 14 = .ok (.goto 15, 3) := by decide +kernel
theorem dX8_parent_17 : decode cX8_parent 17 = .ok (.aload_n 0, 1) := by decide +kernel
theorem dX8_parent_18 : decode cX8_parent 18 = .ok (.getfield 17, 3) := by decide +kernel
theorem dX8_parent_21 : decode cX8_parent 21 = .ok (.iload_n 1, 1) := by decide +kernel
theorem dX8_parent_22 : decode cX8_parent 22 = .ok (.invokestatic 126, 3) := by decide +kernel
theorem dX8_parent_25 : decode cX8_parent 25 = .ok (.bipush 10, 2) := by decide +kernel
theorem dX8_parent_27 : decode cX8_parent 27 = .ok (.iadd, 1) := by decide +kernel
theorem dX8_parent_28 : decode cX8_parent 28 = .ok (.iaload, 1) := by decide +kernel
theorem dX8_parent_29 : decode cX8_parent 29 = .ok (.ireturn, 1) := by decide +kernel
theorem dX8_most_0 : decode cX8_most 0 = .ok (.aload_n 0, 1) := by decide +kernel
theorem dX8_most_1 : decode cX8_most 1 = .ok (.getfield 17, 3) := by decide +kernel
theorem dX8_most_4 : decode cX8_most 4 = .ok (.iload_n 1, 1) := by decide +kernel
theorem dX8_most_5 : decode cX8_most 5 = .ok (.invokestatic 126, 3) := by decide +kernel
theorem dX8_most_8 : decode cX8_most 8 = .ok (.iaload, 1) := by decide +kernel
theorem dX8_most_9 : decode cX8_most 9 = .ok (.aload_n 0, 1) := by decide +kernel
theorem dX8_most_10 : decode cX8_most 10 = .ok (.getfield 17, 3) := by decide +kernel
theorem dX8_most_13 : decode cX8_most 13 = .ok (.iload_n 1, 1) := by decide +kernel
theorem dX8_most_14 : decode cX8_most 14 = .ok (.invokestatic 126, 3) := by decide +kernel
theorem dX8_most_17 : decode cX8_most 17 = .ok (.iaload, 1) := by decide +kernel
theorem dX8_most_18 : decode cX8_most 18 = .ok (.aload_n 0, 1) := by decide +kernel
theorem dX8_most_19 : decode cX8_most 19 = .ok (.getfield 17, 3) := by decide +kernel
theorem dX8_most_22 : decode cX8_most 22 = .ok (.iload_n 1, 1) := by decide +kernel
theorem dX8_most_23 : decode cX8_most 23 = .ok (.invokestatic 126, 3) := by decide +kernel
theorem dX8_most_26 : decode cX8_most 26 = .ok (.iconst 1, 1) := by decide +kernel
theorem dX8_most_27 : decode cX8_most 27 = .ok (.iadd, 1) := by decide +kernel
theorem dX8_most_28 : decode cX8_most 28 = .ok (.iaload, 1) := by decide +kernel
theorem dX8_most_29 : decode cX8_most 29 = .ok (.imul, 1) := by decide +kernel
theorem dX8_most_30 : decode cX8_most 30 = .ok (.bipush 100, 2) := by decide +kernel
theorem dX8_most_32 : decode cX8_most 32 = .ok (.idiv, 1) := by decide +kernel
theorem dX8_most_33 : decode cX8_most 33 = .ok (.iadd, 1) := by decide +kernel
theorem dX8_most_34 : decode cX8_most 34 = .ok (.ireturn, 1) := by decide +kernel
theorem dX8_least_0 : decode cX8_least 0 = .ok (.aload_n 0, 1) := by decide +kernel
theorem dX8_least_1 : decode cX8_least 1 = .ok (.getfield 17, 3) := by decide +kernel
theorem dX8_least_4 : decode cX8_least 4 = .ok (.iload_n 1, 1) := by decide +kernel
theorem dX8_least_5 : decode cX8_least 5 = .ok (.invokestatic 126, 3) := by decide +kernel
theorem dX8_least_8 : decode cX8_least 8 = .ok (.iaload, 1) := by decide +kernel
theorem dX8_least_9 : decode cX8_least 9 = .ok (.aload_n 0, 1) := by decide +kernel
theorem dX8_least_10 : decode cX8_least 10 = .ok (.getfield 17, 3) := by decide +kernel
theorem dX8_least_13 : decode cX8_least 13 = .ok (.iload_n 1, 1) := by decide +kernel
theorem dX8_least_14 : decode cX8_least 14 = .ok (.invokestatic 126, 3) := by decide +kernel
theorem dX8_least_17 : decode cX8_least 17 = .ok (.iaload, 1) := by decide +kernel
theorem dX8_least_18 : decode cX8_least 18 = .ok (.aload_n 0, 1) := by decide +kernel
theorem dX8_least_19 : decode cX8_least 19 = .ok (.getfield 17, 3) := by decide +kernel
theorem dX8_least_22 : decode cX8_least 22 = .ok (.iload_n 1, 1) := by decide +kernel
theorem dX8_least_23 : decode cX8_least 23 = .ok (.invokestatic 126, 3) := by decide +kernel
theorem dX8_least_26 : decode cX8_least 26 = .ok (.iconst 2, 1) := by decide +kernel
theorem dX8_least_27 : decode cX8_least 27 = .ok (.iadd, 1) := by decide +kernel
theorem dX8_least_28 : decode cX8_least 28 = .ok (.iaload, 1) := by decide +kernel
theorem dX8_least_29 : decode cX8_least 29 = .ok (.imul, 1) := by decide +kernel
theorem dX8_least_30 : decode cX8_least 30 = .ok (.bipush 100, 2) := by decide +kernel
theorem dX8_least_32 : decode cX8_least 32 = .ok (.idiv, 1) := by decide +kernel
theorem dX8_least_33 : decode cX8_least 33 = .ok (.isub, 1) := by decide +kernel
theorem dX8_least_34 : decode cX8_least 34 = .ok (.ireturn, 1) := by decide +kernel
theorem dX8_bound_0 : decode cX8_bound 0 = .ok (.aload_n 0, 1) := by decide +kernel
theorem dX8_bound_1 : decode cX8_bound 1 = .ok (.iconst 0, 1) := by decide +kernel
theorem dX8_bound_2 : decode cX8_bound 2 = .ok (.putfield 32, 3) := by decide +kernel
theorem dX8_bound_5 : decode cX8_bound 5 = .ok (.aload_n 0, 1) := by decide +kernel
theorem dX8_bound_6 : decode cX8_bound 6 = .ok (.iload_n 1, 1) := by decide +kernel
theorem dX8_bound_7 : decode cX8_bound 7 = .ok (.invokevirtual 179, 3) := by decide +kernel
theorem dX8_bound_10 : decode cX8_bound 10 = .ok (.ifCond .eq 7, 3) := by decide +kernel
theorem dX8_bound_13 : decode cX8_bound 13 = .ok (.iconst 0, 1) := by decide +kernel
theorem dX8_bound_14 : decode cX8_bound 14 = .ok (.goto 20, 3) := by decide +kernel
theorem dX8_bound_17 : decode cX8_bound 17 = .ok (.iload_n 2, 1) := by decide +kernel
theorem dX8_bound_18 : decode cX8_bound 18 = .ok (.ifCond .eq 11, 3) := by decide +kernel
theorem dX8_bound_21 : decode cX8_bound 21 = .ok (.aload_n 0, 1) := by decide +kernel
theorem dX8_bound_22 : decode cX8_bound 22 = .ok (.iload_n 1, 1) := by decide +kernel
theorem dX8_bound_23 : decode cX8_bound 23 = .ok (.invokevirtual 182, 3) := by decide +kernel
theorem dX8_bound_26 : decode cX8_bound 26 = .ok (.goto 8, 3) := by decide +kernel
theorem dX8_bound_29 : decode cX8_bound 29 = .ok (.aload_n 0, 1) := by decide +kernel
theorem dX8_bound_30 : decode cX8_bound 30 = .ok (.iload_n 1, 1) := by decide +kernel
theorem dX8_bound_31 : decode cX8_bound 31 = .ok (.invokevirtual 185, 3) := by decide +kernel
theorem dX8_bound_34 : decode cX8_bound 34 = .ok (.ireturn, 1) := by decide +kernel
theorem dX8_expiry_0 : decode cX8_expiry 0 = .ok (.aload_n 0, 1) := by decide +kernel
theorem dX8_expiry_1 : decode cX8_expiry 1 = .ok (.iconst 0, 1) := by decide +kernel
theorem dX8_expiry_2 : decode cX8_expiry 2 = .ok (.putfield 32, 3) := by decide +kernel
theorem dX8_expiry_5 : decode cX8_expiry 5 = .ok (.aload_n 0, 1) := by decide +kernel
theorem dX8_expiry_6 : decode cX8_expiry 6 = .ok (.iload_n 1, 1) := by decide +kernel
theorem dX8_expiry_7 : decode cX8_expiry 7 = .ok (.invokevirtual 179, 3) := by decide +kernel
theorem dX8_expiry_10 : decode cX8_expiry 10 = .ok (.ifCond .eq 7, 3) := by decide +kernel
theorem dX8_expiry_13 : decode cX8_expiry 13 = .ok (.iconst 0, 1) := by decide +kernel
theorem dX8_expiry_14 : decode cX8_expiry 14 = .ok (.goto 14, 3) := by decide +kernel
theorem dX8_expiry_17 : decode cX8_expiry 17 = .ok (.aload_n 0, 1) := by decide +kernel
theorem dX8_expiry_18 : decode cX8_expiry 18 = .ok (.getfield 17, 3) := by decide +kernel
theorem dX8_expiry_21 : decode cX8_expiry 21 = .ok (.iload_n 1, 1) := by decide +kernel
theorem dX8_expiry_22 : decode cX8_expiry 22 = .ok (.invokestatic 126, 3) := by decide +kernel
theorem dX8_expiry_25 : decode cX8_expiry 25 = .ok (.iconst 3, 1) := by decide +kernel
theorem dX8_expiry_26 : decode cX8_expiry 26 = .ok (.iadd, 1) := by decide +kernel
theorem dX8_expiry_27 : decode cX8_expiry 27 = .ok (.iaload, 1) := by decide +kernel
theorem dX8_expiry_28 : decode cX8_expiry 28 = .ok (.ireturn, 1) := by decide +kernel
theorem dX8_stands_0 : decode cX8_stands 0 = .ok (.aload_n 0, 1) := by decide +kernel
theorem dX8_stands_1 : decode cX8_stands 1 = .ok (.getfield 17, 3) := by decide +kernel
theorem dX8_stands_4 : decode cX8_stands 4 = .ok (.iload_n 1, 1) := by decide +kernel
theorem dX8_stands_5 : decode cX8_stands 5 = .ok (.invokestatic 188, 3) := by decide +kernel
theorem dX8_stands_8 : decode cX8_stands 8 = .ok (.iaload, 1) := by decide +kernel
theorem dX8_stands_9 : decode cX8_stands 9 = .ok (.iload_n 2, 1) := by decide +kernel
theorem dX8_stands_10 : decode cX8_stands 10 = .ok (.if_icmp .ne 22, 3) := by decide +kernel
theorem dX8_stands_13 : decode cX8_stands 13 = .ok (.aload_n 0, 1) := by decide +kernel
theorem dX8_stands_14 : decode cX8_stands 14 = .ok (.getfield 17, 3) := by decide +kernel
theorem dX8_stands_17 : decode cX8_stands 17 = .ok (.iload_n 1, 1) := by decide +kernel
theorem dX8_stands_18 : decode cX8_stands 18 = .ok (.invokestatic 188, 3) := by decide +kernel
theorem dX8_stands_21 : decode cX8_stands 21 = .ok (.iconst 4, 1) := by decide +kernel
theorem dX8_stands_22 : decode cX8_stands 22 = .ok (.iadd, 1) := by decide +kernel
theorem dX8_stands_23 : decode cX8_stands 23 = .ok (.iaload, 1) := by decide +kernel
theorem dX8_stands_24 : decode cX8_stands 24 = .ok (.iconst 3, 1) := by decide +kernel
theorem dX8_stands_25 : decode cX8_stands 25 = .ok (.if_icmp .eq 7, 3) := by decide +kernel
theorem dX8_stands_28 : decode cX8_stands 28 = .ok (.iconst 1, 1) := by decide +kernel
theorem dX8_stands_29 : decode cX8_stands 29 = .ok (.goto 4, 3) := by decide +kernel
theorem dX8_stands_32 : decode cX8_stands 32 = .ok (.iconst 0, 1) := by decide +kernel
theorem dX8_stands_33 : decode cX8_stands 33 = .ok (.ireturn, 1) := by decide +kernel
theorem dX8_drawnOf_0 : decode cX8_drawnOf 0 = .ok (.iconst 0, 1) := by decide +kernel
theorem dX8_drawnOf_1 : decode cX8_drawnOf 1 = .ok (.istore_n 2, 1) := by decide +kernel
theorem dX8_drawnOf_2 : decode cX8_drawnOf 2 = .ok (.iconst 0, 1) := by decide +kernel
theorem dX8_drawnOf_3 : decode cX8_drawnOf 3 = .ok (.istore_n 3, 1) := by decide +kernel
theorem dX8_drawnOf_4 : decode cX8_drawnOf 4 = .ok (.iload_n 3, 1) := by decide +kernel
theorem dX8_drawnOf_5 : decode cX8_drawnOf 5 = .ok (.aload_n 0, 1) := by decide +kernel
theorem dX8_drawnOf_6 : decode cX8_drawnOf 6 = .ok (.getfield 17, 3) := by decide +kernel
theorem dX8_drawnOf_9 : decode cX8_drawnOf 9 = .ok (.iconst 1, 1) := by decide +kernel
theorem dX8_drawnOf_10 : decode cX8_drawnOf 10 = .ok (.iaload, 1) := by decide +kernel
theorem dX8_drawnOf_11 : decode cX8_drawnOf 11 = .ok (.if_icmp .ge 52, 3) := by decide +kernel
theorem dX8_drawnOf_14 : decode cX8_drawnOf 14 = .ok (.iload_n 2, 1) := by decide +kernel
theorem dX8_drawnOf_15 : decode cX8_drawnOf 15 = .ok (.aload_n 0, 1) := by decide +kernel
theorem dX8_drawnOf_16 : decode cX8_drawnOf 16 = .ok (.iload_n 3, 1) := by decide +kernel
theorem dX8_drawnOf_17 : decode cX8_drawnOf 17 = .ok (.iload_n 1, 1) := by decide +kernel
theorem dX8_drawnOf_18 : decode cX8_drawnOf 18 = .ok (.invokevirtual 191, 3) := by decide +kernel
theorem dX8_drawnOf_21 : decode cX8_drawnOf 21 = .ok (.ifCond .eq 33, 3) := by decide +kernel
theorem dX8_drawnOf_24 : decode cX8_drawnOf 24 = .ok (.aload_n 0, 1) := by decide +kernel
theorem dX8_drawnOf_25 : decode cX8_drawnOf 25 = .ok (.getfield 17, 3) := by decide +kernel
theorem dX8_drawnOf_28 : decode cX8_drawnOf 28 = .ok (.iload_n 3, 1) := by decide +kernel
theorem dX8_drawnOf_29 : decode cX8_drawnOf 29 = .ok (.invokestatic 188, 3) := by decide +kernel
theorem dX8_drawnOf_32 : decode cX8_drawnOf 32 = .ok (.iconst 3, 1) := by decide +kernel
theorem dX8_drawnOf_33 : decode cX8_drawnOf 33 = .ok (.iadd, 1) := by decide +kernel
theorem dX8_drawnOf_34 : decode cX8_drawnOf 34 = .ok (.iaload, 1) := by decide +kernel
theorem dX8_drawnOf_35 : decode cX8_drawnOf 35 = .ok (.iconst 4, 1) := by decide +kernel
theorem dX8_drawnOf_36 : decode cX8_drawnOf 36 = .ok (.iand, 1) := by decide +kernel
theorem dX8_drawnOf_37 : decode cX8_drawnOf 37 = .ok (.ifCond .ne 17, 3) := by decide +kernel
theorem dX8_drawnOf_40 : decode cX8_drawnOf 40 = .ok (.aload_n 0, 1) := by decide +kernel
theorem dX8_drawnOf_41 : decode cX8_drawnOf 41 = .ok (.getfield 17, 3) := by decide +kernel
theorem dX8_drawnOf_44 : decode cX8_drawnOf 44 = .ok (.iload_n 3, 1) := by decide +kernel
theorem dX8_drawnOf_45 : decode cX8_drawnOf 45 = .ok (.invokestatic 188, 3) := by decide +kernel
theorem dX8_drawnOf_48 : decode cX8_drawnOf 48 = .ok (.iconst 2, 1) := by decide +kernel
theorem dX8_drawnOf_49 : decode cX8_drawnOf 49 = .ok (.iadd, 1) := by decide +kernel
theorem dX8_drawnOf_50 : decode cX8_drawnOf 50 = .ok (.iaload, 1) := by decide +kernel
theorem dX8_drawnOf_51 : decode cX8_drawnOf 51 = .ok (.goto 4, 3) := by decide +kernel
theorem dX8_drawnOf_54 : decode cX8_drawnOf 54 = .ok (.iconst 0, 1) := by decide +kernel
theorem dX8_drawnOf_55 : decode cX8_drawnOf 55 = .ok (.iadd, 1) := by decide +kernel
theorem dX8_drawnOf_56 : decode cX8_drawnOf 56 = .ok (.istore_n 2, 1) := by decide +kernel
theorem dX8_drawnOf_57 : decode cX8_drawnOf 57 = .ok (.iinc 3 1, 3) := by decide +kernel
theorem dX8_drawnOf_60 : decode cX8_drawnOf 60 = .ok (.goto (-56), 3) := by decide +kernel
theorem dX8_drawnOf_63 : decode cX8_drawnOf 63 = .ok (.iload_n 2, 1) := by decide +kernel
theorem dX8_drawnOf_64 : decode cX8_drawnOf 64 = .ok (.ireturn, 1) := by decide +kernel
theorem dX8_transferredOf_0 : decode cX8_transferredOf 0 = .ok (.iconst 0, 1) := by decide +kernel
theorem dX8_transferredOf_1 : decode cX8_transferredOf 1 = .ok (.istore_n 2, 1) := by decide +kernel
theorem dX8_transferredOf_2 : decode cX8_transferredOf 2 = .ok (.iconst 0, 1) := by decide +kernel
theorem dX8_transferredOf_3 : decode cX8_transferredOf 3 = .ok (.istore_n 3, 1) := by decide +kernel
theorem dX8_transferredOf_4 : decode cX8_transferredOf 4 = .ok (.iload_n 3, 1) := by decide +kernel
theorem dX8_transferredOf_5 : decode cX8_transferredOf 5 = .ok (.aload_n 0, 1) := by decide +kernel
theorem dX8_transferredOf_6 : decode cX8_transferredOf 6 = .ok (.getfield 17, 3) := by decide +kernel
theorem dX8_transferredOf_9 : decode cX8_transferredOf 9 = .ok (.iconst 0, 1) := by decide +kernel
theorem dX8_transferredOf_10 : decode cX8_transferredOf 10 = .ok (.iaload, 1) := by decide +kernel
theorem dX8_transferredOf_11 : decode cX8_transferredOf 11 = .ok (.if_icmp .ge 41, 3) := by decide +kernel
theorem dX8_transferredOf_14 : decode cX8_transferredOf 14 = .ok (.iload_n 2, 1) := by decide +kernel
theorem dX8_transferredOf_15 : decode cX8_transferredOf 15 = .ok (.aload_n 0, 1) := by decide +kernel
theorem dX8_transferredOf_16 : decode cX8_transferredOf 16 = .ok (.getfield 17, 3) := by decide +kernel
theorem dX8_transferredOf_19 : decode cX8_transferredOf 19 = .ok (.iload_n 3, 1) := by decide +kernel
theorem dX8_transferredOf_20 : decode cX8_transferredOf 20 = .ok (.invokestatic 126, 3) := by decide +kernel
theorem dX8_transferredOf_23 : decode cX8_transferredOf 23 = .ok (.bipush 10, 2) := by decide +kernel
theorem dX8_transferredOf_25 : decode cX8_transferredOf 25 = .ok (.iadd, 1) := by decide +kernel
theorem dX8_transferredOf_26 : decode cX8_transferredOf 26 = .ok (.iaload, 1) := by decide +kernel
theorem dX8_transferredOf_27 : decode cX8_transferredOf 27 = .ok (.iload_n 1, 1) := by decide +kernel
theorem dX8_transferredOf_28 : decode cX8_transferredOf 28 = .ok (.if_icmp .ne 15, 3) := by decide +kernel
theorem dX8_transferredOf_31 : decode cX8_transferredOf 31 = .ok (.aload_n 0, 1) := by decide +kernel
theorem dX8_transferredOf_32 : decode cX8_transferredOf 32 = .ok (.getfield 17, 3) := by decide +kernel
theorem dX8_transferredOf_35 : decode cX8_transferredOf 35 = .ok (.iload_n 3, 1) := by decide +kernel
theorem dX8_transferredOf_36 : decode cX8_transferredOf 36 = .ok (.invokestatic 126, 3) := by decide +kernel
theorem dX8_transferredOf_39 : decode cX8_transferredOf 39 = .ok (.iaload, 1) := by decide +kernel
theorem dX8_transferredOf_40 : decode cX8_transferredOf 40 = .ok (.goto 4, 3) := by decide +kernel
theorem dX8_transferredOf_43 : decode cX8_transferredOf 43 = .ok (.iconst 0, 1) := by decide +kernel
theorem dX8_transferredOf_44 : decode cX8_transferredOf 44 = .ok (.iadd, 1) := by decide +kernel
theorem dX8_transferredOf_45 : decode cX8_transferredOf 45 = .ok (.istore_n 2, 1) := by decide +kernel
theorem dX8_transferredOf_46 : decode cX8_transferredOf 46 = .ok (.iinc 3 1, 3) := by decide +kernel
theorem dX8_transferredOf_49 : decode cX8_transferredOf 49 = .ok (.goto (-45), 3) := by decide +kernel
theorem dX8_transferredOf_52 : decode cX8_transferredOf 52 = .ok (.iload_n 2, 1) := by decide +kernel
theorem dX8_transferredOf_53 : decode cX8_transferredOf 53 = .ok (.ireturn, 1) := by decide +kernel
theorem dX8_availableOf_0 : decode cX8_availableOf 0 = .ok (.aload_n 0, 1) := by decide +kernel
theorem dX8_availableOf_1 : decode cX8_availableOf 1 = .ok (.iload_n 1, 1) := by decide +kernel
theorem dX8_availableOf_2 : decode cX8_availableOf 2 = .ok (.invokevirtual 182, 3) := by decide +kernel
theorem dX8_availableOf_5 : decode cX8_availableOf 5 = .ok (.aload_n 0, 1) := by decide +kernel
theorem dX8_availableOf_6 : decode cX8_availableOf 6 = .ok (.iload_n 1, 1) := by decide +kernel
theorem dX8_availableOf_7 : decode cX8_availableOf 7 = .ok (.invokevirtual 195, 3) := by decide +kernel
theorem dX8_availableOf_10 : decode cX8_availableOf 10 = .ok (.isub, 1) := by decide +kernel
theorem dX8_availableOf_11 : decode cX8_availableOf 11 = .ok (.aload_n 0, 1) := by decide +kernel
theorem dX8_availableOf_12 : decode cX8_availableOf 12 = .ok (.iload_n 1, 1) := by decide +kernel
theorem dX8_availableOf_13 : decode cX8_availableOf 13 = .ok (.invokevirtual 198, 3) := by decide +kernel
theorem dX8_availableOf_16 : decode cX8_availableOf 16 = .ok (.isub, 1) := by decide +kernel
theorem dX8_availableOf_17 : decode cX8_availableOf 17 = .ok (.ireturn, 1) := by decide +kernel
theorem dX8_drawn_0 : decode cX8_drawn 0 = .ok (.aload_n 0, 1) := by decide +kernel
theorem dX8_drawn_1 : decode cX8_drawn 1 = .ok (.iconst 0, 1) := by decide +kernel
theorem dX8_drawn_2 : decode cX8_drawn 2 = .ok (.putfield 32, 3) := by decide +kernel
theorem dX8_drawn_5 : decode cX8_drawn 5 = .ok (.aload_n 0, 1) := by decide +kernel
theorem dX8_drawn_6 : decode cX8_drawn 6 = .ok (.iload_n 1, 1) := by decide +kernel
theorem dX8_drawn_7 : decode cX8_drawn 7 = .ok (.invokevirtual 179, 3) := by decide +kernel
theorem dX8_drawn_10 : decode cX8_drawn 10 = .ok (.ifCond .eq 7, 3) := by decide +kernel
theorem dX8_drawn_13 : decode cX8_drawn 13 = .ok (.iconst 0, 1) := by decide +kernel
theorem dX8_drawn_14 : decode cX8_drawn 14 = .ok (.goto 8, 3) := by decide +kernel
theorem dX8_drawn_17 : decode cX8_drawn 17 = .ok (.aload_n 0, 1) := by decide +kernel
theorem dX8_drawn_18 : decode cX8_drawn 18 = .ok (.iload_n 1, 1) := by decide +kernel
theorem dX8_drawn_19 : decode cX8_drawn 19 = .ok (.invokevirtual 195, 3) := by decide +kernel
theorem dX8_drawn_22 : decode cX8_drawn 22 = .ok (.ireturn, 1) := by decide +kernel
theorem dX8_transferred_0 : decode cX8_transferred 0 = .ok (.aload_n 0, 1) := by decide +kernel
theorem dX8_transferred_1 : decode cX8_transferred 1 = .ok (.iconst 0, 1) := by decide +kernel
theorem dX8_transferred_2 : decode cX8_transferred 2 = .ok (.putfield 32, 3) := by decide +kernel
theorem dX8_transferred_5 : decode cX8_transferred 5 = .ok (.aload_n 0, 1) := by decide +kernel
theorem dX8_transferred_6 : decode cX8_transferred 6 = .ok (.iload_n 1, 1) := by decide +kernel
theorem dX8_transferred_7 : decode cX8_transferred 7 = .ok (.invokevirtual 179, 3) := by decide +kernel
theorem dX8_transferred_10 : decode cX8_transferred 10 = .ok (.ifCond .eq 7, 3) := by decide +kernel
theorem dX8_transferred_13 : decode cX8_transferred 13 = .ok (.iconst 0, 1) := by decide +kernel
theorem dX8_transferred_14 : decode cX8_transferred 14 = .ok (.goto 8, 3) := by decide +kernel
theorem dX8_transferred_17 : decode cX8_transferred 17 = .ok (.aload_n 0, 1) := by decide +kernel
theorem dX8_transferred_18 : decode cX8_transferred 18 = .ok (.iload_n 1, 1) := by decide +kernel
theorem dX8_transferred_19 : decode cX8_transferred 19 = .ok (.invokevirtual 198, 3) := by decide +kernel
theorem dX8_transferred_22 : decode cX8_transferred 22 = .ok (.ireturn, 1) := by decide +kernel
theorem dX8_available_0 : decode cX8_available 0 = .ok (.aload_n 0, 1) := by decide +kernel
theorem dX8_available_1 : decode cX8_available 1 = .ok (.iconst 0, 1) := by decide +kernel
theorem dX8_available_2 : decode cX8_available 2 = .ok (.putfield 32, 3) := by decide +kernel
theorem dX8_available_5 : decode cX8_available 5 = .ok (.aload_n 0, 1) := by decide +kernel
theorem dX8_available_6 : decode cX8_available 6 = .ok (.iload_n 1, 1) := by decide +kernel
theorem dX8_available_7 : decode cX8_available 7 = .ok (.invokevirtual 179, 3) := by decide +kernel
theorem dX8_available_10 : decode cX8_available 10 = .ok (.ifCond .eq 7, 3) := by decide +kernel
theorem dX8_available_13 : decode cX8_available 13 = .ok (.iconst 0, 1) := by decide +kernel
theorem dX8_available_14 : decode cX8_available 14 = .ok (.goto 8, 3) := by decide +kernel
theorem dX8_available_17 : decode cX8_available 17 = .ok (.aload_n 0, 1) := by decide +kernel
theorem dX8_available_18 : decode cX8_available 18 = .ok (.iload_n 1, 1) := by decide +kernel
theorem dX8_available_19 : decode cX8_available 19 = .ok (.invokevirtual 201, 3) := by decide +kernel
theorem dX8_available_22 : decode cX8_available 22 = .ok (.ireturn, 1) := by decide +kernel
theorem dX8_lastDayOf_0 : decode cX8_lastDayOf 0 = .ok (.aload_n 0, 1) := by decide +kernel
theorem dX8_lastDayOf_1 : decode cX8_lastDayOf 1 = .ok (.aload_n 0, 1) := by decide +kernel
theorem dX8_lastDayOf_2 : decode cX8_lastDayOf 2 = .ok (.getfield 17, 3) := by decide +kernel
theorem dX8_lastDayOf_5 : decode cX8_lastDayOf 5 = .ok (.iload_n 1, 1) := by decide +kernel
theorem dX8_lastDayOf_6 : decode cX8_lastDayOf 6 = .ok (.invokestatic 126, 3) := by decide +kernel
theorem dX8_lastDayOf_9 : decode cX8_lastDayOf 9 = .ok (.iconst 3, 1) := by decide +kernel
theorem dX8_lastDayOf_10 : decode cX8_lastDayOf 10 = .ok (.iadd, 1) := by decide +kernel
theorem dX8_lastDayOf_11 : decode cX8_lastDayOf 11 = .ok (.iaload, 1) := by decide +kernel
theorem dX8_lastDayOf_12 : decode cX8_lastDayOf 12 = .ok (.invokevirtual 170, 3) := by decide +kernel
theorem dX8_lastDayOf_15 : decode cX8_lastDayOf 15 = .ok (.aload_n 0, 1) := by decide +kernel
theorem dX8_lastDayOf_16 : decode cX8_lastDayOf 16 = .ok (.iload_n 2, 1) := by decide +kernel
theorem dX8_lastDayOf_17 : decode cX8_lastDayOf 17 = .ok (.aload_n 0, 1) := by decide +kernel
theorem dX8_lastDayOf_18 : decode cX8_lastDayOf 18 = .ok (.getfield 17, 3) := by decide +kernel
theorem dX8_lastDayOf_21 : decode cX8_lastDayOf 21 = .ok (.iload_n 1, 1) := by decide +kernel
theorem dX8_lastDayOf_22 : decode cX8_lastDayOf 22 = .ok (.invokestatic 126, 3) := by decide +kernel
theorem dX8_lastDayOf_25 : decode cX8_lastDayOf 25 = .ok (.iconst 5, 1) := by decide +kernel
theorem dX8_lastDayOf_26 : decode cX8_lastDayOf 26 = .ok (.iadd, 1) := by decide +kernel
theorem dX8_lastDayOf_27 : decode cX8_lastDayOf 27 = .ok (.iaload, 1) := by decide +kernel
theorem dX8_lastDayOf_28 : decode cX8_lastDayOf 28 = .ok (.iadd, 1) := by decide +kernel
theorem dX8_lastDayOf_29 : decode cX8_lastDayOf 29 = .ok (.invokevirtual 170, 3) := by decide +kernel
theorem dX8_lastDayOf_32 : decode cX8_lastDayOf 32 = .ok (.invokestatic 87, 3) := by decide +kernel
theorem dX8_lastDayOf_35 : decode cX8_lastDayOf 35 = .ok (.ireturn, 1) := by decide +kernel
theorem dX8_faultsOf_0 : decode cX8_faultsOf 0 = .ok (.iload_n 1, 1) := by decide +kernel
theorem dX8_faultsOf_1 : decode cX8_faultsOf 1 = .ok (.invokestatic 126, 3) := by decide +kernel
theorem dX8_faultsOf_4 : decode cX8_faultsOf 4 = .ok (.istore 6, 2) := by decide +kernel
theorem dX8_faultsOf_6 : decode cX8_faultsOf 6 = .ok (.aload_n 0, 1) := by decide +kernel
theorem dX8_faultsOf_7 : decode cX8_faultsOf 7 = .ok (.getfield 17, 3) := by decide +kernel
theorem dX8_faultsOf_10 : decode cX8_faultsOf 10 = .ok (.iconst 3, 1) := by decide +kernel
theorem dX8_faultsOf_11 : decode cX8_faultsOf 11 = .ok (.iaload, 1) := by decide +kernel
theorem dX8_faultsOf_12 : decode cX8_faultsOf 12 = .ok (.istore 7, 2) := by decide +kernel
theorem dX8_faultsOf_14 : decode cX8_faultsOf 14 = .ok (.iconst 0, 1) := by decide +kernel
theorem dX8_faultsOf_15 : decode cX8_faultsOf 15 = .ok (.istore 8, 2) := by decide +kernel
theorem dX8_faultsOf_17 : decode cX8_faultsOf 17 = .ok (.iconst 0, 1) := by decide +kernel
theorem dX8_faultsOf_18 : decode cX8_faultsOf 18 = .ok (.istore 9, 2) := by decide +kernel
theorem dX8_faultsOf_20 : decode cX8_faultsOf 20 = .ok (.iconst 0, 1) := by decide +kernel
theorem dX8_faultsOf_21 : decode cX8_faultsOf 21 = .ok (.istore 10, 2) := by decide +kernel
theorem dX8_faultsOf_23 : decode cX8_faultsOf 23 = .ok (.iload 10, 2) := by decide +kernel
theorem dX8_faultsOf_25 : decode cX8_faultsOf 25 = .ok (.aload_n 0, 1) := by decide +kernel
theorem dX8_faultsOf_26 : decode cX8_faultsOf 26 = .ok (.getfield 17, 3) := by decide +kernel
theorem dX8_faultsOf_29 : decode cX8_faultsOf 29 = .ok (.iconst 1, 1) := by decide +kernel
theorem dX8_faultsOf_30 : decode cX8_faultsOf 30 = .ok (.iaload, 1) := by decide +kernel
theorem dX8_faultsOf_31 : decode cX8_faultsOf 31 = .ok (.if_icmp .ge 29, 3) := by decide +kernel
theorem dX8_faultsOf_34 : decode cX8_faultsOf 34 = .ok (.iload 8, 2) := by decide +kernel
theorem dX8_faultsOf_36 : decode cX8_faultsOf 36 = .ok (.aload_n 0, 1) := by decide +kernel
theorem dX8_faultsOf_37 : decode cX8_faultsOf 37 = .ok (.iload 10, 2) := by decide +kernel
theorem dX8_faultsOf_39 : decode cX8_faultsOf 39 = .ok (.iload_n 1, 1) := by decide +kernel
theorem dX8_faultsOf_40 : decode cX8_faultsOf 40 = .ok (.invokevirtual 191, 3) := by decide +kernel
theorem dX8_faultsOf_43 : decode cX8_faultsOf 43 = .ok (.ifCond .eq 7, 3) := by decide +kernel
theorem dX8_faultsOf_46 : decode cX8_faultsOf 46 = .ok (.iconst 1, 1) := by decide +kernel
theorem dX8_faultsOf_47 : decode cX8_faultsOf 47 = .ok (.goto 4, 3) := by decide +kernel
theorem dX8_faultsOf_50 : decode cX8_faultsOf 50 = .ok (.iconst 0, 1) := by decide +kernel
theorem dX8_faultsOf_51 : decode cX8_faultsOf 51 = .ok (.iadd, 1) := by decide +kernel
theorem dX8_faultsOf_52 : decode cX8_faultsOf 52 = .ok (.istore 8, 2) := by decide +kernel
theorem dX8_faultsOf_54 : decode cX8_faultsOf 54 = .ok (.iinc 10 1, 3) := by decide +kernel
theorem dX8_faultsOf_57 : decode cX8_faultsOf 57 = .ok (.goto (-34), 3) := by decide +kernel
theorem dX8_faultsOf_60 : decode cX8_faultsOf 60 = .ok (.iload 9, 2) := by decide +kernel
theorem dX8_faultsOf_62 : decode cX8_faultsOf 62 = .ok (.iload_n 2, 1) := by decide +kernel
theorem dX8_faultsOf_63 : decode cX8_faultsOf 63 = .ok (.aload_n 0, 1) := by decide +kernel
theorem dX8_faultsOf_64 : decode cX8_faultsOf 64 = .ok (.getfield 17, 3) := by decide +kernel
theorem dX8_faultsOf_67 : decode cX8_faultsOf 67 = .ok (.iload 6, 2) := by decide +kernel
theorem dX8_faultsOf_69 : decode cX8_faultsOf 69 = .ok (.iconst 4, 1) := by decide +kernel
theorem dX8_faultsOf_70 : decode cX8_faultsOf 70 = .ok (.iadd, 1) := by decide +kernel
theorem dX8_faultsOf_71 : decode cX8_faultsOf 71 = .ok (.iaload, 1) := by decide +kernel
theorem dX8_faultsOf_72 : decode cX8_faultsOf 72 = .ok (.if_icmp .le 7, 3) := by decide +kernel
theorem dX8_faultsOf_75 : decode cX8_faultsOf 75 = .ok (.iconst 1, 1) := by decide +kernel
theorem dX8_faultsOf_76 : decode cX8_faultsOf 76 = .ok (.goto 4, 3) := by decide +kernel
theorem dX8_faultsOf_79 : decode cX8_faultsOf 79 = .ok (.iconst 0, 1) := by decide +kernel
theorem dX8_faultsOf_80 : decode cX8_faultsOf 80 = .ok (.ior, 1) := by decide +kernel
theorem dX8_faultsOf_81 : decode cX8_faultsOf 81 = .ok (.istore 9, 2) := by decide +kernel
theorem dX8_faultsOf_83 : decode cX8_faultsOf 83 = .ok (.iload 9, 2) := by decide +kernel
theorem dX8_faultsOf_85 : decode cX8_faultsOf 85 = .ok (.iload 7, 2) := by decide +kernel
theorem dX8_faultsOf_87 : decode cX8_faultsOf 87 = .ok (.aload_n 0, 1) := by decide +kernel
theorem dX8_faultsOf_88 : decode cX8_faultsOf 88 = .ok (.iload_n 1, 1) := by decide +kernel
theorem dX8_faultsOf_89 : decode cX8_faultsOf 89 = .ok (.iload_n 2, 1) := by decide +kernel
theorem dX8_faultsOf_90 : decode cX8_faultsOf 90 = .ok (.invokevirtual 204, 3) := by decide +kernel
theorem dX8_faultsOf_93 : decode cX8_faultsOf 93 = .ok (.if_icmp .le 7, 3) := by decide +kernel
theorem dX8_faultsOf_96 : decode cX8_faultsOf 96 = .ok (.iconst 2, 1) := by decide +kernel
theorem dX8_faultsOf_97 : decode cX8_faultsOf 97 = .ok (.goto 4, 3) := by decide +kernel
theorem dX8_faultsOf_100 : decode cX8_faultsOf 100 = .ok (.iconst 0, 1) := by decide +kernel
theorem dX8_faultsOf_101 : decode cX8_faultsOf 101 = .ok (.ior, 1) := by decide +kernel
theorem dX8_faultsOf_102 : decode cX8_faultsOf 102 = .ok (.istore 9, 2) := by decide +kernel
theorem dX8_faultsOf_104 : decode cX8_faultsOf 104 = .ok (.iload 9, 2) := by decide +kernel
theorem dX8_faultsOf_106 : decode cX8_faultsOf 106 = .ok (.iload_n 3, 1) := by decide +kernel
theorem dX8_faultsOf_107 : decode cX8_faultsOf 107 = .ok (.aload_n 0, 1) := by decide +kernel
theorem dX8_faultsOf_108 : decode cX8_faultsOf 108 = .ok (.iload_n 1, 1) := by decide +kernel
theorem dX8_faultsOf_109 : decode cX8_faultsOf 109 = .ok (.invokevirtual 201, 3) := by decide +kernel
theorem dX8_faultsOf_112 : decode cX8_faultsOf 112 = .ok (.if_icmp .le 7, 3) := by decide +kernel
theorem dX8_faultsOf_115 : decode cX8_faultsOf 115 = .ok (.iconst 4, 1) := by decide +kernel
theorem dX8_faultsOf_116 : decode cX8_faultsOf 116 = .ok (.goto 4, 3) := by decide +kernel
theorem dX8_faultsOf_119 : decode cX8_faultsOf 119 = .ok (.iconst 0, 1) := by decide +kernel
theorem dX8_faultsOf_120 : decode cX8_faultsOf 120 = .ok (.ior, 1) := by decide +kernel
theorem dX8_faultsOf_121 : decode cX8_faultsOf 121 = .ok (.istore 9, 2) := by decide +kernel
theorem dX8_faultsOf_123 : decode cX8_faultsOf 123 = .ok (.iload 9, 2) := by decide +kernel
theorem dX8_faultsOf_125 : decode cX8_faultsOf 125 = .ok (.aload_n 0, 1) := by decide +kernel
theorem dX8_faultsOf_126 : decode cX8_faultsOf 126 = .ok (.getfield 17, 3) := by decide +kernel
theorem dX8_faultsOf_129 : decode cX8_faultsOf 129 = .ok (.iload 6, 2) := by decide +kernel
theorem dX8_faultsOf_131 : decode cX8_faultsOf 131 = .ok (.bipush 7, 2) := by decide +kernel
theorem dX8_faultsOf_133 : decode cX8_faultsOf 133 = .ok (.iadd, 1) := by decide +kernel
theorem dX8_faultsOf_134 : decode cX8_faultsOf 134 = .ok (.iaload, 1) := by decide +kernel
theorem dX8_faultsOf_135 : decode cX8_faultsOf 135 = .ok (.ifCond .ne 22, 3) := by decide +kernel
theorem dX8_faultsOf_138 : decode cX8_faultsOf 138 = .ok (.iload_n 3, 1) := by decide +kernel
theorem dX8_faultsOf_139 : decode cX8_faultsOf 139 = .ok (.aload_n 0, 1) := by decide +kernel
theorem dX8_faultsOf_140 : decode cX8_faultsOf 140 = .ok (.iload_n 1, 1) := by decide +kernel
theorem dX8_faultsOf_141 : decode cX8_faultsOf 141 = .ok (.invokevirtual 185, 3) := by decide +kernel
theorem dX8_faultsOf_144 : decode cX8_faultsOf 144 = .ok (.if_icmp .lt 8, 3) := by decide +kernel
theorem dX8_faultsOf_147 : decode cX8_faultsOf 147 = .ok (.iload 8, 2) := by decide +kernel
theorem dX8_faultsOf_149 : decode cX8_faultsOf 149 = .ok (.ifCond .le 8, 3) := by decide +kernel
theorem dX8_faultsOf_152 : decode cX8_faultsOf 152 = .ok (.bipush 8, 2) := by decide +kernel
theorem dX8_faultsOf_154 : decode cX8_faultsOf 154 = .ok (.goto 4, 3) := by decide +kernel
theorem dX8_faultsOf_157 : decode cX8_faultsOf 157 = .ok (.iconst 0, 1) := by decide +kernel
theorem dX8_faultsOf_158 : decode cX8_faultsOf 158 = .ok (.ior, 1) := by decide +kernel
theorem dX8_faultsOf_159 : decode cX8_faultsOf 159 = .ok (.istore 9, 2) := by decide +kernel
theorem dX8_faultsOf_161 : decode cX8_faultsOf 161 = .ok (.iload 9, 2) := by decide +kernel
theorem dX8_faultsOf_163 : decode cX8_faultsOf 163 = .ok (.aload_n 0, 1) := by decide +kernel
theorem dX8_faultsOf_164 : decode cX8_faultsOf 164 = .ok (.getfield 17, 3) := by decide +kernel
theorem dX8_faultsOf_167 : decode cX8_faultsOf 167 = .ok (.iload 6, 2) := by decide +kernel
theorem dX8_faultsOf_169 : decode cX8_faultsOf 169 = .ok (.bipush 9, 2) := by decide +kernel
theorem dX8_faultsOf_171 : decode cX8_faultsOf 171 = .ok (.iadd, 1) := by decide +kernel
theorem dX8_faultsOf_172 : decode cX8_faultsOf 172 = .ok (.iaload, 1) := by decide +kernel
theorem dX8_faultsOf_173 : decode cX8_faultsOf 173 = .ok (.iload 4, 2) := by decide +kernel
theorem dX8_faultsOf_175 : decode cX8_faultsOf 175 = .ok (.iconst (-1), 1) := by decide +kernel
theorem dX8_faultsOf_176 : decode cX8_faultsOf 176 = .ok (.ixor, 1) := by decide +kernel
theorem dX8_faultsOf_177 : decode cX8_faultsOf 177 = .ok (.iand, 1) := by decide +kernel
theorem dX8_faultsOf_178 : decode cX8_faultsOf 178 = .ok (.ifCond .eq 8, 3) := by decide +kernel
theorem dX8_faultsOf_181 : decode cX8_faultsOf 181 = .ok (.bipush 16, 2) := by decide +kernel
theorem dX8_faultsOf_183 : decode cX8_faultsOf 183 = .ok (.goto 4, 3) := by decide +kernel
theorem dX8_faultsOf_186 : decode cX8_faultsOf 186 = .ok (.iconst 0, 1) := by decide +kernel
theorem dX8_faultsOf_187 : decode cX8_faultsOf 187 = .ok (.ior, 1) := by decide +kernel
theorem dX8_faultsOf_188 : decode cX8_faultsOf 188 = .ok (.istore 9, 2) := by decide +kernel
theorem dX8_faultsOf_190 : decode cX8_faultsOf 190 = .ok (.iload 9, 2) := by decide +kernel
theorem dX8_faultsOf_192 : decode cX8_faultsOf 192 = .ok (.aload_n 0, 1) := by decide +kernel
theorem dX8_faultsOf_193 : decode cX8_faultsOf 193 = .ok (.getfield 17, 3) := by decide +kernel
theorem dX8_faultsOf_196 : decode cX8_faultsOf 196 = .ok (.iload 6, 2) := by decide +kernel
theorem dX8_faultsOf_198 : decode cX8_faultsOf 198 = .ok (.bipush 9, 2) := by decide +kernel
theorem dX8_faultsOf_200 : decode cX8_faultsOf 200 = .ok (.iadd, 1) := by decide +kernel
theorem dX8_faultsOf_201 : decode cX8_faultsOf 201 = .ok (.iaload, 1) := by decide +kernel
theorem dX8_faultsOf_202 : decode cX8_faultsOf 202 = .ok (.bipush 7, 2) := by decide +kernel
theorem dX8_faultsOf_204 : decode cX8_faultsOf 204 = .ok (.ishr, 1) := by decide +kernel
theorem dX8_faultsOf_205 : decode cX8_faultsOf 205 = .ok (.iconst 1, 1) := by decide +kernel
theorem dX8_faultsOf_206 : decode cX8_faultsOf 206 = .ok (.iand, 1) := by decide +kernel
theorem dX8_faultsOf_207 : decode cX8_faultsOf 207 = .ok (.iconst 1, 1) := by decide +kernel
theorem dX8_faultsOf_208 : decode cX8_faultsOf 208 = .ok (.if_icmp .ne 19, 3) := by decide +kernel
theorem dX8_faultsOf_211 : decode cX8_faultsOf 211 = .ok (.iload 5, 2) := by decide +kernel
theorem dX8_faultsOf_213 : decode cX8_faultsOf 213 = .ok (.iload_n 3, 1) := by decide +kernel
theorem dX8_faultsOf_214 : decode cX8_faultsOf 214 = .ok (.iload_n 3, 1) := by decide +kernel
theorem dX8_faultsOf_215 : decode cX8_faultsOf 215 = .ok (.bipush 10, 2) := by decide +kernel
theorem dX8_faultsOf_217 : decode cX8_faultsOf 217 = .ok (.idiv, 1) := by decide +kernel
theorem dX8_faultsOf_218 : decode cX8_faultsOf 218 = .ok (.iadd, 1) := by decide +kernel
theorem dX8_faultsOf_219 : decode cX8_faultsOf 219 = .ok (.if_icmp .ge 8, 3) := by decide +kernel
theorem dX8_faultsOf_222 : decode cX8_faultsOf 222 = .ok (.bipush 32, 2) := by decide +kernel
theorem dX8_faultsOf_224 : decode cX8_faultsOf 224 = .ok (.goto 4, 3) := by decide +kernel
theorem dX8_faultsOf_227 : decode cX8_faultsOf 227 = .ok (.iconst 0, 1) := by decide +kernel
theorem dX8_faultsOf_228 : decode cX8_faultsOf 228 = .ok (.ior, 1) := by decide +kernel
theorem dX8_faultsOf_229 : decode cX8_faultsOf 229 = .ok (.istore 9, 2) := by decide +kernel
theorem dX8_faultsOf_231 : decode cX8_faultsOf 231 = .ok (.iload 9, 2) := by decide +kernel
theorem dX8_faultsOf_233 : decode cX8_faultsOf 233 = .ok (.iload_n 2, 1) := by decide +kernel
theorem dX8_faultsOf_234 : decode cX8_faultsOf 234 = .ok (.iload 7, 2) := by decide +kernel
theorem dX8_faultsOf_236 : decode cX8_faultsOf 236 = .ok (.if_icmp .le 8, 3) := by decide +kernel
theorem dX8_faultsOf_239 : decode cX8_faultsOf 239 = .ok (.bipush 64, 2) := by decide +kernel
theorem dX8_faultsOf_241 : decode cX8_faultsOf 241 = .ok (.goto 4, 3) := by decide +kernel
theorem dX8_faultsOf_244 : decode cX8_faultsOf 244 = .ok (.iconst 0, 1) := by decide +kernel
theorem dX8_faultsOf_245 : decode cX8_faultsOf 245 = .ok (.ior, 1) := by decide +kernel
theorem dX8_faultsOf_246 : decode cX8_faultsOf 246 = .ok (.ireturn, 1) := by decide +kernel
theorem dX8_isWrong_0 : decode cX8_isWrong 0 = .ok (.iload_n 1, 1) := by decide +kernel
theorem dX8_isWrong_1 : decode cX8_isWrong 1 = .ok (.invokestatic 173, 3) := by decide +kernel
theorem dX8_isWrong_4 : decode cX8_isWrong 4 = .ok (.ifCond .eq 29, 3) := by decide +kernel
theorem dX8_isWrong_7 : decode cX8_isWrong 7 = .ok (.iload_n 2, 1) := by decide +kernel
theorem dX8_isWrong_8 : decode cX8_isWrong 8 = .ok (.iconst 1, 1) := by decide +kernel
theorem dX8_isWrong_9 : decode cX8_isWrong 9 = .ok (.ldc 207, 2) := by decide +kernel
theorem dX8_isWrong_11 : decode cX8_isWrong 11 = .ok (.invokestatic 54, 3) := by decide +kernel
theorem dX8_isWrong_14 : decode cX8_isWrong 14 = .ok (.ifCond .eq 19, 3) := by decide +kernel
theorem dX8_isWrong_17 : decode cX8_isWrong 17 = .ok (.iload_n 3, 1) := by decide +kernel
theorem dX8_isWrong_18 : decode cX8_isWrong 18 = .ok (.iconst 0, 1) := by decide +kernel
theorem dX8_isWrong_19 : decode cX8_isWrong 19 = .ok (.sipush 255, 3) := by decide +kernel
theorem dX8_isWrong_22 : decode cX8_isWrong 22 = .ok (.invokestatic 54, 3) := by decide +kernel
theorem dX8_isWrong_25 : decode cX8_isWrong 25 = .ok (.ifCond .eq 8, 3) := by decide +kernel
theorem dX8_isWrong_28 : decode cX8_isWrong 28 = .ok (.iload 4, 2) := by decide +kernel
theorem dX8_isWrong_30 : decode cX8_isWrong 30 = .ok (.ifCond .ge 7, 3) := by decide +kernel
theorem dX8_isWrong_33 : decode cX8_isWrong 33 = .ok (.iconst 1, 1) := by decide +kernel
theorem dX8_isWrong_34 : decode cX8_isWrong 34 = .ok (.goto 4, 3) := by decide +kernel
theorem dX8_isWrong_37 : decode cX8_isWrong 37 = .ok (.iconst 0, 1) := by decide +kernel
theorem dX8_isWrong_38 : decode cX8_isWrong 38 = .ok (.ireturn, 1) := by decide +kernel
theorem dX8_check_0 : decode cX8_check 0 = .ok (.aload_n 0, 1) := by decide +kernel
theorem dX8_check_1 : decode cX8_check 1 = .ok (.iconst 0, 1) := by decide +kernel
theorem dX8_check_2 : decode cX8_check 2 = .ok (.putfield 32, 3) := by decide +kernel
theorem dX8_check_5 : decode cX8_check 5 = .ok (.aload_n 0, 1) := by decide +kernel
theorem dX8_check_6 : decode cX8_check 6 = .ok (.iload_n 1, 1) := by decide +kernel
theorem dX8_check_7 : decode cX8_check 7 = .ok (.invokevirtual 179, 3) := by decide +kernel
theorem dX8_check_10 : decode cX8_check 10 = .ok (.ifCond .ne 21, 3) := by decide +kernel
theorem dX8_check_13 : decode cX8_check 13 = .ok (.aload_n 0, 1) := by decide +kernel
theorem dX8_check_14 : decode cX8_check 14 = .ok (.aload_n 0, 1) := by decide +kernel
theorem dX8_check_15 : decode cX8_check 15 = .ok (.iload_n 2, 1) := by decide +kernel
theorem dX8_check_16 : decode cX8_check 16 = .ok (.iload_n 3, 1) := by decide +kernel
theorem dX8_check_17 : decode cX8_check 17 = .ok (.iload 4, 2) := by decide +kernel
theorem dX8_check_19 : decode cX8_check 19 = .ok (.iload 5, 2) := by decide +kernel
theorem dX8_check_21 : decode cX8_check 21 = .ok (.invokevirtual 208, 3) := by decide +kernel
theorem dX8_check_24 : decode cX8_check 24 = .ok (.iconst 2, 1) := by decide +kernel
theorem dX8_check_25 : decode cX8_check 25 = .ok (.invokevirtual 153, 3) := by decide +kernel
theorem dX8_check_28 : decode cX8_check 28 = .ok (.ifCond .eq 7, 3) := by decide +kernel
theorem dX8_check_31 : decode cX8_check 31 = .ok (.iconst 0, 1) := by decide +kernel
theorem dX8_check_32 : decode cX8_check 32 = .ok (.goto 14, 3) := by decide +kernel
theorem dX8_check_35 : decode cX8_check 35 = .ok (.aload_n 0, 1) := by decide +kernel
theorem dX8_check_36 : decode cX8_check 36 = .ok (.iload_n 1, 1) := by decide +kernel
theorem dX8_check_37 : decode cX8_check 37 = .ok (.iload_n 2, 1) := by decide +kernel
theorem dX8_check_38 : decode cX8_check 38 = .ok (.iload_n 3, 1) := by decide +kernel
theorem dX8_check_39 : decode cX8_check 39 = .ok (.iload 4, 2) := by decide +kernel
theorem dX8_check_41 : decode cX8_check 41 = .ok (.iload 5, 2) := by decide +kernel
theorem dX8_check_43 : decode cX8_check 43 = .ok (.invokevirtual 212, 3) := by decide +kernel
theorem dX8_check_46 : decode cX8_check 46 = .ok (.ireturn, 1) := by decide +kernel
theorem dX8_lastDay_0 : decode cX8_lastDay 0 = .ok (.aload_n 0, 1) := by decide +kernel
theorem dX8_lastDay_1 : decode cX8_lastDay 1 = .ok (.iconst 0, 1) := by decide +kernel
theorem dX8_lastDay_2 : decode cX8_lastDay 2 = .ok (.putfield 32, 3) := by decide +kernel
theorem dX8_lastDay_5 : decode cX8_lastDay 5 = .ok (.aload_n 0, 1) := by decide +kernel
theorem dX8_lastDay_6 : decode cX8_lastDay 6 = .ok (.iload_n 1, 1) := by decide +kernel
theorem dX8_lastDay_7 : decode cX8_lastDay 7 = .ok (.invokevirtual 179, 3) := by decide +kernel
theorem dX8_lastDay_10 : decode cX8_lastDay 10 = .ok (.ifCond .ne 23, 3) := by decide +kernel
theorem dX8_lastDay_13 : decode cX8_lastDay 13 = .ok (.aload_n 0, 1) := by decide +kernel
theorem dX8_lastDay_14 : decode cX8_lastDay 14 = .ok (.iload_n 2, 1) := by decide +kernel
theorem dX8_lastDay_15 : decode cX8_lastDay 15 = .ok (.invokestatic 173, 3) := by decide +kernel
theorem dX8_lastDay_18 : decode cX8_lastDay 18 = .ok (.ifCond .ne 7, 3) := by decide +kernel
theorem dX8_lastDay_21 : decode cX8_lastDay 21 = .ok (.iconst 1, 1) := by decide +kernel
theorem dX8_lastDay_22 : decode cX8_lastDay 22 = .ok (.goto 4, 3) := by decide +kernel
theorem dX8_lastDay_25 : decode cX8_lastDay 25 = .ok (.iconst 0, 1) := by decide +kernel
theorem dX8_lastDay_26 : decode cX8_lastDay 26 = .ok (.iconst 2, 1) := by decide +kernel
theorem dX8_lastDay_27 : decode cX8_lastDay 27 = .ok (.invokevirtual 153, 3) := by decide +kernel
theorem dX8_lastDay_30 : decode cX8_lastDay 30 = .ok (.ifCond .eq 7, 3) := by decide +kernel
theorem dX8_lastDay_33 : decode cX8_lastDay 33 = .ok (.iconst 0, 1) := by decide +kernel
theorem dX8_lastDay_34 : decode cX8_lastDay 34 = .ok (.goto 9, 3) := by decide +kernel
theorem dX8_lastDay_37 : decode cX8_lastDay 37 = .ok (.aload_n 0, 1) := by decide +kernel
theorem dX8_lastDay_38 : decode cX8_lastDay 38 = .ok (.iload_n 1, 1) := by decide +kernel
theorem dX8_lastDay_39 : decode cX8_lastDay 39 = .ok (.iload_n 2, 1) := by decide +kernel
theorem dX8_lastDay_40 : decode cX8_lastDay 40 = .ok (.invokevirtual 204, 3) := by decide +kernel
theorem dX8_lastDay_43 : decode cX8_lastDay 43 = .ok (.ireturn, 1) := by decide +kernel
theorem dX8_creditOf_0 : decode cX8_creditOf 0 = .ok (.aload_n 0, 1) := by decide +kernel
theorem dX8_creditOf_1 : decode cX8_creditOf 1 = .ok (.iconst 0, 1) := by decide +kernel
theorem dX8_creditOf_2 : decode cX8_creditOf 2 = .ok (.putfield 32, 3) := by decide +kernel
theorem dX8_creditOf_5 : decode cX8_creditOf 5 = .ok (.aload_n 0, 1) := by decide +kernel
theorem dX8_creditOf_6 : decode cX8_creditOf 6 = .ok (.iload_n 1, 1) := by decide +kernel
theorem dX8_creditOf_7 : decode cX8_creditOf 7 = .ok (.invokevirtual 216, 3) := by decide +kernel
theorem dX8_creditOf_10 : decode cX8_creditOf 10 = .ok (.ifCond .eq 7, 3) := by decide +kernel
theorem dX8_creditOf_13 : decode cX8_creditOf 13 = .ok (.iconst 0, 1) := by decide +kernel
theorem dX8_creditOf_14 : decode cX8_creditOf 14 = .ok (.goto 12, 3) := by decide +kernel
theorem dX8_creditOf_17 : decode cX8_creditOf 17 = .ok (.aload_n 0, 1) := by decide +kernel
theorem dX8_creditOf_18 : decode cX8_creditOf 18 = .ok (.getfield 17, 3) := by decide +kernel
theorem dX8_creditOf_21 : decode cX8_creditOf 21 = .ok (.iload_n 1, 1) := by decide +kernel
theorem dX8_creditOf_22 : decode cX8_creditOf 22 = .ok (.invokestatic 188, 3) := by decide +kernel
theorem dX8_creditOf_25 : decode cX8_creditOf 25 = .ok (.iaload, 1) := by decide +kernel
theorem dX8_creditOf_26 : decode cX8_creditOf 26 = .ok (.ireturn, 1) := by decide +kernel
theorem dX8_state_0 : decode cX8_state 0 = .ok (.aload_n 0, 1) := by decide +kernel
theorem dX8_state_1 : decode cX8_state 1 = .ok (.iconst 0, 1) := by decide +kernel
theorem dX8_state_2 : decode cX8_state 2 = .ok (.putfield 32, 3) := by decide +kernel
theorem dX8_state_5 : decode cX8_state 5 = .ok (.aload_n 0, 1) := by decide +kernel
theorem dX8_state_6 : decode cX8_state 6 = .ok (.iload_n 1, 1) := by decide +kernel
theorem dX8_state_7 : decode cX8_state 7 = .ok (.invokevirtual 216, 3) := by decide +kernel
theorem dX8_state_10 : decode cX8_state 10 = .ok (.ifCond .eq 7, 3) := by decide +kernel
theorem dX8_state_13 : decode cX8_state 13 = .ok (.iconst 0, 1) := by decide +kernel
theorem dX8_state_14 : decode cX8_state 14 = .ok (.goto 14, 3) := by decide +kernel
theorem dX8_state_17 : decode cX8_state 17 = .ok (.aload_n 0, 1) := by decide +kernel
theorem dX8_state_18 : decode cX8_state 18 = .ok (.getfield 17, 3) := by decide +kernel
theorem dX8_state_21 : decode cX8_state 21 = .ok (.iload_n 1, 1) := by decide +kernel
theorem dX8_state_22 : decode cX8_state 22 = .ok (.invokestatic 188, 3) := by decide +kernel
theorem dX8_state_25 : decode cX8_state 25 = .ok (.iconst 4, 1) := by decide +kernel
theorem dX8_state_26 : decode cX8_state 26 = .ok (.iadd, 1) := by decide +kernel
theorem dX8_state_27 : decode cX8_state 27 = .ok (.iaload, 1) := by decide +kernel
theorem dX8_state_28 : decode cX8_state 28 = .ok (.ireturn, 1) := by decide +kernel
theorem dX8_discrepancies_0 : decode cX8_discrepancies 0 = .ok (.aload_n 0, 1) := by decide +kernel
theorem dX8_discrepancies_1 : decode cX8_discrepancies 1 = .ok (.iconst 0, 1) := by decide +kernel
theorem dX8_discrepancies_2 : decode cX8_discrepancies 2 = .ok (.putfield 32, 3) := by decide +kernel
theorem dX8_discrepancies_5 : decode cX8_discrepancies 5 = .ok (.aload_n 0, 1) := by decide +kernel
theorem dX8_discrepancies_6 : decode cX8_discrepancies 6 = .ok (.iload_n 1, 1) := by decide +kernel
theorem dX8_discrepancies_7 : decode cX8_discrepancies 7 = .ok (.invokevirtual 216, 3) := by decide +kernel
theorem dX8_discrepancies_10 : decode cX8_discrepancies 10 = .ok (.ifCond .eq 7, 3) := by decide +kernel
theorem dX8_discrepancies_13 : decode cX8_discrepancies 13 = .ok (.iconst 0, 1) := by decide +kernel
theorem dX8_discrepancies_14 : decode cX8_discrepancies 14 = .ok (.goto 14, 3) := by decide +kernel
theorem dX8_discrepancies_17 : decode cX8_discrepancies 17 = .ok (.aload_n 0, 1) := by decide +kernel
theorem dX8_discrepancies_18 : decode cX8_discrepancies 18 = .ok (.getfield 17, 3) := by decide +kernel
theorem dX8_discrepancies_21 : decode cX8_discrepancies 21 = .ok (.iload_n 1, 1) := by decide +kernel
theorem dX8_discrepancies_22 : decode cX8_discrepancies 22 = .ok (.invokestatic 188, 3) := by decide +kernel
theorem dX8_discrepancies_25 : decode cX8_discrepancies 25 = .ok (.iconst 3, 1) := by decide +kernel
theorem dX8_discrepancies_26 : decode cX8_discrepancies 26 = .ok (.iadd, 1) := by decide +kernel
theorem dX8_discrepancies_27 : decode cX8_discrepancies 27 = .ok (.iaload, 1) := by decide +kernel
theorem dX8_discrepancies_28 : decode cX8_discrepancies 28 = .ok (.ireturn, 1) := by decide +kernel
theorem dX8_deadlineOf_0 : decode cX8_deadlineOf 0 = .ok (.aload_n 0, 1) := by decide +kernel
theorem dX8_deadlineOf_1 : decode cX8_deadlineOf 1 = .ok (.aload_n 0, 1) := by decide +kernel
theorem dX8_deadlineOf_2 : decode cX8_deadlineOf 2 = .ok (.getfield 17, 3) := by decide +kernel
theorem dX8_deadlineOf_5 : decode cX8_deadlineOf 5 = .ok (.iload_n 1, 1) := by decide +kernel
theorem dX8_deadlineOf_6 : decode cX8_deadlineOf 6 = .ok (.invokestatic 188, 3) := by decide +kernel
theorem dX8_deadlineOf_9 : decode cX8_deadlineOf 9 = .ok (.iconst 1, 1) := by decide +kernel
theorem dX8_deadlineOf_10 : decode cX8_deadlineOf 10 = .ok (.iadd, 1) := by decide +kernel
theorem dX8_deadlineOf_11 : decode cX8_deadlineOf 11 = .ok (.iaload, 1) := by decide +kernel
theorem dX8_deadlineOf_12 : decode cX8_deadlineOf 12 = .ok (.iconst 5, 1) := by decide +kernel
theorem dX8_deadlineOf_13 : decode cX8_deadlineOf 13 = .ok (.invokevirtual 176, 3) := by decide +kernel
theorem dX8_deadlineOf_16 : decode cX8_deadlineOf 16 = .ok (.ireturn, 1) := by decide +kernel
theorem dX8_deadline_0 : decode cX8_deadline 0 = .ok (.aload_n 0, 1) := by decide +kernel
theorem dX8_deadline_1 : decode cX8_deadline 1 = .ok (.iconst 0, 1) := by decide +kernel
theorem dX8_deadline_2 : decode cX8_deadline 2 = .ok (.putfield 32, 3) := by decide +kernel
theorem dX8_deadline_5 : decode cX8_deadline 5 = .ok (.aload_n 0, 1) := by decide +kernel
theorem dX8_deadline_6 : decode cX8_deadline 6 = .ok (.iload_n 1, 1) := by decide +kernel
theorem dX8_deadline_7 : decode cX8_deadline 7 = .ok (.invokevirtual 216, 3) := by decide +kernel
theorem dX8_deadline_10 : decode cX8_deadline 10 = .ok (.ifCond .eq 7, 3) := by decide +kernel
theorem dX8_deadline_13 : decode cX8_deadline 13 = .ok (.iconst 0, 1) := by decide +kernel
theorem dX8_deadline_14 : decode cX8_deadline 14 = .ok (.goto 8, 3) := by decide +kernel
theorem dX8_deadline_17 : decode cX8_deadline 17 = .ok (.aload_n 0, 1) := by decide +kernel
theorem dX8_deadline_18 : decode cX8_deadline 18 = .ok (.iload_n 1, 1) := by decide +kernel
theorem dX8_deadline_19 : decode cX8_deadline 19 = .ok (.invokevirtual 219, 3) := by decide +kernel
theorem dX8_deadline_22 : decode cX8_deadline 22 = .ok (.ireturn, 1) := by decide +kernel
theorem dX8_dueOf_0 : decode cX8_dueOf 0 = .ok (.iload_n 1, 1) := by decide +kernel
theorem dX8_dueOf_1 : decode cX8_dueOf 1 = .ok (.invokestatic 188, 3) := by decide +kernel
theorem dX8_dueOf_4 : decode cX8_dueOf 4 = .ok (.istore_n 2, 1) := by decide +kernel
theorem dX8_dueOf_5 : decode cX8_dueOf 5 = .ok (.aload_n 0, 1) := by decide +kernel
theorem dX8_dueOf_6 : decode cX8_dueOf 6 = .ok (.getfield 17, 3) := by decide +kernel
theorem dX8_dueOf_9 : decode cX8_dueOf 9 = .ok (.iload_n 2, 1) := by decide +kernel
theorem dX8_dueOf_10 : decode cX8_dueOf 10 = .ok (.iconst 4, 1) := by decide +kernel
theorem dX8_dueOf_11 : decode cX8_dueOf 11 = .ok (.iadd, 1) := by decide +kernel
theorem dX8_dueOf_12 : decode cX8_dueOf 12 = .ok (.iaload, 1) := by decide +kernel
theorem dX8_dueOf_13 : decode cX8_dueOf 13 = .ok (.iconst 2, 1) := by decide +kernel
theorem dX8_dueOf_14 : decode cX8_dueOf 14 = .ok (.if_icmp .ne 36, 3) := by decide +kernel
theorem dX8_dueOf_17 : decode cX8_dueOf 17 = .ok (.aload_n 0, 1) := by decide +kernel
theorem dX8_dueOf_18 : decode cX8_dueOf 18 = .ok (.aload_n 0, 1) := by decide +kernel
theorem dX8_dueOf_19 : decode cX8_dueOf 19 = .ok (.getfield 17, 3) := by decide +kernel
theorem dX8_dueOf_22 : decode cX8_dueOf 22 = .ok (.iload_n 2, 1) := by decide +kernel
theorem dX8_dueOf_23 : decode cX8_dueOf 23 = .ok (.iconst 5, 1) := by decide +kernel
theorem dX8_dueOf_24 : decode cX8_dueOf 24 = .ok (.iadd, 1) := by decide +kernel
theorem dX8_dueOf_25 : decode cX8_dueOf 25 = .ok (.iaload, 1) := by decide +kernel
theorem dX8_dueOf_26 : decode cX8_dueOf 26 = .ok (.aload_n 0, 1) := by decide +kernel
theorem dX8_dueOf_27 : decode cX8_dueOf 27 = .ok (.getfield 17, 3) := by decide +kernel
theorem dX8_dueOf_30 : decode cX8_dueOf 30 = .ok (.aload_n 0, 1) := by decide +kernel
theorem dX8_dueOf_31 : decode cX8_dueOf 31 = .ok (.getfield 17, 3) := by decide +kernel
theorem dX8_dueOf_34 : decode cX8_dueOf 34 = .ok (.iload_n 2, 1) := by decide +kernel
theorem dX8_dueOf_35 : decode cX8_dueOf 35 = .ok (.iaload, 1) := by decide +kernel
theorem dX8_dueOf_36 : decode cX8_dueOf 36 = .ok (.invokestatic 126, 3) := by decide +kernel
theorem dX8_dueOf_39 : decode cX8_dueOf 39 = .ok (.bipush 6, 2) := by decide +kernel
theorem dX8_dueOf_41 : decode cX8_dueOf 41 = .ok (.iadd, 1) := by decide +kernel
theorem dX8_dueOf_42 : decode cX8_dueOf 42 = .ok (.iaload, 1) := by decide +kernel
theorem dX8_dueOf_43 : decode cX8_dueOf 43 = .ok (.iadd, 1) := by decide +kernel
theorem dX8_dueOf_44 : decode cX8_dueOf 44 = .ok (.invokevirtual 170, 3) := by decide +kernel
theorem dX8_dueOf_47 : decode cX8_dueOf 47 = .ok (.goto 4, 3) := by decide +kernel
theorem dX8_dueOf_50 : decode cX8_dueOf 50 = .ok (.iconst (-1), 1) := by decide +kernel
theorem dX8_dueOf_51 : decode cX8_dueOf 51 = .ok (.ireturn, 1) := by decide +kernel
theorem dX8_dueDay_0 : decode cX8_dueDay 0 = .ok (.aload_n 0, 1) := by decide +kernel
theorem dX8_dueDay_1 : decode cX8_dueDay 1 = .ok (.iconst 0, 1) := by decide +kernel
theorem dX8_dueDay_2 : decode cX8_dueDay 2 = .ok (.putfield 32, 3) := by decide +kernel
theorem dX8_dueDay_5 : decode cX8_dueDay 5 = .ok (.aload_n 0, 1) := by decide +kernel
theorem dX8_dueDay_6 : decode cX8_dueDay 6 = .ok (.iload_n 1, 1) := by decide +kernel
theorem dX8_dueDay_7 : decode cX8_dueDay 7 = .ok (.invokevirtual 216, 3) := by decide +kernel
theorem dX8_dueDay_10 : decode cX8_dueDay 10 = .ok (.ifCond .eq 7, 3) := by decide +kernel
theorem dX8_dueDay_13 : decode cX8_dueDay 13 = .ok (.iconst 0, 1) := by decide +kernel
theorem dX8_dueDay_14 : decode cX8_dueDay 14 = .ok (.goto 8, 3) := by decide +kernel
theorem dX8_dueDay_17 : decode cX8_dueDay 17 = .ok (.aload_n 0, 1) := by decide +kernel
theorem dX8_dueDay_18 : decode cX8_dueDay 18 = .ok (.iload_n 1, 1) := by decide +kernel
theorem dX8_dueDay_19 : decode cX8_dueDay 19 = .ok (.invokevirtual 222, 3) := by decide +kernel
theorem dX8_dueDay_22 : decode cX8_dueDay 22 = .ok (.ireturn, 1) := by decide +kernel
theorem dX8_dueBetween_0 : decode cX8_dueBetween 0 = .ok (.aload_n 0, 1) := by decide +kernel
theorem dX8_dueBetween_1 : decode cX8_dueBetween 1 = .ok (.iconst 0, 1) := by decide +kernel
theorem dX8_dueBetween_2 : decode cX8_dueBetween 2 = .ok (.putfield 32, 3) := by decide +kernel
theorem dX8_dueBetween_5 : decode cX8_dueBetween 5 = .ok (.lconst 0, 1) := by decide +kernel
theorem dX8_dueBetween_6 : decode cX8_dueBetween 6 = .ok (.lstore_n 3, 1) := by decide +kernel
theorem dX8_dueBetween_7 : decode cX8_dueBetween 7 = .ok (.iconst 0, 1) := by decide +kernel
theorem dX8_dueBetween_8 : decode cX8_dueBetween 8 = .ok (.istore 5, 2) := by decide +kernel
theorem dX8_dueBetween_10 : decode cX8_dueBetween 10 = .ok (.iload 5, 2) := by decide +kernel
theorem dX8_dueBetween_12 : decode cX8_dueBetween 12 = .ok (.aload_n 0, 1) := by decide +kernel
theorem dX8_dueBetween_13 : decode cX8_dueBetween 13 = .ok (.getfield 17, 3) := by decide +kernel
theorem dX8_dueBetween_16 : decode cX8_dueBetween 16 = .ok (.iconst 1, 1) := by decide +kernel
theorem dX8_dueBetween_17 : decode cX8_dueBetween 17 = .ok (.iaload, 1) := by decide +kernel
theorem dX8_dueBetween_18 : decode cX8_dueBetween 18 = .ok (.if_icmp .ge 51, 3) := by decide +kernel
theorem dX8_dueBetween_21 : decode cX8_dueBetween 21 = .ok (.aload_n 0, 1) := by decide +kernel
theorem dX8_dueBetween_22 : decode cX8_dueBetween 22 = .ok (.iload 5, 2) := by decide +kernel
theorem dX8_dueBetween_24 : decode cX8_dueBetween 24 = .ok (.invokevirtual 222, 3) := by decide +kernel
theorem dX8_dueBetween_27 : decode cX8_dueBetween 27 = .ok (.istore 6, 2) := by decide +kernel
theorem dX8_dueBetween_29 : decode cX8_dueBetween 29 = .ok (.iload 6, 2) := by decide +kernel
theorem dX8_dueBetween_31 : decode cX8_dueBetween 31 = .ok (.iconst (-1), 1) := by decide +kernel
theorem dX8_dueBetween_32 : decode cX8_dueBetween 32 = .ok (.if_icmp .eq 31, 3) := by decide +kernel
theorem dX8_dueBetween_35 : decode cX8_dueBetween 35 = .ok (.iload 6, 2) := by decide +kernel
theorem dX8_dueBetween_37 : decode cX8_dueBetween 37 = .ok (.iload_n 1, 1) := by decide +kernel
theorem dX8_dueBetween_38 : decode cX8_dueBetween 38 = .ok (.if_icmp .lt 25, 3) := by decide +kernel
theorem dX8_dueBetween_41 : decode cX8_dueBetween 41 = .ok (.iload 6, 2) := by decide +kernel
theorem dX8_dueBetween_43 : decode cX8_dueBetween 43 = .ok (.iload_n 2, 1) := by decide +kernel
theorem dX8_dueBetween_44 : decode cX8_dueBetween 44 = .ok (.if_icmp .gt 19, 3) := by decide +kernel
theorem dX8_dueBetween_47 : decode cX8_dueBetween 47 = .ok (.lload_n 3, 1) := by decide +kernel
theorem dX8_dueBetween_48 : decode cX8_dueBetween 48 = .ok (.aload_n 0, 1) := by decide +kernel
theorem dX8_dueBetween_49 : decode cX8_dueBetween 49 = .ok (.getfield 17, 3) := by decide +kernel
theorem dX8_dueBetween_52 : decode cX8_dueBetween 52 = .ok (.iload 5, 2) := by decide +kernel
theorem dX8_dueBetween_54 : decode cX8_dueBetween 54 = .ok (.invokestatic 188, 3) := by decide +kernel
theorem dX8_dueBetween_57 : decode cX8_dueBetween 57 = .ok (.iconst 2, 1) := by decide +kernel
theorem dX8_dueBetween_58 : decode cX8_dueBetween 58 = .ok (.iadd, 1) := by decide +kernel
theorem dX8_dueBetween_59 : decode cX8_dueBetween 59 = .ok (.iaload, 1) := by decide +kernel
theorem dX8_dueBetween_60 : decode cX8_dueBetween 60 = .ok (.i2l, 1) := by decide +kernel
theorem dX8_dueBetween_61 : decode cX8_dueBetween 61 = .ok (.ladd, 1) := by decide +kernel
theorem dX8_dueBetween_62 : decode cX8_dueBetween 62 = .ok (.lstore_n 3, 1) := by decide +kernel
theorem dX8_dueBetween_63 : decode cX8_dueBetween 63 = .ok (.iinc 5 1, 3) := by decide +kernel
theorem dX8_dueBetween_66 : decode cX8_dueBetween 66 = .ok (.goto (-56), 3) := by decide +kernel
theorem dX8_dueBetween_69 : decode cX8_dueBetween 69 = .ok (.lload_n 3, 1) := by decide +kernel
theorem dX8_dueBetween_70 : decode cX8_dueBetween 70 = .ok (.lreturn, 1) := by decide +kernel
theorem dX8_limited_0 : decode cX8_limited 0 = .ok (.lload_n 0, 1) := by decide +kernel
theorem dX8_limited_1 : decode cX8_limited 1 = .ok (.ldc2_w 225, 3) := by decide +kernel
theorem dX8_limited_4 : decode cX8_limited 4 = .ok (.lcmp, 1) := by decide +kernel
theorem dX8_limited_5 : decode cX8_limited 5 = .ok (.ifCond .le 9, 3) := by decide +kernel
theorem dX8_limited_8 : decode cX8_limited 8 = .ok (.ldc2_w 225, 3) := by decide +kernel
theorem dX8_limited_11 : decode cX8_limited 11 = .ok (.goto 18, 3) := by decide +kernel
theorem dX8_limited_14 : decode cX8_limited 14 = .ok (.lload_n 0, 1) := by decide +kernel
theorem dX8_limited_15 : decode cX8_limited 15 = .ok (.ldc2_w 227, 3) := by decide +kernel
theorem dX8_limited_18 : decode cX8_limited 18 = .ok (.lcmp, 1) := by decide +kernel
theorem dX8_limited_19 : decode cX8_limited 19 = .ok (.ifCond .ge 9, 3) := by decide +kernel
theorem dX8_limited_22 : decode cX8_limited 22 = .ok (.ldc2_w 227, 3) := by decide +kernel
theorem dX8_limited_25 : decode cX8_limited 25 = .ok (.goto 4, 3) := by decide +kernel
theorem dX8_limited_28 : decode cX8_limited 28 = .ok (.lload_n 0, 1) := by decide +kernel
theorem dX8_limited_29 : decode cX8_limited 29 = .ok (.lreturn, 1) := by decide +kernel
theorem dX8_operate_0 : decode cX8_operate 0 = .ok (.iload_n 0, 1) := by decide +kernel
theorem dX8_operate_1 : decode cX8_operate 1 = .ok (.iconst 5, 1) := by decide +kernel
theorem dX8_operate_2 : decode cX8_operate 2 = .ok (.if_icmp .ne 17, 3) := by decide +kernel
theorem dX8_operate_5 : decode cX8_operate 5 = .ok (.lload_n 3, 1) := by decide +kernel
theorem dX8_operate_6 : decode cX8_operate 6 = .ok (.lconst 0, 1) := by decide +kernel
theorem dX8_operate_7 : decode cX8_operate 7 = .ok (.lcmp, 1) := by decide +kernel
theorem dX8_operate_8 : decode cX8_operate 8 = .ok (.ifCond .ne 7, 3) := by decide +kernel
theorem dX8_operate_11 : decode cX8_operate 11 = .ok (.lconst 0, 1) := by decide +kernel
theorem dX8_operate_12 : decode cX8_operate 12 = .ok (.goto 6, 3) := by decide +kernel
theorem dX8_operate_15 : decode cX8_operate 15 = .ok (.lload_n 1, 1) := by decide +kernel
theorem dX8_operate_16 : decode cX8_operate 16 = .ok (.lload_n 3, 1) := by decide +kernel
theorem dX8_operate_17 : decode cX8_operate 17 = .ok (.ldiv, 1) := by decide +kernel
theorem dX8_operate_18 : decode cX8_operate 18 = .ok (.lreturn, 1) := by decide +kernel
theorem dX8_operate_19 : decode cX8_operate 19 = .ok (.iload_n 0, 1) := by decide +kernel
theorem dX8_operate_20 : decode cX8_operate 20 = .ok (.iconst 2, 1) := by decide +kernel
theorem dX8_operate_21 : decode cX8_operate 21 = .ok (.if_icmp .ne 9, 3) := by decide +kernel
theorem dX8_operate_24 : decode cX8_operate 24 = .ok (.lload_n 1, 1) := by decide +kernel
theorem dX8_operate_25 : decode cX8_operate 25 = .ok (.lload_n 3, 1) := by decide +kernel
theorem dX8_operate_26 : decode cX8_operate 26 = .ok (.ladd, 1) := by decide +kernel
theorem dX8_operate_27 : decode cX8_operate 27 = .ok (.goto 17, 3) := by decide +kernel
theorem dX8_operate_30 : decode cX8_operate 30 = .ok (.iload_n 0, 1) := by decide +kernel
theorem dX8_operate_31 : decode cX8_operate 31 = .ok (.iconst 3, 1) := by decide +kernel
theorem dX8_operate_32 : decode cX8_operate 32 = .ok (.if_icmp .ne 9, 3) := by decide +kernel
theorem dX8_operate_35 : decode cX8_operate 35 = .ok (.lload_n 1, 1) := by decide +kernel
theorem dX8_operate_36 : decode cX8_operate 36 = .ok (.lload_n 3, 1) := by decide +kernel
theorem dX8_operate_37 : decode cX8_operate 37 = .ok (.lsub, 1) := by decide +kernel
theorem dX8_operate_38 : decode cX8_operate 38 = .ok (.goto 6, 3) := by decide +kernel
theorem dX8_operate_41 : decode cX8_operate 41 = .ok (.lload_n 1, 1) := by decide +kernel
theorem dX8_operate_42 : decode cX8_operate 42 = .ok (.lload_n 3, 1) := by decide +kernel
theorem dX8_operate_43 : decode cX8_operate 43 = .ok (.lmul, 1) := by decide +kernel
theorem dX8_operate_44 : decode cX8_operate 44 = .ok (.invokestatic 229, 3) := by decide +kernel
theorem dX8_operate_47 : decode cX8_operate 47 = .ok (.lreturn, 1) := by decide +kernel
theorem dX8_variable_0 : decode cX8_variable 0 = .ok (.iload_n 1, 1) := by decide +kernel
theorem dX8_variable_1 : decode cX8_variable 1 = .ok (.invokestatic 188, 3) := by decide +kernel
theorem dX8_variable_4 : decode cX8_variable 4 = .ok (.istore_n 3, 1) := by decide +kernel
theorem dX8_variable_5 : decode cX8_variable 5 = .ok (.iconst 0, 1) := by decide +kernel
theorem dX8_variable_6 : decode cX8_variable 6 = .ok (.istore 4, 2) := by decide +kernel
theorem dX8_variable_8 : decode cX8_variable 8 = .ok (.iload_n 2, 1) := by decide +kernel
theorem dX8_variable_9 : decode cX8_variable 9 = .ok (.ifCond .ne 12, 3) := by decide +kernel
theorem dX8_variable_12 : decode cX8_variable 12 = .ok (.aload_n 0, 1) := by decide +kernel
theorem dX8_variable_13 : decode cX8_variable 13 = .ok (.getfield 17, 3) := by decide +kernel
theorem dX8_variable_16 : decode cX8_variable 16 = .ok (.iload_n 3, 1) := by decide +kernel
theorem dX8_variable_17 : decode cX8_variable 17 = .ok (.iconst 2, 1) := by decide +kernel
theorem dX8_variable_18 : decode cX8_variable 18 = .ok (.iadd, 1) := by decide +kernel
theorem dX8_variable_19 : decode cX8_variable 19 = .ok (.iaload, 1) := by decide +kernel
theorem dX8_variable_20 : decode cX8_variable 20 = .ok (.ireturn, 1) := by decide +kernel
theorem dX8_variable_21 : decode cX8_variable 21 = .ok (.iload_n 2, 1) := by decide +kernel
theorem dX8_variable_22 : decode cX8_variable 22 = .ok (.iconst 1, 1) := by decide +kernel
theorem dX8_variable_23 : decode cX8_variable 23 = .ok (.if_icmp .ne 19, 3) := by decide +kernel
theorem dX8_variable_26 : decode cX8_variable 26 = .ok (.aload_n 0, 1) := by decide +kernel
theorem dX8_variable_27 : decode cX8_variable 27 = .ok (.getfield 17, 3) := by decide +kernel
theorem dX8_variable_30 : decode cX8_variable 30 = .ok (.iconst 3, 1) := by decide +kernel
theorem dX8_variable_31 : decode cX8_variable 31 = .ok (.iaload, 1) := by decide +kernel
theorem dX8_variable_32 : decode cX8_variable 32 = .ok (.aload_n 0, 1) := by decide +kernel
theorem dX8_variable_33 : decode cX8_variable 33 = .ok (.getfield 17, 3) := by decide +kernel
theorem dX8_variable_36 : decode cX8_variable 36 = .ok (.iload_n 3, 1) := by decide +kernel
theorem dX8_variable_37 : decode cX8_variable 37 = .ok (.iconst 1, 1) := by decide +kernel
theorem dX8_variable_38 : decode cX8_variable 38 = .ok (.iadd, 1) := by decide +kernel
theorem dX8_variable_39 : decode cX8_variable 39 = .ok (.iaload, 1) := by decide +kernel
theorem dX8_variable_40 : decode cX8_variable 40 = .ok (.isub, 1) := by decide +kernel
theorem dX8_variable_41 : decode cX8_variable 41 = .ok (.ireturn, 1) := by decide +kernel
theorem dX8_variable_42 : decode cX8_variable 42 = .ok (.aload_n 0, 1) := by decide +kernel
theorem dX8_variable_43 : decode cX8_variable 43 = .ok (.getfield 17, 3) := by decide +kernel
theorem dX8_variable_46 : decode cX8_variable 46 = .ok (.iload_n 3, 1) := by decide +kernel
theorem dX8_variable_47 : decode cX8_variable 47 = .ok (.iconst 3, 1) := by decide +kernel
theorem dX8_variable_48 : decode cX8_variable 48 = .ok (.iadd, 1) := by decide +kernel
theorem dX8_variable_49 : decode cX8_variable 49 = .ok (.iaload, 1) := by decide +kernel
theorem dX8_variable_50 : decode cX8_variable 50 = .ok (.istore 5, 2) := by decide +kernel
theorem dX8_variable_52 : decode cX8_variable 52 = .ok (.iload 5, 2) := by decide +kernel
theorem dX8_variable_54 : decode cX8_variable 54 = .ok (.ifCond .le 21, 3) := by decide +kernel
theorem dX8_variable_57 : decode cX8_variable 57 = .ok (.iload 4, 2) := by decide +kernel
theorem dX8_variable_59 : decode cX8_variable 59 = .ok (.iload 5, 2) := by decide +kernel
theorem dX8_variable_61 : decode cX8_variable 61 = .ok (.iconst 2, 1) := by decide +kernel
theorem dX8_variable_62 : decode cX8_variable 62 = .ok (.irem, 1) := by decide +kernel
theorem dX8_variable_63 : decode cX8_variable 63 = .ok (.iadd, 1) := by decide +kernel
theorem dX8_variable_64 : decode cX8_variable 64 = .ok (.istore 4, 2) := by decide +kernel
theorem dX8_variable_66 : decode cX8_variable 66 = .ok (.iload 5, 2) := by decide +kernel
theorem dX8_variable_68 : decode cX8_variable 68 = .ok (.iconst 2, 1) := by decide +kernel
theorem dX8_variable_69 : decode cX8_variable 69 = .ok (.idiv, 1) := by decide +kernel
theorem dX8_variable_70 : decode cX8_variable 70 = .ok (.istore 5, 2) := by decide +kernel
theorem dX8_variable_72 : decode cX8_variable 72 = .ok (.goto (-20), 3) := by decide +kernel
theorem dX8_variable_75 : decode cX8_variable 75 = .ok (.iload 4, 2) := by decide +kernel
theorem dX8_variable_77 : decode cX8_variable 77 = .ok (.ireturn, 1) := by decide +kernel
theorem dX8_fee_0 : decode cX8_fee 0 = .ok (.aload_n 0, 1) := by decide +kernel
theorem dX8_fee_1 : decode cX8_fee 1 = .ok (.iconst 0, 1) := by decide +kernel
theorem dX8_fee_2 : decode cX8_fee 2 = .ok (.putfield 32, 3) := by decide +kernel
theorem dX8_fee_5 : decode cX8_fee 5 = .ok (.aload_n 0, 1) := by decide +kernel
theorem dX8_fee_6 : decode cX8_fee 6 = .ok (.iload_n 1, 1) := by decide +kernel
theorem dX8_fee_7 : decode cX8_fee 7 = .ok (.invokevirtual 216, 3) := by decide +kernel
theorem dX8_fee_10 : decode cX8_fee 10 = .ok (.ifCond .eq 5, 3) := by decide +kernel
theorem dX8_fee_13 : decode cX8_fee 13 = .ok (.iconst 0, 1) := by decide +kernel
theorem dX8_fee_14 : decode cX8_fee 14 = .ok (.ireturn, 1) := by decide +kernel
theorem dX8_fee_15 : decode cX8_fee 15 = .ok (.aload_n 0, 1) := by decide +kernel
theorem dX8_fee_16 : decode cX8_fee 16 = .ok (.getfield 17, 3) := by decide +kernel
theorem dX8_fee_19 : decode cX8_fee 19 = .ok (.iconst 4, 1) := by decide +kernel
theorem dX8_fee_20 : decode cX8_fee 20 = .ok (.iaload, 1) := by decide +kernel
theorem dX8_fee_21 : decode cX8_fee 21 = .ok (.ifCond .ne 19, 3) := by decide +kernel
theorem dX8_fee_24 : decode cX8_fee 24 = .ok (.aload_n 0, 1) := by decide +kernel
theorem dX8_fee_25 : decode cX8_fee 25 = .ok (.getfield 17, 3) := by decide +kernel
theorem dX8_fee_28 : decode cX8_fee 28 = .ok (.iload_n 1, 1) := by decide +kernel
theorem dX8_fee_29 : decode cX8_fee 29 = .ok (.invokestatic 188, 3) := by decide +kernel
theorem dX8_fee_32 : decode cX8_fee 32 = .ok (.iconst 2, 1) := by decide +kernel
theorem dX8_fee_33 : decode cX8_fee 33 = .ok (.iadd, 1) := by decide +kernel
theorem dX8_fee_34 : decode cX8_fee 34 = .ok (.iaload, 1) := by decide +kernel
theorem dX8_fee_35 : decode cX8_fee 35 = .ok (.sipush 1000, 3) := by decide +kernel
theorem dX8_fee_38 : decode cX8_fee 38 = .ok (.idiv, 1) := by decide +kernel
theorem dX8_fee_39 : decode cX8_fee 39 = .ok (.ireturn, 1) := by decide +kernel
theorem dX8_fee_40 : decode cX8_fee 40 = .ok (.iconst 0, 1) := by decide +kernel
theorem dX8_fee_41 : decode cX8_fee 41 = .ok (.istore_n 2, 1) := by decide +kernel
theorem dX8_fee_42 : decode cX8_fee 42 = .ok (.iconst 0, 1) := by decide +kernel
theorem dX8_fee_43 : decode cX8_fee 43 = .ok (.istore_n 3, 1) := by decide +kernel
theorem dX8_fee_44 : decode cX8_fee 44 = .ok (.iload_n 3, 1) := by decide +kernel
theorem dX8_fee_45 : decode cX8_fee 45 = .ok (.aload_n 0, 1) := by decide +kernel
theorem dX8_fee_46 : decode cX8_fee 46 = .ok (.getfield 17, 3) := by decide +kernel
theorem dX8_fee_49 : decode cX8_fee 49 = .ok (.iconst 5, 1) := by decide +kernel
theorem dX8_fee_50 : decode cX8_fee 50 = .ok (.iaload, 1) := by decide +kernel
theorem dX8_fee_51 : decode cX8_fee 51 = .ok (.if_icmp .ge 107, 3) := by decide +kernel
theorem dX8_fee_54 : decode cX8_fee 54 = .ok (.aload_n 0, 1) := by decide +kernel
theorem dX8_fee_55 : decode cX8_fee 55 = .ok (.getfield 17, 3) := by decide +kernel
theorem dX8_fee_58 : decode cX8_fee 58 = .ok (.sipush 298, 3) := by decide +kernel
theorem dX8_fee_61 : decode cX8_fee 61 = .ok (.iload_n 3, 1) := by decide +kernel
theorem dX8_fee_62 : decode cX8_fee 62 = .ok (.iadd, 1) := by decide +kernel
theorem dX8_fee_63 : decode cX8_fee 63 = .ok (.iaload, 1) := by decide +kernel
theorem dX8_fee_64 : decode cX8_fee 64 = .ok (.istore 4, 2) := by decide +kernel
theorem dX8_fee_66 : decode cX8_fee 66 = .ok (.iload 4, 2) := by decide +kernel
theorem dX8_fee_68 : decode cX8_fee 68 = .ok (.iconst 1, 1) := by decide +kernel
theorem dX8_fee_69 : decode cX8_fee 69 = .ok (.if_icmp .gt 53, 3) := by decide +kernel
theorem dX8_fee_72 : decode cX8_fee 72 = .ok (.iinc 3 1, 3) := by decide +kernel
theorem dX8_fee_75 : decode cX8_fee 75 = .ok (.aload_n 0, 1) := by decide +kernel
theorem dX8_fee_76 : decode cX8_fee 76 = .ok (.getfield 28, 3) := by decide +kernel
theorem dX8_fee_79 : decode cX8_fee 79 = .ok (.iload_n 2, 1) := by decide +kernel
theorem dX8_fee_80 : decode cX8_fee 80 = .ok (.iload 4, 2) := by decide +kernel
theorem dX8_fee_82 : decode cX8_fee 82 = .ok (.ifCond .ne 17, 3) := by decide +kernel
theorem dX8_fee_85 : decode cX8_fee 85 = .ok (.aload_n 0, 1) := by decide +kernel
theorem dX8_fee_86 : decode cX8_fee 86 = .ok (.getfield 17, 3) := by decide +kernel
theorem dX8_fee_89 : decode cX8_fee 89 = .ok (.sipush 298, 3) := by decide +kernel
theorem dX8_fee_92 : decode cX8_fee 92 = .ok (.iload_n 3, 1) := by decide +kernel
theorem dX8_fee_93 : decode cX8_fee 93 = .ok (.iadd, 1) := by decide +kernel
theorem dX8_fee_94 : decode cX8_fee 94 = .ok (.iaload, 1) := by decide +kernel
theorem dX8_fee_95 : decode cX8_fee 95 = .ok (.i2l, 1) := by decide +kernel
theorem dX8_fee_96 : decode cX8_fee 96 = .ok (.goto 19, 3) := by decide +kernel
theorem dX8_fee_99 : decode cX8_fee 99 = .ok (.aload_n 0, 1) := by decide +kernel
theorem dX8_fee_100 : decode cX8_fee 100 = .ok (.iload_n 1, 1) := by decide +kernel
theorem dX8_fee_101 : decode cX8_fee 101 = .ok (.aload_n 0, 1) := by decide +kernel
theorem dX8_fee_102 : decode cX8_fee 102 = .ok (.getfield 17, 3) := by decide +kernel
theorem dX8_fee_105 : decode cX8_fee 105 = .ok (.sipush 298, 3) := by decide +kernel
theorem dX8_fee_108 : decode cX8_fee 108 = .ok (.iload_n 3, 1) := by decide +kernel
theorem dX8_fee_109 : decode cX8_fee 109 = .ok (.iadd, 1) := by decide +kernel
theorem dX8_fee_110 : decode cX8_fee 110 = .ok (.iaload, 1) := by decide +kernel
theorem dX8_fee_111 : decode cX8_fee 111 = .ok (.invokevirtual 233, 3) := by decide +kernel
theorem dX8_fee_114 : decode cX8_fee 114 = .ok (.i2l, 1) := by decide +kernel
theorem dX8_fee_115 : decode cX8_fee 115 = .ok (.lastore, 1) := by decide +kernel
theorem dX8_fee_116 : decode cX8_fee 116 = .ok (.iinc 2 1, 3) := by decide +kernel
theorem dX8_fee_119 : decode cX8_fee 119 = .ok (.goto 33, 3) := by decide +kernel
theorem dX8_fee_122 : decode cX8_fee 122 = .ok (.iinc 2 (-1), 3) := by decide +kernel
theorem dX8_fee_125 : decode cX8_fee 125 = .ok (.aload_n 0, 1) := by decide +kernel
theorem dX8_fee_126 : decode cX8_fee 126 = .ok (.getfield 28, 3) := by decide +kernel
theorem dX8_fee_129 : decode cX8_fee 129 = .ok (.iload_n 2, 1) := by decide +kernel
theorem dX8_fee_130 : decode cX8_fee 130 = .ok (.iconst 1, 1) := by decide +kernel
theorem dX8_fee_131 : decode cX8_fee 131 = .ok (.isub, 1) := by decide +kernel
theorem dX8_fee_132 : decode cX8_fee 132 = .ok (.iload 4, 2) := by decide +kernel
theorem dX8_fee_134 : decode cX8_fee 134 = .ok (.aload_n 0, 1) := by decide +kernel
theorem dX8_fee_135 : decode cX8_fee 135 = .ok (.getfield 28, 3) := by decide +kernel
theorem dX8_fee_138 : decode cX8_fee 138 = .ok (.iload_n 2, 1) := by decide +kernel
theorem dX8_fee_139 : decode cX8_fee 139 = .ok (.iconst 1, 1) := by decide +kernel
theorem dX8_fee_140 : decode cX8_fee 140 = .ok (.isub, 1) := by decide +kernel
theorem dX8_fee_141 : decode cX8_fee 141 = .ok (.laload, 1) := by decide +kernel
theorem dX8_fee_142 : decode cX8_fee 142 = .ok (.aload_n 0, 1) := by decide +kernel
theorem dX8_fee_143 : decode cX8_fee 143 = .ok (.getfield 28, 3) := by decide +kernel
theorem dX8_fee_146 : decode cX8_fee 146 = .ok (.iload_n 2, 1) := by decide +kernel
theorem dX8_fee_147 : decode cX8_fee 147 = .ok (.laload, 1) := by decide +kernel
theorem dX8_fee_148 : decode cX8_fee 148 = .ok (.invokestatic 236, 3) := by decide +kernel
theorem dX8_fee_151 : decode cX8_fee 151 = .ok (.lastore, 1) := by decide +kernel
theorem dX8_fee_152 : decode cX8_fee 152 = .ok (.iinc 3 1, 3) := by decide +kernel
theorem dX8_fee_155 : decode cX8_fee 155 = .ok (.goto (-111), 3) := by decide +kernel
theorem dX8_fee_158 : decode cX8_fee 158 = .ok (.aload_n 0, 1) := by decide +kernel
theorem dX8_fee_159 : decode cX8_fee 159 = .ok (.getfield 28, 3) := by decide +kernel
theorem dX8_fee_162 : decode cX8_fee 162 = .ok (.iconst 0, 1) := by decide +kernel
theorem dX8_fee_163 : decode cX8_fee 163 = .ok (.laload, 1) := by decide +kernel
theorem dX8_fee_164 : decode cX8_fee 164 = .ok (.lconst 0, 1) := by decide +kernel
theorem dX8_fee_165 : decode cX8_fee 165 = .ok (.lcmp, 1) := by decide +kernel
theorem dX8_fee_166 : decode cX8_fee 166 = .ok (.ifCond .ge 7, 3) := by decide +kernel
theorem dX8_fee_169 : decode cX8_fee 169 = .ok (.iconst 0, 1) := by decide +kernel
theorem dX8_fee_170 : decode cX8_fee 170 = .ok (.goto 28, 3) := by decide +kernel
theorem dX8_fee_173 : decode cX8_fee 173 = .ok (.aload_n 0, 1) := by decide +kernel
theorem dX8_fee_174 : decode cX8_fee 174 = .ok (.getfield 28, 3) := by decide +kernel
theorem dX8_fee_177 : decode cX8_fee 177 = .ok (.iconst 0, 1) := by decide +kernel
theorem dX8_fee_178 : decode cX8_fee 178 = .ok (.laload, 1) := by decide +kernel
theorem dX8_fee_179 : decode cX8_fee 179 = .ok (.ldc2_w 240, 3) := by decide +kernel
theorem dX8_fee_182 : decode cX8_fee 182 = .ok (.lcmp, 1) := by decide +kernel
theorem dX8_fee_183 : decode cX8_fee 183 = .ok (.ifCond .le 8, 3) := by decide +kernel
theorem dX8_fee_186 : decode cX8_fee 186 = .ok (.ldc 129, 2) := by decide +kernel
theorem dX8_fee_188 : decode cX8_fee 188 = .ok (.goto 10, 3) := by decide +kernel
theorem dX8_fee_191 : decode cX8_fee 191 = .ok (.aload_n 0, 1) := by decide +kernel
theorem dX8_fee_192 : decode cX8_fee 192 = .ok (.getfield 28, 3) := by decide +kernel
theorem dX8_fee_195 : decode cX8_fee 195 = .ok (.iconst 0, 1) := by decide +kernel
theorem dX8_fee_196 : decode cX8_fee 196 = .ok (.laload, 1) := by decide +kernel
theorem dX8_fee_197 : decode cX8_fee 197 = .ok (.l2i, 1) := by decide +kernel
theorem dX8_fee_198 : decode cX8_fee 198 = .ok (.ireturn, 1) := by decide +kernel
theorem dX8_bestFit_0 : decode cX8_bestFit 0 = .ok (.aload_n 0, 1) := by decide +kernel
theorem dX8_bestFit_1 : decode cX8_bestFit 1 = .ok (.iconst 0, 1) := by decide +kernel
theorem dX8_bestFit_2 : decode cX8_bestFit 2 = .ok (.putfield 32, 3) := by decide +kernel
theorem dX8_bestFit_5 : decode cX8_bestFit 5 = .ok (.aload_n 0, 1) := by decide +kernel
theorem dX8_bestFit_6 : decode cX8_bestFit 6 = .ok (.iload_n 1, 1) := by decide +kernel
theorem dX8_bestFit_7 : decode cX8_bestFit 7 = .ok (.invokevirtual 179, 3) := by decide +kernel
theorem dX8_bestFit_10 : decode cX8_bestFit 10 = .ok (.ifCond .eq 5, 3) := by decide +kernel
theorem dX8_bestFit_13 : decode cX8_bestFit 13 = .ok (.iconst 0, 1) := by decide +kernel
theorem dX8_bestFit_14 : decode cX8_bestFit 14 = .ok (.ireturn, 1) := by decide +kernel
theorem dX8_bestFit_15 : decode cX8_bestFit 15 = .ok (.iconst 0, 1) := by decide +kernel
theorem dX8_bestFit_16 : decode cX8_bestFit 16 = .ok (.istore_n 2, 1) := by decide +kernel
theorem dX8_bestFit_17 : decode cX8_bestFit 17 = .ok (.iconst 0, 1) := by decide +kernel
theorem dX8_bestFit_18 : decode cX8_bestFit 18 = .ok (.istore_n 3, 1) := by decide +kernel
theorem dX8_bestFit_19 : decode cX8_bestFit 19 = .ok (.iconst 0, 1) := by decide +kernel
theorem dX8_bestFit_20 : decode cX8_bestFit 20 = .ok (.istore 4, 2) := by decide +kernel
theorem dX8_bestFit_22 : decode cX8_bestFit 22 = .ok (.iconst 0, 1) := by decide +kernel
theorem dX8_bestFit_23 : decode cX8_bestFit 23 = .ok (.istore 5, 2) := by decide +kernel
theorem dX8_bestFit_25 : decode cX8_bestFit 25 = .ok (.aload_n 0, 1) := by decide +kernel
theorem dX8_bestFit_26 : decode cX8_bestFit 26 = .ok (.iload_n 1, 1) := by decide +kernel
theorem dX8_bestFit_27 : decode cX8_bestFit 27 = .ok (.invokevirtual 201, 3) := by decide +kernel
theorem dX8_bestFit_30 : decode cX8_bestFit 30 = .ok (.istore 6, 2) := by decide +kernel
theorem dX8_bestFit_32 : decode cX8_bestFit 32 = .ok (.iconst 0, 1) := by decide +kernel
theorem dX8_bestFit_33 : decode cX8_bestFit 33 = .ok (.istore 7, 2) := by decide +kernel
theorem dX8_bestFit_35 : decode cX8_bestFit 35 = .ok (.iload 7, 2) := by decide +kernel
theorem dX8_bestFit_37 : decode cX8_bestFit 37 = .ok (.aload_n 0, 1) := by decide +kernel
theorem dX8_bestFit_38 : decode cX8_bestFit 38 = .ok (.getfield 17, 3) := by decide +kernel
theorem dX8_bestFit_41 : decode cX8_bestFit 41 = .ok (.iconst 1, 1) := by decide +kernel
theorem dX8_bestFit_42 : decode cX8_bestFit 42 = .ok (.iaload, 1) := by decide +kernel
theorem dX8_bestFit_43 : decode cX8_bestFit 43 = .ok (.if_icmp .ge 58, 3) := by decide +kernel
theorem dX8_bestFit_46 : decode cX8_bestFit 46 = .ok (.iload_n 3, 1) := by decide +kernel
theorem dX8_bestFit_47 : decode cX8_bestFit 47 = .ok (.bipush 12, 2) := by decide +kernel
theorem dX8_bestFit_49 : decode cX8_bestFit 49 = .ok (.if_icmp .ge 52, 3) := by decide +kernel
theorem dX8_bestFit_52 : decode cX8_bestFit 52 = .ok (.aload_n 0, 1) := by decide +kernel
theorem dX8_bestFit_53 : decode cX8_bestFit 53 = .ok (.getfield 17, 3) := by decide +kernel
theorem dX8_bestFit_56 : decode cX8_bestFit 56 = .ok (.iload 7, 2) := by decide +kernel
theorem dX8_bestFit_58 : decode cX8_bestFit 58 = .ok (.invokestatic 188, 3) := by decide +kernel
theorem dX8_bestFit_61 : decode cX8_bestFit 61 = .ok (.iaload, 1) := by decide +kernel
theorem dX8_bestFit_62 : decode cX8_bestFit 62 = .ok (.iload_n 1, 1) := by decide +kernel
theorem dX8_bestFit_63 : decode cX8_bestFit 63 = .ok (.if_icmp .ne 32, 3) := by decide +kernel
theorem dX8_bestFit_66 : decode cX8_bestFit 66 = .ok (.aload_n 0, 1) := by decide +kernel
theorem dX8_bestFit_67 : decode cX8_bestFit 67 = .ok (.getfield 17, 3) := by decide +kernel
theorem dX8_bestFit_70 : decode cX8_bestFit 70 = .ok (.iload 7, 2) := by decide +kernel
theorem dX8_bestFit_72 : decode cX8_bestFit 72 = .ok (.invokestatic 188, 3) := by decide +kernel
theorem dX8_bestFit_75 : decode cX8_bestFit 75 = .ok (.iconst 4, 1) := by decide +kernel
theorem dX8_bestFit_76 : decode cX8_bestFit 76 = .ok (.iadd, 1) := by decide +kernel
theorem dX8_bestFit_77 : decode cX8_bestFit 77 = .ok (.iaload, 1) := by decide +kernel
theorem dX8_bestFit_78 : decode cX8_bestFit 78 = .ok (.iconst 3, 1) := by decide +kernel
theorem dX8_bestFit_79 : decode cX8_bestFit 79 = .ok (.if_icmp .eq 6, 3) := by decide +kernel
theorem dX8_bestFit_82 : decode cX8_bestFit 82 = .ok (.goto 13, 3) := by decide +kernel
theorem dX8_bestFit_85 : decode cX8_bestFit 85 = .ok (.iload_n 2, 1) := by decide +kernel
theorem dX8_bestFit_86 : decode cX8_bestFit 86 = .ok (.iconst 1, 1) := by decide +kernel
theorem dX8_bestFit_87 : decode cX8_bestFit 87 = .ok (.iload 7, 2) := by decide +kernel
theorem dX8_bestFit_89 : decode cX8_bestFit 89 = .ok (.ishl, 1) := by decide +kernel
theorem dX8_bestFit_90 : decode cX8_bestFit 90 = .ok (.ior, 1) := by decide +kernel
theorem dX8_bestFit_91 : decode cX8_bestFit 91 = .ok (.istore_n 2, 1) := by decide +kernel
theorem dX8_bestFit_92 : decode cX8_bestFit 92 = .ok (.iinc 3 1, 3) := by decide +kernel
theorem dX8_bestFit_95 : decode cX8_bestFit 95 = .ok (.iinc 7 1, 3) := by decide +kernel
theorem dX8_bestFit_98 : decode cX8_bestFit 98 = .ok (.goto (-63), 3) := by decide +kernel
theorem dX8_bestFit_101 : decode cX8_bestFit 101 = .ok (.iconst 0, 1) := by decide +kernel
theorem dX8_bestFit_102 : decode cX8_bestFit 102 = .ok (.istore 7, 2) := by decide +kernel
theorem dX8_bestFit_104 : decode cX8_bestFit 104 = .ok (.iconst 0, 1) := by decide +kernel
theorem dX8_bestFit_105 : decode cX8_bestFit 105 = .ok (.istore 8, 2) := by decide +kernel
theorem dX8_bestFit_107 : decode cX8_bestFit 107 = .ok (.iconst 0, 1) := by decide +kernel
theorem dX8_bestFit_108 : decode cX8_bestFit 108 = .ok (.istore 9, 2) := by decide +kernel
theorem dX8_bestFit_110 : decode cX8_bestFit 110 = .ok (.iload 9, 2) := by decide +kernel
theorem dX8_bestFit_112 : decode cX8_bestFit 112 = .ok (.aload_n 0, 1) := by decide +kernel
theorem dX8_bestFit_113 : decode cX8_bestFit 113 = .ok (.getfield 17, 3) := by decide +kernel
theorem dX8_bestFit_116 : decode cX8_bestFit 116 = .ok (.iconst 1, 1) := by decide +kernel
theorem dX8_bestFit_117 : decode cX8_bestFit 117 = .ok (.iaload, 1) := by decide +kernel
theorem dX8_bestFit_118 : decode cX8_bestFit 118 = .ok (.if_icmp .ge 41, 3) := by decide +kernel
theorem dX8_bestFit_121 : decode cX8_bestFit 121 = .ok (.iload 8, 2) := by decide +kernel
theorem dX8_bestFit_123 : decode cX8_bestFit 123 = .ok (.iload 7, 2) := by decide +kernel
theorem dX8_bestFit_125 : decode cX8_bestFit 125 = .ok (.iload 9, 2) := by decide +kernel
theorem dX8_bestFit_127 : decode cX8_bestFit 127 = .ok (.ishr, 1) := by decide +kernel
theorem dX8_bestFit_128 : decode cX8_bestFit 128 = .ok (.iconst 1, 1) := by decide +kernel
theorem dX8_bestFit_129 : decode cX8_bestFit 129 = .ok (.iand, 1) := by decide +kernel
theorem dX8_bestFit_130 : decode cX8_bestFit 130 = .ok (.iconst 1, 1) := by decide +kernel
theorem dX8_bestFit_131 : decode cX8_bestFit 131 = .ok (.if_icmp .ne 18, 3) := by decide +kernel
theorem dX8_bestFit_134 : decode cX8_bestFit 134 = .ok (.aload_n 0, 1) := by decide +kernel
theorem dX8_bestFit_135 : decode cX8_bestFit 135 = .ok (.getfield 17, 3) := by decide +kernel
theorem dX8_bestFit_138 : decode cX8_bestFit 138 = .ok (.iload 9, 2) := by decide +kernel
theorem dX8_bestFit_140 : decode cX8_bestFit 140 = .ok (.invokestatic 188, 3) := by decide +kernel
theorem dX8_bestFit_143 : decode cX8_bestFit 143 = .ok (.iconst 2, 1) := by decide +kernel
theorem dX8_bestFit_144 : decode cX8_bestFit 144 = .ok (.iadd, 1) := by decide +kernel
theorem dX8_bestFit_145 : decode cX8_bestFit 145 = .ok (.iaload, 1) := by decide +kernel
theorem dX8_bestFit_146 : decode cX8_bestFit 146 = .ok (.goto 4, 3) := by decide +kernel
theorem dX8_bestFit_149 : decode cX8_bestFit 149 = .ok (.iconst 0, 1) := by decide +kernel
theorem dX8_bestFit_150 : decode cX8_bestFit 150 = .ok (.iadd, 1) := by decide +kernel
theorem dX8_bestFit_151 : decode cX8_bestFit 151 = .ok (.istore 8, 2) := by decide +kernel
theorem dX8_bestFit_153 : decode cX8_bestFit 153 = .ok (.iinc 9 1, 3) := by decide +kernel
theorem dX8_bestFit_156 : decode cX8_bestFit 156 = .ok (.goto (-46), 3) := by decide +kernel
theorem dX8_bestFit_159 : decode cX8_bestFit 159 = .ok (.iload 8, 2) := by decide +kernel
theorem dX8_bestFit_161 : decode cX8_bestFit 161 = .ok (.iload 6, 2) := by decide +kernel
theorem dX8_bestFit_163 : decode cX8_bestFit 163 = .ok (.if_icmp .gt 18, 3) := by decide +kernel
theorem dX8_bestFit_166 : decode cX8_bestFit 166 = .ok (.iload 8, 2) := by decide +kernel
theorem dX8_bestFit_168 : decode cX8_bestFit 168 = .ok (.iload 5, 2) := by decide +kernel
theorem dX8_bestFit_170 : decode cX8_bestFit 170 = .ok (.if_icmp .le 11, 3) := by decide +kernel
theorem dX8_bestFit_173 : decode cX8_bestFit 173 = .ok (.iload 7, 2) := by decide +kernel
theorem dX8_bestFit_175 : decode cX8_bestFit 175 = .ok (.istore 4, 2) := by decide +kernel
theorem dX8_bestFit_177 : decode cX8_bestFit 177 = .ok (.iload 8, 2) := by decide +kernel
theorem dX8_bestFit_179 : decode cX8_bestFit 179 = .ok (.istore 5, 2) := by decide +kernel
theorem dX8_bestFit_181 : decode cX8_bestFit 181 = .ok (.iload 7, 2) := by decide +kernel
theorem dX8_bestFit_183 : decode cX8_bestFit 183 = .ok (.iload_n 2, 1) := by decide +kernel
theorem dX8_bestFit_184 : decode cX8_bestFit 184 = .ok (.isub, 1) := by decide +kernel
theorem dX8_bestFit_185 : decode cX8_bestFit 185 = .ok (.iload_n 2, 1) := by decide +kernel
theorem dX8_bestFit_186 : decode cX8_bestFit 186 = .ok (.iand, 1) := by decide +kernel
theorem dX8_bestFit_187 : decode cX8_bestFit 187 = .ok (.istore 7, 2) := by decide +kernel
theorem dX8_bestFit_189 : decode cX8_bestFit 189 = .ok (.iload 7, 2) := by decide +kernel
theorem dX8_bestFit_191 : decode cX8_bestFit 191 = .ok (.ifCond .ne (-87), 3) := by decide +kernel
theorem dX8_bestFit_194 : decode cX8_bestFit 194 = .ok (.iload 4, 2) := by decide +kernel
theorem dX8_bestFit_196 : decode cX8_bestFit 196 = .ok (.ireturn, 1) := by decide +kernel
theorem dX8_remember_0 : decode cX8_remember 0 = .ok (.aload_n 0, 1) := by decide +kernel
theorem dX8_remember_1 : decode cX8_remember 1 = .ok (.getfield 242, 3) := by decide +kernel
theorem dX8_remember_4 : decode cX8_remember 4 = .ok (.bipush 8, 2) := by decide +kernel
theorem dX8_remember_6 : decode cX8_remember 6 = .ok (.if_icmp .ne 44, 3) := by decide +kernel
theorem dX8_remember_9 : decode cX8_remember 9 = .ok (.iconst 1, 1) := by decide +kernel
theorem dX8_remember_10 : decode cX8_remember 10 = .ok (.istore_n 1, 1) := by decide +kernel
theorem dX8_remember_11 : decode cX8_remember 11 = .ok (.iload_n 1, 1) := by decide +kernel
theorem dX8_remember_12 : decode cX8_remember 12 = .ok (.bipush 8, 2) := by decide +kernel
theorem dX8_remember_14 : decode cX8_remember 14 = .ok (.if_icmp .ge 26, 3) := by decide +kernel
theorem dX8_remember_17 : decode cX8_remember 17 = .ok (.aload_n 0, 1) := by decide +kernel
theorem dX8_remember_18 : decode cX8_remember 18 = .ok (.getfield 25, 3) := by decide +kernel
theorem dX8_remember_21 : decode cX8_remember 21 = .ok (.iload_n 1, 1) := by decide +kernel
theorem dX8_remember_22 : decode cX8_remember 22 = .ok (.aaload, 1) := by decide +kernel
theorem dX8_remember_23 : decode cX8_remember 23 = .ok (.aload_n 0, 1) := by decide +kernel
theorem dX8_remember_24 : decode cX8_remember 24 = .ok (.getfield 25, 3) := by decide +kernel
theorem dX8_remember_27 : decode cX8_remember 27 = .ok (.iload_n 1, 1) := by decide +kernel
theorem dX8_remember_28 : decode cX8_remember 28 = .ok (.iconst 1, 1) := by decide +kernel
theorem dX8_remember_29 : decode cX8_remember 29 = .ok (.isub, 1) := by decide +kernel
theorem dX8_remember_30 : decode cX8_remember 30 = .ok (.aaload, 1) := by decide +kernel
theorem dX8_remember_31 : decode cX8_remember 31 = .ok (.invokestatic 163, 3) := by decide +kernel
theorem dX8_remember_34 : decode cX8_remember 34 = .ok (.iinc 1 1, 3) := by decide +kernel
theorem dX8_remember_37 : decode cX8_remember 37 = .ok (.goto (-26), 3) := by decide +kernel
theorem dX8_remember_40 : decode cX8_remember 40 = .ok (.aload_n 0, 1) := by decide +kernel
theorem dX8_remember_41 : decode cX8_remember 41 = .ok (.dup, 1) := by decide +kernel
theorem dX8_remember_42 : decode cX8_remember 42 = .ok (.getfield 242, 3) := by decide +kernel
theorem dX8_remember_45 : decode cX8_remember 45 = .ok (.iconst 1, 1) := by decide +kernel
theorem dX8_remember_46 : decode cX8_remember 46 = .ok (.isub, 1) := by decide +kernel
theorem dX8_remember_47 : decode cX8_remember 47 = .ok (.putfield 242, 3) := by decide +kernel
theorem dX8_remember_50 : decode cX8_remember 50 = .ok (.aload_n 0, 1) := by decide +kernel
theorem dX8_remember_51 : decode cX8_remember 51 = .ok (.getfield 17, 3) := by decide +kernel
theorem dX8_remember_54 : decode cX8_remember 54 = .ok (.aload_n 0, 1) := by decide +kernel
theorem dX8_remember_55 : decode cX8_remember 55 = .ok (.getfield 25, 3) := by decide +kernel
theorem dX8_remember_58 : decode cX8_remember 58 = .ok (.aload_n 0, 1) := by decide +kernel
theorem dX8_remember_59 : decode cX8_remember 59 = .ok (.getfield 242, 3) := by decide +kernel
theorem dX8_remember_62 : decode cX8_remember 62 = .ok (.aaload, 1) := by decide +kernel
theorem dX8_remember_63 : decode cX8_remember 63 = .ok (.invokestatic 163, 3) := by decide +kernel
theorem dX8_remember_66 : decode cX8_remember 66 = .ok (.aload_n 0, 1) := by decide +kernel
theorem dX8_remember_67 : decode cX8_remember 67 = .ok (.dup, 1) := by decide +kernel
theorem dX8_remember_68 : decode cX8_remember 68 = .ok (.getfield 242, 3) := by decide +kernel
theorem dX8_remember_71 : decode cX8_remember 71 = .ok (.iconst 1, 1) := by decide +kernel
theorem dX8_remember_72 : decode cX8_remember 72 = .ok (.iadd, 1) := by decide +kernel
theorem dX8_remember_73 : decode cX8_remember 73 = .ok (.putfield 242, 3) := by decide +kernel
theorem dX8_remember_76 : decode cX8_remember 76 = .ok (.return_, 1) := by decide +kernel
theorem dX8_present_0 : decode cX8_present 0 = .ok (.aload_n 0, 1) := by decide +kernel
theorem dX8_present_1 : decode cX8_present 1 = .ok (.iconst 0, 1) := by decide +kernel
theorem dX8_present_2 : decode cX8_present 2 = .ok (.putfield 32, 3) := by decide +kernel
theorem dX8_present_5 : decode cX8_present 5 = .ok (.aload_n 0, 1) := by decide +kernel
theorem dX8_present_6 : decode cX8_present 6 = .ok (.iload_n 1, 1) := by decide +kernel
theorem dX8_present_7 : decode cX8_present 7 = .ok (.invokevirtual 179, 3) := by decide +kernel
theorem dX8_present_10 : decode cX8_present 10 = .ok (.ifCond .ne 45, 3) := by decide +kernel
theorem dX8_present_13 : decode cX8_present 13 = .ok (.aload_n 0, 1) := by decide +kernel
theorem dX8_present_14 : decode cX8_present 14 = .ok (.aload_n 0, 1) := by decide +kernel
theorem dX8_present_15 : decode cX8_present 15 = .ok (.iload_n 2, 1) := by decide +kernel
theorem dX8_present_16 : decode cX8_present 16 = .ok (.iload_n 3, 1) := by decide +kernel
theorem dX8_present_17 : decode cX8_present 17 = .ok (.iload 4, 2) := by decide +kernel
theorem dX8_present_19 : decode cX8_present 19 = .ok (.iload 5, 2) := by decide +kernel
theorem dX8_present_21 : decode cX8_present 21 = .ok (.invokevirtual 208, 3) := by decide +kernel
theorem dX8_present_24 : decode cX8_present 24 = .ok (.iconst 2, 1) := by decide +kernel
theorem dX8_present_25 : decode cX8_present 25 = .ok (.invokevirtual 153, 3) := by decide +kernel
theorem dX8_present_28 : decode cX8_present 28 = .ok (.ifCond .ne 27, 3) := by decide +kernel
theorem dX8_present_31 : decode cX8_present 31 = .ok (.aload_n 0, 1) := by decide +kernel
theorem dX8_present_32 : decode cX8_present 32 = .ok (.aload_n 0, 1) := by decide +kernel
theorem dX8_present_33 : decode cX8_present 33 = .ok (.getfield 17, 3) := by decide +kernel
theorem dX8_present_36 : decode cX8_present 36 = .ok (.iconst 1, 1) := by decide +kernel
theorem dX8_present_37 : decode cX8_present 37 = .ok (.iaload, 1) := by decide +kernel
theorem dX8_present_38 : decode cX8_present 38 = .ok (.bipush 24, 2) := by decide +kernel
theorem dX8_present_40 : decode cX8_present 40 = .ok (.if_icmp .ne 7, 3) := by decide +kernel
theorem dX8_present_43 : decode cX8_present 43 = .ok (.iconst 1, 1) := by decide +kernel
theorem dX8_present_44 : decode cX8_present 44 = .ok (.goto 4, 3) := by decide +kernel
theorem dX8_present_47 : decode cX8_present 47 = .ok (.iconst 0, 1) := by decide +kernel
theorem dX8_present_48 : decode cX8_present 48 = .ok (.iconst 3, 1) := by decide +kernel
theorem dX8_present_49 : decode cX8_present 49 = .ok (.invokevirtual 153, 3) := by decide +kernel
theorem dX8_present_52 : decode cX8_present 52 = .ok (.ifCond .eq 5, 3) := by decide +kernel
theorem dX8_present_55 : decode cX8_present 55 = .ok (.iconst 0, 1) := by decide +kernel
theorem dX8_present_56 : decode cX8_present 56 = .ok (.ireturn, 1) := by decide +kernel
theorem dX8_present_57 : decode cX8_present 57 = .ok (.aload_n 0, 1) := by decide +kernel
theorem dX8_present_58 : decode cX8_present 58 = .ok (.invokevirtual 160, 3) := by decide +kernel
theorem dX8_present_61 : decode cX8_present 61 = .ok (.aload_n 0, 1) := by decide +kernel
theorem dX8_present_62 : decode cX8_present 62 = .ok (.getfield 17, 3) := by decide +kernel
theorem dX8_present_65 : decode cX8_present 65 = .ok (.iconst 1, 1) := by decide +kernel
theorem dX8_present_66 : decode cX8_present 66 = .ok (.iaload, 1) := by decide +kernel
theorem dX8_present_67 : decode cX8_present 67 = .ok (.istore 6, 2) := by decide +kernel
theorem dX8_present_69 : decode cX8_present 69 = .ok (.iload 6, 2) := by decide +kernel
theorem dX8_present_71 : decode cX8_present 71 = .ok (.invokestatic 188, 3) := by decide +kernel
theorem dX8_present_74 : decode cX8_present 74 = .ok (.istore 7, 2) := by decide +kernel
theorem dX8_present_76 : decode cX8_present 76 = .ok (.aload_n 0, 1) := by decide +kernel
theorem dX8_present_77 : decode cX8_present 77 = .ok (.iload_n 1, 1) := by decide +kernel
theorem dX8_present_78 : decode cX8_present 78 = .ok (.iload_n 2, 1) := by decide +kernel
theorem dX8_present_79 : decode cX8_present 79 = .ok (.iload_n 3, 1) := by decide +kernel
theorem dX8_present_80 : decode cX8_present 80 = .ok (.iload 4, 2) := by decide +kernel
theorem dX8_present_82 : decode cX8_present 82 = .ok (.iload 5, 2) := by decide +kernel
theorem dX8_present_84 : decode cX8_present 84 = .ok (.invokevirtual 212, 3) := by decide +kernel
theorem dX8_present_87 : decode cX8_present 87 = .ok (.istore 8, 2) := by decide +kernel
theorem dX8_present_89 : decode cX8_present 89 = .ok (.aload_n 0, 1) := by decide +kernel
theorem dX8_present_90 : decode cX8_present 90 = .ok (.getfield 17, 3) := by decide +kernel
theorem dX8_present_93 : decode cX8_present 93 = .ok (.iconst 1, 1) := by decide +kernel
theorem dX8_present_94 : decode cX8_present 94 = .ok (.dup2, 1) := by decide +kernel
theorem dX8_present_95 : decode cX8_present 95 = .ok (.iaload, 1) := by decide +kernel
theorem dX8_present_96 : decode cX8_present 96 = .ok (.iconst 1, 1) := by decide +kernel
theorem dX8_present_97 : decode cX8_present 97 = .ok (.iadd, 1) := by decide +kernel
theorem dX8_present_98 : decode cX8_present 98 = .ok (.iastore, 1) := by decide +kernel
theorem dX8_present_99 : decode cX8_present 99 = .ok (.aload_n 0, 1) := by decide +kernel
theorem dX8_present_100 : decode cX8_present 100 = .ok (.getfield 17, 3) := by decide +kernel
theorem dX8_present_103 : decode cX8_present 103 = .ok (.iload 7, 2) := by decide +kernel
theorem dX8_present_105 : decode cX8_present 105 = .ok (.iload_n 1, 1) := by decide +kernel
theorem dX8_present_106 : decode cX8_present 106 = .ok (.iastore, 1) := by decide +kernel
theorem dX8_present_107 : decode cX8_present 107 = .ok (.aload_n 0, 1) := by decide +kernel
theorem dX8_present_108 : decode cX8_present 108 = .ok (.getfield 17, 3) := by decide +kernel
theorem dX8_present_111 : decode cX8_present 111 = .ok (.iload 7, 2) := by decide +kernel
theorem dX8_present_113 : decode cX8_present 113 = .ok (.iconst 1, 1) := by decide +kernel
theorem dX8_present_114 : decode cX8_present 114 = .ok (.iadd, 1) := by decide +kernel
theorem dX8_present_115 : decode cX8_present 115 = .ok (.aload_n 0, 1) := by decide +kernel
theorem dX8_present_116 : decode cX8_present 116 = .ok (.getfield 17, 3) := by decide +kernel
theorem dX8_present_119 : decode cX8_present 119 = .ok (.iconst 3, 1) := by decide +kernel
theorem dX8_present_120 : decode cX8_present 120 = .ok (.iaload, 1) := by decide +kernel
theorem dX8_present_121 : decode cX8_present 121 = .ok (.iastore, 1) := by decide +kernel
theorem dX8_present_122 : decode cX8_present 122 = .ok (.aload_n 0, 1) := by decide +kernel
theorem dX8_present_123 : decode cX8_present 123 = .ok (.getfield 17, 3) := by decide +kernel
theorem dX8_present_126 : decode cX8_present 126 = .ok (.iload 7, 2) := by decide +kernel
theorem dX8_present_128 : decode cX8_present 128 = .ok (.iconst 2, 1) := by decide +kernel
theorem dX8_present_129 : decode cX8_present 129 = .ok (.iadd, 1) := by decide +kernel
theorem dX8_present_130 : decode cX8_present 130 = .ok (.iload_n 3, 1) := by decide +kernel
theorem dX8_present_131 : decode cX8_present 131 = .ok (.iastore, 1) := by decide +kernel
theorem dX8_present_132 : decode cX8_present 132 = .ok (.aload_n 0, 1) := by decide +kernel
theorem dX8_present_133 : decode cX8_present 133 = .ok (.getfield 17, 3) := by decide +kernel
theorem dX8_present_136 : decode cX8_present 136 = .ok (.iload 7, 2) := by decide +kernel
theorem dX8_present_138 : decode cX8_present 138 = .ok (.iconst 3, 1) := by decide +kernel
theorem dX8_present_139 : decode cX8_present 139 = .ok (.iadd, 1) := by decide +kernel
theorem dX8_present_140 : decode cX8_present 140 = .ok (.iload 8, 2) := by decide +kernel
theorem dX8_present_142 : decode cX8_present 142 = .ok (.iastore, 1) := by decide +kernel
theorem dX8_present_143 : decode cX8_present 143 = .ok (.aload_n 0, 1) := by decide +kernel
theorem dX8_present_144 : decode cX8_present 144 = .ok (.getfield 17, 3) := by decide +kernel
theorem dX8_present_147 : decode cX8_present 147 = .ok (.iload 7, 2) := by decide +kernel
theorem dX8_present_149 : decode cX8_present 149 = .ok (.iconst 4, 1) := by decide +kernel
theorem dX8_present_150 : decode cX8_present 150 = .ok (.iadd, 1) := by decide +kernel
theorem dX8_present_151 : decode cX8_present 151 = .ok (.iconst 0, 1) := by decide +kernel
theorem dX8_present_152 : decode cX8_present 152 = .ok (.iastore, 1) := by decide +kernel
theorem dX8_present_153 : decode cX8_present 153 = .ok (.aload_n 0, 1) := by decide +kernel
theorem dX8_present_154 : decode cX8_present 154 = .ok (.getfield 17, 3) := by decide +kernel
theorem dX8_present_157 : decode cX8_present 157 = .ok (.iload 7, 2) := by decide +kernel
theorem dX8_present_159 : decode cX8_present 159 = .ok (.iconst 5, 1) := by decide +kernel
theorem dX8_present_160 : decode cX8_present 160 = .ok (.iadd, 1) := by decide +kernel
theorem dX8_present_161 : decode cX8_present 161 = .ok (.iconst 0, 1) := by decide +kernel
theorem dX8_present_162 : decode cX8_present 162 = .ok (.iastore, 1) := by decide +kernel
theorem dX8_present_163 : decode cX8_present 163 = .ok (.iload 6, 2) := by decide +kernel
theorem dX8_present_165 : decode cX8_present 165 = .ok (.ireturn, 1) := by decide +kernel
theorem dX8_honour_0 : decode cX8_honour 0 = .ok (.aload_n 0, 1) := by decide +kernel
theorem dX8_honour_1 : decode cX8_honour 1 = .ok (.getfield 17, 3) := by decide +kernel
theorem dX8_honour_4 : decode cX8_honour 4 = .ok (.iload_n 1, 1) := by decide +kernel
theorem dX8_honour_5 : decode cX8_honour 5 = .ok (.invokestatic 188, 3) := by decide +kernel
theorem dX8_honour_8 : decode cX8_honour 8 = .ok (.iconst 4, 1) := by decide +kernel
theorem dX8_honour_9 : decode cX8_honour 9 = .ok (.iadd, 1) := by decide +kernel
theorem dX8_honour_10 : decode cX8_honour 10 = .ok (.iconst 2, 1) := by decide +kernel
theorem dX8_honour_11 : decode cX8_honour 11 = .ok (.iastore, 1) := by decide +kernel
theorem dX8_honour_12 : decode cX8_honour 12 = .ok (.aload_n 0, 1) := by decide +kernel
theorem dX8_honour_13 : decode cX8_honour 13 = .ok (.getfield 17, 3) := by decide +kernel
theorem dX8_honour_16 : decode cX8_honour 16 = .ok (.iload_n 1, 1) := by decide +kernel
theorem dX8_honour_17 : decode cX8_honour 17 = .ok (.invokestatic 188, 3) := by decide +kernel
theorem dX8_honour_20 : decode cX8_honour 20 = .ok (.iconst 5, 1) := by decide +kernel
theorem dX8_honour_21 : decode cX8_honour 21 = .ok (.iadd, 1) := by decide +kernel
theorem dX8_honour_22 : decode cX8_honour 22 = .ok (.aload_n 0, 1) := by decide +kernel
theorem dX8_honour_23 : decode cX8_honour 23 = .ok (.getfield 17, 3) := by decide +kernel
theorem dX8_honour_26 : decode cX8_honour 26 = .ok (.iconst 3, 1) := by decide +kernel
theorem dX8_honour_27 : decode cX8_honour 27 = .ok (.iaload, 1) := by decide +kernel
theorem dX8_honour_28 : decode cX8_honour 28 = .ok (.iastore, 1) := by decide +kernel
theorem dX8_honour_29 : decode cX8_honour 29 = .ok (.return_, 1) := by decide +kernel
theorem dX8_examine_0 : decode cX8_examine 0 = .ok (.aload_n 0, 1) := by decide +kernel
theorem dX8_examine_1 : decode cX8_examine 1 = .ok (.iconst 0, 1) := by decide +kernel
theorem dX8_examine_2 : decode cX8_examine 2 = .ok (.putfield 32, 3) := by decide +kernel
theorem dX8_examine_5 : decode cX8_examine 5 = .ok (.aload_n 0, 1) := by decide +kernel
theorem dX8_examine_6 : decode cX8_examine 6 = .ok (.iload_n 1, 1) := by decide +kernel
theorem dX8_examine_7 : decode cX8_examine 7 = .ok (.invokevirtual 216, 3) := by decide +kernel
theorem dX8_examine_10 : decode cX8_examine 10 = .ok (.ifCond .eq 5, 3) := by decide +kernel
theorem dX8_examine_13 : decode cX8_examine 13 = .ok (.iconst 0, 1) := by decide +kernel
theorem dX8_examine_14 : decode cX8_examine 14 = .ok (.ireturn, 1) := by decide +kernel
theorem dX8_examine_15 : decode cX8_examine 15 = .ok (.iload_n 1, 1) := by decide +kernel
theorem dX8_examine_16 : decode cX8_examine 16 = .ok (.invokestatic 188, 3) := by decide +kernel
theorem dX8_examine_19 : decode cX8_examine 19 = .ok (.istore_n 2, 1) := by decide +kernel
theorem dX8_examine_20 : decode cX8_examine 20 = .ok (.aload_n 0, 1) := by decide +kernel
theorem dX8_examine_21 : decode cX8_examine 21 = .ok (.getfield 17, 3) := by decide +kernel
theorem dX8_examine_24 : decode cX8_examine 24 = .ok (.iload_n 2, 1) := by decide +kernel
theorem dX8_examine_25 : decode cX8_examine 25 = .ok (.iconst 3, 1) := by decide +kernel
theorem dX8_examine_26 : decode cX8_examine 26 = .ok (.iadd, 1) := by decide +kernel
theorem dX8_examine_27 : decode cX8_examine 27 = .ok (.iaload, 1) := by decide +kernel
theorem dX8_examine_28 : decode cX8_examine 28 = .ok (.istore_n 3, 1) := by decide +kernel
theorem dX8_examine_29 : decode cX8_examine 29 = .ok (.aload_n 0, 1) := by decide +kernel
theorem dX8_examine_30 : decode cX8_examine 30 = .ok (.aload_n 0, 1) := by decide +kernel
theorem dX8_examine_31 : decode cX8_examine 31 = .ok (.getfield 17, 3) := by decide +kernel
theorem dX8_examine_34 : decode cX8_examine 34 = .ok (.iload_n 2, 1) := by decide +kernel
theorem dX8_examine_35 : decode cX8_examine 35 = .ok (.iconst 4, 1) := by decide +kernel
theorem dX8_examine_36 : decode cX8_examine 36 = .ok (.iadd, 1) := by decide +kernel
theorem dX8_examine_37 : decode cX8_examine 37 = .ok (.iaload, 1) := by decide +kernel
theorem dX8_examine_38 : decode cX8_examine 38 = .ok (.ifCond .eq 7, 3) := by decide +kernel
theorem dX8_examine_41 : decode cX8_examine 41 = .ok (.iconst 1, 1) := by decide +kernel
theorem dX8_examine_42 : decode cX8_examine 42 = .ok (.goto 4, 3) := by decide +kernel
theorem dX8_examine_45 : decode cX8_examine 45 = .ok (.iconst 0, 1) := by decide +kernel
theorem dX8_examine_46 : decode cX8_examine 46 = .ok (.iconst 2, 1) := by decide +kernel
theorem dX8_examine_47 : decode cX8_examine 47 = .ok (.invokevirtual 153, 3) := by decide +kernel
theorem dX8_examine_50 : decode cX8_examine 50 = .ok (.ifCond .eq 5, 3) := by decide +kernel
theorem dX8_examine_53 : decode cX8_examine 53 = .ok (.iconst 0, 1) := by decide +kernel
theorem dX8_examine_54 : decode cX8_examine 54 = .ok (.ireturn, 1) := by decide +kernel
theorem dX8_examine_55 : decode cX8_examine 55 = .ok (.aload_n 0, 1) := by decide +kernel
theorem dX8_examine_56 : decode cX8_examine 56 = .ok (.invokevirtual 160, 3) := by decide +kernel
theorem dX8_examine_59 : decode cX8_examine 59 = .ok (.iload_n 3, 1) := by decide +kernel
theorem dX8_examine_60 : decode cX8_examine 60 = .ok (.ifCond .eq 23, 3) := by decide +kernel
theorem dX8_examine_63 : decode cX8_examine 63 = .ok (.iload_n 3, 1) := by decide +kernel
theorem dX8_examine_64 : decode cX8_examine 64 = .ok (.iconst 4, 1) := by decide +kernel
theorem dX8_examine_65 : decode cX8_examine 65 = .ok (.iand, 1) := by decide +kernel
theorem dX8_examine_66 : decode cX8_examine 66 = .ok (.ifCond .ne 25, 3) := by decide +kernel
theorem dX8_examine_69 : decode cX8_examine 69 = .ok (.aload_n 0, 1) := by decide +kernel
theorem dX8_examine_70 : decode cX8_examine 70 = .ok (.getfield 17, 3) := by decide +kernel
theorem dX8_examine_73 : decode cX8_examine 73 = .ok (.iconst 3, 1) := by decide +kernel
theorem dX8_examine_74 : decode cX8_examine 74 = .ok (.iaload, 1) := by decide +kernel
theorem dX8_examine_75 : decode cX8_examine 75 = .ok (.aload_n 0, 1) := by decide +kernel
theorem dX8_examine_76 : decode cX8_examine 76 = .ok (.iload_n 1, 1) := by decide +kernel
theorem dX8_examine_77 : decode cX8_examine 77 = .ok (.invokevirtual 219, 3) := by decide +kernel
theorem dX8_examine_80 : decode cX8_examine 80 = .ok (.if_icmp .le 11, 3) := by decide +kernel
theorem dX8_examine_83 : decode cX8_examine 83 = .ok (.aload_n 0, 1) := by decide +kernel
theorem dX8_examine_84 : decode cX8_examine 84 = .ok (.iload_n 1, 1) := by decide +kernel
theorem dX8_examine_85 : decode cX8_examine 85 = .ok (.invokevirtual 245, 3) := by decide +kernel
theorem dX8_examine_88 : decode cX8_examine 88 = .ok (.goto 12, 3) := by decide +kernel
theorem dX8_examine_91 : decode cX8_examine 91 = .ok (.aload_n 0, 1) := by decide +kernel
theorem dX8_examine_92 : decode cX8_examine 92 = .ok (.getfield 17, 3) := by decide +kernel
theorem dX8_examine_95 : decode cX8_examine 95 = .ok (.iload_n 2, 1) := by decide +kernel
theorem dX8_examine_96 : decode cX8_examine 96 = .ok (.iconst 4, 1) := by decide +kernel
theorem dX8_examine_97 : decode cX8_examine 97 = .ok (.iadd, 1) := by decide +kernel
theorem dX8_examine_98 : decode cX8_examine 98 = .ok (.iconst 1, 1) := by decide +kernel
theorem dX8_examine_99 : decode cX8_examine 99 = .ok (.iastore, 1) := by decide +kernel
theorem dX8_examine_100 : decode cX8_examine 100 = .ok (.aload_n 0, 1) := by decide +kernel
theorem dX8_examine_101 : decode cX8_examine 101 = .ok (.getfield 17, 3) := by decide +kernel
theorem dX8_examine_104 : decode cX8_examine 104 = .ok (.iload_n 2, 1) := by decide +kernel
theorem dX8_examine_105 : decode cX8_examine 105 = .ok (.iconst 4, 1) := by decide +kernel
theorem dX8_examine_106 : decode cX8_examine 106 = .ok (.iadd, 1) := by decide +kernel
theorem dX8_examine_107 : decode cX8_examine 107 = .ok (.iaload, 1) := by decide +kernel
theorem dX8_examine_108 : decode cX8_examine 108 = .ok (.ireturn, 1) := by decide +kernel
theorem dX8_waive_0 : decode cX8_waive 0 = .ok (.aload_n 0, 1) := by decide +kernel
theorem dX8_waive_1 : decode cX8_waive 1 = .ok (.iconst 0, 1) := by decide +kernel
theorem dX8_waive_2 : decode cX8_waive 2 = .ok (.putfield 32, 3) := by decide +kernel
theorem dX8_waive_5 : decode cX8_waive 5 = .ok (.aload_n 0, 1) := by decide +kernel
theorem dX8_waive_6 : decode cX8_waive 6 = .ok (.iload_n 1, 1) := by decide +kernel
theorem dX8_waive_7 : decode cX8_waive 7 = .ok (.invokevirtual 216, 3) := by decide +kernel
theorem dX8_waive_10 : decode cX8_waive 10 = .ok (.ifCond .eq 5, 3) := by decide +kernel
theorem dX8_waive_13 : decode cX8_waive 13 = .ok (.iconst 0, 1) := by decide +kernel
theorem dX8_waive_14 : decode cX8_waive 14 = .ok (.ireturn, 1) := by decide +kernel
theorem dX8_waive_15 : decode cX8_waive 15 = .ok (.iload_n 1, 1) := by decide +kernel
theorem dX8_waive_16 : decode cX8_waive 16 = .ok (.invokestatic 188, 3) := by decide +kernel
theorem dX8_waive_19 : decode cX8_waive 19 = .ok (.istore_n 2, 1) := by decide +kernel
theorem dX8_waive_20 : decode cX8_waive 20 = .ok (.aload_n 0, 1) := by decide +kernel
theorem dX8_waive_21 : decode cX8_waive 21 = .ok (.aload_n 0, 1) := by decide +kernel
theorem dX8_waive_22 : decode cX8_waive 22 = .ok (.getfield 17, 3) := by decide +kernel
theorem dX8_waive_25 : decode cX8_waive 25 = .ok (.iload_n 2, 1) := by decide +kernel
theorem dX8_waive_26 : decode cX8_waive 26 = .ok (.iconst 4, 1) := by decide +kernel
theorem dX8_waive_27 : decode cX8_waive 27 = .ok (.iadd, 1) := by decide +kernel
theorem dX8_waive_28 : decode cX8_waive 28 = .ok (.iaload, 1) := by decide +kernel
theorem dX8_waive_29 : decode cX8_waive 29 = .ok (.iconst 1, 1) := by decide +kernel
theorem dX8_waive_30 : decode cX8_waive 30 = .ok (.if_icmp .ne 16, 3) := by decide +kernel
theorem dX8_waive_33 : decode cX8_waive 33 = .ok (.aload_n 0, 1) := by decide +kernel
theorem dX8_waive_34 : decode cX8_waive 34 = .ok (.getfield 17, 3) := by decide +kernel
theorem dX8_waive_37 : decode cX8_waive 37 = .ok (.iload_n 2, 1) := by decide +kernel
theorem dX8_waive_38 : decode cX8_waive 38 = .ok (.iconst 3, 1) := by decide +kernel
theorem dX8_waive_39 : decode cX8_waive 39 = .ok (.iadd, 1) := by decide +kernel
theorem dX8_waive_40 : decode cX8_waive 40 = .ok (.iaload, 1) := by decide +kernel
theorem dX8_waive_41 : decode cX8_waive 41 = .ok (.iconst 4, 1) := by decide +kernel
theorem dX8_waive_42 : decode cX8_waive 42 = .ok (.iand, 1) := by decide +kernel
theorem dX8_waive_43 : decode cX8_waive 43 = .ok (.ifCond .eq 7, 3) := by decide +kernel
theorem dX8_waive_46 : decode cX8_waive 46 = .ok (.iconst 1, 1) := by decide +kernel
theorem dX8_waive_47 : decode cX8_waive 47 = .ok (.goto 4, 3) := by decide +kernel
theorem dX8_waive_50 : decode cX8_waive 50 = .ok (.iconst 0, 1) := by decide +kernel
theorem dX8_waive_51 : decode cX8_waive 51 = .ok (.iconst 2, 1) := by decide +kernel
theorem dX8_waive_52 : decode cX8_waive 52 = .ok (.invokevirtual 153, 3) := by decide +kernel
theorem dX8_waive_55 : decode cX8_waive 55 = .ok (.ifCond .eq 5, 3) := by decide +kernel
theorem dX8_waive_58 : decode cX8_waive 58 = .ok (.iconst 0, 1) := by decide +kernel
theorem dX8_waive_59 : decode cX8_waive 59 = .ok (.ireturn, 1) := by decide +kernel
theorem dX8_waive_60 : decode cX8_waive 60 = .ok (.aload_n 0, 1) := by decide +kernel
theorem dX8_waive_61 : decode cX8_waive 61 = .ok (.invokevirtual 160, 3) := by decide +kernel
theorem dX8_waive_64 : decode cX8_waive 64 = .ok (.aload_n 0, 1) := by decide +kernel
theorem dX8_waive_65 : decode cX8_waive 65 = .ok (.iload_n 1, 1) := by decide +kernel
theorem dX8_waive_66 : decode cX8_waive 66 = .ok (.invokevirtual 245, 3) := by decide +kernel
theorem dX8_waive_69 : decode cX8_waive 69 = .ok (.aload_n 0, 1) := by decide +kernel
theorem dX8_waive_70 : decode cX8_waive 70 = .ok (.iload_n 1, 1) := by decide +kernel
theorem dX8_waive_71 : decode cX8_waive 71 = .ok (.invokevirtual 222, 3) := by decide +kernel
theorem dX8_waive_74 : decode cX8_waive 74 = .ok (.ireturn, 1) := by decide +kernel
theorem dX8_refuse_0 : decode cX8_refuse 0 = .ok (.aload_n 0, 1) := by decide +kernel
theorem dX8_refuse_1 : decode cX8_refuse 1 = .ok (.iconst 0, 1) := by decide +kernel
theorem dX8_refuse_2 : decode cX8_refuse 2 = .ok (.putfield 32, 3) := by decide +kernel
theorem dX8_refuse_5 : decode cX8_refuse 5 = .ok (.aload_n 0, 1) := by decide +kernel
theorem dX8_refuse_6 : decode cX8_refuse 6 = .ok (.iload_n 1, 1) := by decide +kernel
theorem dX8_refuse_7 : decode cX8_refuse 7 = .ok (.invokevirtual 216, 3) := by decide +kernel
theorem dX8_refuse_10 : decode cX8_refuse 10 = .ok (.ifCond .eq 5, 3) := by decide +kernel
theorem dX8_refuse_13 : decode cX8_refuse 13 = .ok (.iconst 0, 1) := by decide +kernel
theorem dX8_refuse_14 : decode cX8_refuse 14 = .ok (.ireturn, 1) := by decide +kernel
theorem dX8_refuse_15 : decode cX8_refuse 15 = .ok (.iload_n 1, 1) := by decide +kernel
theorem dX8_refuse_16 : decode cX8_refuse 16 = .ok (.invokestatic 188, 3) := by decide +kernel
theorem dX8_refuse_19 : decode cX8_refuse 19 = .ok (.istore_n 2, 1) := by decide +kernel
theorem dX8_refuse_20 : decode cX8_refuse 20 = .ok (.aload_n 0, 1) := by decide +kernel
theorem dX8_refuse_21 : decode cX8_refuse 21 = .ok (.aload_n 0, 1) := by decide +kernel
theorem dX8_refuse_22 : decode cX8_refuse 22 = .ok (.getfield 17, 3) := by decide +kernel
theorem dX8_refuse_25 : decode cX8_refuse 25 = .ok (.iload_n 2, 1) := by decide +kernel
theorem dX8_refuse_26 : decode cX8_refuse 26 = .ok (.iconst 4, 1) := by decide +kernel
theorem dX8_refuse_27 : decode cX8_refuse 27 = .ok (.iadd, 1) := by decide +kernel
theorem dX8_refuse_28 : decode cX8_refuse 28 = .ok (.iaload, 1) := by decide +kernel
theorem dX8_refuse_29 : decode cX8_refuse 29 = .ok (.iconst 1, 1) := by decide +kernel
theorem dX8_refuse_30 : decode cX8_refuse 30 = .ok (.if_icmp .eq 7, 3) := by decide +kernel
theorem dX8_refuse_33 : decode cX8_refuse 33 = .ok (.iconst 1, 1) := by decide +kernel
theorem dX8_refuse_34 : decode cX8_refuse 34 = .ok (.goto 4, 3) := by decide +kernel
theorem dX8_refuse_37 : decode cX8_refuse 37 = .ok (.iconst 0, 1) := by decide +kernel
theorem dX8_refuse_38 : decode cX8_refuse 38 = .ok (.iconst 2, 1) := by decide +kernel
theorem dX8_refuse_39 : decode cX8_refuse 39 = .ok (.invokevirtual 153, 3) := by decide +kernel
theorem dX8_refuse_42 : decode cX8_refuse 42 = .ok (.ifCond .eq 5, 3) := by decide +kernel
theorem dX8_refuse_45 : decode cX8_refuse 45 = .ok (.iconst 0, 1) := by decide +kernel
theorem dX8_refuse_46 : decode cX8_refuse 46 = .ok (.ireturn, 1) := by decide +kernel
theorem dX8_refuse_47 : decode cX8_refuse 47 = .ok (.aload_n 0, 1) := by decide +kernel
theorem dX8_refuse_48 : decode cX8_refuse 48 = .ok (.invokevirtual 160, 3) := by decide +kernel
theorem dX8_refuse_51 : decode cX8_refuse 51 = .ok (.aload_n 0, 1) := by decide +kernel
theorem dX8_refuse_52 : decode cX8_refuse 52 = .ok (.getfield 17, 3) := by decide +kernel
theorem dX8_refuse_55 : decode cX8_refuse 55 = .ok (.iload_n 2, 1) := by decide +kernel
theorem dX8_refuse_56 : decode cX8_refuse 56 = .ok (.iconst 4, 1) := by decide +kernel
theorem dX8_refuse_57 : decode cX8_refuse 57 = .ok (.iadd, 1) := by decide +kernel
theorem dX8_refuse_58 : decode cX8_refuse 58 = .ok (.iconst 3, 1) := by decide +kernel
theorem dX8_refuse_59 : decode cX8_refuse 59 = .ok (.iastore, 1) := by decide +kernel
theorem dX8_refuse_60 : decode cX8_refuse 60 = .ok (.aload_n 0, 1) := by decide +kernel
theorem dX8_refuse_61 : decode cX8_refuse 61 = .ok (.aload_n 0, 1) := by decide +kernel
theorem dX8_refuse_62 : decode cX8_refuse 62 = .ok (.getfield 17, 3) := by decide +kernel
theorem dX8_refuse_65 : decode cX8_refuse 65 = .ok (.iload_n 2, 1) := by decide +kernel
theorem dX8_refuse_66 : decode cX8_refuse 66 = .ok (.iaload, 1) := by decide +kernel
theorem dX8_refuse_67 : decode cX8_refuse 67 = .ok (.invokevirtual 201, 3) := by decide +kernel
theorem dX8_refuse_70 : decode cX8_refuse 70 = .ok (.ireturn, 1) := by decide +kernel
theorem dX8_transfer_0 : decode cX8_transfer 0 = .ok (.aload_n 0, 1) := by decide +kernel
theorem dX8_transfer_1 : decode cX8_transfer 1 = .ok (.iconst 0, 1) := by decide +kernel
theorem dX8_transfer_2 : decode cX8_transfer 2 = .ok (.putfield 32, 3) := by decide +kernel
theorem dX8_transfer_5 : decode cX8_transfer 5 = .ok (.aload_n 0, 1) := by decide +kernel
theorem dX8_transfer_6 : decode cX8_transfer 6 = .ok (.iload_n 1, 1) := by decide +kernel
theorem dX8_transfer_7 : decode cX8_transfer 7 = .ok (.invokevirtual 179, 3) := by decide +kernel
theorem dX8_transfer_10 : decode cX8_transfer 10 = .ok (.ifCond .eq 5, 3) := by decide +kernel
theorem dX8_transfer_13 : decode cX8_transfer 13 = .ok (.iconst 0, 1) := by decide +kernel
theorem dX8_transfer_14 : decode cX8_transfer 14 = .ok (.ireturn, 1) := by decide +kernel
theorem dX8_transfer_15 : decode cX8_transfer 15 = .ok (.iload_n 1, 1) := by decide +kernel
theorem dX8_transfer_16 : decode cX8_transfer 16 = .ok (.invokestatic 126, 3) := by decide +kernel
theorem dX8_transfer_19 : decode cX8_transfer 19 = .ok (.istore 4, 2) := by decide +kernel
theorem dX8_transfer_21 : decode cX8_transfer 21 = .ok (.aload_n 0, 1) := by decide +kernel
theorem dX8_transfer_22 : decode cX8_transfer 22 = .ok (.iload_n 2, 1) := by decide +kernel
theorem dX8_transfer_23 : decode cX8_transfer 23 = .ok (.iconst 1, 1) := by decide +kernel
theorem dX8_transfer_24 : decode cX8_transfer 24 = .ok (.ldc 129, 2) := by decide +kernel
theorem dX8_transfer_26 : decode cX8_transfer 26 = .ok (.invokestatic 54, 3) := by decide +kernel
theorem dX8_transfer_29 : decode cX8_transfer 29 = .ok (.ifCond .eq 27, 3) := by decide +kernel
theorem dX8_transfer_32 : decode cX8_transfer 32 = .ok (.iload_n 3, 1) := by decide +kernel
theorem dX8_transfer_33 : decode cX8_transfer 33 = .ok (.iconst 0, 1) := by decide +kernel
theorem dX8_transfer_34 : decode cX8_transfer 34 = .ok (.sipush 999, 3) := by decide +kernel
theorem dX8_transfer_37 : decode cX8_transfer 37 = .ok (.invokestatic 54, 3) := by decide +kernel
theorem dX8_transfer_40 : decode cX8_transfer 40 = .ok (.ifCond .eq 16, 3) := by decide +kernel
theorem dX8_transfer_43 : decode cX8_transfer 43 = .ok (.iload_n 3, 1) := by decide +kernel
theorem dX8_transfer_44 : decode cX8_transfer 44 = .ok (.aload_n 0, 1) := by decide +kernel
theorem dX8_transfer_45 : decode cX8_transfer 45 = .ok (.getfield 17, 3) := by decide +kernel
theorem dX8_transfer_48 : decode cX8_transfer 48 = .ok (.iload 4, 2) := by decide +kernel
theorem dX8_transfer_50 : decode cX8_transfer 50 = .ok (.iconst 3, 1) := by decide +kernel
theorem dX8_transfer_51 : decode cX8_transfer 51 = .ok (.iadd, 1) := by decide +kernel
theorem dX8_transfer_52 : decode cX8_transfer 52 = .ok (.iaload, 1) := by decide +kernel
theorem dX8_transfer_53 : decode cX8_transfer 53 = .ok (.if_icmp .le 7, 3) := by decide +kernel
theorem dX8_transfer_56 : decode cX8_transfer 56 = .ok (.iconst 1, 1) := by decide +kernel
theorem dX8_transfer_57 : decode cX8_transfer 57 = .ok (.goto 4, 3) := by decide +kernel
theorem dX8_transfer_60 : decode cX8_transfer 60 = .ok (.iconst 0, 1) := by decide +kernel
theorem dX8_transfer_61 : decode cX8_transfer 61 = .ok (.iconst 2, 1) := by decide +kernel
theorem dX8_transfer_62 : decode cX8_transfer 62 = .ok (.invokevirtual 153, 3) := by decide +kernel
theorem dX8_transfer_65 : decode cX8_transfer 65 = .ok (.ifCond .eq 5, 3) := by decide +kernel
theorem dX8_transfer_68 : decode cX8_transfer 68 = .ok (.iconst 0, 1) := by decide +kernel
theorem dX8_transfer_69 : decode cX8_transfer 69 = .ok (.ireturn, 1) := by decide +kernel
theorem dX8_transfer_70 : decode cX8_transfer 70 = .ok (.aload_n 0, 1) := by decide +kernel
theorem dX8_transfer_71 : decode cX8_transfer 71 = .ok (.getfield 17, 3) := by decide +kernel
theorem dX8_transfer_74 : decode cX8_transfer 74 = .ok (.iload 4, 2) := by decide +kernel
theorem dX8_transfer_76 : decode cX8_transfer 76 = .ok (.bipush 8, 2) := by decide +kernel
theorem dX8_transfer_78 : decode cX8_transfer 78 = .ok (.iadd, 1) := by decide +kernel
theorem dX8_transfer_79 : decode cX8_transfer 79 = .ok (.iaload, 1) := by decide +kernel
theorem dX8_transfer_80 : decode cX8_transfer 80 = .ok (.ifCond .eq 33, 3) := by decide +kernel
theorem dX8_transfer_83 : decode cX8_transfer 83 = .ok (.iload_n 2, 1) := by decide +kernel
theorem dX8_transfer_84 : decode cX8_transfer 84 = .ok (.aload_n 0, 1) := by decide +kernel
theorem dX8_transfer_85 : decode cX8_transfer 85 = .ok (.iload_n 1, 1) := by decide +kernel
theorem dX8_transfer_86 : decode cX8_transfer 86 = .ok (.invokevirtual 201, 3) := by decide +kernel
theorem dX8_transfer_89 : decode cX8_transfer 89 = .ok (.if_icmp .gt 24, 3) := by decide +kernel
theorem dX8_transfer_92 : decode cX8_transfer 92 = .ok (.aload_n 0, 1) := by decide +kernel
theorem dX8_transfer_93 : decode cX8_transfer 93 = .ok (.getfield 17, 3) := by decide +kernel
theorem dX8_transfer_96 : decode cX8_transfer 96 = .ok (.iload 4, 2) := by decide +kernel
theorem dX8_transfer_98 : decode cX8_transfer 98 = .ok (.bipush 7, 2) := by decide +kernel
theorem dX8_transfer_100 : decode cX8_transfer 100 = .ok (.iadd, 1) := by decide +kernel
theorem dX8_transfer_101 : decode cX8_transfer 101 = .ok (.iaload, 1) := by decide +kernel
theorem dX8_transfer_102 : decode cX8_transfer 102 = .ok (.ifCond .ne 15, 3) := by decide +kernel
theorem dX8_transfer_105 : decode cX8_transfer 105 = .ok (.aload_n 0, 1) := by decide +kernel
theorem dX8_transfer_106 : decode cX8_transfer 106 = .ok (.iload_n 1, 1) := by decide +kernel
theorem dX8_transfer_107 : decode cX8_transfer 107 = .ok (.invokevirtual 198, 3) := by decide +kernel
theorem dX8_transfer_110 : decode cX8_transfer 110 = .ok (.ifCond .eq 7, 3) := by decide +kernel
theorem dX8_transfer_113 : decode cX8_transfer 113 = .ok (.iconst 1, 1) := by decide +kernel
theorem dX8_transfer_114 : decode cX8_transfer 114 = .ok (.goto 4, 3) := by decide +kernel
theorem dX8_transfer_117 : decode cX8_transfer 117 = .ok (.iconst 0, 1) := by decide +kernel
theorem dX8_transfer_118 : decode cX8_transfer 118 = .ok (.istore 5, 2) := by decide +kernel
theorem dX8_transfer_120 : decode cX8_transfer 120 = .ok (.aload_n 0, 1) := by decide +kernel
theorem dX8_transfer_121 : decode cX8_transfer 121 = .ok (.iload 5, 2) := by decide +kernel
theorem dX8_transfer_123 : decode cX8_transfer 123 = .ok (.ifCond .ne 14, 3) := by decide +kernel
theorem dX8_transfer_126 : decode cX8_transfer 126 = .ok (.aload_n 0, 1) := by decide +kernel
theorem dX8_transfer_127 : decode cX8_transfer 127 = .ok (.getfield 17, 3) := by decide +kernel
theorem dX8_transfer_130 : decode cX8_transfer 130 = .ok (.iconst 0, 1) := by decide +kernel
theorem dX8_transfer_131 : decode cX8_transfer 131 = .ok (.iaload, 1) := by decide +kernel
theorem dX8_transfer_132 : decode cX8_transfer 132 = .ok (.bipush 12, 2) := by decide +kernel
theorem dX8_transfer_134 : decode cX8_transfer 134 = .ok (.if_icmp .ne 7, 3) := by decide +kernel
theorem dX8_transfer_137 : decode cX8_transfer 137 = .ok (.iconst 1, 1) := by decide +kernel
theorem dX8_transfer_138 : decode cX8_transfer 138 = .ok (.goto 4, 3) := by decide +kernel
theorem dX8_transfer_141 : decode cX8_transfer 141 = .ok (.iconst 0, 1) := by decide +kernel
theorem dX8_transfer_142 : decode cX8_transfer 142 = .ok (.iconst 3, 1) := by decide +kernel
theorem dX8_transfer_143 : decode cX8_transfer 143 = .ok (.invokevirtual 153, 3) := by decide +kernel
theorem dX8_transfer_146 : decode cX8_transfer 146 = .ok (.ifCond .eq 5, 3) := by decide +kernel
theorem dX8_transfer_149 : decode cX8_transfer 149 = .ok (.iconst 0, 1) := by decide +kernel
theorem dX8_transfer_150 : decode cX8_transfer 150 = .ok (.ireturn, 1) := by decide +kernel
theorem dX8_transfer_151 : decode cX8_transfer 151 = .ok (.aload_n 0, 1) := by decide +kernel
theorem dX8_transfer_152 : decode cX8_transfer 152 = .ok (.invokevirtual 160, 3) := by decide +kernel
theorem dX8_transfer_155 : decode cX8_transfer 155 = .ok (.aload_n 0, 1) := by decide +kernel
theorem dX8_transfer_156 : decode cX8_transfer 156 = .ok (.getfield 17, 3) := by decide +kernel
theorem dX8_transfer_159 : decode cX8_transfer 159 = .ok (.iconst 0, 1) := by decide +kernel
theorem dX8_transfer_160 : decode cX8_transfer 160 = .ok (.iaload, 1) := by decide +kernel
theorem dX8_transfer_161 : decode cX8_transfer 161 = .ok (.istore 6, 2) := by decide +kernel
theorem dX8_transfer_163 : decode cX8_transfer 163 = .ok (.iload 6, 2) := by decide +kernel
theorem dX8_transfer_165 : decode cX8_transfer 165 = .ok (.invokestatic 126, 3) := by decide +kernel
theorem dX8_transfer_168 : decode cX8_transfer 168 = .ok (.istore 7, 2) := by decide +kernel
theorem dX8_transfer_170 : decode cX8_transfer 170 = .ok (.aload_n 0, 1) := by decide +kernel
theorem dX8_transfer_171 : decode cX8_transfer 171 = .ok (.getfield 17, 3) := by decide +kernel
theorem dX8_transfer_174 : decode cX8_transfer 174 = .ok (.iconst 0, 1) := by decide +kernel
theorem dX8_transfer_175 : decode cX8_transfer 175 = .ok (.dup2, 1) := by decide +kernel
theorem dX8_transfer_176 : decode cX8_transfer 176 = .ok (.iaload, 1) := by decide +kernel
theorem dX8_transfer_177 : decode cX8_transfer 177 = .ok (.iconst 1, 1) := by decide +kernel
theorem dX8_transfer_178 : decode cX8_transfer 178 = .ok (.iadd, 1) := by decide +kernel
theorem dX8_transfer_179 : decode cX8_transfer 179 = .ok (.iastore, 1) := by decide +kernel
theorem dX8_transfer_180 : decode cX8_transfer 180 = .ok (.iconst 0, 1) := by decide +kernel
theorem dX8_transfer_181 : decode cX8_transfer 181 = .ok (.istore 8, 2) := by decide +kernel
theorem dX8_transfer_183 : decode cX8_transfer 183 = .ok (.iload 8, 2) := by decide +kernel
theorem dX8_transfer_185 : decode cX8_transfer 185 = .ok (.bipush 11, 2) := by decide +kernel
theorem dX8_transfer_187 : decode cX8_transfer 187 = .ok (.if_icmp .ge 29, 3) := by decide +kernel
theorem dX8_transfer_190 : decode cX8_transfer 190 = .ok (.aload_n 0, 1) := by decide +kernel
theorem dX8_transfer_191 : decode cX8_transfer 191 = .ok (.getfield 17, 3) := by decide +kernel
theorem dX8_transfer_194 : decode cX8_transfer 194 = .ok (.iload 7, 2) := by decide +kernel
theorem dX8_transfer_196 : decode cX8_transfer 196 = .ok (.iload 8, 2) := by decide +kernel
theorem dX8_transfer_198 : decode cX8_transfer 198 = .ok (.iadd, 1) := by decide +kernel
theorem dX8_transfer_199 : decode cX8_transfer 199 = .ok (.aload_n 0, 1) := by decide +kernel
theorem dX8_transfer_200 : decode cX8_transfer 200 = .ok (.getfield 17, 3) := by decide +kernel
theorem dX8_transfer_203 : decode cX8_transfer 203 = .ok (.iload 4, 2) := by decide +kernel
theorem dX8_transfer_205 : decode cX8_transfer 205 = .ok (.iload 8, 2) := by decide +kernel
theorem dX8_transfer_207 : decode cX8_transfer 207 = .ok (.iadd, 1) := by decide +kernel
theorem dX8_transfer_208 : decode cX8_transfer 208 = .ok (.iaload, 1) := by decide +kernel
theorem dX8_transfer_209 : decode cX8_transfer 209 = .ok (.iastore, 1) := by decide +kernel
theorem dX8_transfer_210 : decode cX8_transfer 210 = .ok (.iinc 8 1, 3) := by decide +kernel
theorem dX8_transfer_213 : decode cX8_transfer 213 = .ok (.goto (-30), 3) := by decide +kernel
theorem dX8_transfer_216 : decode cX8_transfer 216 = .ok (.aload_n 0, 1) := by decide +kernel
theorem dX8_transfer_217 : decode cX8_transfer 217 = .ok (.getfield 17, 3) := by decide +kernel
theorem dX8_transfer_220 : decode cX8_transfer 220 = .ok (.iload 7, 2) := by decide +kernel
theorem dX8_transfer_222 : decode cX8_transfer 222 = .ok (.iload_n 2, 1) := by decide +kernel
theorem dX8_transfer_223 : decode cX8_transfer 223 = .ok (.iastore, 1) := by decide +kernel
theorem dX8_transfer_224 : decode cX8_transfer 224 = .ok (.aload_n 0, 1) := by decide +kernel
theorem dX8_transfer_225 : decode cX8_transfer 225 = .ok (.getfield 17, 3) := by decide +kernel
theorem dX8_transfer_228 : decode cX8_transfer 228 = .ok (.iload 7, 2) := by decide +kernel
theorem dX8_transfer_230 : decode cX8_transfer 230 = .ok (.iconst 1, 1) := by decide +kernel
theorem dX8_transfer_231 : decode cX8_transfer 231 = .ok (.iadd, 1) := by decide +kernel
theorem dX8_transfer_232 : decode cX8_transfer 232 = .ok (.iconst 0, 1) := by decide +kernel
theorem dX8_transfer_233 : decode cX8_transfer 233 = .ok (.iastore, 1) := by decide +kernel
theorem dX8_transfer_234 : decode cX8_transfer 234 = .ok (.aload_n 0, 1) := by decide +kernel
theorem dX8_transfer_235 : decode cX8_transfer 235 = .ok (.getfield 17, 3) := by decide +kernel
theorem dX8_transfer_238 : decode cX8_transfer 238 = .ok (.iload 7, 2) := by decide +kernel
theorem dX8_transfer_240 : decode cX8_transfer 240 = .ok (.iconst 2, 1) := by decide +kernel
theorem dX8_transfer_241 : decode cX8_transfer 241 = .ok (.iadd, 1) := by decide +kernel
theorem dX8_transfer_242 : decode cX8_transfer 242 = .ok (.iconst 0, 1) := by decide +kernel
theorem dX8_transfer_243 : decode cX8_transfer 243 = .ok (.iastore, 1) := by decide +kernel
theorem dX8_transfer_244 : decode cX8_transfer 244 = .ok (.aload_n 0, 1) := by decide +kernel
theorem dX8_transfer_245 : decode cX8_transfer 245 = .ok (.getfield 17, 3) := by decide +kernel
theorem dX8_transfer_248 : decode cX8_transfer 248 = .ok (.iload 7, 2) := by decide +kernel
theorem dX8_transfer_250 : decode cX8_transfer 250 = .ok (.iconst 3, 1) := by decide +kernel
theorem dX8_transfer_251 : decode cX8_transfer 251 = .ok (.iadd, 1) := by decide +kernel
theorem dX8_transfer_252 : decode cX8_transfer 252 = .ok (.iload_n 3, 1) := by decide +kernel
theorem dX8_transfer_253 : decode cX8_transfer 253 = .ok (.iastore, 1) := by decide +kernel
theorem dX8_transfer_254 : decode cX8_transfer 254 = .ok (.aload_n 0, 1) := by decide +kernel
theorem dX8_transfer_255 : decode cX8_transfer 255 = .ok (.getfield 17, 3) := by decide +kernel
theorem dX8_transfer_258 : decode cX8_transfer 258 = .ok (.iload 7, 2) := by decide +kernel
theorem dX8_transfer_260 : decode cX8_transfer 260 = .ok (.iconst 4, 1) := by decide +kernel
theorem dX8_transfer_261 : decode cX8_transfer 261 = .ok (.iadd, 1) := by decide +kernel
theorem dX8_transfer_262 : decode cX8_transfer 262 = .ok (.aload_n 0, 1) := by decide +kernel
theorem dX8_transfer_263 : decode cX8_transfer 263 = .ok (.getfield 17, 3) := by decide +kernel
theorem dX8_transfer_266 : decode cX8_transfer 266 = .ok (.iload 4, 2) := by decide +kernel
theorem dX8_transfer_268 : decode cX8_transfer 268 = .ok (.iconst 4, 1) := by decide +kernel
theorem dX8_transfer_269 : decode cX8_transfer 269 = .ok (.iadd, 1) := by decide +kernel
theorem dX8_transfer_270 : decode cX8_transfer 270 = .ok (.iaload, 1) := by decide +kernel
theorem dX8_transfer_271 : decode cX8_transfer 271 = .ok (.iload_n 3, 1) := by decide +kernel
theorem dX8_transfer_272 : decode cX8_transfer 272 = .ok (.invokestatic 87, 3) := by decide +kernel
theorem dX8_transfer_275 : decode cX8_transfer 275 = .ok (.iastore, 1) := by decide +kernel
theorem dX8_transfer_276 : decode cX8_transfer 276 = .ok (.aload_n 0, 1) := by decide +kernel
theorem dX8_transfer_277 : decode cX8_transfer 277 = .ok (.getfield 17, 3) := by decide +kernel
theorem dX8_transfer_280 : decode cX8_transfer 280 = .ok (.iload 7, 2) := by decide +kernel
theorem dX8_transfer_282 : decode cX8_transfer 282 = .ok (.bipush 8, 2) := by decide +kernel
theorem dX8_transfer_284 : decode cX8_transfer 284 = .ok (.iadd, 1) := by decide +kernel
theorem dX8_transfer_285 : decode cX8_transfer 285 = .ok (.iconst 0, 1) := by decide +kernel
theorem dX8_transfer_286 : decode cX8_transfer 286 = .ok (.iastore, 1) := by decide +kernel
theorem dX8_transfer_287 : decode cX8_transfer 287 = .ok (.aload_n 0, 1) := by decide +kernel
theorem dX8_transfer_288 : decode cX8_transfer 288 = .ok (.getfield 17, 3) := by decide +kernel
theorem dX8_transfer_291 : decode cX8_transfer 291 = .ok (.iload 7, 2) := by decide +kernel
theorem dX8_transfer_293 : decode cX8_transfer 293 = .ok (.bipush 10, 2) := by decide +kernel
theorem dX8_transfer_295 : decode cX8_transfer 295 = .ok (.iadd, 1) := by decide +kernel
theorem dX8_transfer_296 : decode cX8_transfer 296 = .ok (.iload_n 1, 1) := by decide +kernel
theorem dX8_transfer_297 : decode cX8_transfer 297 = .ok (.iastore, 1) := by decide +kernel
theorem dX8_transfer_298 : decode cX8_transfer 298 = .ok (.iload 6, 2) := by decide +kernel
theorem dX8_transfer_300 : decode cX8_transfer 300 = .ok (.ireturn, 1) := by decide +kernel
theorem dX8_pass_0 : decode cX8_pass 0 = .ok (.aload_n 0, 1) := by decide +kernel
theorem dX8_pass_1 : decode cX8_pass 1 = .ok (.iconst 0, 1) := by decide +kernel
theorem dX8_pass_2 : decode cX8_pass 2 = .ok (.putfield 32, 3) := by decide +kernel
theorem dX8_pass_5 : decode cX8_pass 5 = .ok (.aload_n 0, 1) := by decide +kernel
theorem dX8_pass_6 : decode cX8_pass 6 = .ok (.iload_n 1, 1) := by decide +kernel
theorem dX8_pass_7 : decode cX8_pass 7 = .ok (.iconst 1, 1) := by decide +kernel
theorem dX8_pass_8 : decode cX8_pass 8 = .ok (.sipush 365, 3) := by decide +kernel
theorem dX8_pass_11 : decode cX8_pass 11 = .ok (.invokestatic 54, 3) := by decide +kernel
theorem dX8_pass_14 : decode cX8_pass 14 = .ok (.ifCond .ne 7, 3) := by decide +kernel
theorem dX8_pass_17 : decode cX8_pass 17 = .ok (.iconst 1, 1) := by decide +kernel
theorem dX8_pass_18 : decode cX8_pass 18 = .ok (.goto 4, 3) := by decide +kernel
theorem dX8_pass_21 : decode cX8_pass 21 = .ok (.iconst 0, 1) := by decide +kernel
theorem dX8_pass_22 : decode cX8_pass 22 = .ok (.iconst 1, 1) := by decide +kernel
theorem dX8_pass_23 : decode cX8_pass 23 = .ok (.invokevirtual 153, 3) := by decide +kernel
theorem dX8_pass_26 : decode cX8_pass 26 = .ok (.ifCond .ne 30, 3) := by decide +kernel
theorem dX8_pass_29 : decode cX8_pass 29 = .ok (.aload_n 0, 1) := by decide +kernel
theorem dX8_pass_30 : decode cX8_pass 30 = .ok (.aload_n 0, 1) := by decide +kernel
theorem dX8_pass_31 : decode cX8_pass 31 = .ok (.getfield 17, 3) := by decide +kernel
theorem dX8_pass_34 : decode cX8_pass 34 = .ok (.iconst 3, 1) := by decide +kernel
theorem dX8_pass_35 : decode cX8_pass 35 = .ok (.iaload, 1) := by decide +kernel
theorem dX8_pass_36 : decode cX8_pass 36 = .ok (.iload_n 1, 1) := by decide +kernel
theorem dX8_pass_37 : decode cX8_pass 37 = .ok (.iadd, 1) := by decide +kernel
theorem dX8_pass_38 : decode cX8_pass 38 = .ok (.sipush 9000, 3) := by decide +kernel
theorem dX8_pass_41 : decode cX8_pass 41 = .ok (.if_icmp .le 7, 3) := by decide +kernel
theorem dX8_pass_44 : decode cX8_pass 44 = .ok (.iconst 1, 1) := by decide +kernel
theorem dX8_pass_45 : decode cX8_pass 45 = .ok (.goto 4, 3) := by decide +kernel
theorem dX8_pass_48 : decode cX8_pass 48 = .ok (.iconst 0, 1) := by decide +kernel
theorem dX8_pass_49 : decode cX8_pass 49 = .ok (.iconst 2, 1) := by decide +kernel
theorem dX8_pass_50 : decode cX8_pass 50 = .ok (.invokevirtual 153, 3) := by decide +kernel
theorem dX8_pass_53 : decode cX8_pass 53 = .ok (.ifCond .eq 5, 3) := by decide +kernel
theorem dX8_pass_56 : decode cX8_pass 56 = .ok (.iconst 0, 1) := by decide +kernel
theorem dX8_pass_57 : decode cX8_pass 57 = .ok (.ireturn, 1) := by decide +kernel
theorem dX8_pass_58 : decode cX8_pass 58 = .ok (.aload_n 0, 1) := by decide +kernel
theorem dX8_pass_59 : decode cX8_pass 59 = .ok (.invokevirtual 160, 3) := by decide +kernel
theorem dX8_pass_62 : decode cX8_pass 62 = .ok (.aload_n 0, 1) := by decide +kernel
theorem dX8_pass_63 : decode cX8_pass 63 = .ok (.getfield 17, 3) := by decide +kernel
theorem dX8_pass_66 : decode cX8_pass 66 = .ok (.iconst 3, 1) := by decide +kernel
theorem dX8_pass_67 : decode cX8_pass 67 = .ok (.dup2, 1) := by decide +kernel
theorem dX8_pass_68 : decode cX8_pass 68 = .ok (.iaload, 1) := by decide +kernel
theorem dX8_pass_69 : decode cX8_pass 69 = .ok (.iload_n 1, 1) := by decide +kernel
theorem dX8_pass_70 : decode cX8_pass 70 = .ok (.iadd, 1) := by decide +kernel
theorem dX8_pass_71 : decode cX8_pass 71 = .ok (.iastore, 1) := by decide +kernel
theorem dX8_pass_72 : decode cX8_pass 72 = .ok (.aload_n 0, 1) := by decide +kernel
theorem dX8_pass_73 : decode cX8_pass 73 = .ok (.getfield 17, 3) := by decide +kernel
theorem dX8_pass_76 : decode cX8_pass 76 = .ok (.iconst 3, 1) := by decide +kernel
theorem dX8_pass_77 : decode cX8_pass 77 = .ok (.iaload, 1) := by decide +kernel
theorem dX8_pass_78 : decode cX8_pass 78 = .ok (.ireturn, 1) := by decide +kernel
theorem dX8_undo_0 : decode cX8_undo 0 = .ok (.aload_n 0, 1) := by decide +kernel
theorem dX8_undo_1 : decode cX8_undo 1 = .ok (.iconst 0, 1) := by decide +kernel
theorem dX8_undo_2 : decode cX8_undo 2 = .ok (.putfield 32, 3) := by decide +kernel
theorem dX8_undo_5 : decode cX8_undo 5 = .ok (.aload_n 0, 1) := by decide +kernel
theorem dX8_undo_6 : decode cX8_undo 6 = .ok (.getfield 242, 3) := by decide +kernel
theorem dX8_undo_9 : decode cX8_undo 9 = .ok (.ifCond .ne 5, 3) := by decide +kernel
theorem dX8_undo_12 : decode cX8_undo 12 = .ok (.iconst (-1), 1) := by decide +kernel
theorem dX8_undo_13 : decode cX8_undo 13 = .ok (.ireturn, 1) := by decide +kernel
theorem dX8_undo_14 : decode cX8_undo 14 = .ok (.aload_n 0, 1) := by decide +kernel
theorem dX8_undo_15 : decode cX8_undo 15 = .ok (.dup, 1) := by decide +kernel
theorem dX8_undo_16 : decode cX8_undo 16 = .ok (.getfield 242, 3) := by decide +kernel
theorem dX8_undo_19 : decode cX8_undo 19 = .ok (.iconst 1, 1) := by decide +kernel
theorem dX8_undo_20 : decode cX8_undo 20 = .ok (.isub, 1) := by decide +kernel
theorem dX8_undo_21 : decode cX8_undo 21 = .ok (.putfield 242, 3) := by decide +kernel
theorem dX8_undo_24 : decode cX8_undo 24 = .ok (.aload_n 0, 1) := by decide +kernel
theorem dX8_undo_25 : decode cX8_undo 25 = .ok (.getfield 25, 3) := by decide +kernel
theorem dX8_undo_28 : decode cX8_undo 28 = .ok (.aload_n 0, 1) := by decide +kernel
theorem dX8_undo_29 : decode cX8_undo 29 = .ok (.getfield 242, 3) := by decide +kernel
theorem dX8_undo_32 : decode cX8_undo 32 = .ok (.aaload, 1) := by decide +kernel
theorem dX8_undo_33 : decode cX8_undo 33 = .ok (.aload_n 0, 1) := by decide +kernel
theorem dX8_undo_34 : decode cX8_undo 34 = .ok (.getfield 17, 3) := by decide +kernel
theorem dX8_undo_37 : decode cX8_undo 37 = .ok (.invokestatic 163, 3) := by decide +kernel
theorem dX8_undo_40 : decode cX8_undo 40 = .ok (.aload_n 0, 1) := by decide +kernel
theorem dX8_undo_41 : decode cX8_undo 41 = .ok (.getfield 242, 3) := by decide +kernel
theorem dX8_undo_44 : decode cX8_undo 44 = .ok (.ireturn, 1) := by decide +kernel
theorem dX8_checksum_0 : decode cX8_checksum 0 = .ok (.aload_n 0, 1) := by decide +kernel
theorem dX8_checksum_1 : decode cX8_checksum 1 = .ok (.iconst 0, 1) := by decide +kernel
theorem dX8_checksum_2 : decode cX8_checksum 2 = .ok (.putfield 32, 3) := by decide +kernel
theorem dX8_checksum_5 : decode cX8_checksum 5 = .ok (.aload_n 0, 1) := by decide +kernel
theorem dX8_checksum_6 : decode cX8_checksum 6 = .ok (.getfield 17, 3) := by decide +kernel
theorem dX8_checksum_9 : decode cX8_checksum 9 = .ok (.iconst 3, 1) := by decide +kernel
theorem dX8_checksum_10 : decode cX8_checksum 10 = .ok (.iaload, 1) := by decide +kernel
theorem dX8_checksum_11 : decode cX8_checksum 11 = .ok (.i2l, 1) := by decide +kernel
theorem dX8_checksum_12 : decode cX8_checksum 12 = .ok (.lstore_n 1, 1) := by decide +kernel
theorem dX8_checksum_13 : decode cX8_checksum 13 = .ok (.iconst 0, 1) := by decide +kernel
theorem dX8_checksum_14 : decode cX8_checksum 14 = .ok (.istore_n 3, 1) := by decide +kernel
theorem dX8_checksum_15 : decode cX8_checksum 15 = .ok (.iload_n 3, 1) := by decide +kernel
theorem dX8_checksum_16 : decode cX8_checksum 16 = .ok (.aload_n 0, 1) := by decide +kernel
theorem dX8_checksum_17 : decode cX8_checksum 17 = .ok (.getfield 17, 3) := by decide +kernel
theorem dX8_checksum_20 : decode cX8_checksum 20 = .ok (.iconst 0, 1) := by decide +kernel
theorem dX8_checksum_21 : decode cX8_checksum 21 = .ok (.iaload, 1) := by decide +kernel
theorem dX8_checksum_22 : decode cX8_checksum 22 = .ok (.if_icmp .ge 55, 3) := by decide +kernel
theorem dX8_checksum_25 : decode cX8_checksum 25 = .ok (.ldc2_w 248, 3) := by decide +kernel
theorem dX8_checksum_28 : decode cX8_checksum 28 = .ok (.lload_n 1, 1) := by decide +kernel
theorem dX8_checksum_29 : decode cX8_checksum 29 = .ok (.lmul, 1) := by decide +kernel
theorem dX8_checksum_30 : decode cX8_checksum 30 = .ok (.aload_n 0, 1) := by decide +kernel
theorem dX8_checksum_31 : decode cX8_checksum 31 = .ok (.getfield 17, 3) := by decide +kernel
theorem dX8_checksum_34 : decode cX8_checksum 34 = .ok (.iload_n 3, 1) := by decide +kernel
theorem dX8_checksum_35 : decode cX8_checksum 35 = .ok (.invokestatic 126, 3) := by decide +kernel
theorem dX8_checksum_38 : decode cX8_checksum 38 = .ok (.bipush 10, 2) := by decide +kernel
theorem dX8_checksum_40 : decode cX8_checksum 40 = .ok (.iadd, 1) := by decide +kernel
theorem dX8_checksum_41 : decode cX8_checksum 41 = .ok (.iaload, 1) := by decide +kernel
theorem dX8_checksum_42 : decode cX8_checksum 42 = .ok (.i2l, 1) := by decide +kernel
theorem dX8_checksum_43 : decode cX8_checksum 43 = .ok (.ladd, 1) := by decide +kernel
theorem dX8_checksum_44 : decode cX8_checksum 44 = .ok (.lstore_n 1, 1) := by decide +kernel
theorem dX8_checksum_45 : decode cX8_checksum 45 = .ok (.ldc2_w 248, 3) := by decide +kernel
theorem dX8_checksum_48 : decode cX8_checksum 48 = .ok (.lload_n 1, 1) := by decide +kernel
theorem dX8_checksum_49 : decode cX8_checksum 49 = .ok (.lmul, 1) := by decide +kernel
theorem dX8_checksum_50 : decode cX8_checksum 50 = .ok (.aload_n 0, 1) := by decide +kernel
theorem dX8_checksum_51 : decode cX8_checksum 51 = .ok (.iload_n 3, 1) := by decide +kernel
theorem dX8_checksum_52 : decode cX8_checksum 52 = .ok (.invokevirtual 195, 3) := by decide +kernel
theorem dX8_checksum_55 : decode cX8_checksum 55 = .ok (.i2l, 1) := by decide +kernel
theorem dX8_checksum_56 : decode cX8_checksum 56 = .ok (.ladd, 1) := by decide +kernel
theorem dX8_checksum_57 : decode cX8_checksum 57 = .ok (.lstore_n 1, 1) := by decide +kernel
theorem dX8_checksum_58 : decode cX8_checksum 58 = .ok (.ldc2_w 248, 3) := by decide +kernel
theorem dX8_checksum_61 : decode cX8_checksum 61 = .ok (.lload_n 1, 1) := by decide +kernel
theorem dX8_checksum_62 : decode cX8_checksum 62 = .ok (.lmul, 1) := by decide +kernel
theorem dX8_checksum_63 : decode cX8_checksum 63 = .ok (.aload_n 0, 1) := by decide +kernel
theorem dX8_checksum_64 : decode cX8_checksum 64 = .ok (.iload_n 3, 1) := by decide +kernel
theorem dX8_checksum_65 : decode cX8_checksum 65 = .ok (.invokevirtual 201, 3) := by decide +kernel
theorem dX8_checksum_68 : decode cX8_checksum 68 = .ok (.i2l, 1) := by decide +kernel
theorem dX8_checksum_69 : decode cX8_checksum 69 = .ok (.ladd, 1) := by decide +kernel
theorem dX8_checksum_70 : decode cX8_checksum 70 = .ok (.lstore_n 1, 1) := by decide +kernel
theorem dX8_checksum_71 : decode cX8_checksum 71 = .ok (.iinc 3 1, 3) := by decide +kernel
theorem dX8_checksum_74 : decode cX8_checksum 74 = .ok (.goto (-59), 3) := by decide +kernel
theorem dX8_checksum_77 : decode cX8_checksum 77 = .ok (.iconst 0, 1) := by decide +kernel
theorem dX8_checksum_78 : decode cX8_checksum 78 = .ok (.istore_n 3, 1) := by decide +kernel
theorem dX8_checksum_79 : decode cX8_checksum 79 = .ok (.iload_n 3, 1) := by decide +kernel
theorem dX8_checksum_80 : decode cX8_checksum 80 = .ok (.aload_n 0, 1) := by decide +kernel
theorem dX8_checksum_81 : decode cX8_checksum 81 = .ok (.getfield 17, 3) := by decide +kernel
theorem dX8_checksum_84 : decode cX8_checksum 84 = .ok (.iconst 1, 1) := by decide +kernel
theorem dX8_checksum_85 : decode cX8_checksum 85 = .ok (.iaload, 1) := by decide +kernel
theorem dX8_checksum_86 : decode cX8_checksum 86 = .ok (.if_icmp .ge 77, 3) := by decide +kernel
theorem dX8_checksum_89 : decode cX8_checksum 89 = .ok (.ldc2_w 248, 3) := by decide +kernel
theorem dX8_checksum_92 : decode cX8_checksum 92 = .ok (.lload_n 1, 1) := by decide +kernel
theorem dX8_checksum_93 : decode cX8_checksum 93 = .ok (.lmul, 1) := by decide +kernel
theorem dX8_checksum_94 : decode cX8_checksum 94 = .ok (.aload_n 0, 1) := by decide +kernel
theorem dX8_checksum_95 : decode cX8_checksum 95 = .ok (.getfield 17, 3) := by decide +kernel
theorem dX8_checksum_98 : decode cX8_checksum 98 = .ok (.iload_n 3, 1) := by decide +kernel
theorem dX8_checksum_99 : decode cX8_checksum 99 = .ok (.invokestatic 188, 3) := by decide +kernel
theorem dX8_checksum_102 : decode cX8_checksum 102 = .ok (.iaload, 1) := by decide +kernel
theorem dX8_checksum_103 : decode cX8_checksum 103 = .ok (.i2l, 1) := by decide +kernel
theorem dX8_checksum_104 : decode cX8_checksum 104 = .ok (.ladd, 1) := by decide +kernel
theorem dX8_checksum_105 : decode cX8_checksum 105 = .ok (.lstore_n 1, 1) := by decide +kernel
theorem dX8_checksum_106 : decode cX8_checksum 106 = .ok (.ldc2_w 248, 3) := by decide +kernel
theorem dX8_checksum_109 : decode cX8_checksum 109 = .ok (.lload_n 1, 1) := by decide +kernel
theorem dX8_checksum_110 : decode cX8_checksum 110 = .ok (.lmul, 1) := by decide +kernel
theorem dX8_checksum_111 : decode cX8_checksum 111 = .ok (.aload_n 0, 1) := by decide +kernel
theorem dX8_checksum_112 : decode cX8_checksum 112 = .ok (.getfield 17, 3) := by decide +kernel
theorem dX8_checksum_115 : decode cX8_checksum 115 = .ok (.iload_n 3, 1) := by decide +kernel
theorem dX8_checksum_116 : decode cX8_checksum 116 = .ok (.invokestatic 188, 3) := by decide +kernel
theorem dX8_checksum_119 : decode cX8_checksum 119 = .ok (.iconst 4, 1) := by decide +kernel
theorem dX8_checksum_120 : decode cX8_checksum 120 = .ok (.iadd, 1) := by decide +kernel
theorem dX8_checksum_121 : decode cX8_checksum 121 = .ok (.iaload, 1) := by decide +kernel
theorem dX8_checksum_122 : decode cX8_checksum 122 = .ok (.i2l, 1) := by decide +kernel
theorem dX8_checksum_123 : decode cX8_checksum 123 = .ok (.ladd, 1) := by decide +kernel
theorem dX8_checksum_124 : decode cX8_checksum 124 = .ok (.lstore_n 1, 1) := by decide +kernel
theorem dX8_checksum_125 : decode cX8_checksum 125 = .ok (.ldc2_w 248, 3) := by decide +kernel
theorem dX8_checksum_128 : decode cX8_checksum 128 = .ok (.lload_n 1, 1) := by decide +kernel
theorem dX8_checksum_129 : decode cX8_checksum 129 = .ok (.lmul, 1) := by decide +kernel
theorem dX8_checksum_130 : decode cX8_checksum 130 = .ok (.aload_n 0, 1) := by decide +kernel
theorem dX8_checksum_131 : decode cX8_checksum 131 = .ok (.getfield 17, 3) := by decide +kernel
theorem dX8_checksum_134 : decode cX8_checksum 134 = .ok (.iload_n 3, 1) := by decide +kernel
theorem dX8_checksum_135 : decode cX8_checksum 135 = .ok (.invokestatic 188, 3) := by decide +kernel
theorem dX8_checksum_138 : decode cX8_checksum 138 = .ok (.iconst 3, 1) := by decide +kernel
theorem dX8_checksum_139 : decode cX8_checksum 139 = .ok (.iadd, 1) := by decide +kernel
theorem dX8_checksum_140 : decode cX8_checksum 140 = .ok (.iaload, 1) := by decide +kernel
theorem dX8_checksum_141 : decode cX8_checksum 141 = .ok (.i2l, 1) := by decide +kernel
theorem dX8_checksum_142 : decode cX8_checksum 142 = .ok (.ladd, 1) := by decide +kernel
theorem dX8_checksum_143 : decode cX8_checksum 143 = .ok (.lstore_n 1, 1) := by decide +kernel
theorem dX8_checksum_144 : decode cX8_checksum 144 = .ok (.ldc2_w 248, 3) := by decide +kernel
theorem dX8_checksum_147 : decode cX8_checksum 147 = .ok (.lload_n 1, 1) := by decide +kernel
theorem dX8_checksum_148 : decode cX8_checksum 148 = .ok (.lmul, 1) := by decide +kernel
theorem dX8_checksum_149 : decode cX8_checksum 149 = .ok (.aload_n 0, 1) := by decide +kernel
theorem dX8_checksum_150 : decode cX8_checksum 150 = .ok (.iload_n 3, 1) := by decide +kernel
theorem dX8_checksum_151 : decode cX8_checksum 151 = .ok (.invokevirtual 222, 3) := by decide +kernel
theorem dX8_checksum_154 : decode cX8_checksum 154 = .ok (.i2l, 1) := by decide +kernel
theorem dX8_checksum_155 : decode cX8_checksum 155 = .ok (.ladd, 1) := by decide +kernel
theorem dX8_checksum_156 : decode cX8_checksum 156 = .ok (.lstore_n 1, 1) := by decide +kernel
theorem dX8_checksum_157 : decode cX8_checksum 157 = .ok (.iinc 3 1, 3) := by decide +kernel
theorem dX8_checksum_160 : decode cX8_checksum 160 = .ok (.goto (-81), 3) := by decide +kernel
theorem dX8_checksum_163 : decode cX8_checksum 163 = .ok (.lload_n 1, 1) := by decide +kernel
theorem dX8_checksum_164 : decode cX8_checksum 164 = .ok (.lreturn, 1) := by decide +kernel
