theorem dX0_init_0 : decode cX0_init 0 = .ok (.aload_n 0, 1) := by decide +kernel
theorem dX0_init_1 : decode cX0_init 1 = .ok (.invokespecial 3, 3) := by decide +kernel
theorem dX0_init_4 : decode cX0_init 4 = .ok (.aload_n 0, 1) := by decide +kernel
theorem dX0_init_5 : decode cX0_init 5 = .ok (.iload_n 1, 1) := by decide +kernel
theorem dX0_init_6 : decode cX0_init 6 = .ok (.putfield 9, 3) := by decide +kernel
theorem dX0_init_9 : decode cX0_init 9 = .ok (.aload_n 0, 1) := by decide +kernel
theorem dX0_init_10 : decode cX0_init 10 = .ok (.aload_n 2, 1) := by decide +kernel
theorem dX0_init_11 : decode cX0_init 11 = .ok (.putfield 15, 3) := by decide +kernel
theorem dX0_init_14 : decode cX0_init 14 = .ok (.aload_n 0, 1) := by decide +kernel
theorem dX0_init_15 : decode cX0_init 15 = .ok (.aload_n 3, 1) := by decide +kernel
theorem dX0_init_16 : decode cX0_init 16 = .ok (.putfield 19, 3) := by decide +kernel
theorem dX0_init_19 : decode cX0_init 19 = .ok (.aload_n 0, 1) := by decide +kernel
theorem dX0_init_20 : decode cX0_init 20 = .ok (.aload 4, 2) := by decide +kernel
theorem dX0_init_22 : decode cX0_init 22 = .ok (.putfield 23, 3) := by decide +kernel
theorem dX0_init_25 : decode cX0_init 25 = .ok (.aload_n 0, 1) := by decide +kernel
theorem dX0_init_26 : decode cX0_init 26 = .ok (.aload 5, 2) := by decide +kernel
theorem dX0_init_28 : decode cX0_init 28 = .ok (.putfield 27, 3) := by decide +kernel
theorem dX0_init_31 : decode cX0_init 31 = .ok (.return_, 1) := by decide +kernel
theorem dX0_ofEmptySetup_0 : decode cX0_ofEmptySetup 0 = .ok (.new 10, 3) := by decide +kernel
theorem dX0_ofEmptySetup_3 : decode cX0_ofEmptySetup 3 = .ok (.dup, 1) := by decide +kernel
theorem dX0_ofEmptySetup_4 : decode cX0_ofEmptySetup 4 = .ok (.iconst 0, 1) := by decide +kernel
theorem dX0_ofEmptySetup_5 : decode cX0_ofEmptySetup 5 = .ok (.new 31, 3) := by decide +kernel
theorem dX0_ofEmptySetup_8 : decode cX0_ofEmptySetup 8 = .ok (.dup, 1) := by decide +kernel
theorem dX0_ofEmptySetup_9 : decode cX0_ofEmptySetup 9 = .ok (.iconst 0, 1) := by decide +kernel
theorem dX0_ofEmptySetup_10 : decode cX0_ofEmptySetup 10 = .ok (.newarray .int, 2) := by decide +kernel
theorem dX0_ofEmptySetup_12 : decode cX0_ofEmptySetup 12 = .ok (.invokespecial 33, 3) := by decide +kernel
theorem dX0_ofEmptySetup_15 : decode cX0_ofEmptySetup 15 = .ok (.new 36, 3) := by decide +kernel
theorem dX0_ofEmptySetup_18 : decode cX0_ofEmptySetup 18 = .ok (.dup, 1) := by decide +kernel
theorem dX0_ofEmptySetup_19 : decode cX0_ofEmptySetup 19 = .ok (.getstatic 38, 3) := by decide +kernel
theorem dX0_ofEmptySetup_22 : decode cX0_ofEmptySetup 22 = .ok (.invokespecial 42, 3) := by decide +kernel
theorem dX0_ofEmptySetup_25 : decode cX0_ofEmptySetup 25 = .ok (.iconst 0, 1) := by decide +kernel
theorem dX0_ofEmptySetup_26 : decode cX0_ofEmptySetup 26 = .ok (.anewarray 43, 3) := by decide +kernel
theorem dX0_ofEmptySetup_29 : decode cX0_ofEmptySetup 29 = .ok (.iconst 0, 1) := by decide +kernel
theorem dX0_ofEmptySetup_30 : decode cX0_ofEmptySetup 30 = .ok (.anewarray 45, 3) := by decide +kernel
theorem dX0_ofEmptySetup_33 : decode cX0_ofEmptySetup 33 = .ok (.invokespecial 47, 3) := by decide +kernel
theorem dX0_ofEmptySetup_36 : decode cX0_ofEmptySetup 36 = .ok (.areturn, 1) := by decide +kernel
theorem dX0_withCalendar_0 : decode cX0_withCalendar 0 = .ok (.new 10, 3) := by decide +kernel
theorem dX0_withCalendar_3 : decode cX0_withCalendar 3 = .ok (.dup, 1) := by decide +kernel
theorem dX0_withCalendar_4 : decode cX0_withCalendar 4 = .ok (.aload_n 0, 1) := by decide +kernel
theorem dX0_withCalendar_5 : decode cX0_withCalendar 5 = .ok (.getfield 9, 3) := by decide +kernel
theorem dX0_withCalendar_8 : decode cX0_withCalendar 8 = .ok (.aload_n 1, 1) := by decide +kernel
theorem dX0_withCalendar_9 : decode cX0_withCalendar 9 = .ok (.aload_n 0, 1) := by decide +kernel
theorem dX0_withCalendar_10 : decode cX0_withCalendar 10 = .ok (.getfield 19, 3) := by decide +kernel
theorem dX0_withCalendar_13 : decode cX0_withCalendar 13 = .ok (.aload_n 0, 1) := by decide +kernel
theorem dX0_withCalendar_14 : decode cX0_withCalendar 14 = .ok (.getfield 23, 3) := by decide +kernel
theorem dX0_withCalendar_17 : decode cX0_withCalendar 17 = .ok (.aload_n 0, 1) := by decide +kernel
theorem dX0_withCalendar_18 : decode cX0_withCalendar 18 = .ok (.getfield 27, 3) := by decide +kernel
theorem dX0_withCalendar_21 : decode cX0_withCalendar 21 = .ok (.invokespecial 47, 3) := by decide +kernel
theorem dX0_withCalendar_24 : decode cX0_withCalendar 24 = .ok (.areturn, 1) := by decide +kernel
theorem dX0_withFeeRule_0 : decode cX0_withFeeRule 0 = .ok (.new 10, 3) := by decide +kernel
theorem dX0_withFeeRule_3 : decode cX0_withFeeRule 3 = .ok (.dup, 1) := by decide +kernel
theorem dX0_withFeeRule_4 : decode cX0_withFeeRule 4 = .ok (.aload_n 0, 1) := by decide +kernel
theorem dX0_withFeeRule_5 : decode cX0_withFeeRule 5 = .ok (.getfield 9, 3) := by decide +kernel
theorem dX0_withFeeRule_8 : decode cX0_withFeeRule 8 = .ok (.aload_n 0, 1) := by decide +kernel
theorem dX0_withFeeRule_9 : decode cX0_withFeeRule 9 = .ok (.getfield 15, 3) := by decide +kernel
theorem dX0_withFeeRule_12 : decode cX0_withFeeRule 12 = .ok (.aload_n 1, 1) := by decide +kernel
theorem dX0_withFeeRule_13 : decode cX0_withFeeRule 13 = .ok (.aload_n 0, 1) := by decide +kernel
theorem dX0_withFeeRule_14 : decode cX0_withFeeRule 14 = .ok (.getfield 23, 3) := by decide +kernel
theorem dX0_withFeeRule_17 : decode cX0_withFeeRule 17 = .ok (.aload_n 0, 1) := by decide +kernel
theorem dX0_withFeeRule_18 : decode cX0_withFeeRule 18 = .ok (.getfield 27, 3) := by decide +kernel
theorem dX0_withFeeRule_21 : decode cX0_withFeeRule 21 = .ok (.invokespecial 47, 3) := by decide +kernel
theorem dX0_withFeeRule_24 : decode cX0_withFeeRule 24 = .ok (.areturn, 1) := by decide +kernel
theorem dX0_withToday_0 : decode cX0_withToday 0 = .ok (.new 10, 3) := by decide +kernel
theorem dX0_withToday_3 : decode cX0_withToday 3 = .ok (.dup, 1) := by decide +kernel
theorem dX0_withToday_4 : decode cX0_withToday 4 = .ok (.iload_n 1, 1) := by decide +kernel
theorem dX0_withToday_5 : decode cX0_withToday 5 = .ok (.aload_n 0, 1) := by decide +kernel
theorem dX0_withToday_6 : decode cX0_withToday 6 = .ok (.getfield 15, 3) := by decide +kernel
theorem dX0_withToday_9 : decode cX0_withToday 9 = .ok (.aload_n 0, 1) := by decide +kernel
theorem dX0_withToday_10 : decode cX0_withToday 10 = .ok (.getfield 19, 3) := by decide +kernel
theorem dX0_withToday_13 : decode cX0_withToday 13 = .ok (.aload_n 0, 1) := by decide +kernel
theorem dX0_withToday_14 : decode cX0_withToday 14 = .ok (.getfield 23, 3) := by decide +kernel
theorem dX0_withToday_17 : decode cX0_withToday 17 = .ok (.aload_n 0, 1) := by decide +kernel
theorem dX0_withToday_18 : decode cX0_withToday 18 = .ok (.getfield 27, 3) := by decide +kernel
theorem dX0_withToday_21 : decode cX0_withToday 21 = .ok (.invokespecial 47, 3) := by decide +kernel
theorem dX0_withToday_24 : decode cX0_withToday 24 = .ok (.areturn, 1) := by decide +kernel
theorem dX0_withCredit_0 : decode cX0_withCredit 0 = .ok (.aload_n 0, 1) := by decide +kernel
theorem dX0_withCredit_1 : decode cX0_withCredit 1 = .ok (.getfield 23, 3) := by decide +kernel
theorem dX0_withCredit_4 : decode cX0_withCredit 4 = .ok (.arraylength, 1) := by decide +kernel
theorem dX0_withCredit_5 : decode cX0_withCredit 5 = .ok (.iconst 1, 1) := by decide +kernel
theorem dX0_withCredit_6 : decode cX0_withCredit 6 = .ok (.iadd, 1) := by decide +kernel
theorem dX0_withCredit_7 : decode cX0_withCredit 7 = .ok (.anewarray 43, 3) := by decide +kernel
theorem dX0_withCredit_10 : decode cX0_withCredit 10 = .ok (.astore_n 2, 1) := by decide +kernel
theorem dX0_withCredit_11 : decode cX0_withCredit 11 = .ok (.iconst 0, 1) := by decide +kernel
theorem dX0_withCredit_12 : decode cX0_withCredit 12 = .ok (.istore_n 3, 1) := by decide +kernel
theorem dX0_withCredit_13 : decode cX0_withCredit 13 = .ok (.iload_n 3, 1) := by decide +kernel
theorem dX0_withCredit_14 : decode cX0_withCredit 14 = .ok (.aload_n 0, 1) := by decide +kernel
theorem dX0_withCredit_15 : decode cX0_withCredit 15 = .ok (.getfield 23, 3) := by decide +kernel
theorem dX0_withCredit_18 : decode cX0_withCredit 18 = .ok (.arraylength, 1) := by decide +kernel
theorem dX0_withCredit_19 : decode cX0_withCredit 19 = .ok (.if_icmp .ge 18, 3) := by decide +kernel
theorem dX0_withCredit_22 : decode cX0_withCredit 22 = .ok (.aload_n 2, 1) := by decide +kernel
theorem dX0_withCredit_23 : decode cX0_withCredit 23 = .ok (.iload_n 3, 1) := by decide +kernel
theorem dX0_withCredit_24 : decode cX0_withCredit 24 = .ok (.aload_n 0, 1) := by decide +kernel
theorem dX0_withCredit_25 : decode cX0_withCredit 25 = .ok (.getfield 23, 3) := by decide +kernel
theorem dX0_withCredit_28 : decode cX0_withCredit 28 = .ok (.iload_n 3, 1) := by decide +kernel
theorem dX0_withCredit_29 : decode cX0_withCredit 29 = .ok (.aaload, 1) := by decide +kernel
theorem dX0_withCredit_30 : decode cX0_withCredit 30 = .ok (.aastore, 1) := by decide +kernel
theorem dX0_withCredit_31 : decode cX0_withCredit 31 = .ok (.iinc 3 1, 3) := by decide +kernel
theorem dX0_withCredit_34 : decode cX0_withCredit 34 = .ok (.goto (-21), 3) := by decide +kernel
theorem dX0_withCredit_37 : decode cX0_withCredit 37 = .ok (.aload_n 2, 1) := by decide +kernel
theorem dX0_withCredit_38 : decode cX0_withCredit 38 = .ok (.aload_n 0, 1) := by decide +kernel
theorem dX0_withCredit_39 : decode cX0_withCredit 39 = .ok (.getfield 23, 3) := by decide +kernel
theorem dX0_withCredit_42 : decode cX0_withCredit 42 = .ok (.arraylength, 1) := by decide +kernel
theorem dX0_withCredit_43 : decode cX0_withCredit 43 = .ok (.aload_n 1, 1) := by decide +kernel
theorem dX0_withCredit_44 : decode cX0_withCredit 44 = .ok (.aastore, 1) := by decide +kernel
theorem dX0_withCredit_45 : decode cX0_withCredit 45 = .ok (.new 10, 3) := by decide +kernel
theorem dX0_withCredit_48 : decode cX0_withCredit 48 = .ok (.dup, 1) := by decide +kernel
theorem dX0_withCredit_49 : decode cX0_withCredit 49 = .ok (.aload_n 0, 1) := by decide +kernel
theorem dX0_withCredit_50 : decode cX0_withCredit 50 = .ok (.getfield 9, 3) := by decide +kernel
theorem dX0_withCredit_53 : decode cX0_withCredit 53 = .ok (.aload_n 0, 1) := by decide +kernel
theorem dX0_withCredit_54 : decode cX0_withCredit 54 = .ok (.getfield 15, 3) := by decide +kernel
theorem dX0_withCredit_57 : decode cX0_withCredit 57 = .ok (.aload_n 0, 1) := by decide +kernel
theorem dX0_withCredit_58 : decode cX0_withCredit 58 = .ok (.getfield 19, 3) := by decide +kernel
theorem dX0_withCredit_61 : decode cX0_withCredit 61 = .ok (.aload_n 2, 1) := by decide +kernel
theorem dX0_withCredit_62 : decode cX0_withCredit 62 = .ok (.aload_n 0, 1) := by decide +kernel
theorem dX0_withCredit_63 : decode cX0_withCredit 63 = .ok (.getfield 27, 3) := by decide +kernel
theorem dX0_withCredit_66 : decode cX0_withCredit 66 = .ok (.invokespecial 47, 3) := by decide +kernel
theorem dX0_withCredit_69 : decode cX0_withCredit 69 = .ok (.areturn, 1) := by decide +kernel
theorem dX0_withPresentation_0 : decode cX0_withPresentation 0 = .ok (.aload_n 0, 1) := by decide +kernel
theorem dX0_withPresentation_1 : decode cX0_withPresentation 1 = .ok (.getfield 27, 3) := by decide +kernel
theorem dX0_withPresentation_4 : decode cX0_withPresentation 4 = .ok (.arraylength, 1) := by decide +kernel
theorem dX0_withPresentation_5 : decode cX0_withPresentation 5 = .ok (.iconst 1, 1) := by decide +kernel
theorem dX0_withPresentation_6 : decode cX0_withPresentation 6 = .ok (.iadd, 1) := by decide +kernel
theorem dX0_withPresentation_7 : decode cX0_withPresentation 7 = .ok (.anewarray 45, 3) := by decide +kernel
theorem dX0_withPresentation_10 : decode cX0_withPresentation 10 = .ok (.astore_n 2, 1) := by decide +kernel
theorem dX0_withPresentation_11 : decode cX0_withPresentation 11 = .ok (.iconst 0, 1) := by decide +kernel
theorem dX0_withPresentation_12 : decode cX0_withPresentation 12 = .ok (.istore_n 3, 1) := by decide +kernel
theorem dX0_withPresentation_13 : decode cX0_withPresentation 13 = .ok (.iload_n 3, 1) := by decide +kernel
theorem dX0_withPresentation_14 : decode cX0_withPresentation 14 = .ok (.aload_n 0, 1) := by decide +kernel
theorem dX0_withPresentation_15 : decode cX0_withPresentation 15 = .ok (.getfield 27, 3) := by decide +kernel
theorem dX0_withPresentation_18 : decode cX0_withPresentation 18 = .ok (.arraylength, 1) := by decide +kernel
theorem dX0_withPresentation_19 : decode cX0_withPresentation 19 = .ok (.if_icmp .ge 18, 3) := by decide +kernel
theorem dX0_withPresentation_22 : decode cX0_withPresentation 22 = .ok (.aload_n 2, 1) := by decide +kernel
theorem dX0_withPresentation_23 : decode cX0_withPresentation 23 = .ok (.iload_n 3, 1) := by decide +kernel
theorem dX0_withPresentation_24 : decode cX0_withPresentation 24 = .ok (.aload_n 0, 1) := by decide +kernel
theorem dX0_withPresentation_25 : decode cX0_withPresentation 25 = .ok (.getfield 27, 3) := by decide +kernel
theorem dX0_withPresentation_28 : decode cX0_withPresentation 28 = .ok (.iload_n 3, 1) := by decide +kernel
theorem dX0_withPresentation_29 : decode cX0_withPresentation 29 = .ok (.aaload, 1) := by decide +kernel
theorem dX0_withPresentation_30 : decode cX0_withPresentation 30 = .ok (.aastore, 1) := by decide +kernel
theorem dX0_withPresentation_31 : decode cX0_withPresentation 31 = .ok (.iinc 3 1, 3) := by decide +kernel
theorem dX0_withPresentation_34 : decode cX0_withPresentation 34 = .ok (.goto (-21), 3) := by decide +kernel
theorem dX0_withPresentation_37 : decode cX0_withPresentation 37 = .ok (.aload_n 2, 1) := by decide +kernel
theorem dX0_withPresentation_38 : decode cX0_withPresentation 38 = .ok (.aload_n 0, 1) := by decide +kernel
theorem dX0_withPresentation_39 : decode cX0_withPresentation 39 = .ok (.getfield 27, 3) := by decide +kernel
theorem dX0_withPresentation_42 : decode cX0_withPresentation 42 = .ok (.arraylength, 1) := by decide +kernel
theorem dX0_withPresentation_43 : decode cX0_withPresentation 43 = .ok (.aload_n 1, 1) := by decide +kernel
theorem dX0_withPresentation_44 : decode cX0_withPresentation 44 = .ok (.aastore, 1) := by decide +kernel
theorem dX0_withPresentation_45 : decode cX0_withPresentation 45 = .ok (.new 10, 3) := by decide +kernel
theorem dX0_withPresentation_48 : decode cX0_withPresentation 48 = .ok (.dup, 1) := by decide +kernel
theorem dX0_withPresentation_49 : decode cX0_withPresentation 49 = .ok (.aload_n 0, 1) := by decide +kernel
theorem dX0_withPresentation_50 : decode cX0_withPresentation 50 = .ok (.getfield 9, 3) := by decide +kernel
theorem dX0_withPresentation_53 : decode cX0_withPresentation 53 = .ok (.aload_n 0, 1) := by decide +kernel
theorem dX0_withPresentation_54 : decode cX0_withPresentation 54 = .ok (.getfield 15, 3) := by decide +kernel
theorem dX0_withPresentation_57 : decode cX0_withPresentation 57 = .ok (.aload_n 0, 1) := by decide +kernel
theorem dX0_withPresentation_58 : decode cX0_withPresentation 58 = .ok (.getfield 19, 3) := by decide +kernel
theorem dX0_withPresentation_61 : decode cX0_withPresentation 61 = .ok (.aload_n 0, 1) := by decide +kernel
theorem dX0_withPresentation_62 : decode cX0_withPresentation 62 = .ok (.getfield 23, 3) := by decide +kernel
theorem dX0_withPresentation_65 : decode cX0_withPresentation 65 = .ok (.aload_n 2, 1) := by decide +kernel
theorem dX0_withPresentation_66 : decode cX0_withPresentation 66 = .ok (.invokespecial 47, 3) := by decide +kernel
theorem dX0_withPresentation_69 : decode cX0_withPresentation 69 = .ok (.areturn, 1) := by decide +kernel
theorem dX0_withPresentationAt_0 : decode cX0_withPresentationAt 0 = .ok (.aload_n 0, 1) := by decide +kernel
theorem dX0_withPresentationAt_1 : decode cX0_withPresentationAt 1 = .ok (.getfield 27, 3) := by decide +kernel
theorem dX0_withPresentationAt_4 : decode cX0_withPresentationAt 4 = .ok (.arraylength, 1) := by decide +kernel
theorem dX0_withPresentationAt_5 : decode cX0_withPresentationAt 5 = .ok (.anewarray 45, 3) := by decide +kernel
theorem dX0_withPresentationAt_8 : decode cX0_withPresentationAt 8 = .ok (.astore_n 3, 1) := by decide +kernel
theorem dX0_withPresentationAt_9 : decode cX0_withPresentationAt 9 = .ok (.iconst 0, 1) := by decide +kernel
theorem dX0_withPresentationAt_10 : decode cX0_withPresentationAt 10 = .ok (.istore 4, 2) := by decide +kernel
theorem dX0_withPresentationAt_12 : decode cX0_withPresentationAt 12 = .ok (.iload 4, 2) := by decide +kernel
theorem dX0_withPresentationAt_14 : decode cX0_withPresentationAt 14 = .ok (.aload_n 0, 1) := by decide +kernel
theorem dX0_withPresentationAt_15 : decode cX0_withPresentationAt 15 = .ok (.getfield 27, 3) := by decide +kernel
theorem dX0_withPresentationAt_18 : decode cX0_withPresentationAt 18 = .ok (.arraylength, 1) := by decide +kernel
theorem dX0_withPresentationAt_19 : decode cX0_withPresentationAt 19 = .ok (.if_icmp .ge 30, 3) := by decide +kernel
theorem dX0_withPresentationAt_22 : decode cX0_withPresentationAt 22 = .ok (.aload_n 3, 1) := by decide +kernel
theorem dX0_withPresentationAt_23 : decode cX0_withPresentationAt 23 = .ok (.iload 4, 2) := by decide +kernel
theorem dX0_withPresentationAt_25 : decode cX0_withPresentationAt 25 = .ok (.iload 4, 2) := by decide +kernel
theorem dX0_withPresentationAt_27 : decode cX0_withPresentationAt 27 = .ok (.iload_n 1, 1) := by decide +kernel
theorem dX0_withPresentationAt_28 : decode cX0_withPresentationAt 28 = .ok (.if_icmp .ne 7, 3) := by decide +kernel
theorem dX0_withPresentationAt_31 : decode cX0_withPresentationAt 31 = .ok (.aload_n 2, 1) := by decide +kernel
theorem dX0_withPresentationAt_32 : decode cX0_withPresentationAt 32 = .ok (.goto 10, 3) := by decide +kernel
theorem dX0_withPresentationAt_35 : decode cX0_withPresentationAt 35 = .ok (.aload_n 0, 1) := by decide +kernel
theorem dX0_withPresentationAt_36 : decode cX0_withPresentationAt 36 = .ok (.getfield 27, 3) := by decide +kernel
theorem dX0_withPresentationAt_39 : decode cX0_withPresentationAt 39 = .ok (.iload 4, 2) := by decide +kernel
theorem dX0_withPresentationAt_41 : decode cX0_withPresentationAt 41 = .ok (.aaload, 1) := by decide +kernel
theorem dX0_withPresentationAt_42 : decode cX0_withPresentationAt 42 = .ok (.aastore, 1) := by decide +kernel
theorem dX0_withPresentationAt_43 : decode cX0_withPresentationAt 43 = .ok (.iinc 4 1, 3) := by decide +kernel
theorem dX0_withPresentationAt_46 : decode cX0_withPresentationAt 46 = .ok (.goto (-34), 3) := by decide +kernel
theorem dX0_withPresentationAt_49 : decode cX0_withPresentationAt 49 = .ok (.new 10, 3) := by decide +kernel
theorem dX0_withPresentationAt_52 : decode cX0_withPresentationAt 52 = .ok (.dup, 1) := by decide +kernel
theorem dX0_withPresentationAt_53 : decode cX0_withPresentationAt 53 = .ok (.aload_n 0, 1) := by decide +kernel
theorem dX0_withPresentationAt_54 : decode cX0_withPresentationAt 54 = .ok (.getfield 9, 3) := by decide +kernel
theorem dX0_withPresentationAt_57 : decode cX0_withPresentationAt 57 = .ok (.aload_n 0, 1) := by decide +kernel
theorem dX0_withPresentationAt_58 : decode cX0_withPresentationAt 58 = .ok (.getfield 15, 3) := by decide +kernel
theorem dX0_withPresentationAt_61 : decode cX0_withPresentationAt 61 = .ok (.aload_n 0, 1) := by decide +kernel
theorem dX0_withPresentationAt_62 : decode cX0_withPresentationAt 62 = .ok (.getfield 19, 3) := by decide +kernel
theorem dX0_withPresentationAt_65 : decode cX0_withPresentationAt 65 = .ok (.aload_n 0, 1) := by decide +kernel
theorem dX0_withPresentationAt_66 : decode cX0_withPresentationAt 66 = .ok (.getfield 23, 3) := by decide +kernel
theorem dX0_withPresentationAt_69 : decode cX0_withPresentationAt 69 = .ok (.aload_n 3, 1) := by decide +kernel
theorem dX0_withPresentationAt_70 : decode cX0_withPresentationAt 70 = .ok (.invokespecial 47, 3) := by decide +kernel
theorem dX0_withPresentationAt_73 : decode cX0_withPresentationAt 73 = .ok (.areturn, 1) := by decide +kernel
theorem dX0_drawnSum_0 : decode cX0_drawnSum 0 = .ok (.iconst 0, 1) := by decide +kernel
theorem dX0_drawnSum_1 : decode cX0_drawnSum 1 = .ok (.istore_n 2, 1) := by decide +kernel
theorem dX0_drawnSum_2 : decode cX0_drawnSum 2 = .ok (.aload_n 0, 1) := by decide +kernel
theorem dX0_drawnSum_3 : decode cX0_drawnSum 3 = .ok (.getfield 27, 3) := by decide +kernel
theorem dX0_drawnSum_6 : decode cX0_drawnSum 6 = .ok (.astore_n 3, 1) := by decide +kernel
theorem dX0_drawnSum_7 : decode cX0_drawnSum 7 = .ok (.aload_n 3, 1) := by decide +kernel
theorem dX0_drawnSum_8 : decode cX0_drawnSum 8 = .ok (.arraylength, 1) := by decide +kernel
theorem dX0_drawnSum_9 : decode cX0_drawnSum 9 = .ok (.istore 4, 2) := by decide +kernel
theorem dX0_drawnSum_11 : decode cX0_drawnSum 11 = .ok (.iconst 0, 1) := by decide +kernel
theorem dX0_drawnSum_12 : decode cX0_drawnSum 12 = .ok (.istore 5, 2) := by decide +kernel
theorem dX0_drawnSum_14 : decode cX0_drawnSum 14 = .ok (.iload 5, 2) := by decide +kernel
theorem dX0_drawnSum_16 : decode cX0_drawnSum 16 = .ok (.iload 4, 2) := by decide +kernel
theorem dX0_drawnSum_18 : decode cX0_drawnSum 18 = .ok (.if_icmp .ge 58, 3) := by decide +kernel
theorem dX0_drawnSum_21 : decode cX0_drawnSum 21 = .ok (.aload_n 3, 1) := by decide +kernel
theorem dX0_drawnSum_22 : decode cX0_drawnSum 22 = .ok (.iload 5, 2) := by decide +kernel
theorem dX0_drawnSum_24 : decode cX0_drawnSum 24 = .ok (.aaload, 1) := by decide +kernel
theorem dX0_drawnSum_25 : decode cX0_drawnSum 25 = .ok (.astore 6, 2) := by decide +kernel
theorem dX0_drawnSum_27 : decode cX0_drawnSum 27 = .ok (.aload 6, 2) := by decide +kernel
theorem dX0_drawnSum_29 : decode cX0_drawnSum 29 = .ok (.ifnull 41, 3) := by decide +kernel
theorem dX0_drawnSum_32 : decode cX0_drawnSum 32 = .ok (.aload 6, 2) := by decide +kernel
theorem dX0_drawnSum_34 : decode cX0_drawnSum 34 = .ok (.getfield 50, 3) := by decide +kernel
theorem dX0_drawnSum_37 : decode cX0_drawnSum 37 = .ok (.aload_n 1, 1) := by decide +kernel
theorem dX0_drawnSum_38 : decode cX0_drawnSum 38 = .ok (.getfield 53, 3) := by decide +kernel
theorem dX0_drawnSum_41 : decode cX0_drawnSum 41 = .ok (.if_icmp .ne 29, 3) := by decide +kernel
theorem dX0_drawnSum_44 : decode cX0_drawnSum 44 = .ok (.aload 6, 2) := by decide +kernel
theorem dX0_drawnSum_46 : decode cX0_drawnSum 46 = .ok (.getfield 56, 3) := by decide +kernel
theorem dX0_drawnSum_49 : decode cX0_drawnSum 49 = .ok (.iconst 3, 1) := by decide +kernel
theorem dX0_drawnSum_50 : decode cX0_drawnSum 50 = .ok (.if_icmp .eq 20, 3) := by decide +kernel
theorem dX0_drawnSum_53 : decode cX0_drawnSum 53 = .ok (.aload 6, 2) := by decide +kernel
theorem dX0_drawnSum_55 : decode cX0_drawnSum 55 = .ok (.iconst 4, 1) := by decide +kernel
theorem dX0_drawnSum_56 : decode cX0_drawnSum 56 = .ok (.invokevirtual 59, 3) := by decide +kernel
theorem dX0_drawnSum_59 : decode cX0_drawnSum 59 = .ok (.ifCond .ne 11, 3) := by decide +kernel
theorem dX0_drawnSum_62 : decode cX0_drawnSum 62 = .ok (.iload_n 2, 1) := by decide +kernel
theorem dX0_drawnSum_63 : decode cX0_drawnSum 63 = .ok (.aload 6, 2) := by decide +kernel
theorem dX0_drawnSum_65 : decode cX0_drawnSum 65 = .ok (.getfield 63, 3) := by decide +kernel
theorem dX0_drawnSum_68 : decode cX0_drawnSum 68 = .ok (.iadd, 1) := by decide +kernel
theorem dX0_drawnSum_69 : decode cX0_drawnSum 69 = .ok (.istore_n 2, 1) := by decide +kernel
theorem dX0_drawnSum_70 : decode cX0_drawnSum 70 = .ok (.iinc 5 1, 3) := by decide +kernel
theorem dX0_drawnSum_73 : decode cX0_drawnSum 73 = .ok (.goto (-59), 3) := by decide +kernel
theorem dX0_drawnSum_76 : decode cX0_drawnSum 76 = .ok (.iload_n 2, 1) := by decide +kernel
theorem dX0_drawnSum_77 : decode cX0_drawnSum 77 = .ok (.ireturn, 1) := by decide +kernel
theorem dX0_transferredSum_0 : decode cX0_transferredSum 0 = .ok (.iconst 0, 1) := by decide +kernel
theorem dX0_transferredSum_1 : decode cX0_transferredSum 1 = .ok (.istore_n 2, 1) := by decide +kernel
theorem dX0_transferredSum_2 : decode cX0_transferredSum 2 = .ok (.aload_n 0, 1) := by decide +kernel
theorem dX0_transferredSum_3 : decode cX0_transferredSum 3 = .ok (.getfield 23, 3) := by decide +kernel
theorem dX0_transferredSum_6 : decode cX0_transferredSum 6 = .ok (.astore_n 3, 1) := by decide +kernel
theorem dX0_transferredSum_7 : decode cX0_transferredSum 7 = .ok (.aload_n 3, 1) := by decide +kernel
theorem dX0_transferredSum_8 : decode cX0_transferredSum 8 = .ok (.arraylength, 1) := by decide +kernel
theorem dX0_transferredSum_9 : decode cX0_transferredSum 9 = .ok (.istore 4, 2) := by decide +kernel
theorem dX0_transferredSum_11 : decode cX0_transferredSum 11 = .ok (.iconst 0, 1) := by decide +kernel
theorem dX0_transferredSum_12 : decode cX0_transferredSum 12 = .ok (.istore 5, 2) := by decide +kernel
theorem dX0_transferredSum_14 : decode cX0_transferredSum 14 = .ok (.iload 5, 2) := by decide +kernel
theorem dX0_transferredSum_16 : decode cX0_transferredSum 16 = .ok (.iload 4, 2) := by decide +kernel
theorem dX0_transferredSum_18 : decode cX0_transferredSum 18 = .ok (.if_icmp .ge 40, 3) := by decide +kernel
theorem dX0_transferredSum_21 : decode cX0_transferredSum 21 = .ok (.aload_n 3, 1) := by decide +kernel
theorem dX0_transferredSum_22 : decode cX0_transferredSum 22 = .ok (.iload 5, 2) := by decide +kernel
theorem dX0_transferredSum_24 : decode cX0_transferredSum 24 = .ok (.aaload, 1) := by decide +kernel
theorem dX0_transferredSum_25 : decode cX0_transferredSum 25 = .ok (.astore 6, 2) := by decide +kernel
theorem dX0_transferredSum_27 : decode cX0_transferredSum 27 = .ok (.aload 6, 2) := by decide +kernel
theorem dX0_transferredSum_29 : decode cX0_transferredSum 29 = .ok (.ifnull 23, 3) := by decide +kernel
theorem dX0_transferredSum_32 : decode cX0_transferredSum 32 = .ok (.aload 6, 2) := by decide +kernel
theorem dX0_transferredSum_34 : decode cX0_transferredSum 34 = .ok (.getfield 66, 3) := by decide +kernel
theorem dX0_transferredSum_37 : decode cX0_transferredSum 37 = .ok (.aload_n 1, 1) := by decide +kernel
theorem dX0_transferredSum_38 : decode cX0_transferredSum 38 = .ok (.getfield 53, 3) := by decide +kernel
theorem dX0_transferredSum_41 : decode cX0_transferredSum 41 = .ok (.if_icmp .ne 11, 3) := by decide +kernel
theorem dX0_transferredSum_44 : decode cX0_transferredSum 44 = .ok (.iload_n 2, 1) := by decide +kernel
theorem dX0_transferredSum_45 : decode cX0_transferredSum 45 = .ok (.aload 6, 2) := by decide +kernel
theorem dX0_transferredSum_47 : decode cX0_transferredSum 47 = .ok (.getfield 69, 3) := by decide +kernel
theorem dX0_transferredSum_50 : decode cX0_transferredSum 50 = .ok (.iadd, 1) := by decide +kernel
theorem dX0_transferredSum_51 : decode cX0_transferredSum 51 = .ok (.istore_n 2, 1) := by decide +kernel
theorem dX0_transferredSum_52 : decode cX0_transferredSum 52 = .ok (.iinc 5 1, 3) := by decide +kernel
theorem dX0_transferredSum_55 : decode cX0_transferredSum 55 = .ok (.goto (-41), 3) := by decide +kernel
theorem dX0_transferredSum_58 : decode cX0_transferredSum 58 = .ok (.iload_n 2, 1) := by decide +kernel
theorem dX0_transferredSum_59 : decode cX0_transferredSum 59 = .ok (.ireturn, 1) := by decide +kernel
theorem dX0_availableSum_0 : decode cX0_availableSum 0 = .ok (.aload_n 1, 1) := by decide +kernel
theorem dX0_availableSum_1 : decode cX0_availableSum 1 = .ok (.invokevirtual 70, 3) := by decide +kernel
theorem dX0_availableSum_4 : decode cX0_availableSum 4 = .ok (.aload_n 0, 1) := by decide +kernel
theorem dX0_availableSum_5 : decode cX0_availableSum 5 = .ok (.aload_n 1, 1) := by decide +kernel
theorem dX0_availableSum_6 : decode cX0_availableSum 6 = .ok (.invokevirtual 74, 3) := by decide +kernel
theorem dX0_availableSum_9 : decode cX0_availableSum 9 = .ok (.isub, 1) := by decide +kernel
theorem dX0_availableSum_10 : decode cX0_availableSum 10 = .ok (.aload_n 0, 1) := by decide +kernel
theorem dX0_availableSum_11 : decode cX0_availableSum 11 = .ok (.aload_n 1, 1) := by decide +kernel
theorem dX0_availableSum_12 : decode cX0_availableSum 12 = .ok (.invokevirtual 78, 3) := by decide +kernel
theorem dX0_availableSum_15 : decode cX0_availableSum 15 = .ok (.isub, 1) := by decide +kernel
theorem dX0_availableSum_16 : decode cX0_availableSum 16 = .ok (.ireturn, 1) := by decide +kernel
theorem dX0_isPresentedUnder_0 : decode cX0_isPresentedUnder 0 = .ok (.aload_n 0, 1) := by decide +kernel
theorem dX0_isPresentedUnder_1 : decode cX0_isPresentedUnder 1 = .ok (.getfield 27, 3) := by decide +kernel
theorem dX0_isPresentedUnder_4 : decode cX0_isPresentedUnder 4 = .ok (.astore_n 2, 1) := by decide +kernel
theorem dX0_isPresentedUnder_5 : decode cX0_isPresentedUnder 5 = .ok (.aload_n 2, 1) := by decide +kernel
theorem dX0_isPresentedUnder_6 : decode cX0_isPresentedUnder 6 = .ok (.arraylength, 1) := by decide +kernel
theorem dX0_isPresentedUnder_7 : decode cX0_isPresentedUnder 7 = .ok (.istore_n 3, 1) := by decide +kernel
theorem dX0_isPresentedUnder_8 : decode cX0_isPresentedUnder 8 = .ok (.iconst 0, 1) := by decide +kernel
theorem dX0_isPresentedUnder_9 : decode cX0_isPresentedUnder 9 = .ok (.istore 4, 2) := by decide +kernel
theorem dX0_isPresentedUnder_11 : decode cX0_isPresentedUnder 11 = .ok (.iload 4, 2) := by decide +kernel
theorem dX0_isPresentedUnder_13 : decode cX0_isPresentedUnder 13 = .ok (.iload_n 3, 1) := by decide +kernel
theorem dX0_isPresentedUnder_14 : decode cX0_isPresentedUnder 14 = .ok (.if_icmp .ge 43, 3) := by decide +kernel
theorem dX0_isPresentedUnder_17 : decode cX0_isPresentedUnder 17 = .ok (.aload_n 2, 1) := by decide +kernel
theorem dX0_isPresentedUnder_18 : decode cX0_isPresentedUnder 18 = .ok (.iload 4, 2) := by decide +kernel
theorem dX0_isPresentedUnder_20 : decode cX0_isPresentedUnder 20 = .ok (.aaload, 1) := by decide +kernel
theorem dX0_isPresentedUnder_21 : decode cX0_isPresentedUnder 21 = .ok (.astore 5, 2) := by decide +kernel
theorem dX0_isPresentedUnder_23 : decode cX0_isPresentedUnder 23 = .ok (.aload 5, 2) := by decide +kernel
theorem dX0_isPresentedUnder_25 : decode cX0_isPresentedUnder 25 = .ok (.ifnull 26, 3) := by decide +kernel
theorem dX0_isPresentedUnder_28 : decode cX0_isPresentedUnder 28 = .ok (.aload 5, 2) := by decide +kernel
theorem dX0_isPresentedUnder_30 : decode cX0_isPresentedUnder 30 = .ok (.getfield 50, 3) := by decide +kernel
theorem dX0_isPresentedUnder_33 : decode cX0_isPresentedUnder 33 = .ok (.aload_n 1, 1) := by decide +kernel
theorem dX0_isPresentedUnder_34 : decode cX0_isPresentedUnder 34 = .ok (.getfield 53, 3) := by decide +kernel
theorem dX0_isPresentedUnder_37 : decode cX0_isPresentedUnder 37 = .ok (.if_icmp .ne 14, 3) := by decide +kernel
theorem dX0_isPresentedUnder_40 : decode cX0_isPresentedUnder 40 = .ok (.aload 5, 2) := by decide +kernel
theorem dX0_isPresentedUnder_42 : decode cX0_isPresentedUnder 42 = .ok (.getfield 56, 3) := by decide +kernel
theorem dX0_isPresentedUnder_45 : decode cX0_isPresentedUnder 45 = .ok (.iconst 3, 1) := by decide +kernel
theorem dX0_isPresentedUnder_46 : decode cX0_isPresentedUnder 46 = .ok (.if_icmp .eq 5, 3) := by decide +kernel
theorem dX0_isPresentedUnder_49 : decode cX0_isPresentedUnder 49 = .ok (.iconst 1, 1) := by decide +kernel
theorem dX0_isPresentedUnder_50 : decode cX0_isPresentedUnder 50 = .ok (.ireturn, 1) := by decide +kernel
theorem dX0_isPresentedUnder_51 : decode cX0_isPresentedUnder 51 = .ok (.iinc 4 1, 3) := by decide +kernel
theorem dX0_isPresentedUnder_54 : decode cX0_isPresentedUnder 54 = .ok (.goto (-43), 3) := by decide +kernel
theorem dX0_isPresentedUnder_57 : decode cX0_isPresentedUnder 57 = .ok (.iconst 0, 1) := by decide +kernel
theorem dX0_isPresentedUnder_58 : decode cX0_isPresentedUnder 58 = .ok (.ireturn, 1) := by decide +kernel
theorem dX1_init_0 : decode cX1_init 0 = .ok (.aload_n 0, 1) := by decide +kernel
theorem dX1_init_1 : decode cX1_init 1 = .ok (.invokespecial 1, 3) := by decide +kernel
theorem dX1_init_4 : decode cX1_init 4 = .ok (.aload_n 0, 1) := by decide +kernel
theorem dX1_init_5 : decode cX1_init 5 = .ok (.aload_n 1, 1) := by decide +kernel
theorem dX1_init_6 : decode cX1_init 6 = .ok (.putfield 7, 3) := by decide +kernel
theorem dX1_init_9 : decode cX1_init 9 = .ok (.return_, 1) := by decide +kernel
theorem dX1_withHoliday_0 : decode cX1_withHoliday 0 = .ok (.aload_n 0, 1) := by decide +kernel
theorem dX1_withHoliday_1 : decode cX1_withHoliday 1 = .ok (.getfield 7, 3) := by decide +kernel
theorem dX1_withHoliday_4 : decode cX1_withHoliday 4 = .ok (.aload_n 0, 1) := by decide +kernel
theorem dX1_withHoliday_5 : decode cX1_withHoliday 5 = .ok (.getfield 7, 3) := by decide +kernel
theorem dX1_withHoliday_8 : decode cX1_withHoliday 8 = .ok (.arraylength, 1) := by decide +kernel
theorem dX1_withHoliday_9 : decode cX1_withHoliday 9 = .ok (.iconst 1, 1) := by decide +kernel
theorem dX1_withHoliday_10 : decode cX1_withHoliday 10 = .ok (.iadd, 1) := by decide +kernel
theorem dX1_withHoliday_11 : decode cX1_withHoliday 11 = .ok (.invokestatic 13, 3) := by decide +kernel
theorem dX1_withHoliday_14 : decode cX1_withHoliday 14 = .ok (.astore_n 2, 1) := by decide +kernel
theorem dX1_withHoliday_15 : decode cX1_withHoliday 15 = .ok (.aload_n 2, 1) := by decide +kernel
theorem dX1_withHoliday_16 : decode cX1_withHoliday 16 = .ok (.aload_n 0, 1) := by decide +kernel
theorem dX1_withHoliday_17 : decode cX1_withHoliday 17 = .ok (.getfield 7, 3) := by decide +kernel
theorem dX1_withHoliday_20 : decode cX1_withHoliday 20 = .ok (.arraylength, 1) := by decide +kernel
theorem dX1_withHoliday_21 : decode cX1_withHoliday 21 = .ok (.iload_n 1, 1) := by decide +kernel
theorem dX1_withHoliday_22 : decode cX1_withHoliday 22 = .ok (.iastore, 1) := by decide +kernel
theorem dX1_withHoliday_23 : decode cX1_withHoliday 23 = .ok (.new 8, 3) := by decide +kernel
theorem dX1_withHoliday_26 : decode cX1_withHoliday 26 = .ok (.dup, 1) := by decide +kernel
theorem dX1_withHoliday_27 : decode cX1_withHoliday 27 = .ok (.aload_n 2, 1) := by decide +kernel
theorem dX1_withHoliday_28 : decode cX1_withHoliday 28 = .ok (.invokespecial 19, 3) := by decide +kernel
theorem dX1_withHoliday_31 : decode cX1_withHoliday 31 = .ok (.areturn, 1) := by decide +kernel
theorem dX1_isFull_0 : decode cX1_isFull 0 = .ok (.aload_n 0, 1) := by decide +kernel
theorem dX1_isFull_1 : decode cX1_isFull 1 = .ok (.getfield 7, 3) := by decide +kernel
theorem dX1_isFull_4 : decode cX1_isFull 4 = .ok (.arraylength, 1) := by decide +kernel
theorem dX1_isFull_5 : decode cX1_isFull 5 = .ok (.bipush 16, 2) := by decide +kernel
theorem dX1_isFull_7 : decode cX1_isFull 7 = .ok (.if_icmp .lt 7, 3) := by decide +kernel
theorem dX1_isFull_10 : decode cX1_isFull 10 = .ok (.iconst 1, 1) := by decide +kernel
theorem dX1_isFull_11 : decode cX1_isFull 11 = .ok (.goto 4, 3) := by decide +kernel
theorem dX1_isFull_14 : decode cX1_isFull 14 = .ok (.iconst 0, 1) := by decide +kernel
theorem dX1_isFull_15 : decode cX1_isFull 15 = .ok (.ireturn, 1) := by decide +kernel
theorem dX1_isHoliday_0 : decode cX1_isHoliday 0 = .ok (.aload_n 0, 1) := by decide +kernel
theorem dX1_isHoliday_1 : decode cX1_isHoliday 1 = .ok (.getfield 7, 3) := by decide +kernel
theorem dX1_isHoliday_4 : decode cX1_isHoliday 4 = .ok (.astore_n 2, 1) := by decide +kernel
theorem dX1_isHoliday_5 : decode cX1_isHoliday 5 = .ok (.aload_n 2, 1) := by decide +kernel
theorem dX1_isHoliday_6 : decode cX1_isHoliday 6 = .ok (.arraylength, 1) := by decide +kernel
theorem dX1_isHoliday_7 : decode cX1_isHoliday 7 = .ok (.istore_n 3, 1) := by decide +kernel
theorem dX1_isHoliday_8 : decode cX1_isHoliday 8 = .ok (.iconst 0, 1) := by decide +kernel
theorem dX1_isHoliday_9 : decode cX1_isHoliday 9 = .ok (.istore 4, 2) := by decide +kernel
theorem dX1_isHoliday_11 : decode cX1_isHoliday 11 = .ok (.iload 4, 2) := by decide +kernel
theorem dX1_isHoliday_13 : decode cX1_isHoliday 13 = .ok (.iload_n 3, 1) := by decide +kernel
theorem dX1_isHoliday_14 : decode cX1_isHoliday 14 = .ok (.if_icmp .ge 23, 3) := by decide +kernel
theorem dX1_isHoliday_17 : decode cX1_isHoliday 17 = .ok (.aload_n 2, 1) := by decide +kernel
theorem dX1_isHoliday_18 : decode cX1_isHoliday 18 = .ok (.iload 4, 2) := by decide +kernel
theorem dX1_isHoliday_20 : decode cX1_isHoliday 20 = .ok (.iaload, 1) := by decide +kernel
theorem dX1_isHoliday_21 : decode cX1_isHoliday 21 = .ok (.istore 5, 2) := by decide +kernel
theorem dX1_isHoliday_23 : decode cX1_isHoliday 23 = .ok (.iload 5, 2) := by decide +kernel
theorem dX1_isHoliday_25 : decode cX1_isHoliday 25 = .ok (.iload_n 1, 1) := by decide +kernel
theorem dX1_isHoliday_26 : decode cX1_isHoliday 26 = .ok (.if_icmp .ne 5, 3) := by decide +kernel
theorem dX1_isHoliday_29 : decode cX1_isHoliday 29 = .ok (.iconst 1, 1) := by decide +kernel
theorem dX1_isHoliday_30 : decode cX1_isHoliday 30 = .ok (.ireturn, 1) := by decide +kernel
theorem dX1_isHoliday_31 : decode cX1_isHoliday 31 = .ok (.iinc 4 1, 3) := by decide +kernel
theorem dX1_isHoliday_34 : decode cX1_isHoliday 34 = .ok (.goto (-23), 3) := by decide +kernel
theorem dX1_isHoliday_37 : decode cX1_isHoliday 37 = .ok (.iconst 0, 1) := by decide +kernel
theorem dX1_isHoliday_38 : decode cX1_isHoliday 38 = .ok (.ireturn, 1) := by decide +kernel
theorem dX1_isOpen_0 : decode cX1_isOpen 0 = .ok (.iload_n 1, 1) := by decide +kernel
theorem dX1_isOpen_1 : decode cX1_isOpen 1 = .ok (.invokestatic 22, 3) := by decide +kernel
theorem dX1_isOpen_4 : decode cX1_isOpen 4 = .ok (.ifCond .ne 15, 3) := by decide +kernel
theorem dX1_isOpen_7 : decode cX1_isOpen 7 = .ok (.aload_n 0, 1) := by decide +kernel
theorem dX1_isOpen_8 : decode cX1_isOpen 8 = .ok (.iload_n 1, 1) := by decide +kernel
theorem dX1_isOpen_9 : decode cX1_isOpen 9 = .ok (.invokevirtual 26, 3) := by decide +kernel
theorem dX1_isOpen_12 : decode cX1_isOpen 12 = .ok (.ifCond .ne 7, 3) := by decide +kernel
theorem dX1_isOpen_15 : decode cX1_isOpen 15 = .ok (.iconst 1, 1) := by decide +kernel
theorem dX1_isOpen_16 : decode cX1_isOpen 16 = .ok (.goto 4, 3) := by decide +kernel
theorem dX1_isOpen_19 : decode cX1_isOpen 19 = .ok (.iconst 0, 1) := by decide +kernel
theorem dX1_isOpen_20 : decode cX1_isOpen 20 = .ok (.ireturn, 1) := by decide +kernel
theorem dX1_firstOpen_0 : decode cX1_firstOpen 0 = .ok (.iload_n 1, 1) := by decide +kernel
theorem dX1_firstOpen_1 : decode cX1_firstOpen 1 = .ok (.istore_n 2, 1) := by decide +kernel
theorem dX1_firstOpen_2 : decode cX1_firstOpen 2 = .ok (.iconst 0, 1) := by decide +kernel
theorem dX1_firstOpen_3 : decode cX1_firstOpen 3 = .ok (.istore_n 3, 1) := by decide +kernel
theorem dX1_firstOpen_4 : decode cX1_firstOpen 4 = .ok (.iload_n 3, 1) := by decide +kernel
theorem dX1_firstOpen_5 : decode cX1_firstOpen 5 = .ok (.sipush 1000, 3) := by decide +kernel
theorem dX1_firstOpen_8 : decode cX1_firstOpen 8 = .ok (.if_icmp .ge 20, 3) := by decide +kernel
theorem dX1_firstOpen_11 : decode cX1_firstOpen 11 = .ok (.aload_n 0, 1) := by decide +kernel
theorem dX1_firstOpen_12 : decode cX1_firstOpen 12 = .ok (.iload_n 2, 1) := by decide +kernel
theorem dX1_firstOpen_13 : decode cX1_firstOpen 13 = .ok (.invokevirtual 29, 3) := by decide +kernel
theorem dX1_firstOpen_16 : decode cX1_firstOpen 16 = .ok (.ifCond .ne 12, 3) := by decide +kernel
theorem dX1_firstOpen_19 : decode cX1_firstOpen 19 = .ok (.iinc 2 1, 3) := by decide +kernel
theorem dX1_firstOpen_22 : decode cX1_firstOpen 22 = .ok (.iinc 3 1, 3) := by decide +kernel
theorem dX1_firstOpen_25 : decode cX1_firstOpen 25 = .ok (.goto (-21), 3) := by decide +kernel
theorem dX1_firstOpen_28 : decode cX1_firstOpen 28 = .ok (.iload_n 2, 1) := by decide +kernel
theorem dX1_firstOpen_29 : decode cX1_firstOpen 29 = .ok (.ireturn, 1) := by decide +kernel
theorem dX1_openDayAfter_0 : decode cX1_openDayAfter 0 = .ok (.iload_n 1, 1) := by decide +kernel
theorem dX1_openDayAfter_1 : decode cX1_openDayAfter 1 = .ok (.istore_n 3, 1) := by decide +kernel
theorem dX1_openDayAfter_2 : decode cX1_openDayAfter 2 = .ok (.iconst 0, 1) := by decide +kernel
theorem dX1_openDayAfter_3 : decode cX1_openDayAfter 3 = .ok (.istore 4, 2) := by decide +kernel
theorem dX1_openDayAfter_5 : decode cX1_openDayAfter 5 = .ok (.iload 4, 2) := by decide +kernel
theorem dX1_openDayAfter_7 : decode cX1_openDayAfter 7 = .ok (.iload_n 2, 1) := by decide +kernel
theorem dX1_openDayAfter_8 : decode cX1_openDayAfter 8 = .ok (.if_icmp .ge 17, 3) := by decide +kernel
theorem dX1_openDayAfter_11 : decode cX1_openDayAfter 11 = .ok (.aload_n 0, 1) := by decide +kernel
theorem dX1_openDayAfter_12 : decode cX1_openDayAfter 12 = .ok (.iload_n 3, 1) := by decide +kernel
theorem dX1_openDayAfter_13 : decode cX1_openDayAfter 13 = .ok (.iconst 1, 1) := by decide +kernel
theorem dX1_openDayAfter_14 : decode cX1_openDayAfter 14 = .ok (.iadd, 1) := by decide +kernel
theorem dX1_openDayAfter_15 : decode cX1_openDayAfter 15 = .ok (.invokevirtual 32, 3) := by decide +kernel
theorem dX1_openDayAfter_18 : decode cX1_openDayAfter 18 = .ok (.istore_n 3, 1) := by decide +kernel
theorem dX1_openDayAfter_19 : decode cX1_openDayAfter 19 = .ok (.iinc 4 1, 3) := by decide +kernel
theorem dX1_openDayAfter_22 : decode cX1_openDayAfter 22 = .ok (.goto (-17), 3) := by decide +kernel
theorem dX1_openDayAfter_25 : decode cX1_openDayAfter 25 = .ok (.iload_n 3, 1) := by decide +kernel
theorem dX1_openDayAfter_26 : decode cX1_openDayAfter 26 = .ok (.ireturn, 1) := by decide +kernel
theorem dX1_openDays_0 : decode cX1_openDays 0 = .ok (.iload_n 2, 1) := by decide +kernel
theorem dX1_openDays_1 : decode cX1_openDays 1 = .ok (.iload_n 1, 1) := by decide +kernel
theorem dX1_openDays_2 : decode cX1_openDays 2 = .ok (.if_icmp .ge 5, 3) := by decide +kernel
theorem dX1_openDays_5 : decode cX1_openDays 5 = .ok (.iconst 0, 1) := by decide +kernel
theorem dX1_openDays_6 : decode cX1_openDays 6 = .ok (.ireturn, 1) := by decide +kernel
theorem dX1_openDays_7 : decode cX1_openDays 7 = .ok (.iload_n 2, 1) := by decide +kernel
theorem dX1_openDays_8 : decode cX1_openDays 8 = .ok (.invokestatic 36, 3) := by decide +kernel
theorem dX1_openDays_11 : decode cX1_openDays 11 = .ok (.iload_n 1, 1) := by decide +kernel
theorem dX1_openDays_12 : decode cX1_openDays 12 = .ok (.invokestatic 36, 3) := by decide +kernel
theorem dX1_openDays_15 : decode cX1_openDays 15 = .ok (.isub, 1) := by decide +kernel
theorem dX1_openDays_16 : decode cX1_openDays 16 = .ok (.istore_n 3, 1) := by decide +kernel
theorem dX1_openDays_17 : decode cX1_openDays 17 = .ok (.aload_n 0, 1) := by decide +kernel
theorem dX1_openDays_18 : decode cX1_openDays 18 = .ok (.getfield 7, 3) := by decide +kernel
theorem dX1_openDays_21 : decode cX1_openDays 21 = .ok (.astore 4, 2) := by decide +kernel
theorem dX1_openDays_23 : decode cX1_openDays 23 = .ok (.aload 4, 2) := by decide +kernel
theorem dX1_openDays_25 : decode cX1_openDays 25 = .ok (.arraylength, 1) := by decide +kernel
theorem dX1_openDays_26 : decode cX1_openDays 26 = .ok (.istore 5, 2) := by decide +kernel
theorem dX1_openDays_28 : decode cX1_openDays 28 = .ok (.iconst 0, 1) := by decide +kernel
theorem dX1_openDays_29 : decode cX1_openDays 29 = .ok (.istore 6, 2) := by decide +kernel
theorem dX1_openDays_31 : decode cX1_openDays 31 = .ok (.iload 6, 2) := by decide +kernel
theorem dX1_openDays_33 : decode cX1_openDays 33 = .ok (.iload 5, 2) := by decide +kernel
theorem dX1_openDays_35 : decode cX1_openDays 35 = .ok (.if_icmp .ge 39, 3) := by decide +kernel
theorem dX1_openDays_38 : decode cX1_openDays 38 = .ok (.aload 4, 2) := by decide +kernel
theorem dX1_openDays_40 : decode cX1_openDays 40 = .ok (.iload 6, 2) := by decide +kernel
theorem dX1_openDays_42 : decode cX1_openDays 42 = .ok (.iaload, 1) := by decide +kernel
theorem dX1_openDays_43 : decode cX1_openDays 43 = .ok (.istore 7, 2) := by decide +kernel
theorem dX1_openDays_45 : decode cX1_openDays 45 = .ok (.iload 7, 2) := by decide +kernel
theorem dX1_openDays_47 : decode cX1_openDays 47 = .ok (.iload_n 1, 1) := by decide +kernel
theorem dX1_openDays_48 : decode cX1_openDays 48 = .ok (.if_icmp .lt 20, 3) := by decide +kernel
theorem dX1_openDays_51 : decode cX1_openDays 51 = .ok (.iload 7, 2) := by decide +kernel
theorem dX1_openDays_53 : decode cX1_openDays 53 = .ok (.iload_n 2, 1) := by decide +kernel
theorem dX1_openDays_54 : decode cX1_openDays 54 = .ok (.if_icmp .ge 14, 3) := by decide +kernel
theorem dX1_openDays_57 : decode cX1_openDays 57 = .ok (.iload 7, 2) := by decide +kernel
theorem dX1_openDays_59 : decode cX1_openDays 59 = .ok (.invokestatic 22, 3) := by decide +kernel
theorem dX1_openDays_62 : decode cX1_openDays 62 = .ok (.ifCond .ne 6, 3) := by decide +kernel
theorem dX1_openDays_65 : decode cX1_openDays 65 = .ok (.iinc 3 (-1), 3) := by decide +kernel
theorem dX1_openDays_68 : decode cX1_openDays 68 = .ok (.iinc 6 1, 3) := by decide +kernel
theorem dX1_openDays_71 : decode cX1_openDays 71 = .ok (.goto (-40), 3) := by decide +kernel
theorem dX1_openDays_74 : decode cX1_openDays 74 = .ok (.iload_n 3, 1) := by decide +kernel
theorem dX1_openDays_75 : decode cX1_openDays 75 = .ok (.ireturn, 1) := by decide +kernel
theorem dX1_workdaysBefore_0 : decode cX1_workdaysBefore 0 = .ok (.iload_n 0, 1) := by decide +kernel
theorem dX1_workdaysBefore_1 : decode cX1_workdaysBefore 1 = .ok (.bipush 7, 2) := by decide +kernel
theorem dX1_workdaysBefore_3 : decode cX1_workdaysBefore 3 = .ok (.idiv, 1) := by decide +kernel
theorem dX1_workdaysBefore_4 : decode cX1_workdaysBefore 4 = .ok (.iconst 5, 1) := by decide +kernel
theorem dX1_workdaysBefore_5 : decode cX1_workdaysBefore 5 = .ok (.imul, 1) := by decide +kernel
theorem dX1_workdaysBefore_6 : decode cX1_workdaysBefore 6 = .ok (.iload_n 0, 1) := by decide +kernel
theorem dX1_workdaysBefore_7 : decode cX1_workdaysBefore 7 = .ok (.bipush 7, 2) := by decide +kernel
theorem dX1_workdaysBefore_9 : decode cX1_workdaysBefore 9 = .ok (.irem, 1) := by decide +kernel
theorem dX1_workdaysBefore_10 : decode cX1_workdaysBefore 10 = .ok (.iconst 5, 1) := by decide +kernel
theorem dX1_workdaysBefore_11 : decode cX1_workdaysBefore 11 = .ok (.invokestatic 39, 3) := by decide +kernel
theorem dX1_workdaysBefore_14 : decode cX1_workdaysBefore 14 = .ok (.iadd, 1) := by decide +kernel
theorem dX1_workdaysBefore_15 : decode cX1_workdaysBefore 15 = .ok (.ireturn, 1) := by decide +kernel
theorem dX1_isWeekend_0 : decode cX1_isWeekend 0 = .ok (.iload_n 0, 1) := by decide +kernel
theorem dX1_isWeekend_1 : decode cX1_isWeekend 1 = .ok (.bipush 7, 2) := by decide +kernel
theorem dX1_isWeekend_3 : decode cX1_isWeekend 3 = .ok (.irem, 1) := by decide +kernel
theorem dX1_isWeekend_4 : decode cX1_isWeekend 4 = .ok (.iconst 5, 1) := by decide +kernel
theorem dX1_isWeekend_5 : decode cX1_isWeekend 5 = .ok (.if_icmp .lt 7, 3) := by decide +kernel
theorem dX1_isWeekend_8 : decode cX1_isWeekend 8 = .ok (.iconst 1, 1) := by decide +kernel
theorem dX1_isWeekend_9 : decode cX1_isWeekend 9 = .ok (.goto 4, 3) := by decide +kernel
theorem dX1_isWeekend_12 : decode cX1_isWeekend 12 = .ok (.iconst 0, 1) := by decide +kernel
theorem dX1_isWeekend_13 : decode cX1_isWeekend 13 = .ok (.ireturn, 1) := by decide +kernel
theorem dX2_init_0 : decode cX2_init 0 = .ok (.aload_n 0, 1) := by decide +kernel
theorem dX2_init_1 : decode cX2_init 1 = .ok (.invokespecial 1, 3) := by decide +kernel
theorem dX2_init_4 : decode cX2_init 4 = .ok (.aload_n 0, 1) := by decide +kernel
theorem dX2_init_5 : decode cX2_init 5 = .ok (.iload_n 1, 1) := by decide +kernel
theorem dX2_init_6 : decode cX2_init 6 = .ok (.putfield 7, 3) := by decide +kernel
theorem dX2_init_9 : decode cX2_init 9 = .ok (.aload_n 0, 1) := by decide +kernel
theorem dX2_init_10 : decode cX2_init 10 = .ok (.iload_n 2, 1) := by decide +kernel
theorem dX2_init_11 : decode cX2_init 11 = .ok (.putfield 13, 3) := by decide +kernel
theorem dX2_init_14 : decode cX2_init 14 = .ok (.return_, 1) := by decide +kernel
theorem dX2_maximum_0 : decode cX2_maximum 0 = .ok (.aload_n 0, 1) := by decide +kernel
theorem dX2_maximum_1 : decode cX2_maximum 1 = .ok (.getfield 16, 3) := by decide +kernel
theorem dX2_maximum_4 : decode cX2_maximum 4 = .ok (.aload_n 0, 1) := by decide +kernel
theorem dX2_maximum_5 : decode cX2_maximum 5 = .ok (.getfield 16, 3) := by decide +kernel
theorem dX2_maximum_8 : decode cX2_maximum 8 = .ok (.aload_n 0, 1) := by decide +kernel
theorem dX2_maximum_9 : decode cX2_maximum 9 = .ok (.getfield 19, 3) := by decide +kernel
theorem dX2_maximum_12 : decode cX2_maximum 12 = .ok (.imul, 1) := by decide +kernel
theorem dX2_maximum_13 : decode cX2_maximum 13 = .ok (.bipush 100, 2) := by decide +kernel
theorem dX2_maximum_15 : decode cX2_maximum 15 = .ok (.idiv, 1) := by decide +kernel
theorem dX2_maximum_16 : decode cX2_maximum 16 = .ok (.iadd, 1) := by decide +kernel
theorem dX2_maximum_17 : decode cX2_maximum 17 = .ok (.ireturn, 1) := by decide +kernel
theorem dX2_minimum_0 : decode cX2_minimum 0 = .ok (.aload_n 0, 1) := by decide +kernel
theorem dX2_minimum_1 : decode cX2_minimum 1 = .ok (.getfield 16, 3) := by decide +kernel
theorem dX2_minimum_4 : decode cX2_minimum 4 = .ok (.aload_n 0, 1) := by decide +kernel
theorem dX2_minimum_5 : decode cX2_minimum 5 = .ok (.getfield 16, 3) := by decide +kernel
theorem dX2_minimum_8 : decode cX2_minimum 8 = .ok (.aload_n 0, 1) := by decide +kernel
theorem dX2_minimum_9 : decode cX2_minimum 9 = .ok (.getfield 22, 3) := by decide +kernel
theorem dX2_minimum_12 : decode cX2_minimum 12 = .ok (.imul, 1) := by decide +kernel
theorem dX2_minimum_13 : decode cX2_minimum 13 = .ok (.bipush 100, 2) := by decide +kernel
theorem dX2_minimum_15 : decode cX2_minimum 15 = .ok (.idiv, 1) := by decide +kernel
theorem dX2_minimum_16 : decode cX2_minimum 16 = .ok (.isub, 1) := by decide +kernel
theorem dX2_minimum_17 : decode cX2_minimum 17 = .ok (.ireturn, 1) := by decide +kernel
theorem dX2_partTransferred_0 : decode cX2_partTransferred 0 = .ok (.new 8, 3) := by decide +kernel
theorem dX2_partTransferred_3 : decode cX2_partTransferred 3 = .ok (.dup, 1) := by decide +kernel
theorem dX2_partTransferred_4 : decode cX2_partTransferred 4 = .ok (.iload_n 1, 1) := by decide +kernel
theorem dX2_partTransferred_5 : decode cX2_partTransferred 5 = .ok (.aload_n 0, 1) := by decide +kernel
theorem dX2_partTransferred_6 : decode cX2_partTransferred 6 = .ok (.getfield 7, 3) := by decide +kernel
theorem dX2_partTransferred_9 : decode cX2_partTransferred 9 = .ok (.invokespecial 25, 3) := by decide +kernel
theorem dX2_partTransferred_12 : decode cX2_partTransferred 12 = .ok (.astore 4, 2) := by decide +kernel
theorem dX2_partTransferred_14 : decode cX2_partTransferred 14 = .ok (.aload 4, 2) := by decide +kernel
theorem dX2_partTransferred_16 : decode cX2_partTransferred 16 = .ok (.iload_n 2, 1) := by decide +kernel
theorem dX2_partTransferred_17 : decode cX2_partTransferred 17 = .ok (.putfield 16, 3) := by decide +kernel
theorem dX2_partTransferred_20 : decode cX2_partTransferred 20 = .ok (.aload 4, 2) := by decide +kernel
theorem dX2_partTransferred_22 : decode cX2_partTransferred 22 = .ok (.iload_n 3, 1) := by decide +kernel
theorem dX2_partTransferred_23 : decode cX2_partTransferred 23 = .ok (.putfield 28, 3) := by decide +kernel
theorem dX2_partTransferred_26 : decode cX2_partTransferred 26 = .ok (.aload 4, 2) := by decide +kernel
theorem dX2_partTransferred_28 : decode cX2_partTransferred 28 = .ok (.aload_n 0, 1) := by decide +kernel
theorem dX2_partTransferred_29 : decode cX2_partTransferred 29 = .ok (.getfield 31, 3) := by decide +kernel
theorem dX2_partTransferred_32 : decode cX2_partTransferred 32 = .ok (.iload_n 3, 1) := by decide +kernel
theorem dX2_partTransferred_33 : decode cX2_partTransferred 33 = .ok (.invokestatic 34, 3) := by decide +kernel
theorem dX2_partTransferred_36 : decode cX2_partTransferred 36 = .ok (.putfield 31, 3) := by decide +kernel
theorem dX2_partTransferred_39 : decode cX2_partTransferred 39 = .ok (.aload 4, 2) := by decide +kernel
theorem dX2_partTransferred_41 : decode cX2_partTransferred 41 = .ok (.aload_n 0, 1) := by decide +kernel
theorem dX2_partTransferred_42 : decode cX2_partTransferred 42 = .ok (.getfield 40, 3) := by decide +kernel
theorem dX2_partTransferred_45 : decode cX2_partTransferred 45 = .ok (.putfield 40, 3) := by decide +kernel
theorem dX2_partTransferred_48 : decode cX2_partTransferred 48 = .ok (.aload 4, 2) := by decide +kernel
theorem dX2_partTransferred_50 : decode cX2_partTransferred 50 = .ok (.aload_n 0, 1) := by decide +kernel
theorem dX2_partTransferred_51 : decode cX2_partTransferred 51 = .ok (.getfield 43, 3) := by decide +kernel
theorem dX2_partTransferred_54 : decode cX2_partTransferred 54 = .ok (.putfield 43, 3) := by decide +kernel
theorem dX2_partTransferred_57 : decode cX2_partTransferred 57 = .ok (.aload 4, 2) := by decide +kernel
theorem dX2_partTransferred_59 : decode cX2_partTransferred 59 = .ok (.aload_n 0, 1) := by decide +kernel
theorem dX2_partTransferred_60 : decode cX2_partTransferred 60 = .ok (.getfield 46, 3) := by decide +kernel
theorem dX2_partTransferred_63 : decode cX2_partTransferred 63 = .ok (.putfield 46, 3) := by decide +kernel
theorem dX2_partTransferred_66 : decode cX2_partTransferred 66 = .ok (.aload 4, 2) := by decide +kernel
theorem dX2_partTransferred_68 : decode cX2_partTransferred 68 = .ok (.aload_n 0, 1) := by decide +kernel
theorem dX2_partTransferred_69 : decode cX2_partTransferred 69 = .ok (.getfield 49, 3) := by decide +kernel
theorem dX2_partTransferred_72 : decode cX2_partTransferred 72 = .ok (.putfield 49, 3) := by decide +kernel
theorem dX2_partTransferred_75 : decode cX2_partTransferred 75 = .ok (.aload 4, 2) := by decide +kernel
theorem dX2_partTransferred_77 : decode cX2_partTransferred 77 = .ok (.areturn, 1) := by decide +kernel
theorem dX3_init_0 : decode cX3_init 0 = .ok (.aload_n 0, 1) := by decide +kernel
theorem dX3_init_1 : decode cX3_init 1 = .ok (.invokespecial 3, 3) := by decide +kernel
theorem dX3_init_4 : decode cX3_init 4 = .ok (.aload_n 0, 1) := by decide +kernel
theorem dX3_init_5 : decode cX3_init 5 = .ok (.aload_n 1, 1) := by decide +kernel
theorem dX3_init_6 : decode cX3_init 6 = .ok (.putfield 9, 3) := by decide +kernel
theorem dX3_init_9 : decode cX3_init 9 = .ok (.return_, 1) := by decide +kernel
theorem dX3_feeFor_0 : decode cX3_feeFor 0 = .ok (.bipush 11, 2) := by decide +kernel
theorem dX3_feeFor_2 : decode cX3_feeFor 2 = .ok (.newarray .int, 2) := by decide +kernel
theorem dX3_feeFor_4 : decode cX3_feeFor 4 = .ok (.astore 4, 2) := by decide +kernel
theorem dX3_feeFor_6 : decode cX3_feeFor 6 = .ok (.iconst 0, 1) := by decide +kernel
theorem dX3_feeFor_7 : decode cX3_feeFor 7 = .ok (.istore 5, 2) := by decide +kernel
theorem dX3_feeFor_9 : decode cX3_feeFor 9 = .ok (.aload_n 0, 1) := by decide +kernel
theorem dX3_feeFor_10 : decode cX3_feeFor 10 = .ok (.getfield 9, 3) := by decide +kernel
theorem dX3_feeFor_13 : decode cX3_feeFor 13 = .ok (.astore 6, 2) := by decide +kernel
theorem dX3_feeFor_15 : decode cX3_feeFor 15 = .ok (.aload 6, 2) := by decide +kernel
theorem dX3_feeFor_17 : decode cX3_feeFor 17 = .ok (.arraylength, 1) := by decide +kernel
theorem dX3_feeFor_18 : decode cX3_feeFor 18 = .ok (.istore 7, 2) := by decide +kernel
theorem dX3_feeFor_20 : decode cX3_feeFor 20 = .ok (.iconst 0, 1) := by decide +kernel
theorem dX3_feeFor_21 : decode cX3_feeFor 21 = .ok (.istore 8, 2) := by decide +kernel
theorem dX3_feeFor_23 : decode cX3_feeFor 23 = .ok (.iload 8, 2) := by decide +kernel
theorem dX3_feeFor_25 : decode cX3_feeFor 25 = .ok (.iload 7, 2) := by decide +kernel
theorem dX3_feeFor_27 : decode cX3_feeFor 27 = .ok (.if_icmp .ge 83, 3) := by decide +kernel
theorem dX3_feeFor_30 : decode cX3_feeFor 30 = .ok (.aload 6, 2) := by decide +kernel
theorem dX3_feeFor_32 : decode cX3_feeFor 32 = .ok (.iload 8, 2) := by decide +kernel
theorem dX3_feeFor_34 : decode cX3_feeFor 34 = .ok (.iaload, 1) := by decide +kernel
theorem dX3_feeFor_35 : decode cX3_feeFor 35 = .ok (.istore 9, 2) := by decide +kernel
theorem dX3_feeFor_37 : decode cX3_feeFor 37 = .ok (.iload 9, 2) := by decide +kernel
theorem dX3_feeFor_39 : decode cX3_feeFor 39 = .ok (.bipush (-4), 2) := by decide +kernel
theorem dX3_feeFor_41 : decode cX3_feeFor 41 = .ok (.if_icmp .le 30, 3) := by decide +kernel
theorem dX3_feeFor_44 : decode cX3_feeFor 44 = .ok (.iload 5, 2) := by decide +kernel
theorem dX3_feeFor_46 : decode cX3_feeFor 46 = .ok (.aload 4, 2) := by decide +kernel
theorem dX3_feeFor_48 : decode cX3_feeFor 48 = .ok (.arraylength, 1) := by decide +kernel
theorem dX3_feeFor_49 : decode cX3_feeFor 49 = .ok (.if_icmp .ge 55, 3) := by decide +kernel
theorem dX3_feeFor_52 : decode cX3_feeFor 52 = .ok (.aload 4, 2) := by decide +kernel
theorem dX3_feeFor_54 : decode cX3_feeFor 54 = .ok (.iload 5, 2) := by decide +kernel
theorem dX3_feeFor_56 : decode cX3_feeFor 56 = .ok (.iload 9, 2) := by decide +kernel
theorem dX3_feeFor_58 : decode cX3_feeFor 58 = .ok (.iload_n 1, 1) := by decide +kernel
theorem dX3_feeFor_59 : decode cX3_feeFor 59 = .ok (.iload_n 2, 1) := by decide +kernel
theorem dX3_feeFor_60 : decode cX3_feeFor 60 = .ok (.iload_n 3, 1) := by decide +kernel
theorem dX3_feeFor_61 : decode cX3_feeFor 61 = .ok (.invokestatic 13, 3) := by decide +kernel
theorem dX3_feeFor_64 : decode cX3_feeFor 64 = .ok (.iastore, 1) := by decide +kernel
theorem dX3_feeFor_65 : decode cX3_feeFor 65 = .ok (.iinc 5 1, 3) := by decide +kernel
theorem dX3_feeFor_68 : decode cX3_feeFor 68 = .ok (.goto 36, 3) := by decide +kernel
theorem dX3_feeFor_71 : decode cX3_feeFor 71 = .ok (.iload 5, 2) := by decide +kernel
theorem dX3_feeFor_73 : decode cX3_feeFor 73 = .ok (.iconst 2, 1) := by decide +kernel
theorem dX3_feeFor_74 : decode cX3_feeFor 74 = .ok (.if_icmp .lt 30, 3) := by decide +kernel
theorem dX3_feeFor_77 : decode cX3_feeFor 77 = .ok (.iinc 5 (-1), 3) := by decide +kernel
theorem dX3_feeFor_80 : decode cX3_feeFor 80 = .ok (.aload 4, 2) := by decide +kernel
theorem dX3_feeFor_82 : decode cX3_feeFor 82 = .ok (.iload 5, 2) := by decide +kernel
theorem dX3_feeFor_84 : decode cX3_feeFor 84 = .ok (.iconst 1, 1) := by decide +kernel
theorem dX3_feeFor_85 : decode cX3_feeFor 85 = .ok (.isub, 1) := by decide +kernel
theorem dX3_feeFor_86 : decode cX3_feeFor 86 = .ok (.iload 9, 2) := by decide +kernel
theorem dX3_feeFor_88 : decode cX3_feeFor 88 = .ok (.aload 4, 2) := by decide +kernel
theorem dX3_feeFor_90 : decode cX3_feeFor 90 = .ok (.iload 5, 2) := by decide +kernel
theorem dX3_feeFor_92 : decode cX3_feeFor 92 = .ok (.iconst 1, 1) := by decide +kernel
theorem dX3_feeFor_93 : decode cX3_feeFor 93 = .ok (.isub, 1) := by decide +kernel
theorem dX3_feeFor_94 : decode cX3_feeFor 94 = .ok (.iaload, 1) := by decide +kernel
theorem dX3_feeFor_95 : decode cX3_feeFor 95 = .ok (.aload 4, 2) := by decide +kernel
theorem dX3_feeFor_97 : decode cX3_feeFor 97 = .ok (.iload 5, 2) := by decide +kernel
theorem dX3_feeFor_99 : decode cX3_feeFor 99 = .ok (.iaload, 1) := by decide +kernel
theorem dX3_feeFor_100 : decode cX3_feeFor 100 = .ok (.invokestatic 17, 3) := by decide +kernel
theorem dX3_feeFor_103 : decode cX3_feeFor 103 = .ok (.iastore, 1) := by decide +kernel
theorem dX3_feeFor_104 : decode cX3_feeFor 104 = .ok (.iinc 8 1, 3) := by decide +kernel
theorem dX3_feeFor_107 : decode cX3_feeFor 107 = .ok (.goto (-84), 3) := by decide +kernel
theorem dX3_feeFor_110 : decode cX3_feeFor 110 = .ok (.iconst 0, 1) := by decide +kernel
theorem dX3_feeFor_111 : decode cX3_feeFor 111 = .ok (.ldc 21, 2) := by decide +kernel
theorem dX3_feeFor_113 : decode cX3_feeFor 113 = .ok (.aload 4, 2) := by decide +kernel
theorem dX3_feeFor_115 : decode cX3_feeFor 115 = .ok (.iconst 0, 1) := by decide +kernel
theorem dX3_feeFor_116 : decode cX3_feeFor 116 = .ok (.iaload, 1) := by decide +kernel
theorem dX3_feeFor_117 : decode cX3_feeFor 117 = .ok (.invokestatic 22, 3) := by decide +kernel
theorem dX3_feeFor_120 : decode cX3_feeFor 120 = .ok (.invokestatic 28, 3) := by decide +kernel
theorem dX3_feeFor_123 : decode cX3_feeFor 123 = .ok (.ireturn, 1) := by decide +kernel
theorem dX3_operand_0 : decode cX3_operand 0 = .ok (.iload_n 0, 1) := by decide +kernel
theorem dX3_operand_1 : decode cX3_operand 1 = .ok (.tableswitch 33 (-3) (-1) #[31, 29, 27], 27) := by decide +kernel
theorem dX3_operand_28 : decode cX3_operand 28 = .ok (.iload_n 1, 1) := by decide +kernel
theorem dX3_operand_29 : decode cX3_operand 29 = .ok (.ireturn, 1) := by decide +kernel
theorem dX3_operand_30 : decode cX3_operand 30 = .ok (.iload_n 2, 1) := by decide +kernel
theorem dX3_operand_31 : decode cX3_operand 31 = .ok (.ireturn, 1) := by decide +kernel
theorem dX3_operand_32 : decode cX3_operand 32 = .ok (.iload_n 3, 1) := by decide +kernel
theorem dX3_operand_33 : decode cX3_operand 33 = .ok (.ireturn, 1) := by decide +kernel
theorem dX3_operand_34 : decode cX3_operand 34 = .ok (.iload_n 0, 1) := by decide +kernel
theorem dX3_operand_35 : decode cX3_operand 35 = .ok (.ireturn, 1) := by decide +kernel
theorem dX3_result_0 : decode cX3_result 0 = .ok (.iload_n 0, 1) := by decide +kernel
theorem dX3_result_1 : decode cX3_result 1 = .ok (.tableswitch 54 (-6) (-4) #[45, 36, 27], 27) := by decide +kernel
theorem dX3_result_28 : decode cX3_result 28 = .ok (.iload_n 1, 1) := by decide +kernel
theorem dX3_result_29 : decode cX3_result 29 = .ok (.i2l, 1) := by decide +kernel
theorem dX3_result_30 : decode cX3_result 30 = .ok (.iload_n 2, 1) := by decide +kernel
theorem dX3_result_31 : decode cX3_result 31 = .ok (.i2l, 1) := by decide +kernel
theorem dX3_result_32 : decode cX3_result 32 = .ok (.ladd, 1) := by decide +kernel
theorem dX3_result_33 : decode cX3_result 33 = .ok (.lstore_n 3, 1) := by decide +kernel
theorem dX3_result_34 : decode cX3_result 34 = .ok (.goto 34, 3) := by decide +kernel
theorem dX3_result_37 : decode cX3_result 37 = .ok (.iload_n 1, 1) := by decide +kernel
theorem dX3_result_38 : decode cX3_result 38 = .ok (.i2l, 1) := by decide +kernel
theorem dX3_result_39 : decode cX3_result 39 = .ok (.iload_n 2, 1) := by decide +kernel
theorem dX3_result_40 : decode cX3_result 40 = .ok (.i2l, 1) := by decide +kernel
theorem dX3_result_41 : decode cX3_result 41 = .ok (.lsub, 1) := by decide +kernel
theorem dX3_result_42 : decode cX3_result 42 = .ok (.lstore_n 3, 1) := by decide +kernel
theorem dX3_result_43 : decode cX3_result 43 = .ok (.goto 25, 3) := by decide +kernel
theorem dX3_result_46 : decode cX3_result 46 = .ok (.iload_n 1, 1) := by decide +kernel
theorem dX3_result_47 : decode cX3_result 47 = .ok (.i2l, 1) := by decide +kernel
theorem dX3_result_48 : decode cX3_result 48 = .ok (.iload_n 2, 1) := by decide +kernel
theorem dX3_result_49 : decode cX3_result 49 = .ok (.i2l, 1) := by decide +kernel
theorem dX3_result_50 : decode cX3_result 50 = .ok (.lmul, 1) := by decide +kernel
theorem dX3_result_51 : decode cX3_result 51 = .ok (.lstore_n 3, 1) := by decide +kernel
theorem dX3_result_52 : decode cX3_result 52 = .ok (.goto 16, 3) := by decide +kernel
theorem dX3_result_55 : decode cX3_result 55 = .ok (.iload_n 2, 1) := by decide +kernel
theorem dX3_result_56 : decode cX3_result 56 = .ok (.ifCond .ne 7, 3) := by decide +kernel
theorem dX3_result_59 : decode cX3_result 59 = .ok (.lconst 0, 1) := by decide +kernel
theorem dX3_result_60 : decode cX3_result 60 = .ok (.goto 7, 3) := by decide +kernel
theorem dX3_result_63 : decode cX3_result 63 = .ok (.iload_n 1, 1) := by decide +kernel
theorem dX3_result_64 : decode cX3_result 64 = .ok (.iload_n 2, 1) := by decide +kernel
theorem dX3_result_65 : decode cX3_result 65 = .ok (.idiv, 1) := by decide +kernel
theorem dX3_result_66 : decode cX3_result 66 = .ok (.i2l, 1) := by decide +kernel
theorem dX3_result_67 : decode cX3_result 67 = .ok (.lstore_n 3, 1) := by decide +kernel
theorem dX3_result_68 : decode cX3_result 68 = .ok (.ldc2_w 31, 3) := by decide +kernel
theorem dX3_result_71 : decode cX3_result 71 = .ok (.ldc2_w 33, 3) := by decide +kernel
theorem dX3_result_74 : decode cX3_result 74 = .ok (.lload_n 3, 1) := by decide +kernel
theorem dX3_result_75 : decode cX3_result 75 = .ok (.invokestatic 35, 3) := by decide +kernel
theorem dX3_result_78 : decode cX3_result 78 = .ok (.invokestatic 38, 3) := by decide +kernel
theorem dX3_result_81 : decode cX3_result 81 = .ok (.l2i, 1) := by decide +kernel
theorem dX3_result_82 : decode cX3_result 82 = .ok (.ireturn, 1) := by decide +kernel
theorem dX4_init_0 : decode cX4_init 0 = .ok (.aload_n 0, 1) := by decide +kernel
theorem dX4_init_1 : decode cX4_init 1 = .ok (.invokespecial 3, 3) := by decide +kernel
theorem dX4_init_4 : decode cX4_init 4 = .ok (.aload_n 0, 1) := by decide +kernel
theorem dX4_init_5 : decode cX4_init 5 = .ok (.iload_n 1, 1) := by decide +kernel
theorem dX4_init_6 : decode cX4_init 6 = .ok (.putfield 9, 3) := by decide +kernel
theorem dX4_init_9 : decode cX4_init 9 = .ok (.aload_n 0, 1) := by decide +kernel
theorem dX4_init_10 : decode cX4_init 10 = .ok (.bipush 12, 2) := by decide +kernel
theorem dX4_init_12 : decode cX4_init 12 = .ok (.newarray .int, 2) := by decide +kernel
theorem dX4_init_14 : decode cX4_init 14 = .ok (.putfield 15, 3) := by decide +kernel
theorem dX4_init_17 : decode cX4_init 17 = .ok (.aload_n 0, 1) := by decide +kernel
theorem dX4_init_18 : decode cX4_init 18 = .ok (.bipush 12, 2) := by decide +kernel
theorem dX4_init_20 : decode cX4_init 20 = .ok (.newarray .int, 2) := by decide +kernel
theorem dX4_init_22 : decode cX4_init 22 = .ok (.putfield 19, 3) := by decide +kernel
theorem dX4_init_25 : decode cX4_init 25 = .ok (.aload_n 0, 1) := by decide +kernel
theorem dX4_init_26 : decode cX4_init 26 = .ok (.iconst 0, 1) := by decide +kernel
theorem dX4_init_27 : decode cX4_init 27 = .ok (.putfield 22, 3) := by decide +kernel
theorem dX4_init_30 : decode cX4_init 30 = .ok (.aload_n 0, 1) := by decide +kernel
theorem dX4_init_31 : decode cX4_init 31 = .ok (.iconst 0, 1) := by decide +kernel
theorem dX4_init_32 : decode cX4_init 32 = .ok (.putfield 25, 3) := by decide +kernel
theorem dX4_init_35 : decode cX4_init 35 = .ok (.aload_n 0, 1) := by decide +kernel
theorem dX4_init_36 : decode cX4_init 36 = .ok (.iconst 0, 1) := by decide +kernel
theorem dX4_init_37 : decode cX4_init 37 = .ok (.putfield 28, 3) := by decide +kernel
theorem dX4_init_40 : decode cX4_init 40 = .ok (.return_, 1) := by decide +kernel
theorem dX4_addCandidate_0 : decode cX4_addCandidate 0 = .ok (.aload_n 0, 1) := by decide +kernel
theorem dX4_addCandidate_1 : decode cX4_addCandidate 1 = .ok (.getfield 22, 3) := by decide +kernel
theorem dX4_addCandidate_4 : decode cX4_addCandidate 4 = .ok (.ifCond .lt 57, 3) := by decide +kernel
theorem dX4_addCandidate_7 : decode cX4_addCandidate 7 = .ok (.aload_n 0, 1) := by decide +kernel
theorem dX4_addCandidate_8 : decode cX4_addCandidate 8 = .ok (.getfield 22, 3) := by decide +kernel
theorem dX4_addCandidate_11 : decode cX4_addCandidate 11 = .ok (.aload_n 0, 1) := by decide +kernel
theorem dX4_addCandidate_12 : decode cX4_addCandidate 12 = .ok (.getfield 19, 3) := by decide +kernel
theorem dX4_addCandidate_15 : decode cX4_addCandidate 15 = .ok (.arraylength, 1) := by decide +kernel
theorem dX4_addCandidate_16 : decode cX4_addCandidate 16 = .ok (.if_icmp .ge 45, 3) := by decide +kernel
theorem dX4_addCandidate_19 : decode cX4_addCandidate 19 = .ok (.aload_n 0, 1) := by decide +kernel
theorem dX4_addCandidate_20 : decode cX4_addCandidate 20 = .ok (.getfield 22, 3) := by decide +kernel
theorem dX4_addCandidate_23 : decode cX4_addCandidate 23 = .ok (.aload_n 0, 1) := by decide +kernel
theorem dX4_addCandidate_24 : decode cX4_addCandidate 24 = .ok (.getfield 15, 3) := by decide +kernel
theorem dX4_addCandidate_27 : decode cX4_addCandidate 27 = .ok (.arraylength, 1) := by decide +kernel
theorem dX4_addCandidate_28 : decode cX4_addCandidate 28 = .ok (.if_icmp .ge 33, 3) := by decide +kernel
theorem dX4_addCandidate_31 : decode cX4_addCandidate 31 = .ok (.aload_n 0, 1) := by decide +kernel
theorem dX4_addCandidate_32 : decode cX4_addCandidate 32 = .ok (.getfield 15, 3) := by decide +kernel
theorem dX4_addCandidate_35 : decode cX4_addCandidate 35 = .ok (.aload_n 0, 1) := by decide +kernel
theorem dX4_addCandidate_36 : decode cX4_addCandidate 36 = .ok (.getfield 22, 3) := by decide +kernel
theorem dX4_addCandidate_39 : decode cX4_addCandidate 39 = .ok (.iload_n 1, 1) := by decide +kernel
theorem dX4_addCandidate_40 : decode cX4_addCandidate 40 = .ok (.iastore, 1) := by decide +kernel
theorem dX4_addCandidate_41 : decode cX4_addCandidate 41 = .ok (.aload_n 0, 1) := by decide +kernel
theorem dX4_addCandidate_42 : decode cX4_addCandidate 42 = .ok (.getfield 19, 3) := by decide +kernel
theorem dX4_addCandidate_45 : decode cX4_addCandidate 45 = .ok (.aload_n 0, 1) := by decide +kernel
theorem dX4_addCandidate_46 : decode cX4_addCandidate 46 = .ok (.getfield 22, 3) := by decide +kernel
theorem dX4_addCandidate_49 : decode cX4_addCandidate 49 = .ok (.iload_n 2, 1) := by decide +kernel
theorem dX4_addCandidate_50 : decode cX4_addCandidate 50 = .ok (.iastore, 1) := by decide +kernel
theorem dX4_addCandidate_51 : decode cX4_addCandidate 51 = .ok (.aload_n 0, 1) := by decide +kernel
theorem dX4_addCandidate_52 : decode cX4_addCandidate 52 = .ok (.dup, 1) := by decide +kernel
theorem dX4_addCandidate_53 : decode cX4_addCandidate 53 = .ok (.getfield 22, 3) := by decide +kernel
theorem dX4_addCandidate_56 : decode cX4_addCandidate 56 = .ok (.iconst 1, 1) := by decide +kernel
theorem dX4_addCandidate_57 : decode cX4_addCandidate 57 = .ok (.iadd, 1) := by decide +kernel
theorem dX4_addCandidate_58 : decode cX4_addCandidate 58 = .ok (.putfield 22, 3) := by decide +kernel
theorem dX4_addCandidate_61 : decode cX4_addCandidate 61 = .ok (.return_, 1) := by decide +kernel
theorem dX4_bestSet_0 : decode cX4_bestSet 0 = .ok (.aload_n 0, 1) := by decide +kernel
theorem dX4_bestSet_1 : decode cX4_bestSet 1 = .ok (.aload_n 0, 1) := by decide +kernel
theorem dX4_bestSet_2 : decode cX4_bestSet 2 = .ok (.getfield 22, 3) := by decide +kernel
theorem dX4_bestSet_5 : decode cX4_bestSet 5 = .ok (.iconst 0, 1) := by decide +kernel
theorem dX4_bestSet_6 : decode cX4_bestSet 6 = .ok (.iconst 0, 1) := by decide +kernel
theorem dX4_bestSet_7 : decode cX4_bestSet 7 = .ok (.invokevirtual 31, 3) := by decide +kernel
theorem dX4_bestSet_10 : decode cX4_bestSet 10 = .ok (.aload_n 0, 1) := by decide +kernel
theorem dX4_bestSet_11 : decode cX4_bestSet 11 = .ok (.getfield 28, 3) := by decide +kernel
theorem dX4_bestSet_14 : decode cX4_bestSet 14 = .ok (.ireturn, 1) := by decide +kernel
theorem dX4_tryAll_0 : decode cX4_tryAll 0 = .ok (.iload_n 1, 1) := by decide +kernel
theorem dX4_tryAll_1 : decode cX4_tryAll 1 = .ok (.ifCond .le 21, 3) := by decide +kernel
theorem dX4_tryAll_4 : decode cX4_tryAll 4 = .ok (.iload_n 1, 1) := by decide +kernel
theorem dX4_tryAll_5 : decode cX4_tryAll 5 = .ok (.aload_n 0, 1) := by decide +kernel
theorem dX4_tryAll_6 : decode cX4_tryAll 6 = .ok (.getfield 19, 3) := by decide +kernel
theorem dX4_tryAll_9 : decode cX4_tryAll 9 = .ok (.arraylength, 1) := by decide +kernel
theorem dX4_tryAll_10 : decode cX4_tryAll 10 = .ok (.if_icmp .gt 12, 3) := by decide +kernel
theorem dX4_tryAll_13 : decode cX4_tryAll 13 = .ok (.iload_n 1, 1) := by decide +kernel
theorem dX4_tryAll_14 : decode cX4_tryAll 14 = .ok (.aload_n 0, 1) := by decide +kernel
theorem dX4_tryAll_15 : decode cX4_tryAll 15 = .ok (.getfield 15, 3) := by decide +kernel
theorem dX4_tryAll_18 : decode cX4_tryAll 18 = .ok (.arraylength, 1) := by decide +kernel
theorem dX4_tryAll_19 : decode cX4_tryAll 19 = .ok (.if_icmp .le 22, 3) := by decide +kernel
theorem dX4_tryAll_22 : decode cX4_tryAll 22 = .ok (.iload_n 3, 1) := by decide +kernel
theorem dX4_tryAll_23 : decode cX4_tryAll 23 = .ok (.aload_n 0, 1) := by decide +kernel
theorem dX4_tryAll_24 : decode cX4_tryAll 24 = .ok (.getfield 25, 3) := by decide +kernel
theorem dX4_tryAll_27 : decode cX4_tryAll 27 = .ok (.if_icmp .le 13, 3) := by decide +kernel
theorem dX4_tryAll_30 : decode cX4_tryAll 30 = .ok (.aload_n 0, 1) := by decide +kernel
theorem dX4_tryAll_31 : decode cX4_tryAll 31 = .ok (.iload_n 3, 1) := by decide +kernel
theorem dX4_tryAll_32 : decode cX4_tryAll 32 = .ok (.putfield 25, 3) := by decide +kernel
theorem dX4_tryAll_35 : decode cX4_tryAll 35 = .ok (.aload_n 0, 1) := by decide +kernel
theorem dX4_tryAll_36 : decode cX4_tryAll 36 = .ok (.iload_n 2, 1) := by decide +kernel
theorem dX4_tryAll_37 : decode cX4_tryAll 37 = .ok (.putfield 28, 3) := by decide +kernel
theorem dX4_tryAll_40 : decode cX4_tryAll 40 = .ok (.return_, 1) := by decide +kernel
theorem dX4_tryAll_41 : decode cX4_tryAll 41 = .ok (.iload_n 1, 1) := by decide +kernel
theorem dX4_tryAll_42 : decode cX4_tryAll 42 = .ok (.iconst 1, 1) := by decide +kernel
theorem dX4_tryAll_43 : decode cX4_tryAll 43 = .ok (.isub, 1) := by decide +kernel
theorem dX4_tryAll_44 : decode cX4_tryAll 44 = .ok (.istore 4, 2) := by decide +kernel
theorem dX4_tryAll_46 : decode cX4_tryAll 46 = .ok (.aload_n 0, 1) := by decide +kernel
theorem dX4_tryAll_47 : decode cX4_tryAll 47 = .ok (.iload 4, 2) := by decide +kernel
theorem dX4_tryAll_49 : decode cX4_tryAll 49 = .ok (.iload_n 2, 1) := by decide +kernel
theorem dX4_tryAll_50 : decode cX4_tryAll 50 = .ok (.iload_n 3, 1) := by decide +kernel
theorem dX4_tryAll_51 : decode cX4_tryAll 51 = .ok (.invokevirtual 31, 3) := by decide +kernel
theorem dX4_tryAll_54 : decode cX4_tryAll 54 = .ok (.iload_n 3, 1) := by decide +kernel
theorem dX4_tryAll_55 : decode cX4_tryAll 55 = .ok (.aload_n 0, 1) := by decide +kernel
theorem dX4_tryAll_56 : decode cX4_tryAll 56 = .ok (.getfield 19, 3) := by decide +kernel
theorem dX4_tryAll_59 : decode cX4_tryAll 59 = .ok (.iload 4, 2) := by decide +kernel
theorem dX4_tryAll_61 : decode cX4_tryAll 61 = .ok (.iaload, 1) := by decide +kernel
theorem dX4_tryAll_62 : decode cX4_tryAll 62 = .ok (.iadd, 1) := by decide +kernel
theorem dX4_tryAll_63 : decode cX4_tryAll 63 = .ok (.aload_n 0, 1) := by decide +kernel
theorem dX4_tryAll_64 : decode cX4_tryAll 64 = .ok (.getfield 9, 3) := by decide +kernel
theorem dX4_tryAll_67 : decode cX4_tryAll 67 = .ok (.if_icmp .gt 29, 3) := by decide +kernel
theorem dX4_tryAll_70 : decode cX4_tryAll 70 = .ok (.aload_n 0, 1) := by decide +kernel
theorem dX4_tryAll_71 : decode cX4_tryAll 71 = .ok (.iload 4, 2) := by decide +kernel
theorem dX4_tryAll_73 : decode cX4_tryAll 73 = .ok (.iload_n 2, 1) := by decide +kernel
theorem dX4_tryAll_74 : decode cX4_tryAll 74 = .ok (.iconst 1, 1) := by decide +kernel
theorem dX4_tryAll_75 : decode cX4_tryAll 75 = .ok (.aload_n 0, 1) := by decide +kernel
theorem dX4_tryAll_76 : decode cX4_tryAll 76 = .ok (.getfield 15, 3) := by decide +kernel
theorem dX4_tryAll_79 : decode cX4_tryAll 79 = .ok (.iload 4, 2) := by decide +kernel
theorem dX4_tryAll_81 : decode cX4_tryAll 81 = .ok (.iaload, 1) := by decide +kernel
theorem dX4_tryAll_82 : decode cX4_tryAll 82 = .ok (.ishl, 1) := by decide +kernel
theorem dX4_tryAll_83 : decode cX4_tryAll 83 = .ok (.ior, 1) := by decide +kernel
theorem dX4_tryAll_84 : decode cX4_tryAll 84 = .ok (.iload_n 3, 1) := by decide +kernel
theorem dX4_tryAll_85 : decode cX4_tryAll 85 = .ok (.aload_n 0, 1) := by decide +kernel
theorem dX4_tryAll_86 : decode cX4_tryAll 86 = .ok (.getfield 19, 3) := by decide +kernel
theorem dX4_tryAll_89 : decode cX4_tryAll 89 = .ok (.iload 4, 2) := by decide +kernel
theorem dX4_tryAll_91 : decode cX4_tryAll 91 = .ok (.iaload, 1) := by decide +kernel
theorem dX4_tryAll_92 : decode cX4_tryAll 92 = .ok (.iadd, 1) := by decide +kernel
theorem dX4_tryAll_93 : decode cX4_tryAll 93 = .ok (.invokevirtual 31, 3) := by decide +kernel
theorem dX4_tryAll_96 : decode cX4_tryAll 96 = .ok (.return_, 1) := by decide +kernel
theorem dX5_init_0 : decode cX5_init 0 = .ok (.aload_n 0, 1) := by decide +kernel
theorem dX5_init_1 : decode cX5_init 1 = .ok (.invokespecial 1, 3) := by decide +kernel
theorem dX5_init_4 : decode cX5_init 4 = .ok (.aload_n 0, 1) := by decide +kernel
theorem dX5_init_5 : decode cX5_init 5 = .ok (.iload_n 1, 1) := by decide +kernel
theorem dX5_init_6 : decode cX5_init 6 = .ok (.putfield 7, 3) := by decide +kernel
theorem dX5_init_9 : decode cX5_init 9 = .ok (.aload_n 0, 1) := by decide +kernel
theorem dX5_init_10 : decode cX5_init 10 = .ok (.iload_n 2, 1) := by decide +kernel
theorem dX5_init_11 : decode cX5_init 11 = .ok (.putfield 13, 3) := by decide +kernel
theorem dX5_init_14 : decode cX5_init 14 = .ok (.aload_n 0, 1) := by decide +kernel
theorem dX5_init_15 : decode cX5_init 15 = .ok (.iload_n 3, 1) := by decide +kernel
theorem dX5_init_16 : decode cX5_init 16 = .ok (.putfield 16, 3) := by decide +kernel
theorem dX5_init_19 : decode cX5_init 19 = .ok (.aload_n 0, 1) := by decide +kernel
theorem dX5_init_20 : decode cX5_init 20 = .ok (.iload 4, 2) := by decide +kernel
theorem dX5_init_22 : decode cX5_init 22 = .ok (.putfield 19, 3) := by decide +kernel
theorem dX5_init_25 : decode cX5_init 25 = .ok (.aload_n 0, 1) := by decide +kernel
theorem dX5_init_26 : decode cX5_init 26 = .ok (.iload 5, 2) := by decide +kernel
theorem dX5_init_28 : decode cX5_init 28 = .ok (.putfield 22, 3) := by decide +kernel
theorem dX5_init_31 : decode cX5_init 31 = .ok (.aload_n 0, 1) := by decide +kernel
theorem dX5_init_32 : decode cX5_init 32 = .ok (.iload 6, 2) := by decide +kernel
theorem dX5_init_34 : decode cX5_init 34 = .ok (.putfield 25, 3) := by decide +kernel
theorem dX5_init_37 : decode cX5_init 37 = .ok (.return_, 1) := by decide +kernel
theorem dX5_has_0 : decode cX5_has 0 = .ok (.aload_n 0, 1) := by decide +kernel
theorem dX5_has_1 : decode cX5_has 1 = .ok (.getfield 19, 3) := by decide +kernel
theorem dX5_has_4 : decode cX5_has 4 = .ok (.iload_n 1, 1) := by decide +kernel
theorem dX5_has_5 : decode cX5_has 5 = .ok (.iand, 1) := by decide +kernel
theorem dX5_has_6 : decode cX5_has 6 = .ok (.ifCond .eq 7, 3) := by decide +kernel
theorem dX5_has_9 : decode cX5_has 9 = .ok (.iconst 1, 1) := by decide +kernel
theorem dX5_has_10 : decode cX5_has 10 = .ok (.goto 4, 3) := by decide +kernel
theorem dX5_has_13 : decode cX5_has 13 = .ok (.iconst 0, 1) := by decide +kernel
theorem dX5_has_14 : decode cX5_has 14 = .ok (.ireturn, 1) := by decide +kernel
theorem dX5_settled_0 : decode cX5_settled 0 = .ok (.new 8, 3) := by decide +kernel
theorem dX5_settled_3 : decode cX5_settled 3 = .ok (.dup, 1) := by decide +kernel
theorem dX5_settled_4 : decode cX5_settled 4 = .ok (.aload_n 0, 1) := by decide +kernel
theorem dX5_settled_5 : decode cX5_settled 5 = .ok (.getfield 7, 3) := by decide +kernel
theorem dX5_settled_8 : decode cX5_settled 8 = .ok (.aload_n 0, 1) := by decide +kernel
theorem dX5_settled_9 : decode cX5_settled 9 = .ok (.getfield 13, 3) := by decide +kernel
theorem dX5_settled_12 : decode cX5_settled 12 = .ok (.aload_n 0, 1) := by decide +kernel
theorem dX5_settled_13 : decode cX5_settled 13 = .ok (.getfield 16, 3) := by decide +kernel
theorem dX5_settled_16 : decode cX5_settled 16 = .ok (.aload_n 0, 1) := by decide +kernel
theorem dX5_settled_17 : decode cX5_settled 17 = .ok (.getfield 19, 3) := by decide +kernel
theorem dX5_settled_20 : decode cX5_settled 20 = .ok (.iload_n 1, 1) := by decide +kernel
theorem dX5_settled_21 : decode cX5_settled 21 = .ok (.iload_n 2, 1) := by decide +kernel
theorem dX5_settled_22 : decode cX5_settled 22 = .ok (.invokespecial 28, 3) := by decide +kernel
theorem dX5_settled_25 : decode cX5_settled 25 = .ok (.areturn, 1) := by decide +kernel
theorem dX6_init_0 : decode cX6_init 0 = .ok (.aload_n 0, 1) := by decide +kernel
theorem dX6_init_1 : decode cX6_init 1 = .ok (.invokespecial 3, 3) := by decide +kernel
theorem dX6_init_4 : decode cX6_init 4 = .ok (.aload_n 0, 1) := by decide +kernel
theorem dX6_init_5 : decode cX6_init 5 = .ok (.aload_n 1, 1) := by decide +kernel
theorem dX6_init_6 : decode cX6_init 6 = .ok (.putfield 9, 3) := by decide +kernel
theorem dX6_init_9 : decode cX6_init 9 = .ok (.aload_n 0, 1) := by decide +kernel
theorem dX6_init_10 : decode cX6_init 10 = .ok (.iconst 0, 1) := by decide +kernel
theorem dX6_init_11 : decode cX6_init 11 = .ok (.putfield 15, 3) := by decide +kernel
theorem dX6_init_14 : decode cX6_init 14 = .ok (.aload_n 0, 1) := by decide +kernel
theorem dX6_init_15 : decode cX6_init 15 = .ok (.iconst (-1), 1) := by decide +kernel
theorem dX6_init_16 : decode cX6_init 16 = .ok (.putfield 19, 3) := by decide +kernel
theorem dX6_init_19 : decode cX6_init 19 = .ok (.aload_n 0, 1) := by decide +kernel
theorem dX6_init_20 : decode cX6_init 20 = .ok (.invokestatic 22, 3) := by decide +kernel
theorem dX6_init_23 : decode cX6_init 23 = .ok (.putfield 28, 3) := by decide +kernel
theorem dX6_init_26 : decode cX6_init 26 = .ok (.aload_n 0, 1) := by decide +kernel
theorem dX6_init_27 : decode cX6_init 27 = .ok (.iconst 0, 1) := by decide +kernel
theorem dX6_init_28 : decode cX6_init 28 = .ok (.newarray .int, 2) := by decide +kernel
theorem dX6_init_30 : decode cX6_init 30 = .ok (.putfield 32, 3) := by decide +kernel
theorem dX6_init_33 : decode cX6_init 33 = .ok (.return_, 1) := by decide +kernel
theorem dX6_readSetup_0 : decode cX6_readSetup 0 = .ok (.aload_n 0, 1) := by decide +kernel
theorem dX6_readSetup_1 : decode cX6_readSetup 1 = .ok (.invokevirtual 36, 3) := by decide +kernel
theorem dX6_readSetup_4 : decode cX6_readSetup 4 = .ok (.iconst 0, 1) := by decide +kernel
theorem dX6_readSetup_5 : decode cX6_readSetup 5 = .ok (.istore_n 1, 1) := by decide +kernel
theorem dX6_readSetup_6 : decode cX6_readSetup 6 = .ok (.iload_n 1, 1) := by decide +kernel
theorem dX6_readSetup_7 : decode cX6_readSetup 7 = .ok (.aload_n 0, 1) := by decide +kernel
theorem dX6_readSetup_8 : decode cX6_readSetup 8 = .ok (.getfield 9, 3) := by decide +kernel
theorem dX6_readSetup_11 : decode cX6_readSetup 11 = .ok (.arraylength, 1) := by decide +kernel
theorem dX6_readSetup_12 : decode cX6_readSetup 12 = .ok (.if_icmp .gt 86, 3) := by decide +kernel
theorem dX6_readSetup_15 : decode cX6_readSetup 15 = .ok (.aload_n 0, 1) := by decide +kernel
theorem dX6_readSetup_16 : decode cX6_readSetup 16 = .ok (.getfield 39, 3) := by decide +kernel
theorem dX6_readSetup_19 : decode cX6_readSetup 19 = .ok (.sipush 1000, 3) := by decide +kernel
theorem dX6_readSetup_22 : decode cX6_readSetup 22 = .ok (.if_icmp .eq 76, 3) := by decide +kernel
theorem dX6_readSetup_25 : decode cX6_readSetup 25 = .ok (.aload_n 0, 1) := by decide +kernel
theorem dX6_readSetup_26 : decode cX6_readSetup 26 = .ok (.ldc 42, 2) := by decide +kernel
theorem dX6_readSetup_28 : decode cX6_readSetup 28 = .ok (.invokevirtual 44, 3) := by decide +kernel
theorem dX6_readSetup_31 : decode cX6_readSetup 31 = .ok (.ifCond .eq 10, 3) := by decide +kernel
theorem dX6_readSetup_34 : decode cX6_readSetup 34 = .ok (.aload_n 0, 1) := by decide +kernel
theorem dX6_readSetup_35 : decode cX6_readSetup 35 = .ok (.invokevirtual 48, 3) := by decide +kernel
theorem dX6_readSetup_38 : decode cX6_readSetup 38 = .ok (.goto 48, 3) := by decide +kernel
theorem dX6_readSetup_41 : decode cX6_readSetup 41 = .ok (.aload_n 0, 1) := by decide +kernel
theorem dX6_readSetup_42 : decode cX6_readSetup 42 = .ok (.ldc 51, 2) := by decide +kernel
theorem dX6_readSetup_44 : decode cX6_readSetup 44 = .ok (.invokevirtual 44, 3) := by decide +kernel
theorem dX6_readSetup_47 : decode cX6_readSetup 47 = .ok (.ifCond .eq 10, 3) := by decide +kernel
theorem dX6_readSetup_50 : decode cX6_readSetup 50 = .ok (.aload_n 0, 1) := by decide +kernel
theorem dX6_readSetup_51 : decode cX6_readSetup 51 = .ok (.invokevirtual 53, 3) := by decide +kernel
theorem dX6_readSetup_54 : decode cX6_readSetup 54 = .ok (.goto 32, 3) := by decide +kernel
theorem dX6_readSetup_57 : decode cX6_readSetup 57 = .ok (.aload_n 0, 1) := by decide +kernel
theorem dX6_readSetup_58 : decode cX6_readSetup 58 = .ok (.ldc 56, 2) := by decide +kernel
theorem dX6_readSetup_60 : decode cX6_readSetup 60 = .ok (.invokevirtual 44, 3) := by decide +kernel
theorem dX6_readSetup_63 : decode cX6_readSetup 63 = .ok (.ifCond .eq 17, 3) := by decide +kernel
theorem dX6_readSetup_66 : decode cX6_readSetup 66 = .ok (.aload_n 0, 1) := by decide +kernel
theorem dX6_readSetup_67 : decode cX6_readSetup 67 = .ok (.getfield 58, 3) := by decide +kernel
theorem dX6_readSetup_70 : decode cX6_readSetup 70 = .ok (.ifCond .ne 10, 3) := by decide +kernel
theorem dX6_readSetup_73 : decode cX6_readSetup 73 = .ok (.aload_n 0, 1) := by decide +kernel
theorem dX6_readSetup_74 : decode cX6_readSetup 74 = .ok (.invokevirtual 62, 3) := by decide +kernel
theorem dX6_readSetup_77 : decode cX6_readSetup 77 = .ok (.goto 9, 3) := by decide +kernel
theorem dX6_readSetup_80 : decode cX6_readSetup 80 = .ok (.aload_n 0, 1) := by decide +kernel
theorem dX6_readSetup_81 : decode cX6_readSetup 81 = .ok (.bipush (-2), 2) := by decide +kernel
theorem dX6_readSetup_83 : decode cX6_readSetup 83 = .ok (.invokevirtual 65, 3) := by decide +kernel
theorem dX6_readSetup_86 : decode cX6_readSetup 86 = .ok (.aload_n 0, 1) := by decide +kernel
theorem dX6_readSetup_87 : decode cX6_readSetup 87 = .ok (.bipush 59, 2) := by decide +kernel
theorem dX6_readSetup_89 : decode cX6_readSetup 89 = .ok (.invokevirtual 69, 3) := by decide +kernel
theorem dX6_readSetup_92 : decode cX6_readSetup 92 = .ok (.iinc 1 1, 3) := by decide +kernel
theorem dX6_readSetup_95 : decode cX6_readSetup 95 = .ok (.goto (-89), 3) := by decide +kernel
theorem dX6_readSetup_98 : decode cX6_readSetup 98 = .ok (.return_, 1) := by decide +kernel
theorem dX6_readHolidays_0 : decode cX6_readHolidays 0 = .ok (.aload_n 0, 1) := by decide +kernel
theorem dX6_readHolidays_1 : decode cX6_readHolidays 1 = .ok (.invokevirtual 36, 3) := by decide +kernel
theorem dX6_readHolidays_4 : decode cX6_readHolidays 4 = .ok (.aload_n 0, 1) := by decide +kernel
theorem dX6_readHolidays_5 : decode cX6_readHolidays 5 = .ok (.invokevirtual 73, 3) := by decide +kernel
theorem dX6_readHolidays_8 : decode cX6_readHolidays 8 = .ok (.iconst 0, 1) := by decide +kernel
theorem dX6_readHolidays_9 : decode cX6_readHolidays 9 = .ok (.istore_n 1, 1) := by decide +kernel
theorem dX6_readHolidays_10 : decode cX6_readHolidays 10 = .ok (.iload_n 1, 1) := by decide +kernel
theorem dX6_readHolidays_11 : decode cX6_readHolidays 11 = .ok (.aload_n 0, 1) := by decide +kernel
theorem dX6_readHolidays_12 : decode cX6_readHolidays 12 = .ok (.getfield 9, 3) := by decide +kernel
theorem dX6_readHolidays_15 : decode cX6_readHolidays 15 = .ok (.arraylength, 1) := by decide +kernel
theorem dX6_readHolidays_16 : decode cX6_readHolidays 16 = .ok (.if_icmp .ge 23, 3) := by decide +kernel
theorem dX6_readHolidays_19 : decode cX6_readHolidays 19 = .ok (.aload_n 0, 1) := by decide +kernel
theorem dX6_readHolidays_20 : decode cX6_readHolidays 20 = .ok (.getfield 39, 3) := by decide +kernel
theorem dX6_readHolidays_23 : decode cX6_readHolidays 23 = .ok (.sipush 1001, 3) := by decide +kernel
theorem dX6_readHolidays_26 : decode cX6_readHolidays 26 = .ok (.if_icmp .ne 13, 3) := by decide +kernel
theorem dX6_readHolidays_29 : decode cX6_readHolidays 29 = .ok (.aload_n 0, 1) := by decide +kernel
theorem dX6_readHolidays_30 : decode cX6_readHolidays 30 = .ok (.invokevirtual 73, 3) := by decide +kernel
theorem dX6_readHolidays_33 : decode cX6_readHolidays 33 = .ok (.iinc 1 1, 3) := by decide +kernel
theorem dX6_readHolidays_36 : decode cX6_readHolidays 36 = .ok (.goto (-26), 3) := by decide +kernel
theorem dX6_readHolidays_39 : decode cX6_readHolidays 39 = .ok (.return_, 1) := by decide +kernel
theorem dX6_readHoliday_0 : decode cX6_readHoliday 0 = .ok (.aload_n 0, 1) := by decide +kernel
theorem dX6_readHoliday_1 : decode cX6_readHoliday 1 = .ok (.iconst 0, 1) := by decide +kernel
theorem dX6_readHoliday_2 : decode cX6_readHoliday 2 = .ok (.sipush 999, 3) := by decide +kernel
theorem dX6_readHoliday_5 : decode cX6_readHoliday 5 = .ok (.invokevirtual 78, 3) := by decide +kernel
theorem dX6_readHoliday_8 : decode cX6_readHoliday 8 = .ok (.ifCond .ne 4, 3) := by decide +kernel
theorem dX6_readHoliday_11 : decode cX6_readHoliday 11 = .ok (.return_, 1) := by decide +kernel
theorem dX6_readHoliday_12 : decode cX6_readHoliday 12 = .ok (.aload_n 0, 1) := by decide +kernel
theorem dX6_readHoliday_13 : decode cX6_readHoliday 13 = .ok (.getfield 28, 3) := by decide +kernel
theorem dX6_readHoliday_16 : decode cX6_readHoliday 16 = .ok (.getfield 82, 3) := by decide +kernel
theorem dX6_readHoliday_19 : decode cX6_readHoliday 19 = .ok (.aload_n 0, 1) := by decide +kernel
theorem dX6_readHoliday_20 : decode cX6_readHoliday 20 = .ok (.getfield 86, 3) := by decide +kernel
theorem dX6_readHoliday_23 : decode cX6_readHoliday 23 = .ok (.invokevirtual 89, 3) := by decide +kernel
theorem dX6_readHoliday_26 : decode cX6_readHoliday 26 = .ok (.ifCond .eq 12, 3) := by decide +kernel
theorem dX6_readHoliday_29 : decode cX6_readHoliday 29 = .ok (.aload_n 0, 1) := by decide +kernel
theorem dX6_readHoliday_30 : decode cX6_readHoliday 30 = .ok (.bipush (-3), 2) := by decide +kernel
theorem dX6_readHoliday_32 : decode cX6_readHoliday 32 = .ok (.invokevirtual 65, 3) := by decide +kernel
theorem dX6_readHoliday_35 : decode cX6_readHoliday 35 = .ok (.goto 54, 3) := by decide +kernel
theorem dX6_readHoliday_38 : decode cX6_readHoliday 38 = .ok (.aload_n 0, 1) := by decide +kernel
theorem dX6_readHoliday_39 : decode cX6_readHoliday 39 = .ok (.getfield 28, 3) := by decide +kernel
theorem dX6_readHoliday_42 : decode cX6_readHoliday 42 = .ok (.getfield 82, 3) := by decide +kernel
theorem dX6_readHoliday_45 : decode cX6_readHoliday 45 = .ok (.invokevirtual 93, 3) := by decide +kernel
theorem dX6_readHoliday_48 : decode cX6_readHoliday 48 = .ok (.ifCond .eq 12, 3) := by decide +kernel
theorem dX6_readHoliday_51 : decode cX6_readHoliday 51 = .ok (.aload_n 0, 1) := by decide +kernel
theorem dX6_readHoliday_52 : decode cX6_readHoliday 52 = .ok (.bipush (-4), 2) := by decide +kernel
theorem dX6_readHoliday_54 : decode cX6_readHoliday 54 = .ok (.invokevirtual 65, 3) := by decide +kernel
theorem dX6_readHoliday_57 : decode cX6_readHoliday 57 = .ok (.goto 32, 3) := by decide +kernel
theorem dX6_readHoliday_60 : decode cX6_readHoliday 60 = .ok (.aload_n 0, 1) := by decide +kernel
theorem dX6_readHoliday_61 : decode cX6_readHoliday 61 = .ok (.aload_n 0, 1) := by decide +kernel
theorem dX6_readHoliday_62 : decode cX6_readHoliday 62 = .ok (.getfield 28, 3) := by decide +kernel
theorem dX6_readHoliday_65 : decode cX6_readHoliday 65 = .ok (.aload_n 0, 1) := by decide +kernel
theorem dX6_readHoliday_66 : decode cX6_readHoliday 66 = .ok (.getfield 28, 3) := by decide +kernel
theorem dX6_readHoliday_69 : decode cX6_readHoliday 69 = .ok (.getfield 82, 3) := by decide +kernel
theorem dX6_readHoliday_72 : decode cX6_readHoliday 72 = .ok (.aload_n 0, 1) := by decide +kernel
theorem dX6_readHoliday_73 : decode cX6_readHoliday 73 = .ok (.getfield 86, 3) := by decide +kernel
theorem dX6_readHoliday_76 : decode cX6_readHoliday 76 = .ok (.invokevirtual 97, 3) := by decide +kernel
theorem dX6_readHoliday_79 : decode cX6_readHoliday 79 = .ok (.invokevirtual 101, 3) := by decide +kernel
theorem dX6_readHoliday_82 : decode cX6_readHoliday 82 = .ok (.putfield 28, 3) := by decide +kernel
theorem dX6_readHoliday_85 : decode cX6_readHoliday 85 = .ok (.aload_n 0, 1) := by decide +kernel
theorem dX6_readHoliday_86 : decode cX6_readHoliday 86 = .ok (.invokevirtual 36, 3) := by decide +kernel
theorem dX6_readHoliday_89 : decode cX6_readHoliday 89 = .ok (.return_, 1) := by decide +kernel
theorem dX6_readCredit_0 : decode cX6_readCredit 0 = .ok (.aload_n 0, 1) := by decide +kernel
theorem dX6_readCredit_1 : decode cX6_readCredit 1 = .ok (.getfield 28, 3) := by decide +kernel
theorem dX6_readCredit_4 : decode cX6_readCredit 4 = .ok (.getfield 105, 3) := by decide +kernel
theorem dX6_readCredit_7 : decode cX6_readCredit 7 = .ok (.arraylength, 1) := by decide +kernel
theorem dX6_readCredit_8 : decode cX6_readCredit 8 = .ok (.bipush 12, 2) := by decide +kernel
theorem dX6_readCredit_10 : decode cX6_readCredit 10 = .ok (.if_icmp .lt 10, 3) := by decide +kernel
theorem dX6_readCredit_13 : decode cX6_readCredit 13 = .ok (.aload_n 0, 1) := by decide +kernel
theorem dX6_readCredit_14 : decode cX6_readCredit 14 = .ok (.bipush (-4), 2) := by decide +kernel
theorem dX6_readCredit_16 : decode cX6_readCredit 16 = .ok (.invokevirtual 65, 3) := by decide +kernel
theorem dX6_readCredit_19 : decode cX6_readCredit 19 = .ok (.return_, 1) := by decide +kernel
theorem dX6_readCredit_20 : decode cX6_readCredit 20 = .ok (.aload_n 0, 1) := by decide +kernel
theorem dX6_readCredit_21 : decode cX6_readCredit 21 = .ok (.invokevirtual 36, 3) := by decide +kernel
theorem dX6_readCredit_24 : decode cX6_readCredit 24 = .ok (.new 109, 3) := by decide +kernel
theorem dX6_readCredit_27 : decode cX6_readCredit 27 = .ok (.dup, 1) := by decide +kernel
theorem dX6_readCredit_28 : decode cX6_readCredit 28 = .ok (.aload_n 0, 1) := by decide +kernel
theorem dX6_readCredit_29 : decode cX6_readCredit 29 = .ok (.getfield 28, 3) := by decide +kernel
theorem dX6_readCredit_32 : decode cX6_readCredit 32 = .ok (.getfield 105, 3) := by decide +kernel
theorem dX6_readCredit_35 : decode cX6_readCredit 35 = .ok (.arraylength, 1) := by decide +kernel
theorem dX6_readCredit_36 : decode cX6_readCredit 36 = .ok (.iconst (-1), 1) := by decide +kernel
theorem dX6_readCredit_37 : decode cX6_readCredit 37 = .ok (.invokespecial 111, 3) := by decide +kernel
theorem dX6_readCredit_40 : decode cX6_readCredit 40 = .ok (.astore_n 1, 1) := by decide +kernel
theorem dX6_readCredit_41 : decode cX6_readCredit 41 = .ok (.aload_n 1, 1) := by decide +kernel
theorem dX6_readCredit_42 : decode cX6_readCredit 42 = .ok (.aload_n 0, 1) := by decide +kernel
theorem dX6_readCredit_43 : decode cX6_readCredit 43 = .ok (.iconst 1, 1) := by decide +kernel
theorem dX6_readCredit_44 : decode cX6_readCredit 44 = .ok (.ldc 114, 2) := by decide +kernel
theorem dX6_readCredit_46 : decode cX6_readCredit 46 = .ok (.invokevirtual 115, 3) := by decide +kernel
theorem dX6_readCredit_49 : decode cX6_readCredit 49 = .ok (.putfield 119, 3) := by decide +kernel
theorem dX6_readCredit_52 : decode cX6_readCredit 52 = .ok (.aload_n 1, 1) := by decide +kernel
theorem dX6_readCredit_53 : decode cX6_readCredit 53 = .ok (.aload_n 0, 1) := by decide +kernel
theorem dX6_readCredit_54 : decode cX6_readCredit 54 = .ok (.iconst 0, 1) := by decide +kernel
theorem dX6_readCredit_55 : decode cX6_readCredit 55 = .ok (.bipush 10, 2) := by decide +kernel
theorem dX6_readCredit_57 : decode cX6_readCredit 57 = .ok (.invokevirtual 115, 3) := by decide +kernel
theorem dX6_readCredit_60 : decode cX6_readCredit 60 = .ok (.putfield 122, 3) := by decide +kernel
theorem dX6_readCredit_63 : decode cX6_readCredit 63 = .ok (.aload_n 1, 1) := by decide +kernel
theorem dX6_readCredit_64 : decode cX6_readCredit 64 = .ok (.aload_n 0, 1) := by decide +kernel
theorem dX6_readCredit_65 : decode cX6_readCredit 65 = .ok (.iconst 0, 1) := by decide +kernel
theorem dX6_readCredit_66 : decode cX6_readCredit 66 = .ok (.bipush 10, 2) := by decide +kernel
theorem dX6_readCredit_68 : decode cX6_readCredit 68 = .ok (.invokevirtual 115, 3) := by decide +kernel
theorem dX6_readCredit_71 : decode cX6_readCredit 71 = .ok (.putfield 125, 3) := by decide +kernel
theorem dX6_readCredit_74 : decode cX6_readCredit 74 = .ok (.aload_n 1, 1) := by decide +kernel
theorem dX6_readCredit_75 : decode cX6_readCredit 75 = .ok (.aload_n 0, 1) := by decide +kernel
theorem dX6_readCredit_76 : decode cX6_readCredit 76 = .ok (.iconst 0, 1) := by decide +kernel
theorem dX6_readCredit_77 : decode cX6_readCredit 77 = .ok (.sipush 999, 3) := by decide +kernel
theorem dX6_readCredit_80 : decode cX6_readCredit 80 = .ok (.invokevirtual 115, 3) := by decide +kernel
theorem dX6_readCredit_83 : decode cX6_readCredit 83 = .ok (.putfield 128, 3) := by decide +kernel
theorem dX6_readCredit_86 : decode cX6_readCredit 86 = .ok (.aload_n 1, 1) := by decide +kernel
theorem dX6_readCredit_87 : decode cX6_readCredit 87 = .ok (.aload_n 0, 1) := by decide +kernel
theorem dX6_readCredit_88 : decode cX6_readCredit 88 = .ok (.iconst 0, 1) := by decide +kernel
theorem dX6_readCredit_89 : decode cX6_readCredit 89 = .ok (.sipush 999, 3) := by decide +kernel
theorem dX6_readCredit_92 : decode cX6_readCredit 92 = .ok (.invokevirtual 115, 3) := by decide +kernel
theorem dX6_readCredit_95 : decode cX6_readCredit 95 = .ok (.putfield 131, 3) := by decide +kernel
theorem dX6_readCredit_98 : decode cX6_readCredit 98 = .ok (.aload_n 1, 1) := by decide +kernel
theorem dX6_readCredit_99 : decode cX6_readCredit 99 = .ok (.aload_n 0, 1) := by decide +kernel
theorem dX6_readCredit_100 : decode cX6_readCredit 100 = .ok (.iconst 1, 1) := by decide +kernel
theorem dX6_readCredit_101 : decode cX6_readCredit 101 = .ok (.bipush 60, 2) := by decide +kernel
theorem dX6_readCredit_103 : decode cX6_readCredit 103 = .ok (.invokevirtual 115, 3) := by decide +kernel
theorem dX6_readCredit_106 : decode cX6_readCredit 106 = .ok (.putfield 134, 3) := by decide +kernel
theorem dX6_readCredit_109 : decode cX6_readCredit 109 = .ok (.aload_n 1, 1) := by decide +kernel
theorem dX6_readCredit_110 : decode cX6_readCredit 110 = .ok (.aload_n 0, 1) := by decide +kernel
theorem dX6_readCredit_111 : decode cX6_readCredit 111 = .ok (.iconst 0, 1) := by decide +kernel
theorem dX6_readCredit_112 : decode cX6_readCredit 112 = .ok (.sipush 180, 3) := by decide +kernel
theorem dX6_readCredit_115 : decode cX6_readCredit 115 = .ok (.invokevirtual 115, 3) := by decide +kernel
theorem dX6_readCredit_118 : decode cX6_readCredit 118 = .ok (.putfield 137, 3) := by decide +kernel
theorem dX6_readCredit_121 : decode cX6_readCredit 121 = .ok (.aload_n 1, 1) := by decide +kernel
theorem dX6_readCredit_122 : decode cX6_readCredit 122 = .ok (.aload_n 0, 1) := by decide +kernel
theorem dX6_readCredit_123 : decode cX6_readCredit 123 = .ok (.ldc 140, 2) := by decide +kernel
theorem dX6_readCredit_125 : decode cX6_readCredit 125 = .ok (.invokevirtual 142, 3) := by decide +kernel
theorem dX6_readCredit_128 : decode cX6_readCredit 128 = .ok (.putfield 145, 3) := by decide +kernel
theorem dX6_readCredit_131 : decode cX6_readCredit 131 = .ok (.aload_n 1, 1) := by decide +kernel
theorem dX6_readCredit_132 : decode cX6_readCredit 132 = .ok (.aload_n 0, 1) := by decide +kernel
theorem dX6_readCredit_133 : decode cX6_readCredit 133 = .ok (.ldc 147, 2) := by decide +kernel
theorem dX6_readCredit_135 : decode cX6_readCredit 135 = .ok (.invokevirtual 142, 3) := by decide +kernel
theorem dX6_readCredit_138 : decode cX6_readCredit 138 = .ok (.putfield 149, 3) := by decide +kernel
theorem dX6_readCredit_141 : decode cX6_readCredit 141 = .ok (.aload_n 0, 1) := by decide +kernel
theorem dX6_readCredit_142 : decode cX6_readCredit 142 = .ok (.ldc 151, 2) := by decide +kernel
theorem dX6_readCredit_144 : decode cX6_readCredit 144 = .ok (.invokevirtual 142, 3) := by decide +kernel
theorem dX6_readCredit_147 : decode cX6_readCredit 147 = .ok (.ifCond .eq 11, 3) := by decide +kernel
theorem dX6_readCredit_150 : decode cX6_readCredit 150 = .ok (.aload_n 1, 1) := by decide +kernel
theorem dX6_readCredit_151 : decode cX6_readCredit 151 = .ok (.aload_n 0, 1) := by decide +kernel
theorem dX6_readCredit_152 : decode cX6_readCredit 152 = .ok (.invokevirtual 153, 3) := by decide +kernel
theorem dX6_readCredit_155 : decode cX6_readCredit 155 = .ok (.putfield 157, 3) := by decide +kernel
theorem dX6_readCredit_158 : decode cX6_readCredit 158 = .ok (.aload_n 0, 1) := by decide +kernel
theorem dX6_readCredit_159 : decode cX6_readCredit 159 = .ok (.aload_n 0, 1) := by decide +kernel
theorem dX6_readCredit_160 : decode cX6_readCredit 160 = .ok (.getfield 28, 3) := by decide +kernel
theorem dX6_readCredit_163 : decode cX6_readCredit 163 = .ok (.aload_n 1, 1) := by decide +kernel
theorem dX6_readCredit_164 : decode cX6_readCredit 164 = .ok (.invokevirtual 160, 3) := by decide +kernel
theorem dX6_readCredit_167 : decode cX6_readCredit 167 = .ok (.putfield 28, 3) := by decide +kernel
theorem dX6_readCredit_170 : decode cX6_readCredit 170 = .ok (.return_, 1) := by decide +kernel
theorem dX6_readDocuments_0 : decode cX6_readDocuments 0 = .ok (.aload_n 0, 1) := by decide +kernel
theorem dX6_readDocuments_1 : decode cX6_readDocuments 1 = .ok (.iconst 0, 1) := by decide +kernel
theorem dX6_readDocuments_2 : decode cX6_readDocuments 2 = .ok (.invokevirtual 164, 3) := by decide +kernel
theorem dX6_readDocuments_5 : decode cX6_readDocuments 5 = .ok (.istore_n 1, 1) := by decide +kernel
theorem dX6_readDocuments_6 : decode cX6_readDocuments 6 = .ok (.iconst 0, 1) := by decide +kernel
theorem dX6_readDocuments_7 : decode cX6_readDocuments 7 = .ok (.istore_n 2, 1) := by decide +kernel
theorem dX6_readDocuments_8 : decode cX6_readDocuments 8 = .ok (.iload_n 2, 1) := by decide +kernel
theorem dX6_readDocuments_9 : decode cX6_readDocuments 9 = .ok (.aload_n 0, 1) := by decide +kernel
theorem dX6_readDocuments_10 : decode cX6_readDocuments 10 = .ok (.getfield 9, 3) := by decide +kernel
theorem dX6_readDocuments_13 : decode cX6_readDocuments 13 = .ok (.arraylength, 1) := by decide +kernel
theorem dX6_readDocuments_14 : decode cX6_readDocuments 14 = .ok (.if_icmp .ge 25, 3) := by decide +kernel
theorem dX6_readDocuments_17 : decode cX6_readDocuments 17 = .ok (.aload_n 0, 1) := by decide +kernel
theorem dX6_readDocuments_18 : decode cX6_readDocuments 18 = .ok (.getfield 39, 3) := by decide +kernel
theorem dX6_readDocuments_21 : decode cX6_readDocuments 21 = .ok (.sipush 1001, 3) := by decide +kernel
theorem dX6_readDocuments_24 : decode cX6_readDocuments 24 = .ok (.if_icmp .ne 15, 3) := by decide +kernel
theorem dX6_readDocuments_27 : decode cX6_readDocuments 27 = .ok (.aload_n 0, 1) := by decide +kernel
theorem dX6_readDocuments_28 : decode cX6_readDocuments 28 = .ok (.iload_n 1, 1) := by decide +kernel
theorem dX6_readDocuments_29 : decode cX6_readDocuments 29 = .ok (.invokevirtual 164, 3) := by decide +kernel
theorem dX6_readDocuments_32 : decode cX6_readDocuments 32 = .ok (.istore_n 1, 1) := by decide +kernel
theorem dX6_readDocuments_33 : decode cX6_readDocuments 33 = .ok (.iinc 2 1, 3) := by decide +kernel
theorem dX6_readDocuments_36 : decode cX6_readDocuments 36 = .ok (.goto (-28), 3) := by decide +kernel
theorem dX6_readDocuments_39 : decode cX6_readDocuments 39 = .ok (.iload_n 1, 1) := by decide +kernel
theorem dX6_readDocuments_40 : decode cX6_readDocuments 40 = .ok (.ireturn, 1) := by decide +kernel
theorem dX6_readDocumentInto_0 : decode cX6_readDocumentInto 0 = .ok (.aload_n 0, 1) := by decide +kernel
theorem dX6_readDocumentInto_1 : decode cX6_readDocumentInto 1 = .ok (.iconst 0, 1) := by decide +kernel
theorem dX6_readDocumentInto_2 : decode cX6_readDocumentInto 2 = .ok (.bipush 7, 2) := by decide +kernel
theorem dX6_readDocumentInto_4 : decode cX6_readDocumentInto 4 = .ok (.invokevirtual 78, 3) := by decide +kernel
theorem dX6_readDocumentInto_7 : decode cX6_readDocumentInto 7 = .ok (.ifCond .ne 5, 3) := by decide +kernel
theorem dX6_readDocumentInto_10 : decode cX6_readDocumentInto 10 = .ok (.iload_n 1, 1) := by decide +kernel
theorem dX6_readDocumentInto_11 : decode cX6_readDocumentInto 11 = .ok (.ireturn, 1) := by decide +kernel
theorem dX6_readDocumentInto_12 : decode cX6_readDocumentInto 12 = .ok (.iconst 1, 1) := by decide +kernel
theorem dX6_readDocumentInto_13 : decode cX6_readDocumentInto 13 = .ok (.aload_n 0, 1) := by decide +kernel
theorem dX6_readDocumentInto_14 : decode cX6_readDocumentInto 14 = .ok (.getfield 86, 3) := by decide +kernel
theorem dX6_readDocumentInto_17 : decode cX6_readDocumentInto 17 = .ok (.ishl, 1) := by decide +kernel
theorem dX6_readDocumentInto_18 : decode cX6_readDocumentInto 18 = .ok (.istore_n 2, 1) := by decide +kernel
theorem dX6_readDocumentInto_19 : decode cX6_readDocumentInto 19 = .ok (.iload_n 1, 1) := by decide +kernel
theorem dX6_readDocumentInto_20 : decode cX6_readDocumentInto 20 = .ok (.iload_n 2, 1) := by decide +kernel
theorem dX6_readDocumentInto_21 : decode cX6_readDocumentInto 21 = .ok (.iand, 1) := by decide +kernel
theorem dX6_readDocumentInto_22 : decode cX6_readDocumentInto 22 = .ok (.ifCond .eq 11, 3) := by decide +kernel
theorem dX6_readDocumentInto_25 : decode cX6_readDocumentInto 25 = .ok (.aload_n 0, 1) := by decide +kernel
theorem dX6_readDocumentInto_26 : decode cX6_readDocumentInto 26 = .ok (.bipush (-3), 2) := by decide +kernel
theorem dX6_readDocumentInto_28 : decode cX6_readDocumentInto 28 = .ok (.invokevirtual 65, 3) := by decide +kernel
theorem dX6_readDocumentInto_31 : decode cX6_readDocumentInto 31 = .ok (.iload_n 1, 1) := by decide +kernel
theorem dX6_readDocumentInto_32 : decode cX6_readDocumentInto 32 = .ok (.ireturn, 1) := by decide +kernel
theorem dX6_readDocumentInto_33 : decode cX6_readDocumentInto 33 = .ok (.aload_n 0, 1) := by decide +kernel
theorem dX6_readDocumentInto_34 : decode cX6_readDocumentInto 34 = .ok (.invokevirtual 36, 3) := by decide +kernel
theorem dX6_readDocumentInto_37 : decode cX6_readDocumentInto 37 = .ok (.iload_n 1, 1) := by decide +kernel
theorem dX6_readDocumentInto_38 : decode cX6_readDocumentInto 38 = .ok (.iload_n 2, 1) := by decide +kernel
theorem dX6_readDocumentInto_39 : decode cX6_readDocumentInto 39 = .ok (.ior, 1) := by decide +kernel
theorem dX6_readDocumentInto_40 : decode cX6_readDocumentInto 40 = .ok (.ireturn, 1) := by decide +kernel
theorem dX6_readFee_0 : decode cX6_readFee 0 = .ok (.aload_n 0, 1) := by decide +kernel
theorem dX6_readFee_1 : decode cX6_readFee 1 = .ok (.iconst 1, 1) := by decide +kernel
theorem dX6_readFee_2 : decode cX6_readFee 2 = .ok (.putfield 58, 3) := by decide +kernel
theorem dX6_readFee_5 : decode cX6_readFee 5 = .ok (.aload_n 0, 1) := by decide +kernel
theorem dX6_readFee_6 : decode cX6_readFee 6 = .ok (.aload_n 0, 1) := by decide +kernel
theorem dX6_readFee_7 : decode cX6_readFee 7 = .ok (.getfield 9, 3) := by decide +kernel
theorem dX6_readFee_10 : decode cX6_readFee 10 = .ok (.arraylength, 1) := by decide +kernel
theorem dX6_readFee_11 : decode cX6_readFee 11 = .ok (.newarray .int, 2) := by decide +kernel
theorem dX6_readFee_13 : decode cX6_readFee 13 = .ok (.putfield 32, 3) := by decide +kernel
theorem dX6_readFee_16 : decode cX6_readFee 16 = .ok (.aload_n 0, 1) := by decide +kernel
theorem dX6_readFee_17 : decode cX6_readFee 17 = .ok (.invokevirtual 36, 3) := by decide +kernel
theorem dX6_readFee_20 : decode cX6_readFee 20 = .ok (.aload_n 0, 1) := by decide +kernel
theorem dX6_readFee_21 : decode cX6_readFee 21 = .ok (.iconst 0, 1) := by decide +kernel
theorem dX6_readFee_22 : decode cX6_readFee 22 = .ok (.invokevirtual 168, 3) := by decide +kernel
theorem dX6_readFee_25 : decode cX6_readFee 25 = .ok (.aload_n 0, 1) := by decide +kernel
theorem dX6_readFee_26 : decode cX6_readFee 26 = .ok (.aload_n 0, 1) := by decide +kernel
theorem dX6_readFee_27 : decode cX6_readFee 27 = .ok (.getfield 28, 3) := by decide +kernel
theorem dX6_readFee_30 : decode cX6_readFee 30 = .ok (.new 171, 3) := by decide +kernel
theorem dX6_readFee_33 : decode cX6_readFee 33 = .ok (.dup, 1) := by decide +kernel
theorem dX6_readFee_34 : decode cX6_readFee 34 = .ok (.aload_n 0, 1) := by decide +kernel
theorem dX6_readFee_35 : decode cX6_readFee 35 = .ok (.getfield 32, 3) := by decide +kernel
theorem dX6_readFee_38 : decode cX6_readFee 38 = .ok (.aload_n 0, 1) := by decide +kernel
theorem dX6_readFee_39 : decode cX6_readFee 39 = .ok (.getfield 173, 3) := by decide +kernel
theorem dX6_readFee_42 : decode cX6_readFee 42 = .ok (.invokestatic 176, 3) := by decide +kernel
theorem dX6_readFee_45 : decode cX6_readFee 45 = .ok (.invokespecial 182, 3) := by decide +kernel
theorem dX6_readFee_48 : decode cX6_readFee 48 = .ok (.invokevirtual 185, 3) := by decide +kernel
theorem dX6_readFee_51 : decode cX6_readFee 51 = .ok (.putfield 28, 3) := by decide +kernel
theorem dX6_readFee_54 : decode cX6_readFee 54 = .ok (.return_, 1) := by decide +kernel
theorem dX6_readSum_0 : decode cX6_readSum 0 = .ok (.aload_n 0, 1) := by decide +kernel
theorem dX6_readSum_1 : decode cX6_readSum 1 = .ok (.iload_n 1, 1) := by decide +kernel
theorem dX6_readSum_2 : decode cX6_readSum 2 = .ok (.invokevirtual 189, 3) := by decide +kernel
theorem dX6_readSum_5 : decode cX6_readSum 5 = .ok (.iconst 0, 1) := by decide +kernel
theorem dX6_readSum_6 : decode cX6_readSum 6 = .ok (.istore_n 2, 1) := by decide +kernel
theorem dX6_readSum_7 : decode cX6_readSum 7 = .ok (.iload_n 2, 1) := by decide +kernel
theorem dX6_readSum_8 : decode cX6_readSum 8 = .ok (.aload_n 0, 1) := by decide +kernel
theorem dX6_readSum_9 : decode cX6_readSum 9 = .ok (.getfield 9, 3) := by decide +kernel
theorem dX6_readSum_12 : decode cX6_readSum 12 = .ok (.arraylength, 1) := by decide +kernel
theorem dX6_readSum_13 : decode cX6_readSum 13 = .ok (.if_icmp .ge 58, 3) := by decide +kernel
theorem dX6_readSum_16 : decode cX6_readSum 16 = .ok (.aload_n 0, 1) := by decide +kernel
theorem dX6_readSum_17 : decode cX6_readSum 17 = .ok (.getfield 39, 3) := by decide +kernel
theorem dX6_readSum_20 : decode cX6_readSum 20 = .ok (.bipush 43, 2) := by decide +kernel
theorem dX6_readSum_22 : decode cX6_readSum 22 = .ok (.if_icmp .eq 12, 3) := by decide +kernel
theorem dX6_readSum_25 : decode cX6_readSum 25 = .ok (.aload_n 0, 1) := by decide +kernel
theorem dX6_readSum_26 : decode cX6_readSum 26 = .ok (.getfield 39, 3) := by decide +kernel
theorem dX6_readSum_29 : decode cX6_readSum 29 = .ok (.bipush 45, 2) := by decide +kernel
theorem dX6_readSum_31 : decode cX6_readSum 31 = .ok (.if_icmp .ne 40, 3) := by decide +kernel
theorem dX6_readSum_34 : decode cX6_readSum 34 = .ok (.aload_n 0, 1) := by decide +kernel
theorem dX6_readSum_35 : decode cX6_readSum 35 = .ok (.getfield 39, 3) := by decide +kernel
theorem dX6_readSum_38 : decode cX6_readSum 38 = .ok (.bipush 43, 2) := by decide +kernel
theorem dX6_readSum_40 : decode cX6_readSum 40 = .ok (.if_icmp .ne 8, 3) := by decide +kernel
theorem dX6_readSum_43 : decode cX6_readSum 43 = .ok (.bipush (-4), 2) := by decide +kernel
theorem dX6_readSum_45 : decode cX6_readSum 45 = .ok (.goto 5, 3) := by decide +kernel
theorem dX6_readSum_48 : decode cX6_readSum 48 = .ok (.bipush (-5), 2) := by decide +kernel
theorem dX6_readSum_50 : decode cX6_readSum 50 = .ok (.istore_n 3, 1) := by decide +kernel
theorem dX6_readSum_51 : decode cX6_readSum 51 = .ok (.aload_n 0, 1) := by decide +kernel
theorem dX6_readSum_52 : decode cX6_readSum 52 = .ok (.invokevirtual 36, 3) := by decide +kernel
theorem dX6_readSum_55 : decode cX6_readSum 55 = .ok (.aload_n 0, 1) := by decide +kernel
theorem dX6_readSum_56 : decode cX6_readSum 56 = .ok (.iload_n 1, 1) := by decide +kernel
theorem dX6_readSum_57 : decode cX6_readSum 57 = .ok (.invokevirtual 189, 3) := by decide +kernel
theorem dX6_readSum_60 : decode cX6_readSum 60 = .ok (.aload_n 0, 1) := by decide +kernel
theorem dX6_readSum_61 : decode cX6_readSum 61 = .ok (.iload_n 3, 1) := by decide +kernel
theorem dX6_readSum_62 : decode cX6_readSum 62 = .ok (.invokevirtual 192, 3) := by decide +kernel
theorem dX6_readSum_65 : decode cX6_readSum 65 = .ok (.iinc 2 1, 3) := by decide +kernel
theorem dX6_readSum_68 : decode cX6_readSum 68 = .ok (.goto (-61), 3) := by decide +kernel
theorem dX6_readSum_71 : decode cX6_readSum 71 = .ok (.return_, 1) := by decide +kernel
theorem dX6_readTerm_0 : decode cX6_readTerm 0 = .ok (.aload_n 0, 1) := by decide +kernel
theorem dX6_readTerm_1 : decode cX6_readTerm 1 = .ok (.iload_n 1, 1) := by decide +kernel
theorem dX6_readTerm_2 : decode cX6_readTerm 2 = .ok (.invokevirtual 195, 3) := by decide +kernel
theorem dX6_readTerm_5 : decode cX6_readTerm 5 = .ok (.iconst 0, 1) := by decide +kernel
theorem dX6_readTerm_6 : decode cX6_readTerm 6 = .ok (.istore_n 2, 1) := by decide +kernel
theorem dX6_readTerm_7 : decode cX6_readTerm 7 = .ok (.iload_n 2, 1) := by decide +kernel
theorem dX6_readTerm_8 : decode cX6_readTerm 8 = .ok (.aload_n 0, 1) := by decide +kernel
theorem dX6_readTerm_9 : decode cX6_readTerm 9 = .ok (.getfield 9, 3) := by decide +kernel
theorem dX6_readTerm_12 : decode cX6_readTerm 12 = .ok (.arraylength, 1) := by decide +kernel
theorem dX6_readTerm_13 : decode cX6_readTerm 13 = .ok (.if_icmp .ge 58, 3) := by decide +kernel
theorem dX6_readTerm_16 : decode cX6_readTerm 16 = .ok (.aload_n 0, 1) := by decide +kernel
theorem dX6_readTerm_17 : decode cX6_readTerm 17 = .ok (.getfield 39, 3) := by decide +kernel
theorem dX6_readTerm_20 : decode cX6_readTerm 20 = .ok (.bipush 42, 2) := by decide +kernel
theorem dX6_readTerm_22 : decode cX6_readTerm 22 = .ok (.if_icmp .eq 12, 3) := by decide +kernel
theorem dX6_readTerm_25 : decode cX6_readTerm 25 = .ok (.aload_n 0, 1) := by decide +kernel
theorem dX6_readTerm_26 : decode cX6_readTerm 26 = .ok (.getfield 39, 3) := by decide +kernel
theorem dX6_readTerm_29 : decode cX6_readTerm 29 = .ok (.bipush 47, 2) := by decide +kernel
theorem dX6_readTerm_31 : decode cX6_readTerm 31 = .ok (.if_icmp .ne 40, 3) := by decide +kernel
theorem dX6_readTerm_34 : decode cX6_readTerm 34 = .ok (.aload_n 0, 1) := by decide +kernel
theorem dX6_readTerm_35 : decode cX6_readTerm 35 = .ok (.getfield 39, 3) := by decide +kernel
theorem dX6_readTerm_38 : decode cX6_readTerm 38 = .ok (.bipush 42, 2) := by decide +kernel
theorem dX6_readTerm_40 : decode cX6_readTerm 40 = .ok (.if_icmp .ne 8, 3) := by decide +kernel
theorem dX6_readTerm_43 : decode cX6_readTerm 43 = .ok (.bipush (-6), 2) := by decide +kernel
theorem dX6_readTerm_45 : decode cX6_readTerm 45 = .ok (.goto 5, 3) := by decide +kernel
theorem dX6_readTerm_48 : decode cX6_readTerm 48 = .ok (.bipush (-7), 2) := by decide +kernel
theorem dX6_readTerm_50 : decode cX6_readTerm 50 = .ok (.istore_n 3, 1) := by decide +kernel
theorem dX6_readTerm_51 : decode cX6_readTerm 51 = .ok (.aload_n 0, 1) := by decide +kernel
theorem dX6_readTerm_52 : decode cX6_readTerm 52 = .ok (.invokevirtual 36, 3) := by decide +kernel
theorem dX6_readTerm_55 : decode cX6_readTerm 55 = .ok (.aload_n 0, 1) := by decide +kernel
theorem dX6_readTerm_56 : decode cX6_readTerm 56 = .ok (.iload_n 1, 1) := by decide +kernel
theorem dX6_readTerm_57 : decode cX6_readTerm 57 = .ok (.invokevirtual 195, 3) := by decide +kernel
theorem dX6_readTerm_60 : decode cX6_readTerm 60 = .ok (.aload_n 0, 1) := by decide +kernel
theorem dX6_readTerm_61 : decode cX6_readTerm 61 = .ok (.iload_n 3, 1) := by decide +kernel
theorem dX6_readTerm_62 : decode cX6_readTerm 62 = .ok (.invokevirtual 192, 3) := by decide +kernel
theorem dX6_readTerm_65 : decode cX6_readTerm 65 = .ok (.iinc 2 1, 3) := by decide +kernel
theorem dX6_readTerm_68 : decode cX6_readTerm 68 = .ok (.goto (-61), 3) := by decide +kernel
theorem dX6_readTerm_71 : decode cX6_readTerm 71 = .ok (.return_, 1) := by decide +kernel
theorem dX6_readFactor_0 : decode cX6_readFactor 0 = .ok (.aload_n 0, 1) := by decide +kernel
theorem dX6_readFactor_1 : decode cX6_readFactor 1 = .ok (.getfield 39, 3) := by decide +kernel
theorem dX6_readFactor_4 : decode cX6_readFactor 4 = .ok (.sipush 1001, 3) := by decide +kernel
theorem dX6_readFactor_7 : decode cX6_readFactor 7 = .ok (.if_icmp .ne 18, 3) := by decide +kernel
theorem dX6_readFactor_10 : decode cX6_readFactor 10 = .ok (.aload_n 0, 1) := by decide +kernel
theorem dX6_readFactor_11 : decode cX6_readFactor 11 = .ok (.aload_n 0, 1) := by decide +kernel
theorem dX6_readFactor_12 : decode cX6_readFactor 12 = .ok (.iconst 0, 1) := by decide +kernel
theorem dX6_readFactor_13 : decode cX6_readFactor 13 = .ok (.sipush 9999, 3) := by decide +kernel
theorem dX6_readFactor_16 : decode cX6_readFactor 16 = .ok (.invokevirtual 115, 3) := by decide +kernel
theorem dX6_readFactor_19 : decode cX6_readFactor 19 = .ok (.invokevirtual 192, 3) := by decide +kernel
theorem dX6_readFactor_22 : decode cX6_readFactor 22 = .ok (.goto 79, 3) := by decide +kernel
theorem dX6_readFactor_25 : decode cX6_readFactor 25 = .ok (.aload_n 0, 1) := by decide +kernel
theorem dX6_readFactor_26 : decode cX6_readFactor 26 = .ok (.ldc 198, 2) := by decide +kernel
theorem dX6_readFactor_28 : decode cX6_readFactor 28 = .ok (.invokevirtual 142, 3) := by decide +kernel
theorem dX6_readFactor_31 : decode cX6_readFactor 31 = .ok (.ifCond .eq 11, 3) := by decide +kernel
theorem dX6_readFactor_34 : decode cX6_readFactor 34 = .ok (.aload_n 0, 1) := by decide +kernel
theorem dX6_readFactor_35 : decode cX6_readFactor 35 = .ok (.iconst (-1), 1) := by decide +kernel
theorem dX6_readFactor_36 : decode cX6_readFactor 36 = .ok (.invokevirtual 192, 3) := by decide +kernel
theorem dX6_readFactor_39 : decode cX6_readFactor 39 = .ok (.goto 62, 3) := by decide +kernel
theorem dX6_readFactor_42 : decode cX6_readFactor 42 = .ok (.aload_n 0, 1) := by decide +kernel
theorem dX6_readFactor_43 : decode cX6_readFactor 43 = .ok (.ldc 199, 2) := by decide +kernel
theorem dX6_readFactor_45 : decode cX6_readFactor 45 = .ok (.invokevirtual 142, 3) := by decide +kernel
theorem dX6_readFactor_48 : decode cX6_readFactor 48 = .ok (.ifCond .eq 12, 3) := by decide +kernel
theorem dX6_readFactor_51 : decode cX6_readFactor 51 = .ok (.aload_n 0, 1) := by decide +kernel
theorem dX6_readFactor_52 : decode cX6_readFactor 52 = .ok (.bipush (-2), 2) := by decide +kernel
theorem dX6_readFactor_54 : decode cX6_readFactor 54 = .ok (.invokevirtual 192, 3) := by decide +kernel
theorem dX6_readFactor_57 : decode cX6_readFactor 57 = .ok (.goto 44, 3) := by decide +kernel
theorem dX6_readFactor_60 : decode cX6_readFactor 60 = .ok (.aload_n 0, 1) := by decide +kernel
theorem dX6_readFactor_61 : decode cX6_readFactor 61 = .ok (.ldc 201, 2) := by decide +kernel
theorem dX6_readFactor_63 : decode cX6_readFactor 63 = .ok (.invokevirtual 142, 3) := by decide +kernel
theorem dX6_readFactor_66 : decode cX6_readFactor 66 = .ok (.ifCond .eq 12, 3) := by decide +kernel
theorem dX6_readFactor_69 : decode cX6_readFactor 69 = .ok (.aload_n 0, 1) := by decide +kernel
theorem dX6_readFactor_70 : decode cX6_readFactor 70 = .ok (.bipush (-3), 2) := by decide +kernel
theorem dX6_readFactor_72 : decode cX6_readFactor 72 = .ok (.invokevirtual 192, 3) := by decide +kernel
theorem dX6_readFactor_75 : decode cX6_readFactor 75 = .ok (.goto 26, 3) := by decide +kernel
theorem dX6_readFactor_78 : decode cX6_readFactor 78 = .ok (.aload_n 0, 1) := by decide +kernel
theorem dX6_readFactor_79 : decode cX6_readFactor 79 = .ok (.getfield 39, 3) := by decide +kernel
theorem dX6_readFactor_82 : decode cX6_readFactor 82 = .ok (.bipush 40, 2) := by decide +kernel
theorem dX6_readFactor_84 : decode cX6_readFactor 84 = .ok (.if_icmp .ne 11, 3) := by decide +kernel
theorem dX6_readFactor_87 : decode cX6_readFactor 87 = .ok (.aload_n 0, 1) := by decide +kernel
theorem dX6_readFactor_88 : decode cX6_readFactor 88 = .ok (.iload_n 1, 1) := by decide +kernel
theorem dX6_readFactor_89 : decode cX6_readFactor 89 = .ok (.invokevirtual 203, 3) := by decide +kernel
theorem dX6_readFactor_92 : decode cX6_readFactor 92 = .ok (.goto 9, 3) := by decide +kernel
theorem dX6_readFactor_95 : decode cX6_readFactor 95 = .ok (.aload_n 0, 1) := by decide +kernel
theorem dX6_readFactor_96 : decode cX6_readFactor 96 = .ok (.bipush (-2), 2) := by decide +kernel
theorem dX6_readFactor_98 : decode cX6_readFactor 98 = .ok (.invokevirtual 65, 3) := by decide +kernel
theorem dX6_readFactor_101 : decode cX6_readFactor 101 = .ok (.return_, 1) := by decide +kernel
theorem dX6_readParentheses_0 : decode cX6_readParentheses 0 = .ok (.iload_n 1, 1) := by decide +kernel
theorem dX6_readParentheses_1 : decode cX6_readParentheses 1 = .ok (.iconst 4, 1) := by decide +kernel
theorem dX6_readParentheses_2 : decode cX6_readParentheses 2 = .ok (.if_icmp .lt 10, 3) := by decide +kernel
theorem dX6_readParentheses_5 : decode cX6_readParentheses 5 = .ok (.aload_n 0, 1) := by decide +kernel
theorem dX6_readParentheses_6 : decode cX6_readParentheses 6 = .ok (.bipush (-5), 2) := by decide +kernel
theorem dX6_readParentheses_8 : decode cX6_readParentheses 8 = .ok (.invokevirtual 65, 3) := by decide +kernel
theorem dX6_readParentheses_11 : decode cX6_readParentheses 11 = .ok (.return_, 1) := by decide +kernel
theorem dX6_readParentheses_12 : decode cX6_readParentheses 12 = .ok (.aload_n 0, 1) := by decide +kernel
theorem dX6_readParentheses_13 : decode cX6_readParentheses 13 = .ok (.invokevirtual 36, 3) := by decide +kernel
theorem dX6_readParentheses_16 : decode cX6_readParentheses 16 = .ok (.aload_n 0, 1) := by decide +kernel
theorem dX6_readParentheses_17 : decode cX6_readParentheses 17 = .ok (.iload_n 1, 1) := by decide +kernel
theorem dX6_readParentheses_18 : decode cX6_readParentheses 18 = .ok (.iconst 1, 1) := by decide +kernel
theorem dX6_readParentheses_19 : decode cX6_readParentheses 19 = .ok (.iadd, 1) := by decide +kernel
theorem dX6_readParentheses_20 : decode cX6_readParentheses 20 = .ok (.invokevirtual 168, 3) := by decide +kernel
theorem dX6_readParentheses_23 : decode cX6_readParentheses 23 = .ok (.aload_n 0, 1) := by decide +kernel
theorem dX6_readParentheses_24 : decode cX6_readParentheses 24 = .ok (.bipush 41, 2) := by decide +kernel
theorem dX6_readParentheses_26 : decode cX6_readParentheses 26 = .ok (.invokevirtual 69, 3) := by decide +kernel
theorem dX6_readParentheses_29 : decode cX6_readParentheses 29 = .ok (.return_, 1) := by decide +kernel
theorem dX6_addFeeStep_0 : decode cX6_addFeeStep 0 = .ok (.aload_n 0, 1) := by decide +kernel
theorem dX6_addFeeStep_1 : decode cX6_addFeeStep 1 = .ok (.getfield 173, 3) := by decide +kernel
theorem dX6_addFeeStep_4 : decode cX6_addFeeStep 4 = .ok (.ifCond .lt 35, 3) := by decide +kernel
theorem dX6_addFeeStep_7 : decode cX6_addFeeStep 7 = .ok (.aload_n 0, 1) := by decide +kernel
theorem dX6_addFeeStep_8 : decode cX6_addFeeStep 8 = .ok (.getfield 173, 3) := by decide +kernel
theorem dX6_addFeeStep_11 : decode cX6_addFeeStep 11 = .ok (.aload_n 0, 1) := by decide +kernel
theorem dX6_addFeeStep_12 : decode cX6_addFeeStep 12 = .ok (.getfield 32, 3) := by decide +kernel
theorem dX6_addFeeStep_15 : decode cX6_addFeeStep 15 = .ok (.arraylength, 1) := by decide +kernel
theorem dX6_addFeeStep_16 : decode cX6_addFeeStep 16 = .ok (.if_icmp .ge 23, 3) := by decide +kernel
theorem dX6_addFeeStep_19 : decode cX6_addFeeStep 19 = .ok (.aload_n 0, 1) := by decide +kernel
theorem dX6_addFeeStep_20 : decode cX6_addFeeStep 20 = .ok (.getfield 32, 3) := by decide +kernel
theorem dX6_addFeeStep_23 : decode cX6_addFeeStep 23 = .ok (.aload_n 0, 1) := by decide +kernel
theorem dX6_addFeeStep_24 : decode cX6_addFeeStep 24 = .ok (.getfield 173, 3) := by decide +kernel
theorem dX6_addFeeStep_27 : decode cX6_addFeeStep 27 = .ok (.iload_n 1, 1) := by decide +kernel
theorem dX6_addFeeStep_28 : decode cX6_addFeeStep 28 = .ok (.iastore, 1) := by decide +kernel
theorem dX6_addFeeStep_29 : decode cX6_addFeeStep 29 = .ok (.aload_n 0, 1) := by decide +kernel
theorem dX6_addFeeStep_30 : decode cX6_addFeeStep 30 = .ok (.dup, 1) := by decide +kernel
theorem dX6_addFeeStep_31 : decode cX6_addFeeStep 31 = .ok (.getfield 173, 3) := by decide +kernel
theorem dX6_addFeeStep_34 : decode cX6_addFeeStep 34 = .ok (.iconst 1, 1) := by decide +kernel
theorem dX6_addFeeStep_35 : decode cX6_addFeeStep 35 = .ok (.iadd, 1) := by decide +kernel
theorem dX6_addFeeStep_36 : decode cX6_addFeeStep 36 = .ok (.putfield 173, 3) := by decide +kernel
theorem dX6_addFeeStep_39 : decode cX6_addFeeStep 39 = .ok (.return_, 1) := by decide +kernel
theorem dX6_isNumberFrom_0 : decode cX6_isNumberFrom 0 = .ok (.aload_n 0, 1) := by decide +kernel
theorem dX6_isNumberFrom_1 : decode cX6_isNumberFrom 1 = .ok (.getfield 39, 3) := by decide +kernel
theorem dX6_isNumberFrom_4 : decode cX6_isNumberFrom 4 = .ok (.sipush 1001, 3) := by decide +kernel
theorem dX6_isNumberFrom_7 : decode cX6_isNumberFrom 7 = .ok (.if_icmp .eq 11, 3) := by decide +kernel
theorem dX6_isNumberFrom_10 : decode cX6_isNumberFrom 10 = .ok (.aload_n 0, 1) := by decide +kernel
theorem dX6_isNumberFrom_11 : decode cX6_isNumberFrom 11 = .ok (.bipush (-2), 2) := by decide +kernel
theorem dX6_isNumberFrom_13 : decode cX6_isNumberFrom 13 = .ok (.invokevirtual 65, 3) := by decide +kernel
theorem dX6_isNumberFrom_16 : decode cX6_isNumberFrom 16 = .ok (.iconst 0, 1) := by decide +kernel
theorem dX6_isNumberFrom_17 : decode cX6_isNumberFrom 17 = .ok (.ireturn, 1) := by decide +kernel
theorem dX6_isNumberFrom_18 : decode cX6_isNumberFrom 18 = .ok (.aload_n 0, 1) := by decide +kernel
theorem dX6_isNumberFrom_19 : decode cX6_isNumberFrom 19 = .ok (.getfield 86, 3) := by decide +kernel
theorem dX6_isNumberFrom_22 : decode cX6_isNumberFrom 22 = .ok (.iload_n 1, 1) := by decide +kernel
theorem dX6_isNumberFrom_23 : decode cX6_isNumberFrom 23 = .ok (.if_icmp .lt 11, 3) := by decide +kernel
theorem dX6_isNumberFrom_26 : decode cX6_isNumberFrom 26 = .ok (.aload_n 0, 1) := by decide +kernel
theorem dX6_isNumberFrom_27 : decode cX6_isNumberFrom 27 = .ok (.getfield 86, 3) := by decide +kernel
theorem dX6_isNumberFrom_30 : decode cX6_isNumberFrom 30 = .ok (.iload_n 2, 1) := by decide +kernel
theorem dX6_isNumberFrom_31 : decode cX6_isNumberFrom 31 = .ok (.if_icmp .le 11, 3) := by decide +kernel
theorem dX6_isNumberFrom_34 : decode cX6_isNumberFrom 34 = .ok (.aload_n 0, 1) := by decide +kernel
theorem dX6_isNumberFrom_35 : decode cX6_isNumberFrom 35 = .ok (.bipush (-3), 2) := by decide +kernel
theorem dX6_isNumberFrom_37 : decode cX6_isNumberFrom 37 = .ok (.invokevirtual 65, 3) := by decide +kernel
theorem dX6_isNumberFrom_40 : decode cX6_isNumberFrom 40 = .ok (.iconst 0, 1) := by decide +kernel
theorem dX6_isNumberFrom_41 : decode cX6_isNumberFrom 41 = .ok (.ireturn, 1) := by decide +kernel
theorem dX6_isNumberFrom_42 : decode cX6_isNumberFrom 42 = .ok (.iconst 1, 1) := by decide +kernel
theorem dX6_isNumberFrom_43 : decode cX6_isNumberFrom 43 = .ok (.ireturn, 1) := by decide +kernel
theorem dX6_readNumber_0 : decode cX6_readNumber 0 = .ok (.aload_n 0, 1) := by decide +kernel
theorem dX6_readNumber_1 : decode cX6_readNumber 1 = .ok (.iload_n 1, 1) := by decide +kernel
theorem dX6_readNumber_2 : decode cX6_readNumber 2 = .ok (.iload_n 2, 1) := by decide +kernel
theorem dX6_readNumber_3 : decode cX6_readNumber 3 = .ok (.invokevirtual 78, 3) := by decide +kernel
theorem dX6_readNumber_6 : decode cX6_readNumber 6 = .ok (.ifCond .ne 5, 3) := by decide +kernel
theorem dX6_readNumber_9 : decode cX6_readNumber 9 = .ok (.iload_n 1, 1) := by decide +kernel
theorem dX6_readNumber_10 : decode cX6_readNumber 10 = .ok (.ireturn, 1) := by decide +kernel
theorem dX6_readNumber_11 : decode cX6_readNumber 11 = .ok (.aload_n 0, 1) := by decide +kernel
theorem dX6_readNumber_12 : decode cX6_readNumber 12 = .ok (.getfield 86, 3) := by decide +kernel
theorem dX6_readNumber_15 : decode cX6_readNumber 15 = .ok (.istore_n 3, 1) := by decide +kernel
theorem dX6_readNumber_16 : decode cX6_readNumber 16 = .ok (.aload_n 0, 1) := by decide +kernel
theorem dX6_readNumber_17 : decode cX6_readNumber 17 = .ok (.invokevirtual 36, 3) := by decide +kernel
theorem dX6_readNumber_20 : decode cX6_readNumber 20 = .ok (.iload_n 3, 1) := by decide +kernel
theorem dX6_readNumber_21 : decode cX6_readNumber 21 = .ok (.ireturn, 1) := by decide +kernel
theorem dX6_tookWord_0 : decode cX6_tookWord 0 = .ok (.aload_n 0, 1) := by decide +kernel
theorem dX6_tookWord_1 : decode cX6_tookWord 1 = .ok (.aload_n 1, 1) := by decide +kernel
theorem dX6_tookWord_2 : decode cX6_tookWord 2 = .ok (.invokevirtual 44, 3) := by decide +kernel
theorem dX6_tookWord_5 : decode cX6_tookWord 5 = .ok (.ifCond .ne 5, 3) := by decide +kernel
theorem dX6_tookWord_8 : decode cX6_tookWord 8 = .ok (.iconst 0, 1) := by decide +kernel
theorem dX6_tookWord_9 : decode cX6_tookWord 9 = .ok (.ireturn, 1) := by decide +kernel
theorem dX6_tookWord_10 : decode cX6_tookWord 10 = .ok (.aload_n 0, 1) := by decide +kernel
theorem dX6_tookWord_11 : decode cX6_tookWord 11 = .ok (.invokevirtual 36, 3) := by decide +kernel
theorem dX6_tookWord_14 : decode cX6_tookWord 14 = .ok (.iconst 1, 1) := by decide +kernel
theorem dX6_tookWord_15 : decode cX6_tookWord 15 = .ok (.ireturn, 1) := by decide +kernel
theorem dX6_isWord_0 : decode cX6_isWord 0 = .ok (.aload_n 0, 1) := by decide +kernel
theorem dX6_isWord_1 : decode cX6_isWord 1 = .ok (.getfield 39, 3) := by decide +kernel
theorem dX6_isWord_4 : decode cX6_isWord 4 = .ok (.sipush 1002, 3) := by decide +kernel
theorem dX6_isWord_7 : decode cX6_isWord 7 = .ok (.if_icmp .ne 19, 3) := by decide +kernel
theorem dX6_isWord_10 : decode cX6_isWord 10 = .ok (.aload_n 0, 1) := by decide +kernel
theorem dX6_isWord_11 : decode cX6_isWord 11 = .ok (.getfield 206, 3) := by decide +kernel
theorem dX6_isWord_14 : decode cX6_isWord 14 = .ok (.aload_n 0, 1) := by decide +kernel
theorem dX6_isWord_15 : decode cX6_isWord 15 = .ok (.getfield 209, 3) := by decide +kernel
theorem dX6_isWord_18 : decode cX6_isWord 18 = .ok (.isub, 1) := by decide +kernel
theorem dX6_isWord_19 : decode cX6_isWord 19 = .ok (.aload_n 1, 1) := by decide +kernel
theorem dX6_isWord_20 : decode cX6_isWord 20 = .ok (.invokevirtual 212, 3) := by decide +kernel
theorem dX6_isWord_23 : decode cX6_isWord 23 = .ok (.if_icmp .eq 5, 3) := by decide +kernel
theorem dX6_isWord_26 : decode cX6_isWord 26 = .ok (.iconst 0, 1) := by decide +kernel
theorem dX6_isWord_27 : decode cX6_isWord 27 = .ok (.ireturn, 1) := by decide +kernel
theorem dX6_isWord_28 : decode cX6_isWord 28 = .ok (.iconst 0, 1) := by decide +kernel
theorem dX6_isWord_29 : decode cX6_isWord 29 = .ok (.istore_n 2, 1) := by decide +kernel
theorem dX6_isWord_30 : decode cX6_isWord 30 = .ok (.iload_n 2, 1) := by decide +kernel
theorem dX6_isWord_31 : decode cX6_isWord 31 = .ok (.aload_n 1, 1) := by decide +kernel
theorem dX6_isWord_32 : decode cX6_isWord 32 = .ok (.invokevirtual 212, 3) := by decide +kernel
theorem dX6_isWord_35 : decode cX6_isWord 35 = .ok (.if_icmp .ge 45, 3) := by decide +kernel
theorem dX6_isWord_38 : decode cX6_isWord 38 = .ok (.aload_n 0, 1) := by decide +kernel
theorem dX6_isWord_39 : decode cX6_isWord 39 = .ok (.getfield 209, 3) := by decide +kernel
theorem dX6_isWord_42 : decode cX6_isWord 42 = .ok (.iload_n 2, 1) := by decide +kernel
theorem dX6_isWord_43 : decode cX6_isWord 43 = .ok (.iadd, 1) := by decide +kernel
theorem dX6_isWord_44 : decode cX6_isWord 44 = .ok (.istore_n 3, 1) := by decide +kernel
theorem dX6_isWord_45 : decode cX6_isWord 45 = .ok (.iload_n 3, 1) := by decide +kernel
theorem dX6_isWord_46 : decode cX6_isWord 46 = .ok (.ifCond .lt 26, 3) := by decide +kernel
theorem dX6_isWord_49 : decode cX6_isWord 49 = .ok (.iload_n 3, 1) := by decide +kernel
theorem dX6_isWord_50 : decode cX6_isWord 50 = .ok (.aload_n 0, 1) := by decide +kernel
theorem dX6_isWord_51 : decode cX6_isWord 51 = .ok (.getfield 9, 3) := by decide +kernel
theorem dX6_isWord_54 : decode cX6_isWord 54 = .ok (.arraylength, 1) := by decide +kernel
theorem dX6_isWord_55 : decode cX6_isWord 55 = .ok (.if_icmp .ge 17, 3) := by decide +kernel
theorem dX6_isWord_58 : decode cX6_isWord 58 = .ok (.aload_n 0, 1) := by decide +kernel
theorem dX6_isWord_59 : decode cX6_isWord 59 = .ok (.getfield 9, 3) := by decide +kernel
theorem dX6_isWord_62 : decode cX6_isWord 62 = .ok (.iload_n 3, 1) := by decide +kernel
theorem dX6_isWord_63 : decode cX6_isWord 63 = .ok (.baload, 1) := by decide +kernel
theorem dX6_isWord_64 : decode cX6_isWord 64 = .ok (.aload_n 1, 1) := by decide +kernel
theorem dX6_isWord_65 : decode cX6_isWord 65 = .ok (.iload_n 2, 1) := by decide +kernel
theorem dX6_isWord_66 : decode cX6_isWord 66 = .ok (.invokevirtual 217, 3) := by decide +kernel
theorem dX6_isWord_69 : decode cX6_isWord 69 = .ok (.if_icmp .eq 5, 3) := by decide +kernel
theorem dX6_isWord_72 : decode cX6_isWord 72 = .ok (.iconst 0, 1) := by decide +kernel
theorem dX6_isWord_73 : decode cX6_isWord 73 = .ok (.ireturn, 1) := by decide +kernel
theorem dX6_isWord_74 : decode cX6_isWord 74 = .ok (.iinc 2 1, 3) := by decide +kernel
theorem dX6_isWord_77 : decode cX6_isWord 77 = .ok (.goto (-47), 3) := by decide +kernel
theorem dX6_isWord_80 : decode cX6_isWord 80 = .ok (.iconst 1, 1) := by decide +kernel
theorem dX6_isWord_81 : decode cX6_isWord 81 = .ok (.ireturn, 1) := by decide +kernel
theorem dX6_needSymbol_0 : decode cX6_needSymbol 0 = .ok (.aload_n 0, 1) := by decide +kernel
theorem dX6_needSymbol_1 : decode cX6_needSymbol 1 = .ok (.getfield 39, 3) := by decide +kernel
theorem dX6_needSymbol_4 : decode cX6_needSymbol 4 = .ok (.iload_n 1, 1) := by decide +kernel
theorem dX6_needSymbol_5 : decode cX6_needSymbol 5 = .ok (.if_icmp .ne 10, 3) := by decide +kernel
theorem dX6_needSymbol_8 : decode cX6_needSymbol 8 = .ok (.aload_n 0, 1) := by decide +kernel
theorem dX6_needSymbol_9 : decode cX6_needSymbol 9 = .ok (.invokevirtual 36, 3) := by decide +kernel
theorem dX6_needSymbol_12 : decode cX6_needSymbol 12 = .ok (.goto 9, 3) := by decide +kernel
theorem dX6_needSymbol_15 : decode cX6_needSymbol 15 = .ok (.aload_n 0, 1) := by decide +kernel
theorem dX6_needSymbol_16 : decode cX6_needSymbol 16 = .ok (.bipush (-2), 2) := by decide +kernel
theorem dX6_needSymbol_18 : decode cX6_needSymbol 18 = .ok (.invokevirtual 65, 3) := by decide +kernel
theorem dX6_needSymbol_21 : decode cX6_needSymbol 21 = .ok (.return_, 1) := by decide +kernel
theorem dX6_nextToken_0 : decode cX6_nextToken 0 = .ok (.aload_n 0, 1) := by decide +kernel
theorem dX6_nextToken_1 : decode cX6_nextToken 1 = .ok (.aload_n 0, 1) := by decide +kernel
theorem dX6_nextToken_2 : decode cX6_nextToken 2 = .ok (.getfield 206, 3) := by decide +kernel
theorem dX6_nextToken_5 : decode cX6_nextToken 5 = .ok (.putfield 209, 3) := by decide +kernel
theorem dX6_nextToken_8 : decode cX6_nextToken 8 = .ok (.aload_n 0, 1) := by decide +kernel
theorem dX6_nextToken_9 : decode cX6_nextToken 9 = .ok (.getfield 209, 3) := by decide +kernel
theorem dX6_nextToken_12 : decode cX6_nextToken 12 = .ok (.aload_n 0, 1) := by decide +kernel
theorem dX6_nextToken_13 : decode cX6_nextToken 13 = .ok (.getfield 9, 3) := by decide +kernel
theorem dX6_nextToken_16 : decode cX6_nextToken 16 = .ok (.arraylength, 1) := by decide +kernel
theorem dX6_nextToken_17 : decode cX6_nextToken 17 = .ok (.if_icmp .ge 29, 3) := by decide +kernel
theorem dX6_nextToken_20 : decode cX6_nextToken 20 = .ok (.aload_n 0, 1) := by decide +kernel
theorem dX6_nextToken_21 : decode cX6_nextToken 21 = .ok (.aload_n 0, 1) := by decide +kernel
theorem dX6_nextToken_22 : decode cX6_nextToken 22 = .ok (.getfield 209, 3) := by decide +kernel
theorem dX6_nextToken_25 : decode cX6_nextToken 25 = .ok (.invokevirtual 221, 3) := by decide +kernel
theorem dX6_nextToken_28 : decode cX6_nextToken 28 = .ok (.bipush 32, 2) := by decide +kernel
theorem dX6_nextToken_30 : decode cX6_nextToken 30 = .ok (.if_icmp .ne 16, 3) := by decide +kernel
theorem dX6_nextToken_33 : decode cX6_nextToken 33 = .ok (.aload_n 0, 1) := by decide +kernel
theorem dX6_nextToken_34 : decode cX6_nextToken 34 = .ok (.dup, 1) := by decide +kernel
theorem dX6_nextToken_35 : decode cX6_nextToken 35 = .ok (.getfield 209, 3) := by decide +kernel
theorem dX6_nextToken_38 : decode cX6_nextToken 38 = .ok (.iconst 1, 1) := by decide +kernel
theorem dX6_nextToken_39 : decode cX6_nextToken 39 = .ok (.iadd, 1) := by decide +kernel
theorem dX6_nextToken_40 : decode cX6_nextToken 40 = .ok (.putfield 209, 3) := by decide +kernel
theorem dX6_nextToken_43 : decode cX6_nextToken 43 = .ok (.goto (-35), 3) := by decide +kernel
theorem dX6_nextToken_46 : decode cX6_nextToken 46 = .ok (.aload_n 0, 1) := by decide +kernel
theorem dX6_nextToken_47 : decode cX6_nextToken 47 = .ok (.aload_n 0, 1) := by decide +kernel
theorem dX6_nextToken_48 : decode cX6_nextToken 48 = .ok (.aload_n 0, 1) := by decide +kernel
theorem dX6_nextToken_49 : decode cX6_nextToken 49 = .ok (.getfield 209, 3) := by decide +kernel
theorem dX6_nextToken_52 : decode cX6_nextToken 52 = .ok (.invokevirtual 221, 3) := by decide +kernel
theorem dX6_nextToken_55 : decode cX6_nextToken 55 = .ok (.putfield 39, 3) := by decide +kernel
theorem dX6_nextToken_58 : decode cX6_nextToken 58 = .ok (.aload_n 0, 1) := by decide +kernel
theorem dX6_nextToken_59 : decode cX6_nextToken 59 = .ok (.aload_n 0, 1) := by decide +kernel
theorem dX6_nextToken_60 : decode cX6_nextToken 60 = .ok (.getfield 39, 3) := by decide +kernel
theorem dX6_nextToken_63 : decode cX6_nextToken 63 = .ok (.sipush 1000, 3) := by decide +kernel
theorem dX6_nextToken_66 : decode cX6_nextToken 66 = .ok (.if_icmp .ne 10, 3) := by decide +kernel
theorem dX6_nextToken_69 : decode cX6_nextToken 69 = .ok (.aload_n 0, 1) := by decide +kernel
theorem dX6_nextToken_70 : decode cX6_nextToken 70 = .ok (.getfield 209, 3) := by decide +kernel
theorem dX6_nextToken_73 : decode cX6_nextToken 73 = .ok (.goto 9, 3) := by decide +kernel
theorem dX6_nextToken_76 : decode cX6_nextToken 76 = .ok (.aload_n 0, 1) := by decide +kernel
theorem dX6_nextToken_77 : decode cX6_nextToken 77 = .ok (.getfield 209, 3) := by decide +kernel
theorem dX6_nextToken_80 : decode cX6_nextToken 80 = .ok (.iconst 1, 1) := by decide +kernel
theorem dX6_nextToken_81 : decode cX6_nextToken 81 = .ok (.iadd, 1) := by decide +kernel
theorem dX6_nextToken_82 : decode cX6_nextToken 82 = .ok (.putfield 206, 3) := by decide +kernel
theorem dX6_nextToken_85 : decode cX6_nextToken 85 = .ok (.aload_n 0, 1) := by decide +kernel
theorem dX6_nextToken_86 : decode cX6_nextToken 86 = .ok (.getfield 39, 3) := by decide +kernel
theorem dX6_nextToken_89 : decode cX6_nextToken 89 = .ok (.sipush 1001, 3) := by decide +kernel
theorem dX6_nextToken_92 : decode cX6_nextToken 92 = .ok (.if_icmp .eq 13, 3) := by decide +kernel
theorem dX6_nextToken_95 : decode cX6_nextToken 95 = .ok (.aload_n 0, 1) := by decide +kernel
theorem dX6_nextToken_96 : decode cX6_nextToken 96 = .ok (.getfield 39, 3) := by decide +kernel
theorem dX6_nextToken_99 : decode cX6_nextToken 99 = .ok (.sipush 1002, 3) := by decide +kernel
theorem dX6_nextToken_102 : decode cX6_nextToken 102 = .ok (.if_icmp .ne 7, 3) := by decide +kernel
theorem dX6_nextToken_105 : decode cX6_nextToken 105 = .ok (.iconst 1, 1) := by decide +kernel
theorem dX6_nextToken_106 : decode cX6_nextToken 106 = .ok (.goto 4, 3) := by decide +kernel
theorem dX6_nextToken_109 : decode cX6_nextToken 109 = .ok (.iconst 0, 1) := by decide +kernel
theorem dX6_nextToken_110 : decode cX6_nextToken 110 = .ok (.istore_n 1, 1) := by decide +kernel
theorem dX6_nextToken_111 : decode cX6_nextToken 111 = .ok (.iload_n 1, 1) := by decide +kernel
theorem dX6_nextToken_112 : decode cX6_nextToken 112 = .ok (.ifCond .eq 43, 3) := by decide +kernel
theorem dX6_nextToken_115 : decode cX6_nextToken 115 = .ok (.aload_n 0, 1) := by decide +kernel
theorem dX6_nextToken_116 : decode cX6_nextToken 116 = .ok (.getfield 206, 3) := by decide +kernel
theorem dX6_nextToken_119 : decode cX6_nextToken 119 = .ok (.aload_n 0, 1) := by decide +kernel
theorem dX6_nextToken_120 : decode cX6_nextToken 120 = .ok (.getfield 9, 3) := by decide +kernel
theorem dX6_nextToken_123 : decode cX6_nextToken 123 = .ok (.arraylength, 1) := by decide +kernel
theorem dX6_nextToken_124 : decode cX6_nextToken 124 = .ok (.if_icmp .ge 31, 3) := by decide +kernel
theorem dX6_nextToken_127 : decode cX6_nextToken 127 = .ok (.aload_n 0, 1) := by decide +kernel
theorem dX6_nextToken_128 : decode cX6_nextToken 128 = .ok (.aload_n 0, 1) := by decide +kernel
theorem dX6_nextToken_129 : decode cX6_nextToken 129 = .ok (.getfield 206, 3) := by decide +kernel
theorem dX6_nextToken_132 : decode cX6_nextToken 132 = .ok (.invokevirtual 221, 3) := by decide +kernel
theorem dX6_nextToken_135 : decode cX6_nextToken 135 = .ok (.aload_n 0, 1) := by decide +kernel
theorem dX6_nextToken_136 : decode cX6_nextToken 136 = .ok (.getfield 39, 3) := by decide +kernel
theorem dX6_nextToken_139 : decode cX6_nextToken 139 = .ok (.if_icmp .ne 16, 3) := by decide +kernel
theorem dX6_nextToken_142 : decode cX6_nextToken 142 = .ok (.aload_n 0, 1) := by decide +kernel
theorem dX6_nextToken_143 : decode cX6_nextToken 143 = .ok (.dup, 1) := by decide +kernel
theorem dX6_nextToken_144 : decode cX6_nextToken 144 = .ok (.getfield 206, 3) := by decide +kernel
theorem dX6_nextToken_147 : decode cX6_nextToken 147 = .ok (.iconst 1, 1) := by decide +kernel
theorem dX6_nextToken_148 : decode cX6_nextToken 148 = .ok (.iadd, 1) := by decide +kernel
theorem dX6_nextToken_149 : decode cX6_nextToken 149 = .ok (.putfield 206, 3) := by decide +kernel
theorem dX6_nextToken_152 : decode cX6_nextToken 152 = .ok (.goto (-41), 3) := by decide +kernel
theorem dX6_nextToken_155 : decode cX6_nextToken 155 = .ok (.aload_n 0, 1) := by decide +kernel
theorem dX6_nextToken_156 : decode cX6_nextToken 156 = .ok (.aload_n 0, 1) := by decide +kernel
theorem dX6_nextToken_157 : decode cX6_nextToken 157 = .ok (.getfield 39, 3) := by decide +kernel
theorem dX6_nextToken_160 : decode cX6_nextToken 160 = .ok (.sipush 1001, 3) := by decide +kernel
theorem dX6_nextToken_163 : decode cX6_nextToken 163 = .ok (.if_icmp .ne 10, 3) := by decide +kernel
theorem dX6_nextToken_166 : decode cX6_nextToken 166 = .ok (.aload_n 0, 1) := by decide +kernel
theorem dX6_nextToken_167 : decode cX6_nextToken 167 = .ok (.invokevirtual 224, 3) := by decide +kernel
theorem dX6_nextToken_170 : decode cX6_nextToken 170 = .ok (.goto 4, 3) := by decide +kernel
theorem dX6_nextToken_173 : decode cX6_nextToken 173 = .ok (.iconst 0, 1) := by decide +kernel
theorem dX6_nextToken_174 : decode cX6_nextToken 174 = .ok (.putfield 86, 3) := by decide +kernel
theorem dX6_nextToken_177 : decode cX6_nextToken 177 = .ok (.return_, 1) := by decide +kernel
theorem dX6_kindAt_0 : decode cX6_kindAt 0 = .ok (.iload_n 1, 1) := by decide +kernel
theorem dX6_kindAt_1 : decode cX6_kindAt 1 = .ok (.ifCond .lt 12, 3) := by decide +kernel
theorem dX6_kindAt_4 : decode cX6_kindAt 4 = .ok (.iload_n 1, 1) := by decide +kernel
theorem dX6_kindAt_5 : decode cX6_kindAt 5 = .ok (.aload_n 0, 1) := by decide +kernel
theorem dX6_kindAt_6 : decode cX6_kindAt 6 = .ok (.getfield 9, 3) := by decide +kernel
theorem dX6_kindAt_9 : decode cX6_kindAt 9 = .ok (.arraylength, 1) := by decide +kernel
theorem dX6_kindAt_10 : decode cX6_kindAt 10 = .ok (.if_icmp .lt 7, 3) := by decide +kernel
theorem dX6_kindAt_13 : decode cX6_kindAt 13 = .ok (.sipush 1000, 3) := by decide +kernel
theorem dX6_kindAt_16 : decode cX6_kindAt 16 = .ok (.ireturn, 1) := by decide +kernel
theorem dX6_kindAt_17 : decode cX6_kindAt 17 = .ok (.aload_n 0, 1) := by decide +kernel
theorem dX6_kindAt_18 : decode cX6_kindAt 18 = .ok (.getfield 9, 3) := by decide +kernel
theorem dX6_kindAt_21 : decode cX6_kindAt 21 = .ok (.iload_n 1, 1) := by decide +kernel
theorem dX6_kindAt_22 : decode cX6_kindAt 22 = .ok (.baload, 1) := by decide +kernel
theorem dX6_kindAt_23 : decode cX6_kindAt 23 = .ok (.istore_n 2, 1) := by decide +kernel
theorem dX6_kindAt_24 : decode cX6_kindAt 24 = .ok (.iload_n 2, 1) := by decide +kernel
theorem dX6_kindAt_25 : decode cX6_kindAt 25 = .ok (.bipush 48, 2) := by decide +kernel
theorem dX6_kindAt_27 : decode cX6_kindAt 27 = .ok (.if_icmp .lt 13, 3) := by decide +kernel
theorem dX6_kindAt_30 : decode cX6_kindAt 30 = .ok (.iload_n 2, 1) := by decide +kernel
theorem dX6_kindAt_31 : decode cX6_kindAt 31 = .ok (.bipush 57, 2) := by decide +kernel
theorem dX6_kindAt_33 : decode cX6_kindAt 33 = .ok (.if_icmp .gt 7, 3) := by decide +kernel
theorem dX6_kindAt_36 : decode cX6_kindAt 36 = .ok (.sipush 1001, 3) := by decide +kernel
theorem dX6_kindAt_39 : decode cX6_kindAt 39 = .ok (.ireturn, 1) := by decide +kernel
theorem dX6_kindAt_40 : decode cX6_kindAt 40 = .ok (.iload_n 2, 1) := by decide +kernel
theorem dX6_kindAt_41 : decode cX6_kindAt 41 = .ok (.bipush 97, 2) := by decide +kernel
theorem dX6_kindAt_43 : decode cX6_kindAt 43 = .ok (.if_icmp .lt 15, 3) := by decide +kernel
theorem dX6_kindAt_46 : decode cX6_kindAt 46 = .ok (.iload_n 2, 1) := by decide +kernel
theorem dX6_kindAt_47 : decode cX6_kindAt 47 = .ok (.bipush 122, 2) := by decide +kernel
theorem dX6_kindAt_49 : decode cX6_kindAt 49 = .ok (.if_icmp .gt 9, 3) := by decide +kernel
theorem dX6_kindAt_52 : decode cX6_kindAt 52 = .ok (.sipush 1002, 3) := by decide +kernel
theorem dX6_kindAt_55 : decode cX6_kindAt 55 = .ok (.goto 4, 3) := by decide +kernel
theorem dX6_kindAt_58 : decode cX6_kindAt 58 = .ok (.iload_n 2, 1) := by decide +kernel
theorem dX6_kindAt_59 : decode cX6_kindAt 59 = .ok (.ireturn, 1) := by decide +kernel
theorem dX6_valueOfDigits_0 : decode cX6_valueOfDigits 0 = .ok (.iconst 0, 1) := by decide +kernel
theorem dX6_valueOfDigits_1 : decode cX6_valueOfDigits 1 = .ok (.istore_n 1, 1) := by decide +kernel
theorem dX6_valueOfDigits_2 : decode cX6_valueOfDigits 2 = .ok (.aload_n 0, 1) := by decide +kernel
theorem dX6_valueOfDigits_3 : decode cX6_valueOfDigits 3 = .ok (.getfield 209, 3) := by decide +kernel
theorem dX6_valueOfDigits_6 : decode cX6_valueOfDigits 6 = .ok (.iconst 0, 1) := by decide +kernel
theorem dX6_valueOfDigits_7 : decode cX6_valueOfDigits 7 = .ok (.invokestatic 227, 3) := by decide +kernel
theorem dX6_valueOfDigits_10 : decode cX6_valueOfDigits 10 = .ok (.istore_n 2, 1) := by decide +kernel
theorem dX6_valueOfDigits_11 : decode cX6_valueOfDigits 11 = .ok (.iload_n 2, 1) := by decide +kernel
theorem dX6_valueOfDigits_12 : decode cX6_valueOfDigits 12 = .ok (.aload_n 0, 1) := by decide +kernel
theorem dX6_valueOfDigits_13 : decode cX6_valueOfDigits 13 = .ok (.getfield 206, 3) := by decide +kernel
theorem dX6_valueOfDigits_16 : decode cX6_valueOfDigits 16 = .ok (.if_icmp .ge 38, 3) := by decide +kernel
theorem dX6_valueOfDigits_19 : decode cX6_valueOfDigits 19 = .ok (.iload_n 2, 1) := by decide +kernel
theorem dX6_valueOfDigits_20 : decode cX6_valueOfDigits 20 = .ok (.aload_n 0, 1) := by decide +kernel
theorem dX6_valueOfDigits_21 : decode cX6_valueOfDigits 21 = .ok (.getfield 9, 3) := by decide +kernel
theorem dX6_valueOfDigits_24 : decode cX6_valueOfDigits 24 = .ok (.arraylength, 1) := by decide +kernel
theorem dX6_valueOfDigits_25 : decode cX6_valueOfDigits 25 = .ok (.if_icmp .ge 29, 3) := by decide +kernel
theorem dX6_valueOfDigits_28 : decode cX6_valueOfDigits 28 = .ok (.ldc 232, 2) := by decide +kernel
theorem dX6_valueOfDigits_30 : decode cX6_valueOfDigits 30 = .ok (.iload_n 1, 1) := by decide +kernel
theorem dX6_valueOfDigits_31 : decode cX6_valueOfDigits 31 = .ok (.bipush 10, 2) := by decide +kernel
theorem dX6_valueOfDigits_33 : decode cX6_valueOfDigits 33 = .ok (.imul, 1) := by decide +kernel
theorem dX6_valueOfDigits_34 : decode cX6_valueOfDigits 34 = .ok (.aload_n 0, 1) := by decide +kernel
theorem dX6_valueOfDigits_35 : decode cX6_valueOfDigits 35 = .ok (.getfield 9, 3) := by decide +kernel
theorem dX6_valueOfDigits_38 : decode cX6_valueOfDigits 38 = .ok (.iload_n 2, 1) := by decide +kernel
theorem dX6_valueOfDigits_39 : decode cX6_valueOfDigits 39 = .ok (.baload, 1) := by decide +kernel
theorem dX6_valueOfDigits_40 : decode cX6_valueOfDigits 40 = .ok (.iadd, 1) := by decide +kernel
theorem dX6_valueOfDigits_41 : decode cX6_valueOfDigits 41 = .ok (.bipush 48, 2) := by decide +kernel
theorem dX6_valueOfDigits_43 : decode cX6_valueOfDigits 43 = .ok (.isub, 1) := by decide +kernel
theorem dX6_valueOfDigits_44 : decode cX6_valueOfDigits 44 = .ok (.invokestatic 233, 3) := by decide +kernel
theorem dX6_valueOfDigits_47 : decode cX6_valueOfDigits 47 = .ok (.istore_n 1, 1) := by decide +kernel
theorem dX6_valueOfDigits_48 : decode cX6_valueOfDigits 48 = .ok (.iinc 2 1, 3) := by decide +kernel
theorem dX6_valueOfDigits_51 : decode cX6_valueOfDigits 51 = .ok (.goto (-40), 3) := by decide +kernel
theorem dX6_valueOfDigits_54 : decode cX6_valueOfDigits 54 = .ok (.iload_n 1, 1) := by decide +kernel
theorem dX6_valueOfDigits_55 : decode cX6_valueOfDigits 55 = .ok (.ireturn, 1) := by decide +kernel
theorem dX6_fail_0 : decode cX6_fail 0 = .ok (.aload_n 0, 1) := by decide +kernel
theorem dX6_fail_1 : decode cX6_fail 1 = .ok (.getfield 15, 3) := by decide +kernel
theorem dX6_fail_4 : decode cX6_fail 4 = .ok (.ifCond .ne 16, 3) := by decide +kernel
theorem dX6_fail_7 : decode cX6_fail 7 = .ok (.aload_n 0, 1) := by decide +kernel
theorem dX6_fail_8 : decode cX6_fail 8 = .ok (.iload_n 1, 1) := by decide +kernel
theorem dX6_fail_9 : decode cX6_fail 9 = .ok (.putfield 15, 3) := by decide +kernel
theorem dX6_fail_12 : decode cX6_fail 12 = .ok (.aload_n 0, 1) := by decide +kernel
theorem dX6_fail_13 : decode cX6_fail 13 = .ok (.aload_n 0, 1) := by decide +kernel
theorem dX6_fail_14 : decode cX6_fail 14 = .ok (.getfield 209, 3) := by decide +kernel
theorem dX6_fail_17 : decode cX6_fail 17 = .ok (.putfield 19, 3) := by decide +kernel
theorem dX6_fail_20 : decode cX6_fail 20 = .ok (.aload_n 0, 1) := by decide +kernel
theorem dX6_fail_21 : decode cX6_fail 21 = .ok (.sipush 1000, 3) := by decide +kernel
theorem dX6_fail_24 : decode cX6_fail 24 = .ok (.putfield 39, 3) := by decide +kernel
theorem dX6_fail_27 : decode cX6_fail 27 = .ok (.return_, 1) := by decide +kernel
theorem dX7_init_0 : decode cX7_init 0 = .ok (.aload_n 0, 1) := by decide +kernel
theorem dX7_init_1 : decode cX7_init 1 = .ok (.invokespecial 1, 3) := by decide +kernel
theorem dX7_init_4 : decode cX7_init 4 = .ok (.aload_n 0, 1) := by decide +kernel
theorem dX7_init_5 : decode cX7_init 5 = .ok (.sipush 900, 3) := by decide +kernel
theorem dX7_init_8 : decode cX7_init 8 = .ok (.newarray .byte, 2) := by decide +kernel
theorem dX7_init_10 : decode cX7_init 10 = .ok (.putfield 9, 3) := by decide +kernel
theorem dX7_init_13 : decode cX7_init 13 = .ok (.aload_n 0, 1) := by decide +kernel
theorem dX7_init_14 : decode cX7_init 14 = .ok (.iconst 0, 1) := by decide +kernel
theorem dX7_init_15 : decode cX7_init 15 = .ok (.putfield 13, 3) := by decide +kernel
theorem dX7_init_18 : decode cX7_init 18 = .ok (.aload_n 0, 1) := by decide +kernel
theorem dX7_init_19 : decode cX7_init 19 = .ok (.iconst (-1), 1) := by decide +kernel
theorem dX7_init_20 : decode cX7_init 20 = .ok (.putfield 17, 3) := by decide +kernel
theorem dX7_init_23 : decode cX7_init 23 = .ok (.aload_n 0, 1) := by decide +kernel
theorem dX7_init_24 : decode cX7_init 24 = .ok (.invokestatic 20, 3) := by decide +kernel
theorem dX7_init_27 : decode cX7_init 27 = .ok (.putfield 26, 3) := by decide +kernel
theorem dX7_init_30 : decode cX7_init 30 = .ok (.aload_n 0, 1) := by decide +kernel
theorem dX7_init_31 : decode cX7_init 31 = .ok (.bipush 8, 2) := by decide +kernel
theorem dX7_init_33 : decode cX7_init 33 = .ok (.anewarray 21, 3) := by decide +kernel
theorem dX7_init_36 : decode cX7_init 36 = .ok (.putfield 30, 3) := by decide +kernel
theorem dX7_init_39 : decode cX7_init 39 = .ok (.aload_n 0, 1) := by decide +kernel
theorem dX7_init_40 : decode cX7_init 40 = .ok (.iconst 0, 1) := by decide +kernel
theorem dX7_init_41 : decode cX7_init 41 = .ok (.putfield 34, 3) := by decide +kernel
theorem dX7_init_44 : decode cX7_init 44 = .ok (.return_, 1) := by decide +kernel
theorem dX7_append_0 : decode cX7_append 0 = .ok (.aload_n 0, 1) := by decide +kernel
theorem dX7_append_1 : decode cX7_append 1 = .ok (.getfield 13, 3) := by decide +kernel
theorem dX7_append_4 : decode cX7_append 4 = .ok (.bipush 20, 2) := by decide +kernel
theorem dX7_append_6 : decode cX7_append 6 = .ok (.iadd, 1) := by decide +kernel
theorem dX7_append_7 : decode cX7_append 7 = .ok (.sipush 900, 3) := by decide +kernel
theorem dX7_append_10 : decode cX7_append 10 = .ok (.if_icmp .le 5, 3) := by decide +kernel
theorem dX7_append_13 : decode cX7_append 13 = .ok (.iconst (-1), 1) := by decide +kernel
theorem dX7_append_14 : decode cX7_append 14 = .ok (.ireturn, 1) := by decide +kernel
theorem dX7_append_15 : decode cX7_append 15 = .ok (.aload_n 0, 1) := by decide +kernel
theorem dX7_append_16 : decode cX7_append 16 = .ok (.iload_n 1, 1) := by decide +kernel
theorem dX7_append_17 : decode cX7_append 17 = .ok (.invokevirtual 37, 3) := by decide +kernel
theorem dX7_append_20 : decode cX7_append 20 = .ok (.aload_n 0, 1) := by decide +kernel
theorem dX7_append_21 : decode cX7_append 21 = .ok (.iload_n 2, 1) := by decide +kernel
theorem dX7_append_22 : decode cX7_append 22 = .ok (.invokevirtual 37, 3) := by decide +kernel
theorem dX7_append_25 : decode cX7_append 25 = .ok (.aload_n 0, 1) := by decide +kernel
theorem dX7_append_26 : decode cX7_append 26 = .ok (.iload_n 3, 1) := by decide +kernel
theorem dX7_append_27 : decode cX7_append 27 = .ok (.invokevirtual 37, 3) := by decide +kernel
theorem dX7_append_30 : decode cX7_append 30 = .ok (.aload_n 0, 1) := by decide +kernel
theorem dX7_append_31 : decode cX7_append 31 = .ok (.iload 4, 2) := by decide +kernel
theorem dX7_append_33 : decode cX7_append 33 = .ok (.invokevirtual 37, 3) := by decide +kernel
theorem dX7_append_36 : decode cX7_append 36 = .ok (.aload_n 0, 1) := by decide +kernel
theorem dX7_append_37 : decode cX7_append 37 = .ok (.iload 5, 2) := by decide +kernel
theorem dX7_append_39 : decode cX7_append 39 = .ok (.invokevirtual 37, 3) := by decide +kernel
theorem dX7_append_42 : decode cX7_append 42 = .ok (.aload_n 0, 1) := by decide +kernel
theorem dX7_append_43 : decode cX7_append 43 = .ok (.getfield 13, 3) := by decide +kernel
theorem dX7_append_46 : decode cX7_append 46 = .ok (.ireturn, 1) := by decide +kernel
theorem dX7_putWord_0 : decode cX7_putWord 0 = .ok (.bipush 24, 2) := by decide +kernel
theorem dX7_putWord_2 : decode cX7_putWord 2 = .ok (.istore_n 2, 1) := by decide +kernel
theorem dX7_putWord_3 : decode cX7_putWord 3 = .ok (.iload_n 2, 1) := by decide +kernel
theorem dX7_putWord_4 : decode cX7_putWord 4 = .ok (.ifCond .lt 51, 3) := by decide +kernel
theorem dX7_putWord_7 : decode cX7_putWord 7 = .ok (.aload_n 0, 1) := by decide +kernel
theorem dX7_putWord_8 : decode cX7_putWord 8 = .ok (.getfield 13, 3) := by decide +kernel
theorem dX7_putWord_11 : decode cX7_putWord 11 = .ok (.ifCond .lt 38, 3) := by decide +kernel
theorem dX7_putWord_14 : decode cX7_putWord 14 = .ok (.aload_n 0, 1) := by decide +kernel
theorem dX7_putWord_15 : decode cX7_putWord 15 = .ok (.getfield 13, 3) := by decide +kernel
theorem dX7_putWord_18 : decode cX7_putWord 18 = .ok (.aload_n 0, 1) := by decide +kernel
theorem dX7_putWord_19 : decode cX7_putWord 19 = .ok (.getfield 9, 3) := by decide +kernel
theorem dX7_putWord_22 : decode cX7_putWord 22 = .ok (.arraylength, 1) := by decide +kernel
theorem dX7_putWord_23 : decode cX7_putWord 23 = .ok (.if_icmp .ge 26, 3) := by decide +kernel
theorem dX7_putWord_26 : decode cX7_putWord 26 = .ok (.aload_n 0, 1) := by decide +kernel
theorem dX7_putWord_27 : decode cX7_putWord 27 = .ok (.getfield 9, 3) := by decide +kernel
theorem dX7_putWord_30 : decode cX7_putWord 30 = .ok (.aload_n 0, 1) := by decide +kernel
theorem dX7_putWord_31 : decode cX7_putWord 31 = .ok (.getfield 13, 3) := by decide +kernel
theorem dX7_putWord_34 : decode cX7_putWord 34 = .ok (.iload_n 1, 1) := by decide +kernel
theorem dX7_putWord_35 : decode cX7_putWord 35 = .ok (.iload_n 2, 1) := by decide +kernel
theorem dX7_putWord_36 : decode cX7_putWord 36 = .ok (.ishr, 1) := by decide +kernel
theorem dX7_putWord_37 : decode cX7_putWord 37 = .ok (.i2b, 1) := by decide +kernel
theorem dX7_putWord_38 : decode cX7_putWord 38 = .ok (.bastore, 1) := by decide +kernel
theorem dX7_putWord_39 : decode cX7_putWord 39 = .ok (.aload_n 0, 1) := by decide +kernel
theorem dX7_putWord_40 : decode cX7_putWord 40 = .ok (.dup, 1) := by decide +kernel
theorem dX7_putWord_41 : decode cX7_putWord 41 = .ok (.getfield 13, 3) := by decide +kernel
theorem dX7_putWord_44 : decode cX7_putWord 44 = .ok (.iconst 1, 1) := by decide +kernel
theorem dX7_putWord_45 : decode cX7_putWord 45 = .ok (.iadd, 1) := by decide +kernel
theorem dX7_putWord_46 : decode cX7_putWord 46 = .ok (.putfield 13, 3) := by decide +kernel
theorem dX7_putWord_49 : decode cX7_putWord 49 = .ok (.iinc 2 (-8), 3) := by decide +kernel
theorem dX7_putWord_52 : decode cX7_putWord 52 = .ok (.goto (-49), 3) := by decide +kernel
theorem dX7_putWord_55 : decode cX7_putWord 55 = .ok (.return_, 1) := by decide +kernel
theorem dX7_load_0 : decode cX7_load 0 = .ok (.iload_n 1, 1) := by decide +kernel
theorem dX7_load_1 : decode cX7_load 1 = .ok (.ifCond .lt 11, 3) := by decide +kernel
theorem dX7_load_4 : decode cX7_load 4 = .ok (.iload_n 1, 1) := by decide +kernel
theorem dX7_load_5 : decode cX7_load 5 = .ok (.aload_n 0, 1) := by decide +kernel
theorem dX7_load_6 : decode cX7_load 6 = .ok (.getfield 13, 3) := by decide +kernel
theorem dX7_load_9 : decode cX7_load 9 = .ok (.if_icmp .le 13, 3) := by decide +kernel
theorem dX7_load_12 : decode cX7_load 12 = .ok (.new 41, 3) := by decide +kernel
theorem dX7_load_15 : decode cX7_load 15 = .ok (.dup, 1) := by decide +kernel
theorem dX7_load_16 : decode cX7_load 16 = .ok (.ldc 43, 2) := by decide +kernel
theorem dX7_load_18 : decode cX7_load 18 = .ok (.invokespecial 45, 3) := by decide +kernel
theorem dX7_load_21 : decode cX7_load 21 = .ok (.athrow, 1) := by decide +kernel
theorem dX7_load_22 : decode cX7_load 22 = .ok (.new 48, 3) := by decide +kernel
theorem dX7_load_25 : decode cX7_load 25 = .ok (.dup, 1) := by decide +kernel
theorem dX7_load_26 : decode cX7_load 26 = .ok (.aload_n 0, 1) := by decide +kernel
theorem dX7_load_27 : decode cX7_load 27 = .ok (.getfield 9, 3) := by decide +kernel
theorem dX7_load_30 : decode cX7_load 30 = .ok (.iload_n 1, 1) := by decide +kernel
theorem dX7_load_31 : decode cX7_load 31 = .ok (.invokestatic 50, 3) := by decide +kernel
theorem dX7_load_34 : decode cX7_load 34 = .ok (.invokespecial 56, 3) := by decide +kernel
theorem dX7_load_37 : decode cX7_load 37 = .ok (.astore_n 2, 1) := by decide +kernel
theorem dX7_load_38 : decode cX7_load 38 = .ok (.aload_n 2, 1) := by decide +kernel
theorem dX7_load_39 : decode cX7_load 39 = .ok (.invokevirtual 59, 3) := by decide +kernel
theorem dX7_load_42 : decode cX7_load 42 = .ok (.aload_n 0, 1) := by decide +kernel
theorem dX7_load_43 : decode cX7_load 43 = .ok (.iconst 0, 1) := by decide +kernel
theorem dX7_load_44 : decode cX7_load 44 = .ok (.putfield 13, 3) := by decide +kernel
theorem dX7_load_47 : decode cX7_load 47 = .ok (.aload_n 0, 1) := by decide +kernel
theorem dX7_load_48 : decode cX7_load 48 = .ok (.aload_n 2, 1) := by decide +kernel
theorem dX7_load_49 : decode cX7_load 49 = .ok (.getfield 62, 3) := by decide +kernel
theorem dX7_load_52 : decode cX7_load 52 = .ok (.putfield 17, 3) := by decide +kernel
theorem dX7_load_55 : decode cX7_load 55 = .ok (.aload_n 2, 1) := by decide +kernel
theorem dX7_load_56 : decode cX7_load 56 = .ok (.getfield 63, 3) := by decide +kernel
theorem dX7_load_59 : decode cX7_load 59 = .ok (.ifCond .eq 8, 3) := by decide +kernel
theorem dX7_load_62 : decode cX7_load 62 = .ok (.aload_n 2, 1) := by decide +kernel
theorem dX7_load_63 : decode cX7_load 63 = .ok (.getfield 63, 3) := by decide +kernel
theorem dX7_load_66 : decode cX7_load 66 = .ok (.ireturn, 1) := by decide +kernel
theorem dX7_load_67 : decode cX7_load 67 = .ok (.aload_n 0, 1) := by decide +kernel
theorem dX7_load_68 : decode cX7_load 68 = .ok (.aload_n 2, 1) := by decide +kernel
theorem dX7_load_69 : decode cX7_load 69 = .ok (.getfield 66, 3) := by decide +kernel
theorem dX7_load_72 : decode cX7_load 72 = .ok (.invokevirtual 67, 3) := by decide +kernel
theorem dX7_load_75 : decode cX7_load 75 = .ok (.aload_n 0, 1) := by decide +kernel
theorem dX7_load_76 : decode cX7_load 76 = .ok (.getfield 26, 3) := by decide +kernel
theorem dX7_load_79 : decode cX7_load 79 = .ok (.getfield 71, 3) := by decide +kernel
theorem dX7_load_82 : decode cX7_load 82 = .ok (.arraylength, 1) := by decide +kernel
theorem dX7_load_83 : decode cX7_load 83 = .ok (.ireturn, 1) := by decide +kernel
theorem dX7_errorOffset_0 : decode cX7_errorOffset 0 = .ok (.aload_n 0, 1) := by decide +kernel
theorem dX7_errorOffset_1 : decode cX7_errorOffset 1 = .ok (.getfield 17, 3) := by decide +kernel
theorem dX7_errorOffset_4 : decode cX7_errorOffset 4 = .ok (.ireturn, 1) := by decide +kernel
theorem dX7_creditCount_0 : decode cX7_creditCount 0 = .ok (.aload_n 0, 1) := by decide +kernel
theorem dX7_creditCount_1 : decode cX7_creditCount 1 = .ok (.getfield 26, 3) := by decide +kernel
theorem dX7_creditCount_4 : decode cX7_creditCount 4 = .ok (.getfield 71, 3) := by decide +kernel
theorem dX7_creditCount_7 : decode cX7_creditCount 7 = .ok (.arraylength, 1) := by decide +kernel
theorem dX7_creditCount_8 : decode cX7_creditCount 8 = .ok (.ireturn, 1) := by decide +kernel
theorem dX7_presentationCount_0 : decode cX7_presentationCount 0 = .ok (.aload_n 0, 1) := by decide +kernel
theorem dX7_presentationCount_1 : decode cX7_presentationCount 1 = .ok (.getfield 26, 3) := by decide +kernel
theorem dX7_presentationCount_4 : decode cX7_presentationCount 4 = .ok (.getfield 75, 3) := by decide +kernel
theorem dX7_presentationCount_7 : decode cX7_presentationCount 7 = .ok (.arraylength, 1) := by decide +kernel
theorem dX7_presentationCount_8 : decode cX7_presentationCount 8 = .ok (.ireturn, 1) := by decide +kernel
theorem dX7_today_0 : decode cX7_today 0 = .ok (.aload_n 0, 1) := by decide +kernel
theorem dX7_today_1 : decode cX7_today 1 = .ok (.getfield 26, 3) := by decide +kernel
theorem dX7_today_4 : decode cX7_today 4 = .ok (.getfield 79, 3) := by decide +kernel
theorem dX7_today_7 : decode cX7_today 7 = .ok (.ireturn, 1) := by decide +kernel
theorem dX7_isBusinessDay_0 : decode cX7_isBusinessDay 0 = .ok (.iload_n 1, 1) := by decide +kernel
theorem dX7_isBusinessDay_1 : decode cX7_isBusinessDay 1 = .ok (.iconst 0, 1) := by decide +kernel
theorem dX7_isBusinessDay_2 : decode cX7_isBusinessDay 2 = .ok (.sipush 9999, 3) := by decide +kernel
theorem dX7_isBusinessDay_5 : decode cX7_isBusinessDay 5 = .ok (.invokestatic 82, 3) := by decide +kernel
theorem dX7_isBusinessDay_8 : decode cX7_isBusinessDay 8 = .ok (.aload_n 0, 1) := by decide +kernel
theorem dX7_isBusinessDay_9 : decode cX7_isBusinessDay 9 = .ok (.getfield 26, 3) := by decide +kernel
theorem dX7_isBusinessDay_12 : decode cX7_isBusinessDay 12 = .ok (.getfield 86, 3) := by decide +kernel
theorem dX7_isBusinessDay_15 : decode cX7_isBusinessDay 15 = .ok (.iload_n 1, 1) := by decide +kernel
theorem dX7_isBusinessDay_16 : decode cX7_isBusinessDay 16 = .ok (.invokevirtual 90, 3) := by decide +kernel
theorem dX7_isBusinessDay_19 : decode cX7_isBusinessDay 19 = .ok (.ireturn, 1) := by decide +kernel
theorem dX7_extended_0 : decode cX7_extended 0 = .ok (.iload_n 1, 1) := by decide +kernel
theorem dX7_extended_1 : decode cX7_extended 1 = .ok (.iconst 0, 1) := by decide +kernel
theorem dX7_extended_2 : decode cX7_extended 2 = .ok (.sipush 9999, 3) := by decide +kernel
theorem dX7_extended_5 : decode cX7_extended 5 = .ok (.invokestatic 82, 3) := by decide +kernel
theorem dX7_extended_8 : decode cX7_extended 8 = .ok (.aload_n 0, 1) := by decide +kernel
theorem dX7_extended_9 : decode cX7_extended 9 = .ok (.getfield 26, 3) := by decide +kernel
theorem dX7_extended_12 : decode cX7_extended 12 = .ok (.getfield 86, 3) := by decide +kernel
theorem dX7_extended_15 : decode cX7_extended 15 = .ok (.iload_n 1, 1) := by decide +kernel
theorem dX7_extended_16 : decode cX7_extended 16 = .ok (.invokevirtual 96, 3) := by decide +kernel
theorem dX7_extended_19 : decode cX7_extended 19 = .ok (.ireturn, 1) := by decide +kernel
theorem dX7_addBusinessDays_0 : decode cX7_addBusinessDays 0 = .ok (.iload_n 1, 1) := by decide +kernel
theorem dX7_addBusinessDays_1 : decode cX7_addBusinessDays 1 = .ok (.iconst 0, 1) := by decide +kernel
theorem dX7_addBusinessDays_2 : decode cX7_addBusinessDays 2 = .ok (.sipush 9999, 3) := by decide +kernel
theorem dX7_addBusinessDays_5 : decode cX7_addBusinessDays 5 = .ok (.invokestatic 82, 3) := by decide +kernel
theorem dX7_addBusinessDays_8 : decode cX7_addBusinessDays 8 = .ok (.iload_n 2, 1) := by decide +kernel
theorem dX7_addBusinessDays_9 : decode cX7_addBusinessDays 9 = .ok (.iconst 0, 1) := by decide +kernel
theorem dX7_addBusinessDays_10 : decode cX7_addBusinessDays 10 = .ok (.bipush 100, 2) := by decide +kernel
theorem dX7_addBusinessDays_12 : decode cX7_addBusinessDays 12 = .ok (.invokestatic 82, 3) := by decide +kernel
theorem dX7_addBusinessDays_15 : decode cX7_addBusinessDays 15 = .ok (.aload_n 0, 1) := by decide +kernel
theorem dX7_addBusinessDays_16 : decode cX7_addBusinessDays 16 = .ok (.getfield 26, 3) := by decide +kernel
theorem dX7_addBusinessDays_19 : decode cX7_addBusinessDays 19 = .ok (.getfield 86, 3) := by decide +kernel
theorem dX7_addBusinessDays_22 : decode cX7_addBusinessDays 22 = .ok (.iload_n 1, 1) := by decide +kernel
theorem dX7_addBusinessDays_23 : decode cX7_addBusinessDays 23 = .ok (.iload_n 2, 1) := by decide +kernel
theorem dX7_addBusinessDays_24 : decode cX7_addBusinessDays 24 = .ok (.invokevirtual 100, 3) := by decide +kernel
theorem dX7_addBusinessDays_27 : decode cX7_addBusinessDays 27 = .ok (.ireturn, 1) := by decide +kernel
theorem dX7_businessDays_0 : decode cX7_businessDays 0 = .ok (.iload_n 1, 1) := by decide +kernel
theorem dX7_businessDays_1 : decode cX7_businessDays 1 = .ok (.iconst 0, 1) := by decide +kernel
theorem dX7_businessDays_2 : decode cX7_businessDays 2 = .ok (.sipush 9999, 3) := by decide +kernel
theorem dX7_businessDays_5 : decode cX7_businessDays 5 = .ok (.invokestatic 82, 3) := by decide +kernel
theorem dX7_businessDays_8 : decode cX7_businessDays 8 = .ok (.iload_n 2, 1) := by decide +kernel
theorem dX7_businessDays_9 : decode cX7_businessDays 9 = .ok (.iconst 0, 1) := by decide +kernel
theorem dX7_businessDays_10 : decode cX7_businessDays 10 = .ok (.sipush 9999, 3) := by decide +kernel
theorem dX7_businessDays_13 : decode cX7_businessDays 13 = .ok (.invokestatic 82, 3) := by decide +kernel
theorem dX7_businessDays_16 : decode cX7_businessDays 16 = .ok (.aload_n 0, 1) := by decide +kernel
theorem dX7_businessDays_17 : decode cX7_businessDays 17 = .ok (.getfield 26, 3) := by decide +kernel
theorem dX7_businessDays_20 : decode cX7_businessDays 20 = .ok (.getfield 86, 3) := by decide +kernel
theorem dX7_businessDays_23 : decode cX7_businessDays 23 = .ok (.iload_n 1, 1) := by decide +kernel
theorem dX7_businessDays_24 : decode cX7_businessDays 24 = .ok (.iload_n 2, 1) := by decide +kernel
theorem dX7_businessDays_25 : decode cX7_businessDays 25 = .ok (.invokevirtual 104, 3) := by decide +kernel
theorem dX7_businessDays_28 : decode cX7_businessDays 28 = .ok (.ireturn, 1) := by decide +kernel
theorem dX7_parent_0 : decode cX7_parent 0 = .ok (.aload_n 0, 1) := by decide +kernel
theorem dX7_parent_1 : decode cX7_parent 1 = .ok (.iload_n 1, 1) := by decide +kernel
theorem dX7_parent_2 : decode cX7_parent 2 = .ok (.invokevirtual 107, 3) := by decide +kernel
theorem dX7_parent_5 : decode cX7_parent 5 = .ok (.getfield 111, 3) := by decide +kernel
theorem dX7_parent_8 : decode cX7_parent 8 = .ok (.ireturn, 1) := by decide +kernel
theorem dX7_bound_0 : decode cX7_bound 0 = .ok (.aload_n 0, 1) := by decide +kernel
theorem dX7_bound_1 : decode cX7_bound 1 = .ok (.iload_n 1, 1) := by decide +kernel
theorem dX7_bound_2 : decode cX7_bound 2 = .ok (.invokevirtual 107, 3) := by decide +kernel
theorem dX7_bound_5 : decode cX7_bound 5 = .ok (.astore_n 3, 1) := by decide +kernel
theorem dX7_bound_6 : decode cX7_bound 6 = .ok (.iload_n 2, 1) := by decide +kernel
theorem dX7_bound_7 : decode cX7_bound 7 = .ok (.ifCond .eq 10, 3) := by decide +kernel
theorem dX7_bound_10 : decode cX7_bound 10 = .ok (.aload_n 3, 1) := by decide +kernel
theorem dX7_bound_11 : decode cX7_bound 11 = .ok (.invokevirtual 116, 3) := by decide +kernel
theorem dX7_bound_14 : decode cX7_bound 14 = .ok (.goto 7, 3) := by decide +kernel
theorem dX7_bound_17 : decode cX7_bound 17 = .ok (.aload_n 3, 1) := by decide +kernel
theorem dX7_bound_18 : decode cX7_bound 18 = .ok (.invokevirtual 120, 3) := by decide +kernel
theorem dX7_bound_21 : decode cX7_bound 21 = .ok (.ireturn, 1) := by decide +kernel
theorem dX7_expiry_0 : decode cX7_expiry 0 = .ok (.aload_n 0, 1) := by decide +kernel
theorem dX7_expiry_1 : decode cX7_expiry 1 = .ok (.iload_n 1, 1) := by decide +kernel
theorem dX7_expiry_2 : decode cX7_expiry 2 = .ok (.invokevirtual 107, 3) := by decide +kernel
theorem dX7_expiry_5 : decode cX7_expiry 5 = .ok (.getfield 123, 3) := by decide +kernel
theorem dX7_expiry_8 : decode cX7_expiry 8 = .ok (.ireturn, 1) := by decide +kernel
theorem dX7_drawn_0 : decode cX7_drawn 0 = .ok (.aload_n 0, 1) := by decide +kernel
theorem dX7_drawn_1 : decode cX7_drawn 1 = .ok (.getfield 26, 3) := by decide +kernel
theorem dX7_drawn_4 : decode cX7_drawn 4 = .ok (.aload_n 0, 1) := by decide +kernel
theorem dX7_drawn_5 : decode cX7_drawn 5 = .ok (.iload_n 1, 1) := by decide +kernel
theorem dX7_drawn_6 : decode cX7_drawn 6 = .ok (.invokevirtual 107, 3) := by decide +kernel
theorem dX7_drawn_9 : decode cX7_drawn 9 = .ok (.invokevirtual 126, 3) := by decide +kernel
theorem dX7_drawn_12 : decode cX7_drawn 12 = .ok (.ireturn, 1) := by decide +kernel
theorem dX7_transferred_0 : decode cX7_transferred 0 = .ok (.aload_n 0, 1) := by decide +kernel
theorem dX7_transferred_1 : decode cX7_transferred 1 = .ok (.getfield 26, 3) := by decide +kernel
theorem dX7_transferred_4 : decode cX7_transferred 4 = .ok (.aload_n 0, 1) := by decide +kernel
theorem dX7_transferred_5 : decode cX7_transferred 5 = .ok (.iload_n 1, 1) := by decide +kernel
theorem dX7_transferred_6 : decode cX7_transferred 6 = .ok (.invokevirtual 107, 3) := by decide +kernel
theorem dX7_transferred_9 : decode cX7_transferred 9 = .ok (.invokevirtual 130, 3) := by decide +kernel
theorem dX7_transferred_12 : decode cX7_transferred 12 = .ok (.ireturn, 1) := by decide +kernel
theorem dX7_available_0 : decode cX7_available 0 = .ok (.aload_n 0, 1) := by decide +kernel
theorem dX7_available_1 : decode cX7_available 1 = .ok (.getfield 26, 3) := by decide +kernel
theorem dX7_available_4 : decode cX7_available 4 = .ok (.aload_n 0, 1) := by decide +kernel
theorem dX7_available_5 : decode cX7_available 5 = .ok (.iload_n 1, 1) := by decide +kernel
theorem dX7_available_6 : decode cX7_available 6 = .ok (.invokevirtual 107, 3) := by decide +kernel
theorem dX7_available_9 : decode cX7_available 9 = .ok (.invokevirtual 133, 3) := by decide +kernel
theorem dX7_available_12 : decode cX7_available 12 = .ok (.ireturn, 1) := by decide +kernel
theorem dX7_creditOf_0 : decode cX7_creditOf 0 = .ok (.aload_n 0, 1) := by decide +kernel
theorem dX7_creditOf_1 : decode cX7_creditOf 1 = .ok (.iload_n 1, 1) := by decide +kernel
theorem dX7_creditOf_2 : decode cX7_creditOf 2 = .ok (.invokevirtual 136, 3) := by decide +kernel
theorem dX7_creditOf_5 : decode cX7_creditOf 5 = .ok (.getfield 140, 3) := by decide +kernel
theorem dX7_creditOf_8 : decode cX7_creditOf 8 = .ok (.ireturn, 1) := by decide +kernel
theorem dX7_state_0 : decode cX7_state 0 = .ok (.aload_n 0, 1) := by decide +kernel
theorem dX7_state_1 : decode cX7_state 1 = .ok (.iload_n 1, 1) := by decide +kernel
theorem dX7_state_2 : decode cX7_state 2 = .ok (.invokevirtual 136, 3) := by decide +kernel
theorem dX7_state_5 : decode cX7_state 5 = .ok (.getfield 145, 3) := by decide +kernel
theorem dX7_state_8 : decode cX7_state 8 = .ok (.ireturn, 1) := by decide +kernel
theorem dX7_discrepancies_0 : decode cX7_discrepancies 0 = .ok (.aload_n 0, 1) := by decide +kernel
theorem dX7_discrepancies_1 : decode cX7_discrepancies 1 = .ok (.iload_n 1, 1) := by decide +kernel
theorem dX7_discrepancies_2 : decode cX7_discrepancies 2 = .ok (.invokevirtual 136, 3) := by decide +kernel
theorem dX7_discrepancies_5 : decode cX7_discrepancies 5 = .ok (.getfield 148, 3) := by decide +kernel
theorem dX7_discrepancies_8 : decode cX7_discrepancies 8 = .ok (.ireturn, 1) := by decide +kernel
theorem dX7_deadline_0 : decode cX7_deadline 0 = .ok (.aload_n 0, 1) := by decide +kernel
theorem dX7_deadline_1 : decode cX7_deadline 1 = .ok (.aload_n 0, 1) := by decide +kernel
theorem dX7_deadline_2 : decode cX7_deadline 2 = .ok (.iload_n 1, 1) := by decide +kernel
theorem dX7_deadline_3 : decode cX7_deadline 3 = .ok (.invokevirtual 136, 3) := by decide +kernel
theorem dX7_deadline_6 : decode cX7_deadline 6 = .ok (.invokevirtual 151, 3) := by decide +kernel
theorem dX7_deadline_9 : decode cX7_deadline 9 = .ok (.ireturn, 1) := by decide +kernel
theorem dX7_dueDay_0 : decode cX7_dueDay 0 = .ok (.aload_n 0, 1) := by decide +kernel
theorem dX7_dueDay_1 : decode cX7_dueDay 1 = .ok (.iload_n 1, 1) := by decide +kernel
theorem dX7_dueDay_2 : decode cX7_dueDay 2 = .ok (.invokevirtual 136, 3) := by decide +kernel
theorem dX7_dueDay_5 : decode cX7_dueDay 5 = .ok (.getfield 155, 3) := by decide +kernel
theorem dX7_dueDay_8 : decode cX7_dueDay 8 = .ok (.ireturn, 1) := by decide +kernel
theorem dX7_fee_0 : decode cX7_fee 0 = .ok (.aload_n 0, 1) := by decide +kernel
theorem dX7_fee_1 : decode cX7_fee 1 = .ok (.iload_n 1, 1) := by decide +kernel
theorem dX7_fee_2 : decode cX7_fee 2 = .ok (.invokevirtual 136, 3) := by decide +kernel
theorem dX7_fee_5 : decode cX7_fee 5 = .ok (.astore_n 2, 1) := by decide +kernel
theorem dX7_fee_6 : decode cX7_fee 6 = .ok (.aload_n 0, 1) := by decide +kernel
theorem dX7_fee_7 : decode cX7_fee 7 = .ok (.getfield 26, 3) := by decide +kernel
theorem dX7_fee_10 : decode cX7_fee 10 = .ok (.getfield 158, 3) := by decide +kernel
theorem dX7_fee_13 : decode cX7_fee 13 = .ok (.aload_n 2, 1) := by decide +kernel
theorem dX7_fee_14 : decode cX7_fee 14 = .ok (.getfield 162, 3) := by decide +kernel
theorem dX7_fee_17 : decode cX7_fee 17 = .ok (.aload_n 0, 1) := by decide +kernel
theorem dX7_fee_18 : decode cX7_fee 18 = .ok (.getfield 26, 3) := by decide +kernel
theorem dX7_fee_21 : decode cX7_fee 21 = .ok (.getfield 79, 3) := by decide +kernel
theorem dX7_fee_24 : decode cX7_fee 24 = .ok (.aload_n 2, 1) := by decide +kernel
theorem dX7_fee_25 : decode cX7_fee 25 = .ok (.getfield 165, 3) := by decide +kernel
theorem dX7_fee_28 : decode cX7_fee 28 = .ok (.isub, 1) := by decide +kernel
theorem dX7_fee_29 : decode cX7_fee 29 = .ok (.aload_n 2, 1) := by decide +kernel
theorem dX7_fee_30 : decode cX7_fee 30 = .ok (.getfield 148, 3) := by decide +kernel
theorem dX7_fee_33 : decode cX7_fee 33 = .ok (.invokestatic 168, 3) := by decide +kernel
theorem dX7_fee_36 : decode cX7_fee 36 = .ok (.invokevirtual 173, 3) := by decide +kernel
theorem dX7_fee_39 : decode cX7_fee 39 = .ok (.ireturn, 1) := by decide +kernel
theorem dX7_dueBetween_0 : decode cX7_dueBetween 0 = .ok (.lconst 0, 1) := by decide +kernel
theorem dX7_dueBetween_1 : decode cX7_dueBetween 1 = .ok (.lstore_n 3, 1) := by decide +kernel
theorem dX7_dueBetween_2 : decode cX7_dueBetween 2 = .ok (.aload_n 0, 1) := by decide +kernel
theorem dX7_dueBetween_3 : decode cX7_dueBetween 3 = .ok (.getfield 26, 3) := by decide +kernel
theorem dX7_dueBetween_6 : decode cX7_dueBetween 6 = .ok (.getfield 75, 3) := by decide +kernel
theorem dX7_dueBetween_9 : decode cX7_dueBetween 9 = .ok (.astore 5, 2) := by decide +kernel
theorem dX7_dueBetween_11 : decode cX7_dueBetween 11 = .ok (.aload 5, 2) := by decide +kernel
theorem dX7_dueBetween_13 : decode cX7_dueBetween 13 = .ok (.arraylength, 1) := by decide +kernel
theorem dX7_dueBetween_14 : decode cX7_dueBetween 14 = .ok (.istore 6, 2) := by decide +kernel
theorem dX7_dueBetween_16 : decode cX7_dueBetween 16 = .ok (.iconst 0, 1) := by decide +kernel
theorem dX7_dueBetween_17 : decode cX7_dueBetween 17 = .ok (.istore 7, 2) := by decide +kernel
theorem dX7_dueBetween_19 : decode cX7_dueBetween 19 = .ok (.iload 7, 2) := by decide +kernel
theorem dX7_dueBetween_21 : decode cX7_dueBetween 21 = .ok (.iload 6, 2) := by decide +kernel
theorem dX7_dueBetween_23 : decode cX7_dueBetween 23 = .ok (.if_icmp .ge 57, 3) := by decide +kernel
theorem dX7_dueBetween_26 : decode cX7_dueBetween 26 = .ok (.aload 5, 2) := by decide +kernel
theorem dX7_dueBetween_28 : decode cX7_dueBetween 28 = .ok (.iload 7, 2) := by decide +kernel
theorem dX7_dueBetween_30 : decode cX7_dueBetween 30 = .ok (.aaload, 1) := by decide +kernel
theorem dX7_dueBetween_31 : decode cX7_dueBetween 31 = .ok (.astore 8, 2) := by decide +kernel
theorem dX7_dueBetween_33 : decode cX7_dueBetween 33 = .ok (.aload 8, 2) := by decide +kernel
theorem dX7_dueBetween_35 : decode cX7_dueBetween 35 = .ok (.ifnull 39, 3) := by decide +kernel
theorem dX7_dueBetween_38 : decode cX7_dueBetween 38 = .ok (.aload 8, 2) := by decide +kernel
theorem dX7_dueBetween_40 : decode cX7_dueBetween 40 = .ok (.getfield 145, 3) := by decide +kernel
theorem dX7_dueBetween_43 : decode cX7_dueBetween 43 = .ok (.iconst 2, 1) := by decide +kernel
theorem dX7_dueBetween_44 : decode cX7_dueBetween 44 = .ok (.if_icmp .ne 30, 3) := by decide +kernel
theorem dX7_dueBetween_47 : decode cX7_dueBetween 47 = .ok (.aload 8, 2) := by decide +kernel
theorem dX7_dueBetween_49 : decode cX7_dueBetween 49 = .ok (.getfield 155, 3) := by decide +kernel
theorem dX7_dueBetween_52 : decode cX7_dueBetween 52 = .ok (.iload_n 1, 1) := by decide +kernel
theorem dX7_dueBetween_53 : decode cX7_dueBetween 53 = .ok (.if_icmp .lt 21, 3) := by decide +kernel
theorem dX7_dueBetween_56 : decode cX7_dueBetween 56 = .ok (.aload 8, 2) := by decide +kernel
theorem dX7_dueBetween_58 : decode cX7_dueBetween 58 = .ok (.getfield 155, 3) := by decide +kernel
theorem dX7_dueBetween_61 : decode cX7_dueBetween 61 = .ok (.iload_n 2, 1) := by decide +kernel
theorem dX7_dueBetween_62 : decode cX7_dueBetween 62 = .ok (.if_icmp .gt 12, 3) := by decide +kernel
theorem dX7_dueBetween_65 : decode cX7_dueBetween 65 = .ok (.lload_n 3, 1) := by decide +kernel
theorem dX7_dueBetween_66 : decode cX7_dueBetween 66 = .ok (.aload 8, 2) := by decide +kernel
theorem dX7_dueBetween_68 : decode cX7_dueBetween 68 = .ok (.getfield 162, 3) := by decide +kernel
theorem dX7_dueBetween_71 : decode cX7_dueBetween 71 = .ok (.i2l, 1) := by decide +kernel
theorem dX7_dueBetween_72 : decode cX7_dueBetween 72 = .ok (.ladd, 1) := by decide +kernel
theorem dX7_dueBetween_73 : decode cX7_dueBetween 73 = .ok (.lstore_n 3, 1) := by decide +kernel
theorem dX7_dueBetween_74 : decode cX7_dueBetween 74 = .ok (.iinc 7 1, 3) := by decide +kernel
theorem dX7_dueBetween_77 : decode cX7_dueBetween 77 = .ok (.goto (-58), 3) := by decide +kernel
theorem dX7_dueBetween_80 : decode cX7_dueBetween 80 = .ok (.lload_n 3, 1) := by decide +kernel
theorem dX7_dueBetween_81 : decode cX7_dueBetween 81 = .ok (.lreturn, 1) := by decide +kernel
theorem dX7_check_0 : decode cX7_check 0 = .ok (.aload_n 0, 1) := by decide +kernel
theorem dX7_check_1 : decode cX7_check 1 = .ok (.iload_n 1, 1) := by decide +kernel
theorem dX7_check_2 : decode cX7_check 2 = .ok (.invokevirtual 107, 3) := by decide +kernel
theorem dX7_check_5 : decode cX7_check 5 = .ok (.astore 6, 2) := by decide +kernel
theorem dX7_check_7 : decode cX7_check 7 = .ok (.iload_n 2, 1) := by decide +kernel
theorem dX7_check_8 : decode cX7_check 8 = .ok (.iload_n 3, 1) := by decide +kernel
theorem dX7_check_9 : decode cX7_check 9 = .ok (.iload 4, 2) := by decide +kernel
theorem dX7_check_11 : decode cX7_check 11 = .ok (.iload 5, 2) := by decide +kernel
theorem dX7_check_13 : decode cX7_check 13 = .ok (.invokestatic 179, 3) := by decide +kernel
theorem dX7_check_16 : decode cX7_check 16 = .ok (.aload_n 0, 1) := by decide +kernel
theorem dX7_check_17 : decode cX7_check 17 = .ok (.aload 6, 2) := by decide +kernel
theorem dX7_check_19 : decode cX7_check 19 = .ok (.iload_n 2, 1) := by decide +kernel
theorem dX7_check_20 : decode cX7_check 20 = .ok (.iload_n 3, 1) := by decide +kernel
theorem dX7_check_21 : decode cX7_check 21 = .ok (.iload 4, 2) := by decide +kernel
theorem dX7_check_23 : decode cX7_check 23 = .ok (.iload 5, 2) := by decide +kernel
theorem dX7_check_25 : decode cX7_check 25 = .ok (.invokevirtual 183, 3) := by decide +kernel
theorem dX7_check_28 : decode cX7_check 28 = .ok (.ireturn, 1) := by decide +kernel
theorem dX7_lastDay_0 : decode cX7_lastDay 0 = .ok (.aload_n 0, 1) := by decide +kernel
theorem dX7_lastDay_1 : decode cX7_lastDay 1 = .ok (.iload_n 1, 1) := by decide +kernel
theorem dX7_lastDay_2 : decode cX7_lastDay 2 = .ok (.invokevirtual 107, 3) := by decide +kernel
theorem dX7_lastDay_5 : decode cX7_lastDay 5 = .ok (.astore_n 3, 1) := by decide +kernel
theorem dX7_lastDay_6 : decode cX7_lastDay 6 = .ok (.iload_n 2, 1) := by decide +kernel
theorem dX7_lastDay_7 : decode cX7_lastDay 7 = .ok (.iconst 0, 1) := by decide +kernel
theorem dX7_lastDay_8 : decode cX7_lastDay 8 = .ok (.sipush 9999, 3) := by decide +kernel
theorem dX7_lastDay_11 : decode cX7_lastDay 11 = .ok (.invokestatic 82, 3) := by decide +kernel
theorem dX7_lastDay_14 : decode cX7_lastDay 14 = .ok (.aload_n 0, 1) := by decide +kernel
theorem dX7_lastDay_15 : decode cX7_lastDay 15 = .ok (.aload_n 3, 1) := by decide +kernel
theorem dX7_lastDay_16 : decode cX7_lastDay 16 = .ok (.iload_n 2, 1) := by decide +kernel
theorem dX7_lastDay_17 : decode cX7_lastDay 17 = .ok (.invokevirtual 187, 3) := by decide +kernel
theorem dX7_lastDay_20 : decode cX7_lastDay 20 = .ok (.ireturn, 1) := by decide +kernel
theorem dX7_bestFit_0 : decode cX7_bestFit 0 = .ok (.aload_n 0, 1) := by decide +kernel
theorem dX7_bestFit_1 : decode cX7_bestFit 1 = .ok (.iload_n 1, 1) := by decide +kernel
theorem dX7_bestFit_2 : decode cX7_bestFit 2 = .ok (.invokevirtual 107, 3) := by decide +kernel
theorem dX7_bestFit_5 : decode cX7_bestFit 5 = .ok (.astore_n 2, 1) := by decide +kernel
theorem dX7_bestFit_6 : decode cX7_bestFit 6 = .ok (.new 191, 3) := by decide +kernel
theorem dX7_bestFit_9 : decode cX7_bestFit 9 = .ok (.dup, 1) := by decide +kernel
theorem dX7_bestFit_10 : decode cX7_bestFit 10 = .ok (.aload_n 0, 1) := by decide +kernel
theorem dX7_bestFit_11 : decode cX7_bestFit 11 = .ok (.getfield 26, 3) := by decide +kernel
theorem dX7_bestFit_14 : decode cX7_bestFit 14 = .ok (.aload_n 2, 1) := by decide +kernel
theorem dX7_bestFit_15 : decode cX7_bestFit 15 = .ok (.invokevirtual 133, 3) := by decide +kernel
theorem dX7_bestFit_18 : decode cX7_bestFit 18 = .ok (.invokespecial 193, 3) := by decide +kernel
theorem dX7_bestFit_21 : decode cX7_bestFit 21 = .ok (.astore_n 3, 1) := by decide +kernel
theorem dX7_bestFit_22 : decode cX7_bestFit 22 = .ok (.iconst 0, 1) := by decide +kernel
theorem dX7_bestFit_23 : decode cX7_bestFit 23 = .ok (.istore 4, 2) := by decide +kernel
theorem dX7_bestFit_25 : decode cX7_bestFit 25 = .ok (.iload 4, 2) := by decide +kernel
theorem dX7_bestFit_27 : decode cX7_bestFit 27 = .ok (.aload_n 0, 1) := by decide +kernel
theorem dX7_bestFit_28 : decode cX7_bestFit 28 = .ok (.getfield 26, 3) := by decide +kernel
theorem dX7_bestFit_31 : decode cX7_bestFit 31 = .ok (.getfield 75, 3) := by decide +kernel
theorem dX7_bestFit_34 : decode cX7_bestFit 34 = .ok (.arraylength, 1) := by decide +kernel
theorem dX7_bestFit_35 : decode cX7_bestFit 35 = .ok (.if_icmp .ge 58, 3) := by decide +kernel
theorem dX7_bestFit_38 : decode cX7_bestFit 38 = .ok (.aload_n 0, 1) := by decide +kernel
theorem dX7_bestFit_39 : decode cX7_bestFit 39 = .ok (.getfield 26, 3) := by decide +kernel
theorem dX7_bestFit_42 : decode cX7_bestFit 42 = .ok (.getfield 75, 3) := by decide +kernel
theorem dX7_bestFit_45 : decode cX7_bestFit 45 = .ok (.iload 4, 2) := by decide +kernel
theorem dX7_bestFit_47 : decode cX7_bestFit 47 = .ok (.aaload, 1) := by decide +kernel
theorem dX7_bestFit_48 : decode cX7_bestFit 48 = .ok (.astore 5, 2) := by decide +kernel
theorem dX7_bestFit_50 : decode cX7_bestFit 50 = .ok (.aload 5, 2) := by decide +kernel
theorem dX7_bestFit_52 : decode cX7_bestFit 52 = .ok (.ifnull 35, 3) := by decide +kernel
theorem dX7_bestFit_55 : decode cX7_bestFit 55 = .ok (.aload 5, 2) := by decide +kernel
theorem dX7_bestFit_57 : decode cX7_bestFit 57 = .ok (.getfield 140, 3) := by decide +kernel
theorem dX7_bestFit_60 : decode cX7_bestFit 60 = .ok (.aload_n 2, 1) := by decide +kernel
theorem dX7_bestFit_61 : decode cX7_bestFit 61 = .ok (.getfield 195, 3) := by decide +kernel
theorem dX7_bestFit_64 : decode cX7_bestFit 64 = .ok (.if_icmp .ne 23, 3) := by decide +kernel
theorem dX7_bestFit_67 : decode cX7_bestFit 67 = .ok (.aload 5, 2) := by decide +kernel
theorem dX7_bestFit_69 : decode cX7_bestFit 69 = .ok (.getfield 145, 3) := by decide +kernel
theorem dX7_bestFit_72 : decode cX7_bestFit 72 = .ok (.iconst 3, 1) := by decide +kernel
theorem dX7_bestFit_73 : decode cX7_bestFit 73 = .ok (.if_icmp .ne 14, 3) := by decide +kernel
theorem dX7_bestFit_76 : decode cX7_bestFit 76 = .ok (.aload_n 3, 1) := by decide +kernel
theorem dX7_bestFit_77 : decode cX7_bestFit 77 = .ok (.iload 4, 2) := by decide +kernel
theorem dX7_bestFit_79 : decode cX7_bestFit 79 = .ok (.aload 5, 2) := by decide +kernel
theorem dX7_bestFit_81 : decode cX7_bestFit 81 = .ok (.getfield 162, 3) := by decide +kernel
theorem dX7_bestFit_84 : decode cX7_bestFit 84 = .ok (.invokevirtual 198, 3) := by decide +kernel
theorem dX7_bestFit_87 : decode cX7_bestFit 87 = .ok (.iinc 4 1, 3) := by decide +kernel
theorem dX7_bestFit_90 : decode cX7_bestFit 90 = .ok (.goto (-65), 3) := by decide +kernel
theorem dX7_bestFit_93 : decode cX7_bestFit 93 = .ok (.aload_n 3, 1) := by decide +kernel
theorem dX7_bestFit_94 : decode cX7_bestFit 94 = .ok (.invokevirtual 202, 3) := by decide +kernel
theorem dX7_bestFit_97 : decode cX7_bestFit 97 = .ok (.ireturn, 1) := by decide +kernel
theorem dX7_present_0 : decode cX7_present 0 = .ok (.aload_n 0, 1) := by decide +kernel
theorem dX7_present_1 : decode cX7_present 1 = .ok (.iload_n 1, 1) := by decide +kernel
theorem dX7_present_2 : decode cX7_present 2 = .ok (.invokevirtual 107, 3) := by decide +kernel
theorem dX7_present_5 : decode cX7_present 5 = .ok (.astore 6, 2) := by decide +kernel
theorem dX7_present_7 : decode cX7_present 7 = .ok (.iload_n 2, 1) := by decide +kernel
theorem dX7_present_8 : decode cX7_present 8 = .ok (.iload_n 3, 1) := by decide +kernel
theorem dX7_present_9 : decode cX7_present 9 = .ok (.iload 4, 2) := by decide +kernel
theorem dX7_present_11 : decode cX7_present 11 = .ok (.iload 5, 2) := by decide +kernel
theorem dX7_present_13 : decode cX7_present 13 = .ok (.invokestatic 179, 3) := by decide +kernel
theorem dX7_present_16 : decode cX7_present 16 = .ok (.aload_n 0, 1) := by decide +kernel
theorem dX7_present_17 : decode cX7_present 17 = .ok (.getfield 26, 3) := by decide +kernel
theorem dX7_present_20 : decode cX7_present 20 = .ok (.getfield 75, 3) := by decide +kernel
theorem dX7_present_23 : decode cX7_present 23 = .ok (.arraylength, 1) := by decide +kernel
theorem dX7_present_24 : decode cX7_present 24 = .ok (.bipush 24, 2) := by decide +kernel
theorem dX7_present_26 : decode cX7_present 26 = .ok (.if_icmp .lt 13, 3) := by decide +kernel
theorem dX7_present_29 : decode cX7_present 29 = .ok (.new 205, 3) := by decide +kernel
theorem dX7_present_32 : decode cX7_present 32 = .ok (.dup, 1) := by decide +kernel
theorem dX7_present_33 : decode cX7_present 33 = .ok (.ldc 207, 2) := by decide +kernel
theorem dX7_present_35 : decode cX7_present 35 = .ok (.invokespecial 209, 3) := by decide +kernel
theorem dX7_present_38 : decode cX7_present 38 = .ok (.athrow, 1) := by decide +kernel
theorem dX7_present_39 : decode cX7_present 39 = .ok (.aload_n 0, 1) := by decide +kernel
theorem dX7_present_40 : decode cX7_present 40 = .ok (.aload 6, 2) := by decide +kernel
theorem dX7_present_42 : decode cX7_present 42 = .ok (.iload_n 2, 1) := by decide +kernel
theorem dX7_present_43 : decode cX7_present 43 = .ok (.iload_n 3, 1) := by decide +kernel
theorem dX7_present_44 : decode cX7_present 44 = .ok (.iload 4, 2) := by decide +kernel
theorem dX7_present_46 : decode cX7_present 46 = .ok (.iload 5, 2) := by decide +kernel
theorem dX7_present_48 : decode cX7_present 48 = .ok (.invokevirtual 183, 3) := by decide +kernel
theorem dX7_present_51 : decode cX7_present 51 = .ok (.istore 7, 2) := by decide +kernel
theorem dX7_present_53 : decode cX7_present 53 = .ok (.aload_n 0, 1) := by decide +kernel
theorem dX7_present_54 : decode cX7_present 54 = .ok (.getfield 26, 3) := by decide +kernel
theorem dX7_present_57 : decode cX7_present 57 = .ok (.getfield 75, 3) := by decide +kernel
theorem dX7_present_60 : decode cX7_present 60 = .ok (.arraylength, 1) := by decide +kernel
theorem dX7_present_61 : decode cX7_present 61 = .ok (.istore 8, 2) := by decide +kernel
theorem dX7_present_63 : decode cX7_present 63 = .ok (.aload_n 0, 1) := by decide +kernel
theorem dX7_present_64 : decode cX7_present 64 = .ok (.aload_n 0, 1) := by decide +kernel
theorem dX7_present_65 : decode cX7_present 65 = .ok (.getfield 26, 3) := by decide +kernel
theorem dX7_present_68 : decode cX7_present 68 = .ok (.new 141, 3) := by decide +kernel
theorem dX7_present_71 : decode cX7_present 71 = .ok (.dup, 1) := by decide +kernel
theorem dX7_present_72 : decode cX7_present 72 = .ok (.iload_n 1, 1) := by decide +kernel
theorem dX7_present_73 : decode cX7_present 73 = .ok (.aload_n 0, 1) := by decide +kernel
theorem dX7_present_74 : decode cX7_present 74 = .ok (.getfield 26, 3) := by decide +kernel
theorem dX7_present_77 : decode cX7_present 77 = .ok (.getfield 79, 3) := by decide +kernel
theorem dX7_present_80 : decode cX7_present 80 = .ok (.iload_n 3, 1) := by decide +kernel
theorem dX7_present_81 : decode cX7_present 81 = .ok (.iload 7, 2) := by decide +kernel
theorem dX7_present_83 : decode cX7_present 83 = .ok (.iconst 0, 1) := by decide +kernel
theorem dX7_present_84 : decode cX7_present 84 = .ok (.iconst (-1), 1) := by decide +kernel
theorem dX7_present_85 : decode cX7_present 85 = .ok (.invokespecial 210, 3) := by decide +kernel
theorem dX7_present_88 : decode cX7_present 88 = .ok (.invokevirtual 213, 3) := by decide +kernel
theorem dX7_present_91 : decode cX7_present 91 = .ok (.invokevirtual 67, 3) := by decide +kernel
theorem dX7_present_94 : decode cX7_present 94 = .ok (.iload 8, 2) := by decide +kernel
theorem dX7_present_96 : decode cX7_present 96 = .ok (.ireturn, 1) := by decide +kernel
theorem dX7_examine_0 : decode cX7_examine 0 = .ok (.aload_n 0, 1) := by decide +kernel
theorem dX7_examine_1 : decode cX7_examine 1 = .ok (.iload_n 1, 1) := by decide +kernel
theorem dX7_examine_2 : decode cX7_examine 2 = .ok (.invokevirtual 136, 3) := by decide +kernel
theorem dX7_examine_5 : decode cX7_examine 5 = .ok (.astore_n 2, 1) := by decide +kernel
theorem dX7_examine_6 : decode cX7_examine 6 = .ok (.aload_n 2, 1) := by decide +kernel
theorem dX7_examine_7 : decode cX7_examine 7 = .ok (.getfield 145, 3) := by decide +kernel
theorem dX7_examine_10 : decode cX7_examine 10 = .ok (.ifCond .eq 13, 3) := by decide +kernel
theorem dX7_examine_13 : decode cX7_examine 13 = .ok (.new 205, 3) := by decide +kernel
theorem dX7_examine_16 : decode cX7_examine 16 = .ok (.dup, 1) := by decide +kernel
theorem dX7_examine_17 : decode cX7_examine 17 = .ok (.ldc 217, 2) := by decide +kernel
theorem dX7_examine_19 : decode cX7_examine 19 = .ok (.invokespecial 209, 3) := by decide +kernel
theorem dX7_examine_22 : decode cX7_examine 22 = .ok (.athrow, 1) := by decide +kernel
theorem dX7_examine_23 : decode cX7_examine 23 = .ok (.aload_n 0, 1) := by decide +kernel
theorem dX7_examine_24 : decode cX7_examine 24 = .ok (.aload_n 2, 1) := by decide +kernel
theorem dX7_examine_25 : decode cX7_examine 25 = .ok (.invokevirtual 219, 3) := by decide +kernel
theorem dX7_examine_28 : decode cX7_examine 28 = .ok (.istore_n 3, 1) := by decide +kernel
theorem dX7_examine_29 : decode cX7_examine 29 = .ok (.aload_n 0, 1) := by decide +kernel
theorem dX7_examine_30 : decode cX7_examine 30 = .ok (.iload_n 1, 1) := by decide +kernel
theorem dX7_examine_31 : decode cX7_examine 31 = .ok (.aload_n 2, 1) := by decide +kernel
theorem dX7_examine_32 : decode cX7_examine 32 = .ok (.iload_n 3, 1) := by decide +kernel
theorem dX7_examine_33 : decode cX7_examine 33 = .ok (.invokevirtual 222, 3) := by decide +kernel
theorem dX7_examine_36 : decode cX7_examine 36 = .ok (.iload_n 3, 1) := by decide +kernel
theorem dX7_examine_37 : decode cX7_examine 37 = .ok (.ireturn, 1) := by decide +kernel
theorem dX7_waive_0 : decode cX7_waive 0 = .ok (.aload_n 0, 1) := by decide +kernel
theorem dX7_waive_1 : decode cX7_waive 1 = .ok (.iload_n 1, 1) := by decide +kernel
theorem dX7_waive_2 : decode cX7_waive 2 = .ok (.invokevirtual 136, 3) := by decide +kernel
theorem dX7_waive_5 : decode cX7_waive 5 = .ok (.astore_n 2, 1) := by decide +kernel
theorem dX7_waive_6 : decode cX7_waive 6 = .ok (.aload_n 2, 1) := by decide +kernel
theorem dX7_waive_7 : decode cX7_waive 7 = .ok (.getfield 145, 3) := by decide +kernel
theorem dX7_waive_10 : decode cX7_waive 10 = .ok (.iconst 1, 1) := by decide +kernel
theorem dX7_waive_11 : decode cX7_waive 11 = .ok (.if_icmp .ne 11, 3) := by decide +kernel
theorem dX7_waive_14 : decode cX7_waive 14 = .ok (.aload_n 2, 1) := by decide +kernel
theorem dX7_waive_15 : decode cX7_waive 15 = .ok (.iconst 4, 1) := by decide +kernel
theorem dX7_waive_16 : decode cX7_waive 16 = .ok (.invokevirtual 226, 3) := by decide +kernel
theorem dX7_waive_19 : decode cX7_waive 19 = .ok (.ifCond .eq 13, 3) := by decide +kernel
theorem dX7_waive_22 : decode cX7_waive 22 = .ok (.new 205, 3) := by decide +kernel
theorem dX7_waive_25 : decode cX7_waive 25 = .ok (.dup, 1) := by decide +kernel
theorem dX7_waive_26 : decode cX7_waive 26 = .ok (.ldc 229, 2) := by decide +kernel
theorem dX7_waive_28 : decode cX7_waive 28 = .ok (.invokespecial 209, 3) := by decide +kernel
theorem dX7_waive_31 : decode cX7_waive 31 = .ok (.athrow, 1) := by decide +kernel
theorem dX7_waive_32 : decode cX7_waive 32 = .ok (.aload_n 0, 1) := by decide +kernel
theorem dX7_waive_33 : decode cX7_waive 33 = .ok (.iload_n 1, 1) := by decide +kernel
theorem dX7_waive_34 : decode cX7_waive 34 = .ok (.aload_n 2, 1) := by decide +kernel
theorem dX7_waive_35 : decode cX7_waive 35 = .ok (.iconst 2, 1) := by decide +kernel
theorem dX7_waive_36 : decode cX7_waive 36 = .ok (.invokevirtual 222, 3) := by decide +kernel
theorem dX7_waive_39 : decode cX7_waive 39 = .ok (.aload_n 0, 1) := by decide +kernel
theorem dX7_waive_40 : decode cX7_waive 40 = .ok (.iload_n 1, 1) := by decide +kernel
theorem dX7_waive_41 : decode cX7_waive 41 = .ok (.invokevirtual 136, 3) := by decide +kernel
theorem dX7_waive_44 : decode cX7_waive 44 = .ok (.getfield 155, 3) := by decide +kernel
theorem dX7_waive_47 : decode cX7_waive 47 = .ok (.ireturn, 1) := by decide +kernel
theorem dX7_refuse_0 : decode cX7_refuse 0 = .ok (.aload_n 0, 1) := by decide +kernel
theorem dX7_refuse_1 : decode cX7_refuse 1 = .ok (.iload_n 1, 1) := by decide +kernel
theorem dX7_refuse_2 : decode cX7_refuse 2 = .ok (.invokevirtual 136, 3) := by decide +kernel
theorem dX7_refuse_5 : decode cX7_refuse 5 = .ok (.astore_n 2, 1) := by decide +kernel
theorem dX7_refuse_6 : decode cX7_refuse 6 = .ok (.aload_n 2, 1) := by decide +kernel
theorem dX7_refuse_7 : decode cX7_refuse 7 = .ok (.getfield 145, 3) := by decide +kernel
theorem dX7_refuse_10 : decode cX7_refuse 10 = .ok (.iconst 1, 1) := by decide +kernel
theorem dX7_refuse_11 : decode cX7_refuse 11 = .ok (.if_icmp .eq 13, 3) := by decide +kernel
theorem dX7_refuse_14 : decode cX7_refuse 14 = .ok (.new 205, 3) := by decide +kernel
theorem dX7_refuse_17 : decode cX7_refuse 17 = .ok (.dup, 1) := by decide +kernel
theorem dX7_refuse_18 : decode cX7_refuse 18 = .ok (.ldc 231, 2) := by decide +kernel
theorem dX7_refuse_20 : decode cX7_refuse 20 = .ok (.invokespecial 209, 3) := by decide +kernel
theorem dX7_refuse_23 : decode cX7_refuse 23 = .ok (.athrow, 1) := by decide +kernel
theorem dX7_refuse_24 : decode cX7_refuse 24 = .ok (.aload_n 0, 1) := by decide +kernel
theorem dX7_refuse_25 : decode cX7_refuse 25 = .ok (.iload_n 1, 1) := by decide +kernel
theorem dX7_refuse_26 : decode cX7_refuse 26 = .ok (.aload_n 2, 1) := by decide +kernel
theorem dX7_refuse_27 : decode cX7_refuse 27 = .ok (.iconst 3, 1) := by decide +kernel
theorem dX7_refuse_28 : decode cX7_refuse 28 = .ok (.invokevirtual 222, 3) := by decide +kernel
theorem dX7_refuse_31 : decode cX7_refuse 31 = .ok (.aload_n 0, 1) := by decide +kernel
theorem dX7_refuse_32 : decode cX7_refuse 32 = .ok (.getfield 26, 3) := by decide +kernel
theorem dX7_refuse_35 : decode cX7_refuse 35 = .ok (.aload_n 0, 1) := by decide +kernel
theorem dX7_refuse_36 : decode cX7_refuse 36 = .ok (.aload_n 2, 1) := by decide +kernel
theorem dX7_refuse_37 : decode cX7_refuse 37 = .ok (.getfield 140, 3) := by decide +kernel
theorem dX7_refuse_40 : decode cX7_refuse 40 = .ok (.invokevirtual 107, 3) := by decide +kernel
theorem dX7_refuse_43 : decode cX7_refuse 43 = .ok (.invokevirtual 133, 3) := by decide +kernel
theorem dX7_refuse_46 : decode cX7_refuse 46 = .ok (.ireturn, 1) := by decide +kernel
theorem dX7_transfer_0 : decode cX7_transfer 0 = .ok (.aload_n 0, 1) := by decide +kernel
theorem dX7_transfer_1 : decode cX7_transfer 1 = .ok (.iload_n 1, 1) := by decide +kernel
theorem dX7_transfer_2 : decode cX7_transfer 2 = .ok (.invokevirtual 107, 3) := by decide +kernel
theorem dX7_transfer_5 : decode cX7_transfer 5 = .ok (.astore 4, 2) := by decide +kernel
theorem dX7_transfer_7 : decode cX7_transfer 7 = .ok (.iload_n 2, 1) := by decide +kernel
theorem dX7_transfer_8 : decode cX7_transfer 8 = .ok (.iconst 1, 1) := by decide +kernel
theorem dX7_transfer_9 : decode cX7_transfer 9 = .ok (.ldc 233, 2) := by decide +kernel
theorem dX7_transfer_11 : decode cX7_transfer 11 = .ok (.invokestatic 82, 3) := by decide +kernel
theorem dX7_transfer_14 : decode cX7_transfer 14 = .ok (.iload_n 3, 1) := by decide +kernel
theorem dX7_transfer_15 : decode cX7_transfer 15 = .ok (.iconst 0, 1) := by decide +kernel
theorem dX7_transfer_16 : decode cX7_transfer 16 = .ok (.sipush 999, 3) := by decide +kernel
theorem dX7_transfer_19 : decode cX7_transfer 19 = .ok (.invokestatic 82, 3) := by decide +kernel
theorem dX7_transfer_22 : decode cX7_transfer 22 = .ok (.iload_n 3, 1) := by decide +kernel
theorem dX7_transfer_23 : decode cX7_transfer 23 = .ok (.aload 4, 2) := by decide +kernel
theorem dX7_transfer_25 : decode cX7_transfer 25 = .ok (.getfield 123, 3) := by decide +kernel
theorem dX7_transfer_28 : decode cX7_transfer 28 = .ok (.if_icmp .le 13, 3) := by decide +kernel
theorem dX7_transfer_31 : decode cX7_transfer 31 = .ok (.new 41, 3) := by decide +kernel
theorem dX7_transfer_34 : decode cX7_transfer 34 = .ok (.dup, 1) := by decide +kernel
theorem dX7_transfer_35 : decode cX7_transfer 35 = .ok (.ldc 234, 2) := by decide +kernel
theorem dX7_transfer_37 : decode cX7_transfer 37 = .ok (.invokespecial 45, 3) := by decide +kernel
theorem dX7_transfer_40 : decode cX7_transfer 40 = .ok (.athrow, 1) := by decide +kernel
theorem dX7_transfer_41 : decode cX7_transfer 41 = .ok (.aload_n 0, 1) := by decide +kernel
theorem dX7_transfer_42 : decode cX7_transfer 42 = .ok (.aload 4, 2) := by decide +kernel
theorem dX7_transfer_44 : decode cX7_transfer 44 = .ok (.iload_n 2, 1) := by decide +kernel
theorem dX7_transfer_45 : decode cX7_transfer 45 = .ok (.invokevirtual 236, 3) := by decide +kernel
theorem dX7_transfer_48 : decode cX7_transfer 48 = .ok (.ifCond .ne 13, 3) := by decide +kernel
theorem dX7_transfer_51 : decode cX7_transfer 51 = .ok (.new 205, 3) := by decide +kernel
theorem dX7_transfer_54 : decode cX7_transfer 54 = .ok (.dup, 1) := by decide +kernel
theorem dX7_transfer_55 : decode cX7_transfer 55 = .ok (.ldc 240, 2) := by decide +kernel
theorem dX7_transfer_57 : decode cX7_transfer 57 = .ok (.invokespecial 209, 3) := by decide +kernel
theorem dX7_transfer_60 : decode cX7_transfer 60 = .ok (.athrow, 1) := by decide +kernel
theorem dX7_transfer_61 : decode cX7_transfer 61 = .ok (.aload 4, 2) := by decide +kernel
theorem dX7_transfer_63 : decode cX7_transfer 63 = .ok (.aload_n 0, 1) := by decide +kernel
theorem dX7_transfer_64 : decode cX7_transfer 64 = .ok (.getfield 26, 3) := by decide +kernel
theorem dX7_transfer_67 : decode cX7_transfer 67 = .ok (.getfield 71, 3) := by decide +kernel
theorem dX7_transfer_70 : decode cX7_transfer 70 = .ok (.arraylength, 1) := by decide +kernel
theorem dX7_transfer_71 : decode cX7_transfer 71 = .ok (.iload_n 2, 1) := by decide +kernel
theorem dX7_transfer_72 : decode cX7_transfer 72 = .ok (.iload_n 3, 1) := by decide +kernel
theorem dX7_transfer_73 : decode cX7_transfer 73 = .ok (.invokevirtual 242, 3) := by decide +kernel
theorem dX7_transfer_76 : decode cX7_transfer 76 = .ok (.astore 5, 2) := by decide +kernel
theorem dX7_transfer_78 : decode cX7_transfer 78 = .ok (.aload_n 0, 1) := by decide +kernel
theorem dX7_transfer_79 : decode cX7_transfer 79 = .ok (.aload_n 0, 1) := by decide +kernel
theorem dX7_transfer_80 : decode cX7_transfer 80 = .ok (.getfield 26, 3) := by decide +kernel
theorem dX7_transfer_83 : decode cX7_transfer 83 = .ok (.aload 5, 2) := by decide +kernel
theorem dX7_transfer_85 : decode cX7_transfer 85 = .ok (.invokevirtual 246, 3) := by decide +kernel
theorem dX7_transfer_88 : decode cX7_transfer 88 = .ok (.invokevirtual 67, 3) := by decide +kernel
theorem dX7_transfer_91 : decode cX7_transfer 91 = .ok (.aload 5, 2) := by decide +kernel
theorem dX7_transfer_93 : decode cX7_transfer 93 = .ok (.getfield 195, 3) := by decide +kernel
theorem dX7_transfer_96 : decode cX7_transfer 96 = .ok (.ireturn, 1) := by decide +kernel
theorem dX7_pass_0 : decode cX7_pass 0 = .ok (.iload_n 1, 1) := by decide +kernel
theorem dX7_pass_1 : decode cX7_pass 1 = .ok (.iconst 1, 1) := by decide +kernel
theorem dX7_pass_2 : decode cX7_pass 2 = .ok (.sipush 365, 3) := by decide +kernel
theorem dX7_pass_5 : decode cX7_pass 5 = .ok (.invokestatic 82, 3) := by decide +kernel
theorem dX7_pass_8 : decode cX7_pass 8 = .ok (.aload_n 0, 1) := by decide +kernel
theorem dX7_pass_9 : decode cX7_pass 9 = .ok (.getfield 26, 3) := by decide +kernel
theorem dX7_pass_12 : decode cX7_pass 12 = .ok (.getfield 79, 3) := by decide +kernel
theorem dX7_pass_15 : decode cX7_pass 15 = .ok (.iload_n 1, 1) := by decide +kernel
theorem dX7_pass_16 : decode cX7_pass 16 = .ok (.iadd, 1) := by decide +kernel
theorem dX7_pass_17 : decode cX7_pass 17 = .ok (.sipush 9000, 3) := by decide +kernel
theorem dX7_pass_20 : decode cX7_pass 20 = .ok (.if_icmp .le 13, 3) := by decide +kernel
theorem dX7_pass_23 : decode cX7_pass 23 = .ok (.new 205, 3) := by decide +kernel
theorem dX7_pass_26 : decode cX7_pass 26 = .ok (.dup, 1) := by decide +kernel
theorem dX7_pass_27 : decode cX7_pass 27 = .ok (.ldc 250, 2) := by decide +kernel
theorem dX7_pass_29 : decode cX7_pass 29 = .ok (.invokespecial 209, 3) := by decide +kernel
theorem dX7_pass_32 : decode cX7_pass 32 = .ok (.athrow, 1) := by decide +kernel
theorem dX7_pass_33 : decode cX7_pass 33 = .ok (.aload_n 0, 1) := by decide +kernel
theorem dX7_pass_34 : decode cX7_pass 34 = .ok (.aload_n 0, 1) := by decide +kernel
theorem dX7_pass_35 : decode cX7_pass 35 = .ok (.getfield 26, 3) := by decide +kernel
theorem dX7_pass_38 : decode cX7_pass 38 = .ok (.aload_n 0, 1) := by decide +kernel
theorem dX7_pass_39 : decode cX7_pass 39 = .ok (.getfield 26, 3) := by decide +kernel
theorem dX7_pass_42 : decode cX7_pass 42 = .ok (.getfield 79, 3) := by decide +kernel
theorem dX7_pass_45 : decode cX7_pass 45 = .ok (.iload_n 1, 1) := by decide +kernel
theorem dX7_pass_46 : decode cX7_pass 46 = .ok (.iadd, 1) := by decide +kernel
theorem dX7_pass_47 : decode cX7_pass 47 = .ok (.invokevirtual 252, 3) := by decide +kernel
theorem dX7_pass_50 : decode cX7_pass 50 = .ok (.invokevirtual 67, 3) := by decide +kernel
theorem dX7_pass_53 : decode cX7_pass 53 = .ok (.aload_n 0, 1) := by decide +kernel
theorem dX7_pass_54 : decode cX7_pass 54 = .ok (.getfield 26, 3) := by decide +kernel
theorem dX7_pass_57 : decode cX7_pass 57 = .ok (.getfield 79, 3) := by decide +kernel
theorem dX7_pass_60 : decode cX7_pass 60 = .ok (.ireturn, 1) := by decide +kernel
theorem dX7_undo_0 : decode cX7_undo 0 = .ok (.aload_n 0, 1) := by decide +kernel
theorem dX7_undo_1 : decode cX7_undo 1 = .ok (.getfield 34, 3) := by decide +kernel
theorem dX7_undo_4 : decode cX7_undo 4 = .ok (.ifCond .le 29, 3) := by decide +kernel
theorem dX7_undo_7 : decode cX7_undo 7 = .ok (.aload_n 0, 1) := by decide +kernel
theorem dX7_undo_8 : decode cX7_undo 8 = .ok (.getfield 34, 3) := by decide +kernel
theorem dX7_undo_11 : decode cX7_undo 11 = .ok (.aload_n 0, 1) := by decide +kernel
theorem dX7_undo_12 : decode cX7_undo 12 = .ok (.getfield 30, 3) := by decide +kernel
theorem dX7_undo_15 : decode cX7_undo 15 = .ok (.arraylength, 1) := by decide +kernel
theorem dX7_undo_16 : decode cX7_undo 16 = .ok (.if_icmp .gt 17, 3) := by decide +kernel
theorem dX7_undo_19 : decode cX7_undo 19 = .ok (.aload_n 0, 1) := by decide +kernel
theorem dX7_undo_20 : decode cX7_undo 20 = .ok (.getfield 30, 3) := by decide +kernel
theorem dX7_undo_23 : decode cX7_undo 23 = .ok (.aload_n 0, 1) := by decide +kernel
theorem dX7_undo_24 : decode cX7_undo 24 = .ok (.getfield 34, 3) := by decide +kernel
theorem dX7_undo_27 : decode cX7_undo 27 = .ok (.iconst 1, 1) := by decide +kernel
theorem dX7_undo_28 : decode cX7_undo 28 = .ok (.isub, 1) := by decide +kernel
theorem dX7_undo_29 : decode cX7_undo 29 = .ok (.aaload, 1) := by decide +kernel
theorem dX7_undo_30 : decode cX7_undo 30 = .ok (.goto 4, 3) := by decide +kernel
theorem dX7_undo_33 : decode cX7_undo 33 = .ok (.aconst_null, 1) := by decide +kernel
theorem dX7_undo_34 : decode cX7_undo 34 = .ok (.astore_n 1, 1) := by decide +kernel
theorem dX7_undo_35 : decode cX7_undo 35 = .ok (.aload_n 1, 1) := by decide +kernel
theorem dX7_undo_36 : decode cX7_undo 36 = .ok (.ifnonnull 5, 3) := by decide +kernel
theorem dX7_undo_39 : decode cX7_undo 39 = .ok (.iconst (-1), 1) := by decide +kernel
theorem dX7_undo_40 : decode cX7_undo 40 = .ok (.ireturn, 1) := by decide +kernel
theorem dX7_undo_41 : decode cX7_undo 41 = .ok (.aload_n 0, 1) := by decide +kernel
theorem dX7_undo_42 : decode cX7_undo 42 = .ok (.aload_n 1, 1) := by decide +kernel
theorem dX7_undo_43 : decode cX7_undo 43 = .ok (.putfield 26, 3) := by decide +kernel
theorem dX7_undo_46 : decode cX7_undo 46 = .ok (.aload_n 0, 1) := by decide +kernel
theorem dX7_undo_47 : decode cX7_undo 47 = .ok (.dup, 1) := by decide +kernel
theorem dX7_undo_48 : decode cX7_undo 48 = .ok (.getfield 34, 3) := by decide +kernel
theorem dX7_undo_51 : decode cX7_undo 51 = .ok (.iconst 1, 1) := by decide +kernel
theorem dX7_undo_52 : decode cX7_undo 52 = .ok (.isub, 1) := by decide +kernel
theorem dX7_undo_53 : decode cX7_undo 53 = .ok (.putfield 34, 3) := by decide +kernel
theorem dX7_undo_56 : decode cX7_undo 56 = .ok (.aload_n 0, 1) := by decide +kernel
theorem dX7_undo_57 : decode cX7_undo 57 = .ok (.getfield 34, 3) := by decide +kernel
theorem dX7_undo_60 : decode cX7_undo 60 = .ok (.ireturn, 1) := by decide +kernel
theorem dX7_checksum_0 : decode cX7_checksum 0 = .ok (.aload_n 0, 1) := by decide +kernel
theorem dX7_checksum_1 : decode cX7_checksum 1 = .ok (.getfield 26, 3) := by decide +kernel
theorem dX7_checksum_4 : decode cX7_checksum 4 = .ok (.getfield 79, 3) := by decide +kernel
theorem dX7_checksum_7 : decode cX7_checksum 7 = .ok (.i2l, 1) := by decide +kernel
theorem dX7_checksum_8 : decode cX7_checksum 8 = .ok (.lstore_n 1, 1) := by decide +kernel
theorem dX7_checksum_9 : decode cX7_checksum 9 = .ok (.aload_n 0, 1) := by decide +kernel
theorem dX7_checksum_10 : decode cX7_checksum 10 = .ok (.getfield 26, 3) := by decide +kernel
theorem dX7_checksum_13 : decode cX7_checksum 13 = .ok (.getfield 71, 3) := by decide +kernel
theorem dX7_checksum_16 : decode cX7_checksum 16 = .ok (.astore_n 3, 1) := by decide +kernel
theorem dX7_checksum_17 : decode cX7_checksum 17 = .ok (.aload_n 3, 1) := by decide +kernel
theorem dX7_checksum_18 : decode cX7_checksum 18 = .ok (.arraylength, 1) := by decide +kernel
theorem dX7_checksum_19 : decode cX7_checksum 19 = .ok (.istore 4, 2) := by decide +kernel
theorem dX7_checksum_21 : decode cX7_checksum 21 = .ok (.iconst 0, 1) := by decide +kernel
theorem dX7_checksum_22 : decode cX7_checksum 22 = .ok (.istore 5, 2) := by decide +kernel
theorem dX7_checksum_24 : decode cX7_checksum 24 = .ok (.iload 5, 2) := by decide +kernel
theorem dX7_checksum_26 : decode cX7_checksum 26 = .ok (.iload 4, 2) := by decide +kernel
theorem dX7_checksum_28 : decode cX7_checksum 28 = .ok (.if_icmp .ge 67, 3) := by decide +kernel
theorem dX7_checksum_31 : decode cX7_checksum 31 = .ok (.aload_n 3, 1) := by decide +kernel
theorem dX7_checksum_32 : decode cX7_checksum 32 = .ok (.iload 5, 2) := by decide +kernel
theorem dX7_checksum_34 : decode cX7_checksum 34 = .ok (.aaload, 1) := by decide +kernel
theorem dX7_checksum_35 : decode cX7_checksum 35 = .ok (.astore 6, 2) := by decide +kernel
theorem dX7_checksum_37 : decode cX7_checksum 37 = .ok (.aload 6, 2) := by decide +kernel
theorem dX7_checksum_39 : decode cX7_checksum 39 = .ok (.ifnull 50, 3) := by decide +kernel
theorem dX7_checksum_42 : decode cX7_checksum 42 = .ok (.ldc2_w 256, 3) := by decide +kernel
theorem dX7_checksum_45 : decode cX7_checksum 45 = .ok (.lload_n 1, 1) := by decide +kernel
theorem dX7_checksum_46 : decode cX7_checksum 46 = .ok (.lmul, 1) := by decide +kernel
theorem dX7_checksum_47 : decode cX7_checksum 47 = .ok (.aload 6, 2) := by decide +kernel
theorem dX7_checksum_49 : decode cX7_checksum 49 = .ok (.getfield 111, 3) := by decide +kernel
theorem dX7_checksum_52 : decode cX7_checksum 52 = .ok (.i2l, 1) := by decide +kernel
theorem dX7_checksum_53 : decode cX7_checksum 53 = .ok (.ladd, 1) := by decide +kernel
theorem dX7_checksum_54 : decode cX7_checksum 54 = .ok (.lstore_n 1, 1) := by decide +kernel
theorem dX7_checksum_55 : decode cX7_checksum 55 = .ok (.ldc2_w 256, 3) := by decide +kernel
theorem dX7_checksum_58 : decode cX7_checksum 58 = .ok (.lload_n 1, 1) := by decide +kernel
theorem dX7_checksum_59 : decode cX7_checksum 59 = .ok (.lmul, 1) := by decide +kernel
theorem dX7_checksum_60 : decode cX7_checksum 60 = .ok (.aload_n 0, 1) := by decide +kernel
theorem dX7_checksum_61 : decode cX7_checksum 61 = .ok (.getfield 26, 3) := by decide +kernel
theorem dX7_checksum_64 : decode cX7_checksum 64 = .ok (.aload 6, 2) := by decide +kernel
theorem dX7_checksum_66 : decode cX7_checksum 66 = .ok (.invokevirtual 126, 3) := by decide +kernel
theorem dX7_checksum_69 : decode cX7_checksum 69 = .ok (.i2l, 1) := by decide +kernel
theorem dX7_checksum_70 : decode cX7_checksum 70 = .ok (.ladd, 1) := by decide +kernel
theorem dX7_checksum_71 : decode cX7_checksum 71 = .ok (.lstore_n 1, 1) := by decide +kernel
theorem dX7_checksum_72 : decode cX7_checksum 72 = .ok (.ldc2_w 256, 3) := by decide +kernel
theorem dX7_checksum_75 : decode cX7_checksum 75 = .ok (.lload_n 1, 1) := by decide +kernel
theorem dX7_checksum_76 : decode cX7_checksum 76 = .ok (.lmul, 1) := by decide +kernel
theorem dX7_checksum_77 : decode cX7_checksum 77 = .ok (.aload_n 0, 1) := by decide +kernel
theorem dX7_checksum_78 : decode cX7_checksum 78 = .ok (.getfield 26, 3) := by decide +kernel
theorem dX7_checksum_81 : decode cX7_checksum 81 = .ok (.aload 6, 2) := by decide +kernel
theorem dX7_checksum_83 : decode cX7_checksum 83 = .ok (.invokevirtual 133, 3) := by decide +kernel
theorem dX7_checksum_86 : decode cX7_checksum 86 = .ok (.i2l, 1) := by decide +kernel
theorem dX7_checksum_87 : decode cX7_checksum 87 = .ok (.ladd, 1) := by decide +kernel
theorem dX7_checksum_88 : decode cX7_checksum 88 = .ok (.lstore_n 1, 1) := by decide +kernel
theorem dX7_checksum_89 : decode cX7_checksum 89 = .ok (.iinc 5 1, 3) := by decide +kernel
theorem dX7_checksum_92 : decode cX7_checksum 92 = .ok (.goto (-68), 3) := by decide +kernel
theorem dX7_checksum_95 : decode cX7_checksum 95 = .ok (.aload_n 0, 1) := by decide +kernel
theorem dX7_checksum_96 : decode cX7_checksum 96 = .ok (.getfield 26, 3) := by decide +kernel
theorem dX7_checksum_99 : decode cX7_checksum 99 = .ok (.getfield 75, 3) := by decide +kernel
theorem dX7_checksum_102 : decode cX7_checksum 102 = .ok (.astore_n 3, 1) := by decide +kernel
theorem dX7_checksum_103 : decode cX7_checksum 103 = .ok (.aload_n 3, 1) := by decide +kernel
theorem dX7_checksum_104 : decode cX7_checksum 104 = .ok (.arraylength, 1) := by decide +kernel
theorem dX7_checksum_105 : decode cX7_checksum 105 = .ok (.istore 4, 2) := by decide +kernel
theorem dX7_checksum_107 : decode cX7_checksum 107 = .ok (.iconst 0, 1) := by decide +kernel
theorem dX7_checksum_108 : decode cX7_checksum 108 = .ok (.istore 5, 2) := by decide +kernel
theorem dX7_checksum_110 : decode cX7_checksum 110 = .ok (.iload 5, 2) := by decide +kernel
theorem dX7_checksum_112 : decode cX7_checksum 112 = .ok (.iload 4, 2) := by decide +kernel
theorem dX7_checksum_114 : decode cX7_checksum 114 = .ok (.if_icmp .ge 72, 3) := by decide +kernel
theorem dX7_checksum_117 : decode cX7_checksum 117 = .ok (.aload_n 3, 1) := by decide +kernel
theorem dX7_checksum_118 : decode cX7_checksum 118 = .ok (.iload 5, 2) := by decide +kernel
theorem dX7_checksum_120 : decode cX7_checksum 120 = .ok (.aaload, 1) := by decide +kernel
theorem dX7_checksum_121 : decode cX7_checksum 121 = .ok (.astore 6, 2) := by decide +kernel
theorem dX7_checksum_123 : decode cX7_checksum 123 = .ok (.aload 6, 2) := by decide +kernel
theorem dX7_checksum_125 : decode cX7_checksum 125 = .ok (.ifnull 55, 3) := by decide +kernel
theorem dX7_checksum_128 : decode cX7_checksum 128 = .ok (.ldc2_w 256, 3) := by decide +kernel
theorem dX7_checksum_131 : decode cX7_checksum 131 = .ok (.lload_n 1, 1) := by decide +kernel
theorem dX7_checksum_132 : decode cX7_checksum 132 = .ok (.lmul, 1) := by decide +kernel
theorem dX7_checksum_133 : decode cX7_checksum 133 = .ok (.aload 6, 2) := by decide +kernel
theorem dX7_checksum_135 : decode cX7_checksum 135 = .ok (.getfield 140, 3) := by decide +kernel
theorem dX7_checksum_138 : decode cX7_checksum 138 = .ok (.i2l, 1) := by decide +kernel
theorem dX7_checksum_139 : decode cX7_checksum 139 = .ok (.ladd, 1) := by decide +kernel
theorem dX7_checksum_140 : decode cX7_checksum 140 = .ok (.lstore_n 1, 1) := by decide +kernel
theorem dX7_checksum_141 : decode cX7_checksum 141 = .ok (.ldc2_w 256, 3) := by decide +kernel
theorem dX7_checksum_144 : decode cX7_checksum 144 = .ok (.lload_n 1, 1) := by decide +kernel
theorem dX7_checksum_145 : decode cX7_checksum 145 = .ok (.lmul, 1) := by decide +kernel
theorem dX7_checksum_146 : decode cX7_checksum 146 = .ok (.aload 6, 2) := by decide +kernel
theorem dX7_checksum_148 : decode cX7_checksum 148 = .ok (.getfield 145, 3) := by decide +kernel
theorem dX7_checksum_151 : decode cX7_checksum 151 = .ok (.i2l, 1) := by decide +kernel
theorem dX7_checksum_152 : decode cX7_checksum 152 = .ok (.ladd, 1) := by decide +kernel
theorem dX7_checksum_153 : decode cX7_checksum 153 = .ok (.lstore_n 1, 1) := by decide +kernel
theorem dX7_checksum_154 : decode cX7_checksum 154 = .ok (.ldc2_w 256, 3) := by decide +kernel
theorem dX7_checksum_157 : decode cX7_checksum 157 = .ok (.lload_n 1, 1) := by decide +kernel
theorem dX7_checksum_158 : decode cX7_checksum 158 = .ok (.lmul, 1) := by decide +kernel
theorem dX7_checksum_159 : decode cX7_checksum 159 = .ok (.aload 6, 2) := by decide +kernel
theorem dX7_checksum_161 : decode cX7_checksum 161 = .ok (.getfield 148, 3) := by decide +kernel
theorem dX7_checksum_164 : decode cX7_checksum 164 = .ok (.i2l, 1) := by decide +kernel
theorem dX7_checksum_165 : decode cX7_checksum 165 = .ok (.ladd, 1) := by decide +kernel
theorem dX7_checksum_166 : decode cX7_checksum 166 = .ok (.lstore_n 1, 1) := by decide +kernel
theorem dX7_checksum_167 : decode cX7_checksum 167 = .ok (.ldc2_w 256, 3) := by decide +kernel
theorem dX7_checksum_170 : decode cX7_checksum 170 = .ok (.lload_n 1, 1) := by decide +kernel
theorem dX7_checksum_171 : decode cX7_checksum 171 = .ok (.lmul, 1) := by decide +kernel
theorem dX7_checksum_172 : decode cX7_checksum 172 = .ok (.aload 6, 2) := by decide +kernel
theorem dX7_checksum_174 : decode cX7_checksum 174 = .ok (.getfield 155, 3) := by decide +kernel
theorem dX7_checksum_177 : decode cX7_checksum 177 = .ok (.i2l, 1) := by decide +kernel
theorem dX7_checksum_178 : decode cX7_checksum 178 = .ok (.ladd, 1) := by decide +kernel
theorem dX7_checksum_179 : decode cX7_checksum 179 = .ok (.lstore_n 1, 1) := by decide +kernel
theorem dX7_checksum_180 : decode cX7_checksum 180 = .ok (.iinc 5 1, 3) := by decide +kernel
theorem dX7_checksum_183 : decode cX7_checksum 183 = .ok (.goto (-73), 3) := by decide +kernel
theorem dX7_checksum_186 : decode cX7_checksum 186 = .ok (.lload_n 1, 1) := by decide +kernel
theorem dX7_checksum_187 : decode cX7_checksum 187 = .ok (.lreturn, 1) := by decide +kernel
theorem dX7_creditAt_0 : decode cX7_creditAt 0 = .ok (.iload_n 1, 1) := by decide +kernel
theorem dX7_creditAt_1 : decode cX7_creditAt 1 = .ok (.ifCond .lt 27, 3) := by decide +kernel
theorem dX7_creditAt_4 : decode cX7_creditAt 4 = .ok (.iload_n 1, 1) := by decide +kernel
theorem dX7_creditAt_5 : decode cX7_creditAt 5 = .ok (.aload_n 0, 1) := by decide +kernel
theorem dX7_creditAt_6 : decode cX7_creditAt 6 = .ok (.getfield 26, 3) := by decide +kernel
theorem dX7_creditAt_9 : decode cX7_creditAt 9 = .ok (.getfield 71, 3) := by decide +kernel
theorem dX7_creditAt_12 : decode cX7_creditAt 12 = .ok (.arraylength, 1) := by decide +kernel
theorem dX7_creditAt_13 : decode cX7_creditAt 13 = .ok (.if_icmp .ge 15, 3) := by decide +kernel
theorem dX7_creditAt_16 : decode cX7_creditAt 16 = .ok (.aload_n 0, 1) := by decide +kernel
theorem dX7_creditAt_17 : decode cX7_creditAt 17 = .ok (.getfield 26, 3) := by decide +kernel
theorem dX7_creditAt_20 : decode cX7_creditAt 20 = .ok (.getfield 71, 3) := by decide +kernel
theorem dX7_creditAt_23 : decode cX7_creditAt 23 = .ok (.iload_n 1, 1) := by decide +kernel
theorem dX7_creditAt_24 : decode cX7_creditAt 24 = .ok (.aaload, 1) := by decide +kernel
theorem dX7_creditAt_25 : decode cX7_creditAt 25 = .ok (.goto 4, 3) := by decide +kernel
theorem dX7_creditAt_28 : decode cX7_creditAt 28 = .ok (.aconst_null, 1) := by decide +kernel
theorem dX7_creditAt_29 : decode cX7_creditAt 29 = .ok (.astore_n 2, 1) := by decide +kernel
theorem dX7_creditAt_30 : decode cX7_creditAt 30 = .ok (.aload_n 2, 1) := by decide +kernel
theorem dX7_creditAt_31 : decode cX7_creditAt 31 = .ok (.ifnonnull 14, 3) := by decide +kernel
theorem dX7_creditAt_34 : decode cX7_creditAt 34 = .ok (.new 258, 3) := by decide +kernel
theorem dX7_creditAt_37 : decode cX7_creditAt 37 = .ok (.dup, 1) := by decide +kernel
theorem dX7_creditAt_38 : decode cX7_creditAt 38 = .ok (.ldc_w 260, 3) := by decide +kernel
theorem dX7_creditAt_41 : decode cX7_creditAt 41 = .ok (.invokespecial 262, 3) := by decide +kernel
theorem dX7_creditAt_44 : decode cX7_creditAt 44 = .ok (.athrow, 1) := by decide +kernel
theorem dX7_creditAt_45 : decode cX7_creditAt 45 = .ok (.aload_n 2, 1) := by decide +kernel
theorem dX7_creditAt_46 : decode cX7_creditAt 46 = .ok (.areturn, 1) := by decide +kernel
theorem dX7_presentationAt_0 : decode cX7_presentationAt 0 = .ok (.iload_n 1, 1) := by decide +kernel
theorem dX7_presentationAt_1 : decode cX7_presentationAt 1 = .ok (.ifCond .lt 27, 3) := by decide +kernel
theorem dX7_presentationAt_4 : decode cX7_presentationAt 4 = .ok (.iload_n 1, 1) := by decide +kernel
theorem dX7_presentationAt_5 : decode cX7_presentationAt 5 = .ok (.aload_n 0, 1) := by decide +kernel
theorem dX7_presentationAt_6 : decode cX7_presentationAt 6 = .ok (.getfield 26, 3) := by decide +kernel
theorem dX7_presentationAt_9 : decode cX7_presentationAt 9 = .ok (.getfield 75, 3) := by decide +kernel
theorem dX7_presentationAt_12 : decode cX7_presentationAt 12 = .ok (.arraylength, 1) := by decide +kernel
theorem dX7_presentationAt_13 : decode cX7_presentationAt 13 = .ok (.if_icmp .ge 15, 3) := by decide +kernel
theorem dX7_presentationAt_16 : decode cX7_presentationAt 16 = .ok (.aload_n 0, 1) := by decide +kernel
theorem dX7_presentationAt_17 : decode cX7_presentationAt 17 = .ok (.getfield 26, 3) := by decide +kernel
theorem dX7_presentationAt_20 : decode cX7_presentationAt 20 = .ok (.getfield 75, 3) := by decide +kernel
theorem dX7_presentationAt_23 : decode cX7_presentationAt 23 = .ok (.iload_n 1, 1) := by decide +kernel
theorem dX7_presentationAt_24 : decode cX7_presentationAt 24 = .ok (.aaload, 1) := by decide +kernel
theorem dX7_presentationAt_25 : decode cX7_presentationAt 25 = .ok (.goto 4, 3) := by decide +kernel
theorem dX7_presentationAt_28 : decode cX7_presentationAt 28 = .ok (.aconst_null, 1) := by decide +kernel
theorem dX7_presentationAt_29 : decode cX7_presentationAt 29 = .ok (.astore_n 2, 1) := by decide +kernel
theorem dX7_presentationAt_30 : decode cX7_presentationAt 30 = .ok (.aload_n 2, 1) := by decide +kernel
theorem dX7_presentationAt_31 : decode cX7_presentationAt 31 = .ok (.ifnonnull 14, 3) := by decide +kernel
theorem dX7_presentationAt_34 : decode cX7_presentationAt 34 = .ok (.new 258, 3) := by decide +kernel
theorem dX7_presentationAt_37 : decode cX7_presentationAt 37 = .ok (.dup, 1) := by decide +kernel
theorem dX7_presentationAt_38 : decode cX7_presentationAt 38 = .ok (.ldc_w 263, 3) := by decide +kernel
theorem dX7_presentationAt_41 : decode cX7_presentationAt 41 = .ok (.invokespecial 262, 3) := by decide +kernel
theorem dX7_presentationAt_44 : decode cX7_presentationAt 44 = .ok (.athrow, 1) := by decide +kernel
theorem dX7_presentationAt_45 : decode cX7_presentationAt 45 = .ok (.aload_n 2, 1) := by decide +kernel
theorem dX7_presentationAt_46 : decode cX7_presentationAt 46 = .ok (.areturn, 1) := by decide +kernel
theorem dX7_needRange_0 : decode cX7_needRange 0 = .ok (.iload_n 0, 1) := by decide +kernel
theorem dX7_needRange_1 : decode cX7_needRange 1 = .ok (.iload_n 1, 1) := by decide +kernel
theorem dX7_needRange_2 : decode cX7_needRange 2 = .ok (.if_icmp .lt 8, 3) := by decide +kernel
theorem dX7_needRange_5 : decode cX7_needRange 5 = .ok (.iload_n 0, 1) := by decide +kernel
theorem dX7_needRange_6 : decode cX7_needRange 6 = .ok (.iload_n 2, 1) := by decide +kernel
theorem dX7_needRange_7 : decode cX7_needRange 7 = .ok (.if_icmp .le 14, 3) := by decide +kernel
theorem dX7_needRange_10 : decode cX7_needRange 10 = .ok (.new 41, 3) := by decide +kernel
theorem dX7_needRange_13 : decode cX7_needRange 13 = .ok (.dup, 1) := by decide +kernel
theorem dX7_needRange_14 : decode cX7_needRange 14 = .ok (.ldc_w 265, 3) := by decide +kernel
theorem dX7_needRange_17 : decode cX7_needRange 17 = .ok (.invokespecial 45, 3) := by decide +kernel
theorem dX7_needRange_20 : decode cX7_needRange 20 = .ok (.athrow, 1) := by decide +kernel
theorem dX7_needRange_21 : decode cX7_needRange 21 = .ok (.return_, 1) := by decide +kernel
theorem dX7_needPresentable_0 : decode cX7_needPresentable 0 = .ok (.iload_n 0, 1) := by decide +kernel
theorem dX7_needPresentable_1 : decode cX7_needPresentable 1 = .ok (.iconst 0, 1) := by decide +kernel
theorem dX7_needPresentable_2 : decode cX7_needPresentable 2 = .ok (.sipush 9999, 3) := by decide +kernel
theorem dX7_needPresentable_5 : decode cX7_needPresentable 5 = .ok (.invokestatic 82, 3) := by decide +kernel
theorem dX7_needPresentable_8 : decode cX7_needPresentable 8 = .ok (.iload_n 1, 1) := by decide +kernel
theorem dX7_needPresentable_9 : decode cX7_needPresentable 9 = .ok (.iconst 1, 1) := by decide +kernel
theorem dX7_needPresentable_10 : decode cX7_needPresentable 10 = .ok (.ldc_w 267, 3) := by decide +kernel
theorem dX7_needPresentable_13 : decode cX7_needPresentable 13 = .ok (.invokestatic 82, 3) := by decide +kernel
theorem dX7_needPresentable_16 : decode cX7_needPresentable 16 = .ok (.iload_n 2, 1) := by decide +kernel
theorem dX7_needPresentable_17 : decode cX7_needPresentable 17 = .ok (.iconst 0, 1) := by decide +kernel
theorem dX7_needPresentable_18 : decode cX7_needPresentable 18 = .ok (.sipush 255, 3) := by decide +kernel
theorem dX7_needPresentable_21 : decode cX7_needPresentable 21 = .ok (.invokestatic 82, 3) := by decide +kernel
theorem dX7_needPresentable_24 : decode cX7_needPresentable 24 = .ok (.iload_n 3, 1) := by decide +kernel
theorem dX7_needPresentable_25 : decode cX7_needPresentable 25 = .ok (.ifCond .ge 14, 3) := by decide +kernel
theorem dX7_needPresentable_28 : decode cX7_needPresentable 28 = .ok (.new 41, 3) := by decide +kernel
theorem dX7_needPresentable_31 : decode cX7_needPresentable 31 = .ok (.dup, 1) := by decide +kernel
theorem dX7_needPresentable_32 : decode cX7_needPresentable 32 = .ok (.ldc_w 268, 3) := by decide +kernel
theorem dX7_needPresentable_35 : decode cX7_needPresentable 35 = .ok (.invokespecial 45, 3) := by decide +kernel
theorem dX7_needPresentable_38 : decode cX7_needPresentable 38 = .ok (.athrow, 1) := by decide +kernel
theorem dX7_needPresentable_39 : decode cX7_needPresentable 39 = .ok (.return_, 1) := by decide +kernel
theorem dX7_discrepanciesToday_0 : decode cX7_discrepanciesToday 0 = .ok (.iconst 0, 1) := by decide +kernel
theorem dX7_discrepanciesToday_1 : decode cX7_discrepanciesToday 1 = .ok (.istore 6, 2) := by decide +kernel
theorem dX7_discrepanciesToday_3 : decode cX7_discrepanciesToday 3 = .ok (.iload_n 2, 1) := by decide +kernel
theorem dX7_discrepanciesToday_4 : decode cX7_discrepanciesToday 4 = .ok (.aload_n 1, 1) := by decide +kernel
theorem dX7_discrepanciesToday_5 : decode cX7_discrepanciesToday 5 = .ok (.getfield 270, 3) := by decide +kernel
theorem dX7_discrepanciesToday_8 : decode cX7_discrepanciesToday 8 = .ok (.if_icmp .le 9, 3) := by decide +kernel
theorem dX7_discrepanciesToday_11 : decode cX7_discrepanciesToday 11 = .ok (.iload 6, 2) := by decide +kernel
theorem dX7_discrepanciesToday_13 : decode cX7_discrepanciesToday 13 = .ok (.iconst 1, 1) := by decide +kernel
theorem dX7_discrepanciesToday_14 : decode cX7_discrepanciesToday 14 = .ok (.ior, 1) := by decide +kernel
theorem dX7_discrepanciesToday_15 : decode cX7_discrepanciesToday 15 = .ok (.istore 6, 2) := by decide +kernel
theorem dX7_discrepanciesToday_17 : decode cX7_discrepanciesToday 17 = .ok (.aload_n 0, 1) := by decide +kernel
theorem dX7_discrepanciesToday_18 : decode cX7_discrepanciesToday 18 = .ok (.getfield 26, 3) := by decide +kernel
theorem dX7_discrepanciesToday_21 : decode cX7_discrepanciesToday 21 = .ok (.getfield 79, 3) := by decide +kernel
theorem dX7_discrepanciesToday_24 : decode cX7_discrepanciesToday 24 = .ok (.aload_n 0, 1) := by decide +kernel
theorem dX7_discrepanciesToday_25 : decode cX7_discrepanciesToday 25 = .ok (.aload_n 1, 1) := by decide +kernel
theorem dX7_discrepanciesToday_26 : decode cX7_discrepanciesToday 26 = .ok (.iload_n 2, 1) := by decide +kernel
theorem dX7_discrepanciesToday_27 : decode cX7_discrepanciesToday 27 = .ok (.invokevirtual 187, 3) := by decide +kernel
theorem dX7_discrepanciesToday_30 : decode cX7_discrepanciesToday 30 = .ok (.if_icmp .le 9, 3) := by decide +kernel
theorem dX7_discrepanciesToday_33 : decode cX7_discrepanciesToday 33 = .ok (.iload 6, 2) := by decide +kernel
theorem dX7_discrepanciesToday_35 : decode cX7_discrepanciesToday 35 = .ok (.iconst 2, 1) := by decide +kernel
theorem dX7_discrepanciesToday_36 : decode cX7_discrepanciesToday 36 = .ok (.ior, 1) := by decide +kernel
theorem dX7_discrepanciesToday_37 : decode cX7_discrepanciesToday 37 = .ok (.istore 6, 2) := by decide +kernel
theorem dX7_discrepanciesToday_39 : decode cX7_discrepanciesToday 39 = .ok (.iload_n 3, 1) := by decide +kernel
theorem dX7_discrepanciesToday_40 : decode cX7_discrepanciesToday 40 = .ok (.aload_n 0, 1) := by decide +kernel
theorem dX7_discrepanciesToday_41 : decode cX7_discrepanciesToday 41 = .ok (.getfield 26, 3) := by decide +kernel
theorem dX7_discrepanciesToday_44 : decode cX7_discrepanciesToday 44 = .ok (.aload_n 1, 1) := by decide +kernel
theorem dX7_discrepanciesToday_45 : decode cX7_discrepanciesToday 45 = .ok (.invokevirtual 133, 3) := by decide +kernel
theorem dX7_discrepanciesToday_48 : decode cX7_discrepanciesToday 48 = .ok (.if_icmp .le 9, 3) := by decide +kernel
theorem dX7_discrepanciesToday_51 : decode cX7_discrepanciesToday 51 = .ok (.iload 6, 2) := by decide +kernel
theorem dX7_discrepanciesToday_53 : decode cX7_discrepanciesToday 53 = .ok (.iconst 4, 1) := by decide +kernel
theorem dX7_discrepanciesToday_54 : decode cX7_discrepanciesToday 54 = .ok (.ior, 1) := by decide +kernel
theorem dX7_discrepanciesToday_55 : decode cX7_discrepanciesToday 55 = .ok (.istore 6, 2) := by decide +kernel
theorem dX7_discrepanciesToday_57 : decode cX7_discrepanciesToday 57 = .ok (.aload_n 1, 1) := by decide +kernel
theorem dX7_discrepanciesToday_58 : decode cX7_discrepanciesToday 58 = .ok (.getfield 273, 3) := by decide +kernel
theorem dX7_discrepanciesToday_61 : decode cX7_discrepanciesToday 61 = .ok (.ifCond .ne 29, 3) := by decide +kernel
theorem dX7_discrepanciesToday_64 : decode cX7_discrepanciesToday 64 = .ok (.iload_n 3, 1) := by decide +kernel
theorem dX7_discrepanciesToday_65 : decode cX7_discrepanciesToday 65 = .ok (.aload_n 1, 1) := by decide +kernel
theorem dX7_discrepanciesToday_66 : decode cX7_discrepanciesToday 66 = .ok (.invokevirtual 120, 3) := by decide +kernel
theorem dX7_discrepanciesToday_69 : decode cX7_discrepanciesToday 69 = .ok (.if_icmp .lt 14, 3) := by decide +kernel
theorem dX7_discrepanciesToday_72 : decode cX7_discrepanciesToday 72 = .ok (.aload_n 0, 1) := by decide +kernel
theorem dX7_discrepanciesToday_73 : decode cX7_discrepanciesToday 73 = .ok (.getfield 26, 3) := by decide +kernel
theorem dX7_discrepanciesToday_76 : decode cX7_discrepanciesToday 76 = .ok (.aload_n 1, 1) := by decide +kernel
theorem dX7_discrepanciesToday_77 : decode cX7_discrepanciesToday 77 = .ok (.invokevirtual 277, 3) := by decide +kernel
theorem dX7_discrepanciesToday_80 : decode cX7_discrepanciesToday 80 = .ok (.ifCond .eq 10, 3) := by decide +kernel
theorem dX7_discrepanciesToday_83 : decode cX7_discrepanciesToday 83 = .ok (.iload 6, 2) := by decide +kernel
theorem dX7_discrepanciesToday_85 : decode cX7_discrepanciesToday 85 = .ok (.bipush 8, 2) := by decide +kernel
theorem dX7_discrepanciesToday_87 : decode cX7_discrepanciesToday 87 = .ok (.ior, 1) := by decide +kernel
theorem dX7_discrepanciesToday_88 : decode cX7_discrepanciesToday 88 = .ok (.istore 6, 2) := by decide +kernel
theorem dX7_discrepanciesToday_90 : decode cX7_discrepanciesToday 90 = .ok (.aload_n 1, 1) := by decide +kernel
theorem dX7_discrepanciesToday_91 : decode cX7_discrepanciesToday 91 = .ok (.getfield 281, 3) := by decide +kernel
theorem dX7_discrepanciesToday_94 : decode cX7_discrepanciesToday 94 = .ok (.iload 4, 2) := by decide +kernel
theorem dX7_discrepanciesToday_96 : decode cX7_discrepanciesToday 96 = .ok (.iconst (-1), 1) := by decide +kernel
theorem dX7_discrepanciesToday_97 : decode cX7_discrepanciesToday 97 = .ok (.ixor, 1) := by decide +kernel
theorem dX7_discrepanciesToday_98 : decode cX7_discrepanciesToday 98 = .ok (.iand, 1) := by decide +kernel
theorem dX7_discrepanciesToday_99 : decode cX7_discrepanciesToday 99 = .ok (.ifCond .eq 10, 3) := by decide +kernel
theorem dX7_discrepanciesToday_102 : decode cX7_discrepanciesToday 102 = .ok (.iload 6, 2) := by decide +kernel
theorem dX7_discrepanciesToday_104 : decode cX7_discrepanciesToday 104 = .ok (.bipush 16, 2) := by decide +kernel
theorem dX7_discrepanciesToday_106 : decode cX7_discrepanciesToday 106 = .ok (.ior, 1) := by decide +kernel
theorem dX7_discrepanciesToday_107 : decode cX7_discrepanciesToday 107 = .ok (.istore 6, 2) := by decide +kernel
theorem dX7_discrepanciesToday_109 : decode cX7_discrepanciesToday 109 = .ok (.aload_n 1, 1) := by decide +kernel
theorem dX7_discrepanciesToday_110 : decode cX7_discrepanciesToday 110 = .ok (.getfield 281, 3) := by decide +kernel
theorem dX7_discrepanciesToday_113 : decode cX7_discrepanciesToday 113 = .ok (.sipush 128, 3) := by decide +kernel
theorem dX7_discrepanciesToday_116 : decode cX7_discrepanciesToday 116 = .ok (.iand, 1) := by decide +kernel
theorem dX7_discrepanciesToday_117 : decode cX7_discrepanciesToday 117 = .ok (.ifCond .eq 21, 3) := by decide +kernel
theorem dX7_discrepanciesToday_120 : decode cX7_discrepanciesToday 120 = .ok (.iload 5, 2) := by decide +kernel
theorem dX7_discrepanciesToday_122 : decode cX7_discrepanciesToday 122 = .ok (.iload_n 3, 1) := by decide +kernel
theorem dX7_discrepanciesToday_123 : decode cX7_discrepanciesToday 123 = .ok (.iload_n 3, 1) := by decide +kernel
theorem dX7_discrepanciesToday_124 : decode cX7_discrepanciesToday 124 = .ok (.bipush 10, 2) := by decide +kernel
theorem dX7_discrepanciesToday_126 : decode cX7_discrepanciesToday 126 = .ok (.idiv, 1) := by decide +kernel
theorem dX7_discrepanciesToday_127 : decode cX7_discrepanciesToday 127 = .ok (.iadd, 1) := by decide +kernel
theorem dX7_discrepanciesToday_128 : decode cX7_discrepanciesToday 128 = .ok (.if_icmp .ge 10, 3) := by decide +kernel
theorem dX7_discrepanciesToday_131 : decode cX7_discrepanciesToday 131 = .ok (.iload 6, 2) := by decide +kernel
theorem dX7_discrepanciesToday_133 : decode cX7_discrepanciesToday 133 = .ok (.bipush 32, 2) := by decide +kernel
theorem dX7_discrepanciesToday_135 : decode cX7_discrepanciesToday 135 = .ok (.ior, 1) := by decide +kernel
theorem dX7_discrepanciesToday_136 : decode cX7_discrepanciesToday 136 = .ok (.istore 6, 2) := by decide +kernel
theorem dX7_discrepanciesToday_138 : decode cX7_discrepanciesToday 138 = .ok (.iload_n 2, 1) := by decide +kernel
theorem dX7_discrepanciesToday_139 : decode cX7_discrepanciesToday 139 = .ok (.aload_n 0, 1) := by decide +kernel
theorem dX7_discrepanciesToday_140 : decode cX7_discrepanciesToday 140 = .ok (.getfield 26, 3) := by decide +kernel
theorem dX7_discrepanciesToday_143 : decode cX7_discrepanciesToday 143 = .ok (.getfield 79, 3) := by decide +kernel
theorem dX7_discrepanciesToday_146 : decode cX7_discrepanciesToday 146 = .ok (.if_icmp .le 10, 3) := by decide +kernel
theorem dX7_discrepanciesToday_149 : decode cX7_discrepanciesToday 149 = .ok (.iload 6, 2) := by decide +kernel
theorem dX7_discrepanciesToday_151 : decode cX7_discrepanciesToday 151 = .ok (.bipush 64, 2) := by decide +kernel
theorem dX7_discrepanciesToday_153 : decode cX7_discrepanciesToday 153 = .ok (.ior, 1) := by decide +kernel
theorem dX7_discrepanciesToday_154 : decode cX7_discrepanciesToday 154 = .ok (.istore 6, 2) := by decide +kernel
theorem dX7_discrepanciesToday_156 : decode cX7_discrepanciesToday 156 = .ok (.iload 6, 2) := by decide +kernel
theorem dX7_discrepanciesToday_158 : decode cX7_discrepanciesToday 158 = .ok (.ireturn, 1) := by decide +kernel
theorem dX7_lastDayFor_0 : decode cX7_lastDayFor 0 = .ok (.aload_n 0, 1) := by decide +kernel
theorem dX7_lastDayFor_1 : decode cX7_lastDayFor 1 = .ok (.getfield 26, 3) := by decide +kernel
theorem dX7_lastDayFor_4 : decode cX7_lastDayFor 4 = .ok (.getfield 86, 3) := by decide +kernel
theorem dX7_lastDayFor_7 : decode cX7_lastDayFor 7 = .ok (.aload_n 1, 1) := by decide +kernel
theorem dX7_lastDayFor_8 : decode cX7_lastDayFor 8 = .ok (.getfield 123, 3) := by decide +kernel
theorem dX7_lastDayFor_11 : decode cX7_lastDayFor 11 = .ok (.invokevirtual 96, 3) := by decide +kernel
theorem dX7_lastDayFor_14 : decode cX7_lastDayFor 14 = .ok (.aload_n 0, 1) := by decide +kernel
theorem dX7_lastDayFor_15 : decode cX7_lastDayFor 15 = .ok (.getfield 26, 3) := by decide +kernel
theorem dX7_lastDayFor_18 : decode cX7_lastDayFor 18 = .ok (.getfield 86, 3) := by decide +kernel
theorem dX7_lastDayFor_21 : decode cX7_lastDayFor 21 = .ok (.iload_n 2, 1) := by decide +kernel
theorem dX7_lastDayFor_22 : decode cX7_lastDayFor 22 = .ok (.aload_n 1, 1) := by decide +kernel
theorem dX7_lastDayFor_23 : decode cX7_lastDayFor 23 = .ok (.getfield 284, 3) := by decide +kernel
theorem dX7_lastDayFor_26 : decode cX7_lastDayFor 26 = .ok (.iadd, 1) := by decide +kernel
theorem dX7_lastDayFor_27 : decode cX7_lastDayFor 27 = .ok (.invokevirtual 96, 3) := by decide +kernel
theorem dX7_lastDayFor_30 : decode cX7_lastDayFor 30 = .ok (.invokestatic 287, 3) := by decide +kernel
theorem dX7_lastDayFor_33 : decode cX7_lastDayFor 33 = .ok (.ireturn, 1) := by decide +kernel
theorem dX7_deadlineFor_0 : decode cX7_deadlineFor 0 = .ok (.aload_n 0, 1) := by decide +kernel
theorem dX7_deadlineFor_1 : decode cX7_deadlineFor 1 = .ok (.getfield 26, 3) := by decide +kernel
theorem dX7_deadlineFor_4 : decode cX7_deadlineFor 4 = .ok (.getfield 86, 3) := by decide +kernel
theorem dX7_deadlineFor_7 : decode cX7_deadlineFor 7 = .ok (.aload_n 1, 1) := by decide +kernel
theorem dX7_deadlineFor_8 : decode cX7_deadlineFor 8 = .ok (.getfield 165, 3) := by decide +kernel
theorem dX7_deadlineFor_11 : decode cX7_deadlineFor 11 = .ok (.iconst 5, 1) := by decide +kernel
theorem dX7_deadlineFor_12 : decode cX7_deadlineFor 12 = .ok (.invokevirtual 100, 3) := by decide +kernel
theorem dX7_deadlineFor_15 : decode cX7_deadlineFor 15 = .ok (.ireturn, 1) := by decide +kernel
theorem dX7_stateAfterExamination_0 : decode cX7_stateAfterExamination 0 = .ok (.aload_n 1, 1) := by decide +kernel
theorem dX7_stateAfterExamination_1 : decode cX7_stateAfterExamination 1 = .ok (.getfield 148, 3) := by decide +kernel
theorem dX7_stateAfterExamination_4 : decode cX7_stateAfterExamination 4 = .ok (.ifCond .ne 5, 3) := by decide +kernel
theorem dX7_stateAfterExamination_7 : decode cX7_stateAfterExamination 7 = .ok (.iconst 2, 1) := by decide +kernel
theorem dX7_stateAfterExamination_8 : decode cX7_stateAfterExamination 8 = .ok (.ireturn, 1) := by decide +kernel
theorem dX7_stateAfterExamination_9 : decode cX7_stateAfterExamination 9 = .ok (.aload_n 1, 1) := by decide +kernel
theorem dX7_stateAfterExamination_10 : decode cX7_stateAfterExamination 10 = .ok (.iconst 4, 1) := by decide +kernel
theorem dX7_stateAfterExamination_11 : decode cX7_stateAfterExamination 11 = .ok (.invokevirtual 226, 3) := by decide +kernel
theorem dX7_stateAfterExamination_14 : decode cX7_stateAfterExamination 14 = .ok (.ifCond .eq 5, 3) := by decide +kernel
theorem dX7_stateAfterExamination_17 : decode cX7_stateAfterExamination 17 = .ok (.iconst 1, 1) := by decide +kernel
theorem dX7_stateAfterExamination_18 : decode cX7_stateAfterExamination 18 = .ok (.ireturn, 1) := by decide +kernel
theorem dX7_stateAfterExamination_19 : decode cX7_stateAfterExamination 19 = .ok (.aload_n 0, 1) := by decide +kernel
theorem dX7_stateAfterExamination_20 : decode cX7_stateAfterExamination 20 = .ok (.getfield 26, 3) := by decide +kernel
theorem dX7_stateAfterExamination_23 : decode cX7_stateAfterExamination 23 = .ok (.getfield 79, 3) := by decide +kernel
theorem dX7_stateAfterExamination_26 : decode cX7_stateAfterExamination 26 = .ok (.aload_n 0, 1) := by decide +kernel
theorem dX7_stateAfterExamination_27 : decode cX7_stateAfterExamination 27 = .ok (.aload_n 1, 1) := by decide +kernel
theorem dX7_stateAfterExamination_28 : decode cX7_stateAfterExamination 28 = .ok (.invokevirtual 151, 3) := by decide +kernel
theorem dX7_stateAfterExamination_31 : decode cX7_stateAfterExamination 31 = .ok (.if_icmp .le 7, 3) := by decide +kernel
theorem dX7_stateAfterExamination_34 : decode cX7_stateAfterExamination 34 = .ok (.iconst 2, 1) := by decide +kernel
theorem dX7_stateAfterExamination_35 : decode cX7_stateAfterExamination 35 = .ok (.goto 4, 3) := by decide +kernel
theorem dX7_stateAfterExamination_38 : decode cX7_stateAfterExamination 38 = .ok (.iconst 1, 1) := by decide +kernel
theorem dX7_stateAfterExamination_39 : decode cX7_stateAfterExamination 39 = .ok (.ireturn, 1) := by decide +kernel
theorem dX7_settle_0 : decode cX7_settle 0 = .ok (.iconst (-1), 1) := by decide +kernel
theorem dX7_settle_1 : decode cX7_settle 1 = .ok (.istore 4, 2) := by decide +kernel
theorem dX7_settle_3 : decode cX7_settle 3 = .ok (.iload_n 3, 1) := by decide +kernel
theorem dX7_settle_4 : decode cX7_settle 4 = .ok (.iconst 2, 1) := by decide +kernel
theorem dX7_settle_5 : decode cX7_settle 5 = .ok (.if_icmp .ne 34, 3) := by decide +kernel
theorem dX7_settle_8 : decode cX7_settle 8 = .ok (.aload_n 0, 1) := by decide +kernel
theorem dX7_settle_9 : decode cX7_settle 9 = .ok (.getfield 26, 3) := by decide +kernel
theorem dX7_settle_12 : decode cX7_settle 12 = .ok (.getfield 86, 3) := by decide +kernel
theorem dX7_settle_15 : decode cX7_settle 15 = .ok (.aload_n 0, 1) := by decide +kernel
theorem dX7_settle_16 : decode cX7_settle 16 = .ok (.getfield 26, 3) := by decide +kernel
theorem dX7_settle_19 : decode cX7_settle 19 = .ok (.getfield 79, 3) := by decide +kernel
theorem dX7_settle_22 : decode cX7_settle 22 = .ok (.aload_n 0, 1) := by decide +kernel
theorem dX7_settle_23 : decode cX7_settle 23 = .ok (.aload_n 2, 1) := by decide +kernel
theorem dX7_settle_24 : decode cX7_settle 24 = .ok (.getfield 140, 3) := by decide +kernel
theorem dX7_settle_27 : decode cX7_settle 27 = .ok (.invokevirtual 107, 3) := by decide +kernel
theorem dX7_settle_30 : decode cX7_settle 30 = .ok (.getfield 292, 3) := by decide +kernel
theorem dX7_settle_33 : decode cX7_settle 33 = .ok (.iadd, 1) := by decide +kernel
theorem dX7_settle_34 : decode cX7_settle 34 = .ok (.invokevirtual 96, 3) := by decide +kernel
theorem dX7_settle_37 : decode cX7_settle 37 = .ok (.istore 4, 2) := by decide +kernel
theorem dX7_settle_39 : decode cX7_settle 39 = .ok (.aload_n 0, 1) := by decide +kernel
theorem dX7_settle_40 : decode cX7_settle 40 = .ok (.aload_n 0, 1) := by decide +kernel
theorem dX7_settle_41 : decode cX7_settle 41 = .ok (.getfield 26, 3) := by decide +kernel
theorem dX7_settle_44 : decode cX7_settle 44 = .ok (.iload_n 1, 1) := by decide +kernel
theorem dX7_settle_45 : decode cX7_settle 45 = .ok (.aload_n 2, 1) := by decide +kernel
theorem dX7_settle_46 : decode cX7_settle 46 = .ok (.iload_n 3, 1) := by decide +kernel
theorem dX7_settle_47 : decode cX7_settle 47 = .ok (.iload 4, 2) := by decide +kernel
theorem dX7_settle_49 : decode cX7_settle 49 = .ok (.invokevirtual 295, 3) := by decide +kernel
theorem dX7_settle_52 : decode cX7_settle 52 = .ok (.invokevirtual 299, 3) := by decide +kernel
theorem dX7_settle_55 : decode cX7_settle 55 = .ok (.invokevirtual 67, 3) := by decide +kernel
theorem dX7_settle_58 : decode cX7_settle 58 = .ok (.return_, 1) := by decide +kernel
theorem dX7_canTransfer_0 : decode cX7_canTransfer 0 = .ok (.aload_n 1, 1) := by decide +kernel
theorem dX7_canTransfer_1 : decode cX7_canTransfer 1 = .ok (.getfield 303, 3) := by decide +kernel
theorem dX7_canTransfer_4 : decode cX7_canTransfer 4 = .ok (.ifCond .eq 50, 3) := by decide +kernel
theorem dX7_canTransfer_7 : decode cX7_canTransfer 7 = .ok (.iload_n 2, 1) := by decide +kernel
theorem dX7_canTransfer_8 : decode cX7_canTransfer 8 = .ok (.aload_n 0, 1) := by decide +kernel
theorem dX7_canTransfer_9 : decode cX7_canTransfer 9 = .ok (.getfield 26, 3) := by decide +kernel
theorem dX7_canTransfer_12 : decode cX7_canTransfer 12 = .ok (.aload_n 1, 1) := by decide +kernel
theorem dX7_canTransfer_13 : decode cX7_canTransfer 13 = .ok (.invokevirtual 133, 3) := by decide +kernel
theorem dX7_canTransfer_16 : decode cX7_canTransfer 16 = .ok (.if_icmp .gt 38, 3) := by decide +kernel
theorem dX7_canTransfer_19 : decode cX7_canTransfer 19 = .ok (.aload_n 1, 1) := by decide +kernel
theorem dX7_canTransfer_20 : decode cX7_canTransfer 20 = .ok (.getfield 273, 3) := by decide +kernel
theorem dX7_canTransfer_23 : decode cX7_canTransfer 23 = .ok (.ifCond .ne 14, 3) := by decide +kernel
theorem dX7_canTransfer_26 : decode cX7_canTransfer 26 = .ok (.aload_n 0, 1) := by decide +kernel
theorem dX7_canTransfer_27 : decode cX7_canTransfer 27 = .ok (.getfield 26, 3) := by decide +kernel
theorem dX7_canTransfer_30 : decode cX7_canTransfer 30 = .ok (.aload_n 1, 1) := by decide +kernel
theorem dX7_canTransfer_31 : decode cX7_canTransfer 31 = .ok (.invokevirtual 130, 3) := by decide +kernel
theorem dX7_canTransfer_34 : decode cX7_canTransfer 34 = .ok (.ifCond .ne 20, 3) := by decide +kernel
theorem dX7_canTransfer_37 : decode cX7_canTransfer 37 = .ok (.aload_n 0, 1) := by decide +kernel
theorem dX7_canTransfer_38 : decode cX7_canTransfer 38 = .ok (.getfield 26, 3) := by decide +kernel
theorem dX7_canTransfer_41 : decode cX7_canTransfer 41 = .ok (.getfield 71, 3) := by decide +kernel
theorem dX7_canTransfer_44 : decode cX7_canTransfer 44 = .ok (.arraylength, 1) := by decide +kernel
theorem dX7_canTransfer_45 : decode cX7_canTransfer 45 = .ok (.bipush 12, 2) := by decide +kernel
theorem dX7_canTransfer_47 : decode cX7_canTransfer 47 = .ok (.if_icmp .ge 7, 3) := by decide +kernel
theorem dX7_canTransfer_50 : decode cX7_canTransfer 50 = .ok (.iconst 1, 1) := by decide +kernel
theorem dX7_canTransfer_51 : decode cX7_canTransfer 51 = .ok (.goto 4, 3) := by decide +kernel
theorem dX7_canTransfer_54 : decode cX7_canTransfer 54 = .ok (.iconst 0, 1) := by decide +kernel
theorem dX7_canTransfer_55 : decode cX7_canTransfer 55 = .ok (.ireturn, 1) := by decide +kernel
theorem dX7_changeTo_0 : decode cX7_changeTo 0 = .ok (.aload_n 0, 1) := by decide +kernel
theorem dX7_changeTo_1 : decode cX7_changeTo 1 = .ok (.getfield 34, 3) := by decide +kernel
theorem dX7_changeTo_4 : decode cX7_changeTo 4 = .ok (.aload_n 0, 1) := by decide +kernel
theorem dX7_changeTo_5 : decode cX7_changeTo 5 = .ok (.getfield 30, 3) := by decide +kernel
theorem dX7_changeTo_8 : decode cX7_changeTo 8 = .ok (.arraylength, 1) := by decide +kernel
theorem dX7_changeTo_9 : decode cX7_changeTo 9 = .ok (.if_icmp .lt 7, 3) := by decide +kernel
theorem dX7_changeTo_12 : decode cX7_changeTo 12 = .ok (.aload_n 0, 1) := by decide +kernel
theorem dX7_changeTo_13 : decode cX7_changeTo 13 = .ok (.invokevirtual 306, 3) := by decide +kernel
theorem dX7_changeTo_16 : decode cX7_changeTo 16 = .ok (.aload_n 0, 1) := by decide +kernel
theorem dX7_changeTo_17 : decode cX7_changeTo 17 = .ok (.getfield 34, 3) := by decide +kernel
theorem dX7_changeTo_20 : decode cX7_changeTo 20 = .ok (.ifCond .lt 38, 3) := by decide +kernel
theorem dX7_changeTo_23 : decode cX7_changeTo 23 = .ok (.aload_n 0, 1) := by decide +kernel
theorem dX7_changeTo_24 : decode cX7_changeTo 24 = .ok (.getfield 34, 3) := by decide +kernel
theorem dX7_changeTo_27 : decode cX7_changeTo 27 = .ok (.aload_n 0, 1) := by decide +kernel
theorem dX7_changeTo_28 : decode cX7_changeTo 28 = .ok (.getfield 30, 3) := by decide +kernel
theorem dX7_changeTo_31 : decode cX7_changeTo 31 = .ok (.arraylength, 1) := by decide +kernel
theorem dX7_changeTo_32 : decode cX7_changeTo 32 = .ok (.if_icmp .ge 26, 3) := by decide +kernel
theorem dX7_changeTo_35 : decode cX7_changeTo 35 = .ok (.aload_n 0, 1) := by decide +kernel
theorem dX7_changeTo_36 : decode cX7_changeTo 36 = .ok (.getfield 30, 3) := by decide +kernel
theorem dX7_changeTo_39 : decode cX7_changeTo 39 = .ok (.aload_n 0, 1) := by decide +kernel
theorem dX7_changeTo_40 : decode cX7_changeTo 40 = .ok (.getfield 34, 3) := by decide +kernel
theorem dX7_changeTo_43 : decode cX7_changeTo 43 = .ok (.aload_n 0, 1) := by decide +kernel
theorem dX7_changeTo_44 : decode cX7_changeTo 44 = .ok (.getfield 26, 3) := by decide +kernel
theorem dX7_changeTo_47 : decode cX7_changeTo 47 = .ok (.aastore, 1) := by decide +kernel
theorem dX7_changeTo_48 : decode cX7_changeTo 48 = .ok (.aload_n 0, 1) := by decide +kernel
theorem dX7_changeTo_49 : decode cX7_changeTo 49 = .ok (.dup, 1) := by decide +kernel
theorem dX7_changeTo_50 : decode cX7_changeTo 50 = .ok (.getfield 34, 3) := by decide +kernel
theorem dX7_changeTo_53 : decode cX7_changeTo 53 = .ok (.iconst 1, 1) := by decide +kernel
theorem dX7_changeTo_54 : decode cX7_changeTo 54 = .ok (.iadd, 1) := by decide +kernel
theorem dX7_changeTo_55 : decode cX7_changeTo 55 = .ok (.putfield 34, 3) := by decide +kernel
theorem dX7_changeTo_58 : decode cX7_changeTo 58 = .ok (.aload_n 0, 1) := by decide +kernel
theorem dX7_changeTo_59 : decode cX7_changeTo 59 = .ok (.aload_n 1, 1) := by decide +kernel
theorem dX7_changeTo_60 : decode cX7_changeTo 60 = .ok (.putfield 26, 3) := by decide +kernel
theorem dX7_changeTo_63 : decode cX7_changeTo 63 = .ok (.return_, 1) := by decide +kernel
theorem dX7_forgetOldest_0 : decode cX7_forgetOldest 0 = .ok (.iconst 1, 1) := by decide +kernel
theorem dX7_forgetOldest_1 : decode cX7_forgetOldest 1 = .ok (.istore_n 1, 1) := by decide +kernel
theorem dX7_forgetOldest_2 : decode cX7_forgetOldest 2 = .ok (.iload_n 1, 1) := by decide +kernel
theorem dX7_forgetOldest_3 : decode cX7_forgetOldest 3 = .ok (.aload_n 0, 1) := by decide +kernel
theorem dX7_forgetOldest_4 : decode cX7_forgetOldest 4 = .ok (.getfield 30, 3) := by decide +kernel
theorem dX7_forgetOldest_7 : decode cX7_forgetOldest 7 = .ok (.arraylength, 1) := by decide +kernel
theorem dX7_forgetOldest_8 : decode cX7_forgetOldest 8 = .ok (.if_icmp .ge 23, 3) := by decide +kernel
theorem dX7_forgetOldest_11 : decode cX7_forgetOldest 11 = .ok (.aload_n 0, 1) := by decide +kernel
theorem dX7_forgetOldest_12 : decode cX7_forgetOldest 12 = .ok (.getfield 30, 3) := by decide +kernel
theorem dX7_forgetOldest_15 : decode cX7_forgetOldest 15 = .ok (.iload_n 1, 1) := by decide +kernel
theorem dX7_forgetOldest_16 : decode cX7_forgetOldest 16 = .ok (.iconst 1, 1) := by decide +kernel
theorem dX7_forgetOldest_17 : decode cX7_forgetOldest 17 = .ok (.isub, 1) := by decide +kernel
theorem dX7_forgetOldest_18 : decode cX7_forgetOldest 18 = .ok (.aload_n 0, 1) := by decide +kernel
theorem dX7_forgetOldest_19 : decode cX7_forgetOldest 19 = .ok (.getfield 30, 3) := by decide +kernel
theorem dX7_forgetOldest_22 : decode cX7_forgetOldest 22 = .ok (.iload_n 1, 1) := by decide +kernel
theorem dX7_forgetOldest_23 : decode cX7_forgetOldest 23 = .ok (.aaload, 1) := by decide +kernel
theorem dX7_forgetOldest_24 : decode cX7_forgetOldest 24 = .ok (.aastore, 1) := by decide +kernel
theorem dX7_forgetOldest_25 : decode cX7_forgetOldest 25 = .ok (.iinc 1 1, 3) := by decide +kernel
theorem dX7_forgetOldest_28 : decode cX7_forgetOldest 28 = .ok (.goto (-26), 3) := by decide +kernel
theorem dX7_forgetOldest_31 : decode cX7_forgetOldest 31 = .ok (.aload_n 0, 1) := by decide +kernel
theorem dX7_forgetOldest_32 : decode cX7_forgetOldest 32 = .ok (.aload_n 0, 1) := by decide +kernel
theorem dX7_forgetOldest_33 : decode cX7_forgetOldest 33 = .ok (.getfield 30, 3) := by decide +kernel
theorem dX7_forgetOldest_36 : decode cX7_forgetOldest 36 = .ok (.arraylength, 1) := by decide +kernel
theorem dX7_forgetOldest_37 : decode cX7_forgetOldest 37 = .ok (.iconst 1, 1) := by decide +kernel
theorem dX7_forgetOldest_38 : decode cX7_forgetOldest 38 = .ok (.isub, 1) := by decide +kernel
theorem dX7_forgetOldest_39 : decode cX7_forgetOldest 39 = .ok (.putfield 34, 3) := by decide +kernel
theorem dX7_forgetOldest_42 : decode cX7_forgetOldest 42 = .ok (.return_, 1) := by decide +kernel
