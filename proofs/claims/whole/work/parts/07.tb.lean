def TB : List Cond := lw_tbl.filter goodWord
theorem TB_of {w : Cond} (h : w ∈ lw_tbl) (hg : goodWord w = true) : w ∈ TB := List.mem_filter.mpr ⟨h, hg⟩
theorem TB_lw {w : Cond} (h : w ∈ TB) : w ∈ lw_tbl := (List.mem_filter.mp h).1
theorem TB_good {w : Cond} (h : w ∈ TB) : (w.onTables && w.keeps) = true ∨ ∃ ty, w = .arrayClass ty := good_of_word (List.mem_filter.mp h).2
theorem ks_X7_putWord : Cond.selects RX7 yX7_putWord yX7_putWord ∈ TB := TB_of (List.mem_of_getElem? (i := 0) (by decide +kernel)) rfl
theorem ks_X6_nextToken : Cond.selects RX6 yX6_nextToken yX6_nextToken ∈ TB := TB_of (List.mem_of_getElem? (i := 2) (by decide +kernel)) rfl
theorem ks_X6_kindAt : Cond.selects RX6 yX6_kindAt yX6_kindAt ∈ TB := TB_of (List.mem_of_getElem? (i := 3) (by decide +kernel)) rfl
theorem ks_X6_valueOfDigits : Cond.selects RX6 yX6_valueOfDigits yX6_valueOfDigits ∈ TB := TB_of (List.mem_of_getElem? (i := 4) (by decide +kernel)) rfl
theorem ks_X6_isWord : Cond.selects RX6 yX6_isWord yX6_isWord ∈ TB := TB_of (List.mem_of_getElem? (i := 5) (by decide +kernel)) rfl
theorem ks_X6_readHolidays : Cond.selects RX6 yX6_readHolidays yX6_readHolidays ∈ TB := TB_of (List.mem_of_getElem? (i := 6) (by decide +kernel)) rfl
theorem ks_X6_readHoliday : Cond.selects RX6 yX6_readHoliday yX6_readHoliday ∈ TB := TB_of (List.mem_of_getElem? (i := 7) (by decide +kernel)) rfl
theorem ks_X6_isNumberFrom : Cond.selects RX6 yX6_isNumberFrom yX6_isNumberFrom ∈ TB := TB_of (List.mem_of_getElem? (i := 8) (by decide +kernel)) rfl
theorem ks_X6_fail : Cond.selects RX6 yX6_fail yX6_fail ∈ TB := TB_of (List.mem_of_getElem? (i := 9) (by decide +kernel)) rfl
theorem ks_X6_readCredit : Cond.selects RX6 yX6_readCredit yX6_readCredit ∈ TB := TB_of (List.mem_of_getElem? (i := 10) (by decide +kernel)) rfl
theorem ks_X6_readNumber : Cond.selects RX6 yX6_readNumber yX6_readNumber ∈ TB := TB_of (List.mem_of_getElem? (i := 11) (by decide +kernel)) rfl
theorem ks_X6_tookWord : Cond.selects RX6 yX6_tookWord yX6_tookWord ∈ TB := TB_of (List.mem_of_getElem? (i := 12) (by decide +kernel)) rfl
theorem ks_X6_readDocuments : Cond.selects RX6 yX6_readDocuments yX6_readDocuments ∈ TB := TB_of (List.mem_of_getElem? (i := 13) (by decide +kernel)) rfl
theorem ks_X6_readDocumentInto : Cond.selects RX6 yX6_readDocumentInto yX6_readDocumentInto ∈ TB := TB_of (List.mem_of_getElem? (i := 14) (by decide +kernel)) rfl
theorem ks_X6_readFee : Cond.selects RX6 yX6_readFee yX6_readFee ∈ TB := TB_of (List.mem_of_getElem? (i := 15) (by decide +kernel)) rfl
theorem ks_X6_readSum : Cond.selects RX6 yX6_readSum yX6_readSum ∈ TB := TB_of (List.mem_of_getElem? (i := 16) (by decide +kernel)) rfl
theorem ks_X6_readTerm : Cond.selects RX6 yX6_readTerm yX6_readTerm ∈ TB := TB_of (List.mem_of_getElem? (i := 17) (by decide +kernel)) rfl
theorem ks_X6_readFactor : Cond.selects RX6 yX6_readFactor yX6_readFactor ∈ TB := TB_of (List.mem_of_getElem? (i := 18) (by decide +kernel)) rfl
theorem ks_X6_addFeeStep : Cond.selects RX6 yX6_addFeeStep yX6_addFeeStep ∈ TB := TB_of (List.mem_of_getElem? (i := 19) (by decide +kernel)) rfl
theorem ks_X6_readParentheses : Cond.selects RX6 yX6_readParentheses yX6_readParentheses ∈ TB := TB_of (List.mem_of_getElem? (i := 20) (by decide +kernel)) rfl
theorem ks_X6_needSymbol : Cond.selects RX6 yX6_needSymbol yX6_needSymbol ∈ TB := TB_of (List.mem_of_getElem? (i := 21) (by decide +kernel)) rfl
theorem ks_X7_changeTo : Cond.selects RX7 yX7_changeTo yX7_changeTo ∈ TB := TB_of (List.mem_of_getElem? (i := 22) (by decide +kernel)) rfl
theorem ks_X7_forgetOldest : Cond.selects RX7 yX7_forgetOldest yX7_forgetOldest ∈ TB := TB_of (List.mem_of_getElem? (i := 23) (by decide +kernel)) rfl
theorem ks_X7_creditAt : Cond.selects RX7 yX7_creditAt yX7_creditAt ∈ TB := TB_of (List.mem_of_getElem? (i := 24) (by decide +kernel)) rfl
theorem ks_X7_presentationAt : Cond.selects RX7 yX7_presentationAt yX7_presentationAt ∈ TB := TB_of (List.mem_of_getElem? (i := 25) (by decide +kernel)) rfl
theorem ks_X7_deadlineFor : Cond.selects RX7 yX7_deadlineFor yX7_deadlineFor ∈ TB := TB_of (List.mem_of_getElem? (i := 26) (by decide +kernel)) rfl
theorem ks_X7_discrepanciesToday : Cond.selects RX7 yX7_discrepanciesToday yX7_discrepanciesToday ∈ TB := TB_of (List.mem_of_getElem? (i := 27) (by decide +kernel)) rfl
theorem ks_X7_lastDayFor : Cond.selects RX7 yX7_lastDayFor yX7_lastDayFor ∈ TB := TB_of (List.mem_of_getElem? (i := 28) (by decide +kernel)) rfl
theorem ks_X4_tryAll : Cond.selects RX4 yX4_tryAll yX4_tryAll ∈ TB := TB_of (List.mem_of_getElem? (i := 29) (by decide +kernel)) rfl
theorem ks_X7_stateAfterExamination : Cond.selects RX7 yX7_stateAfterExamination yX7_stateAfterExamination ∈ TB := TB_of (List.mem_of_getElem? (i := 30) (by decide +kernel)) rfl
theorem ks_X7_settle : Cond.selects RX7 yX7_settle yX7_settle ∈ TB := TB_of (List.mem_of_getElem? (i := 31) (by decide +kernel)) rfl
theorem ks_X7_canTransfer : Cond.selects RX7 yX7_canTransfer yX7_canTransfer ∈ TB := TB_of (List.mem_of_getElem? (i := 32) (by decide +kernel)) rfl
theorem ks_X8_fails : Cond.selects RX8 yX8_fails yX8_fails ∈ TB := TB_of (List.mem_of_getElem? (i := 33) (by decide +kernel)) rfl
theorem ks_X8_isGood : Cond.selects RX8 yX8_isGood yX8_isGood ∈ TB := TB_of (List.mem_of_getElem? (i := 34) (by decide +kernel)) rfl
theorem ks_X8_next : Cond.selects RX8 yX8_next yX8_next ∈ TB := TB_of (List.mem_of_getElem? (i := 35) (by decide +kernel)) rfl
theorem ks_X8_byteAt : Cond.selects RX8 yX8_byteAt yX8_byteAt ∈ TB := TB_of (List.mem_of_getElem? (i := 36) (by decide +kernel)) rfl
theorem ks_X8_statement : Cond.selects RX8 yX8_statement yX8_statement ∈ TB := TB_of (List.mem_of_getElem? (i := 37) (by decide +kernel)) rfl
theorem ks_X8_takeWord : Cond.selects RX8 yX8_takeWord yX8_takeWord ∈ TB := TB_of (List.mem_of_getElem? (i := 38) (by decide +kernel)) rfl
theorem ks_X8_readHoliday : Cond.selects RX8 yX8_readHoliday yX8_readHoliday ∈ TB := TB_of (List.mem_of_getElem? (i := 39) (by decide +kernel)) rfl
theorem ks_X8_number : Cond.selects RX8 yX8_number yX8_number ∈ TB := TB_of (List.mem_of_getElem? (i := 40) (by decide +kernel)) rfl
theorem ks_X8_report : Cond.selects RX8 yX8_report yX8_report ∈ TB := TB_of (List.mem_of_getElem? (i := 41) (by decide +kernel)) rfl
theorem ks_X8_readCredit : Cond.selects RX8 yX8_readCredit yX8_readCredit ∈ TB := TB_of (List.mem_of_getElem? (i := 42) (by decide +kernel)) rfl
theorem ks_X8_readNeeds : Cond.selects RX8 yX8_readNeeds yX8_readNeeds ∈ TB := TB_of (List.mem_of_getElem? (i := 43) (by decide +kernel)) rfl
theorem ks_X8_once : Cond.selects RX8 yX8_once yX8_once ∈ TB := TB_of (List.mem_of_getElem? (i := 44) (by decide +kernel)) rfl
theorem ks_X8_sum : Cond.selects RX8 yX8_sum yX8_sum ∈ TB := TB_of (List.mem_of_getElem? (i := 45) (by decide +kernel)) rfl
theorem ks_X8_term : Cond.selects RX8 yX8_term yX8_term ∈ TB := TB_of (List.mem_of_getElem? (i := 46) (by decide +kernel)) rfl
theorem ks_X8_factor : Cond.selects RX8 yX8_factor yX8_factor ∈ TB := TB_of (List.mem_of_getElem? (i := 47) (by decide +kernel)) rfl
theorem ks_X8_expect : Cond.selects RX8 yX8_expect yX8_expect ∈ TB := TB_of (List.mem_of_getElem? (i := 48) (by decide +kernel)) rfl
theorem ks_X8_emit : Cond.selects RX8 yX8_emit yX8_emit ∈ TB := TB_of (List.mem_of_getElem? (i := 49) (by decide +kernel)) rfl
theorem ks_X8_remember : Cond.selects RX8 yX8_remember yX8_remember ∈ TB := TB_of (List.mem_of_getElem? (i := 50) (by decide +kernel)) rfl
theorem ks_X8_isBusiness : Cond.selects RX8 yX8_isBusiness yX8_isBusiness ∈ TB := TB_of (List.mem_of_getElem? (i := 51) (by decide +kernel)) rfl
theorem ks_X8_extend : Cond.selects RX8 yX8_extend yX8_extend ∈ TB := TB_of (List.mem_of_getElem? (i := 52) (by decide +kernel)) rfl
theorem ks_X8_add : Cond.selects RX8 yX8_add yX8_add ∈ TB := TB_of (List.mem_of_getElem? (i := 53) (by decide +kernel)) rfl
theorem ks_X8_noCredit : Cond.selects RX8 yX8_noCredit yX8_noCredit ∈ TB := TB_of (List.mem_of_getElem? (i := 54) (by decide +kernel)) rfl
theorem ks_X8_most : Cond.selects RX8 yX8_most yX8_most ∈ TB := TB_of (List.mem_of_getElem? (i := 55) (by decide +kernel)) rfl
theorem ks_X8_least : Cond.selects RX8 yX8_least yX8_least ∈ TB := TB_of (List.mem_of_getElem? (i := 56) (by decide +kernel)) rfl
theorem ks_X8_drawnOf : Cond.selects RX8 yX8_drawnOf yX8_drawnOf ∈ TB := TB_of (List.mem_of_getElem? (i := 57) (by decide +kernel)) rfl
theorem ks_X8_stands : Cond.selects RX8 yX8_stands yX8_stands ∈ TB := TB_of (List.mem_of_getElem? (i := 58) (by decide +kernel)) rfl
theorem ks_X8_transferredOf : Cond.selects RX8 yX8_transferredOf yX8_transferredOf ∈ TB := TB_of (List.mem_of_getElem? (i := 59) (by decide +kernel)) rfl
theorem ks_X8_availableOf : Cond.selects RX8 yX8_availableOf yX8_availableOf ∈ TB := TB_of (List.mem_of_getElem? (i := 60) (by decide +kernel)) rfl
theorem ks_X8_isWrong : Cond.selects RX8 yX8_isWrong yX8_isWrong ∈ TB := TB_of (List.mem_of_getElem? (i := 61) (by decide +kernel)) rfl
theorem ks_X8_faultsOf : Cond.selects RX8 yX8_faultsOf yX8_faultsOf ∈ TB := TB_of (List.mem_of_getElem? (i := 62) (by decide +kernel)) rfl
theorem ks_X8_lastDayOf : Cond.selects RX8 yX8_lastDayOf yX8_lastDayOf ∈ TB := TB_of (List.mem_of_getElem? (i := 63) (by decide +kernel)) rfl
theorem ks_X8_noPresentation : Cond.selects RX8 yX8_noPresentation yX8_noPresentation ∈ TB := TB_of (List.mem_of_getElem? (i := 64) (by decide +kernel)) rfl
theorem ks_X8_deadlineOf : Cond.selects RX8 yX8_deadlineOf yX8_deadlineOf ∈ TB := TB_of (List.mem_of_getElem? (i := 65) (by decide +kernel)) rfl
theorem ks_X8_dueOf : Cond.selects RX8 yX8_dueOf yX8_dueOf ∈ TB := TB_of (List.mem_of_getElem? (i := 66) (by decide +kernel)) rfl
theorem ks_X8_variable : Cond.selects RX8 yX8_variable yX8_variable ∈ TB := TB_of (List.mem_of_getElem? (i := 67) (by decide +kernel)) rfl
theorem ks_X8_honour : Cond.selects RX8 yX8_honour yX8_honour ∈ TB := TB_of (List.mem_of_getElem? (i := 68) (by decide +kernel)) rfl
theorem kin_L : Cond.initialized RL ∈ TB := TB_of (List.mem_of_getElem? (i := 69) (by decide +kernel)) rfl
theorem kin_X7 : Cond.initialized RX7 ∈ TB := TB_of (List.mem_of_getElem? (i := 70) (by decide +kernel)) rfl
theorem kin_X0 : Cond.initialized RX0 ∈ TB := TB_of (List.mem_of_getElem? (i := 71) (by decide +kernel)) rfl
theorem kin_X1 : Cond.initialized RX1 ∈ TB := TB_of (List.mem_of_getElem? (i := 72) (by decide +kernel)) rfl
theorem kin_X3 : Cond.initialized RX3 ∈ TB := TB_of (List.mem_of_getElem? (i := 73) (by decide +kernel)) rfl
theorem kin_X8 : Cond.initialized RX8 ∈ TB := TB_of (List.mem_of_getElem? (i := 74) (by decide +kernel)) rfl
theorem kin_X6 : Cond.initialized RX6 ∈ TB := TB_of (List.mem_of_getElem? (i := 79) (by decide +kernel)) rfl
theorem kin_J7 : Cond.initialized RJ7 ∈ TB := TB_of (List.mem_of_getElem? (i := 80) (by decide +kernel)) rfl
theorem kin_J9 : Cond.initialized RJ9 ∈ TB := TB_of (List.mem_of_getElem? (i := 81) (by decide +kernel)) rfl
theorem kin_J10 : Cond.initialized RJ10 ∈ TB := TB_of (List.mem_of_getElem? (i := 82) (by decide +kernel)) rfl
theorem kin_J0 : Cond.initialized RJ0 ∈ TB := TB_of (List.mem_of_getElem? (i := 83) (by decide +kernel)) rfl
theorem kin_J1 : Cond.initialized RJ1 ∈ TB := TB_of (List.mem_of_getElem? (i := 84) (by decide +kernel)) rfl
theorem kin_J3 : Cond.initialized RJ3 ∈ TB := TB_of (List.mem_of_getElem? (i := 85) (by decide +kernel)) rfl
theorem kin_J2 : Cond.initialized RJ2 ∈ TB := TB_of (List.mem_of_getElem? (i := 86) (by decide +kernel)) rfl
theorem kin_X2 : Cond.initialized RX2 ∈ TB := TB_of (List.mem_of_getElem? (i := 87) (by decide +kernel)) rfl
theorem kin_J6 : Cond.initialized RJ6 ∈ TB := TB_of (List.mem_of_getElem? (i := 89) (by decide +kernel)) rfl
theorem kin_X4 : Cond.initialized RX4 ∈ TB := TB_of (List.mem_of_getElem? (i := 90) (by decide +kernel)) rfl
theorem kin_X5 : Cond.initialized RX5 ∈ TB := TB_of (List.mem_of_getElem? (i := 92) (by decide +kernel)) rfl
theorem kl_L_8 : Cond.classLink RL 8 RX7 ∈ TB := TB_of (List.mem_of_getElem? (i := 93) (by decide +kernel)) rfl
theorem kn_X7 : Cond.instantiable RX7 6 ∈ TB := TB_of (List.mem_of_getElem? (i := 94) (by decide +kernel)) rfl
theorem km_L_99 : Cond.methodLink RL 99 yX7_init ∈ TB := TB_of (List.mem_of_getElem? (i := 95) (by decide +kernel)) rfl
theorem ki_X7_init : Cond.instanceMethod yX7_init ∈ TB := TB_of (List.mem_of_getElem? (i := 96) (by decide +kernel)) rfl
theorem kc_X7_init : Cond.code yX7_init cX7_init 1 (Option.none : Option FieldType) ∈ TB := TB_of (List.mem_of_getElem? (i := 97) (by decide +kernel)) rfl
theorem km_X7_1 : Cond.methodLink RX7 1 ⟨"java/lang/Object", "<init>", "()V"⟩ ∈ TB := TB_of (List.mem_of_getElem? (i := 98) (by decide +kernel)) rfl
theorem ki_objInit : Cond.instanceMethod objectInit ∈ TB := TB_of (List.mem_of_getElem? (i := 99) (by decide +kernel)) rfl
theorem kc_objInit : Cond.code objectInit ⟨#[0xb1]⟩ 1 none ∈ TB := TB_of (List.mem_of_getElem? (i := 100) (by decide +kernel)) rfl
theorem km_X7_20 : Cond.methodLink RX7 20 yX0_ofEmptySetup ∈ TB := TB_of (List.mem_of_getElem? (i := 101) (by decide +kernel)) rfl
theorem kt_X0_ofEmptySetup : Cond.static yX0_ofEmptySetup ∈ TB := TB_of (List.mem_of_getElem? (i := 102) (by decide +kernel)) rfl
theorem kc_X0_ofEmptySetup : Cond.code yX0_ofEmptySetup cX0_ofEmptySetup 0 (Option.some (FieldType.object "DocumentaryCreditDesk$Book")) ∈ TB := TB_of (List.mem_of_getElem? (i := 103) (by decide +kernel)) rfl
theorem kl_X0_10 : Cond.classLink RX0 10 RX0 ∈ TB := TB_of (List.mem_of_getElem? (i := 104) (by decide +kernel)) rfl
theorem kn_X0 : Cond.instantiable RX0 5 ∈ TB := TB_of (List.mem_of_getElem? (i := 105) (by decide +kernel)) rfl
theorem kl_X0_31 : Cond.classLink RX0 31 RX1 ∈ TB := TB_of (List.mem_of_getElem? (i := 106) (by decide +kernel)) rfl
theorem kn_X1 : Cond.instantiable RX1 1 ∈ TB := TB_of (List.mem_of_getElem? (i := 107) (by decide +kernel)) rfl
theorem km_X0_33 : Cond.methodLink RX0 33 yX1_init ∈ TB := TB_of (List.mem_of_getElem? (i := 108) (by decide +kernel)) rfl
theorem ki_X1_init : Cond.instanceMethod yX1_init ∈ TB := TB_of (List.mem_of_getElem? (i := 109) (by decide +kernel)) rfl
theorem kc_X1_init : Cond.code yX1_init cX1_init 2 (Option.none : Option FieldType) ∈ TB := TB_of (List.mem_of_getElem? (i := 110) (by decide +kernel)) rfl
theorem km_X1_1 : Cond.methodLink RX1 1 ⟨"java/lang/Object", "<init>", "()V"⟩ ∈ TB := TB_of (List.mem_of_getElem? (i := 111) (by decide +kernel)) rfl
theorem kf_X1_7 : Cond.fieldLink RX1 7 "DocumentaryCreditDesk$Calendar" "holidays" "[I" ∈ TB := TB_of (List.mem_of_getElem? (i := 112) (by decide +kernel)) rfl
theorem ka_byte : Cond.arrayClass .byte ∈ TB := TB_of (List.mem_of_getElem? (i := 116) (by decide +kernel)) rfl
theorem ka_int : Cond.arrayClass .int ∈ TB := TB_of (List.mem_of_getElem? (i := 117) (by decide +kernel)) rfl
theorem kl_X0_36 : Cond.classLink RX0 36 RX3 ∈ TB := TB_of (List.mem_of_getElem? (i := 118) (by decide +kernel)) rfl
theorem kn_X3 : Cond.instantiable RX3 1 ∈ TB := TB_of (List.mem_of_getElem? (i := 119) (by decide +kernel)) rfl
theorem kf_X0_38 : Cond.fieldLink RX0 38 "DocumentaryCreditDesk$FeeRule" "USUAL" "[I" ∈ TB := TB_of (List.mem_of_getElem? (i := 120) (by decide +kernel)) rfl
theorem km_X0_42 : Cond.methodLink RX0 42 yX3_init ∈ TB := TB_of (List.mem_of_getElem? (i := 122) (by decide +kernel)) rfl
theorem ki_X3_init : Cond.instanceMethod yX3_init ∈ TB := TB_of (List.mem_of_getElem? (i := 123) (by decide +kernel)) rfl
theorem kc_X3_init : Cond.code yX3_init cX3_init 2 (Option.none : Option FieldType) ∈ TB := TB_of (List.mem_of_getElem? (i := 124) (by decide +kernel)) rfl
theorem km_X3_3 : Cond.methodLink RX3 3 ⟨"java/lang/Object", "<init>", "()V"⟩ ∈ TB := TB_of (List.mem_of_getElem? (i := 125) (by decide +kernel)) rfl
theorem kf_X3_9 : Cond.fieldLink RX3 9 "DocumentaryCreditDesk$FeeRule" "steps" "[I" ∈ TB := TB_of (List.mem_of_getElem? (i := 126) (by decide +kernel)) rfl
theorem kl_X0_43 : Cond.classLink RX0 43 RX2 ∈ TB := TB_of (List.mem_of_getElem? (i := 130) (by decide +kernel)) rfl
theorem kl_X0_45 : Cond.classLink RX0 45 RX5 ∈ TB := TB_of (List.mem_of_getElem? (i := 132) (by decide +kernel)) rfl
theorem km_X0_47 : Cond.methodLink RX0 47 yX0_init ∈ TB := TB_of (List.mem_of_getElem? (i := 134) (by decide +kernel)) rfl
theorem ki_X0_init : Cond.instanceMethod yX0_init ∈ TB := TB_of (List.mem_of_getElem? (i := 135) (by decide +kernel)) rfl
theorem kc_X0_init : Cond.code yX0_init cX0_init 6 (Option.none : Option FieldType) ∈ TB := TB_of (List.mem_of_getElem? (i := 136) (by decide +kernel)) rfl
theorem km_X0_3 : Cond.methodLink RX0 3 ⟨"java/lang/Object", "<init>", "()V"⟩ ∈ TB := TB_of (List.mem_of_getElem? (i := 137) (by decide +kernel)) rfl
theorem kf_X0_9 : Cond.fieldLink RX0 9 "DocumentaryCreditDesk$Book" "today" "I" ∈ TB := TB_of (List.mem_of_getElem? (i := 138) (by decide +kernel)) rfl
theorem kf_X7_79 : Cond.fieldLink RX7 79 "DocumentaryCreditDesk$Book" "today" "I" ∈ TB := TB_of (List.mem_of_getElem? (i := 139) (by decide +kernel)) rfl
theorem kf_X0_15 : Cond.fieldLink RX0 15 "DocumentaryCreditDesk$Book" "calendar" "LDocumentaryCreditDesk$Calendar;" ∈ TB := TB_of (List.mem_of_getElem? (i := 140) (by decide +kernel)) rfl
theorem kf_X6_82 : Cond.fieldLink RX6 82 "DocumentaryCreditDesk$Book" "calendar" "LDocumentaryCreditDesk$Calendar;" ∈ TB := TB_of (List.mem_of_getElem? (i := 141) (by decide +kernel)) rfl
theorem kf_X7_86 : Cond.fieldLink RX7 86 "DocumentaryCreditDesk$Book" "calendar" "LDocumentaryCreditDesk$Calendar;" ∈ TB := TB_of (List.mem_of_getElem? (i := 142) (by decide +kernel)) rfl
theorem kf_X0_19 : Cond.fieldLink RX0 19 "DocumentaryCreditDesk$Book" "feeRule" "LDocumentaryCreditDesk$FeeRule;" ∈ TB := TB_of (List.mem_of_getElem? (i := 143) (by decide +kernel)) rfl
theorem kf_X7_158 : Cond.fieldLink RX7 158 "DocumentaryCreditDesk$Book" "feeRule" "LDocumentaryCreditDesk$FeeRule;" ∈ TB := TB_of (List.mem_of_getElem? (i := 144) (by decide +kernel)) rfl
theorem kf_X0_23 : Cond.fieldLink RX0 23 "DocumentaryCreditDesk$Book" "credits" "[LDocumentaryCreditDesk$Credit;" ∈ TB := TB_of (List.mem_of_getElem? (i := 145) (by decide +kernel)) rfl
theorem kf_X7_71 : Cond.fieldLink RX7 71 "DocumentaryCreditDesk$Book" "credits" "[LDocumentaryCreditDesk$Credit;" ∈ TB := TB_of (List.mem_of_getElem? (i := 146) (by decide +kernel)) rfl
theorem kf_X6_105 : Cond.fieldLink RX6 105 "DocumentaryCreditDesk$Book" "credits" "[LDocumentaryCreditDesk$Credit;" ∈ TB := TB_of (List.mem_of_getElem? (i := 147) (by decide +kernel)) rfl
theorem kf_X0_27 : Cond.fieldLink RX0 27 "DocumentaryCreditDesk$Book" "presentations" "[LDocumentaryCreditDesk$Presentation;" ∈ TB := TB_of (List.mem_of_getElem? (i := 148) (by decide +kernel)) rfl
theorem kf_X7_75 : Cond.fieldLink RX7 75 "DocumentaryCreditDesk$Book" "presentations" "[LDocumentaryCreditDesk$Presentation;" ∈ TB := TB_of (List.mem_of_getElem? (i := 149) (by decide +kernel)) rfl
theorem kl_X7_21 : Cond.classLink RX7 21 RX0 ∈ TB := TB_of (List.mem_of_getElem? (i := 161) (by decide +kernel)) rfl
theorem kf_X7_9 : Cond.fieldLink RX7 9 "DocumentaryCreditDesk" "buffer" "[B" ∈ TB := TB_of (List.mem_of_getElem? (i := 163) (by decide +kernel)) rfl
theorem kf_X7_13 : Cond.fieldLink RX7 13 "DocumentaryCreditDesk" "bufferLength" "I" ∈ TB := TB_of (List.mem_of_getElem? (i := 164) (by decide +kernel)) rfl
theorem kf_X7_17 : Cond.fieldLink RX7 17 "DocumentaryCreditDesk" "errorStart" "I" ∈ TB := TB_of (List.mem_of_getElem? (i := 165) (by decide +kernel)) rfl
theorem kf_X7_26 : Cond.fieldLink RX7 26 "DocumentaryCreditDesk" "book" "LDocumentaryCreditDesk$Book;" ∈ TB := TB_of (List.mem_of_getElem? (i := 166) (by decide +kernel)) rfl
theorem kf_X7_30 : Cond.fieldLink RX7 30 "DocumentaryCreditDesk" "past" "[LDocumentaryCreditDesk$Book;" ∈ TB := TB_of (List.mem_of_getElem? (i := 167) (by decide +kernel)) rfl
theorem kf_X7_34 : Cond.fieldLink RX7 34 "DocumentaryCreditDesk" "pastCount" "I" ∈ TB := TB_of (List.mem_of_getElem? (i := 168) (by decide +kernel)) rfl
theorem km_L_103 : Cond.methodLink RL 103 yX7_append ∈ TB := TB_of (List.mem_of_getElem? (i := 182) (by decide +kernel)) rfl
theorem ki_X7_append : Cond.instanceMethod yX7_append ∈ TB := TB_of (List.mem_of_getElem? (i := 183) (by decide +kernel)) rfl
theorem ks_X7_append : Cond.selects RX7 yX7_append yX7_append ∈ TB := TB_of (List.mem_of_getElem? (i := 184) (by decide +kernel)) rfl
theorem kc_X7_append : Cond.code yX7_append cX7_append 6 (Option.some FieldType.int) ∈ TB := TB_of (List.mem_of_getElem? (i := 185) (by decide +kernel)) rfl
theorem km_X7_37 : Cond.methodLink RX7 37 yX7_putWord ∈ TB := TB_of (List.mem_of_getElem? (i := 186) (by decide +kernel)) rfl
theorem ki_X7_putWord : Cond.instanceMethod yX7_putWord ∈ TB := TB_of (List.mem_of_getElem? (i := 188) (by decide +kernel)) rfl
theorem kc_X7_putWord : Cond.code yX7_putWord cX7_putWord 3 (Option.none : Option FieldType) ∈ TB := TB_of (List.mem_of_getElem? (i := 189) (by decide +kernel)) rfl
theorem km_L_117 : Cond.methodLink RL 117 yX7_errorOffset ∈ TB := TB_of (List.mem_of_getElem? (i := 190) (by decide +kernel)) rfl
theorem ki_X7_errorOffset : Cond.instanceMethod yX7_errorOffset ∈ TB := TB_of (List.mem_of_getElem? (i := 191) (by decide +kernel)) rfl
theorem ks_X7_errorOffset : Cond.selects RX7 yX7_errorOffset yX7_errorOffset ∈ TB := TB_of (List.mem_of_getElem? (i := 192) (by decide +kernel)) rfl
theorem kc_X7_errorOffset : Cond.code yX7_errorOffset cX7_errorOffset 1 (Option.some FieldType.int) ∈ TB := TB_of (List.mem_of_getElem? (i := 193) (by decide +kernel)) rfl
theorem km_L_121 : Cond.methodLink RL 121 yX7_creditCount ∈ TB := TB_of (List.mem_of_getElem? (i := 194) (by decide +kernel)) rfl
theorem ki_X7_creditCount : Cond.instanceMethod yX7_creditCount ∈ TB := TB_of (List.mem_of_getElem? (i := 195) (by decide +kernel)) rfl
theorem ks_X7_creditCount : Cond.selects RX7 yX7_creditCount yX7_creditCount ∈ TB := TB_of (List.mem_of_getElem? (i := 196) (by decide +kernel)) rfl
theorem kc_X7_creditCount : Cond.code yX7_creditCount cX7_creditCount 1 (Option.some FieldType.int) ∈ TB := TB_of (List.mem_of_getElem? (i := 197) (by decide +kernel)) rfl
theorem km_L_125 : Cond.methodLink RL 125 yX7_presentationCount ∈ TB := TB_of (List.mem_of_getElem? (i := 198) (by decide +kernel)) rfl
theorem ki_X7_presentationCount : Cond.instanceMethod yX7_presentationCount ∈ TB := TB_of (List.mem_of_getElem? (i := 199) (by decide +kernel)) rfl
theorem ks_X7_presentationCount : Cond.selects RX7 yX7_presentationCount yX7_presentationCount ∈ TB := TB_of (List.mem_of_getElem? (i := 200) (by decide +kernel)) rfl
theorem kc_X7_presentationCount : Cond.code yX7_presentationCount cX7_presentationCount 1 (Option.some FieldType.int) ∈ TB := TB_of (List.mem_of_getElem? (i := 201) (by decide +kernel)) rfl
theorem km_L_129 : Cond.methodLink RL 129 yX7_today ∈ TB := TB_of (List.mem_of_getElem? (i := 202) (by decide +kernel)) rfl
theorem ki_X7_today : Cond.instanceMethod yX7_today ∈ TB := TB_of (List.mem_of_getElem? (i := 203) (by decide +kernel)) rfl
theorem ks_X7_today : Cond.selects RX7 yX7_today yX7_today ∈ TB := TB_of (List.mem_of_getElem? (i := 204) (by decide +kernel)) rfl
theorem kc_X7_today : Cond.code yX7_today cX7_today 1 (Option.some FieldType.int) ∈ TB := TB_of (List.mem_of_getElem? (i := 205) (by decide +kernel)) rfl
theorem km_L_183 : Cond.methodLink RL 183 yX7_dueBetween ∈ TB := TB_of (List.mem_of_getElem? (i := 206) (by decide +kernel)) rfl
theorem ki_X7_dueBetween : Cond.instanceMethod yX7_dueBetween ∈ TB := TB_of (List.mem_of_getElem? (i := 207) (by decide +kernel)) rfl
theorem ks_X7_dueBetween : Cond.selects RX7 yX7_dueBetween yX7_dueBetween ∈ TB := TB_of (List.mem_of_getElem? (i := 208) (by decide +kernel)) rfl
theorem kc_X7_dueBetween : Cond.code yX7_dueBetween cX7_dueBetween 9 (Option.some FieldType.long) ∈ TB := TB_of (List.mem_of_getElem? (i := 209) (by decide +kernel)) rfl
theorem km_L_217 : Cond.methodLink RL 217 yX7_undo ∈ TB := TB_of (List.mem_of_getElem? (i := 210) (by decide +kernel)) rfl
theorem ki_X7_undo : Cond.instanceMethod yX7_undo ∈ TB := TB_of (List.mem_of_getElem? (i := 211) (by decide +kernel)) rfl
theorem ks_X7_undo : Cond.selects RX7 yX7_undo yX7_undo ∈ TB := TB_of (List.mem_of_getElem? (i := 212) (by decide +kernel)) rfl
theorem kc_X7_undo : Cond.code yX7_undo cX7_undo 2 (Option.some FieldType.int) ∈ TB := TB_of (List.mem_of_getElem? (i := 213) (by decide +kernel)) rfl
theorem km_L_221 : Cond.methodLink RL 221 yX7_checksum ∈ TB := TB_of (List.mem_of_getElem? (i := 214) (by decide +kernel)) rfl
theorem ki_X7_checksum : Cond.instanceMethod yX7_checksum ∈ TB := TB_of (List.mem_of_getElem? (i := 215) (by decide +kernel)) rfl
theorem ks_X7_checksum : Cond.selects RX7 yX7_checksum yX7_checksum ∈ TB := TB_of (List.mem_of_getElem? (i := 216) (by decide +kernel)) rfl
theorem kc_X7_checksum : Cond.code yX7_checksum cX7_checksum 7 (Option.some FieldType.long) ∈ TB := TB_of (List.mem_of_getElem? (i := 217) (by decide +kernel)) rfl
theorem kk_X7_256 : Cond.constantLong RX7 256 (31) ∈ TB := TB_of (List.mem_of_getElem? (i := 218) (by decide +kernel)) rfl
theorem km_X7_126 : Cond.methodLink RX7 126 yX0_drawnSum ∈ TB := TB_of (List.mem_of_getElem? (i := 219) (by decide +kernel)) rfl
theorem ki_X0_drawnSum : Cond.instanceMethod yX0_drawnSum ∈ TB := TB_of (List.mem_of_getElem? (i := 220) (by decide +kernel)) rfl
theorem ks_X0_drawnSum : Cond.selects RX0 yX0_drawnSum yX0_drawnSum ∈ TB := TB_of (List.mem_of_getElem? (i := 221) (by decide +kernel)) rfl
theorem kc_X0_drawnSum : Cond.code yX0_drawnSum cX0_drawnSum 7 (Option.some FieldType.int) ∈ TB := TB_of (List.mem_of_getElem? (i := 222) (by decide +kernel)) rfl
theorem km_X0_59 : Cond.methodLink RX0 59 yX5_has ∈ TB := TB_of (List.mem_of_getElem? (i := 223) (by decide +kernel)) rfl
theorem ki_X5_has : Cond.instanceMethod yX5_has ∈ TB := TB_of (List.mem_of_getElem? (i := 224) (by decide +kernel)) rfl
theorem ks_X5_has : Cond.selects RX5 yX5_has yX5_has ∈ TB := TB_of (List.mem_of_getElem? (i := 225) (by decide +kernel)) rfl
theorem kc_X5_has : Cond.code yX5_has cX5_has 2 (Option.some FieldType.boolean) ∈ TB := TB_of (List.mem_of_getElem? (i := 226) (by decide +kernel)) rfl
theorem km_X7_133 : Cond.methodLink RX7 133 yX0_availableSum ∈ TB := TB_of (List.mem_of_getElem? (i := 227) (by decide +kernel)) rfl
theorem ki_X0_availableSum : Cond.instanceMethod yX0_availableSum ∈ TB := TB_of (List.mem_of_getElem? (i := 228) (by decide +kernel)) rfl
theorem ks_X0_availableSum : Cond.selects RX0 yX0_availableSum yX0_availableSum ∈ TB := TB_of (List.mem_of_getElem? (i := 229) (by decide +kernel)) rfl
theorem kc_X0_availableSum : Cond.code yX0_availableSum cX0_availableSum 2 (Option.some FieldType.int) ∈ TB := TB_of (List.mem_of_getElem? (i := 230) (by decide +kernel)) rfl
theorem km_X0_70 : Cond.methodLink RX0 70 yX2_maximum ∈ TB := TB_of (List.mem_of_getElem? (i := 231) (by decide +kernel)) rfl
theorem ki_X2_maximum : Cond.instanceMethod yX2_maximum ∈ TB := TB_of (List.mem_of_getElem? (i := 232) (by decide +kernel)) rfl
theorem ks_X2_maximum : Cond.selects RX2 yX2_maximum yX2_maximum ∈ TB := TB_of (List.mem_of_getElem? (i := 233) (by decide +kernel)) rfl
theorem kc_X2_maximum : Cond.code yX2_maximum cX2_maximum 1 (Option.some FieldType.int) ∈ TB := TB_of (List.mem_of_getElem? (i := 234) (by decide +kernel)) rfl
theorem km_X0_74 : Cond.methodLink RX0 74 yX0_drawnSum ∈ TB := TB_of (List.mem_of_getElem? (i := 235) (by decide +kernel)) rfl
theorem km_X0_78 : Cond.methodLink RX0 78 yX0_transferredSum ∈ TB := TB_of (List.mem_of_getElem? (i := 236) (by decide +kernel)) rfl
theorem ki_X0_transferredSum : Cond.instanceMethod yX0_transferredSum ∈ TB := TB_of (List.mem_of_getElem? (i := 237) (by decide +kernel)) rfl
theorem ks_X0_transferredSum : Cond.selects RX0 yX0_transferredSum yX0_transferredSum ∈ TB := TB_of (List.mem_of_getElem? (i := 238) (by decide +kernel)) rfl
theorem kc_X0_transferredSum : Cond.code yX0_transferredSum cX0_transferredSum 7 (Option.some FieldType.int) ∈ TB := TB_of (List.mem_of_getElem? (i := 239) (by decide +kernel)) rfl
theorem km_L_107 : Cond.methodLink RL 107 yL_load ∈ TB := TB_of (List.mem_of_getElem? (i := 240) (by decide +kernel)) rfl
theorem kt_L_load : Cond.static yL_load ∈ TB := TB_of (List.mem_of_getElem? (i := 241) (by decide +kernel)) rfl
theorem kl_L_13 : Cond.classLink RL 13 "java/lang/IllegalArgumentException" ∈ TB := TB_of (List.mem_of_getElem? (i := 243) (by decide +kernel)) rfl
theorem km_L_7 : Cond.methodLink RL 7 yX7_load ∈ TB := TB_of (List.mem_of_getElem? (i := 244) (by decide +kernel)) rfl
theorem ki_X7_load : Cond.instanceMethod yX7_load ∈ TB := TB_of (List.mem_of_getElem? (i := 245) (by decide +kernel)) rfl
theorem ks_X7_load : Cond.selects RX7 yX7_load yX7_load ∈ TB := TB_of (List.mem_of_getElem? (i := 246) (by decide +kernel)) rfl
theorem kc_X7_load : Cond.code yX7_load cX7_load 3 (Option.some FieldType.int) ∈ TB := TB_of (List.mem_of_getElem? (i := 247) (by decide +kernel)) rfl
theorem kl_X7_41 : Cond.classLink RX7 41 "java/lang/IllegalArgumentException" ∈ TB := TB_of (List.mem_of_getElem? (i := 248) (by decide +kernel)) rfl
theorem km_X7_45 : Cond.methodLink RX7 45 ⟨"java/lang/IllegalArgumentException", "<init>", "(Ljava/lang/String;)V"⟩ ∈ TB := TB_of (List.mem_of_getElem? (i := 290) (by decide +kernel)) rfl
theorem kl_X7_48 : Cond.classLink RX7 48 RX6 ∈ TB := TB_of (List.mem_of_getElem? (i := 315) (by decide +kernel)) rfl
theorem kn_X6 : Cond.instantiable RX6 11 ∈ TB := TB_of (List.mem_of_getElem? (i := 316) (by decide +kernel)) rfl
theorem km_X7_50 : Cond.methodLink RX7 50 yJ7_copyOf_9075b ∈ TB := TB_of (List.mem_of_getElem? (i := 317) (by decide +kernel)) rfl
theorem kt_J7_copyOf_9075b : Cond.static yJ7_copyOf_9075b ∈ TB := TB_of (List.mem_of_getElem? (i := 318) (by decide +kernel)) rfl
theorem kc_J7_copyOf_9075b : Cond.code yJ7_copyOf_9075b cJ7_copyOf_9075b 3 (Option.some (FieldType.array FieldType.byte)) ∈ TB := TB_of (List.mem_of_getElem? (i := 319) (by decide +kernel)) rfl
theorem km_J7_310 : Cond.methodLink RJ7 310 ⟨"[B", "clone", "()Ljava/lang/Object;"⟩ ∈ TB := TB_of (List.mem_of_getElem? (i := 320) (by decide +kernel)) rfl
theorem kl_J7_311 : Cond.classLink RJ7 311 "[B" ∈ TB := TB_of (List.mem_of_getElem? (i := 326) (by decide +kernel)) rfl
theorem km_J7_304 : Cond.methodLink RJ7 304 yJ9_min_7cf53 ∈ TB := TB_of (List.mem_of_getElem? (i := 327) (by decide +kernel)) rfl
theorem kt_J9_min_7cf53 : Cond.static yJ9_min_7cf53 ∈ TB := TB_of (List.mem_of_getElem? (i := 328) (by decide +kernel)) rfl
theorem kc_J9_min_7cf53 : Cond.code yJ9_min_7cf53 cJ9_min_7cf53 2 (Option.some FieldType.int) ∈ TB := TB_of (List.mem_of_getElem? (i := 329) (by decide +kernel)) rfl
theorem km_J7_150 : Cond.methodLink RJ7 150 ⟨"java/lang/System", "arraycopy", "(Ljava/lang/Object;ILjava/lang/Object;II)V"⟩ ∈ TB := TB_of (List.mem_of_getElem? (i := 330) (by decide +kernel)) rfl
theorem km_X7_56 : Cond.methodLink RX7 56 yX6_init ∈ TB := TB_of (List.mem_of_getElem? (i := 333) (by decide +kernel)) rfl
theorem ki_X6_init : Cond.instanceMethod yX6_init ∈ TB := TB_of (List.mem_of_getElem? (i := 334) (by decide +kernel)) rfl
theorem kc_X6_init : Cond.code yX6_init cX6_init 2 (Option.none : Option FieldType) ∈ TB := TB_of (List.mem_of_getElem? (i := 335) (by decide +kernel)) rfl
theorem km_X6_3 : Cond.methodLink RX6 3 ⟨"java/lang/Object", "<init>", "()V"⟩ ∈ TB := TB_of (List.mem_of_getElem? (i := 336) (by decide +kernel)) rfl
theorem km_X6_22 : Cond.methodLink RX6 22 yX0_ofEmptySetup ∈ TB := TB_of (List.mem_of_getElem? (i := 337) (by decide +kernel)) rfl
theorem kf_X6_15 : Cond.fieldLink RX6 15 "DocumentaryCreditDesk$SetupReader" "error" "I" ∈ TB := TB_of (List.mem_of_getElem? (i := 338) (by decide +kernel)) rfl
theorem kf_X7_63 : Cond.fieldLink RX7 63 "DocumentaryCreditDesk$SetupReader" "error" "I" ∈ TB := TB_of (List.mem_of_getElem? (i := 339) (by decide +kernel)) rfl
theorem kf_X6_19 : Cond.fieldLink RX6 19 "DocumentaryCreditDesk$SetupReader" "errorStart" "I" ∈ TB := TB_of (List.mem_of_getElem? (i := 340) (by decide +kernel)) rfl
theorem kf_X7_62 : Cond.fieldLink RX7 62 "DocumentaryCreditDesk$SetupReader" "errorStart" "I" ∈ TB := TB_of (List.mem_of_getElem? (i := 341) (by decide +kernel)) rfl
theorem kf_X6_28 : Cond.fieldLink RX6 28 "DocumentaryCreditDesk$SetupReader" "book" "LDocumentaryCreditDesk$Book;" ∈ TB := TB_of (List.mem_of_getElem? (i := 342) (by decide +kernel)) rfl
theorem kf_X7_66 : Cond.fieldLink RX7 66 "DocumentaryCreditDesk$SetupReader" "book" "LDocumentaryCreditDesk$Book;" ∈ TB := TB_of (List.mem_of_getElem? (i := 343) (by decide +kernel)) rfl
theorem kf_X6_9 : Cond.fieldLink RX6 9 "DocumentaryCreditDesk$SetupReader" "text" "[B" ∈ TB := TB_of (List.mem_of_getElem? (i := 344) (by decide +kernel)) rfl
theorem kf_X6_39 : Cond.fieldLink RX6 39 "DocumentaryCreditDesk$SetupReader" "kind" "I" ∈ TB := TB_of (List.mem_of_getElem? (i := 345) (by decide +kernel)) rfl
theorem kf_X6_209 : Cond.fieldLink RX6 209 "DocumentaryCreditDesk$SetupReader" "start" "I" ∈ TB := TB_of (List.mem_of_getElem? (i := 346) (by decide +kernel)) rfl
theorem kf_X6_206 : Cond.fieldLink RX6 206 "DocumentaryCreditDesk$SetupReader" "end" "I" ∈ TB := TB_of (List.mem_of_getElem? (i := 347) (by decide +kernel)) rfl
theorem kf_X6_86 : Cond.fieldLink RX6 86 "DocumentaryCreditDesk$SetupReader" "value" "I" ∈ TB := TB_of (List.mem_of_getElem? (i := 348) (by decide +kernel)) rfl
theorem kf_X6_58 : Cond.fieldLink RX6 58 "DocumentaryCreditDesk$SetupReader" "feeGiven" "Z" ∈ TB := TB_of (List.mem_of_getElem? (i := 349) (by decide +kernel)) rfl
theorem kf_X6_32 : Cond.fieldLink RX6 32 "DocumentaryCreditDesk$SetupReader" "feeSteps" "[I" ∈ TB := TB_of (List.mem_of_getElem? (i := 350) (by decide +kernel)) rfl
theorem kf_X6_173 : Cond.fieldLink RX6 173 "DocumentaryCreditDesk$SetupReader" "feeStepCount" "I" ∈ TB := TB_of (List.mem_of_getElem? (i := 351) (by decide +kernel)) rfl
theorem km_X7_59 : Cond.methodLink RX7 59 yX6_readSetup ∈ TB := TB_of (List.mem_of_getElem? (i := 375) (by decide +kernel)) rfl
theorem ki_X6_readSetup : Cond.instanceMethod yX6_readSetup ∈ TB := TB_of (List.mem_of_getElem? (i := 376) (by decide +kernel)) rfl
theorem ks_X6_readSetup : Cond.selects RX6 yX6_readSetup yX6_readSetup ∈ TB := TB_of (List.mem_of_getElem? (i := 377) (by decide +kernel)) rfl
theorem kc_X6_readSetup : Cond.code yX6_readSetup cX6_readSetup 2 (Option.none : Option FieldType) ∈ TB := TB_of (List.mem_of_getElem? (i := 378) (by decide +kernel)) rfl
theorem km_X6_36 : Cond.methodLink RX6 36 yX6_nextToken ∈ TB := TB_of (List.mem_of_getElem? (i := 379) (by decide +kernel)) rfl
theorem ki_X6_nextToken : Cond.instanceMethod yX6_nextToken ∈ TB := TB_of (List.mem_of_getElem? (i := 381) (by decide +kernel)) rfl
theorem kc_X6_nextToken : Cond.code yX6_nextToken cX6_nextToken 2 (Option.none : Option FieldType) ∈ TB := TB_of (List.mem_of_getElem? (i := 382) (by decide +kernel)) rfl
theorem km_X6_221 : Cond.methodLink RX6 221 yX6_kindAt ∈ TB := TB_of (List.mem_of_getElem? (i := 383) (by decide +kernel)) rfl
theorem ki_X6_kindAt : Cond.instanceMethod yX6_kindAt ∈ TB := TB_of (List.mem_of_getElem? (i := 385) (by decide +kernel)) rfl
theorem kc_X6_kindAt : Cond.code yX6_kindAt cX6_kindAt 3 (Option.some FieldType.int) ∈ TB := TB_of (List.mem_of_getElem? (i := 386) (by decide +kernel)) rfl
theorem km_X6_224 : Cond.methodLink RX6 224 yX6_valueOfDigits ∈ TB := TB_of (List.mem_of_getElem? (i := 387) (by decide +kernel)) rfl
theorem ki_X6_valueOfDigits : Cond.instanceMethod yX6_valueOfDigits ∈ TB := TB_of (List.mem_of_getElem? (i := 389) (by decide +kernel)) rfl
theorem kc_X6_valueOfDigits : Cond.code yX6_valueOfDigits cX6_valueOfDigits 3 (Option.some FieldType.int) ∈ TB := TB_of (List.mem_of_getElem? (i := 390) (by decide +kernel)) rfl
theorem km_X6_227 : Cond.methodLink RX6 227 yJ9_max_7cf53 ∈ TB := TB_of (List.mem_of_getElem? (i := 391) (by decide +kernel)) rfl
theorem kt_J9_max_7cf53 : Cond.static yJ9_max_7cf53 ∈ TB := TB_of (List.mem_of_getElem? (i := 392) (by decide +kernel)) rfl
theorem kc_J9_max_7cf53 : Cond.code yJ9_max_7cf53 cJ9_max_7cf53 2 (Option.some FieldType.int) ∈ TB := TB_of (List.mem_of_getElem? (i := 393) (by decide +kernel)) rfl
theorem kk_X6_232 : Cond.constant RX6 232 (10000000) ∈ TB := TB_of (List.mem_of_getElem? (i := 394) (by decide +kernel)) rfl
theorem km_X6_233 : Cond.methodLink RX6 233 yJ9_min_7cf53 ∈ TB := TB_of (List.mem_of_getElem? (i := 395) (by decide +kernel)) rfl
theorem km_X6_44 : Cond.methodLink RX6 44 yX6_isWord ∈ TB := TB_of (List.mem_of_getElem? (i := 397) (by decide +kernel)) rfl
theorem ki_X6_isWord : Cond.instanceMethod yX6_isWord ∈ TB := TB_of (List.mem_of_getElem? (i := 399) (by decide +kernel)) rfl
theorem kc_X6_isWord : Cond.code yX6_isWord cX6_isWord 4 (Option.some FieldType.boolean) ∈ TB := TB_of (List.mem_of_getElem? (i := 400) (by decide +kernel)) rfl
theorem km_X6_212 : Cond.methodLink RX6 212 yJ0_length_8abf5 ∈ TB := TB_of (List.mem_of_getElem? (i := 401) (by decide +kernel)) rfl
theorem ki_J0_length_8abf5 : Cond.instanceMethod yJ0_length_8abf5 ∈ TB := TB_of (List.mem_of_getElem? (i := 402) (by decide +kernel)) rfl
theorem ks_J0_length_8abf5 : Cond.selects RJ0 yJ0_length_8abf5 yJ0_length_8abf5 ∈ TB := TB_of (List.mem_of_getElem? (i := 403) (by decide +kernel)) rfl
theorem kc_J0_length_8abf5 : Cond.code yJ0_length_8abf5 cJ0_length_8abf5 1 (Option.some FieldType.int) ∈ TB := TB_of (List.mem_of_getElem? (i := 404) (by decide +kernel)) rfl
theorem km_J0_335 : Cond.methodLink RJ0 335 yJ0_coder_7d493 ∈ TB := TB_of (List.mem_of_getElem? (i := 405) (by decide +kernel)) rfl
theorem ki_J0_coder_7d493 : Cond.instanceMethod yJ0_coder_7d493 ∈ TB := TB_of (List.mem_of_getElem? (i := 406) (by decide +kernel)) rfl
theorem ks_J0_coder_7d493 : Cond.selects RJ0 yJ0_coder_7d493 yJ0_coder_7d493 ∈ TB := TB_of (List.mem_of_getElem? (i := 407) (by decide +kernel)) rfl
theorem kc_J0_coder_7d493 : Cond.code yJ0_coder_7d493 cJ0_coder_7d493 1 (Option.some FieldType.byte) ∈ TB := TB_of (List.mem_of_getElem? (i := 408) (by decide +kernel)) rfl
theorem kf_J0_38 : Cond.fieldLink RJ0 38 "java/lang/String" "COMPACT_STRINGS" "Z" ∈ TB := TB_of (List.mem_of_getElem? (i := 409) (by decide +kernel)) rfl
theorem km_X6_217 : Cond.methodLink RX6 217 yJ0_charAt_5068e ∈ TB := TB_of (List.mem_of_getElem? (i := 411) (by decide +kernel)) rfl
theorem ki_J0_charAt_5068e : Cond.instanceMethod yJ0_charAt_5068e ∈ TB := TB_of (List.mem_of_getElem? (i := 412) (by decide +kernel)) rfl
theorem ks_J0_charAt_5068e : Cond.selects RJ0 yJ0_charAt_5068e yJ0_charAt_5068e ∈ TB := TB_of (List.mem_of_getElem? (i := 413) (by decide +kernel)) rfl
theorem kc_J0_charAt_5068e : Cond.code yJ0_charAt_5068e cJ0_charAt_5068e 2 (Option.some FieldType.char) ∈ TB := TB_of (List.mem_of_getElem? (i := 414) (by decide +kernel)) rfl
theorem km_J0_492 : Cond.methodLink RJ0 492 yJ0_isLatin1_aae02 ∈ TB := TB_of (List.mem_of_getElem? (i := 415) (by decide +kernel)) rfl
theorem ki_J0_isLatin1_aae02 : Cond.instanceMethod yJ0_isLatin1_aae02 ∈ TB := TB_of (List.mem_of_getElem? (i := 416) (by decide +kernel)) rfl
theorem ks_J0_isLatin1_aae02 : Cond.selects RJ0 yJ0_isLatin1_aae02 yJ0_isLatin1_aae02 ∈ TB := TB_of (List.mem_of_getElem? (i := 417) (by decide +kernel)) rfl
theorem kc_J0_isLatin1_aae02 : Cond.code yJ0_isLatin1_aae02 cJ0_isLatin1_aae02 1 (Option.some FieldType.boolean) ∈ TB := TB_of (List.mem_of_getElem? (i := 418) (by decide +kernel)) rfl
theorem km_J0_495 : Cond.methodLink RJ0 495 yJ1_charAt_3b067 ∈ TB := TB_of (List.mem_of_getElem? (i := 419) (by decide +kernel)) rfl
theorem kt_J1_charAt_3b067 : Cond.static yJ1_charAt_3b067 ∈ TB := TB_of (List.mem_of_getElem? (i := 420) (by decide +kernel)) rfl
theorem kc_J1_charAt_3b067 : Cond.code yJ1_charAt_3b067 cJ1_charAt_3b067 2 (Option.some FieldType.char) ∈ TB := TB_of (List.mem_of_getElem? (i := 421) (by decide +kernel)) rfl
theorem km_J1_9 : Cond.methodLink RJ1 9 yJ0_checkIndex_df160 ∈ TB := TB_of (List.mem_of_getElem? (i := 422) (by decide +kernel)) rfl
theorem kt_J0_checkIndex_df160 : Cond.static yJ0_checkIndex_df160 ∈ TB := TB_of (List.mem_of_getElem? (i := 423) (by decide +kernel)) rfl
theorem kc_J0_checkIndex_df160 : Cond.code yJ0_checkIndex_df160 cJ0_checkIndex_df160 2 (Option.none : Option FieldType) ∈ TB := TB_of (List.mem_of_getElem? (i := 424) (by decide +kernel)) rfl
theorem kf_J0_1053 : Cond.fieldLink RJ0 1053 "jdk/internal/util/Preconditions" "SIOOBE_FORMATTER" "Ljava/util/function/BiFunction;" ∈ TB := TB_of (List.mem_of_getElem? (i := 425) (by decide +kernel)) rfl
theorem km_J0_1059 : Cond.methodLink RJ0 1059 yJ3_checkIndex_8e157 ∈ TB := TB_of (List.mem_of_getElem? (i := 427) (by decide +kernel)) rfl
theorem kt_J3_checkIndex_8e157 : Cond.static yJ3_checkIndex_8e157 ∈ TB := TB_of (List.mem_of_getElem? (i := 428) (by decide +kernel)) rfl
theorem kc_J3_checkIndex_8e157 : Cond.code yJ3_checkIndex_8e157 cJ3_checkIndex_8e157 3 (Option.some FieldType.int) ∈ TB := TB_of (List.mem_of_getElem? (i := 429) (by decide +kernel)) rfl
theorem km_J0_498 : Cond.methodLink RJ0 498 yJ2_charAt_3b067 ∈ TB := TB_of (List.mem_of_getElem? (i := 430) (by decide +kernel)) rfl
theorem kt_J2_charAt_3b067 : Cond.static yJ2_charAt_3b067 ∈ TB := TB_of (List.mem_of_getElem? (i := 431) (by decide +kernel)) rfl
theorem kc_J2_charAt_3b067 : Cond.code yJ2_charAt_3b067 cJ2_charAt_3b067 2 (Option.some FieldType.char) ∈ TB := TB_of (List.mem_of_getElem? (i := 432) (by decide +kernel)) rfl
theorem km_J2_67 : Cond.methodLink RJ2 67 yJ2_checkIndex_2214a ∈ TB := TB_of (List.mem_of_getElem? (i := 433) (by decide +kernel)) rfl
theorem kt_J2_checkIndex_2214a : Cond.static yJ2_checkIndex_2214a ∈ TB := TB_of (List.mem_of_getElem? (i := 434) (by decide +kernel)) rfl
theorem kc_J2_checkIndex_2214a : Cond.code yJ2_checkIndex_2214a cJ2_checkIndex_2214a 2 (Option.none : Option FieldType) ∈ TB := TB_of (List.mem_of_getElem? (i := 435) (by decide +kernel)) rfl
theorem km_J2_48 : Cond.methodLink RJ2 48 yJ2_length_9d52b ∈ TB := TB_of (List.mem_of_getElem? (i := 436) (by decide +kernel)) rfl
theorem kt_J2_length_9d52b : Cond.static yJ2_length_9d52b ∈ TB := TB_of (List.mem_of_getElem? (i := 437) (by decide +kernel)) rfl
theorem kc_J2_length_9d52b : Cond.code yJ2_length_9d52b cJ2_length_9d52b 1 (Option.some FieldType.int) ∈ TB := TB_of (List.mem_of_getElem? (i := 438) (by decide +kernel)) rfl
theorem km_J2_414 : Cond.methodLink RJ2 414 yJ0_checkIndex_df160 ∈ TB := TB_of (List.mem_of_getElem? (i := 439) (by decide +kernel)) rfl
theorem km_J2_71 : Cond.methodLink RJ2 71 yJ2_getChar_3b067 ∈ TB := TB_of (List.mem_of_getElem? (i := 440) (by decide +kernel)) rfl
theorem kt_J2_getChar_3b067 : Cond.static yJ2_getChar_3b067 ∈ TB := TB_of (List.mem_of_getElem? (i := 441) (by decide +kernel)) rfl
theorem kc_J2_getChar_3b067 : Cond.code yJ2_getChar_3b067 cJ2_getChar_3b067 2 (Option.some FieldType.char) ∈ TB := TB_of (List.mem_of_getElem? (i := 442) (by decide +kernel)) rfl
theorem kf_J2_44 : Cond.fieldLink RJ2 44 "java/lang/StringUTF16" "$assertionsDisabled" "Z" ∈ TB := TB_of (List.mem_of_getElem? (i := 443) (by decide +kernel)) rfl
theorem kf_J2_59 : Cond.fieldLink RJ2 59 "java/lang/StringUTF16" "HI_BYTE_SHIFT" "I" ∈ TB := TB_of (List.mem_of_getElem? (i := 445) (by decide +kernel)) rfl
theorem kf_J2_63 : Cond.fieldLink RJ2 63 "java/lang/StringUTF16" "LO_BYTE_SHIFT" "I" ∈ TB := TB_of (List.mem_of_getElem? (i := 447) (by decide +kernel)) rfl
theorem km_X6_48 : Cond.methodLink RX6 48 yX6_readHolidays ∈ TB := TB_of (List.mem_of_getElem? (i := 449) (by decide +kernel)) rfl
theorem ki_X6_readHolidays : Cond.instanceMethod yX6_readHolidays ∈ TB := TB_of (List.mem_of_getElem? (i := 451) (by decide +kernel)) rfl
theorem kc_X6_readHolidays : Cond.code yX6_readHolidays cX6_readHolidays 2 (Option.none : Option FieldType) ∈ TB := TB_of (List.mem_of_getElem? (i := 452) (by decide +kernel)) rfl
theorem km_X6_73 : Cond.methodLink RX6 73 yX6_readHoliday ∈ TB := TB_of (List.mem_of_getElem? (i := 453) (by decide +kernel)) rfl
theorem ki_X6_readHoliday : Cond.instanceMethod yX6_readHoliday ∈ TB := TB_of (List.mem_of_getElem? (i := 455) (by decide +kernel)) rfl
theorem kc_X6_readHoliday : Cond.code yX6_readHoliday cX6_readHoliday 1 (Option.none : Option FieldType) ∈ TB := TB_of (List.mem_of_getElem? (i := 456) (by decide +kernel)) rfl
theorem km_X6_78 : Cond.methodLink RX6 78 yX6_isNumberFrom ∈ TB := TB_of (List.mem_of_getElem? (i := 457) (by decide +kernel)) rfl
theorem ki_X6_isNumberFrom : Cond.instanceMethod yX6_isNumberFrom ∈ TB := TB_of (List.mem_of_getElem? (i := 459) (by decide +kernel)) rfl
theorem kc_X6_isNumberFrom : Cond.code yX6_isNumberFrom cX6_isNumberFrom 3 (Option.some FieldType.boolean) ∈ TB := TB_of (List.mem_of_getElem? (i := 460) (by decide +kernel)) rfl
theorem km_X6_65 : Cond.methodLink RX6 65 yX6_fail ∈ TB := TB_of (List.mem_of_getElem? (i := 461) (by decide +kernel)) rfl
theorem ki_X6_fail : Cond.instanceMethod yX6_fail ∈ TB := TB_of (List.mem_of_getElem? (i := 463) (by decide +kernel)) rfl
theorem kc_X6_fail : Cond.code yX6_fail cX6_fail 2 (Option.none : Option FieldType) ∈ TB := TB_of (List.mem_of_getElem? (i := 464) (by decide +kernel)) rfl
theorem km_X6_89 : Cond.methodLink RX6 89 yX1_isHoliday ∈ TB := TB_of (List.mem_of_getElem? (i := 465) (by decide +kernel)) rfl
theorem ki_X1_isHoliday : Cond.instanceMethod yX1_isHoliday ∈ TB := TB_of (List.mem_of_getElem? (i := 466) (by decide +kernel)) rfl
theorem ks_X1_isHoliday : Cond.selects RX1 yX1_isHoliday yX1_isHoliday ∈ TB := TB_of (List.mem_of_getElem? (i := 467) (by decide +kernel)) rfl
theorem kc_X1_isHoliday : Cond.code yX1_isHoliday cX1_isHoliday 6 (Option.some FieldType.boolean) ∈ TB := TB_of (List.mem_of_getElem? (i := 468) (by decide +kernel)) rfl
theorem km_X6_93 : Cond.methodLink RX6 93 yX1_isFull ∈ TB := TB_of (List.mem_of_getElem? (i := 469) (by decide +kernel)) rfl
theorem ki_X1_isFull : Cond.instanceMethod yX1_isFull ∈ TB := TB_of (List.mem_of_getElem? (i := 470) (by decide +kernel)) rfl
theorem ks_X1_isFull : Cond.selects RX1 yX1_isFull yX1_isFull ∈ TB := TB_of (List.mem_of_getElem? (i := 471) (by decide +kernel)) rfl
theorem kc_X1_isFull : Cond.code yX1_isFull cX1_isFull 1 (Option.some FieldType.boolean) ∈ TB := TB_of (List.mem_of_getElem? (i := 472) (by decide +kernel)) rfl
theorem km_X6_97 : Cond.methodLink RX6 97 yX1_withHoliday ∈ TB := TB_of (List.mem_of_getElem? (i := 473) (by decide +kernel)) rfl
theorem ki_X1_withHoliday : Cond.instanceMethod yX1_withHoliday ∈ TB := TB_of (List.mem_of_getElem? (i := 474) (by decide +kernel)) rfl
theorem ks_X1_withHoliday : Cond.selects RX1 yX1_withHoliday yX1_withHoliday ∈ TB := TB_of (List.mem_of_getElem? (i := 475) (by decide +kernel)) rfl
theorem kc_X1_withHoliday : Cond.code yX1_withHoliday cX1_withHoliday 3 (Option.some (FieldType.object "DocumentaryCreditDesk$Calendar")) ∈ TB := TB_of (List.mem_of_getElem? (i := 476) (by decide +kernel)) rfl
theorem km_X1_13 : Cond.methodLink RX1 13 yJ7_copyOf_59c91 ∈ TB := TB_of (List.mem_of_getElem? (i := 477) (by decide +kernel)) rfl
theorem kt_J7_copyOf_59c91 : Cond.static yJ7_copyOf_59c91 ∈ TB := TB_of (List.mem_of_getElem? (i := 478) (by decide +kernel)) rfl
theorem kc_J7_copyOf_59c91 : Cond.code yJ7_copyOf_59c91 cJ7_copyOf_59c91 3 (Option.some (FieldType.array FieldType.int)) ∈ TB := TB_of (List.mem_of_getElem? (i := 479) (by decide +kernel)) rfl
theorem km_J7_316 : Cond.methodLink RJ7 316 ⟨"[I", "clone", "()Ljava/lang/Object;"⟩ ∈ TB := TB_of (List.mem_of_getElem? (i := 480) (by decide +kernel)) rfl
theorem kl_J7_317 : Cond.classLink RJ7 317 "[I" ∈ TB := TB_of (List.mem_of_getElem? (i := 484) (by decide +kernel)) rfl
theorem kl_X1_8 : Cond.classLink RX1 8 RX1 ∈ TB := TB_of (List.mem_of_getElem? (i := 485) (by decide +kernel)) rfl
theorem km_X1_19 : Cond.methodLink RX1 19 yX1_init ∈ TB := TB_of (List.mem_of_getElem? (i := 486) (by decide +kernel)) rfl
theorem km_X6_101 : Cond.methodLink RX6 101 yX0_withCalendar ∈ TB := TB_of (List.mem_of_getElem? (i := 487) (by decide +kernel)) rfl
theorem ki_X0_withCalendar : Cond.instanceMethod yX0_withCalendar ∈ TB := TB_of (List.mem_of_getElem? (i := 488) (by decide +kernel)) rfl
theorem ks_X0_withCalendar : Cond.selects RX0 yX0_withCalendar yX0_withCalendar ∈ TB := TB_of (List.mem_of_getElem? (i := 489) (by decide +kernel)) rfl
theorem kc_X0_withCalendar : Cond.code yX0_withCalendar cX0_withCalendar 2 (Option.some (FieldType.object "DocumentaryCreditDesk$Book")) ∈ TB := TB_of (List.mem_of_getElem? (i := 490) (by decide +kernel)) rfl
theorem km_X6_53 : Cond.methodLink RX6 53 yX6_readCredit ∈ TB := TB_of (List.mem_of_getElem? (i := 492) (by decide +kernel)) rfl
theorem ki_X6_readCredit : Cond.instanceMethod yX6_readCredit ∈ TB := TB_of (List.mem_of_getElem? (i := 494) (by decide +kernel)) rfl
theorem kc_X6_readCredit : Cond.code yX6_readCredit cX6_readCredit 2 (Option.none : Option FieldType) ∈ TB := TB_of (List.mem_of_getElem? (i := 495) (by decide +kernel)) rfl
theorem kl_X6_109 : Cond.classLink RX6 109 RX2 ∈ TB := TB_of (List.mem_of_getElem? (i := 496) (by decide +kernel)) rfl
theorem kn_X2 : Cond.instantiable RX2 12 ∈ TB := TB_of (List.mem_of_getElem? (i := 497) (by decide +kernel)) rfl
theorem km_X6_111 : Cond.methodLink RX6 111 yX2_init ∈ TB := TB_of (List.mem_of_getElem? (i := 498) (by decide +kernel)) rfl
theorem ki_X2_init : Cond.instanceMethod yX2_init ∈ TB := TB_of (List.mem_of_getElem? (i := 499) (by decide +kernel)) rfl
theorem kc_X2_init : Cond.code yX2_init cX2_init 3 (Option.none : Option FieldType) ∈ TB := TB_of (List.mem_of_getElem? (i := 500) (by decide +kernel)) rfl
theorem km_X2_1 : Cond.methodLink RX2 1 ⟨"java/lang/Object", "<init>", "()V"⟩ ∈ TB := TB_of (List.mem_of_getElem? (i := 501) (by decide +kernel)) rfl
theorem kf_X2_7 : Cond.fieldLink RX2 7 "DocumentaryCreditDesk$Credit" "index" "I" ∈ TB := TB_of (List.mem_of_getElem? (i := 502) (by decide +kernel)) rfl
theorem kf_X0_53 : Cond.fieldLink RX0 53 "DocumentaryCreditDesk$Credit" "index" "I" ∈ TB := TB_of (List.mem_of_getElem? (i := 503) (by decide +kernel)) rfl
theorem kf_X7_195 : Cond.fieldLink RX7 195 "DocumentaryCreditDesk$Credit" "index" "I" ∈ TB := TB_of (List.mem_of_getElem? (i := 504) (by decide +kernel)) rfl
theorem kf_X2_13 : Cond.fieldLink RX2 13 "DocumentaryCreditDesk$Credit" "parent" "I" ∈ TB := TB_of (List.mem_of_getElem? (i := 505) (by decide +kernel)) rfl
theorem kf_X0_66 : Cond.fieldLink RX0 66 "DocumentaryCreditDesk$Credit" "parent" "I" ∈ TB := TB_of (List.mem_of_getElem? (i := 506) (by decide +kernel)) rfl
theorem kf_X7_111 : Cond.fieldLink RX7 111 "DocumentaryCreditDesk$Credit" "parent" "I" ∈ TB := TB_of (List.mem_of_getElem? (i := 507) (by decide +kernel)) rfl
theorem kf_X2_16 : Cond.fieldLink RX2 16 "DocumentaryCreditDesk$Credit" "amount" "I" ∈ TB := TB_of (List.mem_of_getElem? (i := 508) (by decide +kernel)) rfl
theorem kf_X6_119 : Cond.fieldLink RX6 119 "DocumentaryCreditDesk$Credit" "amount" "I" ∈ TB := TB_of (List.mem_of_getElem? (i := 509) (by decide +kernel)) rfl
theorem kf_X0_69 : Cond.fieldLink RX0 69 "DocumentaryCreditDesk$Credit" "amount" "I" ∈ TB := TB_of (List.mem_of_getElem? (i := 510) (by decide +kernel)) rfl
theorem kf_X2_19 : Cond.fieldLink RX2 19 "DocumentaryCreditDesk$Credit" "upperTolerance" "I" ∈ TB := TB_of (List.mem_of_getElem? (i := 511) (by decide +kernel)) rfl
theorem kf_X6_122 : Cond.fieldLink RX6 122 "DocumentaryCreditDesk$Credit" "upperTolerance" "I" ∈ TB := TB_of (List.mem_of_getElem? (i := 512) (by decide +kernel)) rfl
theorem kf_X2_22 : Cond.fieldLink RX2 22 "DocumentaryCreditDesk$Credit" "lowerTolerance" "I" ∈ TB := TB_of (List.mem_of_getElem? (i := 513) (by decide +kernel)) rfl
theorem kf_X6_125 : Cond.fieldLink RX6 125 "DocumentaryCreditDesk$Credit" "lowerTolerance" "I" ∈ TB := TB_of (List.mem_of_getElem? (i := 514) (by decide +kernel)) rfl
theorem kf_X2_28 : Cond.fieldLink RX2 28 "DocumentaryCreditDesk$Credit" "expiry" "I" ∈ TB := TB_of (List.mem_of_getElem? (i := 515) (by decide +kernel)) rfl
theorem kf_X6_128 : Cond.fieldLink RX6 128 "DocumentaryCreditDesk$Credit" "expiry" "I" ∈ TB := TB_of (List.mem_of_getElem? (i := 516) (by decide +kernel)) rfl
theorem kf_X7_123 : Cond.fieldLink RX7 123 "DocumentaryCreditDesk$Credit" "expiry" "I" ∈ TB := TB_of (List.mem_of_getElem? (i := 517) (by decide +kernel)) rfl
theorem kf_X2_31 : Cond.fieldLink RX2 31 "DocumentaryCreditDesk$Credit" "latestShipment" "I" ∈ TB := TB_of (List.mem_of_getElem? (i := 518) (by decide +kernel)) rfl
theorem kf_X6_131 : Cond.fieldLink RX6 131 "DocumentaryCreditDesk$Credit" "latestShipment" "I" ∈ TB := TB_of (List.mem_of_getElem? (i := 519) (by decide +kernel)) rfl
theorem kf_X7_270 : Cond.fieldLink RX7 270 "DocumentaryCreditDesk$Credit" "latestShipment" "I" ∈ TB := TB_of (List.mem_of_getElem? (i := 520) (by decide +kernel)) rfl
theorem kf_X2_40 : Cond.fieldLink RX2 40 "DocumentaryCreditDesk$Credit" "period" "I" ∈ TB := TB_of (List.mem_of_getElem? (i := 521) (by decide +kernel)) rfl
theorem kf_X6_134 : Cond.fieldLink RX6 134 "DocumentaryCreditDesk$Credit" "period" "I" ∈ TB := TB_of (List.mem_of_getElem? (i := 522) (by decide +kernel)) rfl
theorem kf_X7_284 : Cond.fieldLink RX7 284 "DocumentaryCreditDesk$Credit" "period" "I" ∈ TB := TB_of (List.mem_of_getElem? (i := 523) (by decide +kernel)) rfl
theorem kf_X2_43 : Cond.fieldLink RX2 43 "DocumentaryCreditDesk$Credit" "tenor" "I" ∈ TB := TB_of (List.mem_of_getElem? (i := 524) (by decide +kernel)) rfl
theorem kf_X6_137 : Cond.fieldLink RX6 137 "DocumentaryCreditDesk$Credit" "tenor" "I" ∈ TB := TB_of (List.mem_of_getElem? (i := 525) (by decide +kernel)) rfl
theorem kf_X7_292 : Cond.fieldLink RX7 292 "DocumentaryCreditDesk$Credit" "tenor" "I" ∈ TB := TB_of (List.mem_of_getElem? (i := 526) (by decide +kernel)) rfl
theorem kf_X2_46 : Cond.fieldLink RX2 46 "DocumentaryCreditDesk$Credit" "needed" "I" ∈ TB := TB_of (List.mem_of_getElem? (i := 527) (by decide +kernel)) rfl
theorem kf_X6_157 : Cond.fieldLink RX6 157 "DocumentaryCreditDesk$Credit" "needed" "I" ∈ TB := TB_of (List.mem_of_getElem? (i := 528) (by decide +kernel)) rfl
theorem kf_X7_281 : Cond.fieldLink RX7 281 "DocumentaryCreditDesk$Credit" "needed" "I" ∈ TB := TB_of (List.mem_of_getElem? (i := 529) (by decide +kernel)) rfl
theorem kf_X2_49 : Cond.fieldLink RX2 49 "DocumentaryCreditDesk$Credit" "partial" "Z" ∈ TB := TB_of (List.mem_of_getElem? (i := 530) (by decide +kernel)) rfl
theorem kf_X6_145 : Cond.fieldLink RX6 145 "DocumentaryCreditDesk$Credit" "partial" "Z" ∈ TB := TB_of (List.mem_of_getElem? (i := 531) (by decide +kernel)) rfl
theorem kf_X7_273 : Cond.fieldLink RX7 273 "DocumentaryCreditDesk$Credit" "partial" "Z" ∈ TB := TB_of (List.mem_of_getElem? (i := 532) (by decide +kernel)) rfl
theorem kf_X6_149 : Cond.fieldLink RX6 149 "DocumentaryCreditDesk$Credit" "transferable" "Z" ∈ TB := TB_of (List.mem_of_getElem? (i := 533) (by decide +kernel)) rfl
theorem kf_X7_303 : Cond.fieldLink RX7 303 "DocumentaryCreditDesk$Credit" "transferable" "Z" ∈ TB := TB_of (List.mem_of_getElem? (i := 534) (by decide +kernel)) rfl
theorem kk_X6_114 : Cond.constant RX6 114 (999999) ∈ TB := TB_of (List.mem_of_getElem? (i := 560) (by decide +kernel)) rfl
theorem km_X6_115 : Cond.methodLink RX6 115 yX6_readNumber ∈ TB := TB_of (List.mem_of_getElem? (i := 561) (by decide +kernel)) rfl
theorem ki_X6_readNumber : Cond.instanceMethod yX6_readNumber ∈ TB := TB_of (List.mem_of_getElem? (i := 563) (by decide +kernel)) rfl
theorem kc_X6_readNumber : Cond.code yX6_readNumber cX6_readNumber 4 (Option.some FieldType.int) ∈ TB := TB_of (List.mem_of_getElem? (i := 564) (by decide +kernel)) rfl
theorem km_X6_142 : Cond.methodLink RX6 142 yX6_tookWord ∈ TB := TB_of (List.mem_of_getElem? (i := 566) (by decide +kernel)) rfl
theorem ki_X6_tookWord : Cond.instanceMethod yX6_tookWord ∈ TB := TB_of (List.mem_of_getElem? (i := 568) (by decide +kernel)) rfl
theorem kc_X6_tookWord : Cond.code yX6_tookWord cX6_tookWord 2 (Option.some FieldType.boolean) ∈ TB := TB_of (List.mem_of_getElem? (i := 569) (by decide +kernel)) rfl
theorem km_X6_153 : Cond.methodLink RX6 153 yX6_readDocuments ∈ TB := TB_of (List.mem_of_getElem? (i := 572) (by decide +kernel)) rfl
theorem ki_X6_readDocuments : Cond.instanceMethod yX6_readDocuments ∈ TB := TB_of (List.mem_of_getElem? (i := 574) (by decide +kernel)) rfl
theorem kc_X6_readDocuments : Cond.code yX6_readDocuments cX6_readDocuments 3 (Option.some FieldType.int) ∈ TB := TB_of (List.mem_of_getElem? (i := 575) (by decide +kernel)) rfl
theorem km_X6_164 : Cond.methodLink RX6 164 yX6_readDocumentInto ∈ TB := TB_of (List.mem_of_getElem? (i := 576) (by decide +kernel)) rfl
theorem ki_X6_readDocumentInto : Cond.instanceMethod yX6_readDocumentInto ∈ TB := TB_of (List.mem_of_getElem? (i := 578) (by decide +kernel)) rfl
theorem kc_X6_readDocumentInto : Cond.code yX6_readDocumentInto cX6_readDocumentInto 3 (Option.some FieldType.int) ∈ TB := TB_of (List.mem_of_getElem? (i := 579) (by decide +kernel)) rfl
theorem km_X6_160 : Cond.methodLink RX6 160 yX0_withCredit ∈ TB := TB_of (List.mem_of_getElem? (i := 580) (by decide +kernel)) rfl
theorem ki_X0_withCredit : Cond.instanceMethod yX0_withCredit ∈ TB := TB_of (List.mem_of_getElem? (i := 581) (by decide +kernel)) rfl
theorem ks_X0_withCredit : Cond.selects RX0 yX0_withCredit yX0_withCredit ∈ TB := TB_of (List.mem_of_getElem? (i := 582) (by decide +kernel)) rfl
theorem kc_X0_withCredit : Cond.code yX0_withCredit cX0_withCredit 4 (Option.some (FieldType.object "DocumentaryCreditDesk$Book")) ∈ TB := TB_of (List.mem_of_getElem? (i := 583) (by decide +kernel)) rfl
theorem km_X6_62 : Cond.methodLink RX6 62 yX6_readFee ∈ TB := TB_of (List.mem_of_getElem? (i := 585) (by decide +kernel)) rfl
theorem ki_X6_readFee : Cond.instanceMethod yX6_readFee ∈ TB := TB_of (List.mem_of_getElem? (i := 587) (by decide +kernel)) rfl
theorem kc_X6_readFee : Cond.code yX6_readFee cX6_readFee 1 (Option.none : Option FieldType) ∈ TB := TB_of (List.mem_of_getElem? (i := 588) (by decide +kernel)) rfl
theorem km_X6_168 : Cond.methodLink RX6 168 yX6_readSum ∈ TB := TB_of (List.mem_of_getElem? (i := 589) (by decide +kernel)) rfl
theorem ki_X6_readSum : Cond.instanceMethod yX6_readSum ∈ TB := TB_of (List.mem_of_getElem? (i := 591) (by decide +kernel)) rfl
theorem kc_X6_readSum : Cond.code yX6_readSum cX6_readSum 4 (Option.none : Option FieldType) ∈ TB := TB_of (List.mem_of_getElem? (i := 592) (by decide +kernel)) rfl
theorem km_X6_189 : Cond.methodLink RX6 189 yX6_readTerm ∈ TB := TB_of (List.mem_of_getElem? (i := 593) (by decide +kernel)) rfl
theorem ki_X6_readTerm : Cond.instanceMethod yX6_readTerm ∈ TB := TB_of (List.mem_of_getElem? (i := 595) (by decide +kernel)) rfl
theorem kc_X6_readTerm : Cond.code yX6_readTerm cX6_readTerm 4 (Option.none : Option FieldType) ∈ TB := TB_of (List.mem_of_getElem? (i := 596) (by decide +kernel)) rfl
theorem km_X6_195 : Cond.methodLink RX6 195 yX6_readFactor ∈ TB := TB_of (List.mem_of_getElem? (i := 597) (by decide +kernel)) rfl
theorem ki_X6_readFactor : Cond.instanceMethod yX6_readFactor ∈ TB := TB_of (List.mem_of_getElem? (i := 599) (by decide +kernel)) rfl
theorem kc_X6_readFactor : Cond.code yX6_readFactor cX6_readFactor 2 (Option.none : Option FieldType) ∈ TB := TB_of (List.mem_of_getElem? (i := 600) (by decide +kernel)) rfl
theorem km_X6_192 : Cond.methodLink RX6 192 yX6_addFeeStep ∈ TB := TB_of (List.mem_of_getElem? (i := 601) (by decide +kernel)) rfl
theorem ki_X6_addFeeStep : Cond.instanceMethod yX6_addFeeStep ∈ TB := TB_of (List.mem_of_getElem? (i := 603) (by decide +kernel)) rfl
theorem kc_X6_addFeeStep : Cond.code yX6_addFeeStep cX6_addFeeStep 2 (Option.none : Option FieldType) ∈ TB := TB_of (List.mem_of_getElem? (i := 604) (by decide +kernel)) rfl
theorem km_X6_203 : Cond.methodLink RX6 203 yX6_readParentheses ∈ TB := TB_of (List.mem_of_getElem? (i := 608) (by decide +kernel)) rfl
theorem ki_X6_readParentheses : Cond.instanceMethod yX6_readParentheses ∈ TB := TB_of (List.mem_of_getElem? (i := 610) (by decide +kernel)) rfl
theorem kc_X6_readParentheses : Cond.code yX6_readParentheses cX6_readParentheses 2 (Option.none : Option FieldType) ∈ TB := TB_of (List.mem_of_getElem? (i := 611) (by decide +kernel)) rfl
theorem km_X6_69 : Cond.methodLink RX6 69 yX6_needSymbol ∈ TB := TB_of (List.mem_of_getElem? (i := 612) (by decide +kernel)) rfl
theorem ki_X6_needSymbol : Cond.instanceMethod yX6_needSymbol ∈ TB := TB_of (List.mem_of_getElem? (i := 614) (by decide +kernel)) rfl
theorem kc_X6_needSymbol : Cond.code yX6_needSymbol cX6_needSymbol 2 (Option.none : Option FieldType) ∈ TB := TB_of (List.mem_of_getElem? (i := 615) (by decide +kernel)) rfl
theorem kl_X6_171 : Cond.classLink RX6 171 RX3 ∈ TB := TB_of (List.mem_of_getElem? (i := 616) (by decide +kernel)) rfl
theorem km_X6_176 : Cond.methodLink RX6 176 yJ7_copyOf_59c91 ∈ TB := TB_of (List.mem_of_getElem? (i := 617) (by decide +kernel)) rfl
theorem km_X6_182 : Cond.methodLink RX6 182 yX3_init ∈ TB := TB_of (List.mem_of_getElem? (i := 618) (by decide +kernel)) rfl
theorem km_X6_185 : Cond.methodLink RX6 185 yX0_withFeeRule ∈ TB := TB_of (List.mem_of_getElem? (i := 619) (by decide +kernel)) rfl
theorem ki_X0_withFeeRule : Cond.instanceMethod yX0_withFeeRule ∈ TB := TB_of (List.mem_of_getElem? (i := 620) (by decide +kernel)) rfl
theorem ks_X0_withFeeRule : Cond.selects RX0 yX0_withFeeRule yX0_withFeeRule ∈ TB := TB_of (List.mem_of_getElem? (i := 621) (by decide +kernel)) rfl
theorem kc_X0_withFeeRule : Cond.code yX0_withFeeRule cX0_withFeeRule 2 (Option.some (FieldType.object "DocumentaryCreditDesk$Book")) ∈ TB := TB_of (List.mem_of_getElem? (i := 622) (by decide +kernel)) rfl
theorem km_X7_67 : Cond.methodLink RX7 67 yX7_changeTo ∈ TB := TB_of (List.mem_of_getElem? (i := 623) (by decide +kernel)) rfl
theorem ki_X7_changeTo : Cond.instanceMethod yX7_changeTo ∈ TB := TB_of (List.mem_of_getElem? (i := 625) (by decide +kernel)) rfl
theorem kc_X7_changeTo : Cond.code yX7_changeTo cX7_changeTo 2 (Option.none : Option FieldType) ∈ TB := TB_of (List.mem_of_getElem? (i := 626) (by decide +kernel)) rfl
theorem km_X7_306 : Cond.methodLink RX7 306 yX7_forgetOldest ∈ TB := TB_of (List.mem_of_getElem? (i := 627) (by decide +kernel)) rfl
theorem ki_X7_forgetOldest : Cond.instanceMethod yX7_forgetOldest ∈ TB := TB_of (List.mem_of_getElem? (i := 629) (by decide +kernel)) rfl
theorem kc_X7_forgetOldest : Cond.code yX7_forgetOldest cX7_forgetOldest 2 (Option.none : Option FieldType) ∈ TB := TB_of (List.mem_of_getElem? (i := 630) (by decide +kernel)) rfl
theorem km_L_133 : Cond.methodLink RL 133 yL_isBusinessDay ∈ TB := TB_of (List.mem_of_getElem? (i := 631) (by decide +kernel)) rfl
theorem kt_L_isBusinessDay : Cond.static yL_isBusinessDay ∈ TB := TB_of (List.mem_of_getElem? (i := 632) (by decide +kernel)) rfl
theorem km_L_15 : Cond.methodLink RL 15 yX7_isBusinessDay ∈ TB := TB_of (List.mem_of_getElem? (i := 634) (by decide +kernel)) rfl
theorem ki_X7_isBusinessDay : Cond.instanceMethod yX7_isBusinessDay ∈ TB := TB_of (List.mem_of_getElem? (i := 635) (by decide +kernel)) rfl
theorem ks_X7_isBusinessDay : Cond.selects RX7 yX7_isBusinessDay yX7_isBusinessDay ∈ TB := TB_of (List.mem_of_getElem? (i := 636) (by decide +kernel)) rfl
theorem kc_X7_isBusinessDay : Cond.code yX7_isBusinessDay cX7_isBusinessDay 2 (Option.some FieldType.boolean) ∈ TB := TB_of (List.mem_of_getElem? (i := 637) (by decide +kernel)) rfl
theorem km_X7_82 : Cond.methodLink RX7 82 yX7_needRange ∈ TB := TB_of (List.mem_of_getElem? (i := 638) (by decide +kernel)) rfl
theorem kt_X7_needRange : Cond.static yX7_needRange ∈ TB := TB_of (List.mem_of_getElem? (i := 639) (by decide +kernel)) rfl
theorem kc_X7_needRange : Cond.code yX7_needRange cX7_needRange 3 (Option.none : Option FieldType) ∈ TB := TB_of (List.mem_of_getElem? (i := 640) (by decide +kernel)) rfl
theorem km_X7_90 : Cond.methodLink RX7 90 yX1_isOpen ∈ TB := TB_of (List.mem_of_getElem? (i := 642) (by decide +kernel)) rfl
theorem ki_X1_isOpen : Cond.instanceMethod yX1_isOpen ∈ TB := TB_of (List.mem_of_getElem? (i := 643) (by decide +kernel)) rfl
theorem ks_X1_isOpen : Cond.selects RX1 yX1_isOpen yX1_isOpen ∈ TB := TB_of (List.mem_of_getElem? (i := 644) (by decide +kernel)) rfl
theorem kc_X1_isOpen : Cond.code yX1_isOpen cX1_isOpen 2 (Option.some FieldType.boolean) ∈ TB := TB_of (List.mem_of_getElem? (i := 645) (by decide +kernel)) rfl
theorem km_X1_22 : Cond.methodLink RX1 22 yX1_isWeekend ∈ TB := TB_of (List.mem_of_getElem? (i := 646) (by decide +kernel)) rfl
theorem kt_X1_isWeekend : Cond.static yX1_isWeekend ∈ TB := TB_of (List.mem_of_getElem? (i := 647) (by decide +kernel)) rfl
theorem kc_X1_isWeekend : Cond.code yX1_isWeekend cX1_isWeekend 1 (Option.some FieldType.boolean) ∈ TB := TB_of (List.mem_of_getElem? (i := 648) (by decide +kernel)) rfl
theorem km_X1_26 : Cond.methodLink RX1 26 yX1_isHoliday ∈ TB := TB_of (List.mem_of_getElem? (i := 649) (by decide +kernel)) rfl
theorem km_L_136 : Cond.methodLink RL 136 yL_extended ∈ TB := TB_of (List.mem_of_getElem? (i := 650) (by decide +kernel)) rfl
theorem kt_L_extended : Cond.static yL_extended ∈ TB := TB_of (List.mem_of_getElem? (i := 651) (by decide +kernel)) rfl
theorem km_L_19 : Cond.methodLink RL 19 yX7_extended ∈ TB := TB_of (List.mem_of_getElem? (i := 653) (by decide +kernel)) rfl
theorem ki_X7_extended : Cond.instanceMethod yX7_extended ∈ TB := TB_of (List.mem_of_getElem? (i := 654) (by decide +kernel)) rfl
theorem ks_X7_extended : Cond.selects RX7 yX7_extended yX7_extended ∈ TB := TB_of (List.mem_of_getElem? (i := 655) (by decide +kernel)) rfl
theorem kc_X7_extended : Cond.code yX7_extended cX7_extended 2 (Option.some FieldType.int) ∈ TB := TB_of (List.mem_of_getElem? (i := 656) (by decide +kernel)) rfl
theorem km_X7_96 : Cond.methodLink RX7 96 yX1_firstOpen ∈ TB := TB_of (List.mem_of_getElem? (i := 657) (by decide +kernel)) rfl
theorem ki_X1_firstOpen : Cond.instanceMethod yX1_firstOpen ∈ TB := TB_of (List.mem_of_getElem? (i := 658) (by decide +kernel)) rfl
theorem ks_X1_firstOpen : Cond.selects RX1 yX1_firstOpen yX1_firstOpen ∈ TB := TB_of (List.mem_of_getElem? (i := 659) (by decide +kernel)) rfl
theorem kc_X1_firstOpen : Cond.code yX1_firstOpen cX1_firstOpen 4 (Option.some FieldType.int) ∈ TB := TB_of (List.mem_of_getElem? (i := 660) (by decide +kernel)) rfl
theorem km_X1_29 : Cond.methodLink RX1 29 yX1_isOpen ∈ TB := TB_of (List.mem_of_getElem? (i := 661) (by decide +kernel)) rfl
theorem km_L_139 : Cond.methodLink RL 139 yL_addBusinessDays ∈ TB := TB_of (List.mem_of_getElem? (i := 662) (by decide +kernel)) rfl
theorem kt_L_addBusinessDays : Cond.static yL_addBusinessDays ∈ TB := TB_of (List.mem_of_getElem? (i := 663) (by decide +kernel)) rfl
theorem km_L_22 : Cond.methodLink RL 22 yX7_addBusinessDays ∈ TB := TB_of (List.mem_of_getElem? (i := 665) (by decide +kernel)) rfl
theorem ki_X7_addBusinessDays : Cond.instanceMethod yX7_addBusinessDays ∈ TB := TB_of (List.mem_of_getElem? (i := 666) (by decide +kernel)) rfl
theorem ks_X7_addBusinessDays : Cond.selects RX7 yX7_addBusinessDays yX7_addBusinessDays ∈ TB := TB_of (List.mem_of_getElem? (i := 667) (by decide +kernel)) rfl
theorem kc_X7_addBusinessDays : Cond.code yX7_addBusinessDays cX7_addBusinessDays 3 (Option.some FieldType.int) ∈ TB := TB_of (List.mem_of_getElem? (i := 668) (by decide +kernel)) rfl
theorem km_X7_100 : Cond.methodLink RX7 100 yX1_openDayAfter ∈ TB := TB_of (List.mem_of_getElem? (i := 669) (by decide +kernel)) rfl
theorem ki_X1_openDayAfter : Cond.instanceMethod yX1_openDayAfter ∈ TB := TB_of (List.mem_of_getElem? (i := 670) (by decide +kernel)) rfl
theorem ks_X1_openDayAfter : Cond.selects RX1 yX1_openDayAfter yX1_openDayAfter ∈ TB := TB_of (List.mem_of_getElem? (i := 671) (by decide +kernel)) rfl
theorem kc_X1_openDayAfter : Cond.code yX1_openDayAfter cX1_openDayAfter 5 (Option.some FieldType.int) ∈ TB := TB_of (List.mem_of_getElem? (i := 672) (by decide +kernel)) rfl
theorem km_X1_32 : Cond.methodLink RX1 32 yX1_firstOpen ∈ TB := TB_of (List.mem_of_getElem? (i := 673) (by decide +kernel)) rfl
theorem km_L_143 : Cond.methodLink RL 143 yL_businessDays ∈ TB := TB_of (List.mem_of_getElem? (i := 674) (by decide +kernel)) rfl
theorem kt_L_businessDays : Cond.static yL_businessDays ∈ TB := TB_of (List.mem_of_getElem? (i := 675) (by decide +kernel)) rfl
theorem km_L_26 : Cond.methodLink RL 26 yX7_businessDays ∈ TB := TB_of (List.mem_of_getElem? (i := 677) (by decide +kernel)) rfl
theorem ki_X7_businessDays : Cond.instanceMethod yX7_businessDays ∈ TB := TB_of (List.mem_of_getElem? (i := 678) (by decide +kernel)) rfl
theorem ks_X7_businessDays : Cond.selects RX7 yX7_businessDays yX7_businessDays ∈ TB := TB_of (List.mem_of_getElem? (i := 679) (by decide +kernel)) rfl
theorem kc_X7_businessDays : Cond.code yX7_businessDays cX7_businessDays 3 (Option.some FieldType.int) ∈ TB := TB_of (List.mem_of_getElem? (i := 680) (by decide +kernel)) rfl
theorem km_X7_104 : Cond.methodLink RX7 104 yX1_openDays ∈ TB := TB_of (List.mem_of_getElem? (i := 681) (by decide +kernel)) rfl
theorem ki_X1_openDays : Cond.instanceMethod yX1_openDays ∈ TB := TB_of (List.mem_of_getElem? (i := 682) (by decide +kernel)) rfl
theorem ks_X1_openDays : Cond.selects RX1 yX1_openDays yX1_openDays ∈ TB := TB_of (List.mem_of_getElem? (i := 683) (by decide +kernel)) rfl
theorem kc_X1_openDays : Cond.code yX1_openDays cX1_openDays 8 (Option.some FieldType.int) ∈ TB := TB_of (List.mem_of_getElem? (i := 684) (by decide +kernel)) rfl
theorem km_X1_36 : Cond.methodLink RX1 36 yX1_workdaysBefore ∈ TB := TB_of (List.mem_of_getElem? (i := 685) (by decide +kernel)) rfl
theorem kt_X1_workdaysBefore : Cond.static yX1_workdaysBefore ∈ TB := TB_of (List.mem_of_getElem? (i := 686) (by decide +kernel)) rfl
theorem kc_X1_workdaysBefore : Cond.code yX1_workdaysBefore cX1_workdaysBefore 1 (Option.some FieldType.int) ∈ TB := TB_of (List.mem_of_getElem? (i := 687) (by decide +kernel)) rfl
theorem km_X1_39 : Cond.methodLink RX1 39 yJ9_min_7cf53 ∈ TB := TB_of (List.mem_of_getElem? (i := 688) (by decide +kernel)) rfl
theorem km_L_146 : Cond.methodLink RL 146 yL_parent ∈ TB := TB_of (List.mem_of_getElem? (i := 689) (by decide +kernel)) rfl
theorem kt_L_parent : Cond.static yL_parent ∈ TB := TB_of (List.mem_of_getElem? (i := 690) (by decide +kernel)) rfl
theorem kl_L_32 : Cond.classLink RL 32 "java/lang/IndexOutOfBoundsException" ∈ TB := TB_of (List.mem_of_getElem? (i := 692) (by decide +kernel)) rfl
theorem km_L_29 : Cond.methodLink RL 29 yX7_parent ∈ TB := TB_of (List.mem_of_getElem? (i := 693) (by decide +kernel)) rfl
theorem ki_X7_parent : Cond.instanceMethod yX7_parent ∈ TB := TB_of (List.mem_of_getElem? (i := 694) (by decide +kernel)) rfl
theorem ks_X7_parent : Cond.selects RX7 yX7_parent yX7_parent ∈ TB := TB_of (List.mem_of_getElem? (i := 695) (by decide +kernel)) rfl
theorem kc_X7_parent : Cond.code yX7_parent cX7_parent 2 (Option.some FieldType.int) ∈ TB := TB_of (List.mem_of_getElem? (i := 696) (by decide +kernel)) rfl
theorem km_X7_107 : Cond.methodLink RX7 107 yX7_creditAt ∈ TB := TB_of (List.mem_of_getElem? (i := 697) (by decide +kernel)) rfl
theorem ki_X7_creditAt : Cond.instanceMethod yX7_creditAt ∈ TB := TB_of (List.mem_of_getElem? (i := 699) (by decide +kernel)) rfl
theorem kc_X7_creditAt : Cond.code yX7_creditAt cX7_creditAt 3 (Option.some (FieldType.object "DocumentaryCreditDesk$Credit")) ∈ TB := TB_of (List.mem_of_getElem? (i := 700) (by decide +kernel)) rfl
theorem kl_X7_258 : Cond.classLink RX7 258 "java/lang/IndexOutOfBoundsException" ∈ TB := TB_of (List.mem_of_getElem? (i := 701) (by decide +kernel)) rfl
theorem km_X7_262 : Cond.methodLink RX7 262 ⟨"java/lang/IndexOutOfBoundsException", "<init>", "(Ljava/lang/String;)V"⟩ ∈ TB := TB_of (List.mem_of_getElem? (i := 711) (by decide +kernel)) rfl
theorem km_L_149 : Cond.methodLink RL 149 yL_bound ∈ TB := TB_of (List.mem_of_getElem? (i := 717) (by decide +kernel)) rfl
theorem kt_L_bound : Cond.static yL_bound ∈ TB := TB_of (List.mem_of_getElem? (i := 718) (by decide +kernel)) rfl
theorem km_L_34 : Cond.methodLink RL 34 yX7_bound ∈ TB := TB_of (List.mem_of_getElem? (i := 720) (by decide +kernel)) rfl
theorem ki_X7_bound : Cond.instanceMethod yX7_bound ∈ TB := TB_of (List.mem_of_getElem? (i := 721) (by decide +kernel)) rfl
theorem ks_X7_bound : Cond.selects RX7 yX7_bound yX7_bound ∈ TB := TB_of (List.mem_of_getElem? (i := 722) (by decide +kernel)) rfl
theorem kc_X7_bound : Cond.code yX7_bound cX7_bound 4 (Option.some FieldType.int) ∈ TB := TB_of (List.mem_of_getElem? (i := 723) (by decide +kernel)) rfl
theorem km_X7_116 : Cond.methodLink RX7 116 yX2_maximum ∈ TB := TB_of (List.mem_of_getElem? (i := 724) (by decide +kernel)) rfl
theorem km_X7_120 : Cond.methodLink RX7 120 yX2_minimum ∈ TB := TB_of (List.mem_of_getElem? (i := 725) (by decide +kernel)) rfl
theorem ki_X2_minimum : Cond.instanceMethod yX2_minimum ∈ TB := TB_of (List.mem_of_getElem? (i := 726) (by decide +kernel)) rfl
theorem ks_X2_minimum : Cond.selects RX2 yX2_minimum yX2_minimum ∈ TB := TB_of (List.mem_of_getElem? (i := 727) (by decide +kernel)) rfl
theorem kc_X2_minimum : Cond.code yX2_minimum cX2_minimum 1 (Option.some FieldType.int) ∈ TB := TB_of (List.mem_of_getElem? (i := 728) (by decide +kernel)) rfl
theorem km_L_153 : Cond.methodLink RL 153 yL_expiry ∈ TB := TB_of (List.mem_of_getElem? (i := 729) (by decide +kernel)) rfl
theorem kt_L_expiry : Cond.static yL_expiry ∈ TB := TB_of (List.mem_of_getElem? (i := 730) (by decide +kernel)) rfl
theorem km_L_38 : Cond.methodLink RL 38 yX7_expiry ∈ TB := TB_of (List.mem_of_getElem? (i := 732) (by decide +kernel)) rfl
theorem ki_X7_expiry : Cond.instanceMethod yX7_expiry ∈ TB := TB_of (List.mem_of_getElem? (i := 733) (by decide +kernel)) rfl
theorem ks_X7_expiry : Cond.selects RX7 yX7_expiry yX7_expiry ∈ TB := TB_of (List.mem_of_getElem? (i := 734) (by decide +kernel)) rfl
theorem kc_X7_expiry : Cond.code yX7_expiry cX7_expiry 2 (Option.some FieldType.int) ∈ TB := TB_of (List.mem_of_getElem? (i := 735) (by decide +kernel)) rfl
theorem km_L_156 : Cond.methodLink RL 156 yL_drawn ∈ TB := TB_of (List.mem_of_getElem? (i := 736) (by decide +kernel)) rfl
theorem kt_L_drawn : Cond.static yL_drawn ∈ TB := TB_of (List.mem_of_getElem? (i := 737) (by decide +kernel)) rfl
theorem km_L_41 : Cond.methodLink RL 41 yX7_drawn ∈ TB := TB_of (List.mem_of_getElem? (i := 739) (by decide +kernel)) rfl
theorem ki_X7_drawn : Cond.instanceMethod yX7_drawn ∈ TB := TB_of (List.mem_of_getElem? (i := 740) (by decide +kernel)) rfl
theorem ks_X7_drawn : Cond.selects RX7 yX7_drawn yX7_drawn ∈ TB := TB_of (List.mem_of_getElem? (i := 741) (by decide +kernel)) rfl
theorem kc_X7_drawn : Cond.code yX7_drawn cX7_drawn 2 (Option.some FieldType.int) ∈ TB := TB_of (List.mem_of_getElem? (i := 742) (by decide +kernel)) rfl
theorem km_L_159 : Cond.methodLink RL 159 yL_transferred ∈ TB := TB_of (List.mem_of_getElem? (i := 743) (by decide +kernel)) rfl
theorem kt_L_transferred : Cond.static yL_transferred ∈ TB := TB_of (List.mem_of_getElem? (i := 744) (by decide +kernel)) rfl
theorem km_L_44 : Cond.methodLink RL 44 yX7_transferred ∈ TB := TB_of (List.mem_of_getElem? (i := 746) (by decide +kernel)) rfl
theorem ki_X7_transferred : Cond.instanceMethod yX7_transferred ∈ TB := TB_of (List.mem_of_getElem? (i := 747) (by decide +kernel)) rfl
theorem ks_X7_transferred : Cond.selects RX7 yX7_transferred yX7_transferred ∈ TB := TB_of (List.mem_of_getElem? (i := 748) (by decide +kernel)) rfl
theorem kc_X7_transferred : Cond.code yX7_transferred cX7_transferred 2 (Option.some FieldType.int) ∈ TB := TB_of (List.mem_of_getElem? (i := 749) (by decide +kernel)) rfl
theorem km_X7_130 : Cond.methodLink RX7 130 yX0_transferredSum ∈ TB := TB_of (List.mem_of_getElem? (i := 750) (by decide +kernel)) rfl
theorem km_L_162 : Cond.methodLink RL 162 yL_available ∈ TB := TB_of (List.mem_of_getElem? (i := 751) (by decide +kernel)) rfl
theorem kt_L_available : Cond.static yL_available ∈ TB := TB_of (List.mem_of_getElem? (i := 752) (by decide +kernel)) rfl
theorem km_L_47 : Cond.methodLink RL 47 yX7_available ∈ TB := TB_of (List.mem_of_getElem? (i := 754) (by decide +kernel)) rfl
theorem ki_X7_available : Cond.instanceMethod yX7_available ∈ TB := TB_of (List.mem_of_getElem? (i := 755) (by decide +kernel)) rfl
theorem ks_X7_available : Cond.selects RX7 yX7_available yX7_available ∈ TB := TB_of (List.mem_of_getElem? (i := 756) (by decide +kernel)) rfl
theorem kc_X7_available : Cond.code yX7_available cX7_available 2 (Option.some FieldType.int) ∈ TB := TB_of (List.mem_of_getElem? (i := 757) (by decide +kernel)) rfl
theorem km_L_165 : Cond.methodLink RL 165 yL_creditOf ∈ TB := TB_of (List.mem_of_getElem? (i := 758) (by decide +kernel)) rfl
theorem kt_L_creditOf : Cond.static yL_creditOf ∈ TB := TB_of (List.mem_of_getElem? (i := 759) (by decide +kernel)) rfl
theorem km_L_50 : Cond.methodLink RL 50 yX7_creditOf ∈ TB := TB_of (List.mem_of_getElem? (i := 761) (by decide +kernel)) rfl
theorem ki_X7_creditOf : Cond.instanceMethod yX7_creditOf ∈ TB := TB_of (List.mem_of_getElem? (i := 762) (by decide +kernel)) rfl
theorem ks_X7_creditOf : Cond.selects RX7 yX7_creditOf yX7_creditOf ∈ TB := TB_of (List.mem_of_getElem? (i := 763) (by decide +kernel)) rfl
theorem kc_X7_creditOf : Cond.code yX7_creditOf cX7_creditOf 2 (Option.some FieldType.int) ∈ TB := TB_of (List.mem_of_getElem? (i := 764) (by decide +kernel)) rfl
theorem km_X7_136 : Cond.methodLink RX7 136 yX7_presentationAt ∈ TB := TB_of (List.mem_of_getElem? (i := 765) (by decide +kernel)) rfl
theorem ki_X7_presentationAt : Cond.instanceMethod yX7_presentationAt ∈ TB := TB_of (List.mem_of_getElem? (i := 767) (by decide +kernel)) rfl
theorem kc_X7_presentationAt : Cond.code yX7_presentationAt cX7_presentationAt 3 (Option.some (FieldType.object "DocumentaryCreditDesk$Presentation")) ∈ TB := TB_of (List.mem_of_getElem? (i := 768) (by decide +kernel)) rfl
theorem km_L_168 : Cond.methodLink RL 168 yL_state ∈ TB := TB_of (List.mem_of_getElem? (i := 770) (by decide +kernel)) rfl
theorem kt_L_state : Cond.static yL_state ∈ TB := TB_of (List.mem_of_getElem? (i := 771) (by decide +kernel)) rfl
theorem km_L_53 : Cond.methodLink RL 53 yX7_state ∈ TB := TB_of (List.mem_of_getElem? (i := 773) (by decide +kernel)) rfl
theorem ki_X7_state : Cond.instanceMethod yX7_state ∈ TB := TB_of (List.mem_of_getElem? (i := 774) (by decide +kernel)) rfl
theorem ks_X7_state : Cond.selects RX7 yX7_state yX7_state ∈ TB := TB_of (List.mem_of_getElem? (i := 775) (by decide +kernel)) rfl
theorem kc_X7_state : Cond.code yX7_state cX7_state 2 (Option.some FieldType.int) ∈ TB := TB_of (List.mem_of_getElem? (i := 776) (by decide +kernel)) rfl
theorem km_L_171 : Cond.methodLink RL 171 yL_discrepancies ∈ TB := TB_of (List.mem_of_getElem? (i := 777) (by decide +kernel)) rfl
theorem kt_L_discrepancies : Cond.static yL_discrepancies ∈ TB := TB_of (List.mem_of_getElem? (i := 778) (by decide +kernel)) rfl
theorem km_L_56 : Cond.methodLink RL 56 yX7_discrepancies ∈ TB := TB_of (List.mem_of_getElem? (i := 780) (by decide +kernel)) rfl
theorem ki_X7_discrepancies : Cond.instanceMethod yX7_discrepancies ∈ TB := TB_of (List.mem_of_getElem? (i := 781) (by decide +kernel)) rfl
theorem ks_X7_discrepancies : Cond.selects RX7 yX7_discrepancies yX7_discrepancies ∈ TB := TB_of (List.mem_of_getElem? (i := 782) (by decide +kernel)) rfl
theorem kc_X7_discrepancies : Cond.code yX7_discrepancies cX7_discrepancies 2 (Option.some FieldType.int) ∈ TB := TB_of (List.mem_of_getElem? (i := 783) (by decide +kernel)) rfl
theorem km_L_174 : Cond.methodLink RL 174 yL_deadline ∈ TB := TB_of (List.mem_of_getElem? (i := 784) (by decide +kernel)) rfl
theorem kt_L_deadline : Cond.static yL_deadline ∈ TB := TB_of (List.mem_of_getElem? (i := 785) (by decide +kernel)) rfl
theorem km_L_59 : Cond.methodLink RL 59 yX7_deadline ∈ TB := TB_of (List.mem_of_getElem? (i := 787) (by decide +kernel)) rfl
theorem ki_X7_deadline : Cond.instanceMethod yX7_deadline ∈ TB := TB_of (List.mem_of_getElem? (i := 788) (by decide +kernel)) rfl
theorem ks_X7_deadline : Cond.selects RX7 yX7_deadline yX7_deadline ∈ TB := TB_of (List.mem_of_getElem? (i := 789) (by decide +kernel)) rfl
theorem kc_X7_deadline : Cond.code yX7_deadline cX7_deadline 2 (Option.some FieldType.int) ∈ TB := TB_of (List.mem_of_getElem? (i := 790) (by decide +kernel)) rfl
theorem km_X7_151 : Cond.methodLink RX7 151 yX7_deadlineFor ∈ TB := TB_of (List.mem_of_getElem? (i := 791) (by decide +kernel)) rfl
theorem ki_X7_deadlineFor : Cond.instanceMethod yX7_deadlineFor ∈ TB := TB_of (List.mem_of_getElem? (i := 793) (by decide +kernel)) rfl
theorem kc_X7_deadlineFor : Cond.code yX7_deadlineFor cX7_deadlineFor 2 (Option.some FieldType.int) ∈ TB := TB_of (List.mem_of_getElem? (i := 794) (by decide +kernel)) rfl
theorem km_L_177 : Cond.methodLink RL 177 yL_dueDay ∈ TB := TB_of (List.mem_of_getElem? (i := 795) (by decide +kernel)) rfl
theorem kt_L_dueDay : Cond.static yL_dueDay ∈ TB := TB_of (List.mem_of_getElem? (i := 796) (by decide +kernel)) rfl
theorem km_L_62 : Cond.methodLink RL 62 yX7_dueDay ∈ TB := TB_of (List.mem_of_getElem? (i := 798) (by decide +kernel)) rfl
theorem ki_X7_dueDay : Cond.instanceMethod yX7_dueDay ∈ TB := TB_of (List.mem_of_getElem? (i := 799) (by decide +kernel)) rfl
theorem ks_X7_dueDay : Cond.selects RX7 yX7_dueDay yX7_dueDay ∈ TB := TB_of (List.mem_of_getElem? (i := 800) (by decide +kernel)) rfl
theorem kc_X7_dueDay : Cond.code yX7_dueDay cX7_dueDay 2 (Option.some FieldType.int) ∈ TB := TB_of (List.mem_of_getElem? (i := 801) (by decide +kernel)) rfl
theorem km_L_180 : Cond.methodLink RL 180 yL_fee ∈ TB := TB_of (List.mem_of_getElem? (i := 802) (by decide +kernel)) rfl
theorem kt_L_fee : Cond.static yL_fee ∈ TB := TB_of (List.mem_of_getElem? (i := 803) (by decide +kernel)) rfl
theorem km_L_65 : Cond.methodLink RL 65 yX7_fee ∈ TB := TB_of (List.mem_of_getElem? (i := 805) (by decide +kernel)) rfl
theorem ki_X7_fee : Cond.instanceMethod yX7_fee ∈ TB := TB_of (List.mem_of_getElem? (i := 806) (by decide +kernel)) rfl
theorem ks_X7_fee : Cond.selects RX7 yX7_fee yX7_fee ∈ TB := TB_of (List.mem_of_getElem? (i := 807) (by decide +kernel)) rfl
theorem kc_X7_fee : Cond.code yX7_fee cX7_fee 3 (Option.some FieldType.int) ∈ TB := TB_of (List.mem_of_getElem? (i := 808) (by decide +kernel)) rfl
theorem km_X7_168 : Cond.methodLink RX7 168 yJ6_bitCount_0f7a4 ∈ TB := TB_of (List.mem_of_getElem? (i := 809) (by decide +kernel)) rfl
theorem kt_J6_bitCount_0f7a4 : Cond.static yJ6_bitCount_0f7a4 ∈ TB := TB_of (List.mem_of_getElem? (i := 810) (by decide +kernel)) rfl
theorem kc_J6_bitCount_0f7a4 : Cond.code yJ6_bitCount_0f7a4 cJ6_bitCount_0f7a4 1 (Option.some FieldType.int) ∈ TB := TB_of (List.mem_of_getElem? (i := 811) (by decide +kernel)) rfl
theorem kk_J6_265 : Cond.constant RJ6 265 (1431655765) ∈ TB := TB_of (List.mem_of_getElem? (i := 812) (by decide +kernel)) rfl
theorem kk_J6_266 : Cond.constant RJ6 266 (858993459) ∈ TB := TB_of (List.mem_of_getElem? (i := 813) (by decide +kernel)) rfl
theorem kk_J6_267 : Cond.constant RJ6 267 (252645135) ∈ TB := TB_of (List.mem_of_getElem? (i := 814) (by decide +kernel)) rfl
theorem km_X7_173 : Cond.methodLink RX7 173 yX3_feeFor ∈ TB := TB_of (List.mem_of_getElem? (i := 815) (by decide +kernel)) rfl
theorem ki_X3_feeFor : Cond.instanceMethod yX3_feeFor ∈ TB := TB_of (List.mem_of_getElem? (i := 816) (by decide +kernel)) rfl
theorem ks_X3_feeFor : Cond.selects RX3 yX3_feeFor yX3_feeFor ∈ TB := TB_of (List.mem_of_getElem? (i := 817) (by decide +kernel)) rfl
theorem kc_X3_feeFor : Cond.code yX3_feeFor cX3_feeFor 10 (Option.some FieldType.int) ∈ TB := TB_of (List.mem_of_getElem? (i := 818) (by decide +kernel)) rfl
theorem km_X3_13 : Cond.methodLink RX3 13 yX3_operand ∈ TB := TB_of (List.mem_of_getElem? (i := 819) (by decide +kernel)) rfl
theorem kt_X3_operand : Cond.static yX3_operand ∈ TB := TB_of (List.mem_of_getElem? (i := 820) (by decide +kernel)) rfl
theorem kc_X3_operand : Cond.code yX3_operand cX3_operand 4 (Option.some FieldType.int) ∈ TB := TB_of (List.mem_of_getElem? (i := 821) (by decide +kernel)) rfl
theorem km_X3_17 : Cond.methodLink RX3 17 yX3_result ∈ TB := TB_of (List.mem_of_getElem? (i := 822) (by decide +kernel)) rfl
theorem kt_X3_result : Cond.static yX3_result ∈ TB := TB_of (List.mem_of_getElem? (i := 823) (by decide +kernel)) rfl
theorem kc_X3_result : Cond.code yX3_result cX3_result 5 (Option.some FieldType.int) ∈ TB := TB_of (List.mem_of_getElem? (i := 824) (by decide +kernel)) rfl
theorem kk_X3_31 : Cond.constantLong RX3 31 (-100000000) ∈ TB := TB_of (List.mem_of_getElem? (i := 825) (by decide +kernel)) rfl
theorem kk_X3_33 : Cond.constantLong RX3 33 (100000000) ∈ TB := TB_of (List.mem_of_getElem? (i := 826) (by decide +kernel)) rfl
theorem km_X3_35 : Cond.methodLink RX3 35 yJ9_min_f86c9 ∈ TB := TB_of (List.mem_of_getElem? (i := 827) (by decide +kernel)) rfl
theorem kt_J9_min_f86c9 : Cond.static yJ9_min_f86c9 ∈ TB := TB_of (List.mem_of_getElem? (i := 828) (by decide +kernel)) rfl
theorem kc_J9_min_f86c9 : Cond.code yJ9_min_f86c9 cJ9_min_f86c9 4 (Option.some FieldType.long) ∈ TB := TB_of (List.mem_of_getElem? (i := 829) (by decide +kernel)) rfl
theorem km_X3_38 : Cond.methodLink RX3 38 yJ9_max_f86c9 ∈ TB := TB_of (List.mem_of_getElem? (i := 830) (by decide +kernel)) rfl
theorem kt_J9_max_f86c9 : Cond.static yJ9_max_f86c9 ∈ TB := TB_of (List.mem_of_getElem? (i := 831) (by decide +kernel)) rfl
theorem kc_J9_max_f86c9 : Cond.code yJ9_max_f86c9 cJ9_max_f86c9 4 (Option.some FieldType.long) ∈ TB := TB_of (List.mem_of_getElem? (i := 832) (by decide +kernel)) rfl
theorem kk_X3_21 : Cond.constant RX3 21 (999999) ∈ TB := TB_of (List.mem_of_getElem? (i := 833) (by decide +kernel)) rfl
theorem km_X3_22 : Cond.methodLink RX3 22 yJ9_min_7cf53 ∈ TB := TB_of (List.mem_of_getElem? (i := 834) (by decide +kernel)) rfl
theorem km_X3_28 : Cond.methodLink RX3 28 yJ9_max_7cf53 ∈ TB := TB_of (List.mem_of_getElem? (i := 835) (by decide +kernel)) rfl
theorem km_L_188 : Cond.methodLink RL 188 yL_check ∈ TB := TB_of (List.mem_of_getElem? (i := 836) (by decide +kernel)) rfl
theorem kt_L_check : Cond.static yL_check ∈ TB := TB_of (List.mem_of_getElem? (i := 837) (by decide +kernel)) rfl
theorem km_L_68 : Cond.methodLink RL 68 yX7_check ∈ TB := TB_of (List.mem_of_getElem? (i := 839) (by decide +kernel)) rfl
theorem ki_X7_check : Cond.instanceMethod yX7_check ∈ TB := TB_of (List.mem_of_getElem? (i := 840) (by decide +kernel)) rfl
theorem ks_X7_check : Cond.selects RX7 yX7_check yX7_check ∈ TB := TB_of (List.mem_of_getElem? (i := 841) (by decide +kernel)) rfl
theorem kc_X7_check : Cond.code yX7_check cX7_check 7 (Option.some FieldType.int) ∈ TB := TB_of (List.mem_of_getElem? (i := 842) (by decide +kernel)) rfl
theorem km_X7_179 : Cond.methodLink RX7 179 yX7_needPresentable ∈ TB := TB_of (List.mem_of_getElem? (i := 843) (by decide +kernel)) rfl
theorem kt_X7_needPresentable : Cond.static yX7_needPresentable ∈ TB := TB_of (List.mem_of_getElem? (i := 844) (by decide +kernel)) rfl
theorem kc_X7_needPresentable : Cond.code yX7_needPresentable cX7_needPresentable 4 (Option.none : Option FieldType) ∈ TB := TB_of (List.mem_of_getElem? (i := 845) (by decide +kernel)) rfl
theorem kk_X7_267 : Cond.constant RX7 267 (1999999) ∈ TB := TB_of (List.mem_of_getElem? (i := 846) (by decide +kernel)) rfl
theorem km_X7_183 : Cond.methodLink RX7 183 yX7_discrepanciesToday ∈ TB := TB_of (List.mem_of_getElem? (i := 848) (by decide +kernel)) rfl
theorem ki_X7_discrepanciesToday : Cond.instanceMethod yX7_discrepanciesToday ∈ TB := TB_of (List.mem_of_getElem? (i := 850) (by decide +kernel)) rfl
theorem kc_X7_discrepanciesToday : Cond.code yX7_discrepanciesToday cX7_discrepanciesToday 7 (Option.some FieldType.int) ∈ TB := TB_of (List.mem_of_getElem? (i := 851) (by decide +kernel)) rfl
theorem km_X7_187 : Cond.methodLink RX7 187 yX7_lastDayFor ∈ TB := TB_of (List.mem_of_getElem? (i := 852) (by decide +kernel)) rfl
theorem ki_X7_lastDayFor : Cond.instanceMethod yX7_lastDayFor ∈ TB := TB_of (List.mem_of_getElem? (i := 854) (by decide +kernel)) rfl
theorem kc_X7_lastDayFor : Cond.code yX7_lastDayFor cX7_lastDayFor 3 (Option.some FieldType.int) ∈ TB := TB_of (List.mem_of_getElem? (i := 855) (by decide +kernel)) rfl
theorem km_X7_287 : Cond.methodLink RX7 287 yJ9_min_7cf53 ∈ TB := TB_of (List.mem_of_getElem? (i := 856) (by decide +kernel)) rfl
theorem km_X7_277 : Cond.methodLink RX7 277 yX0_isPresentedUnder ∈ TB := TB_of (List.mem_of_getElem? (i := 857) (by decide +kernel)) rfl
theorem ki_X0_isPresentedUnder : Cond.instanceMethod yX0_isPresentedUnder ∈ TB := TB_of (List.mem_of_getElem? (i := 858) (by decide +kernel)) rfl
theorem ks_X0_isPresentedUnder : Cond.selects RX0 yX0_isPresentedUnder yX0_isPresentedUnder ∈ TB := TB_of (List.mem_of_getElem? (i := 859) (by decide +kernel)) rfl
theorem kc_X0_isPresentedUnder : Cond.code yX0_isPresentedUnder cX0_isPresentedUnder 6 (Option.some FieldType.boolean) ∈ TB := TB_of (List.mem_of_getElem? (i := 860) (by decide +kernel)) rfl
theorem km_L_192 : Cond.methodLink RL 192 yL_lastDay ∈ TB := TB_of (List.mem_of_getElem? (i := 861) (by decide +kernel)) rfl
theorem kt_L_lastDay : Cond.static yL_lastDay ∈ TB := TB_of (List.mem_of_getElem? (i := 862) (by decide +kernel)) rfl
theorem km_L_72 : Cond.methodLink RL 72 yX7_lastDay ∈ TB := TB_of (List.mem_of_getElem? (i := 864) (by decide +kernel)) rfl
theorem ki_X7_lastDay : Cond.instanceMethod yX7_lastDay ∈ TB := TB_of (List.mem_of_getElem? (i := 865) (by decide +kernel)) rfl
theorem ks_X7_lastDay : Cond.selects RX7 yX7_lastDay yX7_lastDay ∈ TB := TB_of (List.mem_of_getElem? (i := 866) (by decide +kernel)) rfl
theorem kc_X7_lastDay : Cond.code yX7_lastDay cX7_lastDay 4 (Option.some FieldType.int) ∈ TB := TB_of (List.mem_of_getElem? (i := 867) (by decide +kernel)) rfl
theorem km_L_195 : Cond.methodLink RL 195 yL_bestFit ∈ TB := TB_of (List.mem_of_getElem? (i := 868) (by decide +kernel)) rfl
theorem kt_L_bestFit : Cond.static yL_bestFit ∈ TB := TB_of (List.mem_of_getElem? (i := 869) (by decide +kernel)) rfl
theorem km_L_75 : Cond.methodLink RL 75 yX7_bestFit ∈ TB := TB_of (List.mem_of_getElem? (i := 871) (by decide +kernel)) rfl
theorem ki_X7_bestFit : Cond.instanceMethod yX7_bestFit ∈ TB := TB_of (List.mem_of_getElem? (i := 872) (by decide +kernel)) rfl
theorem ks_X7_bestFit : Cond.selects RX7 yX7_bestFit yX7_bestFit ∈ TB := TB_of (List.mem_of_getElem? (i := 873) (by decide +kernel)) rfl
theorem kc_X7_bestFit : Cond.code yX7_bestFit cX7_bestFit 6 (Option.some FieldType.int) ∈ TB := TB_of (List.mem_of_getElem? (i := 874) (by decide +kernel)) rfl
theorem kl_X7_191 : Cond.classLink RX7 191 RX4 ∈ TB := TB_of (List.mem_of_getElem? (i := 875) (by decide +kernel)) rfl
theorem kn_X4 : Cond.instantiable RX4 6 ∈ TB := TB_of (List.mem_of_getElem? (i := 876) (by decide +kernel)) rfl
theorem km_X7_193 : Cond.methodLink RX7 193 yX4_init ∈ TB := TB_of (List.mem_of_getElem? (i := 877) (by decide +kernel)) rfl
theorem ki_X4_init : Cond.instanceMethod yX4_init ∈ TB := TB_of (List.mem_of_getElem? (i := 878) (by decide +kernel)) rfl
theorem kc_X4_init : Cond.code yX4_init cX4_init 2 (Option.none : Option FieldType) ∈ TB := TB_of (List.mem_of_getElem? (i := 879) (by decide +kernel)) rfl
theorem km_X4_3 : Cond.methodLink RX4 3 ⟨"java/lang/Object", "<init>", "()V"⟩ ∈ TB := TB_of (List.mem_of_getElem? (i := 880) (by decide +kernel)) rfl
theorem kf_X4_9 : Cond.fieldLink RX4 9 "DocumentaryCreditDesk$FitSearch" "room" "I" ∈ TB := TB_of (List.mem_of_getElem? (i := 881) (by decide +kernel)) rfl
theorem kf_X4_15 : Cond.fieldLink RX4 15 "DocumentaryCreditDesk$FitSearch" "presentations" "[I" ∈ TB := TB_of (List.mem_of_getElem? (i := 882) (by decide +kernel)) rfl
theorem kf_X4_19 : Cond.fieldLink RX4 19 "DocumentaryCreditDesk$FitSearch" "amounts" "[I" ∈ TB := TB_of (List.mem_of_getElem? (i := 883) (by decide +kernel)) rfl
theorem kf_X4_22 : Cond.fieldLink RX4 22 "DocumentaryCreditDesk$FitSearch" "count" "I" ∈ TB := TB_of (List.mem_of_getElem? (i := 884) (by decide +kernel)) rfl
theorem kf_X4_25 : Cond.fieldLink RX4 25 "DocumentaryCreditDesk$FitSearch" "bestSum" "I" ∈ TB := TB_of (List.mem_of_getElem? (i := 885) (by decide +kernel)) rfl
theorem kf_X4_28 : Cond.fieldLink RX4 28 "DocumentaryCreditDesk$FitSearch" "best" "I" ∈ TB := TB_of (List.mem_of_getElem? (i := 886) (by decide +kernel)) rfl
theorem km_X7_198 : Cond.methodLink RX7 198 yX4_addCandidate ∈ TB := TB_of (List.mem_of_getElem? (i := 900) (by decide +kernel)) rfl
theorem ki_X4_addCandidate : Cond.instanceMethod yX4_addCandidate ∈ TB := TB_of (List.mem_of_getElem? (i := 901) (by decide +kernel)) rfl
theorem ks_X4_addCandidate : Cond.selects RX4 yX4_addCandidate yX4_addCandidate ∈ TB := TB_of (List.mem_of_getElem? (i := 902) (by decide +kernel)) rfl
theorem kc_X4_addCandidate : Cond.code yX4_addCandidate cX4_addCandidate 3 (Option.none : Option FieldType) ∈ TB := TB_of (List.mem_of_getElem? (i := 903) (by decide +kernel)) rfl
theorem km_X7_202 : Cond.methodLink RX7 202 yX4_bestSet ∈ TB := TB_of (List.mem_of_getElem? (i := 904) (by decide +kernel)) rfl
theorem ki_X4_bestSet : Cond.instanceMethod yX4_bestSet ∈ TB := TB_of (List.mem_of_getElem? (i := 905) (by decide +kernel)) rfl
theorem ks_X4_bestSet : Cond.selects RX4 yX4_bestSet yX4_bestSet ∈ TB := TB_of (List.mem_of_getElem? (i := 906) (by decide +kernel)) rfl
theorem kc_X4_bestSet : Cond.code yX4_bestSet cX4_bestSet 1 (Option.some FieldType.int) ∈ TB := TB_of (List.mem_of_getElem? (i := 907) (by decide +kernel)) rfl
theorem km_X4_31 : Cond.methodLink RX4 31 yX4_tryAll ∈ TB := TB_of (List.mem_of_getElem? (i := 908) (by decide +kernel)) rfl
theorem ki_X4_tryAll : Cond.instanceMethod yX4_tryAll ∈ TB := TB_of (List.mem_of_getElem? (i := 910) (by decide +kernel)) rfl
theorem kc_X4_tryAll : Cond.code yX4_tryAll cX4_tryAll 5 (Option.none : Option FieldType) ∈ TB := TB_of (List.mem_of_getElem? (i := 911) (by decide +kernel)) rfl
theorem km_L_198 : Cond.methodLink RL 198 yL_present ∈ TB := TB_of (List.mem_of_getElem? (i := 912) (by decide +kernel)) rfl
theorem kt_L_present : Cond.static yL_present ∈ TB := TB_of (List.mem_of_getElem? (i := 913) (by decide +kernel)) rfl
theorem kl_L_81 : Cond.classLink RL 81 "java/lang/IllegalStateException" ∈ TB := TB_of (List.mem_of_getElem? (i := 915) (by decide +kernel)) rfl
theorem km_L_78 : Cond.methodLink RL 78 yX7_present ∈ TB := TB_of (List.mem_of_getElem? (i := 916) (by decide +kernel)) rfl
theorem ki_X7_present : Cond.instanceMethod yX7_present ∈ TB := TB_of (List.mem_of_getElem? (i := 917) (by decide +kernel)) rfl
theorem ks_X7_present : Cond.selects RX7 yX7_present yX7_present ∈ TB := TB_of (List.mem_of_getElem? (i := 918) (by decide +kernel)) rfl
theorem kc_X7_present : Cond.code yX7_present cX7_present 9 (Option.some FieldType.int) ∈ TB := TB_of (List.mem_of_getElem? (i := 919) (by decide +kernel)) rfl
theorem kl_X7_205 : Cond.classLink RX7 205 "java/lang/IllegalStateException" ∈ TB := TB_of (List.mem_of_getElem? (i := 920) (by decide +kernel)) rfl
theorem km_X7_209 : Cond.methodLink RX7 209 ⟨"java/lang/IllegalStateException", "<init>", "(Ljava/lang/String;)V"⟩ ∈ TB := TB_of (List.mem_of_getElem? (i := 930) (by decide +kernel)) rfl
theorem kl_X7_141 : Cond.classLink RX7 141 RX5 ∈ TB := TB_of (List.mem_of_getElem? (i := 936) (by decide +kernel)) rfl
theorem kn_X5 : Cond.instantiable RX5 6 ∈ TB := TB_of (List.mem_of_getElem? (i := 937) (by decide +kernel)) rfl
theorem km_X7_210 : Cond.methodLink RX7 210 yX5_init ∈ TB := TB_of (List.mem_of_getElem? (i := 938) (by decide +kernel)) rfl
theorem ki_X5_init : Cond.instanceMethod yX5_init ∈ TB := TB_of (List.mem_of_getElem? (i := 939) (by decide +kernel)) rfl
theorem kc_X5_init : Cond.code yX5_init cX5_init 7 (Option.none : Option FieldType) ∈ TB := TB_of (List.mem_of_getElem? (i := 940) (by decide +kernel)) rfl
theorem km_X5_1 : Cond.methodLink RX5 1 ⟨"java/lang/Object", "<init>", "()V"⟩ ∈ TB := TB_of (List.mem_of_getElem? (i := 941) (by decide +kernel)) rfl
theorem kf_X5_7 : Cond.fieldLink RX5 7 "DocumentaryCreditDesk$Presentation" "credit" "I" ∈ TB := TB_of (List.mem_of_getElem? (i := 942) (by decide +kernel)) rfl
theorem kf_X0_50 : Cond.fieldLink RX0 50 "DocumentaryCreditDesk$Presentation" "credit" "I" ∈ TB := TB_of (List.mem_of_getElem? (i := 943) (by decide +kernel)) rfl
theorem kf_X7_140 : Cond.fieldLink RX7 140 "DocumentaryCreditDesk$Presentation" "credit" "I" ∈ TB := TB_of (List.mem_of_getElem? (i := 944) (by decide +kernel)) rfl
theorem kf_X5_13 : Cond.fieldLink RX5 13 "DocumentaryCreditDesk$Presentation" "madeOn" "I" ∈ TB := TB_of (List.mem_of_getElem? (i := 945) (by decide +kernel)) rfl
theorem kf_X7_165 : Cond.fieldLink RX7 165 "DocumentaryCreditDesk$Presentation" "madeOn" "I" ∈ TB := TB_of (List.mem_of_getElem? (i := 946) (by decide +kernel)) rfl
theorem kf_X5_16 : Cond.fieldLink RX5 16 "DocumentaryCreditDesk$Presentation" "amount" "I" ∈ TB := TB_of (List.mem_of_getElem? (i := 947) (by decide +kernel)) rfl
theorem kf_X0_63 : Cond.fieldLink RX0 63 "DocumentaryCreditDesk$Presentation" "amount" "I" ∈ TB := TB_of (List.mem_of_getElem? (i := 948) (by decide +kernel)) rfl
theorem kf_X7_162 : Cond.fieldLink RX7 162 "DocumentaryCreditDesk$Presentation" "amount" "I" ∈ TB := TB_of (List.mem_of_getElem? (i := 949) (by decide +kernel)) rfl
theorem kf_X5_19 : Cond.fieldLink RX5 19 "DocumentaryCreditDesk$Presentation" "discrepancies" "I" ∈ TB := TB_of (List.mem_of_getElem? (i := 950) (by decide +kernel)) rfl
theorem kf_X7_148 : Cond.fieldLink RX7 148 "DocumentaryCreditDesk$Presentation" "discrepancies" "I" ∈ TB := TB_of (List.mem_of_getElem? (i := 951) (by decide +kernel)) rfl
theorem kf_X5_22 : Cond.fieldLink RX5 22 "DocumentaryCreditDesk$Presentation" "state" "I" ∈ TB := TB_of (List.mem_of_getElem? (i := 952) (by decide +kernel)) rfl
theorem kf_X0_56 : Cond.fieldLink RX0 56 "DocumentaryCreditDesk$Presentation" "state" "I" ∈ TB := TB_of (List.mem_of_getElem? (i := 953) (by decide +kernel)) rfl
theorem kf_X7_145 : Cond.fieldLink RX7 145 "DocumentaryCreditDesk$Presentation" "state" "I" ∈ TB := TB_of (List.mem_of_getElem? (i := 954) (by decide +kernel)) rfl
theorem kf_X5_25 : Cond.fieldLink RX5 25 "DocumentaryCreditDesk$Presentation" "dueDay" "I" ∈ TB := TB_of (List.mem_of_getElem? (i := 955) (by decide +kernel)) rfl
theorem kf_X7_155 : Cond.fieldLink RX7 155 "DocumentaryCreditDesk$Presentation" "dueDay" "I" ∈ TB := TB_of (List.mem_of_getElem? (i := 956) (by decide +kernel)) rfl
theorem km_X7_213 : Cond.methodLink RX7 213 yX0_withPresentation ∈ TB := TB_of (List.mem_of_getElem? (i := 970) (by decide +kernel)) rfl
theorem ki_X0_withPresentation : Cond.instanceMethod yX0_withPresentation ∈ TB := TB_of (List.mem_of_getElem? (i := 971) (by decide +kernel)) rfl
theorem ks_X0_withPresentation : Cond.selects RX0 yX0_withPresentation yX0_withPresentation ∈ TB := TB_of (List.mem_of_getElem? (i := 972) (by decide +kernel)) rfl
theorem kc_X0_withPresentation : Cond.code yX0_withPresentation cX0_withPresentation 4 (Option.some (FieldType.object "DocumentaryCreditDesk$Book")) ∈ TB := TB_of (List.mem_of_getElem? (i := 973) (by decide +kernel)) rfl
theorem km_L_201 : Cond.methodLink RL 201 yL_examine ∈ TB := TB_of (List.mem_of_getElem? (i := 974) (by decide +kernel)) rfl
theorem kt_L_examine : Cond.static yL_examine ∈ TB := TB_of (List.mem_of_getElem? (i := 975) (by decide +kernel)) rfl
theorem km_L_83 : Cond.methodLink RL 83 yX7_examine ∈ TB := TB_of (List.mem_of_getElem? (i := 977) (by decide +kernel)) rfl
theorem ki_X7_examine : Cond.instanceMethod yX7_examine ∈ TB := TB_of (List.mem_of_getElem? (i := 978) (by decide +kernel)) rfl
theorem ks_X7_examine : Cond.selects RX7 yX7_examine yX7_examine ∈ TB := TB_of (List.mem_of_getElem? (i := 979) (by decide +kernel)) rfl
theorem kc_X7_examine : Cond.code yX7_examine cX7_examine 4 (Option.some FieldType.int) ∈ TB := TB_of (List.mem_of_getElem? (i := 980) (by decide +kernel)) rfl
theorem km_X7_219 : Cond.methodLink RX7 219 yX7_stateAfterExamination ∈ TB := TB_of (List.mem_of_getElem? (i := 982) (by decide +kernel)) rfl
theorem ki_X7_stateAfterExamination : Cond.instanceMethod yX7_stateAfterExamination ∈ TB := TB_of (List.mem_of_getElem? (i := 984) (by decide +kernel)) rfl
theorem kc_X7_stateAfterExamination : Cond.code yX7_stateAfterExamination cX7_stateAfterExamination 2 (Option.some FieldType.int) ∈ TB := TB_of (List.mem_of_getElem? (i := 985) (by decide +kernel)) rfl
theorem km_X7_226 : Cond.methodLink RX7 226 yX5_has ∈ TB := TB_of (List.mem_of_getElem? (i := 986) (by decide +kernel)) rfl
theorem km_X7_222 : Cond.methodLink RX7 222 yX7_settle ∈ TB := TB_of (List.mem_of_getElem? (i := 987) (by decide +kernel)) rfl
theorem ki_X7_settle : Cond.instanceMethod yX7_settle ∈ TB := TB_of (List.mem_of_getElem? (i := 989) (by decide +kernel)) rfl
theorem kc_X7_settle : Cond.code yX7_settle cX7_settle 5 (Option.none : Option FieldType) ∈ TB := TB_of (List.mem_of_getElem? (i := 990) (by decide +kernel)) rfl
theorem km_X7_295 : Cond.methodLink RX7 295 yX5_settled ∈ TB := TB_of (List.mem_of_getElem? (i := 991) (by decide +kernel)) rfl
theorem ki_X5_settled : Cond.instanceMethod yX5_settled ∈ TB := TB_of (List.mem_of_getElem? (i := 992) (by decide +kernel)) rfl
theorem ks_X5_settled : Cond.selects RX5 yX5_settled yX5_settled ∈ TB := TB_of (List.mem_of_getElem? (i := 993) (by decide +kernel)) rfl
theorem kc_X5_settled : Cond.code yX5_settled cX5_settled 3 (Option.some (FieldType.object "DocumentaryCreditDesk$Presentation")) ∈ TB := TB_of (List.mem_of_getElem? (i := 994) (by decide +kernel)) rfl
theorem kl_X5_8 : Cond.classLink RX5 8 RX5 ∈ TB := TB_of (List.mem_of_getElem? (i := 995) (by decide +kernel)) rfl
theorem km_X5_28 : Cond.methodLink RX5 28 yX5_init ∈ TB := TB_of (List.mem_of_getElem? (i := 996) (by decide +kernel)) rfl
theorem km_X7_299 : Cond.methodLink RX7 299 yX0_withPresentationAt ∈ TB := TB_of (List.mem_of_getElem? (i := 997) (by decide +kernel)) rfl
theorem ki_X0_withPresentationAt : Cond.instanceMethod yX0_withPresentationAt ∈ TB := TB_of (List.mem_of_getElem? (i := 998) (by decide +kernel)) rfl
theorem ks_X0_withPresentationAt : Cond.selects RX0 yX0_withPresentationAt yX0_withPresentationAt ∈ TB := TB_of (List.mem_of_getElem? (i := 999) (by decide +kernel)) rfl
theorem kc_X0_withPresentationAt : Cond.code yX0_withPresentationAt cX0_withPresentationAt 5 (Option.some (FieldType.object "DocumentaryCreditDesk$Book")) ∈ TB := TB_of (List.mem_of_getElem? (i := 1000) (by decide +kernel)) rfl
theorem km_L_204 : Cond.methodLink RL 204 yL_waive ∈ TB := TB_of (List.mem_of_getElem? (i := 1001) (by decide +kernel)) rfl
theorem kt_L_waive : Cond.static yL_waive ∈ TB := TB_of (List.mem_of_getElem? (i := 1002) (by decide +kernel)) rfl
theorem km_L_86 : Cond.methodLink RL 86 yX7_waive ∈ TB := TB_of (List.mem_of_getElem? (i := 1004) (by decide +kernel)) rfl
theorem ki_X7_waive : Cond.instanceMethod yX7_waive ∈ TB := TB_of (List.mem_of_getElem? (i := 1005) (by decide +kernel)) rfl
theorem ks_X7_waive : Cond.selects RX7 yX7_waive yX7_waive ∈ TB := TB_of (List.mem_of_getElem? (i := 1006) (by decide +kernel)) rfl
theorem kc_X7_waive : Cond.code yX7_waive cX7_waive 3 (Option.some FieldType.int) ∈ TB := TB_of (List.mem_of_getElem? (i := 1007) (by decide +kernel)) rfl
theorem km_L_207 : Cond.methodLink RL 207 yL_refuse ∈ TB := TB_of (List.mem_of_getElem? (i := 1009) (by decide +kernel)) rfl
theorem kt_L_refuse : Cond.static yL_refuse ∈ TB := TB_of (List.mem_of_getElem? (i := 1010) (by decide +kernel)) rfl
theorem km_L_89 : Cond.methodLink RL 89 yX7_refuse ∈ TB := TB_of (List.mem_of_getElem? (i := 1012) (by decide +kernel)) rfl
theorem ki_X7_refuse : Cond.instanceMethod yX7_refuse ∈ TB := TB_of (List.mem_of_getElem? (i := 1013) (by decide +kernel)) rfl
theorem ks_X7_refuse : Cond.selects RX7 yX7_refuse yX7_refuse ∈ TB := TB_of (List.mem_of_getElem? (i := 1014) (by decide +kernel)) rfl
theorem kc_X7_refuse : Cond.code yX7_refuse cX7_refuse 3 (Option.some FieldType.int) ∈ TB := TB_of (List.mem_of_getElem? (i := 1015) (by decide +kernel)) rfl
theorem km_L_210 : Cond.methodLink RL 210 yL_transfer ∈ TB := TB_of (List.mem_of_getElem? (i := 1017) (by decide +kernel)) rfl
theorem kt_L_transfer : Cond.static yL_transfer ∈ TB := TB_of (List.mem_of_getElem? (i := 1018) (by decide +kernel)) rfl
theorem km_L_92 : Cond.methodLink RL 92 yX7_transfer ∈ TB := TB_of (List.mem_of_getElem? (i := 1020) (by decide +kernel)) rfl
theorem ki_X7_transfer : Cond.instanceMethod yX7_transfer ∈ TB := TB_of (List.mem_of_getElem? (i := 1021) (by decide +kernel)) rfl
theorem ks_X7_transfer : Cond.selects RX7 yX7_transfer yX7_transfer ∈ TB := TB_of (List.mem_of_getElem? (i := 1022) (by decide +kernel)) rfl
theorem kc_X7_transfer : Cond.code yX7_transfer cX7_transfer 6 (Option.some FieldType.int) ∈ TB := TB_of (List.mem_of_getElem? (i := 1023) (by decide +kernel)) rfl
theorem kk_X7_233 : Cond.constant RX7 233 (999999) ∈ TB := TB_of (List.mem_of_getElem? (i := 1024) (by decide +kernel)) rfl
theorem km_X7_236 : Cond.methodLink RX7 236 yX7_canTransfer ∈ TB := TB_of (List.mem_of_getElem? (i := 1026) (by decide +kernel)) rfl
theorem ki_X7_canTransfer : Cond.instanceMethod yX7_canTransfer ∈ TB := TB_of (List.mem_of_getElem? (i := 1028) (by decide +kernel)) rfl
theorem kc_X7_canTransfer : Cond.code yX7_canTransfer cX7_canTransfer 3 (Option.some FieldType.boolean) ∈ TB := TB_of (List.mem_of_getElem? (i := 1029) (by decide +kernel)) rfl
theorem km_X7_242 : Cond.methodLink RX7 242 yX2_partTransferred ∈ TB := TB_of (List.mem_of_getElem? (i := 1031) (by decide +kernel)) rfl
theorem ki_X2_partTransferred : Cond.instanceMethod yX2_partTransferred ∈ TB := TB_of (List.mem_of_getElem? (i := 1032) (by decide +kernel)) rfl
theorem ks_X2_partTransferred : Cond.selects RX2 yX2_partTransferred yX2_partTransferred ∈ TB := TB_of (List.mem_of_getElem? (i := 1033) (by decide +kernel)) rfl
theorem kc_X2_partTransferred : Cond.code yX2_partTransferred cX2_partTransferred 5 (Option.some (FieldType.object "DocumentaryCreditDesk$Credit")) ∈ TB := TB_of (List.mem_of_getElem? (i := 1034) (by decide +kernel)) rfl
theorem kl_X2_8 : Cond.classLink RX2 8 RX2 ∈ TB := TB_of (List.mem_of_getElem? (i := 1035) (by decide +kernel)) rfl
theorem km_X2_25 : Cond.methodLink RX2 25 yX2_init ∈ TB := TB_of (List.mem_of_getElem? (i := 1036) (by decide +kernel)) rfl
theorem km_X2_34 : Cond.methodLink RX2 34 yJ9_min_7cf53 ∈ TB := TB_of (List.mem_of_getElem? (i := 1037) (by decide +kernel)) rfl
theorem km_X7_246 : Cond.methodLink RX7 246 yX0_withCredit ∈ TB := TB_of (List.mem_of_getElem? (i := 1038) (by decide +kernel)) rfl
theorem km_L_214 : Cond.methodLink RL 214 yL_pass ∈ TB := TB_of (List.mem_of_getElem? (i := 1039) (by decide +kernel)) rfl
theorem kt_L_pass : Cond.static yL_pass ∈ TB := TB_of (List.mem_of_getElem? (i := 1040) (by decide +kernel)) rfl
theorem km_L_96 : Cond.methodLink RL 96 yX7_pass ∈ TB := TB_of (List.mem_of_getElem? (i := 1042) (by decide +kernel)) rfl
theorem ki_X7_pass : Cond.instanceMethod yX7_pass ∈ TB := TB_of (List.mem_of_getElem? (i := 1043) (by decide +kernel)) rfl
theorem ks_X7_pass : Cond.selects RX7 yX7_pass yX7_pass ∈ TB := TB_of (List.mem_of_getElem? (i := 1044) (by decide +kernel)) rfl
theorem kc_X7_pass : Cond.code yX7_pass cX7_pass 2 (Option.some FieldType.int) ∈ TB := TB_of (List.mem_of_getElem? (i := 1045) (by decide +kernel)) rfl
theorem km_X7_252 : Cond.methodLink RX7 252 yX0_withToday ∈ TB := TB_of (List.mem_of_getElem? (i := 1047) (by decide +kernel)) rfl
theorem ki_X0_withToday : Cond.instanceMethod yX0_withToday ∈ TB := TB_of (List.mem_of_getElem? (i := 1048) (by decide +kernel)) rfl
theorem ks_X0_withToday : Cond.selects RX0 yX0_withToday yX0_withToday ∈ TB := TB_of (List.mem_of_getElem? (i := 1049) (by decide +kernel)) rfl
theorem kc_X0_withToday : Cond.code yX0_withToday cX0_withToday 2 (Option.some (FieldType.object "DocumentaryCreditDesk$Book")) ∈ TB := TB_of (List.mem_of_getElem? (i := 1050) (by decide +kernel)) rfl
theorem kl_L_100 : Cond.classLink RL 100 RX8 ∈ TB := TB_of (List.mem_of_getElem? (i := 1051) (by decide +kernel)) rfl
theorem kn_X8 : Cond.instantiable RX8 16 ∈ TB := TB_of (List.mem_of_getElem? (i := 1052) (by decide +kernel)) rfl
theorem km_L_102 : Cond.methodLink RL 102 yX8_init ∈ TB := TB_of (List.mem_of_getElem? (i := 1053) (by decide +kernel)) rfl
theorem ki_X8_init : Cond.instanceMethod yX8_init ∈ TB := TB_of (List.mem_of_getElem? (i := 1054) (by decide +kernel)) rfl
theorem kc_X8_init : Cond.code yX8_init cX8_init 1 (Option.none : Option FieldType) ∈ TB := TB_of (List.mem_of_getElem? (i := 1055) (by decide +kernel)) rfl
theorem km_X8_3 : Cond.methodLink RX8 3 ⟨"java/lang/Object", "<init>", "()V"⟩ ∈ TB := TB_of (List.mem_of_getElem? (i := 1056) (by decide +kernel)) rfl
theorem kl_X8_23 : Cond.classLink RX8 23 "[[I" ∈ TB := TB_of (List.mem_of_getElem? (i := 1057) (by decide +kernel)) rfl
theorem kf_X8_32 : Cond.fieldLink RX8 32 "DocumentaryCreditDeskModel" "thrown" "I" ∈ TB := TB_of (List.mem_of_getElem? (i := 1059) (by decide +kernel)) rfl
theorem kf_X8_9 : Cond.fieldLink RX8 9 "DocumentaryCreditDeskModel" "buffer" "[I" ∈ TB := TB_of (List.mem_of_getElem? (i := 1060) (by decide +kernel)) rfl
theorem kf_X8_35 : Cond.fieldLink RX8 35 "DocumentaryCreditDeskModel" "bufferLength" "I" ∈ TB := TB_of (List.mem_of_getElem? (i := 1061) (by decide +kernel)) rfl
theorem kf_X8_38 : Cond.fieldLink RX8 38 "DocumentaryCreditDeskModel" "textLength" "I" ∈ TB := TB_of (List.mem_of_getElem? (i := 1062) (by decide +kernel)) rfl
theorem kf_X8_41 : Cond.fieldLink RX8 41 "DocumentaryCreditDeskModel" "position" "I" ∈ TB := TB_of (List.mem_of_getElem? (i := 1063) (by decide +kernel)) rfl
theorem kf_X8_48 : Cond.fieldLink RX8 48 "DocumentaryCreditDeskModel" "error" "I" ∈ TB := TB_of (List.mem_of_getElem? (i := 1064) (by decide +kernel)) rfl
theorem kf_X8_51 : Cond.fieldLink RX8 51 "DocumentaryCreditDeskModel" "errorAt" "I" ∈ TB := TB_of (List.mem_of_getElem? (i := 1065) (by decide +kernel)) rfl
theorem kf_X8_13 : Cond.fieldLink RX8 13 "DocumentaryCreditDeskModel" "errorOffset" "I" ∈ TB := TB_of (List.mem_of_getElem? (i := 1066) (by decide +kernel)) rfl
theorem kf_X8_17 : Cond.fieldLink RX8 17 "DocumentaryCreditDeskModel" "data" "[I" ∈ TB := TB_of (List.mem_of_getElem? (i := 1067) (by decide +kernel)) rfl
theorem kf_X8_20 : Cond.fieldLink RX8 20 "DocumentaryCreditDeskModel" "draft" "[I" ∈ TB := TB_of (List.mem_of_getElem? (i := 1068) (by decide +kernel)) rfl
theorem kf_X8_25 : Cond.fieldLink RX8 25 "DocumentaryCreditDeskModel" "history" "[[I" ∈ TB := TB_of (List.mem_of_getElem? (i := 1069) (by decide +kernel)) rfl
theorem kf_X8_242 : Cond.fieldLink RX8 242 "DocumentaryCreditDeskModel" "undoDepth" "I" ∈ TB := TB_of (List.mem_of_getElem? (i := 1070) (by decide +kernel)) rfl
theorem kf_X8_83 : Cond.fieldLink RX8 83 "DocumentaryCreditDeskModel" "numberStart" "I" ∈ TB := TB_of (List.mem_of_getElem? (i := 1071) (by decide +kernel)) rfl
theorem kf_X8_91 : Cond.fieldLink RX8 91 "DocumentaryCreditDeskModel" "nesting" "I" ∈ TB := TB_of (List.mem_of_getElem? (i := 1072) (by decide +kernel)) rfl
theorem kf_X8_123 : Cond.fieldLink RX8 123 "DocumentaryCreditDeskModel" "seen" "I" ∈ TB := TB_of (List.mem_of_getElem? (i := 1073) (by decide +kernel)) rfl
theorem kf_X8_28 : Cond.fieldLink RX8 28 "DocumentaryCreditDeskModel" "stack" "[J" ∈ TB := TB_of (List.mem_of_getElem? (i := 1074) (by decide +kernel)) rfl
theorem ka_long : Cond.arrayClass .long ∈ TB := TB_of (List.mem_of_getElem? (i := 1108) (by decide +kernel)) rfl
theorem km_L_113 : Cond.methodLink RL 113 yX8_thrown ∈ TB := TB_of (List.mem_of_getElem? (i := 1109) (by decide +kernel)) rfl
theorem ki_X8_thrown : Cond.instanceMethod yX8_thrown ∈ TB := TB_of (List.mem_of_getElem? (i := 1110) (by decide +kernel)) rfl
theorem ks_X8_thrown : Cond.selects RX8 yX8_thrown yX8_thrown ∈ TB := TB_of (List.mem_of_getElem? (i := 1111) (by decide +kernel)) rfl
theorem kc_X8_thrown : Cond.code yX8_thrown cX8_thrown 1 (Option.some FieldType.int) ∈ TB := TB_of (List.mem_of_getElem? (i := 1112) (by decide +kernel)) rfl
theorem km_L_106 : Cond.methodLink RL 106 yX8_append ∈ TB := TB_of (List.mem_of_getElem? (i := 1113) (by decide +kernel)) rfl
theorem ki_X8_append : Cond.instanceMethod yX8_append ∈ TB := TB_of (List.mem_of_getElem? (i := 1114) (by decide +kernel)) rfl
theorem ks_X8_append : Cond.selects RX8 yX8_append yX8_append ∈ TB := TB_of (List.mem_of_getElem? (i := 1115) (by decide +kernel)) rfl
theorem kc_X8_append : Cond.code yX8_append cX8_append 8 (Option.some FieldType.int) ∈ TB := TB_of (List.mem_of_getElem? (i := 1116) (by decide +kernel)) rfl
theorem km_L_112 : Cond.methodLink RL 112 yX8_load ∈ TB := TB_of (List.mem_of_getElem? (i := 1117) (by decide +kernel)) rfl
theorem ki_X8_load : Cond.instanceMethod yX8_load ∈ TB := TB_of (List.mem_of_getElem? (i := 1118) (by decide +kernel)) rfl
theorem ks_X8_load : Cond.selects RX8 yX8_load yX8_load ∈ TB := TB_of (List.mem_of_getElem? (i := 1119) (by decide +kernel)) rfl
theorem kc_X8_load : Cond.code yX8_load cX8_load 3 (Option.some FieldType.int) ∈ TB := TB_of (List.mem_of_getElem? (i := 1120) (by decide +kernel)) rfl
theorem km_X8_54 : Cond.methodLink RX8 54 yX8_in ∈ TB := TB_of (List.mem_of_getElem? (i := 1121) (by decide +kernel)) rfl
theorem kt_X8_in : Cond.static yX8_in ∈ TB := TB_of (List.mem_of_getElem? (i := 1122) (by decide +kernel)) rfl
theorem kc_X8_in : Cond.code yX8_in cX8_in 3 (Option.some FieldType.boolean) ∈ TB := TB_of (List.mem_of_getElem? (i := 1123) (by decide +kernel)) rfl
theorem km_X8_153 : Cond.methodLink RX8 153 yX8_fails ∈ TB := TB_of (List.mem_of_getElem? (i := 1124) (by decide +kernel)) rfl
theorem ki_X8_fails : Cond.instanceMethod yX8_fails ∈ TB := TB_of (List.mem_of_getElem? (i := 1126) (by decide +kernel)) rfl
theorem kc_X8_fails : Cond.code yX8_fails cX8_fails 3 (Option.some FieldType.boolean) ∈ TB := TB_of (List.mem_of_getElem? (i := 1127) (by decide +kernel)) rfl
theorem km_X8_58 : Cond.methodLink RX8 58 yX8_isGood ∈ TB := TB_of (List.mem_of_getElem? (i := 1128) (by decide +kernel)) rfl
theorem ki_X8_isGood : Cond.instanceMethod yX8_isGood ∈ TB := TB_of (List.mem_of_getElem? (i := 1130) (by decide +kernel)) rfl
theorem kc_X8_isGood : Cond.code yX8_isGood cX8_isGood 1 (Option.some FieldType.boolean) ∈ TB := TB_of (List.mem_of_getElem? (i := 1131) (by decide +kernel)) rfl
theorem km_X8_62 : Cond.methodLink RX8 62 yX8_next ∈ TB := TB_of (List.mem_of_getElem? (i := 1132) (by decide +kernel)) rfl
theorem ki_X8_next : Cond.instanceMethod yX8_next ∈ TB := TB_of (List.mem_of_getElem? (i := 1134) (by decide +kernel)) rfl
theorem kc_X8_next : Cond.code yX8_next cX8_next 1 (Option.some FieldType.int) ∈ TB := TB_of (List.mem_of_getElem? (i := 1135) (by decide +kernel)) rfl
theorem km_X8_44 : Cond.methodLink RX8 44 yX8_byteAt ∈ TB := TB_of (List.mem_of_getElem? (i := 1136) (by decide +kernel)) rfl
theorem ki_X8_byteAt : Cond.instanceMethod yX8_byteAt ∈ TB := TB_of (List.mem_of_getElem? (i := 1138) (by decide +kernel)) rfl
theorem kc_X8_byteAt : Cond.code yX8_byteAt cX8_byteAt 2 (Option.some FieldType.int) ∈ TB := TB_of (List.mem_of_getElem? (i := 1139) (by decide +kernel)) rfl
theorem km_X8_157 : Cond.methodLink RX8 157 yX8_statement ∈ TB := TB_of (List.mem_of_getElem? (i := 1140) (by decide +kernel)) rfl
theorem ki_X8_statement : Cond.instanceMethod yX8_statement ∈ TB := TB_of (List.mem_of_getElem? (i := 1142) (by decide +kernel)) rfl
theorem kc_X8_statement : Cond.code yX8_statement cX8_statement 2 (Option.none : Option FieldType) ∈ TB := TB_of (List.mem_of_getElem? (i := 1143) (by decide +kernel)) rfl
theorem km_X8_103 : Cond.methodLink RX8 103 yX8_takeWord ∈ TB := TB_of (List.mem_of_getElem? (i := 1145) (by decide +kernel)) rfl
theorem ki_X8_takeWord : Cond.instanceMethod yX8_takeWord ∈ TB := TB_of (List.mem_of_getElem? (i := 1147) (by decide +kernel)) rfl
theorem kc_X8_takeWord : Cond.code yX8_takeWord cX8_takeWord 3 (Option.some FieldType.boolean) ∈ TB := TB_of (List.mem_of_getElem? (i := 1148) (by decide +kernel)) rfl
theorem km_X8_66 : Cond.methodLink RX8 66 yJ0_length_8abf5 ∈ TB := TB_of (List.mem_of_getElem? (i := 1149) (by decide +kernel)) rfl
theorem km_X8_71 : Cond.methodLink RX8 71 yJ0_charAt_5068e ∈ TB := TB_of (List.mem_of_getElem? (i := 1150) (by decide +kernel)) rfl
theorem km_X8_141 : Cond.methodLink RX8 141 yX8_readHoliday ∈ TB := TB_of (List.mem_of_getElem? (i := 1151) (by decide +kernel)) rfl
theorem ki_X8_readHoliday : Cond.instanceMethod yX8_readHoliday ∈ TB := TB_of (List.mem_of_getElem? (i := 1153) (by decide +kernel)) rfl
theorem kc_X8_readHoliday : Cond.code yX8_readHoliday cX8_readHoliday 3 (Option.none : Option FieldType) ∈ TB := TB_of (List.mem_of_getElem? (i := 1154) (by decide +kernel)) rfl
theorem km_X8_111 : Cond.methodLink RX8 111 yX8_number ∈ TB := TB_of (List.mem_of_getElem? (i := 1155) (by decide +kernel)) rfl
theorem ki_X8_number : Cond.instanceMethod yX8_number ∈ TB := TB_of (List.mem_of_getElem? (i := 1157) (by decide +kernel)) rfl
theorem kc_X8_number : Cond.code yX8_number cX8_number 4 (Option.some FieldType.int) ∈ TB := TB_of (List.mem_of_getElem? (i := 1158) (by decide +kernel)) rfl
theorem km_X8_79 : Cond.methodLink RX8 79 yX8_isDigit ∈ TB := TB_of (List.mem_of_getElem? (i := 1159) (by decide +kernel)) rfl
theorem kt_X8_isDigit : Cond.static yX8_isDigit ∈ TB := TB_of (List.mem_of_getElem? (i := 1160) (by decide +kernel)) rfl
theorem kc_X8_isDigit : Cond.code yX8_isDigit cX8_isDigit 1 (Option.some FieldType.boolean) ∈ TB := TB_of (List.mem_of_getElem? (i := 1161) (by decide +kernel)) rfl
theorem km_X8_75 : Cond.methodLink RX8 75 yX8_report ∈ TB := TB_of (List.mem_of_getElem? (i := 1162) (by decide +kernel)) rfl
theorem ki_X8_report : Cond.instanceMethod yX8_report ∈ TB := TB_of (List.mem_of_getElem? (i := 1164) (by decide +kernel)) rfl
theorem kc_X8_report : Cond.code yX8_report cX8_report 3 (Option.none : Option FieldType) ∈ TB := TB_of (List.mem_of_getElem? (i := 1165) (by decide +kernel)) rfl
theorem kk_X8_86 : Cond.constant RX8 86 (1000000) ∈ TB := TB_of (List.mem_of_getElem? (i := 1166) (by decide +kernel)) rfl
theorem km_X8_87 : Cond.methodLink RX8 87 yX8_min ∈ TB := TB_of (List.mem_of_getElem? (i := 1167) (by decide +kernel)) rfl
theorem kt_X8_min : Cond.static yX8_min ∈ TB := TB_of (List.mem_of_getElem? (i := 1168) (by decide +kernel)) rfl
theorem kc_X8_min : Cond.code yX8_min cX8_min 2 (Option.some FieldType.int) ∈ TB := TB_of (List.mem_of_getElem? (i := 1169) (by decide +kernel)) rfl
theorem km_X8_145 : Cond.methodLink RX8 145 yX8_readCredit ∈ TB := TB_of (List.mem_of_getElem? (i := 1171) (by decide +kernel)) rfl
theorem ki_X8_readCredit : Cond.instanceMethod yX8_readCredit ∈ TB := TB_of (List.mem_of_getElem? (i := 1173) (by decide +kernel)) rfl
theorem kc_X8_readCredit : Cond.code yX8_readCredit cX8_readCredit 3 (Option.none : Option FieldType) ∈ TB := TB_of (List.mem_of_getElem? (i := 1174) (by decide +kernel)) rfl
theorem km_X8_126 : Cond.methodLink RX8 126 yX8_credit ∈ TB := TB_of (List.mem_of_getElem? (i := 1175) (by decide +kernel)) rfl
theorem kt_X8_credit : Cond.static yX8_credit ∈ TB := TB_of (List.mem_of_getElem? (i := 1176) (by decide +kernel)) rfl
theorem kc_X8_credit : Cond.code yX8_credit cX8_credit 1 (Option.some FieldType.int) ∈ TB := TB_of (List.mem_of_getElem? (i := 1177) (by decide +kernel)) rfl
theorem kk_X8_129 : Cond.constant RX8 129 (999999) ∈ TB := TB_of (List.mem_of_getElem? (i := 1178) (by decide +kernel)) rfl
theorem km_X8_136 : Cond.methodLink RX8 136 yX8_readNeeds ∈ TB := TB_of (List.mem_of_getElem? (i := 1182) (by decide +kernel)) rfl
theorem ki_X8_readNeeds : Cond.instanceMethod yX8_readNeeds ∈ TB := TB_of (List.mem_of_getElem? (i := 1184) (by decide +kernel)) rfl
theorem kc_X8_readNeeds : Cond.code yX8_readNeeds cX8_readNeeds 3 (Option.none : Option FieldType) ∈ TB := TB_of (List.mem_of_getElem? (i := 1185) (by decide +kernel)) rfl
theorem km_X8_150 : Cond.methodLink RX8 150 yX8_once ∈ TB := TB_of (List.mem_of_getElem? (i := 1187) (by decide +kernel)) rfl
theorem ki_X8_once : Cond.instanceMethod yX8_once ∈ TB := TB_of (List.mem_of_getElem? (i := 1189) (by decide +kernel)) rfl
theorem kc_X8_once : Cond.code yX8_once cX8_once 3 (Option.none : Option FieldType) ∈ TB := TB_of (List.mem_of_getElem? (i := 1190) (by decide +kernel)) rfl
theorem km_X8_94 : Cond.methodLink RX8 94 yX8_sum ∈ TB := TB_of (List.mem_of_getElem? (i := 1191) (by decide +kernel)) rfl
theorem ki_X8_sum : Cond.instanceMethod yX8_sum ∈ TB := TB_of (List.mem_of_getElem? (i := 1193) (by decide +kernel)) rfl
theorem kc_X8_sum : Cond.code yX8_sum cX8_sum 2 (Option.none : Option FieldType) ∈ TB := TB_of (List.mem_of_getElem? (i := 1194) (by decide +kernel)) rfl
theorem km_X8_120 : Cond.methodLink RX8 120 yX8_term ∈ TB := TB_of (List.mem_of_getElem? (i := 1195) (by decide +kernel)) rfl
theorem ki_X8_term : Cond.instanceMethod yX8_term ∈ TB := TB_of (List.mem_of_getElem? (i := 1197) (by decide +kernel)) rfl
theorem kc_X8_term : Cond.code yX8_term cX8_term 2 (Option.none : Option FieldType) ∈ TB := TB_of (List.mem_of_getElem? (i := 1198) (by decide +kernel)) rfl
theorem km_X8_117 : Cond.methodLink RX8 117 yX8_factor ∈ TB := TB_of (List.mem_of_getElem? (i := 1199) (by decide +kernel)) rfl
theorem ki_X8_factor : Cond.instanceMethod yX8_factor ∈ TB := TB_of (List.mem_of_getElem? (i := 1201) (by decide +kernel)) rfl
theorem kc_X8_factor : Cond.code yX8_factor cX8_factor 4 (Option.none : Option FieldType) ∈ TB := TB_of (List.mem_of_getElem? (i := 1202) (by decide +kernel)) rfl
theorem km_X8_97 : Cond.methodLink RX8 97 yX8_expect ∈ TB := TB_of (List.mem_of_getElem? (i := 1203) (by decide +kernel)) rfl
theorem ki_X8_expect : Cond.instanceMethod yX8_expect ∈ TB := TB_of (List.mem_of_getElem? (i := 1205) (by decide +kernel)) rfl
theorem kc_X8_expect : Cond.code yX8_expect cX8_expect 2 (Option.none : Option FieldType) ∈ TB := TB_of (List.mem_of_getElem? (i := 1206) (by decide +kernel)) rfl
theorem km_X8_114 : Cond.methodLink RX8 114 yX8_emit ∈ TB := TB_of (List.mem_of_getElem? (i := 1210) (by decide +kernel)) rfl
theorem ki_X8_emit : Cond.instanceMethod yX8_emit ∈ TB := TB_of (List.mem_of_getElem? (i := 1212) (by decide +kernel)) rfl
theorem kc_X8_emit : Cond.code yX8_emit cX8_emit 2 (Option.none : Option FieldType) ∈ TB := TB_of (List.mem_of_getElem? (i := 1213) (by decide +kernel)) rfl
theorem km_X8_160 : Cond.methodLink RX8 160 yX8_remember ∈ TB := TB_of (List.mem_of_getElem? (i := 1214) (by decide +kernel)) rfl
theorem ki_X8_remember : Cond.instanceMethod yX8_remember ∈ TB := TB_of (List.mem_of_getElem? (i := 1216) (by decide +kernel)) rfl
theorem kc_X8_remember : Cond.code yX8_remember cX8_remember 2 (Option.none : Option FieldType) ∈ TB := TB_of (List.mem_of_getElem? (i := 1217) (by decide +kernel)) rfl
theorem km_X8_163 : Cond.methodLink RX8 163 yX8_copy ∈ TB := TB_of (List.mem_of_getElem? (i := 1218) (by decide +kernel)) rfl
theorem kt_X8_copy : Cond.static yX8_copy ∈ TB := TB_of (List.mem_of_getElem? (i := 1219) (by decide +kernel)) rfl
theorem kc_X8_copy : Cond.code yX8_copy cX8_copy 3 (Option.none : Option FieldType) ∈ TB := TB_of (List.mem_of_getElem? (i := 1220) (by decide +kernel)) rfl
theorem km_L_120 : Cond.methodLink RL 120 yX8_errorOffset ∈ TB := TB_of (List.mem_of_getElem? (i := 1221) (by decide +kernel)) rfl
theorem ki_X8_errorOffset : Cond.instanceMethod yX8_errorOffset ∈ TB := TB_of (List.mem_of_getElem? (i := 1222) (by decide +kernel)) rfl
theorem ks_X8_errorOffset : Cond.selects RX8 yX8_errorOffset yX8_errorOffset ∈ TB := TB_of (List.mem_of_getElem? (i := 1223) (by decide +kernel)) rfl
theorem kc_X8_errorOffset : Cond.code yX8_errorOffset cX8_errorOffset 1 (Option.some FieldType.int) ∈ TB := TB_of (List.mem_of_getElem? (i := 1224) (by decide +kernel)) rfl
theorem km_L_132 : Cond.methodLink RL 132 yX8_today ∈ TB := TB_of (List.mem_of_getElem? (i := 1225) (by decide +kernel)) rfl
theorem ki_X8_today : Cond.instanceMethod yX8_today ∈ TB := TB_of (List.mem_of_getElem? (i := 1226) (by decide +kernel)) rfl
theorem ks_X8_today : Cond.selects RX8 yX8_today yX8_today ∈ TB := TB_of (List.mem_of_getElem? (i := 1227) (by decide +kernel)) rfl
theorem kc_X8_today : Cond.code yX8_today cX8_today 1 (Option.some FieldType.int) ∈ TB := TB_of (List.mem_of_getElem? (i := 1228) (by decide +kernel)) rfl
theorem km_L_135 : Cond.methodLink RL 135 yX8_isBusinessDay ∈ TB := TB_of (List.mem_of_getElem? (i := 1229) (by decide +kernel)) rfl
theorem ki_X8_isBusinessDay : Cond.instanceMethod yX8_isBusinessDay ∈ TB := TB_of (List.mem_of_getElem? (i := 1230) (by decide +kernel)) rfl
theorem ks_X8_isBusinessDay : Cond.selects RX8 yX8_isBusinessDay yX8_isBusinessDay ∈ TB := TB_of (List.mem_of_getElem? (i := 1231) (by decide +kernel)) rfl
theorem kc_X8_isBusinessDay : Cond.code yX8_isBusinessDay cX8_isBusinessDay 2 (Option.some FieldType.boolean) ∈ TB := TB_of (List.mem_of_getElem? (i := 1232) (by decide +kernel)) rfl
theorem km_X8_173 : Cond.methodLink RX8 173 yX8_isDay ∈ TB := TB_of (List.mem_of_getElem? (i := 1233) (by decide +kernel)) rfl
theorem kt_X8_isDay : Cond.static yX8_isDay ∈ TB := TB_of (List.mem_of_getElem? (i := 1234) (by decide +kernel)) rfl
theorem kc_X8_isDay : Cond.code yX8_isDay cX8_isDay 1 (Option.some FieldType.boolean) ∈ TB := TB_of (List.mem_of_getElem? (i := 1235) (by decide +kernel)) rfl
theorem km_X8_167 : Cond.methodLink RX8 167 yX8_isBusiness ∈ TB := TB_of (List.mem_of_getElem? (i := 1236) (by decide +kernel)) rfl
theorem ki_X8_isBusiness : Cond.instanceMethod yX8_isBusiness ∈ TB := TB_of (List.mem_of_getElem? (i := 1238) (by decide +kernel)) rfl
theorem kc_X8_isBusiness : Cond.code yX8_isBusiness cX8_isBusiness 3 (Option.some FieldType.boolean) ∈ TB := TB_of (List.mem_of_getElem? (i := 1239) (by decide +kernel)) rfl
theorem km_L_138 : Cond.methodLink RL 138 yX8_extended ∈ TB := TB_of (List.mem_of_getElem? (i := 1240) (by decide +kernel)) rfl
theorem ki_X8_extended : Cond.instanceMethod yX8_extended ∈ TB := TB_of (List.mem_of_getElem? (i := 1241) (by decide +kernel)) rfl
theorem ks_X8_extended : Cond.selects RX8 yX8_extended yX8_extended ∈ TB := TB_of (List.mem_of_getElem? (i := 1242) (by decide +kernel)) rfl
theorem kc_X8_extended : Cond.code yX8_extended cX8_extended 2 (Option.some FieldType.int) ∈ TB := TB_of (List.mem_of_getElem? (i := 1243) (by decide +kernel)) rfl
theorem km_X8_170 : Cond.methodLink RX8 170 yX8_extend ∈ TB := TB_of (List.mem_of_getElem? (i := 1244) (by decide +kernel)) rfl
theorem ki_X8_extend : Cond.instanceMethod yX8_extend ∈ TB := TB_of (List.mem_of_getElem? (i := 1246) (by decide +kernel)) rfl
theorem kc_X8_extend : Cond.code yX8_extend cX8_extend 3 (Option.some FieldType.int) ∈ TB := TB_of (List.mem_of_getElem? (i := 1247) (by decide +kernel)) rfl
theorem km_L_142 : Cond.methodLink RL 142 yX8_addBusinessDays ∈ TB := TB_of (List.mem_of_getElem? (i := 1248) (by decide +kernel)) rfl
theorem ki_X8_addBusinessDays : Cond.instanceMethod yX8_addBusinessDays ∈ TB := TB_of (List.mem_of_getElem? (i := 1249) (by decide +kernel)) rfl
theorem ks_X8_addBusinessDays : Cond.selects RX8 yX8_addBusinessDays yX8_addBusinessDays ∈ TB := TB_of (List.mem_of_getElem? (i := 1250) (by decide +kernel)) rfl
theorem kc_X8_addBusinessDays : Cond.code yX8_addBusinessDays cX8_addBusinessDays 3 (Option.some FieldType.int) ∈ TB := TB_of (List.mem_of_getElem? (i := 1251) (by decide +kernel)) rfl
theorem km_X8_176 : Cond.methodLink RX8 176 yX8_add ∈ TB := TB_of (List.mem_of_getElem? (i := 1252) (by decide +kernel)) rfl
theorem ki_X8_add : Cond.instanceMethod yX8_add ∈ TB := TB_of (List.mem_of_getElem? (i := 1254) (by decide +kernel)) rfl
theorem kc_X8_add : Cond.code yX8_add cX8_add 5 (Option.some FieldType.int) ∈ TB := TB_of (List.mem_of_getElem? (i := 1255) (by decide +kernel)) rfl
theorem km_L_145 : Cond.methodLink RL 145 yX8_businessDays ∈ TB := TB_of (List.mem_of_getElem? (i := 1256) (by decide +kernel)) rfl
theorem ki_X8_businessDays : Cond.instanceMethod yX8_businessDays ∈ TB := TB_of (List.mem_of_getElem? (i := 1257) (by decide +kernel)) rfl
theorem ks_X8_businessDays : Cond.selects RX8 yX8_businessDays yX8_businessDays ∈ TB := TB_of (List.mem_of_getElem? (i := 1258) (by decide +kernel)) rfl
theorem kc_X8_businessDays : Cond.code yX8_businessDays cX8_businessDays 5 (Option.some FieldType.int) ∈ TB := TB_of (List.mem_of_getElem? (i := 1259) (by decide +kernel)) rfl
theorem km_L_124 : Cond.methodLink RL 124 yX8_creditCount ∈ TB := TB_of (List.mem_of_getElem? (i := 1260) (by decide +kernel)) rfl
theorem ki_X8_creditCount : Cond.instanceMethod yX8_creditCount ∈ TB := TB_of (List.mem_of_getElem? (i := 1261) (by decide +kernel)) rfl
theorem ks_X8_creditCount : Cond.selects RX8 yX8_creditCount yX8_creditCount ∈ TB := TB_of (List.mem_of_getElem? (i := 1262) (by decide +kernel)) rfl
theorem kc_X8_creditCount : Cond.code yX8_creditCount cX8_creditCount 1 (Option.some FieldType.int) ∈ TB := TB_of (List.mem_of_getElem? (i := 1263) (by decide +kernel)) rfl
theorem km_L_128 : Cond.methodLink RL 128 yX8_presentationCount ∈ TB := TB_of (List.mem_of_getElem? (i := 1264) (by decide +kernel)) rfl
theorem ki_X8_presentationCount : Cond.instanceMethod yX8_presentationCount ∈ TB := TB_of (List.mem_of_getElem? (i := 1265) (by decide +kernel)) rfl
theorem ks_X8_presentationCount : Cond.selects RX8 yX8_presentationCount yX8_presentationCount ∈ TB := TB_of (List.mem_of_getElem? (i := 1266) (by decide +kernel)) rfl
theorem kc_X8_presentationCount : Cond.code yX8_presentationCount cX8_presentationCount 1 (Option.some FieldType.int) ∈ TB := TB_of (List.mem_of_getElem? (i := 1267) (by decide +kernel)) rfl
theorem km_L_148 : Cond.methodLink RL 148 yX8_parent ∈ TB := TB_of (List.mem_of_getElem? (i := 1268) (by decide +kernel)) rfl
theorem ki_X8_parent : Cond.instanceMethod yX8_parent ∈ TB := TB_of (List.mem_of_getElem? (i := 1269) (by decide +kernel)) rfl
theorem ks_X8_parent : Cond.selects RX8 yX8_parent yX8_parent ∈ TB := TB_of (List.mem_of_getElem? (i := 1270) (by decide +kernel)) rfl
theorem kc_X8_parent : Cond.code yX8_parent cX8_parent 2 (Option.some FieldType.int) ∈ TB := TB_of (List.mem_of_getElem? (i := 1271) (by decide +kernel)) rfl
theorem km_X8_179 : Cond.methodLink RX8 179 yX8_noCredit ∈ TB := TB_of (List.mem_of_getElem? (i := 1272) (by decide +kernel)) rfl
theorem ki_X8_noCredit : Cond.instanceMethod yX8_noCredit ∈ TB := TB_of (List.mem_of_getElem? (i := 1274) (by decide +kernel)) rfl
theorem kc_X8_noCredit : Cond.code yX8_noCredit cX8_noCredit 2 (Option.some FieldType.boolean) ∈ TB := TB_of (List.mem_of_getElem? (i := 1275) (by decide +kernel)) rfl
theorem km_L_152 : Cond.methodLink RL 152 yX8_bound ∈ TB := TB_of (List.mem_of_getElem? (i := 1276) (by decide +kernel)) rfl
theorem ki_X8_bound : Cond.instanceMethod yX8_bound ∈ TB := TB_of (List.mem_of_getElem? (i := 1277) (by decide +kernel)) rfl
theorem ks_X8_bound : Cond.selects RX8 yX8_bound yX8_bound ∈ TB := TB_of (List.mem_of_getElem? (i := 1278) (by decide +kernel)) rfl
theorem kc_X8_bound : Cond.code yX8_bound cX8_bound 3 (Option.some FieldType.int) ∈ TB := TB_of (List.mem_of_getElem? (i := 1279) (by decide +kernel)) rfl
theorem km_X8_182 : Cond.methodLink RX8 182 yX8_most ∈ TB := TB_of (List.mem_of_getElem? (i := 1280) (by decide +kernel)) rfl
theorem ki_X8_most : Cond.instanceMethod yX8_most ∈ TB := TB_of (List.mem_of_getElem? (i := 1282) (by decide +kernel)) rfl
theorem kc_X8_most : Cond.code yX8_most cX8_most 2 (Option.some FieldType.int) ∈ TB := TB_of (List.mem_of_getElem? (i := 1283) (by decide +kernel)) rfl
theorem km_X8_185 : Cond.methodLink RX8 185 yX8_least ∈ TB := TB_of (List.mem_of_getElem? (i := 1284) (by decide +kernel)) rfl
theorem ki_X8_least : Cond.instanceMethod yX8_least ∈ TB := TB_of (List.mem_of_getElem? (i := 1286) (by decide +kernel)) rfl
theorem kc_X8_least : Cond.code yX8_least cX8_least 2 (Option.some FieldType.int) ∈ TB := TB_of (List.mem_of_getElem? (i := 1287) (by decide +kernel)) rfl
theorem km_L_155 : Cond.methodLink RL 155 yX8_expiry ∈ TB := TB_of (List.mem_of_getElem? (i := 1288) (by decide +kernel)) rfl
theorem ki_X8_expiry : Cond.instanceMethod yX8_expiry ∈ TB := TB_of (List.mem_of_getElem? (i := 1289) (by decide +kernel)) rfl
theorem ks_X8_expiry : Cond.selects RX8 yX8_expiry yX8_expiry ∈ TB := TB_of (List.mem_of_getElem? (i := 1290) (by decide +kernel)) rfl
theorem kc_X8_expiry : Cond.code yX8_expiry cX8_expiry 2 (Option.some FieldType.int) ∈ TB := TB_of (List.mem_of_getElem? (i := 1291) (by decide +kernel)) rfl
theorem km_L_158 : Cond.methodLink RL 158 yX8_drawn ∈ TB := TB_of (List.mem_of_getElem? (i := 1292) (by decide +kernel)) rfl
theorem ki_X8_drawn : Cond.instanceMethod yX8_drawn ∈ TB := TB_of (List.mem_of_getElem? (i := 1293) (by decide +kernel)) rfl
theorem ks_X8_drawn : Cond.selects RX8 yX8_drawn yX8_drawn ∈ TB := TB_of (List.mem_of_getElem? (i := 1294) (by decide +kernel)) rfl
theorem kc_X8_drawn : Cond.code yX8_drawn cX8_drawn 2 (Option.some FieldType.int) ∈ TB := TB_of (List.mem_of_getElem? (i := 1295) (by decide +kernel)) rfl
theorem km_X8_195 : Cond.methodLink RX8 195 yX8_drawnOf ∈ TB := TB_of (List.mem_of_getElem? (i := 1296) (by decide +kernel)) rfl
theorem ki_X8_drawnOf : Cond.instanceMethod yX8_drawnOf ∈ TB := TB_of (List.mem_of_getElem? (i := 1298) (by decide +kernel)) rfl
theorem kc_X8_drawnOf : Cond.code yX8_drawnOf cX8_drawnOf 4 (Option.some FieldType.int) ∈ TB := TB_of (List.mem_of_getElem? (i := 1299) (by decide +kernel)) rfl
theorem km_X8_191 : Cond.methodLink RX8 191 yX8_stands ∈ TB := TB_of (List.mem_of_getElem? (i := 1300) (by decide +kernel)) rfl
theorem ki_X8_stands : Cond.instanceMethod yX8_stands ∈ TB := TB_of (List.mem_of_getElem? (i := 1302) (by decide +kernel)) rfl
theorem kc_X8_stands : Cond.code yX8_stands cX8_stands 3 (Option.some FieldType.boolean) ∈ TB := TB_of (List.mem_of_getElem? (i := 1303) (by decide +kernel)) rfl
theorem km_X8_188 : Cond.methodLink RX8 188 yX8_presentation ∈ TB := TB_of (List.mem_of_getElem? (i := 1304) (by decide +kernel)) rfl
theorem kt_X8_presentation : Cond.static yX8_presentation ∈ TB := TB_of (List.mem_of_getElem? (i := 1305) (by decide +kernel)) rfl
theorem kc_X8_presentation : Cond.code yX8_presentation cX8_presentation 1 (Option.some FieldType.int) ∈ TB := TB_of (List.mem_of_getElem? (i := 1306) (by decide +kernel)) rfl
theorem km_L_161 : Cond.methodLink RL 161 yX8_transferred ∈ TB := TB_of (List.mem_of_getElem? (i := 1307) (by decide +kernel)) rfl
theorem ki_X8_transferred : Cond.instanceMethod yX8_transferred ∈ TB := TB_of (List.mem_of_getElem? (i := 1308) (by decide +kernel)) rfl
theorem ks_X8_transferred : Cond.selects RX8 yX8_transferred yX8_transferred ∈ TB := TB_of (List.mem_of_getElem? (i := 1309) (by decide +kernel)) rfl
theorem kc_X8_transferred : Cond.code yX8_transferred cX8_transferred 2 (Option.some FieldType.int) ∈ TB := TB_of (List.mem_of_getElem? (i := 1310) (by decide +kernel)) rfl
theorem km_X8_198 : Cond.methodLink RX8 198 yX8_transferredOf ∈ TB := TB_of (List.mem_of_getElem? (i := 1311) (by decide +kernel)) rfl
theorem ki_X8_transferredOf : Cond.instanceMethod yX8_transferredOf ∈ TB := TB_of (List.mem_of_getElem? (i := 1313) (by decide +kernel)) rfl
theorem kc_X8_transferredOf : Cond.code yX8_transferredOf cX8_transferredOf 4 (Option.some FieldType.int) ∈ TB := TB_of (List.mem_of_getElem? (i := 1314) (by decide +kernel)) rfl
theorem km_L_164 : Cond.methodLink RL 164 yX8_available ∈ TB := TB_of (List.mem_of_getElem? (i := 1315) (by decide +kernel)) rfl
theorem ki_X8_available : Cond.instanceMethod yX8_available ∈ TB := TB_of (List.mem_of_getElem? (i := 1316) (by decide +kernel)) rfl
theorem ks_X8_available : Cond.selects RX8 yX8_available yX8_available ∈ TB := TB_of (List.mem_of_getElem? (i := 1317) (by decide +kernel)) rfl
theorem kc_X8_available : Cond.code yX8_available cX8_available 2 (Option.some FieldType.int) ∈ TB := TB_of (List.mem_of_getElem? (i := 1318) (by decide +kernel)) rfl
theorem km_X8_201 : Cond.methodLink RX8 201 yX8_availableOf ∈ TB := TB_of (List.mem_of_getElem? (i := 1319) (by decide +kernel)) rfl
theorem ki_X8_availableOf : Cond.instanceMethod yX8_availableOf ∈ TB := TB_of (List.mem_of_getElem? (i := 1321) (by decide +kernel)) rfl
theorem kc_X8_availableOf : Cond.code yX8_availableOf cX8_availableOf 2 (Option.some FieldType.int) ∈ TB := TB_of (List.mem_of_getElem? (i := 1322) (by decide +kernel)) rfl
theorem km_L_191 : Cond.methodLink RL 191 yX8_check ∈ TB := TB_of (List.mem_of_getElem? (i := 1323) (by decide +kernel)) rfl
theorem ki_X8_check : Cond.instanceMethod yX8_check ∈ TB := TB_of (List.mem_of_getElem? (i := 1324) (by decide +kernel)) rfl
theorem ks_X8_check : Cond.selects RX8 yX8_check yX8_check ∈ TB := TB_of (List.mem_of_getElem? (i := 1325) (by decide +kernel)) rfl
theorem kc_X8_check : Cond.code yX8_check cX8_check 6 (Option.some FieldType.int) ∈ TB := TB_of (List.mem_of_getElem? (i := 1326) (by decide +kernel)) rfl
theorem km_X8_208 : Cond.methodLink RX8 208 yX8_isWrong ∈ TB := TB_of (List.mem_of_getElem? (i := 1327) (by decide +kernel)) rfl
theorem ki_X8_isWrong : Cond.instanceMethod yX8_isWrong ∈ TB := TB_of (List.mem_of_getElem? (i := 1329) (by decide +kernel)) rfl
theorem kc_X8_isWrong : Cond.code yX8_isWrong cX8_isWrong 5 (Option.some FieldType.boolean) ∈ TB := TB_of (List.mem_of_getElem? (i := 1330) (by decide +kernel)) rfl
theorem kk_X8_207 : Cond.constant RX8 207 (1999999) ∈ TB := TB_of (List.mem_of_getElem? (i := 1331) (by decide +kernel)) rfl
theorem km_X8_212 : Cond.methodLink RX8 212 yX8_faultsOf ∈ TB := TB_of (List.mem_of_getElem? (i := 1332) (by decide +kernel)) rfl
theorem ki_X8_faultsOf : Cond.instanceMethod yX8_faultsOf ∈ TB := TB_of (List.mem_of_getElem? (i := 1334) (by decide +kernel)) rfl
theorem kc_X8_faultsOf : Cond.code yX8_faultsOf cX8_faultsOf 11 (Option.some FieldType.int) ∈ TB := TB_of (List.mem_of_getElem? (i := 1335) (by decide +kernel)) rfl
theorem km_X8_204 : Cond.methodLink RX8 204 yX8_lastDayOf ∈ TB := TB_of (List.mem_of_getElem? (i := 1336) (by decide +kernel)) rfl
theorem ki_X8_lastDayOf : Cond.instanceMethod yX8_lastDayOf ∈ TB := TB_of (List.mem_of_getElem? (i := 1338) (by decide +kernel)) rfl
theorem kc_X8_lastDayOf : Cond.code yX8_lastDayOf cX8_lastDayOf 3 (Option.some FieldType.int) ∈ TB := TB_of (List.mem_of_getElem? (i := 1339) (by decide +kernel)) rfl
theorem km_L_194 : Cond.methodLink RL 194 yX8_lastDay ∈ TB := TB_of (List.mem_of_getElem? (i := 1340) (by decide +kernel)) rfl
theorem ki_X8_lastDay : Cond.instanceMethod yX8_lastDay ∈ TB := TB_of (List.mem_of_getElem? (i := 1341) (by decide +kernel)) rfl
theorem ks_X8_lastDay : Cond.selects RX8 yX8_lastDay yX8_lastDay ∈ TB := TB_of (List.mem_of_getElem? (i := 1342) (by decide +kernel)) rfl
theorem kc_X8_lastDay : Cond.code yX8_lastDay cX8_lastDay 3 (Option.some FieldType.int) ∈ TB := TB_of (List.mem_of_getElem? (i := 1343) (by decide +kernel)) rfl
theorem km_L_167 : Cond.methodLink RL 167 yX8_creditOf ∈ TB := TB_of (List.mem_of_getElem? (i := 1344) (by decide +kernel)) rfl
theorem ki_X8_creditOf : Cond.instanceMethod yX8_creditOf ∈ TB := TB_of (List.mem_of_getElem? (i := 1345) (by decide +kernel)) rfl
theorem ks_X8_creditOf : Cond.selects RX8 yX8_creditOf yX8_creditOf ∈ TB := TB_of (List.mem_of_getElem? (i := 1346) (by decide +kernel)) rfl
theorem kc_X8_creditOf : Cond.code yX8_creditOf cX8_creditOf 2 (Option.some FieldType.int) ∈ TB := TB_of (List.mem_of_getElem? (i := 1347) (by decide +kernel)) rfl
theorem km_X8_216 : Cond.methodLink RX8 216 yX8_noPresentation ∈ TB := TB_of (List.mem_of_getElem? (i := 1348) (by decide +kernel)) rfl
theorem ki_X8_noPresentation : Cond.instanceMethod yX8_noPresentation ∈ TB := TB_of (List.mem_of_getElem? (i := 1350) (by decide +kernel)) rfl
theorem kc_X8_noPresentation : Cond.code yX8_noPresentation cX8_noPresentation 2 (Option.some FieldType.boolean) ∈ TB := TB_of (List.mem_of_getElem? (i := 1351) (by decide +kernel)) rfl
theorem km_L_170 : Cond.methodLink RL 170 yX8_state ∈ TB := TB_of (List.mem_of_getElem? (i := 1352) (by decide +kernel)) rfl
theorem ki_X8_state : Cond.instanceMethod yX8_state ∈ TB := TB_of (List.mem_of_getElem? (i := 1353) (by decide +kernel)) rfl
theorem ks_X8_state : Cond.selects RX8 yX8_state yX8_state ∈ TB := TB_of (List.mem_of_getElem? (i := 1354) (by decide +kernel)) rfl
theorem kc_X8_state : Cond.code yX8_state cX8_state 2 (Option.some FieldType.int) ∈ TB := TB_of (List.mem_of_getElem? (i := 1355) (by decide +kernel)) rfl
theorem km_L_173 : Cond.methodLink RL 173 yX8_discrepancies ∈ TB := TB_of (List.mem_of_getElem? (i := 1356) (by decide +kernel)) rfl
theorem ki_X8_discrepancies : Cond.instanceMethod yX8_discrepancies ∈ TB := TB_of (List.mem_of_getElem? (i := 1357) (by decide +kernel)) rfl
theorem ks_X8_discrepancies : Cond.selects RX8 yX8_discrepancies yX8_discrepancies ∈ TB := TB_of (List.mem_of_getElem? (i := 1358) (by decide +kernel)) rfl
theorem kc_X8_discrepancies : Cond.code yX8_discrepancies cX8_discrepancies 2 (Option.some FieldType.int) ∈ TB := TB_of (List.mem_of_getElem? (i := 1359) (by decide +kernel)) rfl
theorem km_L_176 : Cond.methodLink RL 176 yX8_deadline ∈ TB := TB_of (List.mem_of_getElem? (i := 1360) (by decide +kernel)) rfl
theorem ki_X8_deadline : Cond.instanceMethod yX8_deadline ∈ TB := TB_of (List.mem_of_getElem? (i := 1361) (by decide +kernel)) rfl
theorem ks_X8_deadline : Cond.selects RX8 yX8_deadline yX8_deadline ∈ TB := TB_of (List.mem_of_getElem? (i := 1362) (by decide +kernel)) rfl
theorem kc_X8_deadline : Cond.code yX8_deadline cX8_deadline 2 (Option.some FieldType.int) ∈ TB := TB_of (List.mem_of_getElem? (i := 1363) (by decide +kernel)) rfl
theorem km_X8_219 : Cond.methodLink RX8 219 yX8_deadlineOf ∈ TB := TB_of (List.mem_of_getElem? (i := 1364) (by decide +kernel)) rfl
theorem ki_X8_deadlineOf : Cond.instanceMethod yX8_deadlineOf ∈ TB := TB_of (List.mem_of_getElem? (i := 1366) (by decide +kernel)) rfl
theorem kc_X8_deadlineOf : Cond.code yX8_deadlineOf cX8_deadlineOf 2 (Option.some FieldType.int) ∈ TB := TB_of (List.mem_of_getElem? (i := 1367) (by decide +kernel)) rfl
theorem km_L_179 : Cond.methodLink RL 179 yX8_dueDay ∈ TB := TB_of (List.mem_of_getElem? (i := 1368) (by decide +kernel)) rfl
theorem ki_X8_dueDay : Cond.instanceMethod yX8_dueDay ∈ TB := TB_of (List.mem_of_getElem? (i := 1369) (by decide +kernel)) rfl
theorem ks_X8_dueDay : Cond.selects RX8 yX8_dueDay yX8_dueDay ∈ TB := TB_of (List.mem_of_getElem? (i := 1370) (by decide +kernel)) rfl
theorem kc_X8_dueDay : Cond.code yX8_dueDay cX8_dueDay 2 (Option.some FieldType.int) ∈ TB := TB_of (List.mem_of_getElem? (i := 1371) (by decide +kernel)) rfl
theorem km_X8_222 : Cond.methodLink RX8 222 yX8_dueOf ∈ TB := TB_of (List.mem_of_getElem? (i := 1372) (by decide +kernel)) rfl
theorem ki_X8_dueOf : Cond.instanceMethod yX8_dueOf ∈ TB := TB_of (List.mem_of_getElem? (i := 1374) (by decide +kernel)) rfl
theorem kc_X8_dueOf : Cond.code yX8_dueOf cX8_dueOf 3 (Option.some FieldType.int) ∈ TB := TB_of (List.mem_of_getElem? (i := 1375) (by decide +kernel)) rfl
theorem km_L_187 : Cond.methodLink RL 187 yX8_dueBetween ∈ TB := TB_of (List.mem_of_getElem? (i := 1376) (by decide +kernel)) rfl
theorem ki_X8_dueBetween : Cond.instanceMethod yX8_dueBetween ∈ TB := TB_of (List.mem_of_getElem? (i := 1377) (by decide +kernel)) rfl
theorem ks_X8_dueBetween : Cond.selects RX8 yX8_dueBetween yX8_dueBetween ∈ TB := TB_of (List.mem_of_getElem? (i := 1378) (by decide +kernel)) rfl
theorem kc_X8_dueBetween : Cond.code yX8_dueBetween cX8_dueBetween 7 (Option.some FieldType.long) ∈ TB := TB_of (List.mem_of_getElem? (i := 1379) (by decide +kernel)) rfl
theorem km_L_182 : Cond.methodLink RL 182 yX8_fee ∈ TB := TB_of (List.mem_of_getElem? (i := 1380) (by decide +kernel)) rfl
theorem ki_X8_fee : Cond.instanceMethod yX8_fee ∈ TB := TB_of (List.mem_of_getElem? (i := 1381) (by decide +kernel)) rfl
theorem ks_X8_fee : Cond.selects RX8 yX8_fee yX8_fee ∈ TB := TB_of (List.mem_of_getElem? (i := 1382) (by decide +kernel)) rfl
theorem kc_X8_fee : Cond.code yX8_fee cX8_fee 5 (Option.some FieldType.int) ∈ TB := TB_of (List.mem_of_getElem? (i := 1383) (by decide +kernel)) rfl
theorem km_X8_233 : Cond.methodLink RX8 233 yX8_variable ∈ TB := TB_of (List.mem_of_getElem? (i := 1384) (by decide +kernel)) rfl
theorem ki_X8_variable : Cond.instanceMethod yX8_variable ∈ TB := TB_of (List.mem_of_getElem? (i := 1386) (by decide +kernel)) rfl
theorem kc_X8_variable : Cond.code yX8_variable cX8_variable 6 (Option.some FieldType.int) ∈ TB := TB_of (List.mem_of_getElem? (i := 1387) (by decide +kernel)) rfl
theorem km_X8_236 : Cond.methodLink RX8 236 yX8_operate ∈ TB := TB_of (List.mem_of_getElem? (i := 1388) (by decide +kernel)) rfl
theorem kt_X8_operate : Cond.static yX8_operate ∈ TB := TB_of (List.mem_of_getElem? (i := 1389) (by decide +kernel)) rfl
theorem kc_X8_operate : Cond.code yX8_operate cX8_operate 5 (Option.some FieldType.long) ∈ TB := TB_of (List.mem_of_getElem? (i := 1390) (by decide +kernel)) rfl
theorem km_X8_229 : Cond.methodLink RX8 229 yX8_limited ∈ TB := TB_of (List.mem_of_getElem? (i := 1391) (by decide +kernel)) rfl
theorem kt_X8_limited : Cond.static yX8_limited ∈ TB := TB_of (List.mem_of_getElem? (i := 1392) (by decide +kernel)) rfl
theorem kc_X8_limited : Cond.code yX8_limited cX8_limited 2 (Option.some FieldType.long) ∈ TB := TB_of (List.mem_of_getElem? (i := 1393) (by decide +kernel)) rfl
theorem kk_X8_225 : Cond.constantLong RX8 225 (100000000) ∈ TB := TB_of (List.mem_of_getElem? (i := 1394) (by decide +kernel)) rfl
theorem kk_X8_227 : Cond.constantLong RX8 227 (-100000000) ∈ TB := TB_of (List.mem_of_getElem? (i := 1395) (by decide +kernel)) rfl
theorem kk_X8_240 : Cond.constantLong RX8 240 (999999) ∈ TB := TB_of (List.mem_of_getElem? (i := 1396) (by decide +kernel)) rfl
theorem km_L_197 : Cond.methodLink RL 197 yX8_bestFit ∈ TB := TB_of (List.mem_of_getElem? (i := 1397) (by decide +kernel)) rfl
theorem ki_X8_bestFit : Cond.instanceMethod yX8_bestFit ∈ TB := TB_of (List.mem_of_getElem? (i := 1398) (by decide +kernel)) rfl
theorem ks_X8_bestFit : Cond.selects RX8 yX8_bestFit yX8_bestFit ∈ TB := TB_of (List.mem_of_getElem? (i := 1399) (by decide +kernel)) rfl
theorem kc_X8_bestFit : Cond.code yX8_bestFit cX8_bestFit 10 (Option.some FieldType.int) ∈ TB := TB_of (List.mem_of_getElem? (i := 1400) (by decide +kernel)) rfl
theorem km_L_200 : Cond.methodLink RL 200 yX8_present ∈ TB := TB_of (List.mem_of_getElem? (i := 1401) (by decide +kernel)) rfl
theorem ki_X8_present : Cond.instanceMethod yX8_present ∈ TB := TB_of (List.mem_of_getElem? (i := 1402) (by decide +kernel)) rfl
theorem ks_X8_present : Cond.selects RX8 yX8_present yX8_present ∈ TB := TB_of (List.mem_of_getElem? (i := 1403) (by decide +kernel)) rfl
theorem kc_X8_present : Cond.code yX8_present cX8_present 9 (Option.some FieldType.int) ∈ TB := TB_of (List.mem_of_getElem? (i := 1404) (by decide +kernel)) rfl
theorem km_L_203 : Cond.methodLink RL 203 yX8_examine ∈ TB := TB_of (List.mem_of_getElem? (i := 1405) (by decide +kernel)) rfl
theorem ki_X8_examine : Cond.instanceMethod yX8_examine ∈ TB := TB_of (List.mem_of_getElem? (i := 1406) (by decide +kernel)) rfl
theorem ks_X8_examine : Cond.selects RX8 yX8_examine yX8_examine ∈ TB := TB_of (List.mem_of_getElem? (i := 1407) (by decide +kernel)) rfl
theorem kc_X8_examine : Cond.code yX8_examine cX8_examine 4 (Option.some FieldType.int) ∈ TB := TB_of (List.mem_of_getElem? (i := 1408) (by decide +kernel)) rfl
theorem km_X8_245 : Cond.methodLink RX8 245 yX8_honour ∈ TB := TB_of (List.mem_of_getElem? (i := 1409) (by decide +kernel)) rfl
theorem ki_X8_honour : Cond.instanceMethod yX8_honour ∈ TB := TB_of (List.mem_of_getElem? (i := 1411) (by decide +kernel)) rfl
theorem kc_X8_honour : Cond.code yX8_honour cX8_honour 2 (Option.none : Option FieldType) ∈ TB := TB_of (List.mem_of_getElem? (i := 1412) (by decide +kernel)) rfl
theorem km_L_206 : Cond.methodLink RL 206 yX8_waive ∈ TB := TB_of (List.mem_of_getElem? (i := 1413) (by decide +kernel)) rfl
theorem ki_X8_waive : Cond.instanceMethod yX8_waive ∈ TB := TB_of (List.mem_of_getElem? (i := 1414) (by decide +kernel)) rfl
theorem ks_X8_waive : Cond.selects RX8 yX8_waive yX8_waive ∈ TB := TB_of (List.mem_of_getElem? (i := 1415) (by decide +kernel)) rfl
theorem kc_X8_waive : Cond.code yX8_waive cX8_waive 3 (Option.some FieldType.int) ∈ TB := TB_of (List.mem_of_getElem? (i := 1416) (by decide +kernel)) rfl
theorem km_L_209 : Cond.methodLink RL 209 yX8_refuse ∈ TB := TB_of (List.mem_of_getElem? (i := 1417) (by decide +kernel)) rfl
theorem ki_X8_refuse : Cond.instanceMethod yX8_refuse ∈ TB := TB_of (List.mem_of_getElem? (i := 1418) (by decide +kernel)) rfl
theorem ks_X8_refuse : Cond.selects RX8 yX8_refuse yX8_refuse ∈ TB := TB_of (List.mem_of_getElem? (i := 1419) (by decide +kernel)) rfl
theorem kc_X8_refuse : Cond.code yX8_refuse cX8_refuse 3 (Option.some FieldType.int) ∈ TB := TB_of (List.mem_of_getElem? (i := 1420) (by decide +kernel)) rfl
theorem km_L_213 : Cond.methodLink RL 213 yX8_transfer ∈ TB := TB_of (List.mem_of_getElem? (i := 1421) (by decide +kernel)) rfl
theorem ki_X8_transfer : Cond.instanceMethod yX8_transfer ∈ TB := TB_of (List.mem_of_getElem? (i := 1422) (by decide +kernel)) rfl
theorem ks_X8_transfer : Cond.selects RX8 yX8_transfer yX8_transfer ∈ TB := TB_of (List.mem_of_getElem? (i := 1423) (by decide +kernel)) rfl
theorem kc_X8_transfer : Cond.code yX8_transfer cX8_transfer 9 (Option.some FieldType.int) ∈ TB := TB_of (List.mem_of_getElem? (i := 1424) (by decide +kernel)) rfl
theorem km_L_216 : Cond.methodLink RL 216 yX8_pass ∈ TB := TB_of (List.mem_of_getElem? (i := 1425) (by decide +kernel)) rfl
theorem ki_X8_pass : Cond.instanceMethod yX8_pass ∈ TB := TB_of (List.mem_of_getElem? (i := 1426) (by decide +kernel)) rfl
theorem ks_X8_pass : Cond.selects RX8 yX8_pass yX8_pass ∈ TB := TB_of (List.mem_of_getElem? (i := 1427) (by decide +kernel)) rfl
theorem kc_X8_pass : Cond.code yX8_pass cX8_pass 2 (Option.some FieldType.int) ∈ TB := TB_of (List.mem_of_getElem? (i := 1428) (by decide +kernel)) rfl
theorem km_L_220 : Cond.methodLink RL 220 yX8_undo ∈ TB := TB_of (List.mem_of_getElem? (i := 1429) (by decide +kernel)) rfl
theorem ki_X8_undo : Cond.instanceMethod yX8_undo ∈ TB := TB_of (List.mem_of_getElem? (i := 1430) (by decide +kernel)) rfl
theorem ks_X8_undo : Cond.selects RX8 yX8_undo yX8_undo ∈ TB := TB_of (List.mem_of_getElem? (i := 1431) (by decide +kernel)) rfl
theorem kc_X8_undo : Cond.code yX8_undo cX8_undo 1 (Option.some FieldType.int) ∈ TB := TB_of (List.mem_of_getElem? (i := 1432) (by decide +kernel)) rfl
theorem km_L_225 : Cond.methodLink RL 225 yX8_checksum ∈ TB := TB_of (List.mem_of_getElem? (i := 1433) (by decide +kernel)) rfl
theorem ki_X8_checksum : Cond.instanceMethod yX8_checksum ∈ TB := TB_of (List.mem_of_getElem? (i := 1434) (by decide +kernel)) rfl
theorem ks_X8_checksum : Cond.selects RX8 yX8_checksum yX8_checksum ∈ TB := TB_of (List.mem_of_getElem? (i := 1435) (by decide +kernel)) rfl
theorem kc_X8_checksum : Cond.code yX8_checksum cX8_checksum 4 (Option.some FieldType.long) ∈ TB := TB_of (List.mem_of_getElem? (i := 1436) (by decide +kernel)) rfl
theorem kk_X8_248 : Cond.constantLong RX8 248 (31) ∈ TB := TB_of (List.mem_of_getElem? (i := 1437) (by decide +kernel)) rfl
theorem kf_J0_9 : Cond.fieldLink RJ0 9 "java/lang/String" "value" "[B" ∈ TB := TB_of (List.mem_of_getElem? (i := 1439) (by decide +kernel)) rfl
theorem kf_J0_15 : Cond.fieldLink RJ0 15 "java/lang/String" "coder" "B" ∈ TB := TB_of (List.mem_of_getElem? (i := 1440) (by decide +kernel)) rfl
theorem inX0 : ∀ w ∈ u_ws RX0 TX0 5, w ∈ TB := by decide +kernel
theorem inX1 : ∀ w ∈ u_ws RX1 TX1 1, w ∈ TB := by decide +kernel
theorem inX2 : ∀ w ∈ u_ws RX2 TX2 12, w ∈ TB := by decide +kernel
theorem inX3 : ∀ w ∈ u_ws RX3 TX3 1, w ∈ TB := by decide +kernel
theorem inX4 : ∀ w ∈ u_ws RX4 TX4 6, w ∈ TB := by decide +kernel
theorem inX5 : ∀ w ∈ u_ws RX5 TX5 6, w ∈ TB := by decide +kernel
theorem inX6 : ∀ w ∈ u_ws RX6 TX6 11, w ∈ TB := by decide +kernel
theorem inX7 : ∀ w ∈ u_ws RX7 TX7 6, w ∈ TB := by decide +kernel
theorem inX8 : ∀ w ∈ u_ws RX8 TX8 16, w ∈ TB := by decide +kernel
def YB (y : MethodName) (cc : ByteArray) (nL : Nat) (ret : Option FieldType) (n : Nat) : Prop := Cond.code y cc nL ret ∈ TB ∧ Cond.initialized y.cls ∈ TB ∧ (y.cls ≠ "java/lang/invoke/MethodHandle" ∧ y.cls ≠ "java/lang/invoke/VarHandle" ∧ (parseMethodDescriptor y.desc).map (fun d => d.parameters.length) = some n)
def YI (y : MethodName) (cc : ByteArray) (nL : Nat) (ret : Option FieldType) (n : Nat) : Prop := YB y cc nL ret n ∧ Cond.instanceMethod y ∈ TB ∧ Cond.selects y.cls y y ∈ TB
def YN (y : MethodName) (cc : ByteArray) (nL : Nat) (ret : Option FieldType) (n : Nat) : Prop := YB y cc nL ret n ∧ y.name = "<init>" ∧ Cond.instanceMethod y ∈ TB
def YS (y : MethodName) (cc : ByteArray) (nL : Nat) (ret : Option FieldType) (n : Nat) : Prop := YB y cc nL ret n ∧ Cond.static y ∈ TB
theorem yk_X0_init : YN yX0_init cX0_init 6 ((Option.none : Option FieldType)) 5 := ⟨⟨kc_X0_init, kin_X0, by decide +kernel⟩, rfl, ki_X0_init⟩
theorem yk_X0_ofEmptySetup : YS yX0_ofEmptySetup cX0_ofEmptySetup 0 ((Option.some (FieldType.object "DocumentaryCreditDesk$Book"))) 0 := ⟨⟨kc_X0_ofEmptySetup, kin_X0, by decide +kernel⟩, kt_X0_ofEmptySetup⟩
theorem yk_X0_withCalendar : YI yX0_withCalendar cX0_withCalendar 2 ((Option.some (FieldType.object "DocumentaryCreditDesk$Book"))) 1 := ⟨⟨kc_X0_withCalendar, kin_X0, by decide +kernel⟩, ki_X0_withCalendar, ks_X0_withCalendar⟩
theorem yk_X0_withFeeRule : YI yX0_withFeeRule cX0_withFeeRule 2 ((Option.some (FieldType.object "DocumentaryCreditDesk$Book"))) 1 := ⟨⟨kc_X0_withFeeRule, kin_X0, by decide +kernel⟩, ki_X0_withFeeRule, ks_X0_withFeeRule⟩
theorem yk_X0_withToday : YI yX0_withToday cX0_withToday 2 ((Option.some (FieldType.object "DocumentaryCreditDesk$Book"))) 1 := ⟨⟨kc_X0_withToday, kin_X0, by decide +kernel⟩, ki_X0_withToday, ks_X0_withToday⟩
theorem yk_X0_withCredit : YI yX0_withCredit cX0_withCredit 4 ((Option.some (FieldType.object "DocumentaryCreditDesk$Book"))) 1 := ⟨⟨kc_X0_withCredit, kin_X0, by decide +kernel⟩, ki_X0_withCredit, ks_X0_withCredit⟩
theorem yk_X0_withPresentation : YI yX0_withPresentation cX0_withPresentation 4 ((Option.some (FieldType.object "DocumentaryCreditDesk$Book"))) 1 := ⟨⟨kc_X0_withPresentation, kin_X0, by decide +kernel⟩, ki_X0_withPresentation, ks_X0_withPresentation⟩
theorem yk_X0_withPresentationAt : YI yX0_withPresentationAt cX0_withPresentationAt 5 ((Option.some (FieldType.object "DocumentaryCreditDesk$Book"))) 2 := ⟨⟨kc_X0_withPresentationAt, kin_X0, by decide +kernel⟩, ki_X0_withPresentationAt, ks_X0_withPresentationAt⟩
theorem yk_X0_drawnSum : YI yX0_drawnSum cX0_drawnSum 7 ((Option.some FieldType.int)) 1 := ⟨⟨kc_X0_drawnSum, kin_X0, by decide +kernel⟩, ki_X0_drawnSum, ks_X0_drawnSum⟩
theorem yk_X0_transferredSum : YI yX0_transferredSum cX0_transferredSum 7 ((Option.some FieldType.int)) 1 := ⟨⟨kc_X0_transferredSum, kin_X0, by decide +kernel⟩, ki_X0_transferredSum, ks_X0_transferredSum⟩
theorem yk_X0_availableSum : YI yX0_availableSum cX0_availableSum 2 ((Option.some FieldType.int)) 1 := ⟨⟨kc_X0_availableSum, kin_X0, by decide +kernel⟩, ki_X0_availableSum, ks_X0_availableSum⟩
theorem yk_X0_isPresentedUnder : YI yX0_isPresentedUnder cX0_isPresentedUnder 6 ((Option.some FieldType.boolean)) 1 := ⟨⟨kc_X0_isPresentedUnder, kin_X0, by decide +kernel⟩, ki_X0_isPresentedUnder, ks_X0_isPresentedUnder⟩
theorem yk_X1_init : YN yX1_init cX1_init 2 ((Option.none : Option FieldType)) 1 := ⟨⟨kc_X1_init, kin_X1, by decide +kernel⟩, rfl, ki_X1_init⟩
theorem yk_X1_withHoliday : YI yX1_withHoliday cX1_withHoliday 3 ((Option.some (FieldType.object "DocumentaryCreditDesk$Calendar"))) 1 := ⟨⟨kc_X1_withHoliday, kin_X1, by decide +kernel⟩, ki_X1_withHoliday, ks_X1_withHoliday⟩
theorem yk_X1_isFull : YI yX1_isFull cX1_isFull 1 ((Option.some FieldType.boolean)) 0 := ⟨⟨kc_X1_isFull, kin_X1, by decide +kernel⟩, ki_X1_isFull, ks_X1_isFull⟩
theorem yk_X1_isHoliday : YI yX1_isHoliday cX1_isHoliday 6 ((Option.some FieldType.boolean)) 1 := ⟨⟨kc_X1_isHoliday, kin_X1, by decide +kernel⟩, ki_X1_isHoliday, ks_X1_isHoliday⟩
theorem yk_X1_isOpen : YI yX1_isOpen cX1_isOpen 2 ((Option.some FieldType.boolean)) 1 := ⟨⟨kc_X1_isOpen, kin_X1, by decide +kernel⟩, ki_X1_isOpen, ks_X1_isOpen⟩
theorem yk_X1_firstOpen : YI yX1_firstOpen cX1_firstOpen 4 ((Option.some FieldType.int)) 1 := ⟨⟨kc_X1_firstOpen, kin_X1, by decide +kernel⟩, ki_X1_firstOpen, ks_X1_firstOpen⟩
theorem yk_X1_openDayAfter : YI yX1_openDayAfter cX1_openDayAfter 5 ((Option.some FieldType.int)) 2 := ⟨⟨kc_X1_openDayAfter, kin_X1, by decide +kernel⟩, ki_X1_openDayAfter, ks_X1_openDayAfter⟩
theorem yk_X1_openDays : YI yX1_openDays cX1_openDays 8 ((Option.some FieldType.int)) 2 := ⟨⟨kc_X1_openDays, kin_X1, by decide +kernel⟩, ki_X1_openDays, ks_X1_openDays⟩
theorem yk_X1_workdaysBefore : YS yX1_workdaysBefore cX1_workdaysBefore 1 ((Option.some FieldType.int)) 1 := ⟨⟨kc_X1_workdaysBefore, kin_X1, by decide +kernel⟩, kt_X1_workdaysBefore⟩
theorem yk_X1_isWeekend : YS yX1_isWeekend cX1_isWeekend 1 ((Option.some FieldType.boolean)) 1 := ⟨⟨kc_X1_isWeekend, kin_X1, by decide +kernel⟩, kt_X1_isWeekend⟩
theorem yk_X2_init : YN yX2_init cX2_init 3 ((Option.none : Option FieldType)) 2 := ⟨⟨kc_X2_init, kin_X2, by decide +kernel⟩, rfl, ki_X2_init⟩
theorem yk_X2_maximum : YI yX2_maximum cX2_maximum 1 ((Option.some FieldType.int)) 0 := ⟨⟨kc_X2_maximum, kin_X2, by decide +kernel⟩, ki_X2_maximum, ks_X2_maximum⟩
theorem yk_X2_minimum : YI yX2_minimum cX2_minimum 1 ((Option.some FieldType.int)) 0 := ⟨⟨kc_X2_minimum, kin_X2, by decide +kernel⟩, ki_X2_minimum, ks_X2_minimum⟩
theorem yk_X2_partTransferred : YI yX2_partTransferred cX2_partTransferred 5 ((Option.some (FieldType.object "DocumentaryCreditDesk$Credit"))) 3 := ⟨⟨kc_X2_partTransferred, kin_X2, by decide +kernel⟩, ki_X2_partTransferred, ks_X2_partTransferred⟩
theorem yk_X3_init : YN yX3_init cX3_init 2 ((Option.none : Option FieldType)) 1 := ⟨⟨kc_X3_init, kin_X3, by decide +kernel⟩, rfl, ki_X3_init⟩
theorem yk_X3_feeFor : YI yX3_feeFor cX3_feeFor 10 ((Option.some FieldType.int)) 3 := ⟨⟨kc_X3_feeFor, kin_X3, by decide +kernel⟩, ki_X3_feeFor, ks_X3_feeFor⟩
theorem yk_X3_operand : YS yX3_operand cX3_operand 4 ((Option.some FieldType.int)) 4 := ⟨⟨kc_X3_operand, kin_X3, by decide +kernel⟩, kt_X3_operand⟩
theorem yk_X3_result : YS yX3_result cX3_result 5 ((Option.some FieldType.int)) 3 := ⟨⟨kc_X3_result, kin_X3, by decide +kernel⟩, kt_X3_result⟩
theorem yk_X4_init : YN yX4_init cX4_init 2 ((Option.none : Option FieldType)) 1 := ⟨⟨kc_X4_init, kin_X4, by decide +kernel⟩, rfl, ki_X4_init⟩
theorem yk_X4_addCandidate : YI yX4_addCandidate cX4_addCandidate 3 ((Option.none : Option FieldType)) 2 := ⟨⟨kc_X4_addCandidate, kin_X4, by decide +kernel⟩, ki_X4_addCandidate, ks_X4_addCandidate⟩
theorem yk_X4_bestSet : YI yX4_bestSet cX4_bestSet 1 ((Option.some FieldType.int)) 0 := ⟨⟨kc_X4_bestSet, kin_X4, by decide +kernel⟩, ki_X4_bestSet, ks_X4_bestSet⟩
theorem yk_X4_tryAll : YI yX4_tryAll cX4_tryAll 5 ((Option.none : Option FieldType)) 3 := ⟨⟨kc_X4_tryAll, kin_X4, by decide +kernel⟩, ki_X4_tryAll, ks_X4_tryAll⟩
theorem yk_X5_init : YN yX5_init cX5_init 7 ((Option.none : Option FieldType)) 6 := ⟨⟨kc_X5_init, kin_X5, by decide +kernel⟩, rfl, ki_X5_init⟩
theorem yk_X5_has : YI yX5_has cX5_has 2 ((Option.some FieldType.boolean)) 1 := ⟨⟨kc_X5_has, kin_X5, by decide +kernel⟩, ki_X5_has, ks_X5_has⟩
theorem yk_X5_settled : YI yX5_settled cX5_settled 3 ((Option.some (FieldType.object "DocumentaryCreditDesk$Presentation"))) 2 := ⟨⟨kc_X5_settled, kin_X5, by decide +kernel⟩, ki_X5_settled, ks_X5_settled⟩
theorem yk_X6_init : YN yX6_init cX6_init 2 ((Option.none : Option FieldType)) 1 := ⟨⟨kc_X6_init, kin_X6, by decide +kernel⟩, rfl, ki_X6_init⟩
theorem yk_X6_readSetup : YI yX6_readSetup cX6_readSetup 2 ((Option.none : Option FieldType)) 0 := ⟨⟨kc_X6_readSetup, kin_X6, by decide +kernel⟩, ki_X6_readSetup, ks_X6_readSetup⟩
theorem yk_X6_readHolidays : YI yX6_readHolidays cX6_readHolidays 2 ((Option.none : Option FieldType)) 0 := ⟨⟨kc_X6_readHolidays, kin_X6, by decide +kernel⟩, ki_X6_readHolidays, ks_X6_readHolidays⟩
theorem yk_X6_readHoliday : YI yX6_readHoliday cX6_readHoliday 1 ((Option.none : Option FieldType)) 0 := ⟨⟨kc_X6_readHoliday, kin_X6, by decide +kernel⟩, ki_X6_readHoliday, ks_X6_readHoliday⟩
theorem yk_X6_readCredit : YI yX6_readCredit cX6_readCredit 2 ((Option.none : Option FieldType)) 0 := ⟨⟨kc_X6_readCredit, kin_X6, by decide +kernel⟩, ki_X6_readCredit, ks_X6_readCredit⟩
theorem yk_X6_readDocuments : YI yX6_readDocuments cX6_readDocuments 3 ((Option.some FieldType.int)) 0 := ⟨⟨kc_X6_readDocuments, kin_X6, by decide +kernel⟩, ki_X6_readDocuments, ks_X6_readDocuments⟩
theorem yk_X6_readDocumentInto : YI yX6_readDocumentInto cX6_readDocumentInto 3 ((Option.some FieldType.int)) 1 := ⟨⟨kc_X6_readDocumentInto, kin_X6, by decide +kernel⟩, ki_X6_readDocumentInto, ks_X6_readDocumentInto⟩
theorem yk_X6_readFee : YI yX6_readFee cX6_readFee 1 ((Option.none : Option FieldType)) 0 := ⟨⟨kc_X6_readFee, kin_X6, by decide +kernel⟩, ki_X6_readFee, ks_X6_readFee⟩
theorem yk_X6_readSum : YI yX6_readSum cX6_readSum 4 ((Option.none : Option FieldType)) 1 := ⟨⟨kc_X6_readSum, kin_X6, by decide +kernel⟩, ki_X6_readSum, ks_X6_readSum⟩
theorem yk_X6_readTerm : YI yX6_readTerm cX6_readTerm 4 ((Option.none : Option FieldType)) 1 := ⟨⟨kc_X6_readTerm, kin_X6, by decide +kernel⟩, ki_X6_readTerm, ks_X6_readTerm⟩
theorem yk_X6_readFactor : YI yX6_readFactor cX6_readFactor 2 ((Option.none : Option FieldType)) 1 := ⟨⟨kc_X6_readFactor, kin_X6, by decide +kernel⟩, ki_X6_readFactor, ks_X6_readFactor⟩
theorem yk_X6_readParentheses : YI yX6_readParentheses cX6_readParentheses 2 ((Option.none : Option FieldType)) 1 := ⟨⟨kc_X6_readParentheses, kin_X6, by decide +kernel⟩, ki_X6_readParentheses, ks_X6_readParentheses⟩
theorem yk_X6_addFeeStep : YI yX6_addFeeStep cX6_addFeeStep 2 ((Option.none : Option FieldType)) 1 := ⟨⟨kc_X6_addFeeStep, kin_X6, by decide +kernel⟩, ki_X6_addFeeStep, ks_X6_addFeeStep⟩
theorem yk_X6_isNumberFrom : YI yX6_isNumberFrom cX6_isNumberFrom 3 ((Option.some FieldType.boolean)) 2 := ⟨⟨kc_X6_isNumberFrom, kin_X6, by decide +kernel⟩, ki_X6_isNumberFrom, ks_X6_isNumberFrom⟩
theorem yk_X6_readNumber : YI yX6_readNumber cX6_readNumber 4 ((Option.some FieldType.int)) 2 := ⟨⟨kc_X6_readNumber, kin_X6, by decide +kernel⟩, ki_X6_readNumber, ks_X6_readNumber⟩
theorem yk_X6_tookWord : YI yX6_tookWord cX6_tookWord 2 ((Option.some FieldType.boolean)) 1 := ⟨⟨kc_X6_tookWord, kin_X6, by decide +kernel⟩, ki_X6_tookWord, ks_X6_tookWord⟩
theorem yk_X6_isWord : YI yX6_isWord cX6_isWord 4 ((Option.some FieldType.boolean)) 1 := ⟨⟨kc_X6_isWord, kin_X6, by decide +kernel⟩, ki_X6_isWord, ks_X6_isWord⟩
theorem yk_X6_needSymbol : YI yX6_needSymbol cX6_needSymbol 2 ((Option.none : Option FieldType)) 1 := ⟨⟨kc_X6_needSymbol, kin_X6, by decide +kernel⟩, ki_X6_needSymbol, ks_X6_needSymbol⟩
theorem yk_X6_nextToken : YI yX6_nextToken cX6_nextToken 2 ((Option.none : Option FieldType)) 0 := ⟨⟨kc_X6_nextToken, kin_X6, by decide +kernel⟩, ki_X6_nextToken, ks_X6_nextToken⟩
theorem yk_X6_kindAt : YI yX6_kindAt cX6_kindAt 3 ((Option.some FieldType.int)) 1 := ⟨⟨kc_X6_kindAt, kin_X6, by decide +kernel⟩, ki_X6_kindAt, ks_X6_kindAt⟩
theorem yk_X6_valueOfDigits : YI yX6_valueOfDigits cX6_valueOfDigits 3 ((Option.some FieldType.int)) 0 := ⟨⟨kc_X6_valueOfDigits, kin_X6, by decide +kernel⟩, ki_X6_valueOfDigits, ks_X6_valueOfDigits⟩
theorem yk_X6_fail : YI yX6_fail cX6_fail 2 ((Option.none : Option FieldType)) 1 := ⟨⟨kc_X6_fail, kin_X6, by decide +kernel⟩, ki_X6_fail, ks_X6_fail⟩
theorem yk_X7_init : YN yX7_init cX7_init 1 ((Option.none : Option FieldType)) 0 := ⟨⟨kc_X7_init, kin_X7, by decide +kernel⟩, rfl, ki_X7_init⟩
theorem yk_X7_append : YI yX7_append cX7_append 6 ((Option.some FieldType.int)) 5 := ⟨⟨kc_X7_append, kin_X7, by decide +kernel⟩, ki_X7_append, ks_X7_append⟩
theorem yk_X7_putWord : YI yX7_putWord cX7_putWord 3 ((Option.none : Option FieldType)) 1 := ⟨⟨kc_X7_putWord, kin_X7, by decide +kernel⟩, ki_X7_putWord, ks_X7_putWord⟩
theorem yk_X7_load : YI yX7_load cX7_load 3 ((Option.some FieldType.int)) 1 := ⟨⟨kc_X7_load, kin_X7, by decide +kernel⟩, ki_X7_load, ks_X7_load⟩
theorem yk_X7_errorOffset : YI yX7_errorOffset cX7_errorOffset 1 ((Option.some FieldType.int)) 0 := ⟨⟨kc_X7_errorOffset, kin_X7, by decide +kernel⟩, ki_X7_errorOffset, ks_X7_errorOffset⟩
theorem yk_X7_creditCount : YI yX7_creditCount cX7_creditCount 1 ((Option.some FieldType.int)) 0 := ⟨⟨kc_X7_creditCount, kin_X7, by decide +kernel⟩, ki_X7_creditCount, ks_X7_creditCount⟩
theorem yk_X7_presentationCount : YI yX7_presentationCount cX7_presentationCount 1 ((Option.some FieldType.int)) 0 := ⟨⟨kc_X7_presentationCount, kin_X7, by decide +kernel⟩, ki_X7_presentationCount, ks_X7_presentationCount⟩
theorem yk_X7_today : YI yX7_today cX7_today 1 ((Option.some FieldType.int)) 0 := ⟨⟨kc_X7_today, kin_X7, by decide +kernel⟩, ki_X7_today, ks_X7_today⟩
theorem yk_X7_isBusinessDay : YI yX7_isBusinessDay cX7_isBusinessDay 2 ((Option.some FieldType.boolean)) 1 := ⟨⟨kc_X7_isBusinessDay, kin_X7, by decide +kernel⟩, ki_X7_isBusinessDay, ks_X7_isBusinessDay⟩
theorem yk_X7_extended : YI yX7_extended cX7_extended 2 ((Option.some FieldType.int)) 1 := ⟨⟨kc_X7_extended, kin_X7, by decide +kernel⟩, ki_X7_extended, ks_X7_extended⟩
theorem yk_X7_addBusinessDays : YI yX7_addBusinessDays cX7_addBusinessDays 3 ((Option.some FieldType.int)) 2 := ⟨⟨kc_X7_addBusinessDays, kin_X7, by decide +kernel⟩, ki_X7_addBusinessDays, ks_X7_addBusinessDays⟩
theorem yk_X7_businessDays : YI yX7_businessDays cX7_businessDays 3 ((Option.some FieldType.int)) 2 := ⟨⟨kc_X7_businessDays, kin_X7, by decide +kernel⟩, ki_X7_businessDays, ks_X7_businessDays⟩
theorem yk_X7_parent : YI yX7_parent cX7_parent 2 ((Option.some FieldType.int)) 1 := ⟨⟨kc_X7_parent, kin_X7, by decide +kernel⟩, ki_X7_parent, ks_X7_parent⟩
theorem yk_X7_bound : YI yX7_bound cX7_bound 4 ((Option.some FieldType.int)) 2 := ⟨⟨kc_X7_bound, kin_X7, by decide +kernel⟩, ki_X7_bound, ks_X7_bound⟩
theorem yk_X7_expiry : YI yX7_expiry cX7_expiry 2 ((Option.some FieldType.int)) 1 := ⟨⟨kc_X7_expiry, kin_X7, by decide +kernel⟩, ki_X7_expiry, ks_X7_expiry⟩
theorem yk_X7_drawn : YI yX7_drawn cX7_drawn 2 ((Option.some FieldType.int)) 1 := ⟨⟨kc_X7_drawn, kin_X7, by decide +kernel⟩, ki_X7_drawn, ks_X7_drawn⟩
theorem yk_X7_transferred : YI yX7_transferred cX7_transferred 2 ((Option.some FieldType.int)) 1 := ⟨⟨kc_X7_transferred, kin_X7, by decide +kernel⟩, ki_X7_transferred, ks_X7_transferred⟩
theorem yk_X7_available : YI yX7_available cX7_available 2 ((Option.some FieldType.int)) 1 := ⟨⟨kc_X7_available, kin_X7, by decide +kernel⟩, ki_X7_available, ks_X7_available⟩
theorem yk_X7_creditOf : YI yX7_creditOf cX7_creditOf 2 ((Option.some FieldType.int)) 1 := ⟨⟨kc_X7_creditOf, kin_X7, by decide +kernel⟩, ki_X7_creditOf, ks_X7_creditOf⟩
theorem yk_X7_state : YI yX7_state cX7_state 2 ((Option.some FieldType.int)) 1 := ⟨⟨kc_X7_state, kin_X7, by decide +kernel⟩, ki_X7_state, ks_X7_state⟩
theorem yk_X7_discrepancies : YI yX7_discrepancies cX7_discrepancies 2 ((Option.some FieldType.int)) 1 := ⟨⟨kc_X7_discrepancies, kin_X7, by decide +kernel⟩, ki_X7_discrepancies, ks_X7_discrepancies⟩
theorem yk_X7_deadline : YI yX7_deadline cX7_deadline 2 ((Option.some FieldType.int)) 1 := ⟨⟨kc_X7_deadline, kin_X7, by decide +kernel⟩, ki_X7_deadline, ks_X7_deadline⟩
theorem yk_X7_dueDay : YI yX7_dueDay cX7_dueDay 2 ((Option.some FieldType.int)) 1 := ⟨⟨kc_X7_dueDay, kin_X7, by decide +kernel⟩, ki_X7_dueDay, ks_X7_dueDay⟩
theorem yk_X7_fee : YI yX7_fee cX7_fee 3 ((Option.some FieldType.int)) 1 := ⟨⟨kc_X7_fee, kin_X7, by decide +kernel⟩, ki_X7_fee, ks_X7_fee⟩
theorem yk_X7_dueBetween : YI yX7_dueBetween cX7_dueBetween 9 ((Option.some FieldType.long)) 2 := ⟨⟨kc_X7_dueBetween, kin_X7, by decide +kernel⟩, ki_X7_dueBetween, ks_X7_dueBetween⟩
theorem yk_X7_check : YI yX7_check cX7_check 7 ((Option.some FieldType.int)) 5 := ⟨⟨kc_X7_check, kin_X7, by decide +kernel⟩, ki_X7_check, ks_X7_check⟩
theorem yk_X7_lastDay : YI yX7_lastDay cX7_lastDay 4 ((Option.some FieldType.int)) 2 := ⟨⟨kc_X7_lastDay, kin_X7, by decide +kernel⟩, ki_X7_lastDay, ks_X7_lastDay⟩
theorem yk_X7_bestFit : YI yX7_bestFit cX7_bestFit 6 ((Option.some FieldType.int)) 1 := ⟨⟨kc_X7_bestFit, kin_X7, by decide +kernel⟩, ki_X7_bestFit, ks_X7_bestFit⟩
theorem yk_X7_present : YI yX7_present cX7_present 9 ((Option.some FieldType.int)) 5 := ⟨⟨kc_X7_present, kin_X7, by decide +kernel⟩, ki_X7_present, ks_X7_present⟩
theorem yk_X7_examine : YI yX7_examine cX7_examine 4 ((Option.some FieldType.int)) 1 := ⟨⟨kc_X7_examine, kin_X7, by decide +kernel⟩, ki_X7_examine, ks_X7_examine⟩
theorem yk_X7_waive : YI yX7_waive cX7_waive 3 ((Option.some FieldType.int)) 1 := ⟨⟨kc_X7_waive, kin_X7, by decide +kernel⟩, ki_X7_waive, ks_X7_waive⟩
theorem yk_X7_refuse : YI yX7_refuse cX7_refuse 3 ((Option.some FieldType.int)) 1 := ⟨⟨kc_X7_refuse, kin_X7, by decide +kernel⟩, ki_X7_refuse, ks_X7_refuse⟩
theorem yk_X7_transfer : YI yX7_transfer cX7_transfer 6 ((Option.some FieldType.int)) 3 := ⟨⟨kc_X7_transfer, kin_X7, by decide +kernel⟩, ki_X7_transfer, ks_X7_transfer⟩
theorem yk_X7_pass : YI yX7_pass cX7_pass 2 ((Option.some FieldType.int)) 1 := ⟨⟨kc_X7_pass, kin_X7, by decide +kernel⟩, ki_X7_pass, ks_X7_pass⟩
theorem yk_X7_undo : YI yX7_undo cX7_undo 2 ((Option.some FieldType.int)) 0 := ⟨⟨kc_X7_undo, kin_X7, by decide +kernel⟩, ki_X7_undo, ks_X7_undo⟩
theorem yk_X7_checksum : YI yX7_checksum cX7_checksum 7 ((Option.some FieldType.long)) 0 := ⟨⟨kc_X7_checksum, kin_X7, by decide +kernel⟩, ki_X7_checksum, ks_X7_checksum⟩
theorem yk_X7_creditAt : YI yX7_creditAt cX7_creditAt 3 ((Option.some (FieldType.object "DocumentaryCreditDesk$Credit"))) 1 := ⟨⟨kc_X7_creditAt, kin_X7, by decide +kernel⟩, ki_X7_creditAt, ks_X7_creditAt⟩
theorem yk_X7_presentationAt : YI yX7_presentationAt cX7_presentationAt 3 ((Option.some (FieldType.object "DocumentaryCreditDesk$Presentation"))) 1 := ⟨⟨kc_X7_presentationAt, kin_X7, by decide +kernel⟩, ki_X7_presentationAt, ks_X7_presentationAt⟩
theorem yk_X7_needRange : YS yX7_needRange cX7_needRange 3 ((Option.none : Option FieldType)) 3 := ⟨⟨kc_X7_needRange, kin_X7, by decide +kernel⟩, kt_X7_needRange⟩
theorem yk_X7_needPresentable : YS yX7_needPresentable cX7_needPresentable 4 ((Option.none : Option FieldType)) 4 := ⟨⟨kc_X7_needPresentable, kin_X7, by decide +kernel⟩, kt_X7_needPresentable⟩
theorem yk_X7_discrepanciesToday : YI yX7_discrepanciesToday cX7_discrepanciesToday 7 ((Option.some FieldType.int)) 5 := ⟨⟨kc_X7_discrepanciesToday, kin_X7, by decide +kernel⟩, ki_X7_discrepanciesToday, ks_X7_discrepanciesToday⟩
theorem yk_X7_lastDayFor : YI yX7_lastDayFor cX7_lastDayFor 3 ((Option.some FieldType.int)) 2 := ⟨⟨kc_X7_lastDayFor, kin_X7, by decide +kernel⟩, ki_X7_lastDayFor, ks_X7_lastDayFor⟩
theorem yk_X7_deadlineFor : YI yX7_deadlineFor cX7_deadlineFor 2 ((Option.some FieldType.int)) 1 := ⟨⟨kc_X7_deadlineFor, kin_X7, by decide +kernel⟩, ki_X7_deadlineFor, ks_X7_deadlineFor⟩
theorem yk_X7_stateAfterExamination : YI yX7_stateAfterExamination cX7_stateAfterExamination 2 ((Option.some FieldType.int)) 1 := ⟨⟨kc_X7_stateAfterExamination, kin_X7, by decide +kernel⟩, ki_X7_stateAfterExamination, ks_X7_stateAfterExamination⟩
theorem yk_X7_settle : YI yX7_settle cX7_settle 5 ((Option.none : Option FieldType)) 3 := ⟨⟨kc_X7_settle, kin_X7, by decide +kernel⟩, ki_X7_settle, ks_X7_settle⟩
theorem yk_X7_canTransfer : YI yX7_canTransfer cX7_canTransfer 3 ((Option.some FieldType.boolean)) 2 := ⟨⟨kc_X7_canTransfer, kin_X7, by decide +kernel⟩, ki_X7_canTransfer, ks_X7_canTransfer⟩
theorem yk_X7_changeTo : YI yX7_changeTo cX7_changeTo 2 ((Option.none : Option FieldType)) 1 := ⟨⟨kc_X7_changeTo, kin_X7, by decide +kernel⟩, ki_X7_changeTo, ks_X7_changeTo⟩
theorem yk_X7_forgetOldest : YI yX7_forgetOldest cX7_forgetOldest 2 ((Option.none : Option FieldType)) 0 := ⟨⟨kc_X7_forgetOldest, kin_X7, by decide +kernel⟩, ki_X7_forgetOldest, ks_X7_forgetOldest⟩
theorem yk_X8_init : YN yX8_init cX8_init 1 ((Option.none : Option FieldType)) 0 := ⟨⟨kc_X8_init, kin_X8, by decide +kernel⟩, rfl, ki_X8_init⟩
theorem yk_X8_thrown : YI yX8_thrown cX8_thrown 1 ((Option.some FieldType.int)) 0 := ⟨⟨kc_X8_thrown, kin_X8, by decide +kernel⟩, ki_X8_thrown, ks_X8_thrown⟩
theorem yk_X8_fails : YI yX8_fails cX8_fails 3 ((Option.some FieldType.boolean)) 2 := ⟨⟨kc_X8_fails, kin_X8, by decide +kernel⟩, ki_X8_fails, ks_X8_fails⟩
theorem yk_X8_in : YS yX8_in cX8_in 3 ((Option.some FieldType.boolean)) 3 := ⟨⟨kc_X8_in, kin_X8, by decide +kernel⟩, kt_X8_in⟩
theorem yk_X8_min : YS yX8_min cX8_min 2 ((Option.some FieldType.int)) 2 := ⟨⟨kc_X8_min, kin_X8, by decide +kernel⟩, kt_X8_min⟩
theorem yk_X8_copy : YS yX8_copy cX8_copy 3 ((Option.none : Option FieldType)) 2 := ⟨⟨kc_X8_copy, kin_X8, by decide +kernel⟩, kt_X8_copy⟩
theorem yk_X8_credit : YS yX8_credit cX8_credit 1 ((Option.some FieldType.int)) 1 := ⟨⟨kc_X8_credit, kin_X8, by decide +kernel⟩, kt_X8_credit⟩
theorem yk_X8_presentation : YS yX8_presentation cX8_presentation 1 ((Option.some FieldType.int)) 1 := ⟨⟨kc_X8_presentation, kin_X8, by decide +kernel⟩, kt_X8_presentation⟩
theorem yk_X8_append : YI yX8_append cX8_append 8 ((Option.some FieldType.int)) 5 := ⟨⟨kc_X8_append, kin_X8, by decide +kernel⟩, ki_X8_append, ks_X8_append⟩
theorem yk_X8_byteAt : YI yX8_byteAt cX8_byteAt 2 ((Option.some FieldType.int)) 1 := ⟨⟨kc_X8_byteAt, kin_X8, by decide +kernel⟩, ki_X8_byteAt, ks_X8_byteAt⟩
theorem yk_X8_next : YI yX8_next cX8_next 1 ((Option.some FieldType.int)) 0 := ⟨⟨kc_X8_next, kin_X8, by decide +kernel⟩, ki_X8_next, ks_X8_next⟩
theorem yk_X8_isGood : YI yX8_isGood cX8_isGood 1 ((Option.some FieldType.boolean)) 0 := ⟨⟨kc_X8_isGood, kin_X8, by decide +kernel⟩, ki_X8_isGood, ks_X8_isGood⟩
theorem yk_X8_report : YI yX8_report cX8_report 3 ((Option.none : Option FieldType)) 2 := ⟨⟨kc_X8_report, kin_X8, by decide +kernel⟩, ki_X8_report, ks_X8_report⟩
theorem yk_X8_isDigit : YS yX8_isDigit cX8_isDigit 1 ((Option.some FieldType.boolean)) 1 := ⟨⟨kc_X8_isDigit, kin_X8, by decide +kernel⟩, kt_X8_isDigit⟩
theorem yk_X8_takeWord : YI yX8_takeWord cX8_takeWord 3 ((Option.some FieldType.boolean)) 1 := ⟨⟨kc_X8_takeWord, kin_X8, by decide +kernel⟩, ki_X8_takeWord, ks_X8_takeWord⟩
theorem yk_X8_expect : YI yX8_expect cX8_expect 2 ((Option.none : Option FieldType)) 1 := ⟨⟨kc_X8_expect, kin_X8, by decide +kernel⟩, ki_X8_expect, ks_X8_expect⟩
theorem yk_X8_number : YI yX8_number cX8_number 4 ((Option.some FieldType.int)) 2 := ⟨⟨kc_X8_number, kin_X8, by decide +kernel⟩, ki_X8_number, ks_X8_number⟩
theorem yk_X8_emit : YI yX8_emit cX8_emit 2 ((Option.none : Option FieldType)) 1 := ⟨⟨kc_X8_emit, kin_X8, by decide +kernel⟩, ki_X8_emit, ks_X8_emit⟩
theorem yk_X8_factor : YI yX8_factor cX8_factor 4 ((Option.none : Option FieldType)) 0 := ⟨⟨kc_X8_factor, kin_X8, by decide +kernel⟩, ki_X8_factor, ks_X8_factor⟩
theorem yk_X8_term : YI yX8_term cX8_term 2 ((Option.none : Option FieldType)) 0 := ⟨⟨kc_X8_term, kin_X8, by decide +kernel⟩, ki_X8_term, ks_X8_term⟩
theorem yk_X8_sum : YI yX8_sum cX8_sum 2 ((Option.none : Option FieldType)) 0 := ⟨⟨kc_X8_sum, kin_X8, by decide +kernel⟩, ki_X8_sum, ks_X8_sum⟩
theorem yk_X8_once : YI yX8_once cX8_once 3 ((Option.none : Option FieldType)) 2 := ⟨⟨kc_X8_once, kin_X8, by decide +kernel⟩, ki_X8_once, ks_X8_once⟩
theorem yk_X8_readHoliday : YI yX8_readHoliday cX8_readHoliday 3 ((Option.none : Option FieldType)) 0 := ⟨⟨kc_X8_readHoliday, kin_X8, by decide +kernel⟩, ki_X8_readHoliday, ks_X8_readHoliday⟩
theorem yk_X8_readNeeds : YI yX8_readNeeds cX8_readNeeds 3 ((Option.none : Option FieldType)) 1 := ⟨⟨kc_X8_readNeeds, kin_X8, by decide +kernel⟩, ki_X8_readNeeds, ks_X8_readNeeds⟩
theorem yk_X8_readCredit : YI yX8_readCredit cX8_readCredit 3 ((Option.none : Option FieldType)) 1 := ⟨⟨kc_X8_readCredit, kin_X8, by decide +kernel⟩, ki_X8_readCredit, ks_X8_readCredit⟩
theorem yk_X8_statement : YI yX8_statement cX8_statement 2 ((Option.none : Option FieldType)) 0 := ⟨⟨kc_X8_statement, kin_X8, by decide +kernel⟩, ki_X8_statement, ks_X8_statement⟩
theorem yk_X8_load : YI yX8_load cX8_load 3 ((Option.some FieldType.int)) 1 := ⟨⟨kc_X8_load, kin_X8, by decide +kernel⟩, ki_X8_load, ks_X8_load⟩
theorem yk_X8_errorOffset : YI yX8_errorOffset cX8_errorOffset 1 ((Option.some FieldType.int)) 0 := ⟨⟨kc_X8_errorOffset, kin_X8, by decide +kernel⟩, ki_X8_errorOffset, ks_X8_errorOffset⟩
theorem yk_X8_isBusiness : YI yX8_isBusiness cX8_isBusiness 3 ((Option.some FieldType.boolean)) 1 := ⟨⟨kc_X8_isBusiness, kin_X8, by decide +kernel⟩, ki_X8_isBusiness, ks_X8_isBusiness⟩
theorem yk_X8_extend : YI yX8_extend cX8_extend 3 ((Option.some FieldType.int)) 1 := ⟨⟨kc_X8_extend, kin_X8, by decide +kernel⟩, ki_X8_extend, ks_X8_extend⟩
theorem yk_X8_add : YI yX8_add cX8_add 5 ((Option.some FieldType.int)) 2 := ⟨⟨kc_X8_add, kin_X8, by decide +kernel⟩, ki_X8_add, ks_X8_add⟩
theorem yk_X8_isDay : YS yX8_isDay cX8_isDay 1 ((Option.some FieldType.boolean)) 1 := ⟨⟨kc_X8_isDay, kin_X8, by decide +kernel⟩, kt_X8_isDay⟩
theorem yk_X8_today : YI yX8_today cX8_today 1 ((Option.some FieldType.int)) 0 := ⟨⟨kc_X8_today, kin_X8, by decide +kernel⟩, ki_X8_today, ks_X8_today⟩
theorem yk_X8_isBusinessDay : YI yX8_isBusinessDay cX8_isBusinessDay 2 ((Option.some FieldType.boolean)) 1 := ⟨⟨kc_X8_isBusinessDay, kin_X8, by decide +kernel⟩, ki_X8_isBusinessDay, ks_X8_isBusinessDay⟩
theorem yk_X8_extended : YI yX8_extended cX8_extended 2 ((Option.some FieldType.int)) 1 := ⟨⟨kc_X8_extended, kin_X8, by decide +kernel⟩, ki_X8_extended, ks_X8_extended⟩
theorem yk_X8_addBusinessDays : YI yX8_addBusinessDays cX8_addBusinessDays 3 ((Option.some FieldType.int)) 2 := ⟨⟨kc_X8_addBusinessDays, kin_X8, by decide +kernel⟩, ki_X8_addBusinessDays, ks_X8_addBusinessDays⟩
theorem yk_X8_businessDays : YI yX8_businessDays cX8_businessDays 5 ((Option.some FieldType.int)) 2 := ⟨⟨kc_X8_businessDays, kin_X8, by decide +kernel⟩, ki_X8_businessDays, ks_X8_businessDays⟩
theorem yk_X8_noCredit : YI yX8_noCredit cX8_noCredit 2 ((Option.some FieldType.boolean)) 1 := ⟨⟨kc_X8_noCredit, kin_X8, by decide +kernel⟩, ki_X8_noCredit, ks_X8_noCredit⟩
theorem yk_X8_noPresentation : YI yX8_noPresentation cX8_noPresentation 2 ((Option.some FieldType.boolean)) 1 := ⟨⟨kc_X8_noPresentation, kin_X8, by decide +kernel⟩, ki_X8_noPresentation, ks_X8_noPresentation⟩
theorem yk_X8_creditCount : YI yX8_creditCount cX8_creditCount 1 ((Option.some FieldType.int)) 0 := ⟨⟨kc_X8_creditCount, kin_X8, by decide +kernel⟩, ki_X8_creditCount, ks_X8_creditCount⟩
theorem yk_X8_presentationCount : YI yX8_presentationCount cX8_presentationCount 1 ((Option.some FieldType.int)) 0 := ⟨⟨kc_X8_presentationCount, kin_X8, by decide +kernel⟩, ki_X8_presentationCount, ks_X8_presentationCount⟩
theorem yk_X8_parent : YI yX8_parent cX8_parent 2 ((Option.some FieldType.int)) 1 := ⟨⟨kc_X8_parent, kin_X8, by decide +kernel⟩, ki_X8_parent, ks_X8_parent⟩
theorem yk_X8_most : YI yX8_most cX8_most 2 ((Option.some FieldType.int)) 1 := ⟨⟨kc_X8_most, kin_X8, by decide +kernel⟩, ki_X8_most, ks_X8_most⟩
theorem yk_X8_least : YI yX8_least cX8_least 2 ((Option.some FieldType.int)) 1 := ⟨⟨kc_X8_least, kin_X8, by decide +kernel⟩, ki_X8_least, ks_X8_least⟩
theorem yk_X8_bound : YI yX8_bound cX8_bound 3 ((Option.some FieldType.int)) 2 := ⟨⟨kc_X8_bound, kin_X8, by decide +kernel⟩, ki_X8_bound, ks_X8_bound⟩
theorem yk_X8_expiry : YI yX8_expiry cX8_expiry 2 ((Option.some FieldType.int)) 1 := ⟨⟨kc_X8_expiry, kin_X8, by decide +kernel⟩, ki_X8_expiry, ks_X8_expiry⟩
theorem yk_X8_stands : YI yX8_stands cX8_stands 3 ((Option.some FieldType.boolean)) 2 := ⟨⟨kc_X8_stands, kin_X8, by decide +kernel⟩, ki_X8_stands, ks_X8_stands⟩
theorem yk_X8_drawnOf : YI yX8_drawnOf cX8_drawnOf 4 ((Option.some FieldType.int)) 1 := ⟨⟨kc_X8_drawnOf, kin_X8, by decide +kernel⟩, ki_X8_drawnOf, ks_X8_drawnOf⟩
theorem yk_X8_transferredOf : YI yX8_transferredOf cX8_transferredOf 4 ((Option.some FieldType.int)) 1 := ⟨⟨kc_X8_transferredOf, kin_X8, by decide +kernel⟩, ki_X8_transferredOf, ks_X8_transferredOf⟩
theorem yk_X8_availableOf : YI yX8_availableOf cX8_availableOf 2 ((Option.some FieldType.int)) 1 := ⟨⟨kc_X8_availableOf, kin_X8, by decide +kernel⟩, ki_X8_availableOf, ks_X8_availableOf⟩
theorem yk_X8_drawn : YI yX8_drawn cX8_drawn 2 ((Option.some FieldType.int)) 1 := ⟨⟨kc_X8_drawn, kin_X8, by decide +kernel⟩, ki_X8_drawn, ks_X8_drawn⟩
theorem yk_X8_transferred : YI yX8_transferred cX8_transferred 2 ((Option.some FieldType.int)) 1 := ⟨⟨kc_X8_transferred, kin_X8, by decide +kernel⟩, ki_X8_transferred, ks_X8_transferred⟩
theorem yk_X8_available : YI yX8_available cX8_available 2 ((Option.some FieldType.int)) 1 := ⟨⟨kc_X8_available, kin_X8, by decide +kernel⟩, ki_X8_available, ks_X8_available⟩
theorem yk_X8_lastDayOf : YI yX8_lastDayOf cX8_lastDayOf 3 ((Option.some FieldType.int)) 2 := ⟨⟨kc_X8_lastDayOf, kin_X8, by decide +kernel⟩, ki_X8_lastDayOf, ks_X8_lastDayOf⟩
theorem yk_X8_faultsOf : YI yX8_faultsOf cX8_faultsOf 11 ((Option.some FieldType.int)) 5 := ⟨⟨kc_X8_faultsOf, kin_X8, by decide +kernel⟩, ki_X8_faultsOf, ks_X8_faultsOf⟩
theorem yk_X8_isWrong : YI yX8_isWrong cX8_isWrong 5 ((Option.some FieldType.boolean)) 4 := ⟨⟨kc_X8_isWrong, kin_X8, by decide +kernel⟩, ki_X8_isWrong, ks_X8_isWrong⟩
theorem yk_X8_check : YI yX8_check cX8_check 6 ((Option.some FieldType.int)) 5 := ⟨⟨kc_X8_check, kin_X8, by decide +kernel⟩, ki_X8_check, ks_X8_check⟩
theorem yk_X8_lastDay : YI yX8_lastDay cX8_lastDay 3 ((Option.some FieldType.int)) 2 := ⟨⟨kc_X8_lastDay, kin_X8, by decide +kernel⟩, ki_X8_lastDay, ks_X8_lastDay⟩
theorem yk_X8_creditOf : YI yX8_creditOf cX8_creditOf 2 ((Option.some FieldType.int)) 1 := ⟨⟨kc_X8_creditOf, kin_X8, by decide +kernel⟩, ki_X8_creditOf, ks_X8_creditOf⟩
theorem yk_X8_state : YI yX8_state cX8_state 2 ((Option.some FieldType.int)) 1 := ⟨⟨kc_X8_state, kin_X8, by decide +kernel⟩, ki_X8_state, ks_X8_state⟩
theorem yk_X8_discrepancies : YI yX8_discrepancies cX8_discrepancies 2 ((Option.some FieldType.int)) 1 := ⟨⟨kc_X8_discrepancies, kin_X8, by decide +kernel⟩, ki_X8_discrepancies, ks_X8_discrepancies⟩
theorem yk_X8_deadlineOf : YI yX8_deadlineOf cX8_deadlineOf 2 ((Option.some FieldType.int)) 1 := ⟨⟨kc_X8_deadlineOf, kin_X8, by decide +kernel⟩, ki_X8_deadlineOf, ks_X8_deadlineOf⟩
theorem yk_X8_deadline : YI yX8_deadline cX8_deadline 2 ((Option.some FieldType.int)) 1 := ⟨⟨kc_X8_deadline, kin_X8, by decide +kernel⟩, ki_X8_deadline, ks_X8_deadline⟩
theorem yk_X8_dueOf : YI yX8_dueOf cX8_dueOf 3 ((Option.some FieldType.int)) 1 := ⟨⟨kc_X8_dueOf, kin_X8, by decide +kernel⟩, ki_X8_dueOf, ks_X8_dueOf⟩
theorem yk_X8_dueDay : YI yX8_dueDay cX8_dueDay 2 ((Option.some FieldType.int)) 1 := ⟨⟨kc_X8_dueDay, kin_X8, by decide +kernel⟩, ki_X8_dueDay, ks_X8_dueDay⟩
theorem yk_X8_dueBetween : YI yX8_dueBetween cX8_dueBetween 7 ((Option.some FieldType.long)) 2 := ⟨⟨kc_X8_dueBetween, kin_X8, by decide +kernel⟩, ki_X8_dueBetween, ks_X8_dueBetween⟩
theorem yk_X8_limited : YS yX8_limited cX8_limited 2 ((Option.some FieldType.long)) 1 := ⟨⟨kc_X8_limited, kin_X8, by decide +kernel⟩, kt_X8_limited⟩
theorem yk_X8_operate : YS yX8_operate cX8_operate 5 ((Option.some FieldType.long)) 3 := ⟨⟨kc_X8_operate, kin_X8, by decide +kernel⟩, kt_X8_operate⟩
theorem yk_X8_variable : YI yX8_variable cX8_variable 6 ((Option.some FieldType.int)) 2 := ⟨⟨kc_X8_variable, kin_X8, by decide +kernel⟩, ki_X8_variable, ks_X8_variable⟩
theorem yk_X8_fee : YI yX8_fee cX8_fee 5 ((Option.some FieldType.int)) 1 := ⟨⟨kc_X8_fee, kin_X8, by decide +kernel⟩, ki_X8_fee, ks_X8_fee⟩
theorem yk_X8_bestFit : YI yX8_bestFit cX8_bestFit 10 ((Option.some FieldType.int)) 1 := ⟨⟨kc_X8_bestFit, kin_X8, by decide +kernel⟩, ki_X8_bestFit, ks_X8_bestFit⟩
theorem yk_X8_remember : YI yX8_remember cX8_remember 2 ((Option.none : Option FieldType)) 0 := ⟨⟨kc_X8_remember, kin_X8, by decide +kernel⟩, ki_X8_remember, ks_X8_remember⟩
theorem yk_X8_present : YI yX8_present cX8_present 9 ((Option.some FieldType.int)) 5 := ⟨⟨kc_X8_present, kin_X8, by decide +kernel⟩, ki_X8_present, ks_X8_present⟩
theorem yk_X8_honour : YI yX8_honour cX8_honour 2 ((Option.none : Option FieldType)) 1 := ⟨⟨kc_X8_honour, kin_X8, by decide +kernel⟩, ki_X8_honour, ks_X8_honour⟩
theorem yk_X8_examine : YI yX8_examine cX8_examine 4 ((Option.some FieldType.int)) 1 := ⟨⟨kc_X8_examine, kin_X8, by decide +kernel⟩, ki_X8_examine, ks_X8_examine⟩
theorem yk_X8_waive : YI yX8_waive cX8_waive 3 ((Option.some FieldType.int)) 1 := ⟨⟨kc_X8_waive, kin_X8, by decide +kernel⟩, ki_X8_waive, ks_X8_waive⟩
theorem yk_X8_refuse : YI yX8_refuse cX8_refuse 3 ((Option.some FieldType.int)) 1 := ⟨⟨kc_X8_refuse, kin_X8, by decide +kernel⟩, ki_X8_refuse, ks_X8_refuse⟩
theorem yk_X8_transfer : YI yX8_transfer cX8_transfer 9 ((Option.some FieldType.int)) 3 := ⟨⟨kc_X8_transfer, kin_X8, by decide +kernel⟩, ki_X8_transfer, ks_X8_transfer⟩
theorem yk_X8_pass : YI yX8_pass cX8_pass 2 ((Option.some FieldType.int)) 1 := ⟨⟨kc_X8_pass, kin_X8, by decide +kernel⟩, ki_X8_pass, ks_X8_pass⟩
theorem yk_X8_undo : YI yX8_undo cX8_undo 1 ((Option.some FieldType.int)) 0 := ⟨⟨kc_X8_undo, kin_X8, by decide +kernel⟩, ki_X8_undo, ks_X8_undo⟩
theorem yk_X8_checksum : YI yX8_checksum cX8_checksum 4 ((Option.some FieldType.long)) 0 := ⟨⟨kc_X8_checksum, kin_X8, by decide +kernel⟩, ki_X8_checksum, ks_X8_checksum⟩
theorem yk_J6_bitCount_0f7a4 : YS yJ6_bitCount_0f7a4 cJ6_bitCount_0f7a4 1 ((Option.some FieldType.int)) 1 := ⟨⟨kc_J6_bitCount_0f7a4, kin_J6, by decide +kernel⟩, kt_J6_bitCount_0f7a4⟩
theorem yk_J9_max_7cf53 : YS yJ9_max_7cf53 cJ9_max_7cf53 2 ((Option.some FieldType.int)) 2 := ⟨⟨kc_J9_max_7cf53, kin_J9, by decide +kernel⟩, kt_J9_max_7cf53⟩
theorem yk_J9_max_f86c9 : YS yJ9_max_f86c9 cJ9_max_f86c9 4 ((Option.some FieldType.long)) 2 := ⟨⟨kc_J9_max_f86c9, kin_J9, by decide +kernel⟩, kt_J9_max_f86c9⟩
theorem yk_J9_min_7cf53 : YS yJ9_min_7cf53 cJ9_min_7cf53 2 ((Option.some FieldType.int)) 2 := ⟨⟨kc_J9_min_7cf53, kin_J9, by decide +kernel⟩, kt_J9_min_7cf53⟩
theorem yk_J9_min_f86c9 : YS yJ9_min_f86c9 cJ9_min_f86c9 4 ((Option.some FieldType.long)) 2 := ⟨⟨kc_J9_min_f86c9, kin_J9, by decide +kernel⟩, kt_J9_min_f86c9⟩
theorem yk_J0_length_8abf5 : YI yJ0_length_8abf5 cJ0_length_8abf5 1 ((Option.some FieldType.int)) 0 := ⟨⟨kc_J0_length_8abf5, kin_J0, by decide +kernel⟩, ki_J0_length_8abf5, ks_J0_length_8abf5⟩
theorem yk_J0_charAt_5068e : YI yJ0_charAt_5068e cJ0_charAt_5068e 2 ((Option.some FieldType.char)) 1 := ⟨⟨kc_J0_charAt_5068e, kin_J0, by decide +kernel⟩, ki_J0_charAt_5068e, ks_J0_charAt_5068e⟩
theorem yk_J0_coder_7d493 : YI yJ0_coder_7d493 cJ0_coder_7d493 1 ((Option.some FieldType.byte)) 0 := ⟨⟨kc_J0_coder_7d493, kin_J0, by decide +kernel⟩, ki_J0_coder_7d493, ks_J0_coder_7d493⟩
theorem yk_J0_isLatin1_aae02 : YI yJ0_isLatin1_aae02 cJ0_isLatin1_aae02 1 ((Option.some FieldType.boolean)) 0 := ⟨⟨kc_J0_isLatin1_aae02, kin_J0, by decide +kernel⟩, ki_J0_isLatin1_aae02, ks_J0_isLatin1_aae02⟩
theorem yk_J0_checkIndex_df160 : YS yJ0_checkIndex_df160 cJ0_checkIndex_df160 2 ((Option.none : Option FieldType)) 2 := ⟨⟨kc_J0_checkIndex_df160, kin_J0, by decide +kernel⟩, kt_J0_checkIndex_df160⟩
theorem yk_J1_charAt_3b067 : YS yJ1_charAt_3b067 cJ1_charAt_3b067 2 ((Option.some FieldType.char)) 2 := ⟨⟨kc_J1_charAt_3b067, kin_J1, by decide +kernel⟩, kt_J1_charAt_3b067⟩
theorem yk_J2_getChar_3b067 : YS yJ2_getChar_3b067 cJ2_getChar_3b067 2 ((Option.some FieldType.char)) 2 := ⟨⟨kc_J2_getChar_3b067, kin_J2, by decide +kernel⟩, kt_J2_getChar_3b067⟩
theorem yk_J2_length_9d52b : YS yJ2_length_9d52b cJ2_length_9d52b 1 ((Option.some FieldType.int)) 1 := ⟨⟨kc_J2_length_9d52b, kin_J2, by decide +kernel⟩, kt_J2_length_9d52b⟩
theorem yk_J2_charAt_3b067 : YS yJ2_charAt_3b067 cJ2_charAt_3b067 2 ((Option.some FieldType.char)) 2 := ⟨⟨kc_J2_charAt_3b067, kin_J2, by decide +kernel⟩, kt_J2_charAt_3b067⟩
theorem yk_J2_checkIndex_2214a : YS yJ2_checkIndex_2214a cJ2_checkIndex_2214a 2 ((Option.none : Option FieldType)) 2 := ⟨⟨kc_J2_checkIndex_2214a, kin_J2, by decide +kernel⟩, kt_J2_checkIndex_2214a⟩
theorem yk_J7_copyOf_9075b : YS yJ7_copyOf_9075b cJ7_copyOf_9075b 3 ((Option.some (FieldType.array FieldType.byte))) 2 := ⟨⟨kc_J7_copyOf_9075b, kin_J7, by decide +kernel⟩, kt_J7_copyOf_9075b⟩
theorem yk_J7_copyOf_59c91 : YS yJ7_copyOf_59c91 cJ7_copyOf_59c91 3 ((Option.some (FieldType.array FieldType.int))) 2 := ⟨⟨kc_J7_copyOf_59c91, kin_J7, by decide +kernel⟩, kt_J7_copyOf_59c91⟩
theorem yk_J3_checkIndex_8e157 : YS yJ3_checkIndex_8e157 cJ3_checkIndex_8e157 3 ((Option.some FieldType.int)) 3 := ⟨⟨kc_J3_checkIndex_8e157, kin_J3, by decide +kernel⟩, kt_J3_checkIndex_8e157⟩
