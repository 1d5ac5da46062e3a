/-! words of the tables -/
theorem ew_0 : Cond.selects RX7 yX7_reckon yX7_reckon ∈ ea_tbl := ea_in (List.mem_of_getElem? (i := 0) (by decide +kernel)) rfl
theorem ew_1 : Cond.selects RX11 yX11_tableChanged yX11_tableChanged ∈ ea_tbl := ea_in (List.mem_of_getElem? (i := 1) (by decide +kernel)) rfl
theorem ew_2 : Cond.selects RX11 yX11_mayBeTold yX11_mayBeTold ∈ ea_tbl := ea_in (List.mem_of_getElem? (i := 2) (by decide +kernel)) rfl
theorem ew_3 : Cond.selects RX10 yX10_collect yX10_collect ∈ ea_tbl := ea_in (List.mem_of_getElem? (i := 3) (by decide +kernel)) rfl
theorem ew_4 : Cond.selects RX10 yX10_addKey yX10_addKey ∈ ea_tbl := ea_in (List.mem_of_getElem? (i := 4) (by decide +kernel)) rfl
theorem ew_5 : Cond.selects RX10 yX10_sortKeys yX10_sortKeys ∈ ea_tbl := ea_in (List.mem_of_getElem? (i := 5) (by decide +kernel)) rfl
theorem ew_6 : Cond.selects RX10 yX10_trace yX10_trace ∈ ea_tbl := ea_in (List.mem_of_getElem? (i := 6) (by decide +kernel)) rfl
theorem ew_7 : Cond.selects RX10 yX10_townIn yX10_townIn ∈ ea_tbl := ea_in (List.mem_of_getElem? (i := 7) (by decide +kernel)) rfl
theorem ew_8 : Cond.selects RX10 yX10_takeRun yX10_takeRun ∈ ea_tbl := ea_in (List.mem_of_getElem? (i := 8) (by decide +kernel)) rfl
theorem ew_9 : Cond.selects RX10 yX10_takenAt yX10_takenAt ∈ ea_tbl := ea_in (List.mem_of_getElem? (i := 9) (by decide +kernel)) rfl
theorem ew_10 : Cond.selects RX10 yX10_leaveRun yX10_leaveRun ∈ ea_tbl := ea_in (List.mem_of_getElem? (i := 10) (by decide +kernel)) rfl
theorem ew_11 : Cond.selects RX1 yX1_burn yX1_burn ∈ ea_tbl := ea_in (List.mem_of_getElem? (i := 11) (by decide +kernel)) rfl
theorem ew_12 : Cond.selects RX1 yX1_goes yX1_goes ∈ ea_tbl := ea_in (List.mem_of_getElem? (i := 12) (by decide +kernel)) rfl
theorem ew_13 : Cond.selects RX1 yX1_sort yX1_sort ∈ ea_tbl := ea_in (List.mem_of_getElem? (i := 13) (by decide +kernel)) rfl
theorem ew_14 : Cond.selects RX1 yX1_comes yX1_comes ∈ ea_tbl := ea_in (List.mem_of_getElem? (i := 14) (by decide +kernel)) rfl
theorem ew_15 : Cond.selects RX6 yX6_scan yX6_scan ∈ ea_tbl := ea_in (List.mem_of_getElem? (i := 15) (by decide +kernel)) rfl
theorem ew_16 : Cond.selects RX6 yX6_scanWord yX6_scanWord ∈ ea_tbl := ea_in (List.mem_of_getElem? (i := 16) (by decide +kernel)) rfl
theorem ew_17 : Cond.selects RX6 yX6_addToken yX6_addToken ∈ ea_tbl := ea_in (List.mem_of_getElem? (i := 17) (by decide +kernel)) rfl
theorem ew_18 : Cond.selects RX6 yX6_scanNumber yX6_scanNumber ∈ ea_tbl := ea_in (List.mem_of_getElem? (i := 18) (by decide +kernel)) rfl
theorem ew_19 : Cond.selects RX6 yX6_refuse yX6_refuse ∈ ea_tbl := ea_in (List.mem_of_getElem? (i := 19) (by decide +kernel)) rfl
theorem ew_20 : Cond.selects RX6 yX6_readCharge yX6_readCharge ∈ ea_tbl := ea_in (List.mem_of_getElem? (i := 20) (by decide +kernel)) rfl
theorem ew_21 : Cond.selects RX6 yX6_step yX6_step ∈ ea_tbl := ea_in (List.mem_of_getElem? (i := 21) (by decide +kernel)) rfl
theorem ew_22 : Cond.selects RX6 yX6_readSum yX6_readSum ∈ ea_tbl := ea_in (List.mem_of_getElem? (i := 22) (by decide +kernel)) rfl
theorem ew_23 : Cond.selects RX6 yX6_readProduct yX6_readProduct ∈ ea_tbl := ea_in (List.mem_of_getElem? (i := 23) (by decide +kernel)) rfl
theorem ew_24 : Cond.selects RX6 yX6_readUnit yX6_readUnit ∈ ea_tbl := ea_in (List.mem_of_getElem? (i := 24) (by decide +kernel)) rfl
theorem ew_25 : Cond.selects RX6 yX6_value yX6_value ∈ ea_tbl := ea_in (List.mem_of_getElem? (i := 25) (by decide +kernel)) rfl
theorem ew_26 : Cond.selects RX6 yX6_put yX6_put ∈ ea_tbl := ea_in (List.mem_of_getElem? (i := 26) (by decide +kernel)) rfl
theorem ew_27 : Cond.selects RX6 yX6_readWhen yX6_readWhen ∈ ea_tbl := ea_in (List.mem_of_getElem? (i := 27) (by decide +kernel)) rfl
theorem ew_28 : Cond.selects RX6 yX6_readNots yX6_readNots ∈ ea_tbl := ea_in (List.mem_of_getElem? (i := 28) (by decide +kernel)) rfl
theorem ew_29 : Cond.selects RX6 yX6_comparison yX6_comparison ∈ ea_tbl := ea_in (List.mem_of_getElem? (i := 29) (by decide +kernel)) rfl
theorem ew_30 : Cond.selects RX6 yX6_readRule yX6_readRule ∈ ea_tbl := ea_in (List.mem_of_getElem? (i := 30) (by decide +kernel)) rfl
theorem ew_31 : Cond.selects RX6 yX6_readAfter yX6_readAfter ∈ ea_tbl := ea_in (List.mem_of_getElem? (i := 31) (by decide +kernel)) rfl
theorem ew_32 : Cond.selects RX6 yX6_skip yX6_skip ∈ ea_tbl := ea_in (List.mem_of_getElem? (i := 32) (by decide +kernel)) rfl
theorem ew_33 : Cond.selects RX11 yX11_franksAhead yX11_franksAhead ∈ ea_tbl := ea_in (List.mem_of_getElem? (i := 33) (by decide +kernel)) rfl
theorem ew_34 : Cond.selects RX8 yX8_lineFor yX8_lineFor ∈ ea_tbl := ea_in (List.mem_of_getElem? (i := 34) (by decide +kernel)) rfl
theorem ew_35 : Cond.selects RX8 yX8_ask yX8_ask ∈ ea_tbl := ea_in (List.mem_of_getElem? (i := 35) (by decide +kernel)) rfl
theorem ew_36 : Cond.selects RX8 yX8_worth yX8_worth ∈ ea_tbl := ea_in (List.mem_of_getElem? (i := 36) (by decide +kernel)) rfl
theorem ew_37 : Cond.selects RX11 yX11_letterOf yX11_letterOf ∈ ea_tbl := ea_in (List.mem_of_getElem? (i := 37) (by decide +kernel)) rfl
theorem ew_38 : Cond.selects RX10 yX10_firstTaken yX10_firstTaken ∈ ea_tbl := ea_in (List.mem_of_getElem? (i := 38) (by decide +kernel)) rfl
theorem ew_39 : Cond.selects RX4 yX4_isMarked yX4_isMarked ∈ ea_tbl := ea_in (List.mem_of_getElem? (i := 39) (by decide +kernel)) rfl
theorem ew_40 : Cond.selects RX4 yX4_rowBy yX4_rowBy ∈ ea_tbl := ea_in (List.mem_of_getElem? (i := 40) (by decide +kernel)) rfl
theorem ew_41 : Cond.selects RX11 yX11_owedBetween yX11_owedBetween ∈ ea_tbl := ea_in (List.mem_of_getElem? (i := 41) (by decide +kernel)) rfl
theorem ew_42 : Cond.selects RX11 yX11_isBetween yX11_isBetween ∈ ea_tbl := ea_in (List.mem_of_getElem? (i := 42) (by decide +kernel)) rfl
theorem ew_43 : Cond.selects RX11 yX11_differing yX11_differing ∈ ea_tbl := ea_in (List.mem_of_getElem? (i := 43) (by decide +kernel)) rfl
theorem ew_44 : Cond.selects RX11 yX11_differs yX11_differs ∈ ea_tbl := ea_in (List.mem_of_getElem? (i := 44) (by decide +kernel)) rfl
theorem ew_45 : Cond.selects RX11 yX11_differingLetter yX11_differingLetter ∈ ea_tbl := ea_in (List.mem_of_getElem? (i := 45) (by decide +kernel)) rfl
theorem ew_46 : Cond.selects RX11 yX11_isUnderWay yX11_isUnderWay ∈ ea_tbl := ea_in (List.mem_of_getElem? (i := 46) (by decide +kernel)) rfl
theorem ew_47 : Cond.selects RX11 yX11_taken yX11_taken ∈ ea_tbl := ea_in (List.mem_of_getElem? (i := 47) (by decide +kernel)) rfl
theorem ew_48 : Cond.selects RX11 yX11_isTaken yX11_isTaken ∈ ea_tbl := ea_in (List.mem_of_getElem? (i := 48) (by decide +kernel)) rfl
theorem ew_49 : Cond.selects RX11 yX11_owedOfTaken yX11_owedOfTaken ∈ ea_tbl := ea_in (List.mem_of_getElem? (i := 49) (by decide +kernel)) rfl
theorem ew_50 : Cond.selects RX11 yX11_takenLetter yX11_takenLetter ∈ ea_tbl := ea_in (List.mem_of_getElem? (i := 50) (by decide +kernel)) rfl
theorem ew_51 : Cond.selects RX2 yX2_mayShow yX2_mayShow ∈ ea_tbl := ea_in (List.mem_of_getElem? (i := 51) (by decide +kernel)) rfl
theorem ew_52 : Cond.selects RX11 yX11_outcome yX11_outcome ∈ ea_tbl := ea_in (List.mem_of_getElem? (i := 52) (by decide +kernel)) rfl
theorem ew_53 : Cond.selects RX11 yX11_seekSeats yX11_seekSeats ∈ ea_tbl := ea_in (List.mem_of_getElem? (i := 53) (by decide +kernel)) rfl
theorem ew_54 : Cond.selects RX12 yX12_isTown yX12_isTown ∈ ea_tbl := ea_in (List.mem_of_getElem? (i := 54) (by decide +kernel)) rfl
theorem ew_55 : Cond.selects RX12 yX12_milesOf yX12_milesOf ∈ ea_tbl := ea_in (List.mem_of_getElem? (i := 55) (by decide +kernel)) rfl
theorem ew_56 : Cond.selects RX12 yX12_spreads yX12_spreads ∈ ea_tbl := ea_in (List.mem_of_getElem? (i := 56) (by decide +kernel)) rfl
theorem ew_57 : Cond.selects RX12 yX12_isTrain yX12_isTrain ∈ ea_tbl := ea_in (List.mem_of_getElem? (i := 57) (by decide +kernel)) rfl
theorem ew_58 : Cond.selects RX12 yX12_canBeLate yX12_canBeLate ∈ ea_tbl := ea_in (List.mem_of_getElem? (i := 58) (by decide +kernel)) rfl
theorem ew_59 : Cond.selects RX12 yX12_comesAt yX12_comesAt ∈ ea_tbl := ea_in (List.mem_of_getElem? (i := 59) (by decide +kernel)) rfl
theorem ew_60 : Cond.selects RX12 yX12_bestFrom yX12_bestFrom ∈ ea_tbl := ea_in (List.mem_of_getElem? (i := 60) (by decide +kernel)) rfl
theorem ew_61 : Cond.selects RX12 yX12_table yX12_table ∈ ea_tbl := ea_in (List.mem_of_getElem? (i := 61) (by decide +kernel)) rfl
theorem ew_62 : Cond.selects RX12 yX12_isMore yX12_isMore ∈ ea_tbl := ea_in (List.mem_of_getElem? (i := 62) (by decide +kernel)) rfl
theorem ew_63 : Cond.selects RX12 yX12_minuteOf yX12_minuteOf ∈ ea_tbl := ea_in (List.mem_of_getElem? (i := 63) (by decide +kernel)) rfl
theorem ew_64 : Cond.selects RX12 yX12_goesAt yX12_goesAt ∈ ea_tbl := ea_in (List.mem_of_getElem? (i := 64) (by decide +kernel)) rfl
theorem ew_65 : Cond.selects RX12 yX12_isAheadOf yX12_isAheadOf ∈ ea_tbl := ea_in (List.mem_of_getElem? (i := 65) (by decide +kernel)) rfl
theorem ew_66 : Cond.selects RX12 yX12_goings yX12_goings ∈ ea_tbl := ea_in (List.mem_of_getElem? (i := 66) (by decide +kernel)) rfl
theorem ew_67 : Cond.selects RX12 yX12_townOf yX12_townOf ∈ ea_tbl := ea_in (List.mem_of_getElem? (i := 67) (by decide +kernel)) rfl
theorem ew_68 : Cond.selects RX12 yX12_going yX12_going ∈ ea_tbl := ea_in (List.mem_of_getElem? (i := 68) (by decide +kernel)) rfl
theorem ew_69 : Cond.selects RX12 yX12_isBetter yX12_isBetter ∈ ea_tbl := ea_in (List.mem_of_getElem? (i := 69) (by decide +kernel)) rfl
theorem ew_70 : Cond.selects RX12 yX12_next0 yX12_next0 ∈ ea_tbl := ea_in (List.mem_of_getElem? (i := 70) (by decide +kernel)) rfl
theorem ew_71 : Cond.selects RX12 yX12_see yX12_see ∈ ea_tbl := ea_in (List.mem_of_getElem? (i := 71) (by decide +kernel)) rfl
theorem ew_72 : Cond.selects RX12 yX12_word yX12_word ∈ ea_tbl := ea_in (List.mem_of_getElem? (i := 72) (by decide +kernel)) rfl
theorem ew_73 : Cond.selects RX12 yX12_is yX12_is ∈ ea_tbl := ea_in (List.mem_of_getElem? (i := 73) (by decide +kernel)) rfl
theorem ew_74 : Cond.selects RX12 yX12_aLine yX12_aLine ∈ ea_tbl := ea_in (List.mem_of_getElem? (i := 74) (by decide +kernel)) rfl
theorem ew_75 : Cond.selects RX12 yX12_bad yX12_bad ∈ ea_tbl := ea_in (List.mem_of_getElem? (i := 75) (by decide +kernel)) rfl
theorem ew_76 : Cond.selects RX12 yX12_inner yX12_inner ∈ ea_tbl := ea_in (List.mem_of_getElem? (i := 76) (by decide +kernel)) rfl
theorem ew_77 : Cond.selects RX12 yX12_aCharge yX12_aCharge ∈ ea_tbl := ea_in (List.mem_of_getElem? (i := 77) (by decide +kernel)) rfl
theorem ew_78 : Cond.selects RX12 yX12_sumOf yX12_sumOf ∈ ea_tbl := ea_in (List.mem_of_getElem? (i := 78) (by decide +kernel)) rfl
theorem ew_79 : Cond.selects RX12 yX12_product yX12_product ∈ ea_tbl := ea_in (List.mem_of_getElem? (i := 79) (by decide +kernel)) rfl
theorem ew_80 : Cond.selects RX12 yX12_unit yX12_unit ∈ ea_tbl := ea_in (List.mem_of_getElem? (i := 80) (by decide +kernel)) rfl
theorem ew_81 : Cond.selects RX12 yX12_opens yX12_opens ∈ ea_tbl := ea_in (List.mem_of_getElem? (i := 81) (by decide +kernel)) rfl
theorem ew_82 : Cond.selects RX12 yX12_need yX12_need ∈ ea_tbl := ea_in (List.mem_of_getElem? (i := 82) (by decide +kernel)) rfl
theorem ew_83 : Cond.selects RX12 yX12_lay yX12_lay ∈ ea_tbl := ea_in (List.mem_of_getElem? (i := 83) (by decide +kernel)) rfl
theorem ew_84 : Cond.selects RX12 yX12_any yX12_any ∈ ea_tbl := ea_in (List.mem_of_getElem? (i := 84) (by decide +kernel)) rfl
theorem ew_85 : Cond.selects RX12 yX12_all yX12_all ∈ ea_tbl := ea_in (List.mem_of_getElem? (i := 85) (by decide +kernel)) rfl
theorem ew_86 : Cond.selects RX12 yX12_one yX12_one ∈ ea_tbl := ea_in (List.mem_of_getElem? (i := 86) (by decide +kernel)) rfl
theorem ew_87 : Cond.selects RX12 yX12_aNumber yX12_aNumber ∈ ea_tbl := ea_in (List.mem_of_getElem? (i := 87) (by decide +kernel)) rfl
theorem ew_88 : Cond.selects RX12 yX12_actOn yX12_actOn ∈ ea_tbl := ea_in (List.mem_of_getElem? (i := 88) (by decide +kernel)) rfl
theorem ew_89 : Cond.selects RX12 yX12_isCross yX12_isCross ∈ ea_tbl := ea_in (List.mem_of_getElem? (i := 89) (by decide +kernel)) rfl
theorem ew_90 : Cond.selects RX12 yX12_isFree yX12_isFree ∈ ea_tbl := ea_in (List.mem_of_getElem? (i := 90) (by decide +kernel)) rfl
theorem ew_91 : Cond.selects RX12 yX12_chargeBy yX12_chargeBy ∈ ea_tbl := ea_in (List.mem_of_getElem? (i := 91) (by decide +kernel)) rfl
theorem ew_92 : Cond.selects RX12 yX12_lineOf yX12_lineOf ∈ ea_tbl := ea_in (List.mem_of_getElem? (i := 92) (by decide +kernel)) rfl
theorem ew_93 : Cond.selects RX12 yX12_gathers yX12_gathers ∈ ea_tbl := ea_in (List.mem_of_getElem? (i := 93) (by decide +kernel)) rfl
theorem ew_94 : Cond.selects RX12 yX12_comesTo yX12_comesTo ∈ ea_tbl := ea_in (List.mem_of_getElem? (i := 94) (by decide +kernel)) rfl
theorem ew_95 : Cond.selects RX12 yX12_turns yX12_turns ∈ ea_tbl := ea_in (List.mem_of_getElem? (i := 95) (by decide +kernel)) rfl
theorem ew_96 : Cond.selects RX12 yX12_isLetterOf yX12_isLetterOf ∈ ea_tbl := ea_in (List.mem_of_getElem? (i := 96) (by decide +kernel)) rfl
theorem ew_97 : Cond.selects RX12 yX12_owed yX12_owed ∈ ea_tbl := ea_in (List.mem_of_getElem? (i := 97) (by decide +kernel)) rfl
theorem ew_98 : Cond.selects RX12 yX12_isOwed yX12_isOwed ∈ ea_tbl := ea_in (List.mem_of_getElem? (i := 98) (by decide +kernel)) rfl
theorem ew_99 : Cond.selects RX12 yX12_leadsOn yX12_leadsOn ∈ ea_tbl := ea_in (List.mem_of_getElem? (i := 99) (by decide +kernel)) rfl
theorem ew_100 : Cond.selects RX12 yX12_begins yX12_begins ∈ ea_tbl := ea_in (List.mem_of_getElem? (i := 100) (by decide +kernel)) rfl
theorem ew_101 : Cond.selects RX12 yX12_coming yX12_coming ∈ ea_tbl := ea_in (List.mem_of_getElem? (i := 101) (by decide +kernel)) rfl
theorem ew_102 : Cond.selects RX12 yX12_isAboard yX12_isAboard ∈ ea_tbl := ea_in (List.mem_of_getElem? (i := 102) (by decide +kernel)) rfl
theorem ew_103 : Cond.selects RX12 yX12_putsDown yX12_putsDown ∈ ea_tbl := ea_in (List.mem_of_getElem? (i := 103) (by decide +kernel)) rfl
theorem ew_104 : Cond.selects RX12 yX12_leaves yX12_leaves ∈ ea_tbl := ea_in (List.mem_of_getElem? (i := 104) (by decide +kernel)) rfl
theorem ew_105 : Cond.selects RX12 yX12_sorts yX12_sorts ∈ ea_tbl := ea_in (List.mem_of_getElem? (i := 105) (by decide +kernel)) rfl
theorem ew_106 : Cond.selects RX12 yX12_gone yX12_gone ∈ ea_tbl := ea_in (List.mem_of_getElem? (i := 106) (by decide +kernel)) rfl
theorem ew_107 : Cond.selects RX12 yX12_isOf yX12_isOf ∈ ea_tbl := ea_in (List.mem_of_getElem? (i := 107) (by decide +kernel)) rfl
theorem ew_108 : Cond.selects RX12 yX12_ordered yX12_ordered ∈ ea_tbl := ea_in (List.mem_of_getElem? (i := 108) (by decide +kernel)) rfl
theorem ew_109 : Cond.selects RX12 yX12_shows yX12_shows ∈ ea_tbl := ea_in (List.mem_of_getElem? (i := 109) (by decide +kernel)) rfl
theorem ew_110 : Cond.selects RX12 yX12_mayShow yX12_mayShow ∈ ea_tbl := ea_in (List.mem_of_getElem? (i := 110) (by decide +kernel)) rfl
theorem ew_111 : Cond.selects RX12 yX12_sums yX12_sums ∈ ea_tbl := ea_in (List.mem_of_getElem? (i := 111) (by decide +kernel)) rfl
theorem ew_112 : Cond.selects RX12 yX12_keeps yX12_keeps ∈ ea_tbl := ea_in (List.mem_of_getElem? (i := 112) (by decide +kernel)) rfl
theorem ew_113 : Cond.selects RX12 yX12_putsBack yX12_putsBack ∈ ea_tbl := ea_in (List.mem_of_getElem? (i := 113) (by decide +kernel)) rfl
theorem ew_115 : Cond.initialized RX11 ∈ ea_tbl := ea_in (et_1 (List.mem_of_getElem? (i := 1) (by decide +kernel))) rfl
theorem ew_116 : Cond.initialized RX7 ∈ ea_tbl := ea_in (et_1 (List.mem_of_getElem? (i := 2) (by decide +kernel))) rfl
theorem ew_117 : Cond.initialized RJ7 ∈ ea_tbl := ea_in (et_1 (List.mem_of_getElem? (i := 3) (by decide +kernel))) rfl
theorem ew_118 : Cond.initialized "java/lang/System" ∈ ea_tbl := ea_in (et_1 (List.mem_of_getElem? (i := 4) (by decide +kernel))) rfl
theorem ew_119 : Cond.initialized RJ9 ∈ ea_tbl := ea_in (et_1 (List.mem_of_getElem? (i := 5) (by decide +kernel))) rfl
theorem ew_120 : Cond.initialized RX9 ∈ ea_tbl := ea_in (et_1 (List.mem_of_getElem? (i := 6) (by decide +kernel))) rfl
theorem ew_121 : Cond.initialized RX10 ∈ ea_tbl := ea_in (et_1 (List.mem_of_getElem? (i := 7) (by decide +kernel))) rfl
theorem ew_122 : Cond.initialized RX3 ∈ ea_tbl := ea_in (et_1 (List.mem_of_getElem? (i := 8) (by decide +kernel))) rfl
theorem ew_123 : Cond.initialized RX8 ∈ ea_tbl := ea_in (et_1 (List.mem_of_getElem? (i := 9) (by decide +kernel))) rfl
theorem ew_124 : Cond.initialized RX6 ∈ ea_tbl := ea_in (et_1 (List.mem_of_getElem? (i := 10) (by decide +kernel))) rfl
theorem ew_125 : Cond.initialized RX0 ∈ ea_tbl := ea_in (et_1 (List.mem_of_getElem? (i := 11) (by decide +kernel))) rfl
theorem ew_126 : Cond.initialized RX4 ∈ ea_tbl := ea_in (et_1 (List.mem_of_getElem? (i := 12) (by decide +kernel))) rfl
theorem ew_127 : Cond.initialized RX1 ∈ ea_tbl := ea_in (et_1 (List.mem_of_getElem? (i := 13) (by decide +kernel))) rfl
theorem ew_128 : Cond.initialized RX5 ∈ ea_tbl := ea_in (et_1 (List.mem_of_getElem? (i := 14) (by decide +kernel))) rfl
theorem ew_129 : Cond.initialized RX2 ∈ ea_tbl := ea_in (et_1 (List.mem_of_getElem? (i := 15) (by decide +kernel))) rfl
theorem ew_130 : Cond.initialized RX12 ∈ ea_tbl := ea_in (et_1 (List.mem_of_getElem? (i := 16) (by decide +kernel))) rfl
theorem ew_131 : Cond.initialized RJ0 ∈ ea_tbl := ea_in (et_1 (List.mem_of_getElem? (i := 17) (by decide +kernel))) rfl
theorem ew_132 : Cond.initialized RJ1 ∈ ea_tbl := ea_in (et_1 (List.mem_of_getElem? (i := 18) (by decide +kernel))) rfl
theorem ew_133 : Cond.initialized RJ3 ∈ ea_tbl := ea_in (et_1 (List.mem_of_getElem? (i := 19) (by decide +kernel))) rfl
theorem ew_134 : Cond.initialized RJ2 ∈ ea_tbl := ea_in (et_1 (List.mem_of_getElem? (i := 20) (by decide +kernel))) rfl
theorem ew_139 : Cond.code yX11_init cX11_init 2 none ∈ ea_tbl := ea_in (et_1 (List.mem_of_getElem? (i := 25) rfl)) rfl
theorem ew_140 : Cond.methodLink RX11 3 Lib.objectInit ∈ ea_tbl := ea_in (et_1 (List.mem_of_getElem? (i := 26) (by decide +kernel))) rfl
theorem ew_141 : Cond.instanceMethod Lib.objectInit ∈ ea_tbl := ea_in (et_1 (List.mem_of_getElem? (i := 27) (by decide +kernel))) rfl
theorem ew_142 : Cond.code Lib.objectInit ⟨#[0xb1]⟩ 1 none ∈ ea_tbl := ea_in (et_1 (List.mem_of_getElem? (i := 28) rfl)) rfl
theorem ew_143 : Cond.classLink RX11 9 RX7 ∈ ea_tbl := ea_in (et_1 (List.mem_of_getElem? (i := 29) (by decide +kernel))) rfl
theorem ew_144 : Cond.instantiable RX7 4 ∈ ea_tbl := ea_in (et_1 (List.mem_of_getElem? (i := 30) (by decide +kernel))) rfl
theorem ew_145 : Cond.methodLink RX11 11 yX7_init ∈ ea_tbl := ea_in (et_1 (List.mem_of_getElem? (i := 31) (by decide +kernel))) rfl
theorem ew_146 : Cond.instanceMethod yX7_init ∈ ea_tbl := ea_in (et_1 (List.mem_of_getElem? (i := 32) (by decide +kernel))) rfl
theorem ew_147 : Cond.code yX7_init cX7_init 2 none ∈ ea_tbl := ea_in (et_1 (List.mem_of_getElem? (i := 33) rfl)) rfl
theorem ew_148 : Cond.methodLink RX7 3 Lib.objectInit ∈ ea_tbl := ea_in (et_1 (List.mem_of_getElem? (i := 34) (by decide +kernel))) rfl
theorem ew_149 : Cond.constant RX7 21 1000000 ∈ ea_tbl := ea_in (et_1 (List.mem_of_getElem? (i := 35) (by decide +kernel))) rfl
theorem ew_150 : Cond.methodLink RX7 22 yJ7_fill_53178 ∈ ea_tbl := ea_in (et_1 (List.mem_of_getElem? (i := 36) (by decide +kernel))) rfl
theorem ew_151 : Cond.static yJ7_fill_53178 ∈ ea_tbl := ea_in (et_1 (List.mem_of_getElem? (i := 37) (by decide +kernel))) rfl
theorem ew_152 : Cond.code yJ7_fill_53178 cJ7_fill_53178 4 none ∈ ea_tbl := ea_in (et_1 (List.mem_of_getElem? (i := 38) rfl)) rfl
theorem ew_153 : Cond.methodLink RX7 28 yX7_reckon ∈ ea_tbl := ea_in (et_1 (List.mem_of_getElem? (i := 39) (by decide +kernel))) rfl
theorem ew_155 : Cond.instanceMethod yX7_reckon ∈ ea_tbl := ea_in (et_1 (List.mem_of_getElem? (i := 41) (by decide +kernel))) rfl
theorem ew_156 : Cond.code yX7_reckon cX7_reckon 7 none ∈ ea_tbl := ea_in (et_1 (List.mem_of_getElem? (i := 42) rfl)) rfl
theorem ew_157 : Cond.methodLink RX7 35 arraycopyName ∈ ea_tbl := ea_in (et_1 (List.mem_of_getElem? (i := 43) (by decide +kernel))) rfl
theorem ew_158 : Cond.static arraycopyName ∈ ea_tbl := ea_in (et_1 (List.mem_of_getElem? (i := 44) (by decide +kernel))) rfl
theorem ew_159 : Cond.native arraycopyName ∈ ea_tbl := ea_in (et_1 (List.mem_of_getElem? (i := 45) (by decide +kernel))) rfl
theorem ew_160 : Cond.methodLink RX7 41 yJ9_min_7cf53 ∈ ea_tbl := ea_in (et_1 (List.mem_of_getElem? (i := 46) (by decide +kernel))) rfl
theorem ew_161 : Cond.static yJ9_min_7cf53 ∈ ea_tbl := ea_in (et_1 (List.mem_of_getElem? (i := 47) (by decide +kernel))) rfl
theorem ew_162 : Cond.code yJ9_min_7cf53 cJ9_min_7cf53 2 (some .int) ∈ ea_tbl := ea_in (et_1 (List.mem_of_getElem? (i := 48) rfl)) rfl
theorem ew_163 : Cond.fieldLink RX11 91 RX7 "count" "I" ∈ ea_tbl := ea_in (et_1 (List.mem_of_getElem? (i := 49) (by decide +kernel))) rfl
theorem ew_164 : Cond.fieldLink RX7 31 RX7 "count" "I" ∈ ea_tbl := ea_in (et_1 (List.mem_of_getElem? (i := 50) (by decide +kernel))) rfl
theorem ew_165 : Cond.fieldLink RX7 9 RX7 "direct" "[I" ∈ ea_tbl := ea_in (et_1 (List.mem_of_getElem? (i := 51) (by decide +kernel))) rfl
theorem ew_166 : Cond.fieldLink RX7 15 RX7 "least" "[I" ∈ ea_tbl := ea_in (et_1 (List.mem_of_getElem? (i := 52) (by decide +kernel))) rfl
theorem ew_167 : Cond.fieldLink RX7 18 RX7 "roundCapital" "[I" ∈ ea_tbl := ea_in (et_1 (List.mem_of_getElem? (i := 53) (by decide +kernel))) rfl
theorem ew_177 : Cond.arrayClass .int ∈ ea_tbl := ea_in (et_1 (List.mem_of_getElem? (i := 63) (by decide +kernel))) rfl
theorem ew_178 : Cond.classLink RX11 16 RX9 ∈ ea_tbl := ea_in (et_1 (List.mem_of_getElem? (i := 64) (by decide +kernel))) rfl
theorem ew_179 : Cond.instantiable RX9 8 ∈ ea_tbl := ea_in (et_1 (List.mem_of_getElem? (i := 65) (by decide +kernel))) rfl
theorem ew_180 : Cond.methodLinkNest RX11 18 yX9_init RX11 ∈ ea_nl := ea_nin (et_1 (List.mem_of_getElem? (i := 66) (by decide +kernel))) rfl
theorem ew_181 : Cond.instanceMethod yX9_init ∈ ea_tbl := ea_in (et_1 (List.mem_of_getElem? (i := 67) (by decide +kernel))) rfl
theorem ew_182 : Cond.code yX9_init cX9_init 1 none ∈ ea_tbl := ea_in (et_1 (List.mem_of_getElem? (i := 68) rfl)) rfl
theorem ew_183 : Cond.methodLink RX9 3 Lib.objectInit ∈ ea_tbl := ea_in (et_1 (List.mem_of_getElem? (i := 69) (by decide +kernel))) rfl
theorem ew_184 : Cond.fieldLink RX9 34 RX9 "trains" "I" ∈ ea_tbl := ea_in (et_1 (List.mem_of_getElem? (i := 70) (by decide +kernel))) rfl
theorem ew_185 : Cond.fieldLink RX11 107 RX9 "trains" "I" ∈ ea_tbl := ea_in (et_1 (List.mem_of_getElem? (i := 71) (by decide +kernel))) rfl
theorem ew_186 : Cond.fieldLink RX10 96 RX9 "trains" "I" ∈ ea_tbl := ea_in (et_1 (List.mem_of_getElem? (i := 72) (by decide +kernel))) rfl
theorem ew_187 : Cond.fieldLink RX9 9 RX9 "stops" "[I" ∈ ea_tbl := ea_in (et_1 (List.mem_of_getElem? (i := 73) (by decide +kernel))) rfl
theorem ew_188 : Cond.fieldLink RX11 125 RX9 "stops" "[I" ∈ ea_tbl := ea_in (et_1 (List.mem_of_getElem? (i := 74) (by decide +kernel))) rfl
theorem ew_189 : Cond.fieldLink RX1 132 RX9 "stops" "[I" ∈ ea_tbl := ea_in (et_1 (List.mem_of_getElem? (i := 75) (by decide +kernel))) rfl
theorem ew_190 : Cond.fieldLink RX10 99 RX9 "stops" "[I" ∈ ea_tbl := ea_in (et_1 (List.mem_of_getElem? (i := 76) (by decide +kernel))) rfl
theorem ew_191 : Cond.fieldLink RX9 15 RX9 "town" "[I" ∈ ea_tbl := ea_in (et_1 (List.mem_of_getElem? (i := 77) (by decide +kernel))) rfl
theorem ew_192 : Cond.fieldLink RX4 92 RX9 "town" "[I" ∈ ea_tbl := ea_in (et_1 (List.mem_of_getElem? (i := 78) (by decide +kernel))) rfl
theorem ew_193 : Cond.fieldLink RX11 128 RX9 "town" "[I" ∈ ea_tbl := ea_in (et_1 (List.mem_of_getElem? (i := 79) (by decide +kernel))) rfl
theorem ew_194 : Cond.fieldLink RX1 135 RX9 "town" "[I" ∈ ea_tbl := ea_in (et_1 (List.mem_of_getElem? (i := 80) (by decide +kernel))) rfl
theorem ew_195 : Cond.fieldLink RX10 53 RX9 "town" "[I" ∈ ea_tbl := ea_in (et_1 (List.mem_of_getElem? (i := 81) (by decide +kernel))) rfl
theorem ew_196 : Cond.fieldLink RX9 18 RX9 "comes" "[I" ∈ ea_tbl := ea_in (et_1 (List.mem_of_getElem? (i := 82) (by decide +kernel))) rfl
theorem ew_197 : Cond.fieldLink RX11 131 RX9 "comes" "[I" ∈ ea_tbl := ea_in (et_1 (List.mem_of_getElem? (i := 83) (by decide +kernel))) rfl
theorem ew_198 : Cond.fieldLink RX1 161 RX9 "comes" "[I" ∈ ea_tbl := ea_in (et_1 (List.mem_of_getElem? (i := 84) (by decide +kernel))) rfl
theorem ew_199 : Cond.fieldLink RX9 21 RX9 "goes" "[I" ∈ ea_tbl := ea_in (et_1 (List.mem_of_getElem? (i := 85) (by decide +kernel))) rfl
theorem ew_200 : Cond.fieldLink RX11 134 RX9 "goes" "[I" ∈ ea_tbl := ea_in (et_1 (List.mem_of_getElem? (i := 86) (by decide +kernel))) rfl
theorem ew_201 : Cond.fieldLink RX1 163 RX9 "goes" "[I" ∈ ea_tbl := ea_in (et_1 (List.mem_of_getElem? (i := 87) (by decide +kernel))) rfl
theorem ew_202 : Cond.fieldLink RX9 24 RX9 "fast" "[Z" ∈ ea_tbl := ea_in (et_1 (List.mem_of_getElem? (i := 88) (by decide +kernel))) rfl
theorem ew_203 : Cond.fieldLink RX11 137 RX9 "fast" "[Z" ∈ ea_tbl := ea_in (et_1 (List.mem_of_getElem? (i := 89) (by decide +kernel))) rfl
theorem ew_204 : Cond.fieldLink RX9 28 RX9 "delay" "[I" ∈ ea_tbl := ea_in (et_1 (List.mem_of_getElem? (i := 90) (by decide +kernel))) rfl
theorem ew_205 : Cond.fieldLink RX11 145 RX9 "delay" "[I" ∈ ea_tbl := ea_in (et_1 (List.mem_of_getElem? (i := 91) (by decide +kernel))) rfl
theorem ew_206 : Cond.fieldLink RX9 31 RX9 "missed" "[I" ∈ ea_tbl := ea_in (et_1 (List.mem_of_getElem? (i := 92) (by decide +kernel))) rfl
theorem ew_207 : Cond.fieldLink RX11 159 RX9 "missed" "[I" ∈ ea_tbl := ea_in (et_1 (List.mem_of_getElem? (i := 93) (by decide +kernel))) rfl
theorem ew_225 : Cond.arrayClass .boolean ∈ ea_tbl := ea_in (et_1 (List.mem_of_getElem? (i := 111) (by decide +kernel))) rfl
theorem ew_226 : Cond.classLink RX11 23 RX10 ∈ ea_tbl := ea_in (et_1 (List.mem_of_getElem? (i := 112) (by decide +kernel))) rfl
theorem ew_227 : Cond.instantiable RX10 7 ∈ ea_tbl := ea_in (et_1 (List.mem_of_getElem? (i := 113) (by decide +kernel))) rfl
theorem ew_228 : Cond.methodLink RX11 25 yX10_init ∈ ea_tbl := ea_in (et_1 (List.mem_of_getElem? (i := 114) (by decide +kernel))) rfl
theorem ew_229 : Cond.instanceMethod yX10_init ∈ ea_tbl := ea_in (et_1 (List.mem_of_getElem? (i := 115) (by decide +kernel))) rfl
theorem ew_230 : Cond.code yX10_init cX10_init 2 none ∈ ea_tbl := ea_in (et_1 (List.mem_of_getElem? (i := 116) rfl)) rfl
theorem ew_231 : Cond.methodLink RX10 3 Lib.objectInit ∈ ea_tbl := ea_in (et_1 (List.mem_of_getElem? (i := 117) (by decide +kernel))) rfl
theorem ew_232 : Cond.fieldLink RX10 29 RX10 "fresh" "Z" ∈ ea_tbl := ea_in (et_1 (List.mem_of_getElem? (i := 118) (by decide +kernel))) rfl
theorem ew_233 : Cond.fieldLink RX11 461 RX10 "fresh" "Z" ∈ ea_tbl := ea_in (et_1 (List.mem_of_getElem? (i := 119) (by decide +kernel))) rfl
theorem ew_234 : Cond.fieldLink RX4 69 RX10 "count" "I" ∈ ea_tbl := ea_in (et_1 (List.mem_of_getElem? (i := 120) (by decide +kernel))) rfl
theorem ew_235 : Cond.fieldLink RX10 42 RX10 "count" "I" ∈ ea_tbl := ea_in (et_1 (List.mem_of_getElem? (i := 121) (by decide +kernel))) rfl
theorem ew_236 : Cond.fieldLink RX1 89 RX10 "count" "I" ∈ ea_tbl := ea_in (et_1 (List.mem_of_getElem? (i := 122) (by decide +kernel))) rfl
theorem ew_237 : Cond.fieldLink RX10 25 RX10 "table" "LInlandMails$Table;" ∈ ea_tbl := ea_in (et_1 (List.mem_of_getElem? (i := 123) (by decide +kernel))) rfl
theorem ew_238 : Cond.fieldLink RX10 11 RX10 "keys" "[I" ∈ ea_tbl := ea_in (et_1 (List.mem_of_getElem? (i := 124) (by decide +kernel))) rfl
theorem ew_239 : Cond.fieldLink RX10 15 RX10 "leaves" "[J" ∈ ea_tbl := ea_in (et_1 (List.mem_of_getElem? (i := 125) (by decide +kernel))) rfl
theorem ew_240 : Cond.fieldLink RX10 19 RX10 "ride" "[J" ∈ ea_tbl := ea_in (et_1 (List.mem_of_getElem? (i := 126) (by decide +kernel))) rfl
theorem ew_241 : Cond.fieldLink RX10 22 RX10 "stay" "[J" ∈ ea_tbl := ea_in (et_1 (List.mem_of_getElem? (i := 127) (by decide +kernel))) rfl
theorem ew_257 : Cond.arrayClass .long ∈ ea_tbl := ea_in (et_1 (List.mem_of_getElem? (i := 143) (by decide +kernel))) rfl
theorem ew_258 : Cond.classLink RX11 32 RX3 ∈ ea_tbl := ea_in (et_1 (List.mem_of_getElem? (i := 144) (by decide +kernel))) rfl
theorem ew_259 : Cond.instantiable RX3 5 ∈ ea_tbl := ea_in (et_1 (List.mem_of_getElem? (i := 145) (by decide +kernel))) rfl
theorem ew_260 : Cond.methodLinkNest RX11 34 yX3_init RX11 ∈ ea_nl := ea_nin (et_1 (List.mem_of_getElem? (i := 146) (by decide +kernel))) rfl
theorem ew_261 : Cond.instanceMethod yX3_init ∈ ea_tbl := ea_in (et_1 (List.mem_of_getElem? (i := 147) (by decide +kernel))) rfl
theorem ew_262 : Cond.code yX3_init cX3_init 1 none ∈ ea_tbl := ea_in (et_1 (List.mem_of_getElem? (i := 148) rfl)) rfl
theorem ew_263 : Cond.methodLink RX3 3 Lib.objectInit ∈ ea_tbl := ea_in (et_1 (List.mem_of_getElem? (i := 149) (by decide +kernel))) rfl
theorem ew_264 : Cond.fieldLink RX3 24 RX3 "count" "I" ∈ ea_tbl := ea_in (et_1 (List.mem_of_getElem? (i := 150) (by decide +kernel))) rfl
theorem ew_265 : Cond.fieldLink RX11 174 RX3 "count" "I" ∈ ea_tbl := ea_in (et_1 (List.mem_of_getElem? (i := 151) (by decide +kernel))) rfl
theorem ew_266 : Cond.fieldLink RX3 9 RX3 "seat" "[I" ∈ ea_tbl := ea_in (et_1 (List.mem_of_getElem? (i := 152) (by decide +kernel))) rfl
theorem ew_267 : Cond.fieldLink RX11 367 RX3 "seat" "[I" ∈ ea_tbl := ea_in (et_1 (List.mem_of_getElem? (i := 153) (by decide +kernel))) rfl
theorem ew_268 : Cond.fieldLink RX3 15 RX3 "speed" "[I" ∈ ea_tbl := ea_in (et_1 (List.mem_of_getElem? (i := 154) (by decide +kernel))) rfl
theorem ew_269 : Cond.fieldLink RX3 18 RX3 "knows" "[I" ∈ ea_tbl := ea_in (et_1 (List.mem_of_getElem? (i := 155) (by decide +kernel))) rfl
theorem ew_270 : Cond.fieldLink RX3 21 RX3 "time" "[I" ∈ ea_tbl := ea_in (et_1 (List.mem_of_getElem? (i := 156) (by decide +kernel))) rfl
theorem ew_282 : Cond.classLink RX11 39 RX8 ∈ ea_tbl := ea_in (et_1 (List.mem_of_getElem? (i := 168) (by decide +kernel))) rfl
theorem ew_283 : Cond.instantiable RX8 5 ∈ ea_tbl := ea_in (et_1 (List.mem_of_getElem? (i := 169) (by decide +kernel))) rfl
theorem ew_284 : Cond.methodLink RX11 41 yX8_init ∈ ea_tbl := ea_in (et_1 (List.mem_of_getElem? (i := 170) (by decide +kernel))) rfl
theorem ew_285 : Cond.instanceMethod yX8_init ∈ ea_tbl := ea_in (et_1 (List.mem_of_getElem? (i := 171) (by decide +kernel))) rfl
theorem ew_286 : Cond.code yX8_init cX8_init 2 none ∈ ea_tbl := ea_in (et_1 (List.mem_of_getElem? (i := 172) rfl)) rfl
theorem ew_287 : Cond.methodLink RX8 3 Lib.objectInit ∈ ea_tbl := ea_in (et_1 (List.mem_of_getElem? (i := 173) (by decide +kernel))) rfl
theorem ew_288 : Cond.classLink RX8 9 RX6 ∈ ea_tbl := ea_in (et_1 (List.mem_of_getElem? (i := 174) (by decide +kernel))) rfl
theorem ew_289 : Cond.instantiable RX6 10 ∈ ea_tbl := ea_in (et_1 (List.mem_of_getElem? (i := 175) (by decide +kernel))) rfl
theorem ew_290 : Cond.methodLinkNest RX8 11 yX6_init RX11 ∈ ea_nl := ea_nin (et_1 (List.mem_of_getElem? (i := 176) (by decide +kernel))) rfl
theorem ew_291 : Cond.instanceMethod yX6_init ∈ ea_tbl := ea_in (et_1 (List.mem_of_getElem? (i := 177) (by decide +kernel))) rfl
theorem ew_292 : Cond.code yX6_init cX6_init 1 none ∈ ea_tbl := ea_in (et_1 (List.mem_of_getElem? (i := 178) rfl)) rfl
theorem ew_293 : Cond.methodLink RX6 7 Lib.objectInit ∈ ea_tbl := ea_in (et_1 (List.mem_of_getElem? (i := 179) (by decide +kernel))) rfl
theorem ew_294 : Cond.fieldLink RX6 28 RX6 "length" "I" ∈ ea_tbl := ea_in (et_1 (List.mem_of_getElem? (i := 180) (by decide +kernel))) rfl
theorem ew_295 : Cond.fieldLink RX11 180 RX6 "length" "I" ∈ ea_tbl := ea_in (et_1 (List.mem_of_getElem? (i := 181) (by decide +kernel))) rfl
theorem ew_296 : Cond.fieldLink RX6 31 RX6 "fault" "I" ∈ ea_tbl := ea_in (et_1 (List.mem_of_getElem? (i := 182) (by decide +kernel))) rfl
theorem ew_297 : Cond.fieldLink RX11 206 RX6 "fault" "I" ∈ ea_tbl := ea_in (et_1 (List.mem_of_getElem? (i := 183) (by decide +kernel))) rfl
theorem ew_298 : Cond.fieldLink RX6 13 RX6 "faultPlace" "I" ∈ ea_tbl := ea_in (et_1 (List.mem_of_getElem? (i := 184) (by decide +kernel))) rfl
theorem ew_299 : Cond.fieldLink RX11 209 RX6 "faultPlace" "I" ∈ ea_tbl := ea_in (et_1 (List.mem_of_getElem? (i := 185) (by decide +kernel))) rfl
theorem ew_300 : Cond.fieldLink RX6 17 RX6 "tape" "[I" ∈ ea_tbl := ea_in (et_1 (List.mem_of_getElem? (i := 186) (by decide +kernel))) rfl
theorem ew_301 : Cond.fieldLink RX6 21 RX6 "tokens" "[I" ∈ ea_tbl := ea_in (et_1 (List.mem_of_getElem? (i := 187) (by decide +kernel))) rfl
theorem ew_302 : Cond.fieldLink RX6 129 RX6 "count" "I" ∈ ea_tbl := ea_in (et_1 (List.mem_of_getElem? (i := 188) (by decide +kernel))) rfl
theorem ew_303 : Cond.fieldLink RX6 43 RX6 "current" "I" ∈ ea_tbl := ea_in (et_1 (List.mem_of_getElem? (i := 189) (by decide +kernel))) rfl
theorem ew_304 : Cond.fieldLink RX6 46 RX6 "token" "I" ∈ ea_tbl := ea_in (et_1 (List.mem_of_getElem? (i := 190) (by decide +kernel))) rfl
theorem ew_305 : Cond.fieldLink RX6 24 RX6 "codes" "[J" ∈ ea_tbl := ea_in (et_1 (List.mem_of_getElem? (i := 191) (by decide +kernel))) rfl
theorem ew_306 : Cond.fieldLink RX6 34 RX6 "used" "I" ∈ ea_tbl := ea_in (et_1 (List.mem_of_getElem? (i := 192) (by decide +kernel))) rfl
theorem ew_328 : Cond.classLink RX8 18 RX0 ∈ ea_tbl := ea_in (et_1 (List.mem_of_getElem? (i := 214) (by decide +kernel))) rfl
theorem ew_329 : Cond.arrayOver (.object RX0) ∈ ea_nl := ea_nin (et_1 (List.mem_of_getElem? (i := 215) (by decide +kernel))) rfl
theorem ew_330 : Cond.instantiable RX0 11 ∈ ea_tbl := ea_in (et_1 (List.mem_of_getElem? (i := 216) (by decide +kernel))) rfl
theorem ew_331 : Cond.methodLinkNest RX8 31 yX0_init RX11 ∈ ea_nl := ea_nin (et_1 (List.mem_of_getElem? (i := 217) (by decide +kernel))) rfl
theorem ew_332 : Cond.instanceMethod yX0_init ∈ ea_tbl := ea_in (et_1 (List.mem_of_getElem? (i := 218) (by decide +kernel))) rfl
theorem ew_333 : Cond.code yX0_init cX0_init 1 none ∈ ea_tbl := ea_in (et_1 (List.mem_of_getElem? (i := 219) rfl)) rfl
theorem ew_334 : Cond.methodLink RX0 1 Lib.objectInit ∈ ea_tbl := ea_in (et_1 (List.mem_of_getElem? (i := 220) (by decide +kernel))) rfl
theorem ew_335 : Cond.fieldLink RX0 16 RX0 "day" "I" ∈ ea_tbl := ea_in (et_1 (List.mem_of_getElem? (i := 221) (by decide +kernel))) rfl
theorem ew_336 : Cond.fieldLink RX8 36 RX0 "day" "I" ∈ ea_tbl := ea_in (et_1 (List.mem_of_getElem? (i := 222) (by decide +kernel))) rfl
theorem ew_337 : Cond.fieldLink RX0 20 RX0 "lines" "I" ∈ ea_tbl := ea_in (et_1 (List.mem_of_getElem? (i := 223) (by decide +kernel))) rfl
theorem ew_338 : Cond.fieldLink RX6 53 RX0 "lines" "I" ∈ ea_tbl := ea_in (et_1 (List.mem_of_getElem? (i := 224) (by decide +kernel))) rfl
theorem ew_339 : Cond.fieldLink RX11 218 RX0 "lines" "I" ∈ ea_tbl := ea_in (et_1 (List.mem_of_getElem? (i := 225) (by decide +kernel))) rfl
theorem ew_340 : Cond.fieldLink RX0 23 RX0 "lateMore" "I" ∈ ea_tbl := ea_in (et_1 (List.mem_of_getElem? (i := 226) (by decide +kernel))) rfl
theorem ew_341 : Cond.fieldLink RX6 91 RX0 "lateMore" "I" ∈ ea_tbl := ea_in (et_1 (List.mem_of_getElem? (i := 227) (by decide +kernel))) rfl
theorem ew_342 : Cond.fieldLink RX8 109 RX0 "lateMore" "I" ∈ ea_tbl := ea_in (et_1 (List.mem_of_getElem? (i := 228) (by decide +kernel))) rfl
theorem ew_343 : Cond.fieldLink RX11 223 RX0 "lateMore" "I" ∈ ea_tbl := ea_in (et_1 (List.mem_of_getElem? (i := 229) (by decide +kernel))) rfl
theorem ew_344 : Cond.fieldLink RX0 26 RX0 "lateAfter" "I" ∈ ea_tbl := ea_in (et_1 (List.mem_of_getElem? (i := 230) (by decide +kernel))) rfl
theorem ew_345 : Cond.fieldLink RX6 94 RX0 "lateAfter" "I" ∈ ea_tbl := ea_in (et_1 (List.mem_of_getElem? (i := 231) (by decide +kernel))) rfl
theorem ew_346 : Cond.fieldLink RX8 106 RX0 "lateAfter" "I" ∈ ea_tbl := ea_in (et_1 (List.mem_of_getElem? (i := 232) (by decide +kernel))) rfl
theorem ew_347 : Cond.fieldLink RX11 226 RX0 "lateAfter" "I" ∈ ea_tbl := ea_in (et_1 (List.mem_of_getElem? (i := 233) (by decide +kernel))) rfl
theorem ew_348 : Cond.fieldLink RX0 29 RX0 "frank" "I" ∈ ea_tbl := ea_in (et_1 (List.mem_of_getElem? (i := 234) (by decide +kernel))) rfl
theorem ew_349 : Cond.fieldLink RX6 79 RX0 "frank" "I" ∈ ea_tbl := ea_in (et_1 (List.mem_of_getElem? (i := 235) (by decide +kernel))) rfl
theorem ew_350 : Cond.fieldLink RX8 124 RX0 "frank" "I" ∈ ea_tbl := ea_in (et_1 (List.mem_of_getElem? (i := 236) (by decide +kernel))) rfl
theorem ew_351 : Cond.fieldLink RX11 229 RX0 "frank" "I" ∈ ea_tbl := ea_in (et_1 (List.mem_of_getElem? (i := 237) (by decide +kernel))) rfl
theorem ew_352 : Cond.fieldLink RX0 32 RX0 "ship" "I" ∈ ea_tbl := ea_in (et_1 (List.mem_of_getElem? (i := 238) (by decide +kernel))) rfl
theorem ew_353 : Cond.fieldLink RX6 82 RX0 "ship" "I" ∈ ea_tbl := ea_in (et_1 (List.mem_of_getElem? (i := 239) (by decide +kernel))) rfl
theorem ew_354 : Cond.fieldLink RX8 115 RX0 "ship" "I" ∈ ea_tbl := ea_in (et_2 (List.mem_of_getElem? (i := 0) (by decide +kernel))) rfl
theorem ew_355 : Cond.fieldLink RX11 232 RX0 "ship" "I" ∈ ea_tbl := ea_in (et_2 (List.mem_of_getElem? (i := 1) (by decide +kernel))) rfl
theorem ew_356 : Cond.fieldLink RX0 35 RX0 "sign" "I" ∈ ea_tbl := ea_in (et_2 (List.mem_of_getElem? (i := 2) (by decide +kernel))) rfl
theorem ew_357 : Cond.fieldLink RX6 85 RX0 "sign" "I" ∈ ea_tbl := ea_in (et_2 (List.mem_of_getElem? (i := 3) (by decide +kernel))) rfl
theorem ew_358 : Cond.fieldLink RX8 118 RX0 "sign" "I" ∈ ea_tbl := ea_in (et_2 (List.mem_of_getElem? (i := 4) (by decide +kernel))) rfl
theorem ew_359 : Cond.fieldLink RX11 235 RX0 "sign" "I" ∈ ea_tbl := ea_in (et_2 (List.mem_of_getElem? (i := 5) (by decide +kernel))) rfl
theorem ew_360 : Cond.fieldLink RX0 38 RX0 "dead" "I" ∈ ea_tbl := ea_in (et_2 (List.mem_of_getElem? (i := 6) (by decide +kernel))) rfl
theorem ew_361 : Cond.fieldLink RX6 88 RX0 "dead" "I" ∈ ea_tbl := ea_in (et_2 (List.mem_of_getElem? (i := 7) (by decide +kernel))) rfl
theorem ew_362 : Cond.fieldLink RX8 60 RX0 "dead" "I" ∈ ea_tbl := ea_in (et_2 (List.mem_of_getElem? (i := 8) (by decide +kernel))) rfl
theorem ew_363 : Cond.fieldLink RX11 238 RX0 "dead" "I" ∈ ea_tbl := ea_in (et_2 (List.mem_of_getElem? (i := 9) (by decide +kernel))) rfl
theorem ew_364 : Cond.fieldLink RX0 41 RX0 "chargeLines" "I" ∈ ea_tbl := ea_in (et_2 (List.mem_of_getElem? (i := 10) (by decide +kernel))) rfl
theorem ew_365 : Cond.fieldLink RX6 97 RX0 "chargeLines" "I" ∈ ea_tbl := ea_in (et_2 (List.mem_of_getElem? (i := 11) (by decide +kernel))) rfl
theorem ew_366 : Cond.fieldLink RX8 131 RX0 "chargeLines" "I" ∈ ea_tbl := ea_in (et_2 (List.mem_of_getElem? (i := 12) (by decide +kernel))) rfl
theorem ew_367 : Cond.fieldLink RX0 9 RX0 "chargeAt" "[I" ∈ ea_tbl := ea_in (et_2 (List.mem_of_getElem? (i := 13) (by decide +kernel))) rfl
theorem ew_368 : Cond.fieldLink RX6 100 RX0 "chargeAt" "[I" ∈ ea_tbl := ea_in (et_2 (List.mem_of_getElem? (i := 14) (by decide +kernel))) rfl
theorem ew_369 : Cond.fieldLink RX8 87 RX0 "chargeAt" "[I" ∈ ea_tbl := ea_in (et_2 (List.mem_of_getElem? (i := 15) (by decide +kernel))) rfl
theorem ew_370 : Cond.fieldLink RX0 13 RX0 "whenAt" "[I" ∈ ea_tbl := ea_in (et_2 (List.mem_of_getElem? (i := 16) (by decide +kernel))) rfl
theorem ew_371 : Cond.fieldLink RX6 103 RX0 "whenAt" "[I" ∈ ea_tbl := ea_in (et_2 (List.mem_of_getElem? (i := 17) (by decide +kernel))) rfl
theorem ew_372 : Cond.fieldLink RX8 134 RX0 "whenAt" "[I" ∈ ea_tbl := ea_in (et_2 (List.mem_of_getElem? (i := 18) (by decide +kernel))) rfl
theorem ew_396 : Cond.fieldLink RX8 12 RX8 "reader" "LInlandMails$Reader;" ∈ ea_tbl := ea_in (et_2 (List.mem_of_getElem? (i := 42) (by decide +kernel))) rfl
theorem ew_397 : Cond.fieldLink RX11 176 RX8 "reader" "LInlandMails$Reader;" ∈ ea_tbl := ea_in (et_2 (List.mem_of_getElem? (i := 43) (by decide +kernel))) rfl
theorem ew_398 : Cond.fieldLink RX8 32 RX8 "count" "I" ∈ ea_tbl := ea_in (et_2 (List.mem_of_getElem? (i := 44) (by decide +kernel))) rfl
theorem ew_399 : Cond.fieldLink RX11 175 RX8 "count" "I" ∈ ea_tbl := ea_in (et_2 (List.mem_of_getElem? (i := 45) (by decide +kernel))) rfl
theorem ew_400 : Cond.fieldLink RX8 20 RX8 "acts" "[LInlandMails$Act;" ∈ ea_tbl := ea_in (et_2 (List.mem_of_getElem? (i := 46) (by decide +kernel))) rfl
theorem ew_401 : Cond.fieldLink RX8 24 RX8 "asked" "[I" ∈ ea_tbl := ea_in (et_2 (List.mem_of_getElem? (i := 47) (by decide +kernel))) rfl
theorem ew_402 : Cond.fieldLink RX8 28 RX8 "stack" "[I" ∈ ea_tbl := ea_in (et_2 (List.mem_of_getElem? (i := 48) (by decide +kernel))) rfl
theorem ew_414 : Cond.classLink RX11 46 RX5 ∈ ea_tbl := ea_in (et_2 (List.mem_of_getElem? (i := 60) (by decide +kernel))) rfl
theorem ew_415 : Cond.arrayOver (.object RX5) ∈ ea_nl := ea_nin (et_2 (List.mem_of_getElem? (i := 61) (by decide +kernel))) rfl
theorem ew_416 : Cond.classLink RX11 52 RX4 ∈ ea_tbl := ea_in (et_2 (List.mem_of_getElem? (i := 62) (by decide +kernel))) rfl
theorem ew_417 : Cond.instantiable RX4 4 ∈ ea_tbl := ea_in (et_2 (List.mem_of_getElem? (i := 63) (by decide +kernel))) rfl
theorem ew_418 : Cond.methodLink RX11 54 yX4_init ∈ ea_tbl := ea_in (et_2 (List.mem_of_getElem? (i := 64) (by decide +kernel))) rfl
theorem ew_419 : Cond.instanceMethod yX4_init ∈ ea_tbl := ea_in (et_2 (List.mem_of_getElem? (i := 65) (by decide +kernel))) rfl
theorem ew_420 : Cond.code yX4_init cX4_init 4 none ∈ ea_tbl := ea_in (et_2 (List.mem_of_getElem? (i := 66) rfl)) rfl
theorem ew_421 : Cond.methodLink RX4 5 Lib.objectInit ∈ ea_tbl := ea_in (et_2 (List.mem_of_getElem? (i := 67) (by decide +kernel))) rfl
theorem ew_422 : Cond.fieldLink RX4 11 RX4 "moved" "[J" ∈ ea_tbl := ea_in (et_2 (List.mem_of_getElem? (i := 68) (by decide +kernel))) rfl
theorem ew_423 : Cond.fieldLink RX4 15 RX4 "table" "LInlandMails$Table;" ∈ ea_tbl := ea_in (et_2 (List.mem_of_getElem? (i := 69) (by decide +kernel))) rfl
theorem ew_424 : Cond.fieldLink RX4 19 RX4 "ways" "LInlandMails$Ways;" ∈ ea_tbl := ea_in (et_2 (List.mem_of_getElem? (i := 70) (by decide +kernel))) rfl
theorem ew_425 : Cond.fieldLink RX4 23 RX4 "letters" "[LInlandMails$Letter;" ∈ ea_tbl := ea_in (et_2 (List.mem_of_getElem? (i := 71) (by decide +kernel))) rfl
theorem ew_435 : Cond.classLink RX11 61 RX1 ∈ ea_tbl := ea_in (et_2 (List.mem_of_getElem? (i := 81) (by decide +kernel))) rfl
theorem ew_436 : Cond.instantiable RX1 16 ∈ ea_tbl := ea_in (et_2 (List.mem_of_getElem? (i := 82) (by decide +kernel))) rfl
theorem ew_437 : Cond.methodLink RX11 63 yX1_init ∈ ea_tbl := ea_in (et_2 (List.mem_of_getElem? (i := 83) (by decide +kernel))) rfl
theorem ew_438 : Cond.instanceMethod yX1_init ∈ ea_tbl := ea_in (et_2 (List.mem_of_getElem? (i := 84) (by decide +kernel))) rfl
theorem ew_439 : Cond.code yX1_init cX1_init 6 none ∈ ea_tbl := ea_in (et_2 (List.mem_of_getElem? (i := 85) rfl)) rfl
theorem ew_440 : Cond.methodLink RX1 3 Lib.objectInit ∈ ea_tbl := ea_in (et_2 (List.mem_of_getElem? (i := 86) (by decide +kernel))) rfl
theorem ew_441 : Cond.fieldLink RX1 60 RX1 "count" "I" ∈ ea_tbl := ea_in (et_2 (List.mem_of_getElem? (i := 87) (by decide +kernel))) rfl
theorem ew_442 : Cond.fieldLink RX11 173 RX1 "count" "I" ∈ ea_tbl := ea_in (et_2 (List.mem_of_getElem? (i := 88) (by decide +kernel))) rfl
theorem ew_443 : Cond.fieldLink RX1 9 RX1 "state" "[I" ∈ ea_tbl := ea_in (et_2 (List.mem_of_getElem? (i := 89) (by decide +kernel))) rfl
theorem ew_444 : Cond.fieldLink RX11 278 RX1 "state" "[I" ∈ ea_tbl := ea_in (et_2 (List.mem_of_getElem? (i := 90) (by decide +kernel))) rfl
theorem ew_445 : Cond.fieldLink RX1 15 RX1 "place" "[I" ∈ ea_tbl := ea_in (et_2 (List.mem_of_getElem? (i := 91) (by decide +kernel))) rfl
theorem ew_446 : Cond.fieldLink RX11 299 RX1 "place" "[I" ∈ ea_tbl := ea_in (et_2 (List.mem_of_getElem? (i := 92) (by decide +kernel))) rfl
theorem ew_447 : Cond.fieldLink RX1 18 RX1 "goal" "[I" ∈ ea_tbl := ea_in (et_2 (List.mem_of_getElem? (i := 93) (by decide +kernel))) rfl
theorem ew_448 : Cond.fieldLink RX11 305 RX1 "goal" "[I" ∈ ea_tbl := ea_in (et_2 (List.mem_of_getElem? (i := 94) (by decide +kernel))) rfl
theorem ew_449 : Cond.fieldLink RX1 21 RX1 "left" "[I" ∈ ea_tbl := ea_in (et_2 (List.mem_of_getElem? (i := 95) (by decide +kernel))) rfl
theorem ew_450 : Cond.fieldLink RX11 308 RX1 "left" "[I" ∈ ea_tbl := ea_in (et_2 (List.mem_of_getElem? (i := 96) (by decide +kernel))) rfl
theorem ew_451 : Cond.fieldLink RX1 24 RX1 "sorted" "[Z" ∈ ea_tbl := ea_in (et_2 (List.mem_of_getElem? (i := 97) (by decide +kernel))) rfl
theorem ew_452 : Cond.fieldLink RX11 302 RX1 "sorted" "[Z" ∈ ea_tbl := ea_in (et_2 (List.mem_of_getElem? (i := 98) (by decide +kernel))) rfl
theorem ew_453 : Cond.fieldLink RX1 28 RX1 "leftBy" "[I" ∈ ea_tbl := ea_in (et_2 (List.mem_of_getElem? (i := 99) (by decide +kernel))) rfl
theorem ew_454 : Cond.fieldLink RX11 377 RX1 "leftBy" "[I" ∈ ea_tbl := ea_in (et_2 (List.mem_of_getElem? (i := 100) (by decide +kernel))) rfl
theorem ew_455 : Cond.fieldLink RX1 31 RX1 "since" "[I" ∈ ea_tbl := ea_in (et_2 (List.mem_of_getElem? (i := 101) (by decide +kernel))) rfl
theorem ew_456 : Cond.fieldLink RX1 34 RX1 "inHole" "[I" ∈ ea_tbl := ea_in (et_2 (List.mem_of_getElem? (i := 102) (by decide +kernel))) rfl
theorem ew_457 : Cond.fieldLink RX1 37 RX1 "aboard" "[I" ∈ ea_tbl := ea_in (et_2 (List.mem_of_getElem? (i := 103) (by decide +kernel))) rfl
theorem ew_458 : Cond.fieldLink RX1 64 RX1 "moving" "I" ∈ ea_tbl := ea_in (et_2 (List.mem_of_getElem? (i := 104) (by decide +kernel))) rfl
theorem ew_459 : Cond.fieldLink RX1 40 RX1 "table" "LInlandMails$Table;" ∈ ea_tbl := ea_in (et_2 (List.mem_of_getElem? (i := 105) (by decide +kernel))) rfl
theorem ew_460 : Cond.fieldLink RX1 44 RX1 "ways" "LInlandMails$Ways;" ∈ ea_tbl := ea_in (et_2 (List.mem_of_getElem? (i := 106) (by decide +kernel))) rfl
theorem ew_461 : Cond.fieldLink RX1 48 RX1 "crew" "LInlandMails$Crew;" ∈ ea_tbl := ea_in (et_2 (List.mem_of_getElem? (i := 107) (by decide +kernel))) rfl
theorem ew_462 : Cond.fieldLink RX1 52 RX1 "letters" "[LInlandMails$Letter;" ∈ ea_tbl := ea_in (et_2 (List.mem_of_getElem? (i := 108) (by decide +kernel))) rfl
theorem ew_463 : Cond.fieldLink RX1 56 RX1 "leads" "LInlandMails$Leads;" ∈ ea_tbl := ea_in (et_2 (List.mem_of_getElem? (i := 109) (by decide +kernel))) rfl
theorem ew_497 : Cond.classLink RX11 73 RX2 ∈ ea_tbl := ea_in (et_2 (List.mem_of_getElem? (i := 143) (by decide +kernel))) rfl
theorem ew_498 : Cond.arrayOver (.object RX2) ∈ ea_nl := ea_nin (et_2 (List.mem_of_getElem? (i := 144) (by decide +kernel))) rfl
theorem ew_499 : Cond.instantiable RX5 20 ∈ ea_tbl := ea_in (et_2 (List.mem_of_getElem? (i := 145) (by decide +kernel))) rfl
theorem ew_500 : Cond.methodLinkNest RX11 89 yX5_init RX11 ∈ ea_nl := ea_nin (et_2 (List.mem_of_getElem? (i := 146) (by decide +kernel))) rfl
theorem ew_501 : Cond.instanceMethod yX5_init ∈ ea_tbl := ea_in (et_2 (List.mem_of_getElem? (i := 147) (by decide +kernel))) rfl
theorem ew_502 : Cond.code yX5_init cX5_init 1 none ∈ ea_tbl := ea_in (et_2 (List.mem_of_getElem? (i := 148) rfl)) rfl
theorem ew_503 : Cond.methodLink RX5 3 Lib.objectInit ∈ ea_tbl := ea_in (et_2 (List.mem_of_getElem? (i := 149) (by decide +kernel))) rfl
theorem ew_504 : Cond.fieldLink RX5 25 RX5 "kind" "I" ∈ ea_tbl := ea_in (et_2 (List.mem_of_getElem? (i := 150) (by decide +kernel))) rfl
theorem ew_505 : Cond.fieldLink RX8 112 RX5 "kind" "I" ∈ ea_tbl := ea_in (et_2 (List.mem_of_getElem? (i := 151) (by decide +kernel))) rfl
theorem ew_506 : Cond.fieldLink RX11 281 RX5 "kind" "I" ∈ ea_tbl := ea_in (et_2 (List.mem_of_getElem? (i := 152) (by decide +kernel))) rfl
theorem ew_507 : Cond.fieldLink RX5 28 RX5 "from" "I" ∈ ea_tbl := ea_in (et_2 (List.mem_of_getElem? (i := 153) (by decide +kernel))) rfl
theorem ew_508 : Cond.fieldLink RX4 59 RX5 "from" "I" ∈ ea_tbl := ea_in (et_2 (List.mem_of_getElem? (i := 154) (by decide +kernel))) rfl
theorem ew_509 : Cond.fieldLink RX11 284 RX5 "from" "I" ∈ ea_tbl := ea_in (et_2 (List.mem_of_getElem? (i := 155) (by decide +kernel))) rfl
theorem ew_510 : Cond.fieldLink RX5 31 RX5 "to" "I" ∈ ea_tbl := ea_in (et_2 (List.mem_of_getElem? (i := 156) (by decide +kernel))) rfl
theorem ew_511 : Cond.fieldLink RX1 146 RX5 "to" "I" ∈ ea_tbl := ea_in (et_2 (List.mem_of_getElem? (i := 157) (by decide +kernel))) rfl
theorem ew_512 : Cond.fieldLink RX11 287 RX5 "to" "I" ∈ ea_tbl := ea_in (et_2 (List.mem_of_getElem? (i := 158) (by decide +kernel))) rfl
theorem ew_513 : Cond.fieldLink RX5 34 RX5 "sheets" "I" ∈ ea_tbl := ea_in (et_2 (List.mem_of_getElem? (i := 159) (by decide +kernel))) rfl
theorem ew_514 : Cond.fieldLink RX8 140 RX5 "sheets" "I" ∈ ea_tbl := ea_in (et_2 (List.mem_of_getElem? (i := 160) (by decide +kernel))) rfl
theorem ew_515 : Cond.fieldLink RX11 290 RX5 "sheets" "I" ∈ ea_tbl := ea_in (et_2 (List.mem_of_getElem? (i := 161) (by decide +kernel))) rfl
theorem ew_516 : Cond.fieldLink RX5 37 RX5 "weight" "I" ∈ ea_tbl := ea_in (et_2 (List.mem_of_getElem? (i := 162) (by decide +kernel))) rfl
theorem ew_517 : Cond.fieldLink RX8 143 RX5 "weight" "I" ∈ ea_tbl := ea_in (et_2 (List.mem_of_getElem? (i := 163) (by decide +kernel))) rfl
theorem ew_518 : Cond.fieldLink RX11 293 RX5 "weight" "I" ∈ ea_tbl := ea_in (et_2 (List.mem_of_getElem? (i := 164) (by decide +kernel))) rfl
theorem ew_519 : Cond.fieldLink RX5 40 RX5 "who" "I" ∈ ea_tbl := ea_in (et_2 (List.mem_of_getElem? (i := 165) (by decide +kernel))) rfl
theorem ew_520 : Cond.fieldLink RX11 296 RX5 "who" "I" ∈ ea_tbl := ea_in (et_2 (List.mem_of_getElem? (i := 166) (by decide +kernel))) rfl
theorem ew_521 : Cond.fieldLink RX5 43 RX5 "minute" "I" ∈ ea_tbl := ea_in (et_2 (List.mem_of_getElem? (i := 167) (by decide +kernel))) rfl
theorem ew_522 : Cond.fieldLink RX4 56 RX5 "minute" "I" ∈ ea_tbl := ea_in (et_2 (List.mem_of_getElem? (i := 168) (by decide +kernel))) rfl
theorem ew_523 : Cond.fieldLink RX8 103 RX5 "minute" "I" ∈ ea_tbl := ea_in (et_2 (List.mem_of_getElem? (i := 169) (by decide +kernel))) rfl
theorem ew_524 : Cond.fieldLink RX11 245 RX5 "minute" "I" ∈ ea_tbl := ea_in (et_2 (List.mem_of_getElem? (i := 170) (by decide +kernel))) rfl
theorem ew_525 : Cond.fieldLink RX8 137 RX5 "miles" "I" ∈ ea_tbl := ea_in (et_2 (List.mem_of_getElem? (i := 171) (by decide +kernel))) rfl
theorem ew_526 : Cond.fieldLink RX11 253 RX5 "miles" "I" ∈ ea_tbl := ea_in (et_2 (List.mem_of_getElem? (i := 172) (by decide +kernel))) rfl
theorem ew_527 : Cond.fieldLink RX8 146 RX5 "cross" "Z" ∈ ea_tbl := ea_in (et_2 (List.mem_of_getElem? (i := 173) (by decide +kernel))) rfl
theorem ew_528 : Cond.fieldLink RX11 259 RX5 "cross" "Z" ∈ ea_tbl := ea_in (et_2 (List.mem_of_getElem? (i := 174) (by decide +kernel))) rfl
theorem ew_529 : Cond.fieldLink RX8 121 RX5 "franksAhead" "I" ∈ ea_tbl := ea_in (et_2 (List.mem_of_getElem? (i := 175) (by decide +kernel))) rfl
theorem ew_530 : Cond.fieldLink RX11 266 RX5 "franksAhead" "I" ∈ ea_tbl := ea_in (et_2 (List.mem_of_getElem? (i := 176) (by decide +kernel))) rfl
theorem ew_531 : Cond.fieldLink RX5 46 RX5 "charge" "I" ∈ ea_tbl := ea_in (et_2 (List.mem_of_getElem? (i := 177) (by decide +kernel))) rfl
theorem ew_532 : Cond.fieldLink RX8 78 RX5 "charge" "I" ∈ ea_tbl := ea_in (et_2 (List.mem_of_getElem? (i := 178) (by decide +kernel))) rfl
theorem ew_533 : Cond.fieldLink RX11 311 RX5 "charge" "I" ∈ ea_tbl := ea_in (et_2 (List.mem_of_getElem? (i := 179) (by decide +kernel))) rfl
theorem ew_534 : Cond.fieldLink RX5 9 RX5 "act" "I" ∈ ea_tbl := ea_in (et_2 (List.mem_of_getElem? (i := 180) (by decide +kernel))) rfl
theorem ew_535 : Cond.fieldLink RX8 53 RX5 "act" "I" ∈ ea_tbl := ea_in (et_2 (List.mem_of_getElem? (i := 181) (by decide +kernel))) rfl
theorem ew_536 : Cond.fieldLink RX11 314 RX5 "act" "I" ∈ ea_tbl := ea_in (et_2 (List.mem_of_getElem? (i := 182) (by decide +kernel))) rfl
theorem ew_537 : Cond.fieldLink RX5 15 RX5 "line" "I" ∈ ea_tbl := ea_in (et_2 (List.mem_of_getElem? (i := 183) (by decide +kernel))) rfl
theorem ew_538 : Cond.fieldLink RX8 84 RX5 "line" "I" ∈ ea_tbl := ea_in (et_2 (List.mem_of_getElem? (i := 184) (by decide +kernel))) rfl
theorem ew_539 : Cond.fieldLink RX11 317 RX5 "line" "I" ∈ ea_tbl := ea_in (et_2 (List.mem_of_getElem? (i := 185) (by decide +kernel))) rfl
theorem ew_540 : Cond.fieldLink RX8 70 RX5 "free" "Z" ∈ ea_tbl := ea_in (et_2 (List.mem_of_getElem? (i := 186) (by decide +kernel))) rfl
theorem ew_541 : Cond.fieldLink RX11 323 RX5 "free" "Z" ∈ ea_tbl := ea_in (et_2 (List.mem_of_getElem? (i := 187) (by decide +kernel))) rfl
theorem ew_542 : Cond.fieldLink RX5 18 RX5 "deadDays" "I" ∈ ea_tbl := ea_in (et_2 (List.mem_of_getElem? (i := 188) (by decide +kernel))) rfl
theorem ew_543 : Cond.fieldLink RX8 63 RX5 "deadDays" "I" ∈ ea_tbl := ea_in (et_2 (List.mem_of_getElem? (i := 189) (by decide +kernel))) rfl
theorem ew_544 : Cond.fieldLink RX1 111 RX5 "deadDays" "I" ∈ ea_tbl := ea_in (et_2 (List.mem_of_getElem? (i := 190) (by decide +kernel))) rfl
theorem ew_545 : Cond.fieldLink RX5 59 RX5 "nobody" "Z" ∈ ea_tbl := ea_in (et_2 (List.mem_of_getElem? (i := 191) (by decide +kernel))) rfl
theorem ew_546 : Cond.fieldLink RX11 390 RX5 "nobody" "Z" ∈ ea_tbl := ea_in (et_2 (List.mem_of_getElem? (i := 192) (by decide +kernel))) rfl
theorem ew_547 : Cond.fieldLink RX4 41 RX5 "rowCount" "I" ∈ ea_tbl := ea_in (et_2 (List.mem_of_getElem? (i := 193) (by decide +kernel))) rfl
theorem ew_548 : Cond.fieldLink RX5 56 RX5 "rowCount" "I" ∈ ea_tbl := ea_in (et_2 (List.mem_of_getElem? (i := 194) (by decide +kernel))) rfl
theorem ew_549 : Cond.fieldLink RX11 351 RX5 "rowCount" "I" ∈ ea_tbl := ea_in (et_2 (List.mem_of_getElem? (i := 195) (by decide +kernel))) rfl
theorem ew_550 : Cond.fieldLink RX5 53 RX5 "lastRow" "I" ∈ ea_tbl := ea_in (et_2 (List.mem_of_getElem? (i := 196) (by decide +kernel))) rfl
theorem ew_551 : Cond.fieldLink RX4 47 RX5 "lastRow" "I" ∈ ea_tbl := ea_in (et_2 (List.mem_of_getElem? (i := 197) (by decide +kernel))) rfl
theorem ew_552 : Cond.fieldLink RX5 63 RX5 "places" "I" ∈ ea_tbl := ea_in (et_2 (List.mem_of_getElem? (i := 198) (by decide +kernel))) rfl
theorem ew_553 : Cond.fieldLink RX11 398 RX5 "places" "I" ∈ ea_tbl := ea_in (et_2 (List.mem_of_getElem? (i := 199) (by decide +kernel))) rfl
theorem ew_554 : Cond.fieldLink RX5 21 RX5 "placeRows" "[I" ∈ ea_tbl := ea_in (et_2 (List.mem_of_getElem? (i := 200) (by decide +kernel))) rfl
theorem ew_596 : Cond.instantiable RX2 3 ∈ ea_tbl := ea_in (et_3 (List.mem_of_getElem? (i := 2) (by decide +kernel))) rfl
theorem ew_597 : Cond.methodLinkNest RX11 90 yX2_init RX11 ∈ ea_nl := ea_nin (et_3 (List.mem_of_getElem? (i := 3) (by decide +kernel))) rfl
theorem ew_598 : Cond.instanceMethod yX2_init ∈ ea_tbl := ea_in (et_3 (List.mem_of_getElem? (i := 4) (by decide +kernel))) rfl
theorem ew_599 : Cond.code yX2_init cX2_init 1 none ∈ ea_tbl := ea_in (et_3 (List.mem_of_getElem? (i := 5) rfl)) rfl
theorem ew_600 : Cond.methodLink RX2 3 Lib.objectInit ∈ ea_tbl := ea_in (et_3 (List.mem_of_getElem? (i := 6) (by decide +kernel))) rfl
theorem ew_601 : Cond.fieldLink RX2 18 RX2 "setAt" "I" ∈ ea_tbl := ea_in (et_3 (List.mem_of_getElem? (i := 7) (by decide +kernel))) rfl
theorem ew_602 : Cond.fieldLink RX11 436 RX2 "setAt" "I" ∈ ea_tbl := ea_in (et_3 (List.mem_of_getElem? (i := 8) (by decide +kernel))) rfl
theorem ew_603 : Cond.fieldLink RX2 9 RX2 "low" "I" ∈ ea_tbl := ea_in (et_3 (List.mem_of_getElem? (i := 9) (by decide +kernel))) rfl
theorem ew_604 : Cond.fieldLink RX11 442 RX2 "low" "I" ∈ ea_tbl := ea_in (et_3 (List.mem_of_getElem? (i := 10) (by decide +kernel))) rfl
theorem ew_605 : Cond.fieldLink RX2 15 RX2 "high" "I" ∈ ea_tbl := ea_in (et_3 (List.mem_of_getElem? (i := 11) (by decide +kernel))) rfl
theorem ew_606 : Cond.fieldLink RX11 445 RX2 "high" "I" ∈ ea_tbl := ea_in (et_3 (List.mem_of_getElem? (i := 12) (by decide +kernel))) rfl
theorem ew_614 : Cond.fieldLink RX11 12 RX11 "roads" "LInlandMails$Roads;" ∈ ea_tbl := ea_in (et_3 (List.mem_of_getElem? (i := 20) (by decide +kernel))) rfl
theorem ew_615 : Cond.fieldLink RX11 19 RX11 "table" "LInlandMails$Table;" ∈ ea_tbl := ea_in (et_3 (List.mem_of_getElem? (i := 21) (by decide +kernel))) rfl
theorem ew_616 : Cond.fieldLink RX11 28 RX11 "ways" "LInlandMails$Ways;" ∈ ea_tbl := ea_in (et_3 (List.mem_of_getElem? (i := 22) (by decide +kernel))) rfl
theorem ew_617 : Cond.fieldLink RX11 35 RX11 "crew" "LInlandMails$Crew;" ∈ ea_tbl := ea_in (et_3 (List.mem_of_getElem? (i := 23) (by decide +kernel))) rfl
theorem ew_618 : Cond.fieldLink RX11 42 RX11 "statutes" "LInlandMails$Statutes;" ∈ ea_tbl := ea_in (et_3 (List.mem_of_getElem? (i := 24) (by decide +kernel))) rfl
theorem ew_619 : Cond.fieldLink RX11 48 RX11 "letters" "[LInlandMails$Letter;" ∈ ea_tbl := ea_in (et_3 (List.mem_of_getElem? (i := 25) (by decide +kernel))) rfl
theorem ew_620 : Cond.fieldLink RX11 57 RX11 "leads" "LInlandMails$Leads;" ∈ ea_tbl := ea_in (et_3 (List.mem_of_getElem? (i := 26) (by decide +kernel))) rfl
theorem ew_621 : Cond.fieldLink RX11 66 RX11 "bags" "LInlandMails$Bags;" ∈ ea_tbl := ea_in (et_3 (List.mem_of_getElem? (i := 27) (by decide +kernel))) rfl
theorem ew_622 : Cond.fieldLink RX11 70 RX11 "trial" "LInlandMails$Bags;" ∈ ea_tbl := ea_in (et_3 (List.mem_of_getElem? (i := 28) (by decide +kernel))) rfl
theorem ew_623 : Cond.fieldLink RX11 75 RX11 "clocks" "[LInlandMails$Clock;" ∈ ea_tbl := ea_in (et_3 (List.mem_of_getElem? (i := 29) (by decide +kernel))) rfl
theorem ew_624 : Cond.fieldLink RX11 79 RX11 "robbedRun" "[I" ∈ ea_tbl := ea_in (et_3 (List.mem_of_getElem? (i := 30) (by decide +kernel))) rfl
theorem ew_625 : Cond.fieldLink RX11 83 RX11 "robbedAt" "[I" ∈ ea_tbl := ea_in (et_3 (List.mem_of_getElem? (i := 31) (by decide +kernel))) rfl
theorem ew_626 : Cond.fieldLink RX11 86 RX11 "robberyOf" "[I" ∈ ea_tbl := ea_in (et_3 (List.mem_of_getElem? (i := 32) (by decide +kernel))) rfl
theorem ew_627 : Cond.fieldLink RX11 418 RX11 "robberyCount" "I" ∈ ea_tbl := ea_in (et_3 (List.mem_of_getElem? (i := 33) (by decide +kernel))) rfl
theorem ew_628 : Cond.fieldLink RX11 114 RX11 "now" "I" ∈ ea_tbl := ea_in (et_3 (List.mem_of_getElem? (i := 34) (by decide +kernel))) rfl
theorem ew_629 : Cond.fieldLink RX11 110 RX11 "bestKnown" "Z" ∈ ea_tbl := ea_in (et_3 (List.mem_of_getElem? (i := 35) (by decide +kernel))) rfl
theorem ew_630 : Cond.fieldLink RX11 467 RX11 "bestSum" "I" ∈ ea_tbl := ea_in (et_3 (List.mem_of_getElem? (i := 36) (by decide +kernel))) rfl
theorem ew_631 : Cond.fieldLink RX11 470 RX11 "bestOne" "I" ∈ ea_tbl := ea_in (et_3 (List.mem_of_getElem? (i := 37) (by decide +kernel))) rfl
theorem ew_632 : Cond.fieldLink RX11 473 RX11 "bestTwo" "I" ∈ ea_tbl := ea_in (et_3 (List.mem_of_getElem? (i := 38) (by decide +kernel))) rfl
theorem ew_675 : Cond.code yX11_town cX11_town 1 (some .int) ∈ ea_tbl := ea_in (et_3 (List.mem_of_getElem? (i := 81) rfl)) rfl
theorem ew_679 : Cond.code yX11_road cX11_road 4 (some .boolean) ∈ ea_tbl := ea_in (et_3 (List.mem_of_getElem? (i := 85) rfl)) rfl
theorem ew_680 : Cond.methodLink RX11 95 yX7_has ∈ ea_tbl := ea_in (et_3 (List.mem_of_getElem? (i := 86) (by decide +kernel))) rfl
theorem ew_681 : Cond.instanceMethod yX7_has ∈ ea_tbl := ea_in (et_3 (List.mem_of_getElem? (i := 87) (by decide +kernel))) rfl
theorem ew_682 : Cond.selects RX7 yX7_has yX7_has ∈ ea_tbl := ea_in (et_3 (List.mem_of_getElem? (i := 88) (by decide +kernel))) rfl
theorem ew_683 : Cond.code yX7_has cX7_has 2 (some .boolean) ∈ ea_tbl := ea_in (et_3 (List.mem_of_getElem? (i := 89) rfl)) rfl
theorem ew_684 : Cond.methodLink RX11 99 yX7_lay ∈ ea_tbl := ea_in (et_3 (List.mem_of_getElem? (i := 90) (by decide +kernel))) rfl
theorem ew_685 : Cond.instanceMethod yX7_lay ∈ ea_tbl := ea_in (et_3 (List.mem_of_getElem? (i := 91) (by decide +kernel))) rfl
theorem ew_686 : Cond.selects RX7 yX7_lay yX7_lay ∈ ea_tbl := ea_in (et_3 (List.mem_of_getElem? (i := 92) (by decide +kernel))) rfl
theorem ew_687 : Cond.code yX7_lay cX7_lay 4 none ∈ ea_tbl := ea_in (et_3 (List.mem_of_getElem? (i := 93) rfl)) rfl
theorem ew_691 : Cond.code yX11_miles cX11_miles 3 (some .int) ∈ ea_tbl := ea_in (et_3 (List.mem_of_getElem? (i := 97) rfl)) rfl
theorem ew_692 : Cond.methodLink RX11 103 yX7_between ∈ ea_tbl := ea_in (et_3 (List.mem_of_getElem? (i := 98) (by decide +kernel))) rfl
theorem ew_693 : Cond.instanceMethod yX7_between ∈ ea_tbl := ea_in (et_3 (List.mem_of_getElem? (i := 99) (by decide +kernel))) rfl
theorem ew_694 : Cond.selects RX7 yX7_between yX7_between ∈ ea_tbl := ea_in (et_3 (List.mem_of_getElem? (i := 100) (by decide +kernel))) rfl
theorem ew_695 : Cond.code yX7_between cX7_between 4 (some .int) ∈ ea_tbl := ea_in (et_3 (List.mem_of_getElem? (i := 101) rfl)) rfl
theorem ew_699 : Cond.code yX11_train cX11_train 1 (some .int) ∈ ea_tbl := ea_in (et_3 (List.mem_of_getElem? (i := 105) rfl)) rfl
theorem ew_703 : Cond.code yX11_stop cX11_stop 7 (some .int) ∈ ea_tbl := ea_in (et_3 (List.mem_of_getElem? (i := 109) rfl)) rfl
theorem ew_704 : Cond.methodLink RX11 117 yX9_has ∈ ea_tbl := ea_in (et_3 (List.mem_of_getElem? (i := 110) (by decide +kernel))) rfl
theorem ew_705 : Cond.instanceMethod yX9_has ∈ ea_tbl := ea_in (et_3 (List.mem_of_getElem? (i := 111) (by decide +kernel))) rfl
theorem ew_706 : Cond.selects RX9 yX9_has yX9_has ∈ ea_tbl := ea_in (et_3 (List.mem_of_getElem? (i := 112) (by decide +kernel))) rfl
theorem ew_707 : Cond.code yX9_has cX9_has 2 (some .boolean) ∈ ea_tbl := ea_in (et_3 (List.mem_of_getElem? (i := 113) rfl)) rfl
theorem ew_708 : Cond.methodLink RX11 118 yX9_add ∈ ea_tbl := ea_in (et_3 (List.mem_of_getElem? (i := 114) (by decide +kernel))) rfl
theorem ew_709 : Cond.instanceMethod yX9_add ∈ ea_tbl := ea_in (et_3 (List.mem_of_getElem? (i := 115) (by decide +kernel))) rfl
theorem ew_710 : Cond.selects RX9 yX9_add yX9_add ∈ ea_tbl := ea_in (et_3 (List.mem_of_getElem? (i := 116) (by decide +kernel))) rfl
theorem ew_711 : Cond.code yX9_add cX9_add 8 (some .int) ∈ ea_tbl := ea_in (et_3 (List.mem_of_getElem? (i := 117) rfl)) rfl
theorem ew_712 : Cond.methodLink RX11 122 yX11_tableChanged ∈ ea_tbl := ea_in (et_3 (List.mem_of_getElem? (i := 118) (by decide +kernel))) rfl
theorem ew_714 : Cond.instanceMethod yX11_tableChanged ∈ ea_tbl := ea_in (et_3 (List.mem_of_getElem? (i := 120) (by decide +kernel))) rfl
theorem ew_715 : Cond.code yX11_tableChanged cX11_tableChanged 1 none ∈ ea_tbl := ea_in (et_3 (List.mem_of_getElem? (i := 121) rfl)) rfl
theorem ew_719 : Cond.code yX11_stopOf cX11_stopOf 5 (some .int) ∈ ea_tbl := ea_in (et_3 (List.mem_of_getElem? (i := 125) rfl)) rfl
theorem ew_723 : Cond.code yX11_late cX11_late 4 (some .boolean) ∈ ea_tbl := ea_in (et_3 (List.mem_of_getElem? (i := 129) rfl)) rfl
theorem ew_724 : Cond.methodLink RX11 141 yX11_mayBeTold ∈ ea_tbl := ea_in (et_3 (List.mem_of_getElem? (i := 130) (by decide +kernel))) rfl
theorem ew_726 : Cond.instanceMethod yX11_mayBeTold ∈ ea_tbl := ea_in (et_3 (List.mem_of_getElem? (i := 132) (by decide +kernel))) rfl
theorem ew_727 : Cond.code yX11_mayBeTold cX11_mayBeTold 4 (some .boolean) ∈ ea_tbl := ea_in (et_3 (List.mem_of_getElem? (i := 133) rfl)) rfl
theorem ew_728 : Cond.methodLink RX11 148 yX9_hasRun ∈ ea_tbl := ea_in (et_3 (List.mem_of_getElem? (i := 134) (by decide +kernel))) rfl
theorem ew_729 : Cond.instanceMethod yX9_hasRun ∈ ea_tbl := ea_in (et_3 (List.mem_of_getElem? (i := 135) (by decide +kernel))) rfl
theorem ew_730 : Cond.selects RX9 yX9_hasRun yX9_hasRun ∈ ea_tbl := ea_in (et_3 (List.mem_of_getElem? (i := 136) (by decide +kernel))) rfl
theorem ew_731 : Cond.code yX9_hasRun cX9_hasRun 3 (some .boolean) ∈ ea_tbl := ea_in (et_3 (List.mem_of_getElem? (i := 137) rfl)) rfl
theorem ew_732 : Cond.methodLink RX9 38 yX9_has ∈ ea_tbl := ea_in (et_3 (List.mem_of_getElem? (i := 138) (by decide +kernel))) rfl
theorem ew_736 : Cond.code yX11_miss cX11_miss 5 (some .boolean) ∈ ea_tbl := ea_in (et_3 (List.mem_of_getElem? (i := 142) rfl)) rfl
theorem ew_737 : Cond.methodLink RX11 152 yX9_isMissed ∈ ea_tbl := ea_in (et_3 (List.mem_of_getElem? (i := 143) (by decide +kernel))) rfl
theorem ew_738 : Cond.instanceMethod yX9_isMissed ∈ ea_tbl := ea_in (et_3 (List.mem_of_getElem? (i := 144) (by decide +kernel))) rfl
theorem ew_739 : Cond.selects RX9 yX9_isMissed yX9_isMissed ∈ ea_tbl := ea_in (et_3 (List.mem_of_getElem? (i := 145) (by decide +kernel))) rfl
theorem ew_740 : Cond.code yX9_isMissed cX9_isMissed 3 (some .boolean) ∈ ea_tbl := ea_in (et_3 (List.mem_of_getElem? (i := 146) rfl)) rfl
theorem ew_741 : Cond.methodLink RX11 155 yX9_comesAt ∈ ea_tbl := ea_in (et_3 (List.mem_of_getElem? (i := 147) (by decide +kernel))) rfl
theorem ew_742 : Cond.instanceMethod yX9_comesAt ∈ ea_tbl := ea_in (et_3 (List.mem_of_getElem? (i := 148) (by decide +kernel))) rfl
theorem ew_743 : Cond.selects RX9 yX9_comesAt yX9_comesAt ∈ ea_tbl := ea_in (et_3 (List.mem_of_getElem? (i := 149) (by decide +kernel))) rfl
theorem ew_744 : Cond.code yX9_comesAt cX9_comesAt 4 (some .int) ∈ ea_tbl := ea_in (et_3 (List.mem_of_getElem? (i := 150) rfl)) rfl
theorem ew_748 : Cond.code yX11_minutes cX11_minutes 2 (some .int) ∈ ea_tbl := ea_in (et_3 (List.mem_of_getElem? (i := 154) rfl)) rfl
theorem ew_749 : Cond.methodLink RX11 162 yX10_refresh ∈ ea_tbl := ea_in (et_3 (List.mem_of_getElem? (i := 155) (by decide +kernel))) rfl
theorem ew_750 : Cond.instanceMethod yX10_refresh ∈ ea_tbl := ea_in (et_3 (List.mem_of_getElem? (i := 156) (by decide +kernel))) rfl
theorem ew_751 : Cond.selects RX10 yX10_refresh yX10_refresh ∈ ea_tbl := ea_in (et_3 (List.mem_of_getElem? (i := 157) (by decide +kernel))) rfl
theorem ew_752 : Cond.code yX10_refresh cX10_refresh 1 none ∈ ea_tbl := ea_in (et_3 (List.mem_of_getElem? (i := 158) rfl)) rfl
theorem ew_753 : Cond.methodLink RX10 33 yX10_collect ∈ ea_tbl := ea_in (et_3 (List.mem_of_getElem? (i := 159) (by decide +kernel))) rfl
theorem ew_755 : Cond.instanceMethod yX10_collect ∈ ea_tbl := ea_in (et_3 (List.mem_of_getElem? (i := 161) (by decide +kernel))) rfl
theorem ew_756 : Cond.code yX10_collect cX10_collect 5 none ∈ ea_tbl := ea_in (et_3 (List.mem_of_getElem? (i := 162) rfl)) rfl
theorem ew_757 : Cond.methodLink RX10 88 yX9_comesAt ∈ ea_tbl := ea_in (et_3 (List.mem_of_getElem? (i := 163) (by decide +kernel))) rfl
theorem ew_758 : Cond.methodLink RX10 102 yX10_addKey ∈ ea_tbl := ea_in (et_3 (List.mem_of_getElem? (i := 164) (by decide +kernel))) rfl
theorem ew_760 : Cond.instanceMethod yX10_addKey ∈ ea_tbl := ea_in (et_3 (List.mem_of_getElem? (i := 166) (by decide +kernel))) rfl
theorem ew_761 : Cond.code yX10_addKey cX10_addKey 3 none ∈ ea_tbl := ea_in (et_3 (List.mem_of_getElem? (i := 167) rfl)) rfl
theorem ew_762 : Cond.methodLink RX10 106 yX9_goesAt ∈ ea_tbl := ea_in (et_3 (List.mem_of_getElem? (i := 168) (by decide +kernel))) rfl
theorem ew_763 : Cond.instanceMethod yX9_goesAt ∈ ea_tbl := ea_in (et_3 (List.mem_of_getElem? (i := 169) (by decide +kernel))) rfl
theorem ew_764 : Cond.selects RX9 yX9_goesAt yX9_goesAt ∈ ea_tbl := ea_in (et_3 (List.mem_of_getElem? (i := 170) (by decide +kernel))) rfl
theorem ew_765 : Cond.code yX9_goesAt cX9_goesAt 4 (some .int) ∈ ea_tbl := ea_in (et_3 (List.mem_of_getElem? (i := 171) rfl)) rfl
theorem ew_766 : Cond.methodLink RX10 36 yX10_sortKeys ∈ ea_tbl := ea_in (et_3 (List.mem_of_getElem? (i := 172) (by decide +kernel))) rfl
theorem ew_768 : Cond.instanceMethod yX10_sortKeys ∈ ea_tbl := ea_in (et_3 (List.mem_of_getElem? (i := 174) (by decide +kernel))) rfl
theorem ew_769 : Cond.code yX10_sortKeys cX10_sortKeys 5 none ∈ ea_tbl := ea_in (et_3 (List.mem_of_getElem? (i := 175) rfl)) rfl
theorem ew_770 : Cond.methodLink RX10 39 yX10_trace ∈ ea_tbl := ea_in (et_3 (List.mem_of_getElem? (i := 176) (by decide +kernel))) rfl
theorem ew_772 : Cond.instanceMethod yX10_trace ∈ ea_tbl := ea_in (et_3 (List.mem_of_getElem? (i := 178) (by decide +kernel))) rfl
theorem ew_773 : Cond.code yX10_trace cX10_trace 3 none ∈ ea_tbl := ea_in (et_3 (List.mem_of_getElem? (i := 179) rfl)) rfl
theorem ew_774 : Cond.methodLink RX10 109 yJ7_fill_d0a16 ∈ ea_tbl := ea_in (et_3 (List.mem_of_getElem? (i := 180) (by decide +kernel))) rfl
theorem ew_775 : Cond.static yJ7_fill_d0a16 ∈ ea_tbl := ea_in (et_3 (List.mem_of_getElem? (i := 181) (by decide +kernel))) rfl
theorem ew_776 : Cond.code yJ7_fill_d0a16 cJ7_fill_d0a16 5 none ∈ ea_tbl := ea_in (et_3 (List.mem_of_getElem? (i := 182) rfl)) rfl
theorem ew_777 : Cond.constantLong RX10 94 4611686018427387904 ∈ ea_tbl := ea_in (et_3 (List.mem_of_getElem? (i := 183) (by decide +kernel))) rfl
theorem ew_778 : Cond.methodLink RX10 67 yX10_isGoing ∈ ea_tbl := ea_in (et_3 (List.mem_of_getElem? (i := 184) (by decide +kernel))) rfl
theorem ew_779 : Cond.static yX10_isGoing ∈ ea_tbl := ea_in (et_3 (List.mem_of_getElem? (i := 185) (by decide +kernel))) rfl
theorem ew_780 : Cond.code yX10_isGoing cX10_isGoing 1 (some .boolean) ∈ ea_tbl := ea_in (et_3 (List.mem_of_getElem? (i := 186) rfl)) rfl
theorem ew_781 : Cond.methodLink RX10 71 yX10_townIn ∈ ea_tbl := ea_in (et_3 (List.mem_of_getElem? (i := 187) (by decide +kernel))) rfl
theorem ew_783 : Cond.instanceMethod yX10_townIn ∈ ea_tbl := ea_in (et_3 (List.mem_of_getElem? (i := 189) (by decide +kernel))) rfl
theorem ew_784 : Cond.code yX10_townIn cX10_townIn 2 (some .int) ∈ ea_tbl := ea_in (et_3 (List.mem_of_getElem? (i := 190) rfl)) rfl
theorem ew_785 : Cond.methodLink RX10 58 yX10_trainIn ∈ ea_tbl := ea_in (et_3 (List.mem_of_getElem? (i := 191) (by decide +kernel))) rfl
theorem ew_786 : Cond.static yX10_trainIn ∈ ea_tbl := ea_in (et_3 (List.mem_of_getElem? (i := 192) (by decide +kernel))) rfl
theorem ew_787 : Cond.code yX10_trainIn cX10_trainIn 1 (some .int) ∈ ea_tbl := ea_in (et_3 (List.mem_of_getElem? (i := 193) rfl)) rfl
theorem ew_788 : Cond.methodLink RX10 61 yX10_stopIn ∈ ea_tbl := ea_in (et_3 (List.mem_of_getElem? (i := 194) (by decide +kernel))) rfl
theorem ew_789 : Cond.static yX10_stopIn ∈ ea_tbl := ea_in (et_3 (List.mem_of_getElem? (i := 195) (by decide +kernel))) rfl
theorem ew_790 : Cond.code yX10_stopIn cX10_stopIn 1 (some .int) ∈ ea_tbl := ea_in (et_3 (List.mem_of_getElem? (i := 196) rfl)) rfl
theorem ew_791 : Cond.methodLink RX10 115 yX10_takeRun ∈ ea_tbl := ea_in (et_3 (List.mem_of_getElem? (i := 197) (by decide +kernel))) rfl
theorem ew_793 : Cond.instanceMethod yX10_takeRun ∈ ea_tbl := ea_in (et_3 (List.mem_of_getElem? (i := 199) (by decide +kernel))) rfl
theorem ew_794 : Cond.code yX10_takeRun cX10_takeRun 8 none ∈ ea_tbl := ea_in (et_3 (List.mem_of_getElem? (i := 200) rfl)) rfl
theorem ew_795 : Cond.methodLink RX10 64 yX10_slotIn ∈ ea_tbl := ea_in (et_3 (List.mem_of_getElem? (i := 201) (by decide +kernel))) rfl
theorem ew_796 : Cond.static yX10_slotIn ∈ ea_tbl := ea_in (et_3 (List.mem_of_getElem? (i := 202) (by decide +kernel))) rfl
theorem ew_797 : Cond.code yX10_slotIn cX10_slotIn 1 (some .int) ∈ ea_tbl := ea_in (et_3 (List.mem_of_getElem? (i := 203) rfl)) rfl
theorem ew_798 : Cond.methodLink RX10 121 yX10_takenAt ∈ ea_tbl := ea_in (et_3 (List.mem_of_getElem? (i := 204) (by decide +kernel))) rfl
theorem ew_800 : Cond.instanceMethod yX10_takenAt ∈ ea_tbl := ea_in (et_3 (List.mem_of_getElem? (i := 206) (by decide +kernel))) rfl
theorem ew_801 : Cond.code yX10_takenAt cX10_takenAt 3 (some .int) ∈ ea_tbl := ea_in (et_3 (List.mem_of_getElem? (i := 207) rfl)) rfl
theorem ew_802 : Cond.methodLink RX10 132 yX10_trainOf ∈ ea_tbl := ea_in (et_3 (List.mem_of_getElem? (i := 208) (by decide +kernel))) rfl
theorem ew_803 : Cond.static yX10_trainOf ∈ ea_tbl := ea_in (et_3 (List.mem_of_getElem? (i := 209) (by decide +kernel))) rfl
theorem ew_804 : Cond.code yX10_trainOf cX10_trainOf 2 (some .int) ∈ ea_tbl := ea_in (et_3 (List.mem_of_getElem? (i := 210) rfl)) rfl
theorem ew_805 : Cond.methodLink RX10 135 yX10_dayOf ∈ ea_tbl := ea_in (et_3 (List.mem_of_getElem? (i := 211) (by decide +kernel))) rfl
theorem ew_806 : Cond.static yX10_dayOf ∈ ea_tbl := ea_in (et_3 (List.mem_of_getElem? (i := 212) (by decide +kernel))) rfl
theorem ew_807 : Cond.code yX10_dayOf cX10_dayOf 2 (some .int) ∈ ea_tbl := ea_in (et_3 (List.mem_of_getElem? (i := 213) rfl)) rfl
theorem ew_808 : Cond.methodLink RX10 138 yX10_takenOf ∈ ea_tbl := ea_in (et_3 (List.mem_of_getElem? (i := 214) (by decide +kernel))) rfl
theorem ew_809 : Cond.static yX10_takenOf ∈ ea_tbl := ea_in (et_3 (List.mem_of_getElem? (i := 215) (by decide +kernel))) rfl
theorem ew_810 : Cond.code yX10_takenOf cX10_takenOf 2 (some .int) ∈ ea_tbl := ea_in (et_3 (List.mem_of_getElem? (i := 216) rfl)) rfl
theorem ew_811 : Cond.methodLink RX10 50 yX10_minuteIn ∈ ea_tbl := ea_in (et_3 (List.mem_of_getElem? (i := 217) (by decide +kernel))) rfl
theorem ew_812 : Cond.static yX10_minuteIn ∈ ea_tbl := ea_in (et_3 (List.mem_of_getElem? (i := 218) (by decide +kernel))) rfl
theorem ew_813 : Cond.code yX10_minuteIn cX10_minuteIn 1 (some .int) ∈ ea_tbl := ea_in (et_3 (List.mem_of_getElem? (i := 219) rfl)) rfl
theorem ew_814 : Cond.methodLink RX10 125 yX10_slotOf ∈ ea_tbl := ea_in (et_3 (List.mem_of_getElem? (i := 220) (by decide +kernel))) rfl
theorem ew_815 : Cond.static yX10_slotOf ∈ ea_tbl := ea_in (et_3 (List.mem_of_getElem? (i := 221) (by decide +kernel))) rfl
theorem ew_816 : Cond.code yX10_slotOf cX10_slotOf 2 (some .int) ∈ ea_tbl := ea_in (et_3 (List.mem_of_getElem? (i := 222) rfl)) rfl
theorem ew_817 : Cond.constantLong RX10 128 7 ∈ ea_tbl := ea_in (et_3 (List.mem_of_getElem? (i := 223) (by decide +kernel))) rfl
theorem ew_818 : Cond.constantLong RX10 130 (-1) ∈ ea_tbl := ea_in (et_3 (List.mem_of_getElem? (i := 224) (by decide +kernel))) rfl
theorem ew_819 : Cond.methodLink RX10 118 yX10_leaveRun ∈ ea_tbl := ea_in (et_3 (List.mem_of_getElem? (i := 225) (by decide +kernel))) rfl
theorem ew_821 : Cond.instanceMethod yX10_leaveRun ∈ ea_tbl := ea_in (et_3 (List.mem_of_getElem? (i := 227) (by decide +kernel))) rfl
theorem ew_822 : Cond.code yX10_leaveRun cX10_leaveRun 10 none ∈ ea_tbl := ea_in (et_3 (List.mem_of_getElem? (i := 228) rfl)) rfl
theorem ew_823 : Cond.methodLink RX10 91 yX10_legOf ∈ ea_tbl := ea_in (et_3 (List.mem_of_getElem? (i := 229) (by decide +kernel))) rfl
theorem ew_824 : Cond.static yX10_legOf ∈ ea_tbl := ea_in (et_3 (List.mem_of_getElem? (i := 230) (by decide +kernel))) rfl
theorem ew_825 : Cond.code yX10_legOf cX10_legOf 1 (some .int) ∈ ea_tbl := ea_in (et_3 (List.mem_of_getElem? (i := 231) rfl)) rfl
theorem ew_826 : Cond.methodLink RX10 85 yX10_dayIn ∈ ea_tbl := ea_in (et_3 (List.mem_of_getElem? (i := 232) (by decide +kernel))) rfl
theorem ew_827 : Cond.static yX10_dayIn ∈ ea_tbl := ea_in (et_3 (List.mem_of_getElem? (i := 233) (by decide +kernel))) rfl
theorem ew_828 : Cond.code yX10_dayIn cX10_dayIn 1 (some .int) ∈ ea_tbl := ea_in (et_3 (List.mem_of_getElem? (i := 234) rfl)) rfl
theorem ew_829 : Cond.constantLong RX10 141 8192 ∈ ea_tbl := ea_in (et_3 (List.mem_of_getElem? (i := 235) (by decide +kernel))) rfl
theorem ew_830 : Cond.methodLink RX10 143 yJ9_min_f86c9 ∈ ea_tbl := ea_in (et_3 (List.mem_of_getElem? (i := 236) (by decide +kernel))) rfl
theorem ew_831 : Cond.static yJ9_min_f86c9 ∈ ea_tbl := ea_in (et_3 (List.mem_of_getElem? (i := 237) (by decide +kernel))) rfl
theorem ew_832 : Cond.code yJ9_min_f86c9 cJ9_min_f86c9 4 (some .long) ∈ ea_tbl := ea_in (et_3 (List.mem_of_getElem? (i := 238) rfl)) rfl
theorem ew_833 : Cond.methodLink RX11 165 yX1_carry ∈ ea_tbl := ea_in (et_3 (List.mem_of_getElem? (i := 239) (by decide +kernel))) rfl
theorem ew_834 : Cond.instanceMethod yX1_carry ∈ ea_tbl := ea_in (et_4 (List.mem_of_getElem? (i := 0) (by decide +kernel))) rfl
theorem ew_835 : Cond.selects RX1 yX1_carry yX1_carry ∈ ea_tbl := ea_in (et_4 (List.mem_of_getElem? (i := 1) (by decide +kernel))) rfl
theorem ew_836 : Cond.code yX1_carry cX1_carry 7 none ∈ ea_tbl := ea_in (et_4 (List.mem_of_getElem? (i := 2) rfl)) rfl
theorem ew_837 : Cond.methodLink RX1 83 yX10_firstBehind ∈ ea_tbl := ea_in (et_4 (List.mem_of_getElem? (i := 3) (by decide +kernel))) rfl
theorem ew_838 : Cond.instanceMethod yX10_firstBehind ∈ ea_tbl := ea_in (et_4 (List.mem_of_getElem? (i := 4) (by decide +kernel))) rfl
theorem ew_839 : Cond.selects RX10 yX10_firstBehind yX10_firstBehind ∈ ea_tbl := ea_in (et_4 (List.mem_of_getElem? (i := 5) (by decide +kernel))) rfl
theorem ew_840 : Cond.code yX10_firstBehind cX10_firstBehind 3 (some .int) ∈ ea_tbl := ea_in (et_4 (List.mem_of_getElem? (i := 6) rfl)) rfl
theorem ew_841 : Cond.methodLink RX10 46 yX10_keyAt ∈ ea_tbl := ea_in (et_4 (List.mem_of_getElem? (i := 7) (by decide +kernel))) rfl
theorem ew_842 : Cond.instanceMethod yX10_keyAt ∈ ea_tbl := ea_in (et_4 (List.mem_of_getElem? (i := 8) (by decide +kernel))) rfl
theorem ew_843 : Cond.selects RX10 yX10_keyAt yX10_keyAt ∈ ea_tbl := ea_in (et_4 (List.mem_of_getElem? (i := 9) (by decide +kernel))) rfl
theorem ew_844 : Cond.code yX10_keyAt cX10_keyAt 2 (some .int) ∈ ea_tbl := ea_in (et_4 (List.mem_of_getElem? (i := 10) rfl)) rfl
theorem ew_845 : Cond.methodLink RX1 90 yX10_keyAt ∈ ea_tbl := ea_in (et_4 (List.mem_of_getElem? (i := 11) (by decide +kernel))) rfl
theorem ew_846 : Cond.methodLink RX1 93 yX10_minuteIn ∈ ea_tbl := ea_in (et_4 (List.mem_of_getElem? (i := 12) (by decide +kernel))) rfl
theorem ew_847 : Cond.methodLink RX1 96 yX1_burn ∈ ea_tbl := ea_in (et_4 (List.mem_of_getElem? (i := 13) (by decide +kernel))) rfl
theorem ew_849 : Cond.instanceMethod yX1_burn ∈ ea_tbl := ea_in (et_4 (List.mem_of_getElem? (i := 15) (by decide +kernel))) rfl
theorem ew_850 : Cond.code yX1_burn cX1_burn 3 none ∈ ea_tbl := ea_in (et_4 (List.mem_of_getElem? (i := 16) rfl)) rfl
theorem ew_851 : Cond.methodLink RX1 114 yX1_move ∈ ea_tbl := ea_in (et_4 (List.mem_of_getElem? (i := 17) (by decide +kernel))) rfl
theorem ew_852 : Cond.instanceMethod yX1_move ∈ ea_tbl := ea_in (et_4 (List.mem_of_getElem? (i := 18) (by decide +kernel))) rfl
theorem ew_853 : Cond.selects RX1 yX1_move yX1_move ∈ ea_tbl := ea_in (et_4 (List.mem_of_getElem? (i := 19) (by decide +kernel))) rfl
theorem ew_854 : Cond.code yX1_move cX1_move 5 none ∈ ea_tbl := ea_in (et_4 (List.mem_of_getElem? (i := 20) rfl)) rfl
theorem ew_855 : Cond.methodLink RX1 67 yX5_note ∈ ea_tbl := ea_in (et_4 (List.mem_of_getElem? (i := 21) (by decide +kernel))) rfl
theorem ew_856 : Cond.instanceMethod yX5_note ∈ ea_tbl := ea_in (et_4 (List.mem_of_getElem? (i := 22) (by decide +kernel))) rfl
theorem ew_857 : Cond.selects RX5 yX5_note yX5_note ∈ ea_tbl := ea_in (et_4 (List.mem_of_getElem? (i := 23) (by decide +kernel))) rfl
theorem ew_858 : Cond.code yX5_note cX5_note 4 none ∈ ea_tbl := ea_in (et_4 (List.mem_of_getElem? (i := 24) rfl)) rfl
theorem ew_859 : Cond.methodLink RX5 49 yX5_row ∈ ea_tbl := ea_in (et_4 (List.mem_of_getElem? (i := 25) (by decide +kernel))) rfl
theorem ew_860 : Cond.static yX5_row ∈ ea_tbl := ea_in (et_4 (List.mem_of_getElem? (i := 26) (by decide +kernel))) rfl
theorem ew_861 : Cond.code yX5_row cX5_row 3 (some .int) ∈ ea_tbl := ea_in (et_4 (List.mem_of_getElem? (i := 27) rfl)) rfl
theorem ew_862 : Cond.methodLink RX1 100 yX10_isGoing ∈ ea_tbl := ea_in (et_4 (List.mem_of_getElem? (i := 28) (by decide +kernel))) rfl
theorem ew_863 : Cond.methodLink RX1 104 yX1_goes ∈ ea_tbl := ea_in (et_4 (List.mem_of_getElem? (i := 29) (by decide +kernel))) rfl
theorem ew_865 : Cond.instanceMethod yX1_goes ∈ ea_tbl := ea_in (et_4 (List.mem_of_getElem? (i := 31) (by decide +kernel))) rfl
theorem ew_866 : Cond.code yX1_goes cX1_goes 9 none ∈ ea_tbl := ea_in (et_4 (List.mem_of_getElem? (i := 32) rfl)) rfl
theorem ew_867 : Cond.methodLink RX1 118 yX10_trainIn ∈ ea_tbl := ea_in (et_4 (List.mem_of_getElem? (i := 33) (by decide +kernel))) rfl
theorem ew_868 : Cond.methodLink RX1 121 yX10_stopIn ∈ ea_tbl := ea_in (et_4 (List.mem_of_getElem? (i := 34) (by decide +kernel))) rfl
theorem ew_869 : Cond.methodLink RX1 124 yX10_dayIn ∈ ea_tbl := ea_in (et_4 (List.mem_of_getElem? (i := 35) (by decide +kernel))) rfl
theorem ew_870 : Cond.methodLink RX1 127 yX9_isMissed ∈ ea_tbl := ea_in (et_4 (List.mem_of_getElem? (i := 36) (by decide +kernel))) rfl
theorem ew_871 : Cond.methodLink RX1 149 yX10_leftBehind ∈ ea_tbl := ea_in (et_4 (List.mem_of_getElem? (i := 37) (by decide +kernel))) rfl
theorem ew_872 : Cond.instanceMethod yX10_leftBehind ∈ ea_tbl := ea_in (et_4 (List.mem_of_getElem? (i := 38) (by decide +kernel))) rfl
theorem ew_873 : Cond.selects RX10 yX10_leftBehind yX10_leftBehind ∈ ea_tbl := ea_in (et_4 (List.mem_of_getElem? (i := 39) (by decide +kernel))) rfl
theorem ew_874 : Cond.code yX10_leftBehind cX10_leftBehind 3 (some .int) ∈ ea_tbl := ea_in (et_4 (List.mem_of_getElem? (i := 40) rfl)) rfl
theorem ew_875 : Cond.methodLink RX1 141 yX4_mark ∈ ea_tbl := ea_in (et_4 (List.mem_of_getElem? (i := 41) (by decide +kernel))) rfl
theorem ew_876 : Cond.instanceMethod yX4_mark ∈ ea_tbl := ea_in (et_4 (List.mem_of_getElem? (i := 42) (by decide +kernel))) rfl
theorem ew_877 : Cond.selects RX4 yX4_mark yX4_mark ∈ ea_tbl := ea_in (et_4 (List.mem_of_getElem? (i := 43) (by decide +kernel))) rfl
theorem ew_878 : Cond.code yX4_mark cX4_mark 3 none ∈ ea_tbl := ea_in (et_4 (List.mem_of_getElem? (i := 44) rfl)) rfl
theorem ew_879 : Cond.methodLink RX4 27 yX4_wordOf ∈ ea_tbl := ea_in (et_4 (List.mem_of_getElem? (i := 45) (by decide +kernel))) rfl
theorem ew_880 : Cond.static yX4_wordOf ∈ ea_tbl := ea_in (et_4 (List.mem_of_getElem? (i := 46) (by decide +kernel))) rfl
theorem ew_881 : Cond.code yX4_wordOf cX4_wordOf 3 (some .int) ∈ ea_tbl := ea_in (et_4 (List.mem_of_getElem? (i := 47) rfl)) rfl
theorem ew_882 : Cond.methodLink RX4 31 yX10_slotIn ∈ ea_tbl := ea_in (et_4 (List.mem_of_getElem? (i := 48) (by decide +kernel))) rfl
theorem ew_883 : Cond.methodLink RX4 37 yX10_isGoing ∈ ea_tbl := ea_in (et_4 (List.mem_of_getElem? (i := 49) (by decide +kernel))) rfl
theorem ew_884 : Cond.methodLink RX1 153 yX3_sitsIn ∈ ea_tbl := ea_in (et_4 (List.mem_of_getElem? (i := 50) (by decide +kernel))) rfl
theorem ew_885 : Cond.instanceMethod yX3_sitsIn ∈ ea_tbl := ea_in (et_4 (List.mem_of_getElem? (i := 51) (by decide +kernel))) rfl
theorem ew_886 : Cond.selects RX3 yX3_sitsIn yX3_sitsIn ∈ ea_tbl := ea_in (et_4 (List.mem_of_getElem? (i := 52) (by decide +kernel))) rfl
theorem ew_887 : Cond.code yX3_sitsIn cX3_sitsIn 3 (some .boolean) ∈ ea_tbl := ea_in (et_4 (List.mem_of_getElem? (i := 53) rfl)) rfl
theorem ew_888 : Cond.methodLink RX1 158 yX1_sort ∈ ea_tbl := ea_in (et_4 (List.mem_of_getElem? (i := 54) (by decide +kernel))) rfl
theorem ew_890 : Cond.instanceMethod yX1_sort ∈ ea_tbl := ea_in (et_4 (List.mem_of_getElem? (i := 56) (by decide +kernel))) rfl
theorem ew_891 : Cond.code yX1_sort cX1_sort 7 none ∈ ea_tbl := ea_in (et_4 (List.mem_of_getElem? (i := 57) rfl)) rfl
theorem ew_892 : Cond.methodLink RX1 165 yX3_begin ∈ ea_tbl := ea_in (et_4 (List.mem_of_getElem? (i := 58) (by decide +kernel))) rfl
theorem ew_893 : Cond.instanceMethod yX3_begin ∈ ea_tbl := ea_in (et_4 (List.mem_of_getElem? (i := 59) (by decide +kernel))) rfl
theorem ew_894 : Cond.selects RX3 yX3_begin yX3_begin ∈ ea_tbl := ea_in (et_4 (List.mem_of_getElem? (i := 60) (by decide +kernel))) rfl
theorem ew_895 : Cond.code yX3_begin cX3_begin 3 none ∈ ea_tbl := ea_in (et_4 (List.mem_of_getElem? (i := 61) rfl)) rfl
theorem ew_896 : Cond.methodLink RX1 73 yX1_isAboard ∈ ea_tbl := ea_in (et_4 (List.mem_of_getElem? (i := 62) (by decide +kernel))) rfl
theorem ew_897 : Cond.instanceMethod yX1_isAboard ∈ ea_tbl := ea_in (et_4 (List.mem_of_getElem? (i := 63) (by decide +kernel))) rfl
theorem ew_898 : Cond.selects RX1 yX1_isAboard yX1_isAboard ∈ ea_tbl := ea_in (et_4 (List.mem_of_getElem? (i := 64) (by decide +kernel))) rfl
theorem ew_899 : Cond.code yX1_isAboard cX1_isAboard 3 (some .boolean) ∈ ea_tbl := ea_in (et_4 (List.mem_of_getElem? (i := 65) rfl)) rfl
theorem ew_900 : Cond.methodLink RX1 168 yX3_sortsOne ∈ ea_tbl := ea_in (et_4 (List.mem_of_getElem? (i := 66) (by decide +kernel))) rfl
theorem ew_901 : Cond.instanceMethod yX3_sortsOne ∈ ea_tbl := ea_in (et_4 (List.mem_of_getElem? (i := 67) (by decide +kernel))) rfl
theorem ew_902 : Cond.selects RX3 yX3_sortsOne yX3_sortsOne ∈ ea_tbl := ea_in (et_4 (List.mem_of_getElem? (i := 68) (by decide +kernel))) rfl
theorem ew_903 : Cond.code yX3_sortsOne cX3_sortsOne 4 (some .boolean) ∈ ea_tbl := ea_in (et_4 (List.mem_of_getElem? (i := 69) rfl)) rfl
theorem ew_904 : Cond.methodLink RX1 108 yX1_comes ∈ ea_tbl := ea_in (et_4 (List.mem_of_getElem? (i := 70) (by decide +kernel))) rfl
theorem ew_906 : Cond.instanceMethod yX1_comes ∈ ea_tbl := ea_in (et_4 (List.mem_of_getElem? (i := 72) (by decide +kernel))) rfl
theorem ew_907 : Cond.code yX1_comes cX1_comes 10 none ∈ ea_tbl := ea_in (et_4 (List.mem_of_getElem? (i := 73) rfl)) rfl
theorem ew_908 : Cond.methodLink RX1 138 yX5_stateIn ∈ ea_tbl := ea_in (et_4 (List.mem_of_getElem? (i := 74) (by decide +kernel))) rfl
theorem ew_909 : Cond.instanceMethod yX5_stateIn ∈ ea_tbl := ea_in (et_4 (List.mem_of_getElem? (i := 75) (by decide +kernel))) rfl
theorem ew_910 : Cond.selects RX5 yX5_stateIn yX5_stateIn ∈ ea_tbl := ea_in (et_4 (List.mem_of_getElem? (i := 76) (by decide +kernel))) rfl
theorem ew_911 : Cond.code yX5_stateIn cX5_stateIn 2 (some .int) ∈ ea_tbl := ea_in (et_4 (List.mem_of_getElem? (i := 77) rfl)) rfl
theorem ew_915 : Cond.code yX11_look cX11_look 2 (some .int) ∈ ea_tbl := ea_in (et_4 (List.mem_of_getElem? (i := 81) rfl)) rfl
theorem ew_916 : Cond.methodLink RX11 169 yX1_inState ∈ ea_tbl := ea_in (et_4 (List.mem_of_getElem? (i := 82) (by decide +kernel))) rfl
theorem ew_917 : Cond.instanceMethod yX1_inState ∈ ea_tbl := ea_in (et_4 (List.mem_of_getElem? (i := 83) (by decide +kernel))) rfl
theorem ew_918 : Cond.selects RX1 yX1_inState yX1_inState ∈ ea_tbl := ea_in (et_4 (List.mem_of_getElem? (i := 84) (by decide +kernel))) rfl
theorem ew_919 : Cond.code yX1_inState cX1_inState 4 (some .int) ∈ ea_tbl := ea_in (et_4 (List.mem_of_getElem? (i := 85) rfl)) rfl
theorem ew_923 : Cond.code yX11_feed cX11_feed 7 (some .int) ∈ ea_tbl := ea_in (et_4 (List.mem_of_getElem? (i := 89) rfl)) rfl
theorem ew_924 : Cond.methodLink RX11 185 yX6_take ∈ ea_tbl := ea_in (et_4 (List.mem_of_getElem? (i := 90) (by decide +kernel))) rfl
theorem ew_925 : Cond.instanceMethod yX6_take ∈ ea_tbl := ea_in (et_4 (List.mem_of_getElem? (i := 91) (by decide +kernel))) rfl
theorem ew_926 : Cond.selects RX6 yX6_take yX6_take ∈ ea_tbl := ea_in (et_4 (List.mem_of_getElem? (i := 92) (by decide +kernel))) rfl
theorem ew_927 : Cond.code yX6_take cX6_take 3 none ∈ ea_tbl := ea_in (et_4 (List.mem_of_getElem? (i := 93) rfl)) rfl
theorem ew_931 : Cond.code yX11_end cX11_end 2 (some .boolean) ∈ ea_tbl := ea_in (et_4 (List.mem_of_getElem? (i := 97) rfl)) rfl
theorem ew_935 : Cond.code yX11_act cX11_act 2 (some .int) ∈ ea_tbl := ea_in (et_4 (List.mem_of_getElem? (i := 101) rfl)) rfl
theorem ew_936 : Cond.methodLink RX11 189 yX8_mayBegin ∈ ea_tbl := ea_in (et_4 (List.mem_of_getElem? (i := 102) (by decide +kernel))) rfl
theorem ew_937 : Cond.instanceMethod yX8_mayBegin ∈ ea_tbl := ea_in (et_4 (List.mem_of_getElem? (i := 103) (by decide +kernel))) rfl
theorem ew_938 : Cond.selects RX8 yX8_mayBegin yX8_mayBegin ∈ ea_tbl := ea_in (et_4 (List.mem_of_getElem? (i := 104) (by decide +kernel))) rfl
theorem ew_939 : Cond.code yX8_mayBegin cX8_mayBegin 3 (some .boolean) ∈ ea_tbl := ea_in (et_4 (List.mem_of_getElem? (i := 105) rfl)) rfl
theorem ew_940 : Cond.methodLink RX11 192 yX6_drop ∈ ea_tbl := ea_in (et_4 (List.mem_of_getElem? (i := 106) (by decide +kernel))) rfl
theorem ew_941 : Cond.instanceMethod yX6_drop ∈ ea_tbl := ea_in (et_4 (List.mem_of_getElem? (i := 107) (by decide +kernel))) rfl
theorem ew_942 : Cond.selects RX6 yX6_drop yX6_drop ∈ ea_tbl := ea_in (et_4 (List.mem_of_getElem? (i := 108) (by decide +kernel))) rfl
theorem ew_943 : Cond.code yX6_drop cX6_drop 1 none ∈ ea_tbl := ea_in (et_4 (List.mem_of_getElem? (i := 109) rfl)) rfl
theorem ew_944 : Cond.methodLink RX11 195 yX8_next ∈ ea_tbl := ea_in (et_4 (List.mem_of_getElem? (i := 110) (by decide +kernel))) rfl
theorem ew_945 : Cond.instanceMethod yX8_next ∈ ea_tbl := ea_in (et_4 (List.mem_of_getElem? (i := 111) (by decide +kernel))) rfl
theorem ew_946 : Cond.selects RX8 yX8_next yX8_next ∈ ea_tbl := ea_in (et_4 (List.mem_of_getElem? (i := 112) (by decide +kernel))) rfl
theorem ew_947 : Cond.code yX8_next cX8_next 2 (some (.object RX0)) ∈ ea_tbl := ea_in (et_4 (List.mem_of_getElem? (i := 113) rfl)) rfl
theorem ew_948 : Cond.methodLink RX8 39 yX0_begin ∈ ea_tbl := ea_in (et_4 (List.mem_of_getElem? (i := 114) (by decide +kernel))) rfl
theorem ew_949 : Cond.instanceMethod yX0_begin ∈ ea_tbl := ea_in (et_4 (List.mem_of_getElem? (i := 115) (by decide +kernel))) rfl
theorem ew_950 : Cond.selects RX0 yX0_begin yX0_begin ∈ ea_tbl := ea_in (et_4 (List.mem_of_getElem? (i := 116) (by decide +kernel))) rfl
theorem ew_951 : Cond.code yX0_begin cX0_begin 2 none ∈ ea_tbl := ea_in (et_4 (List.mem_of_getElem? (i := 117) rfl)) rfl
theorem ew_952 : Cond.methodLink RX11 199 yX6_read ∈ ea_tbl := ea_in (et_4 (List.mem_of_getElem? (i := 118) (by decide +kernel))) rfl
theorem ew_953 : Cond.instanceMethod yX6_read ∈ ea_tbl := ea_in (et_4 (List.mem_of_getElem? (i := 119) (by decide +kernel))) rfl
theorem ew_954 : Cond.selects RX6 yX6_read yX6_read ∈ ea_tbl := ea_in (et_4 (List.mem_of_getElem? (i := 120) (by decide +kernel))) rfl
theorem ew_955 : Cond.code yX6_read cX6_read 5 (some .boolean) ∈ ea_tbl := ea_in (et_4 (List.mem_of_getElem? (i := 121) rfl)) rfl
theorem ew_956 : Cond.methodLink RX6 37 yX6_scan ∈ ea_tbl := ea_in (et_4 (List.mem_of_getElem? (i := 122) (by decide +kernel))) rfl
theorem ew_958 : Cond.instanceMethod yX6_scan ∈ ea_tbl := ea_in (et_4 (List.mem_of_getElem? (i := 124) (by decide +kernel))) rfl
theorem ew_959 : Cond.code yX6_scan cX6_scan 3 none ∈ ea_tbl := ea_in (et_4 (List.mem_of_getElem? (i := 125) rfl)) rfl
theorem ew_960 : Cond.methodLink RX6 136 yX6_isLetter ∈ ea_tbl := ea_in (et_4 (List.mem_of_getElem? (i := 126) (by decide +kernel))) rfl
theorem ew_961 : Cond.static yX6_isLetter ∈ ea_tbl := ea_in (et_4 (List.mem_of_getElem? (i := 127) (by decide +kernel))) rfl
theorem ew_962 : Cond.code yX6_isLetter cX6_isLetter 1 (some .boolean) ∈ ea_tbl := ea_in (et_4 (List.mem_of_getElem? (i := 128) rfl)) rfl
theorem ew_963 : Cond.methodLink RX6 139 yX6_scanWord ∈ ea_tbl := ea_in (et_4 (List.mem_of_getElem? (i := 129) (by decide +kernel))) rfl
theorem ew_965 : Cond.instanceMethod yX6_scanWord ∈ ea_tbl := ea_in (et_4 (List.mem_of_getElem? (i := 131) (by decide +kernel))) rfl
theorem ew_966 : Cond.code yX6_scanWord cX6_scanWord 6 none ∈ ea_tbl := ea_in (et_4 (List.mem_of_getElem? (i := 132) rfl)) rfl
theorem ew_967 : Cond.constantLong RX6 134 (-1) ∈ ea_tbl := ea_in (et_4 (List.mem_of_getElem? (i := 133) (by decide +kernel))) rfl
theorem ew_968 : Cond.fieldLink RX6 155 RX6 "WORDS" "[J" ∈ ea_tbl := ea_in (et_4 (List.mem_of_getElem? (i := 134) (by decide +kernel))) rfl
theorem ew_970 : Cond.methodLink RX6 151 yX6_addToken ∈ ea_tbl := ea_in (et_4 (List.mem_of_getElem? (i := 136) (by decide +kernel))) rfl
theorem ew_972 : Cond.instanceMethod yX6_addToken ∈ ea_tbl := ea_in (et_4 (List.mem_of_getElem? (i := 138) (by decide +kernel))) rfl
theorem ew_973 : Cond.code yX6_addToken cX6_addToken 4 none ∈ ea_tbl := ea_in (et_4 (List.mem_of_getElem? (i := 139) rfl)) rfl
theorem ew_974 : Cond.methodLink RX6 142 yX6_isDigit ∈ ea_tbl := ea_in (et_4 (List.mem_of_getElem? (i := 140) (by decide +kernel))) rfl
theorem ew_975 : Cond.static yX6_isDigit ∈ ea_tbl := ea_in (et_4 (List.mem_of_getElem? (i := 141) (by decide +kernel))) rfl
theorem ew_976 : Cond.code yX6_isDigit cX6_isDigit 1 (some .boolean) ∈ ea_tbl := ea_in (et_4 (List.mem_of_getElem? (i := 142) rfl)) rfl
theorem ew_977 : Cond.methodLink RX6 145 yX6_scanNumber ∈ ea_tbl := ea_in (et_4 (List.mem_of_getElem? (i := 143) (by decide +kernel))) rfl
theorem ew_979 : Cond.instanceMethod yX6_scanNumber ∈ ea_tbl := ea_in (et_4 (List.mem_of_getElem? (i := 145) (by decide +kernel))) rfl
theorem ew_980 : Cond.code yX6_scanNumber cX6_scanNumber 4 none ∈ ea_tbl := ea_in (et_4 (List.mem_of_getElem? (i := 146) rfl)) rfl
theorem ew_981 : Cond.methodLink RX6 158 yJ9_max_7cf53 ∈ ea_tbl := ea_in (et_4 (List.mem_of_getElem? (i := 147) (by decide +kernel))) rfl
theorem ew_982 : Cond.static yJ9_max_7cf53 ∈ ea_tbl := ea_in (et_4 (List.mem_of_getElem? (i := 148) (by decide +kernel))) rfl
theorem ew_983 : Cond.code yJ9_max_7cf53 cJ9_max_7cf53 2 (some .int) ∈ ea_tbl := ea_in (et_4 (List.mem_of_getElem? (i := 149) rfl)) rfl
theorem ew_984 : Cond.methodLink RX6 148 yX6_isSign ∈ ea_tbl := ea_in (et_4 (List.mem_of_getElem? (i := 150) (by decide +kernel))) rfl
theorem ew_985 : Cond.static yX6_isSign ∈ ea_tbl := ea_in (et_4 (List.mem_of_getElem? (i := 151) (by decide +kernel))) rfl
theorem ew_986 : Cond.code yX6_isSign cX6_isSign 1 (some .boolean) ∈ ea_tbl := ea_in (et_4 (List.mem_of_getElem? (i := 152) rfl)) rfl
theorem ew_987 : Cond.methodLink RX6 40 yX6_drop ∈ ea_tbl := ea_in (et_4 (List.mem_of_getElem? (i := 153) (by decide +kernel))) rfl
theorem ew_988 : Cond.methodLink RX6 49 yX6_refuse ∈ ea_tbl := ea_in (et_4 (List.mem_of_getElem? (i := 154) (by decide +kernel))) rfl
theorem ew_990 : Cond.instanceMethod yX6_refuse ∈ ea_tbl := ea_in (et_4 (List.mem_of_getElem? (i := 156) (by decide +kernel))) rfl
theorem ew_991 : Cond.code yX6_refuse cX6_refuse 2 (some .boolean) ∈ ea_tbl := ea_in (et_4 (List.mem_of_getElem? (i := 157) rfl)) rfl
theorem ew_992 : Cond.methodLink RX6 58 yX6_readCharge ∈ ea_tbl := ea_in (et_4 (List.mem_of_getElem? (i := 158) (by decide +kernel))) rfl
theorem ew_994 : Cond.instanceMethod yX6_readCharge ∈ ea_tbl := ea_in (et_4 (List.mem_of_getElem? (i := 160) (by decide +kernel))) rfl
theorem ew_995 : Cond.code yX6_readCharge cX6_readCharge 4 (some .boolean) ∈ ea_tbl := ea_in (et_4 (List.mem_of_getElem? (i := 161) rfl)) rfl
theorem ew_996 : Cond.methodLink RX6 68 yX6_step ∈ ea_tbl := ea_in (et_4 (List.mem_of_getElem? (i := 162) (by decide +kernel))) rfl
theorem ew_998 : Cond.instanceMethod yX6_step ∈ ea_tbl := ea_in (et_4 (List.mem_of_getElem? (i := 164) (by decide +kernel))) rfl
theorem ew_999 : Cond.code yX6_step cX6_step 1 none ∈ ea_tbl := ea_in (et_4 (List.mem_of_getElem? (i := 165) rfl)) rfl
theorem ew_1000 : Cond.methodLink RX6 106 yX6_readSum ∈ ea_tbl := ea_in (et_4 (List.mem_of_getElem? (i := 166) (by decide +kernel))) rfl
theorem ew_1002 : Cond.instanceMethod yX6_readSum ∈ ea_tbl := ea_in (et_4 (List.mem_of_getElem? (i := 168) (by decide +kernel))) rfl
theorem ew_1003 : Cond.code yX6_readSum cX6_readSum 4 (some .boolean) ∈ ea_tbl := ea_in (et_4 (List.mem_of_getElem? (i := 169) rfl)) rfl
theorem ew_1004 : Cond.methodLink RX6 123 yX6_readProduct ∈ ea_tbl := ea_in (et_4 (List.mem_of_getElem? (i := 170) (by decide +kernel))) rfl
theorem ew_1006 : Cond.instanceMethod yX6_readProduct ∈ ea_tbl := ea_in (et_4 (List.mem_of_getElem? (i := 172) (by decide +kernel))) rfl
theorem ew_1007 : Cond.code yX6_readProduct cX6_readProduct 4 (some .boolean) ∈ ea_tbl := ea_in (et_4 (List.mem_of_getElem? (i := 173) rfl)) rfl
theorem ew_1008 : Cond.methodLink RX6 126 yX6_readUnit ∈ ea_tbl := ea_in (et_4 (List.mem_of_getElem? (i := 174) (by decide +kernel))) rfl
theorem ew_1010 : Cond.instanceMethod yX6_readUnit ∈ ea_tbl := ea_in (et_4 (List.mem_of_getElem? (i := 176) (by decide +kernel))) rfl
theorem ew_1011 : Cond.code yX6_readUnit cX6_readUnit 2 (some .boolean) ∈ ea_tbl := ea_in (et_4 (List.mem_of_getElem? (i := 177) rfl)) rfl
theorem ew_1012 : Cond.methodLink RX6 71 yX6_value ∈ ea_tbl := ea_in (et_4 (List.mem_of_getElem? (i := 178) (by decide +kernel))) rfl
theorem ew_1014 : Cond.instanceMethod yX6_value ∈ ea_tbl := ea_in (et_4 (List.mem_of_getElem? (i := 180) (by decide +kernel))) rfl
theorem ew_1015 : Cond.code yX6_value cX6_value 1 (some .int) ∈ ea_tbl := ea_in (et_4 (List.mem_of_getElem? (i := 181) rfl)) rfl
theorem ew_1016 : Cond.methodLink RX6 109 yX6_put ∈ ea_tbl := ea_in (et_4 (List.mem_of_getElem? (i := 182) (by decide +kernel))) rfl
theorem ew_1018 : Cond.instanceMethod yX6_put ∈ ea_tbl := ea_in (et_4 (List.mem_of_getElem? (i := 184) (by decide +kernel))) rfl
theorem ew_1019 : Cond.code yX6_put cX6_put 3 none ∈ ea_tbl := ea_in (et_4 (List.mem_of_getElem? (i := 185) rfl)) rfl
theorem ew_1020 : Cond.constantLong RX6 132 65535 ∈ ea_tbl := ea_in (et_4 (List.mem_of_getElem? (i := 186) (by decide +kernel))) rfl
theorem ew_1021 : Cond.methodLink RX6 113 yX6_readWhen ∈ ea_tbl := ea_in (et_4 (List.mem_of_getElem? (i := 187) (by decide +kernel))) rfl
theorem ew_1023 : Cond.instanceMethod yX6_readWhen ∈ ea_tbl := ea_in (et_4 (List.mem_of_getElem? (i := 189) (by decide +kernel))) rfl
theorem ew_1024 : Cond.code yX6_readWhen cX6_readWhen 6 (some .boolean) ∈ ea_tbl := ea_in (et_4 (List.mem_of_getElem? (i := 190) rfl)) rfl
theorem ew_1025 : Cond.methodLink RX6 117 yX6_readNots ∈ ea_tbl := ea_in (et_4 (List.mem_of_getElem? (i := 191) (by decide +kernel))) rfl
theorem ew_1027 : Cond.instanceMethod yX6_readNots ∈ ea_tbl := ea_in (et_4 (List.mem_of_getElem? (i := 193) (by decide +kernel))) rfl
theorem ew_1028 : Cond.code yX6_readNots cX6_readNots 2 (some .int) ∈ ea_tbl := ea_in (et_4 (List.mem_of_getElem? (i := 194) rfl)) rfl
theorem ew_1029 : Cond.methodLink RX6 120 yX6_comparison ∈ ea_tbl := ea_in (et_4 (List.mem_of_getElem? (i := 195) (by decide +kernel))) rfl
theorem ew_1031 : Cond.instanceMethod yX6_comparison ∈ ea_tbl := ea_in (et_4 (List.mem_of_getElem? (i := 197) (by decide +kernel))) rfl
theorem ew_1032 : Cond.code yX6_comparison cX6_comparison 1 (some .int) ∈ ea_tbl := ea_in (et_4 (List.mem_of_getElem? (i := 198) rfl)) rfl
theorem ew_1033 : Cond.methodLink RX6 62 yX6_readRule ∈ ea_tbl := ea_in (et_4 (List.mem_of_getElem? (i := 199) (by decide +kernel))) rfl
theorem ew_1035 : Cond.instanceMethod yX6_readRule ∈ ea_tbl := ea_in (et_4 (List.mem_of_getElem? (i := 201) (by decide +kernel))) rfl
theorem ew_1036 : Cond.code yX6_readRule cX6_readRule 4 (some .boolean) ∈ ea_tbl := ea_in (et_4 (List.mem_of_getElem? (i := 202) rfl)) rfl
theorem ew_1037 : Cond.methodLink RX6 75 yX6_readAfter ∈ ea_tbl := ea_in (et_4 (List.mem_of_getElem? (i := 203) (by decide +kernel))) rfl
theorem ew_1039 : Cond.instanceMethod yX6_readAfter ∈ ea_tbl := ea_in (et_4 (List.mem_of_getElem? (i := 205) (by decide +kernel))) rfl
theorem ew_1040 : Cond.code yX6_readAfter cX6_readAfter 3 (some .boolean) ∈ ea_tbl := ea_in (et_4 (List.mem_of_getElem? (i := 206) rfl)) rfl
theorem ew_1041 : Cond.methodLink RX6 65 yX6_skip ∈ ea_tbl := ea_in (et_4 (List.mem_of_getElem? (i := 207) (by decide +kernel))) rfl
theorem ew_1043 : Cond.instanceMethod yX6_skip ∈ ea_tbl := ea_in (et_4 (List.mem_of_getElem? (i := 209) (by decide +kernel))) rfl
theorem ew_1044 : Cond.code yX6_skip cX6_skip 2 (some .boolean) ∈ ea_tbl := ea_in (et_4 (List.mem_of_getElem? (i := 210) rfl)) rfl
theorem ew_1045 : Cond.methodLink RX11 203 yX8_add ∈ ea_tbl := ea_in (et_4 (List.mem_of_getElem? (i := 211) (by decide +kernel))) rfl
theorem ew_1046 : Cond.instanceMethod yX8_add ∈ ea_tbl := ea_in (et_4 (List.mem_of_getElem? (i := 212) (by decide +kernel))) rfl
theorem ew_1047 : Cond.selects RX8 yX8_add yX8_add ∈ ea_tbl := ea_in (et_4 (List.mem_of_getElem? (i := 213) (by decide +kernel))) rfl
theorem ew_1048 : Cond.code yX8_add cX8_add 1 (some .int) ∈ ea_tbl := ea_in (et_4 (List.mem_of_getElem? (i := 214) rfl)) rfl
theorem ew_1052 : Cond.code yX11_fault cX11_fault 2 (some .int) ∈ ea_tbl := ea_in (et_4 (List.mem_of_getElem? (i := 218) rfl)) rfl
theorem ew_1056 : Cond.code yX11_inForce cX11_inForce 5 (some .int) ∈ ea_tbl := ea_in (et_4 (List.mem_of_getElem? (i := 222) rfl)) rfl
theorem ew_1057 : Cond.methodLink RX11 212 yX8_numberOn ∈ ea_tbl := ea_in (et_4 (List.mem_of_getElem? (i := 223) (by decide +kernel))) rfl
theorem ew_1058 : Cond.instanceMethod yX8_numberOn ∈ ea_tbl := ea_in (et_4 (List.mem_of_getElem? (i := 224) (by decide +kernel))) rfl
theorem ew_1059 : Cond.selects RX8 yX8_numberOn yX8_numberOn ∈ ea_tbl := ea_in (et_4 (List.mem_of_getElem? (i := 225) (by decide +kernel))) rfl
theorem ew_1060 : Cond.code yX8_numberOn cX8_numberOn 4 (some .int) ∈ ea_tbl := ea_in (et_4 (List.mem_of_getElem? (i := 226) rfl)) rfl
theorem ew_1061 : Cond.methodLink RX11 215 yX8_actOf ∈ ea_tbl := ea_in (et_4 (List.mem_of_getElem? (i := 227) (by decide +kernel))) rfl
theorem ew_1062 : Cond.instanceMethod yX8_actOf ∈ ea_tbl := ea_in (et_4 (List.mem_of_getElem? (i := 228) (by decide +kernel))) rfl
theorem ew_1063 : Cond.selects RX8 yX8_actOf yX8_actOf ∈ ea_tbl := ea_in (et_4 (List.mem_of_getElem? (i := 229) (by decide +kernel))) rfl
theorem ew_1064 : Cond.code yX8_actOf cX8_actOf 2 (some (.object RX0)) ∈ ea_tbl := ea_in (et_4 (List.mem_of_getElem? (i := 230) rfl)) rfl
theorem ew_1068 : Cond.code yX11_post cX11_post 9 (some .int) ∈ ea_tbl := ea_in (et_4 (List.mem_of_getElem? (i := 234) rfl)) rfl
theorem ew_1069 : Cond.methodLink RX11 241 yX5_begin ∈ ea_tbl := ea_in (et_4 (List.mem_of_getElem? (i := 235) (by decide +kernel))) rfl
theorem ew_1070 : Cond.instanceMethod yX5_begin ∈ ea_tbl := ea_in (et_4 (List.mem_of_getElem? (i := 236) (by decide +kernel))) rfl
theorem ew_1071 : Cond.selects RX5 yX5_begin yX5_begin ∈ ea_tbl := ea_in (et_4 (List.mem_of_getElem? (i := 237) (by decide +kernel))) rfl
theorem ew_1072 : Cond.code yX5_begin cX5_begin 7 none ∈ ea_tbl := ea_in (et_4 (List.mem_of_getElem? (i := 238) rfl)) rfl
theorem ew_1073 : Cond.methodLink RX11 248 yJ9_max_7cf53 ∈ ea_tbl := ea_in (et_4 (List.mem_of_getElem? (i := 239) (by decide +kernel))) rfl
theorem ew_1074 : Cond.methodLink RX11 256 yX7_isCross ∈ ea_tbl := ea_in (et_5 (List.mem_of_getElem? (i := 0) (by decide +kernel))) rfl
theorem ew_1075 : Cond.instanceMethod yX7_isCross ∈ ea_tbl := ea_in (et_5 (List.mem_of_getElem? (i := 1) (by decide +kernel))) rfl
theorem ew_1076 : Cond.selects RX7 yX7_isCross yX7_isCross ∈ ea_tbl := ea_in (et_5 (List.mem_of_getElem? (i := 2) (by decide +kernel))) rfl
theorem ew_1077 : Cond.code yX7_isCross cX7_isCross 4 (some .boolean) ∈ ea_tbl := ea_in (et_5 (List.mem_of_getElem? (i := 3) rfl)) rfl
theorem ew_1078 : Cond.methodLink RX11 262 yX11_franksAhead ∈ ea_tbl := ea_in (et_5 (List.mem_of_getElem? (i := 4) (by decide +kernel))) rfl
theorem ew_1080 : Cond.instanceMethod yX11_franksAhead ∈ ea_tbl := ea_in (et_5 (List.mem_of_getElem? (i := 6) (by decide +kernel))) rfl
theorem ew_1081 : Cond.code yX11_franksAhead cX11_franksAhead 5 (some .int) ∈ ea_tbl := ea_in (et_5 (List.mem_of_getElem? (i := 7) rfl)) rfl
theorem ew_1082 : Cond.methodLink RX11 476 yX5_dayOf ∈ ea_tbl := ea_in (et_5 (List.mem_of_getElem? (i := 8) (by decide +kernel))) rfl
theorem ew_1083 : Cond.instanceMethod yX5_dayOf ∈ ea_tbl := ea_in (et_5 (List.mem_of_getElem? (i := 9) (by decide +kernel))) rfl
theorem ew_1084 : Cond.selects RX5 yX5_dayOf yX5_dayOf ∈ ea_tbl := ea_in (et_5 (List.mem_of_getElem? (i := 10) (by decide +kernel))) rfl
theorem ew_1085 : Cond.code yX5_dayOf cX5_dayOf 1 (some .int) ∈ ea_tbl := ea_in (et_5 (List.mem_of_getElem? (i := 11) rfl)) rfl
theorem ew_1086 : Cond.methodLink RX11 268 yX8_price ∈ ea_tbl := ea_in (et_5 (List.mem_of_getElem? (i := 12) (by decide +kernel))) rfl
theorem ew_1087 : Cond.instanceMethod yX8_price ∈ ea_tbl := ea_in (et_5 (List.mem_of_getElem? (i := 13) (by decide +kernel))) rfl
theorem ew_1088 : Cond.selects RX8 yX8_price yX8_price ∈ ea_tbl := ea_in (et_5 (List.mem_of_getElem? (i := 14) (by decide +kernel))) rfl
theorem ew_1089 : Cond.code yX8_price cX8_price 3 none ∈ ea_tbl := ea_in (et_5 (List.mem_of_getElem? (i := 15) rfl)) rfl
theorem ew_1090 : Cond.methodLink RX8 43 yX5_dayOf ∈ ea_tbl := ea_in (et_5 (List.mem_of_getElem? (i := 16) (by decide +kernel))) rfl
theorem ew_1091 : Cond.methodLink RX8 49 yX8_numberOn ∈ ea_tbl := ea_in (et_5 (List.mem_of_getElem? (i := 17) (by decide +kernel))) rfl
theorem ew_1092 : Cond.methodLink RX8 56 yX8_actOf ∈ ea_tbl := ea_in (et_5 (List.mem_of_getElem? (i := 18) (by decide +kernel))) rfl
theorem ew_1093 : Cond.methodLink RX8 66 yX8_isFree ∈ ea_tbl := ea_in (et_5 (List.mem_of_getElem? (i := 19) (by decide +kernel))) rfl
theorem ew_1094 : Cond.static yX8_isFree ∈ ea_tbl := ea_in (et_5 (List.mem_of_getElem? (i := 20) (by decide +kernel))) rfl
theorem ew_1095 : Cond.code yX8_isFree cX8_isFree 2 (some .boolean) ∈ ea_tbl := ea_in (et_5 (List.mem_of_getElem? (i := 21) rfl)) rfl
theorem ew_1096 : Cond.methodLink RX8 74 yX8_chargeBy ∈ ea_tbl := ea_in (et_5 (List.mem_of_getElem? (i := 22) (by decide +kernel))) rfl
theorem ew_1097 : Cond.instanceMethod yX8_chargeBy ∈ ea_tbl := ea_in (et_5 (List.mem_of_getElem? (i := 23) (by decide +kernel))) rfl
theorem ew_1098 : Cond.selects RX8 yX8_chargeBy yX8_chargeBy ∈ ea_tbl := ea_in (et_5 (List.mem_of_getElem? (i := 24) (by decide +kernel))) rfl
theorem ew_1099 : Cond.code yX8_chargeBy cX8_chargeBy 5 (some .int) ∈ ea_tbl := ea_in (et_5 (List.mem_of_getElem? (i := 25) rfl)) rfl
theorem ew_1100 : Cond.methodLink RX8 81 yX8_lineFor ∈ ea_tbl := ea_in (et_5 (List.mem_of_getElem? (i := 26) (by decide +kernel))) rfl
theorem ew_1102 : Cond.instanceMethod yX8_lineFor ∈ ea_tbl := ea_in (et_5 (List.mem_of_getElem? (i := 28) (by decide +kernel))) rfl
theorem ew_1103 : Cond.code yX8_lineFor cX8_lineFor 4 (some .int) ∈ ea_tbl := ea_in (et_5 (List.mem_of_getElem? (i := 29) rfl)) rfl
theorem ew_1104 : Cond.methodLink RX8 127 yX8_ask ∈ ea_tbl := ea_in (et_5 (List.mem_of_getElem? (i := 30) (by decide +kernel))) rfl
theorem ew_1106 : Cond.instanceMethod yX8_ask ∈ ea_tbl := ea_in (et_5 (List.mem_of_getElem? (i := 32) (by decide +kernel))) rfl
theorem ew_1107 : Cond.code yX8_ask cX8_ask 2 none ∈ ea_tbl := ea_in (et_5 (List.mem_of_getElem? (i := 33) rfl)) rfl
theorem ew_1108 : Cond.methodLink RX8 90 yX8_worth ∈ ea_tbl := ea_in (et_5 (List.mem_of_getElem? (i := 34) (by decide +kernel))) rfl
theorem ew_1110 : Cond.instanceMethod yX8_worth ∈ ea_tbl := ea_in (et_5 (List.mem_of_getElem? (i := 36) (by decide +kernel))) rfl
theorem ew_1111 : Cond.code yX8_worth cX8_worth 5 (some .int) ∈ ea_tbl := ea_in (et_5 (List.mem_of_getElem? (i := 37) rfl)) rfl
theorem ew_1112 : Cond.methodLink RX8 149 yX6_codeAt ∈ ea_tbl := ea_in (et_5 (List.mem_of_getElem? (i := 38) (by decide +kernel))) rfl
theorem ew_1113 : Cond.instanceMethod yX6_codeAt ∈ ea_tbl := ea_in (et_5 (List.mem_of_getElem? (i := 39) (by decide +kernel))) rfl
theorem ew_1114 : Cond.selects RX6 yX6_codeAt yX6_codeAt ∈ ea_tbl := ea_in (et_5 (List.mem_of_getElem? (i := 40) (by decide +kernel))) rfl
theorem ew_1115 : Cond.code yX6_codeAt cX6_codeAt 2 (some .int) ∈ ea_tbl := ea_in (et_5 (List.mem_of_getElem? (i := 41) rfl)) rfl
theorem ew_1116 : Cond.methodLink RX8 152 yX8_joined ∈ ea_tbl := ea_in (et_5 (List.mem_of_getElem? (i := 42) (by decide +kernel))) rfl
theorem ew_1117 : Cond.static yX8_joined ∈ ea_tbl := ea_in (et_5 (List.mem_of_getElem? (i := 43) (by decide +kernel))) rfl
theorem ew_1118 : Cond.code yX8_joined cX8_joined 3 (some .int) ∈ ea_tbl := ea_in (et_5 (List.mem_of_getElem? (i := 44) rfl)) rfl
theorem ew_1119 : Cond.methodLink RX8 93 yJ9_max_7cf53 ∈ ea_tbl := ea_in (et_5 (List.mem_of_getElem? (i := 45) (by decide +kernel))) rfl
theorem ew_1120 : Cond.constant RX8 99 99999 ∈ ea_tbl := ea_in (et_5 (List.mem_of_getElem? (i := 46) (by decide +kernel))) rfl
theorem ew_1121 : Cond.methodLink RX8 100 yJ9_min_7cf53 ∈ ea_tbl := ea_in (et_5 (List.mem_of_getElem? (i := 47) (by decide +kernel))) rfl
theorem ew_1122 : Cond.methodLink RX11 272 yX1_begin ∈ ea_tbl := ea_in (et_5 (List.mem_of_getElem? (i := 48) (by decide +kernel))) rfl
theorem ew_1123 : Cond.instanceMethod yX1_begin ∈ ea_tbl := ea_in (et_5 (List.mem_of_getElem? (i := 49) (by decide +kernel))) rfl
theorem ew_1124 : Cond.selects RX1 yX1_begin yX1_begin ∈ ea_tbl := ea_in (et_5 (List.mem_of_getElem? (i := 50) (by decide +kernel))) rfl
theorem ew_1125 : Cond.code yX1_begin cX1_begin 4 none ∈ ea_tbl := ea_in (et_5 (List.mem_of_getElem? (i := 51) rfl)) rfl
theorem ew_1129 : Cond.code yX11_of cX11_of 5 (some .int) ∈ ea_tbl := ea_in (et_5 (List.mem_of_getElem? (i := 55) rfl)) rfl
theorem ew_1130 : Cond.methodLink RX11 274 yX11_letterOf ∈ ea_tbl := ea_in (et_5 (List.mem_of_getElem? (i := 56) (by decide +kernel))) rfl
theorem ew_1132 : Cond.instanceMethod yX11_letterOf ∈ ea_tbl := ea_in (et_5 (List.mem_of_getElem? (i := 58) (by decide +kernel))) rfl
theorem ew_1133 : Cond.code yX11_letterOf cX11_letterOf 2 (some (.object RX5)) ∈ ea_tbl := ea_in (et_5 (List.mem_of_getElem? (i := 59) rfl)) rfl
theorem ew_1137 : Cond.code yX11_charge cX11_charge 4 (some .int) ∈ ea_tbl := ea_in (et_5 (List.mem_of_getElem? (i := 63) rfl)) rfl
theorem ew_1138 : Cond.methodLink RX11 320 yX5_owed ∈ ea_tbl := ea_in (et_5 (List.mem_of_getElem? (i := 64) (by decide +kernel))) rfl
theorem ew_1139 : Cond.instanceMethod yX5_owed ∈ ea_tbl := ea_in (et_5 (List.mem_of_getElem? (i := 65) (by decide +kernel))) rfl
theorem ew_1140 : Cond.selects RX5 yX5_owed yX5_owed ∈ ea_tbl := ea_in (et_5 (List.mem_of_getElem? (i := 66) (by decide +kernel))) rfl
theorem ew_1141 : Cond.code yX5_owed cX5_owed 1 (some .int) ∈ ea_tbl := ea_in (et_5 (List.mem_of_getElem? (i := 67) rfl)) rfl
theorem ew_1145 : Cond.code yX11_way cX11_way 7 (some .int) ∈ ea_tbl := ea_in (et_5 (List.mem_of_getElem? (i := 71) rfl)) rfl
theorem ew_1146 : Cond.methodLink RX11 326 yX10_bestFrom ∈ ea_tbl := ea_in (et_5 (List.mem_of_getElem? (i := 72) (by decide +kernel))) rfl
theorem ew_1147 : Cond.instanceMethod yX10_bestFrom ∈ ea_tbl := ea_in (et_5 (List.mem_of_getElem? (i := 73) (by decide +kernel))) rfl
theorem ew_1148 : Cond.selects RX10 yX10_bestFrom yX10_bestFrom ∈ ea_tbl := ea_in (et_5 (List.mem_of_getElem? (i := 74) (by decide +kernel))) rfl
theorem ew_1149 : Cond.code yX10_bestFrom cX10_bestFrom 10 (some .long) ∈ ea_tbl := ea_in (et_5 (List.mem_of_getElem? (i := 75) rfl)) rfl
theorem ew_1150 : Cond.methodLink RX10 78 yX10_refresh ∈ ea_tbl := ea_in (et_5 (List.mem_of_getElem? (i := 76) (by decide +kernel))) rfl
theorem ew_1151 : Cond.methodLink RX10 81 yX10_firstTaken ∈ ea_tbl := ea_in (et_5 (List.mem_of_getElem? (i := 77) (by decide +kernel))) rfl
theorem ew_1153 : Cond.instanceMethod yX10_firstTaken ∈ ea_tbl := ea_in (et_5 (List.mem_of_getElem? (i := 79) (by decide +kernel))) rfl
theorem ew_1154 : Cond.code yX10_firstTaken cX10_firstTaken 6 (some .int) ∈ ea_tbl := ea_in (et_5 (List.mem_of_getElem? (i := 80) rfl)) rfl
theorem ew_1155 : Cond.methodLink RX10 74 yX10_leftBehind ∈ ea_tbl := ea_in (et_5 (List.mem_of_getElem? (i := 81) (by decide +kernel))) rfl
theorem ew_1156 : Cond.constantLong RX11 330 4611686018427387904 ∈ ea_tbl := ea_in (et_5 (List.mem_of_getElem? (i := 82) (by decide +kernel))) rfl
theorem ew_1157 : Cond.methodLink RX11 332 yX10_minuteOf ∈ ea_tbl := ea_in (et_5 (List.mem_of_getElem? (i := 83) (by decide +kernel))) rfl
theorem ew_1158 : Cond.static yX10_minuteOf ∈ ea_tbl := ea_in (et_5 (List.mem_of_getElem? (i := 84) (by decide +kernel))) rfl
theorem ew_1159 : Cond.code yX10_minuteOf cX10_minuteOf 2 (some .int) ∈ ea_tbl := ea_in (et_5 (List.mem_of_getElem? (i := 85) rfl)) rfl
theorem ew_1160 : Cond.methodLink RX11 336 yX10_runsOf ∈ ea_tbl := ea_in (et_5 (List.mem_of_getElem? (i := 86) (by decide +kernel))) rfl
theorem ew_1161 : Cond.static yX10_runsOf ∈ ea_tbl := ea_in (et_5 (List.mem_of_getElem? (i := 87) (by decide +kernel))) rfl
theorem ew_1162 : Cond.code yX10_runsOf cX10_runsOf 2 (some .int) ∈ ea_tbl := ea_in (et_5 (List.mem_of_getElem? (i := 88) rfl)) rfl
theorem ew_1163 : Cond.methodLink RX11 339 yX10_trainOf ∈ ea_tbl := ea_in (et_5 (List.mem_of_getElem? (i := 89) (by decide +kernel))) rfl
theorem ew_1164 : Cond.methodLink RX11 342 yX10_dayOf ∈ ea_tbl := ea_in (et_5 (List.mem_of_getElem? (i := 90) (by decide +kernel))) rfl
theorem ew_1165 : Cond.methodLink RX11 345 yX10_takenOf ∈ ea_tbl := ea_in (et_5 (List.mem_of_getElem? (i := 91) (by decide +kernel))) rfl
theorem ew_1166 : Cond.methodLink RX11 348 yX10_leftOf ∈ ea_tbl := ea_in (et_5 (List.mem_of_getElem? (i := 92) (by decide +kernel))) rfl
theorem ew_1167 : Cond.static yX10_leftOf ∈ ea_tbl := ea_in (et_5 (List.mem_of_getElem? (i := 93) (by decide +kernel))) rfl
theorem ew_1168 : Cond.code yX10_leftOf cX10_leftOf 2 (some .int) ∈ ea_tbl := ea_in (et_5 (List.mem_of_getElem? (i := 94) rfl)) rfl
theorem ew_1172 : Cond.code yX11_lead cX11_lead 6 (some .int) ∈ ea_tbl := ea_in (et_5 (List.mem_of_getElem? (i := 98) rfl)) rfl
theorem ew_1173 : Cond.methodLink RX11 354 yX4_rowOf ∈ ea_tbl := ea_in (et_5 (List.mem_of_getElem? (i := 99) (by decide +kernel))) rfl
theorem ew_1174 : Cond.instanceMethod yX4_rowOf ∈ ea_tbl := ea_in (et_5 (List.mem_of_getElem? (i := 100) (by decide +kernel))) rfl
theorem ew_1175 : Cond.selects RX4 yX4_rowOf yX4_rowOf ∈ ea_tbl := ea_in (et_5 (List.mem_of_getElem? (i := 101) (by decide +kernel))) rfl
theorem ew_1176 : Cond.code yX4_rowOf cX4_rowOf 9 (some .int) ∈ ea_tbl := ea_in (et_5 (List.mem_of_getElem? (i := 102) rfl)) rfl
theorem ew_1177 : Cond.methodLink RX4 50 yX5_minuteOf ∈ ea_tbl := ea_in (et_5 (List.mem_of_getElem? (i := 103) (by decide +kernel))) rfl
theorem ew_1178 : Cond.static yX5_minuteOf ∈ ea_tbl := ea_in (et_5 (List.mem_of_getElem? (i := 104) (by decide +kernel))) rfl
theorem ew_1179 : Cond.code yX5_minuteOf cX5_minuteOf 1 (some .int) ∈ ea_tbl := ea_in (et_5 (List.mem_of_getElem? (i := 105) rfl)) rfl
theorem ew_1180 : Cond.methodLink RX4 53 yX10_refresh ∈ ea_tbl := ea_in (et_5 (List.mem_of_getElem? (i := 106) (by decide +kernel))) rfl
theorem ew_1181 : Cond.methodLink RX4 62 yX5_row ∈ ea_tbl := ea_in (et_5 (List.mem_of_getElem? (i := 107) (by decide +kernel))) rfl
theorem ew_1182 : Cond.methodLink RX4 66 yX10_firstBehind ∈ ea_tbl := ea_in (et_5 (List.mem_of_getElem? (i := 108) (by decide +kernel))) rfl
theorem ew_1183 : Cond.methodLink RX4 72 yX10_keyAt ∈ ea_tbl := ea_in (et_5 (List.mem_of_getElem? (i := 109) (by decide +kernel))) rfl
theorem ew_1184 : Cond.methodLink RX4 75 yX10_minuteIn ∈ ea_tbl := ea_in (et_5 (List.mem_of_getElem? (i := 110) (by decide +kernel))) rfl
theorem ew_1185 : Cond.methodLink RX4 78 yX4_isMarked ∈ ea_tbl := ea_in (et_5 (List.mem_of_getElem? (i := 111) (by decide +kernel))) rfl
theorem ew_1187 : Cond.instanceMethod yX4_isMarked ∈ ea_tbl := ea_in (et_5 (List.mem_of_getElem? (i := 113) (by decide +kernel))) rfl
theorem ew_1188 : Cond.code yX4_isMarked cX4_isMarked 3 (some .boolean) ∈ ea_tbl := ea_in (et_5 (List.mem_of_getElem? (i := 114) rfl)) rfl
theorem ew_1189 : Cond.methodLink RX4 82 yX4_rowBy ∈ ea_tbl := ea_in (et_5 (List.mem_of_getElem? (i := 115) (by decide +kernel))) rfl
theorem ew_1191 : Cond.instanceMethod yX4_rowBy ∈ ea_tbl := ea_in (et_5 (List.mem_of_getElem? (i := 117) (by decide +kernel))) rfl
theorem ew_1192 : Cond.code yX4_rowBy cX4_rowBy 5 (some .int) ∈ ea_tbl := ea_in (et_5 (List.mem_of_getElem? (i := 118) rfl)) rfl
theorem ew_1193 : Cond.methodLink RX4 86 yX10_trainIn ∈ ea_tbl := ea_in (et_5 (List.mem_of_getElem? (i := 119) (by decide +kernel))) rfl
theorem ew_1194 : Cond.methodLink RX4 89 yX10_dayIn ∈ ea_tbl := ea_in (et_5 (List.mem_of_getElem? (i := 120) (by decide +kernel))) rfl
theorem ew_1195 : Cond.methodLink RX4 98 yX10_stopIn ∈ ea_tbl := ea_in (et_5 (List.mem_of_getElem? (i := 121) (by decide +kernel))) rfl
theorem ew_1196 : Cond.methodLink RX4 101 yX5_stateIn ∈ ea_tbl := ea_in (et_5 (List.mem_of_getElem? (i := 122) (by decide +kernel))) rfl
theorem ew_1197 : Cond.methodLink RX11 357 yX5_minuteOf ∈ ea_tbl := ea_in (et_5 (List.mem_of_getElem? (i := 123) (by decide +kernel))) rfl
theorem ew_1198 : Cond.methodLink RX11 359 yX5_stateOf ∈ ea_tbl := ea_in (et_5 (List.mem_of_getElem? (i := 124) (by decide +kernel))) rfl
theorem ew_1199 : Cond.static yX5_stateOf ∈ ea_tbl := ea_in (et_5 (List.mem_of_getElem? (i := 125) (by decide +kernel))) rfl
theorem ew_1200 : Cond.code yX5_stateOf cX5_stateOf 1 (some .int) ∈ ea_tbl := ea_in (et_5 (List.mem_of_getElem? (i := 126) rfl)) rfl
theorem ew_1201 : Cond.methodLink RX11 362 yX5_placeOf ∈ ea_tbl := ea_in (et_5 (List.mem_of_getElem? (i := 127) (by decide +kernel))) rfl
theorem ew_1202 : Cond.static yX5_placeOf ∈ ea_tbl := ea_in (et_5 (List.mem_of_getElem? (i := 128) (by decide +kernel))) rfl
theorem ew_1203 : Cond.code yX5_placeOf cX5_placeOf 1 (some .int) ∈ ea_tbl := ea_in (et_5 (List.mem_of_getElem? (i := 129) rfl)) rfl
theorem ew_1207 : Cond.code yX11_where cX11_where 6 (some .int) ∈ ea_tbl := ea_in (et_5 (List.mem_of_getElem? (i := 133) rfl)) rfl
theorem ew_1211 : Cond.code yX11_sorter cX11_sorter 3 (some .int) ∈ ea_tbl := ea_in (et_5 (List.mem_of_getElem? (i := 137) rfl)) rfl
theorem ew_1212 : Cond.methodLink RX11 365 yX3_add ∈ ea_tbl := ea_in (et_5 (List.mem_of_getElem? (i := 138) (by decide +kernel))) rfl
theorem ew_1213 : Cond.instanceMethod yX3_add ∈ ea_tbl := ea_in (et_5 (List.mem_of_getElem? (i := 139) (by decide +kernel))) rfl
theorem ew_1214 : Cond.selects RX3 yX3_add yX3_add ∈ ea_tbl := ea_in (et_5 (List.mem_of_getElem? (i := 140) (by decide +kernel))) rfl
theorem ew_1215 : Cond.code yX3_add cX3_add 3 (some .int) ∈ ea_tbl := ea_in (et_5 (List.mem_of_getElem? (i := 141) rfl)) rfl
theorem ew_1219 : Cond.code yX11_seat cX11_seat 3 (some .boolean) ∈ ea_tbl := ea_in (et_5 (List.mem_of_getElem? (i := 145) rfl)) rfl
theorem ew_1223 : Cond.code yX11_run cX11_run 5 (some .int) ∈ ea_tbl := ea_in (et_5 (List.mem_of_getElem? (i := 149) rfl)) rfl
theorem ew_1224 : Cond.methodLink RX11 370 yX1_aboardOf ∈ ea_tbl := ea_in (et_5 (List.mem_of_getElem? (i := 150) (by decide +kernel))) rfl
theorem ew_1225 : Cond.instanceMethod yX1_aboardOf ∈ ea_tbl := ea_in (et_5 (List.mem_of_getElem? (i := 151) (by decide +kernel))) rfl
theorem ew_1226 : Cond.selects RX1 yX1_aboardOf yX1_aboardOf ∈ ea_tbl := ea_in (et_5 (List.mem_of_getElem? (i := 152) (by decide +kernel))) rfl
theorem ew_1227 : Cond.code yX1_aboardOf cX1_aboardOf 5 (some .int) ∈ ea_tbl := ea_in (et_5 (List.mem_of_getElem? (i := 153) rfl)) rfl
theorem ew_1228 : Cond.methodLink RX11 374 yX9_goneFrom ∈ ea_tbl := ea_in (et_5 (List.mem_of_getElem? (i := 154) (by decide +kernel))) rfl
theorem ew_1229 : Cond.instanceMethod yX9_goneFrom ∈ ea_tbl := ea_in (et_5 (List.mem_of_getElem? (i := 155) (by decide +kernel))) rfl
theorem ew_1230 : Cond.selects RX9 yX9_goneFrom yX9_goneFrom ∈ ea_tbl := ea_in (et_5 (List.mem_of_getElem? (i := 156) (by decide +kernel))) rfl
theorem ew_1231 : Cond.code yX9_goneFrom cX9_goneFrom 6 (some .int) ∈ ea_tbl := ea_in (et_5 (List.mem_of_getElem? (i := 157) rfl)) rfl
theorem ew_1232 : Cond.methodLink RX9 42 yX9_goesAt ∈ ea_tbl := ea_in (et_5 (List.mem_of_getElem? (i := 158) (by decide +kernel))) rfl
theorem ew_1236 : Cond.code yX11_account cX11_account 4 (some .int) ∈ ea_tbl := ea_in (et_5 (List.mem_of_getElem? (i := 162) rfl)) rfl
theorem ew_1237 : Cond.methodLink RX11 380 yX11_owedBetween ∈ ea_tbl := ea_in (et_5 (List.mem_of_getElem? (i := 163) (by decide +kernel))) rfl
theorem ew_1239 : Cond.instanceMethod yX11_owedBetween ∈ ea_tbl := ea_in (et_5 (List.mem_of_getElem? (i := 165) (by decide +kernel))) rfl
theorem ew_1240 : Cond.code yX11_owedBetween cX11_owedBetween 6 (some .int) ∈ ea_tbl := ea_in (et_5 (List.mem_of_getElem? (i := 166) rfl)) rfl
theorem ew_1241 : Cond.methodLink RX11 478 yX11_isBetween ∈ ea_tbl := ea_in (et_5 (List.mem_of_getElem? (i := 167) (by decide +kernel))) rfl
theorem ew_1243 : Cond.instanceMethod yX11_isBetween ∈ ea_tbl := ea_in (et_5 (List.mem_of_getElem? (i := 169) (by decide +kernel))) rfl
theorem ew_1244 : Cond.code yX11_isBetween cX11_isBetween 4 (some .boolean) ∈ ea_tbl := ea_in (et_5 (List.mem_of_getElem? (i := 170) rfl)) rfl
theorem ew_1245 : Cond.methodLink RX11 384 yX11_differing ∈ ea_tbl := ea_in (et_5 (List.mem_of_getElem? (i := 171) (by decide +kernel))) rfl
theorem ew_1247 : Cond.instanceMethod yX11_differing ∈ ea_tbl := ea_in (et_5 (List.mem_of_getElem? (i := 173) (by decide +kernel))) rfl
theorem ew_1248 : Cond.code yX11_differing cX11_differing 5 (some .int) ∈ ea_tbl := ea_in (et_5 (List.mem_of_getElem? (i := 174) rfl)) rfl
theorem ew_1249 : Cond.methodLink RX11 481 yX11_differs ∈ ea_tbl := ea_in (et_5 (List.mem_of_getElem? (i := 175) (by decide +kernel))) rfl
theorem ew_1251 : Cond.instanceMethod yX11_differs ∈ ea_tbl := ea_in (et_5 (List.mem_of_getElem? (i := 177) (by decide +kernel))) rfl
theorem ew_1252 : Cond.code yX11_differs cX11_differs 4 (some .boolean) ∈ ea_tbl := ea_in (et_5 (List.mem_of_getElem? (i := 178) rfl)) rfl
theorem ew_1253 : Cond.methodLink RX11 387 yX11_differingLetter ∈ ea_tbl := ea_in (et_5 (List.mem_of_getElem? (i := 179) (by decide +kernel))) rfl
theorem ew_1255 : Cond.instanceMethod yX11_differingLetter ∈ ea_tbl := ea_in (et_5 (List.mem_of_getElem? (i := 181) (by decide +kernel))) rfl
theorem ew_1256 : Cond.code yX11_differingLetter cX11_differingLetter 6 (some .int) ∈ ea_tbl := ea_in (et_5 (List.mem_of_getElem? (i := 182) rfl)) rfl
theorem ew_1260 : Cond.code yX11_nobody cX11_nobody 3 (some .boolean) ∈ ea_tbl := ea_in (et_5 (List.mem_of_getElem? (i := 186) rfl)) rfl
theorem ew_1264 : Cond.code yX11_place cX11_place 5 (some .boolean) ∈ ea_tbl := ea_in (et_5 (List.mem_of_getElem? (i := 190) rfl)) rfl
theorem ew_1265 : Cond.methodLink RX11 393 yX5_tell ∈ ea_tbl := ea_in (et_5 (List.mem_of_getElem? (i := 191) (by decide +kernel))) rfl
theorem ew_1266 : Cond.instanceMethod yX5_tell ∈ ea_tbl := ea_in (et_5 (List.mem_of_getElem? (i := 192) (by decide +kernel))) rfl
theorem ew_1267 : Cond.selects RX5 yX5_tell yX5_tell ∈ ea_tbl := ea_in (et_5 (List.mem_of_getElem? (i := 193) (by decide +kernel))) rfl
theorem ew_1268 : Cond.code yX5_tell cX5_tell 5 (some .boolean) ∈ ea_tbl := ea_in (et_5 (List.mem_of_getElem? (i := 194) rfl)) rfl
theorem ew_1269 : Cond.methodLink RX5 70 yX5_rowOfPlace ∈ ea_tbl := ea_in (et_5 (List.mem_of_getElem? (i := 195) (by decide +kernel))) rfl
theorem ew_1270 : Cond.instanceMethod yX5_rowOfPlace ∈ ea_tbl := ea_in (et_5 (List.mem_of_getElem? (i := 196) (by decide +kernel))) rfl
theorem ew_1271 : Cond.selects RX5 yX5_rowOfPlace yX5_rowOfPlace ∈ ea_tbl := ea_in (et_5 (List.mem_of_getElem? (i := 197) (by decide +kernel))) rfl
theorem ew_1272 : Cond.code yX5_rowOfPlace cX5_rowOfPlace 3 (some .int) ∈ ea_tbl := ea_in (et_5 (List.mem_of_getElem? (i := 198) rfl)) rfl
theorem ew_1273 : Cond.methodLink RX5 66 yX5_placeTown ∈ ea_tbl := ea_in (et_5 (List.mem_of_getElem? (i := 199) (by decide +kernel))) rfl
theorem ew_1274 : Cond.instanceMethod yX5_placeTown ∈ ea_tbl := ea_in (et_5 (List.mem_of_getElem? (i := 200) (by decide +kernel))) rfl
theorem ew_1275 : Cond.selects RX5 yX5_placeTown yX5_placeTown ∈ ea_tbl := ea_in (et_5 (List.mem_of_getElem? (i := 201) (by decide +kernel))) rfl
theorem ew_1276 : Cond.code yX5_placeTown cX5_placeTown 2 (some .int) ∈ ea_tbl := ea_in (et_5 (List.mem_of_getElem? (i := 202) rfl)) rfl
theorem ew_1280 : Cond.code yX11_order cX11_order 4 (some .long) ∈ ea_tbl := ea_in (et_5 (List.mem_of_getElem? (i := 206) rfl)) rfl
theorem ew_1281 : Cond.constantLong RX11 396 (-1) ∈ ea_tbl := ea_in (et_5 (List.mem_of_getElem? (i := 207) (by decide +kernel))) rfl
theorem ew_1282 : Cond.methodLink RX11 401 yX5_foundByAll ∈ ea_tbl := ea_in (et_5 (List.mem_of_getElem? (i := 208) (by decide +kernel))) rfl
theorem ew_1283 : Cond.instanceMethod yX5_foundByAll ∈ ea_tbl := ea_in (et_5 (List.mem_of_getElem? (i := 209) (by decide +kernel))) rfl
theorem ew_1284 : Cond.selects RX5 yX5_foundByAll yX5_foundByAll ∈ ea_tbl := ea_in (et_5 (List.mem_of_getElem? (i := 210) (by decide +kernel))) rfl
theorem ew_1285 : Cond.code yX5_foundByAll cX5_foundByAll 13 (some .long) ∈ ea_tbl := ea_in (et_5 (List.mem_of_getElem? (i := 211) rfl)) rfl
theorem ew_1286 : Cond.constantLong RX5 73 100 ∈ ea_tbl := ea_in (et_5 (List.mem_of_getElem? (i := 212) (by decide +kernel))) rfl
theorem ew_1287 : Cond.methodLink RX5 75 yX5_placeChance ∈ ea_tbl := ea_in (et_5 (List.mem_of_getElem? (i := 213) (by decide +kernel))) rfl
theorem ew_1288 : Cond.instanceMethod yX5_placeChance ∈ ea_tbl := ea_in (et_5 (List.mem_of_getElem? (i := 214) (by decide +kernel))) rfl
theorem ew_1289 : Cond.selects RX5 yX5_placeChance yX5_placeChance ∈ ea_tbl := ea_in (et_5 (List.mem_of_getElem? (i := 215) (by decide +kernel))) rfl
theorem ew_1290 : Cond.code yX5_placeChance cX5_placeChance 2 (some .int) ∈ ea_tbl := ea_in (et_5 (List.mem_of_getElem? (i := 216) rfl)) rfl
theorem ew_1291 : Cond.constantLong RX5 78 (-1) ∈ ea_tbl := ea_in (et_5 (List.mem_of_getElem? (i := 217) (by decide +kernel))) rfl
theorem ew_1292 : Cond.methodLink RX11 405 yX5_placeTown ∈ ea_tbl := ea_in (et_5 (List.mem_of_getElem? (i := 218) (by decide +kernel))) rfl
theorem ew_1293 : Cond.methodLink RX11 408 yX5_placeChance ∈ ea_tbl := ea_in (et_5 (List.mem_of_getElem? (i := 219) (by decide +kernel))) rfl
theorem ew_1297 : Cond.code yX11_found cX11_found 4 (some .boolean) ∈ ea_tbl := ea_in (et_5 (List.mem_of_getElem? (i := 223) rfl)) rfl
theorem ew_1298 : Cond.methodLink RX11 411 yX5_rowOfPlace ∈ ea_tbl := ea_in (et_5 (List.mem_of_getElem? (i := 224) (by decide +kernel))) rfl
theorem ew_1299 : Cond.methodLink RX11 414 yX1_move ∈ ea_tbl := ea_in (et_5 (List.mem_of_getElem? (i := 225) (by decide +kernel))) rfl
theorem ew_1303 : Cond.code yX11_rob cX11_rob 6 (some .int) ∈ ea_tbl := ea_in (et_5 (List.mem_of_getElem? (i := 229) rfl)) rfl
theorem ew_1304 : Cond.methodLink RX11 421 yX11_isUnderWay ∈ ea_tbl := ea_in (et_5 (List.mem_of_getElem? (i := 230) (by decide +kernel))) rfl
theorem ew_1306 : Cond.instanceMethod yX11_isUnderWay ∈ ea_tbl := ea_in (et_5 (List.mem_of_getElem? (i := 232) (by decide +kernel))) rfl
theorem ew_1307 : Cond.code yX11_isUnderWay cX11_isUnderWay 4 (some .boolean) ∈ ea_tbl := ea_in (et_5 (List.mem_of_getElem? (i := 233) rfl)) rfl
theorem ew_1308 : Cond.methodLink RX11 424 yX1_isAboard ∈ ea_tbl := ea_in (et_5 (List.mem_of_getElem? (i := 234) (by decide +kernel))) rfl
theorem ew_1312 : Cond.code yX11_robbery cX11_robbery 3 (some .int) ∈ ea_tbl := ea_in (et_5 (List.mem_of_getElem? (i := 238) rfl)) rfl
theorem ew_1313 : Cond.methodLink RX11 427 yX11_taken ∈ ea_tbl := ea_in (et_5 (List.mem_of_getElem? (i := 239) (by decide +kernel))) rfl
theorem ew_1315 : Cond.instanceMethod yX11_taken ∈ ea_tbl := ea_in (et_6 (List.mem_of_getElem? (i := 1) (by decide +kernel))) rfl
theorem ew_1316 : Cond.code yX11_taken cX11_taken 4 (some .int) ∈ ea_tbl := ea_in (et_6 (List.mem_of_getElem? (i := 2) rfl)) rfl
theorem ew_1317 : Cond.methodLink RX11 484 yX11_isTaken ∈ ea_tbl := ea_in (et_6 (List.mem_of_getElem? (i := 3) (by decide +kernel))) rfl
theorem ew_1319 : Cond.instanceMethod yX11_isTaken ∈ ea_tbl := ea_in (et_6 (List.mem_of_getElem? (i := 5) (by decide +kernel))) rfl
theorem ew_1320 : Cond.code yX11_isTaken cX11_isTaken 3 (some .boolean) ∈ ea_tbl := ea_in (et_6 (List.mem_of_getElem? (i := 6) rfl)) rfl
theorem ew_1321 : Cond.methodLink RX11 430 yX11_owedOfTaken ∈ ea_tbl := ea_in (et_6 (List.mem_of_getElem? (i := 7) (by decide +kernel))) rfl
theorem ew_1323 : Cond.instanceMethod yX11_owedOfTaken ∈ ea_tbl := ea_in (et_6 (List.mem_of_getElem? (i := 9) (by decide +kernel))) rfl
theorem ew_1324 : Cond.code yX11_owedOfTaken cX11_owedOfTaken 4 (some .int) ∈ ea_tbl := ea_in (et_6 (List.mem_of_getElem? (i := 10) rfl)) rfl
theorem ew_1325 : Cond.methodLink RX11 433 yX11_takenLetter ∈ ea_tbl := ea_in (et_6 (List.mem_of_getElem? (i := 11) (by decide +kernel))) rfl
theorem ew_1327 : Cond.instanceMethod yX11_takenLetter ∈ ea_tbl := ea_in (et_6 (List.mem_of_getElem? (i := 13) (by decide +kernel))) rfl
theorem ew_1328 : Cond.code yX11_takenLetter cX11_takenLetter 5 (some .int) ∈ ea_tbl := ea_in (et_6 (List.mem_of_getElem? (i := 14) rfl)) rfl
theorem ew_1332 : Cond.code yX11_set cX11_set 2 (some .boolean) ∈ ea_tbl := ea_in (et_6 (List.mem_of_getElem? (i := 18) rfl)) rfl
theorem ew_1336 : Cond.code yX11_seen cX11_seen 3 (some .boolean) ∈ ea_tbl := ea_in (et_6 (List.mem_of_getElem? (i := 22) rfl)) rfl
theorem ew_1337 : Cond.methodLink RX11 439 yX2_learn ∈ ea_tbl := ea_in (et_6 (List.mem_of_getElem? (i := 23) (by decide +kernel))) rfl
theorem ew_1338 : Cond.instanceMethod yX2_learn ∈ ea_tbl := ea_in (et_6 (List.mem_of_getElem? (i := 24) (by decide +kernel))) rfl
theorem ew_1339 : Cond.selects RX2 yX2_learn yX2_learn ∈ ea_tbl := ea_in (et_6 (List.mem_of_getElem? (i := 25) (by decide +kernel))) rfl
theorem ew_1340 : Cond.code yX2_learn cX2_learn 6 (some .boolean) ∈ ea_tbl := ea_in (et_6 (List.mem_of_getElem? (i := 26) rfl)) rfl
theorem ew_1341 : Cond.methodLink RX2 21 yX2_shown ∈ ea_tbl := ea_in (et_6 (List.mem_of_getElem? (i := 27) (by decide +kernel))) rfl
theorem ew_1342 : Cond.static yX2_shown ∈ ea_tbl := ea_in (et_6 (List.mem_of_getElem? (i := 28) (by decide +kernel))) rfl
theorem ew_1343 : Cond.code yX2_shown cX2_shown 2 (some .int) ∈ ea_tbl := ea_in (et_6 (List.mem_of_getElem? (i := 29) rfl)) rfl
theorem ew_1347 : Cond.code yX11_clock cX11_clock 3 (some .int) ∈ ea_tbl := ea_in (et_6 (List.mem_of_getElem? (i := 33) rfl)) rfl
theorem ew_1351 : Cond.code yX11_trueMinute cX11_trueMinute 4 (some .int) ∈ ea_tbl := ea_in (et_6 (List.mem_of_getElem? (i := 37) rfl)) rfl
theorem ew_1352 : Cond.methodLink RX11 448 yX2_least ∈ ea_tbl := ea_in (et_6 (List.mem_of_getElem? (i := 38) (by decide +kernel))) rfl
theorem ew_1353 : Cond.instanceMethod yX2_least ∈ ea_tbl := ea_in (et_6 (List.mem_of_getElem? (i := 39) (by decide +kernel))) rfl
theorem ew_1354 : Cond.selects RX2 yX2_least yX2_least ∈ ea_tbl := ea_in (et_6 (List.mem_of_getElem? (i := 40) (by decide +kernel))) rfl
theorem ew_1355 : Cond.code yX2_least cX2_least 3 (some .int) ∈ ea_tbl := ea_in (et_6 (List.mem_of_getElem? (i := 41) rfl)) rfl
theorem ew_1356 : Cond.methodLink RX2 25 yX2_mayShow ∈ ea_tbl := ea_in (et_6 (List.mem_of_getElem? (i := 42) (by decide +kernel))) rfl
theorem ew_1358 : Cond.instanceMethod yX2_mayShow ∈ ea_tbl := ea_in (et_6 (List.mem_of_getElem? (i := 44) (by decide +kernel))) rfl
theorem ew_1359 : Cond.code yX2_mayShow cX2_mayShow 4 (some .boolean) ∈ ea_tbl := ea_in (et_6 (List.mem_of_getElem? (i := 45) rfl)) rfl
theorem ew_1360 : Cond.methodLink RX11 451 yX2_greatest ∈ ea_tbl := ea_in (et_6 (List.mem_of_getElem? (i := 46) (by decide +kernel))) rfl
theorem ew_1361 : Cond.instanceMethod yX2_greatest ∈ ea_tbl := ea_in (et_6 (List.mem_of_getElem? (i := 47) (by decide +kernel))) rfl
theorem ew_1362 : Cond.selects RX2 yX2_greatest yX2_greatest ∈ ea_tbl := ea_in (et_6 (List.mem_of_getElem? (i := 48) (by decide +kernel))) rfl
theorem ew_1363 : Cond.code yX2_greatest cX2_greatest 3 (some .int) ∈ ea_tbl := ea_in (et_6 (List.mem_of_getElem? (i := 49) rfl)) rfl
theorem ew_1367 : Cond.code yX11_tried cX11_tried 6 (some .long) ∈ ea_tbl := ea_in (et_6 (List.mem_of_getElem? (i := 53) rfl)) rfl
theorem ew_1368 : Cond.methodLink RX11 454 yX8_chargeBy ∈ ea_tbl := ea_in (et_6 (List.mem_of_getElem? (i := 54) (by decide +kernel))) rfl
theorem ew_1372 : Cond.code yX11_whatIf cX11_whatIf 7 (some .int) ∈ ea_tbl := ea_in (et_6 (List.mem_of_getElem? (i := 58) rfl)) rfl
theorem ew_1373 : Cond.methodLink RX11 458 yX11_outcome ∈ ea_tbl := ea_in (et_6 (List.mem_of_getElem? (i := 59) (by decide +kernel))) rfl
theorem ew_1375 : Cond.instanceMethod yX11_outcome ∈ ea_tbl := ea_in (et_6 (List.mem_of_getElem? (i := 61) (by decide +kernel))) rfl
theorem ew_1376 : Cond.code yX11_outcome cX11_outcome 1 (some .int) ∈ ea_tbl := ea_in (et_6 (List.mem_of_getElem? (i := 62) rfl)) rfl
theorem ew_1377 : Cond.methodLink RX11 487 yX1_copy ∈ ea_tbl := ea_in (et_6 (List.mem_of_getElem? (i := 63) (by decide +kernel))) rfl
theorem ew_1378 : Cond.instanceMethod yX1_copy ∈ ea_tbl := ea_in (et_6 (List.mem_of_getElem? (i := 64) (by decide +kernel))) rfl
theorem ew_1379 : Cond.selects RX1 yX1_copy yX1_copy ∈ ea_tbl := ea_in (et_6 (List.mem_of_getElem? (i := 65) (by decide +kernel))) rfl
theorem ew_1380 : Cond.code yX1_copy cX1_copy 2 none ∈ ea_tbl := ea_in (et_6 (List.mem_of_getElem? (i := 66) rfl)) rfl
theorem ew_1381 : Cond.methodLink RX1 77 arraycopyName ∈ ea_tbl := ea_in (et_6 (List.mem_of_getElem? (i := 67) (by decide +kernel))) rfl
theorem ew_1382 : Cond.methodLink RX11 491 yX1_sumOfMinutes ∈ ea_tbl := ea_in (et_6 (List.mem_of_getElem? (i := 68) (by decide +kernel))) rfl
theorem ew_1383 : Cond.instanceMethod yX1_sumOfMinutes ∈ ea_tbl := ea_in (et_6 (List.mem_of_getElem? (i := 69) (by decide +kernel))) rfl
theorem ew_1384 : Cond.selects RX1 yX1_sumOfMinutes yX1_sumOfMinutes ∈ ea_tbl := ea_in (et_6 (List.mem_of_getElem? (i := 70) (by decide +kernel))) rfl
theorem ew_1385 : Cond.code yX1_sumOfMinutes cX1_sumOfMinutes 3 (some .int) ∈ ea_tbl := ea_in (et_6 (List.mem_of_getElem? (i := 71) rfl)) rfl
theorem ew_1389 : Cond.code yX11_seats cX11_seats 2 (some .int) ∈ ea_tbl := ea_in (et_6 (List.mem_of_getElem? (i := 75) rfl)) rfl
theorem ew_1390 : Cond.methodLink RX11 464 yX11_seekSeats ∈ ea_tbl := ea_in (et_6 (List.mem_of_getElem? (i := 76) (by decide +kernel))) rfl
theorem ew_1392 : Cond.instanceMethod yX11_seekSeats ∈ ea_tbl := ea_in (et_6 (List.mem_of_getElem? (i := 78) (by decide +kernel))) rfl
theorem ew_1393 : Cond.code yX11_seekSeats cX11_seekSeats 7 none ∈ ea_tbl := ea_in (et_6 (List.mem_of_getElem? (i := 79) rfl)) rfl
theorem ew_1394 : Cond.constant RX11 494 1209601 ∈ ea_tbl := ea_in (et_6 (List.mem_of_getElem? (i := 80) (by decide +kernel))) rfl
theorem ew_1399 : Cond.code yX12_init cX12_init 2 none ∈ ea_tbl := ea_in (et_6 (List.mem_of_getElem? (i := 85) rfl)) rfl
theorem ew_1400 : Cond.methodLink RX12 1 Lib.objectInit ∈ ea_tbl := ea_in (et_6 (List.mem_of_getElem? (i := 86) (by decide +kernel))) rfl
theorem ew_1401 : Cond.constant RX12 198 120000 ∈ ea_tbl := ea_in (et_6 (List.mem_of_getElem? (i := 87) (by decide +kernel))) rfl
theorem ew_1402 : Cond.fieldLink RX12 313 RX12 "now" "I" ∈ ea_tbl := ea_in (et_6 (List.mem_of_getElem? (i := 88) (by decide +kernel))) rfl
theorem ew_1403 : Cond.fieldLink RX12 283 RX12 "towns" "I" ∈ ea_tbl := ea_in (et_6 (List.mem_of_getElem? (i := 89) (by decide +kernel))) rfl
theorem ew_1404 : Cond.fieldLink RX12 290 RX12 "trains" "I" ∈ ea_tbl := ea_in (et_6 (List.mem_of_getElem? (i := 90) (by decide +kernel))) rfl
theorem ew_1405 : Cond.fieldLink RX12 7 RX12 "road" "[I" ∈ ea_tbl := ea_in (et_6 (List.mem_of_getElem? (i := 91) (by decide +kernel))) rfl
theorem ew_1406 : Cond.fieldLink RX12 13 RX12 "stops" "[I" ∈ ea_tbl := ea_in (et_6 (List.mem_of_getElem? (i := 92) (by decide +kernel))) rfl
theorem ew_1407 : Cond.fieldLink RX12 16 RX12 "stopTown" "[I" ∈ ea_tbl := ea_in (et_6 (List.mem_of_getElem? (i := 93) (by decide +kernel))) rfl
theorem ew_1408 : Cond.fieldLink RX12 19 RX12 "comes" "[I" ∈ ea_tbl := ea_in (et_6 (List.mem_of_getElem? (i := 94) (by decide +kernel))) rfl
theorem ew_1409 : Cond.fieldLink RX12 22 RX12 "goes" "[I" ∈ ea_tbl := ea_in (et_6 (List.mem_of_getElem? (i := 95) (by decide +kernel))) rfl
theorem ew_1410 : Cond.fieldLink RX12 25 RX12 "late" "[I" ∈ ea_tbl := ea_in (et_6 (List.mem_of_getElem? (i := 96) (by decide +kernel))) rfl
theorem ew_1411 : Cond.fieldLink RX12 28 RX12 "fast" "[Z" ∈ ea_tbl := ea_in (et_6 (List.mem_of_getElem? (i := 97) (by decide +kernel))) rfl
theorem ew_1412 : Cond.fieldLink RX12 32 RX12 "missed" "[Z" ∈ ea_tbl := ea_in (et_6 (List.mem_of_getElem? (i := 98) (by decide +kernel))) rfl
theorem ew_1413 : Cond.fieldLink RX12 35 RX12 "far" "[I" ∈ ea_tbl := ea_in (et_6 (List.mem_of_getElem? (i := 99) (by decide +kernel))) rfl
theorem ew_1414 : Cond.fieldLink RX12 293 RX12 "known" "Z" ∈ ea_tbl := ea_in (et_6 (List.mem_of_getElem? (i := 100) (by decide +kernel))) rfl
theorem ew_1415 : Cond.fieldLink RX12 335 RX12 "happens" "I" ∈ ea_tbl := ea_in (et_6 (List.mem_of_getElem? (i := 101) (by decide +kernel))) rfl
theorem ew_1416 : Cond.fieldLink RX12 38 RX12 "evMinute" "[I" ∈ ea_tbl := ea_in (et_6 (List.mem_of_getElem? (i := 102) (by decide +kernel))) rfl
theorem ew_1417 : Cond.fieldLink RX12 41 RX12 "evKind" "[I" ∈ ea_tbl := ea_in (et_6 (List.mem_of_getElem? (i := 103) (by decide +kernel))) rfl
theorem ew_1418 : Cond.fieldLink RX12 44 RX12 "evRun" "[I" ∈ ea_tbl := ea_in (et_6 (List.mem_of_getElem? (i := 104) (by decide +kernel))) rfl
theorem ew_1419 : Cond.fieldLink RX12 47 RX12 "evStop" "[I" ∈ ea_tbl := ea_in (et_6 (List.mem_of_getElem? (i := 105) (by decide +kernel))) rfl
theorem ew_1420 : Cond.fieldLink RX12 50 RX12 "next" "[I" ∈ ea_tbl := ea_in (et_6 (List.mem_of_getElem? (i := 106) (by decide +kernel))) rfl
theorem ew_1421 : Cond.fieldLink RX12 53 RX12 "wayAt" "[I" ∈ ea_tbl := ea_in (et_6 (List.mem_of_getElem? (i := 107) (by decide +kernel))) rfl
theorem ew_1422 : Cond.fieldLink RX12 56 RX12 "wayRuns" "[I" ∈ ea_tbl := ea_in (et_6 (List.mem_of_getElem? (i := 108) (by decide +kernel))) rfl
theorem ew_1423 : Cond.fieldLink RX12 59 RX12 "wayLeft" "[I" ∈ ea_tbl := ea_in (et_6 (List.mem_of_getElem? (i := 109) (by decide +kernel))) rfl
theorem ew_1424 : Cond.fieldLink RX12 62 RX12 "bestGoing" "[I" ∈ ea_tbl := ea_in (et_6 (List.mem_of_getElem? (i := 110) (by decide +kernel))) rfl
theorem ew_1425 : Cond.fieldLink RX12 65 RX12 "behind" "[I" ∈ ea_tbl := ea_in (et_6 (List.mem_of_getElem? (i := 111) (by decide +kernel))) rfl
theorem ew_1426 : Cond.fieldLink RX12 68 RX12 "firstIn" "[I" ∈ ea_tbl := ea_in (et_6 (List.mem_of_getElem? (i := 112) (by decide +kernel))) rfl
theorem ew_1427 : Cond.fieldLink RX12 522 RX12 "acts" "I" ∈ ea_tbl := ea_in (et_6 (List.mem_of_getElem? (i := 113) (by decide +kernel))) rfl
theorem ew_1428 : Cond.fieldLink RX12 71 RX12 "actFrom" "[I" ∈ ea_tbl := ea_in (et_6 (List.mem_of_getElem? (i := 114) (by decide +kernel))) rfl
theorem ew_1429 : Cond.fieldLink RX12 74 RX12 "actLines" "[I" ∈ ea_tbl := ea_in (et_6 (List.mem_of_getElem? (i := 115) (by decide +kernel))) rfl
theorem ew_1430 : Cond.fieldLink RX12 77 RX12 "lateBy" "[I" ∈ ea_tbl := ea_in (et_6 (List.mem_of_getElem? (i := 116) (by decide +kernel))) rfl
theorem ew_1431 : Cond.fieldLink RX12 80 RX12 "lateAfter" "[I" ∈ ea_tbl := ea_in (et_6 (List.mem_of_getElem? (i := 117) (by decide +kernel))) rfl
theorem ew_1432 : Cond.fieldLink RX12 83 RX12 "frankBy" "[I" ∈ ea_tbl := ea_in (et_6 (List.mem_of_getElem? (i := 118) (by decide +kernel))) rfl
theorem ew_1433 : Cond.fieldLink RX12 86 RX12 "shipBy" "[I" ∈ ea_tbl := ea_in (et_6 (List.mem_of_getElem? (i := 119) (by decide +kernel))) rfl
theorem ew_1434 : Cond.fieldLink RX12 89 RX12 "signBy" "[I" ∈ ea_tbl := ea_in (et_6 (List.mem_of_getElem? (i := 120) (by decide +kernel))) rfl
theorem ew_1435 : Cond.fieldLink RX12 92 RX12 "deadBy" "[I" ∈ ea_tbl := ea_in (et_6 (List.mem_of_getElem? (i := 121) (by decide +kernel))) rfl
theorem ew_1436 : Cond.fieldLink RX12 95 RX12 "charges" "[I" ∈ ea_tbl := ea_in (et_6 (List.mem_of_getElem? (i := 122) (by decide +kernel))) rfl
theorem ew_1437 : Cond.fieldLink RX12 98 RX12 "from" "[I" ∈ ea_tbl := ea_in (et_6 (List.mem_of_getElem? (i := 123) (by decide +kernel))) rfl
theorem ew_1438 : Cond.fieldLink RX12 101 RX12 "when" "[I" ∈ ea_tbl := ea_in (et_6 (List.mem_of_getElem? (i := 124) (by decide +kernel))) rfl
theorem ew_1439 : Cond.fieldLink RX12 104 RX12 "step" "[I" ∈ ea_tbl := ea_in (et_6 (List.mem_of_getElem? (i := 125) (by decide +kernel))) rfl
theorem ew_1440 : Cond.fieldLink RX12 107 RX12 "freshFrom" "[I" ∈ ea_tbl := ea_in (et_6 (List.mem_of_getElem? (i := 126) (by decide +kernel))) rfl
theorem ew_1441 : Cond.fieldLink RX12 110 RX12 "freshWhen" "[I" ∈ ea_tbl := ea_in (et_6 (List.mem_of_getElem? (i := 127) (by decide +kernel))) rfl
theorem ew_1442 : Cond.fieldLink RX12 113 RX12 "fresh" "[I" ∈ ea_tbl := ea_in (et_6 (List.mem_of_getElem? (i := 128) (by decide +kernel))) rfl
theorem ew_1443 : Cond.fieldLink RX12 116 RX12 "tape" "[I" ∈ ea_tbl := ea_in (et_6 (List.mem_of_getElem? (i := 129) (by decide +kernel))) rfl
theorem ew_1444 : Cond.fieldLink RX12 119 RX12 "pile" "[I" ∈ ea_tbl := ea_in (et_6 (List.mem_of_getElem? (i := 130) (by decide +kernel))) rfl
theorem ew_1445 : Cond.fieldLink RX12 513 RX12 "freshLines" "I" ∈ ea_tbl := ea_in (et_6 (List.mem_of_getElem? (i := 131) (by decide +kernel))) rfl
theorem ew_1446 : Cond.fieldLink RX12 483 RX12 "freshCharges" "I" ∈ ea_tbl := ea_in (et_6 (List.mem_of_getElem? (i := 132) (by decide +kernel))) rfl
theorem ew_1447 : Cond.fieldLink RX12 452 RX12 "freshSteps" "I" ∈ ea_tbl := ea_in (et_6 (List.mem_of_getElem? (i := 133) (by decide +kernel))) rfl
theorem ew_1448 : Cond.fieldLink RX12 495 RX12 "freshLate" "I" ∈ ea_tbl := ea_in (et_6 (List.mem_of_getElem? (i := 134) (by decide +kernel))) rfl
theorem ew_1449 : Cond.fieldLink RX12 498 RX12 "freshAfter" "I" ∈ ea_tbl := ea_in (et_6 (List.mem_of_getElem? (i := 135) (by decide +kernel))) rfl
theorem ew_1450 : Cond.fieldLink RX12 501 RX12 "freshFrank" "I" ∈ ea_tbl := ea_in (et_6 (List.mem_of_getElem? (i := 136) (by decide +kernel))) rfl
theorem ew_1451 : Cond.fieldLink RX12 504 RX12 "freshShip" "I" ∈ ea_tbl := ea_in (et_6 (List.mem_of_getElem? (i := 137) (by decide +kernel))) rfl
theorem ew_1452 : Cond.fieldLink RX12 507 RX12 "freshSign" "I" ∈ ea_tbl := ea_in (et_6 (List.mem_of_getElem? (i := 138) (by decide +kernel))) rfl
theorem ew_1453 : Cond.fieldLink RX12 510 RX12 "freshDead" "I" ∈ ea_tbl := ea_in (et_6 (List.mem_of_getElem? (i := 139) (by decide +kernel))) rfl
theorem ew_1454 : Cond.fieldLink RX12 364 RX12 "taped" "I" ∈ ea_tbl := ea_in (et_6 (List.mem_of_getElem? (i := 140) (by decide +kernel))) rfl
theorem ew_1455 : Cond.fieldLink RX12 367 RX12 "at" "I" ∈ ea_tbl := ea_in (et_6 (List.mem_of_getElem? (i := 141) (by decide +kernel))) rfl
theorem ew_1456 : Cond.fieldLink RX12 422 RX12 "token" "I" ∈ ea_tbl := ea_in (et_6 (List.mem_of_getElem? (i := 142) (by decide +kernel))) rfl
theorem ew_1457 : Cond.fieldLink RX12 370 RX12 "tokenAt" "I" ∈ ea_tbl := ea_in (et_6 (List.mem_of_getElem? (i := 143) (by decide +kernel))) rfl
theorem ew_1458 : Cond.fieldLink RX12 434 RX12 "value" "I" ∈ ea_tbl := ea_in (et_6 (List.mem_of_getElem? (i := 144) (by decide +kernel))) rfl
theorem ew_1459 : Cond.fieldLink RX12 437 RX12 "wrong" "I" ∈ ea_tbl := ea_in (et_6 (List.mem_of_getElem? (i := 145) (by decide +kernel))) rfl
theorem ew_1460 : Cond.fieldLink RX12 440 RX12 "wrongAt" "I" ∈ ea_tbl := ea_in (et_6 (List.mem_of_getElem? (i := 146) (by decide +kernel))) rfl
theorem ew_1461 : Cond.fieldLink RX12 519 RX12 "faultKind" "I" ∈ ea_tbl := ea_in (et_6 (List.mem_of_getElem? (i := 147) (by decide +kernel))) rfl
theorem ew_1462 : Cond.fieldLink RX12 455 RX12 "depth" "I" ∈ ea_tbl := ea_in (et_6 (List.mem_of_getElem? (i := 148) (by decide +kernel))) rfl
theorem ew_1463 : Cond.fieldLink RX12 449 RX12 "number" "I" ∈ ea_tbl := ea_in (et_6 (List.mem_of_getElem? (i := 149) (by decide +kernel))) rfl
theorem ew_1464 : Cond.fieldLink RX12 122 RX12 "faultPlace" "I" ∈ ea_tbl := ea_in (et_6 (List.mem_of_getElem? (i := 150) (by decide +kernel))) rfl
theorem ew_1465 : Cond.fieldLink RX12 531 RX12 "letters" "I" ∈ ea_tbl := ea_in (et_6 (List.mem_of_getElem? (i := 151) (by decide +kernel))) rfl
theorem ew_1466 : Cond.fieldLink RX12 126 RX12 "kind" "[I" ∈ ea_tbl := ea_in (et_6 (List.mem_of_getElem? (i := 152) (by decide +kernel))) rfl
theorem ew_1467 : Cond.fieldLink RX12 129 RX12 "postedAt" "[I" ∈ ea_tbl := ea_in (et_6 (List.mem_of_getElem? (i := 153) (by decide +kernel))) rfl
theorem ew_1468 : Cond.fieldLink RX12 132 RX12 "postedTo" "[I" ∈ ea_tbl := ea_in (et_6 (List.mem_of_getElem? (i := 154) (by decide +kernel))) rfl
theorem ew_1469 : Cond.fieldLink RX12 135 RX12 "sheets" "[I" ∈ ea_tbl := ea_in (et_6 (List.mem_of_getElem? (i := 155) (by decide +kernel))) rfl
theorem ew_1470 : Cond.fieldLink RX12 138 RX12 "weight" "[I" ∈ ea_tbl := ea_in (et_6 (List.mem_of_getElem? (i := 156) (by decide +kernel))) rfl
theorem ew_1471 : Cond.fieldLink RX12 141 RX12 "who" "[I" ∈ ea_tbl := ea_in (et_6 (List.mem_of_getElem? (i := 157) (by decide +kernel))) rfl
theorem ew_1472 : Cond.fieldLink RX12 144 RX12 "posted" "[I" ∈ ea_tbl := ea_in (et_6 (List.mem_of_getElem? (i := 158) (by decide +kernel))) rfl
theorem ew_1473 : Cond.fieldLink RX12 147 RX12 "milesWere" "[I" ∈ ea_tbl := ea_in (et_6 (List.mem_of_getElem? (i := 159) (by decide +kernel))) rfl
theorem ew_1474 : Cond.fieldLink RX12 150 RX12 "frankNumber" "[I" ∈ ea_tbl := ea_in (et_6 (List.mem_of_getElem? (i := 160) (by decide +kernel))) rfl
theorem ew_1475 : Cond.fieldLink RX12 153 RX12 "letterAct" "[I" ∈ ea_tbl := ea_in (et_6 (List.mem_of_getElem? (i := 161) (by decide +kernel))) rfl
theorem ew_1476 : Cond.fieldLink RX12 156 RX12 "chargeAll" "[I" ∈ ea_tbl := ea_in (et_6 (List.mem_of_getElem? (i := 162) (by decide +kernel))) rfl
theorem ew_1477 : Cond.fieldLink RX12 159 RX12 "chargeLine" "[I" ∈ ea_tbl := ea_in (et_6 (List.mem_of_getElem? (i := 163) (by decide +kernel))) rfl
theorem ew_1478 : Cond.fieldLink RX12 162 RX12 "leadRows" "[I" ∈ ea_tbl := ea_in (et_6 (List.mem_of_getElem? (i := 164) (by decide +kernel))) rfl
theorem ew_1479 : Cond.fieldLink RX12 165 RX12 "deadFor" "[I" ∈ ea_tbl := ea_in (et_6 (List.mem_of_getElem? (i := 165) (by decide +kernel))) rfl
theorem ew_1480 : Cond.fieldLink RX12 168 RX12 "crossWas" "[Z" ∈ ea_tbl := ea_in (et_6 (List.mem_of_getElem? (i := 166) (by decide +kernel))) rfl
theorem ew_1481 : Cond.fieldLink RX12 171 RX12 "free" "[Z" ∈ ea_tbl := ea_in (et_6 (List.mem_of_getElem? (i := 167) (by decide +kernel))) rfl
theorem ew_1482 : Cond.fieldLink RX12 174 RX12 "isNobody" "[Z" ∈ ea_tbl := ea_in (et_6 (List.mem_of_getElem? (i := 168) (by decide +kernel))) rfl
theorem ew_1483 : Cond.fieldLink RX12 177 RX12 "state" "[I" ∈ ea_tbl := ea_in (et_6 (List.mem_of_getElem? (i := 169) (by decide +kernel))) rfl
theorem ew_1484 : Cond.fieldLink RX12 180 RX12 "place" "[I" ∈ ea_tbl := ea_in (et_6 (List.mem_of_getElem? (i := 170) (by decide +kernel))) rfl
theorem ew_1485 : Cond.fieldLink RX12 183 RX12 "forStop" "[I" ∈ ea_tbl := ea_in (et_6 (List.mem_of_getElem? (i := 171) (by decide +kernel))) rfl
theorem ew_1486 : Cond.fieldLink RX12 186 RX12 "left" "[I" ∈ ea_tbl := ea_in (et_6 (List.mem_of_getElem? (i := 172) (by decide +kernel))) rfl
theorem ew_1487 : Cond.fieldLink RX12 189 RX12 "changed" "[I" ∈ ea_tbl := ea_in (et_6 (List.mem_of_getElem? (i := 173) (by decide +kernel))) rfl
theorem ew_1488 : Cond.fieldLink RX12 192 RX12 "runLeft" "[I" ∈ ea_tbl := ea_in (et_6 (List.mem_of_getElem? (i := 174) (by decide +kernel))) rfl
theorem ew_1489 : Cond.fieldLink RX12 195 RX12 "sorted" "[Z" ∈ ea_tbl := ea_in (et_6 (List.mem_of_getElem? (i := 175) (by decide +kernel))) rfl
theorem ew_1490 : Cond.fieldLink RX12 199 RX12 "leadMinute" "[I" ∈ ea_tbl := ea_in (et_6 (List.mem_of_getElem? (i := 176) (by decide +kernel))) rfl
theorem ew_1491 : Cond.fieldLink RX12 202 RX12 "leadState" "[I" ∈ ea_tbl := ea_in (et_6 (List.mem_of_getElem? (i := 177) (by decide +kernel))) rfl
theorem ew_1492 : Cond.fieldLink RX12 205 RX12 "leadPlace" "[I" ∈ ea_tbl := ea_in (et_6 (List.mem_of_getElem? (i := 178) (by decide +kernel))) rfl
theorem ew_1493 : Cond.fieldLink RX12 208 RX12 "facts" "[I" ∈ ea_tbl := ea_in (et_6 (List.mem_of_getElem? (i := 179) (by decide +kernel))) rfl
theorem ew_1494 : Cond.fieldLink RX12 569 RX12 "sorters" "I" ∈ ea_tbl := ea_in (et_6 (List.mem_of_getElem? (i := 180) (by decide +kernel))) rfl
theorem ew_1495 : Cond.fieldLink RX12 211 RX12 "speed" "[I" ∈ ea_tbl := ea_in (et_6 (List.mem_of_getElem? (i := 181) (by decide +kernel))) rfl
theorem ew_1496 : Cond.fieldLink RX12 214 RX12 "knows" "[I" ∈ ea_tbl := ea_in (et_6 (List.mem_of_getElem? (i := 182) (by decide +kernel))) rfl
theorem ew_1497 : Cond.fieldLink RX12 217 RX12 "seatOf" "[I" ∈ ea_tbl := ea_in (et_6 (List.mem_of_getElem? (i := 183) (by decide +kernel))) rfl
theorem ew_1498 : Cond.fieldLink RX12 220 RX12 "timeLeft" "[I" ∈ ea_tbl := ea_in (et_6 (List.mem_of_getElem? (i := 184) (by decide +kernel))) rfl
theorem ew_1499 : Cond.fieldLink RX12 223 RX12 "places" "[I" ∈ ea_tbl := ea_in (et_6 (List.mem_of_getElem? (i := 185) (by decide +kernel))) rfl
theorem ew_1500 : Cond.fieldLink RX12 226 RX12 "placeTown" "[I" ∈ ea_tbl := ea_in (et_6 (List.mem_of_getElem? (i := 186) (by decide +kernel))) rfl
theorem ew_1501 : Cond.fieldLink RX12 229 RX12 "placeChance" "[I" ∈ ea_tbl := ea_in (et_6 (List.mem_of_getElem? (i := 187) (by decide +kernel))) rfl
theorem ew_1502 : Cond.fieldLink RX12 614 RX12 "robberies" "I" ∈ ea_tbl := ea_in (et_6 (List.mem_of_getElem? (i := 188) (by decide +kernel))) rfl
theorem ew_1503 : Cond.fieldLink RX12 232 RX12 "robbedRun" "[I" ∈ ea_tbl := ea_in (et_6 (List.mem_of_getElem? (i := 189) (by decide +kernel))) rfl
theorem ew_1504 : Cond.fieldLink RX12 235 RX12 "robbedAt" "[I" ∈ ea_tbl := ea_in (et_6 (List.mem_of_getElem? (i := 190) (by decide +kernel))) rfl
theorem ew_1505 : Cond.fieldLink RX12 238 RX12 "robbedMany" "[I" ∈ ea_tbl := ea_in (et_6 (List.mem_of_getElem? (i := 191) (by decide +kernel))) rfl
theorem ew_1506 : Cond.fieldLink RX12 241 RX12 "robbedOwed" "[I" ∈ ea_tbl := ea_in (et_6 (List.mem_of_getElem? (i := 192) (by decide +kernel))) rfl
theorem ew_1507 : Cond.fieldLink RX12 244 RX12 "robbed" "[I" ∈ ea_tbl := ea_in (et_6 (List.mem_of_getElem? (i := 193) (by decide +kernel))) rfl
theorem ew_1508 : Cond.fieldLink RX12 247 RX12 "low" "[I" ∈ ea_tbl := ea_in (et_6 (List.mem_of_getElem? (i := 194) (by decide +kernel))) rfl
theorem ew_1509 : Cond.fieldLink RX12 250 RX12 "high" "[I" ∈ ea_tbl := ea_in (et_6 (List.mem_of_getElem? (i := 195) (by decide +kernel))) rfl
theorem ew_1510 : Cond.fieldLink RX12 253 RX12 "setAt" "[I" ∈ ea_tbl := ea_in (et_6 (List.mem_of_getElem? (i := 196) (by decide +kernel))) rfl
theorem ew_1511 : Cond.fieldLink RX12 256 RX12 "stateHad" "[I" ∈ ea_tbl := ea_in (et_6 (List.mem_of_getElem? (i := 197) (by decide +kernel))) rfl
theorem ew_1512 : Cond.fieldLink RX12 259 RX12 "placeHad" "[I" ∈ ea_tbl := ea_in (et_6 (List.mem_of_getElem? (i := 198) (by decide +kernel))) rfl
theorem ew_1513 : Cond.fieldLink RX12 262 RX12 "forStopHad" "[I" ∈ ea_tbl := ea_in (et_6 (List.mem_of_getElem? (i := 199) (by decide +kernel))) rfl
theorem ew_1514 : Cond.fieldLink RX12 265 RX12 "leftHad" "[I" ∈ ea_tbl := ea_in (et_6 (List.mem_of_getElem? (i := 200) (by decide +kernel))) rfl
theorem ew_1515 : Cond.fieldLink RX12 268 RX12 "changedHad" "[I" ∈ ea_tbl := ea_in (et_6 (List.mem_of_getElem? (i := 201) (by decide +kernel))) rfl
theorem ew_1516 : Cond.fieldLink RX12 271 RX12 "rowsHad" "[I" ∈ ea_tbl := ea_in (et_6 (List.mem_of_getElem? (i := 202) (by decide +kernel))) rfl
theorem ew_1517 : Cond.fieldLink RX12 274 RX12 "deadHad" "[I" ∈ ea_tbl := ea_in (et_6 (List.mem_of_getElem? (i := 203) (by decide +kernel))) rfl
theorem ew_1518 : Cond.fieldLink RX12 277 RX12 "runLeftHad" "[I" ∈ ea_tbl := ea_in (et_6 (List.mem_of_getElem? (i := 204) (by decide +kernel))) rfl
theorem ew_1519 : Cond.fieldLink RX12 280 RX12 "sortedHad" "[Z" ∈ ea_tbl := ea_in (et_6 (List.mem_of_getElem? (i := 205) (by decide +kernel))) rfl
theorem ew_1760 : Cond.code yX12_town cX12_town 1 (some .int) ∈ ea_tbl := ea_in (et_7 (List.mem_of_getElem? (i := 206) rfl)) rfl
theorem ew_1764 : Cond.code yX12_road cX12_road 4 (some .boolean) ∈ ea_tbl := ea_in (et_7 (List.mem_of_getElem? (i := 210) rfl)) rfl
theorem ew_1765 : Cond.methodLink RX12 297 yX12_isTown ∈ ea_tbl := ea_in (et_7 (List.mem_of_getElem? (i := 211) (by decide +kernel))) rfl
theorem ew_1767 : Cond.instanceMethod yX12_isTown ∈ ea_tbl := ea_in (et_7 (List.mem_of_getElem? (i := 213) (by decide +kernel))) rfl
theorem ew_1768 : Cond.code yX12_isTown cX12_isTown 2 (some .boolean) ∈ ea_tbl := ea_in (et_7 (List.mem_of_getElem? (i := 214) rfl)) rfl
theorem ew_1769 : Cond.methodLink RX12 286 yX12_isIn ∈ ea_tbl := ea_in (et_7 (List.mem_of_getElem? (i := 215) (by decide +kernel))) rfl
theorem ew_1770 : Cond.static yX12_isIn ∈ ea_tbl := ea_in (et_7 (List.mem_of_getElem? (i := 216) (by decide +kernel))) rfl
theorem ew_1771 : Cond.code yX12_isIn cX12_isIn 3 (some .boolean) ∈ ea_tbl := ea_in (et_7 (List.mem_of_getElem? (i := 217) rfl)) rfl
theorem ew_1775 : Cond.code yX12_miles cX12_miles 4 (some .int) ∈ ea_tbl := ea_in (et_7 (List.mem_of_getElem? (i := 221) rfl)) rfl
theorem ew_1776 : Cond.methodLink RX12 306 yX12_milesOf ∈ ea_tbl := ea_in (et_7 (List.mem_of_getElem? (i := 222) (by decide +kernel))) rfl
theorem ew_1778 : Cond.instanceMethod yX12_milesOf ∈ ea_tbl := ea_in (et_7 (List.mem_of_getElem? (i := 224) (by decide +kernel))) rfl
theorem ew_1779 : Cond.code yX12_milesOf cX12_milesOf 4 (some .int) ∈ ea_tbl := ea_in (et_7 (List.mem_of_getElem? (i := 225) rfl)) rfl
theorem ew_1780 : Cond.methodLink RX12 302 yX12_spreads ∈ ea_tbl := ea_in (et_7 (List.mem_of_getElem? (i := 226) (by decide +kernel))) rfl
theorem ew_1782 : Cond.instanceMethod yX12_spreads ∈ ea_tbl := ea_in (et_7 (List.mem_of_getElem? (i := 228) (by decide +kernel))) rfl
theorem ew_1783 : Cond.code yX12_spreads cX12_spreads 7 none ∈ ea_tbl := ea_in (et_7 (List.mem_of_getElem? (i := 229) rfl)) rfl
theorem ew_1784 : Cond.constant RX12 301 1000000 ∈ ea_tbl := ea_in (et_7 (List.mem_of_getElem? (i := 230) (by decide +kernel))) rfl
theorem ew_1788 : Cond.code yX12_train cX12_train 1 (some .int) ∈ ea_tbl := ea_in (et_7 (List.mem_of_getElem? (i := 234) rfl)) rfl
theorem ew_1792 : Cond.code yX12_stop cX12_stop 7 (some .int) ∈ ea_tbl := ea_in (et_7 (List.mem_of_getElem? (i := 238) rfl)) rfl
theorem ew_1793 : Cond.methodLink RX12 310 yX12_isTrain ∈ ea_tbl := ea_in (et_7 (List.mem_of_getElem? (i := 239) (by decide +kernel))) rfl
theorem ew_1795 : Cond.instanceMethod yX12_isTrain ∈ ea_tbl := ea_in (et_8 (List.mem_of_getElem? (i := 1) (by decide +kernel))) rfl
theorem ew_1796 : Cond.code yX12_isTrain cX12_isTrain 2 (some .boolean) ∈ ea_tbl := ea_in (et_8 (List.mem_of_getElem? (i := 2) rfl)) rfl
theorem ew_1800 : Cond.code yX12_stopOf cX12_stopOf 5 (some .int) ∈ ea_tbl := ea_in (et_8 (List.mem_of_getElem? (i := 6) rfl)) rfl
theorem ew_1804 : Cond.code yX12_late cX12_late 4 (some .boolean) ∈ ea_tbl := ea_in (et_8 (List.mem_of_getElem? (i := 10) rfl)) rfl
theorem ew_1805 : Cond.methodLink RX12 319 yX12_canBeLate ∈ ea_tbl := ea_in (et_8 (List.mem_of_getElem? (i := 11) (by decide +kernel))) rfl
theorem ew_1807 : Cond.instanceMethod yX12_canBeLate ∈ ea_tbl := ea_in (et_8 (List.mem_of_getElem? (i := 13) (by decide +kernel))) rfl
theorem ew_1808 : Cond.code yX12_canBeLate cX12_canBeLate 4 (some .boolean) ∈ ea_tbl := ea_in (et_8 (List.mem_of_getElem? (i := 14) rfl)) rfl
theorem ew_1809 : Cond.methodLink RX12 316 yX12_isDay ∈ ea_tbl := ea_in (et_8 (List.mem_of_getElem? (i := 15) (by decide +kernel))) rfl
theorem ew_1810 : Cond.static yX12_isDay ∈ ea_tbl := ea_in (et_8 (List.mem_of_getElem? (i := 16) (by decide +kernel))) rfl
theorem ew_1811 : Cond.code yX12_isDay cX12_isDay 1 (some .boolean) ∈ ea_tbl := ea_in (et_8 (List.mem_of_getElem? (i := 17) rfl)) rfl
theorem ew_1812 : Cond.methodLink RX12 322 yX12_run ∈ ea_tbl := ea_in (et_8 (List.mem_of_getElem? (i := 18) (by decide +kernel))) rfl
theorem ew_1813 : Cond.static yX12_run ∈ ea_tbl := ea_in (et_8 (List.mem_of_getElem? (i := 19) (by decide +kernel))) rfl
theorem ew_1814 : Cond.code yX12_run cX12_run 2 (some .int) ∈ ea_tbl := ea_in (et_8 (List.mem_of_getElem? (i := 20) rfl)) rfl
theorem ew_1818 : Cond.code yX12_miss cX12_miss 4 (some .boolean) ∈ ea_tbl := ea_in (et_8 (List.mem_of_getElem? (i := 24) rfl)) rfl
theorem ew_1819 : Cond.methodLink RX12 326 yX12_comesAt ∈ ea_tbl := ea_in (et_8 (List.mem_of_getElem? (i := 25) (by decide +kernel))) rfl
theorem ew_1821 : Cond.instanceMethod yX12_comesAt ∈ ea_tbl := ea_in (et_8 (List.mem_of_getElem? (i := 27) (by decide +kernel))) rfl
theorem ew_1822 : Cond.code yX12_comesAt cX12_comesAt 3 (some .int) ∈ ea_tbl := ea_in (et_8 (List.mem_of_getElem? (i := 28) rfl)) rfl
theorem ew_1826 : Cond.code yX12_way cX12_way 6 (some .int) ∈ ea_tbl := ea_in (et_8 (List.mem_of_getElem? (i := 32) rfl)) rfl
theorem ew_1827 : Cond.methodLink RX12 361 yX12_bestFrom ∈ ea_tbl := ea_in (et_8 (List.mem_of_getElem? (i := 33) (by decide +kernel))) rfl
theorem ew_1829 : Cond.instanceMethod yX12_bestFrom ∈ ea_tbl := ea_in (et_8 (List.mem_of_getElem? (i := 35) (by decide +kernel))) rfl
theorem ew_1830 : Cond.code yX12_bestFrom cX12_bestFrom 5 (some .int) ∈ ea_tbl := ea_in (et_8 (List.mem_of_getElem? (i := 36) rfl)) rfl
theorem ew_1831 : Cond.methodLink RX12 358 yX12_table ∈ ea_tbl := ea_in (et_8 (List.mem_of_getElem? (i := 37) (by decide +kernel))) rfl
theorem ew_1833 : Cond.instanceMethod yX12_table ∈ ea_tbl := ea_in (et_8 (List.mem_of_getElem? (i := 39) (by decide +kernel))) rfl
theorem ew_1834 : Cond.code yX12_table cX12_table 3 none ∈ ea_tbl := ea_in (et_8 (List.mem_of_getElem? (i := 40) rfl)) rfl
theorem ew_1835 : Cond.methodLink RX12 338 yX12_isMore ∈ ea_tbl := ea_in (et_8 (List.mem_of_getElem? (i := 41) (by decide +kernel))) rfl
theorem ew_1837 : Cond.instanceMethod yX12_isMore ∈ ea_tbl := ea_in (et_8 (List.mem_of_getElem? (i := 43) (by decide +kernel))) rfl
theorem ew_1838 : Cond.code yX12_isMore cX12_isMore 2 (some .boolean) ∈ ea_tbl := ea_in (et_8 (List.mem_of_getElem? (i := 44) rfl)) rfl
theorem ew_1839 : Cond.methodLink RX12 332 yX12_minuteOf ∈ ea_tbl := ea_in (et_8 (List.mem_of_getElem? (i := 45) (by decide +kernel))) rfl
theorem ew_1841 : Cond.instanceMethod yX12_minuteOf ∈ ea_tbl := ea_in (et_8 (List.mem_of_getElem? (i := 47) (by decide +kernel))) rfl
theorem ew_1842 : Cond.code yX12_minuteOf cX12_minuteOf 3 (some .int) ∈ ea_tbl := ea_in (et_8 (List.mem_of_getElem? (i := 48) rfl)) rfl
theorem ew_1843 : Cond.methodLink RX12 329 yX12_goesAt ∈ ea_tbl := ea_in (et_8 (List.mem_of_getElem? (i := 49) (by decide +kernel))) rfl
theorem ew_1845 : Cond.instanceMethod yX12_goesAt ∈ ea_tbl := ea_in (et_8 (List.mem_of_getElem? (i := 51) (by decide +kernel))) rfl
theorem ew_1846 : Cond.code yX12_goesAt cX12_goesAt 3 (some .int) ∈ ea_tbl := ea_in (et_8 (List.mem_of_getElem? (i := 52) rfl)) rfl
theorem ew_1847 : Cond.methodLink RX12 341 yX12_isAheadOf ∈ ea_tbl := ea_in (et_8 (List.mem_of_getElem? (i := 53) (by decide +kernel))) rfl
theorem ew_1849 : Cond.instanceMethod yX12_isAheadOf ∈ ea_tbl := ea_in (et_8 (List.mem_of_getElem? (i := 55) (by decide +kernel))) rfl
theorem ew_1850 : Cond.code yX12_isAheadOf cX12_isAheadOf 5 (some .boolean) ∈ ea_tbl := ea_in (et_8 (List.mem_of_getElem? (i := 56) rfl)) rfl
theorem ew_1851 : Cond.methodLink RX12 345 yX12_goings ∈ ea_tbl := ea_in (et_8 (List.mem_of_getElem? (i := 57) (by decide +kernel))) rfl
theorem ew_1853 : Cond.instanceMethod yX12_goings ∈ ea_tbl := ea_in (et_8 (List.mem_of_getElem? (i := 59) (by decide +kernel))) rfl
theorem ew_1854 : Cond.code yX12_goings cX12_goings 13 none ∈ ea_tbl := ea_in (et_8 (List.mem_of_getElem? (i := 60) rfl)) rfl
theorem ew_1855 : Cond.methodLink RX12 349 yX12_townOf ∈ ea_tbl := ea_in (et_8 (List.mem_of_getElem? (i := 61) (by decide +kernel))) rfl
theorem ew_1857 : Cond.instanceMethod yX12_townOf ∈ ea_tbl := ea_in (et_8 (List.mem_of_getElem? (i := 63) (by decide +kernel))) rfl
theorem ew_1858 : Cond.code yX12_townOf cX12_townOf 3 (some .int) ∈ ea_tbl := ea_in (et_8 (List.mem_of_getElem? (i := 64) rfl)) rfl
theorem ew_1859 : Cond.methodLink RX12 352 yX12_going ∈ ea_tbl := ea_in (et_8 (List.mem_of_getElem? (i := 65) (by decide +kernel))) rfl
theorem ew_1861 : Cond.instanceMethod yX12_going ∈ ea_tbl := ea_in (et_8 (List.mem_of_getElem? (i := 67) (by decide +kernel))) rfl
theorem ew_1862 : Cond.code yX12_going cX12_going 4 (some .int) ∈ ea_tbl := ea_in (et_8 (List.mem_of_getElem? (i := 68) rfl)) rfl
theorem ew_1863 : Cond.methodLink RX12 355 yX12_isBetter ∈ ea_tbl := ea_in (et_8 (List.mem_of_getElem? (i := 69) (by decide +kernel))) rfl
theorem ew_1865 : Cond.instanceMethod yX12_isBetter ∈ ea_tbl := ea_in (et_8 (List.mem_of_getElem? (i := 71) (by decide +kernel))) rfl
theorem ew_1866 : Cond.code yX12_isBetter cX12_isBetter 6 (some .boolean) ∈ ea_tbl := ea_in (et_8 (List.mem_of_getElem? (i := 72) rfl)) rfl
theorem ew_1870 : Cond.code yX12_feed cX12_feed 8 (some .int) ∈ ea_tbl := ea_in (et_8 (List.mem_of_getElem? (i := 76) rfl)) rfl
theorem ew_1874 : Cond.code yX12_end cX12_end 2 (some .boolean) ∈ ea_tbl := ea_in (et_8 (List.mem_of_getElem? (i := 80) rfl)) rfl
theorem ew_1878 : Cond.code yX12_act cX12_act 5 (some .int) ∈ ea_tbl := ea_in (et_8 (List.mem_of_getElem? (i := 84) rfl)) rfl
theorem ew_1879 : Cond.methodLink RX12 446 yX12_next0 ∈ ea_tbl := ea_in (et_8 (List.mem_of_getElem? (i := 85) (by decide +kernel))) rfl
theorem ew_1881 : Cond.instanceMethod yX12_next0 ∈ ea_tbl := ea_in (et_8 (List.mem_of_getElem? (i := 87) (by decide +kernel))) rfl
theorem ew_1882 : Cond.code yX12_next0 cX12_next0 3 none ∈ ea_tbl := ea_in (et_8 (List.mem_of_getElem? (i := 88) rfl)) rfl
theorem ew_1883 : Cond.methodLink RX12 418 yX12_see ∈ ea_tbl := ea_in (et_8 (List.mem_of_getElem? (i := 89) (by decide +kernel))) rfl
theorem ew_1885 : Cond.instanceMethod yX12_see ∈ ea_tbl := ea_in (et_8 (List.mem_of_getElem? (i := 91) (by decide +kernel))) rfl
theorem ew_1886 : Cond.code yX12_see cX12_see 2 (some .int) ∈ ea_tbl := ea_in (et_8 (List.mem_of_getElem? (i := 92) rfl)) rfl
theorem ew_1887 : Cond.methodLink RX12 425 yX12_isLetter ∈ ea_tbl := ea_in (et_8 (List.mem_of_getElem? (i := 93) (by decide +kernel))) rfl
theorem ew_1888 : Cond.static yX12_isLetter ∈ ea_tbl := ea_in (et_8 (List.mem_of_getElem? (i := 94) (by decide +kernel))) rfl
theorem ew_1889 : Cond.code yX12_isLetter cX12_isLetter 1 (some .boolean) ∈ ea_tbl := ea_in (et_8 (List.mem_of_getElem? (i := 95) rfl)) rfl
theorem ew_1890 : Cond.methodLink RX12 428 yX12_word ∈ ea_tbl := ea_in (et_8 (List.mem_of_getElem? (i := 96) (by decide +kernel))) rfl
theorem ew_1892 : Cond.instanceMethod yX12_word ∈ ea_tbl := ea_in (et_8 (List.mem_of_getElem? (i := 98) (by decide +kernel))) rfl
theorem ew_1893 : Cond.code yX12_word cX12_word 1 (some .int) ∈ ea_tbl := ea_in (et_8 (List.mem_of_getElem? (i := 99) rfl)) rfl
theorem ew_1895 : Cond.methodLink RX12 385 yX12_is ∈ ea_tbl := ea_in (et_8 (List.mem_of_getElem? (i := 101) (by decide +kernel))) rfl
theorem ew_1897 : Cond.instanceMethod yX12_is ∈ ea_tbl := ea_in (et_8 (List.mem_of_getElem? (i := 103) (by decide +kernel))) rfl
theorem ew_1898 : Cond.code yX12_is cX12_is 4 (some .boolean) ∈ ea_tbl := ea_in (et_8 (List.mem_of_getElem? (i := 104) rfl)) rfl
theorem ew_1899 : Cond.methodLink RX12 373 yJ0_length_8abf5 ∈ ea_tbl := ea_in (et_8 (List.mem_of_getElem? (i := 105) (by decide +kernel))) rfl
theorem ew_1900 : Cond.instanceMethod yJ0_length_8abf5 ∈ ea_tbl := ea_in (et_8 (List.mem_of_getElem? (i := 106) (by decide +kernel))) rfl
theorem ew_1901 : Cond.selects RJ0 yJ0_length_8abf5 yJ0_length_8abf5 ∈ ea_tbl := ea_in (et_8 (List.mem_of_getElem? (i := 107) (by decide +kernel))) rfl
theorem ew_1902 : Cond.code yJ0_length_8abf5 cJ0_length_8abf5 1 (some .int) ∈ ea_tbl := ea_in (et_8 (List.mem_of_getElem? (i := 108) rfl)) rfl
theorem ew_1903 : Cond.methodLink RJ0 335 yJ0_coder_7d493 ∈ ea_tbl := ea_in (et_8 (List.mem_of_getElem? (i := 109) (by decide +kernel))) rfl
theorem ew_1904 : Cond.instanceMethod yJ0_coder_7d493 ∈ ea_tbl := ea_in (et_8 (List.mem_of_getElem? (i := 110) (by decide +kernel))) rfl
theorem ew_1905 : Cond.selects RJ0 yJ0_coder_7d493 yJ0_coder_7d493 ∈ ea_tbl := ea_in (et_8 (List.mem_of_getElem? (i := 111) (by decide +kernel))) rfl
theorem ew_1906 : Cond.code yJ0_coder_7d493 cJ0_coder_7d493 1 (some .byte) ∈ ea_tbl := ea_in (et_8 (List.mem_of_getElem? (i := 112) rfl)) rfl
theorem ew_1907 : Cond.fieldLink RJ0 38 RJ0 "COMPACT_STRINGS" "Z" ∈ ea_tbl := ea_in (et_8 (List.mem_of_getElem? (i := 113) (by decide +kernel))) rfl
theorem ew_1909 : Cond.methodLink RX12 379 yJ0_charAt_5068e ∈ ea_tbl := ea_in (et_8 (List.mem_of_getElem? (i := 115) (by decide +kernel))) rfl
theorem ew_1910 : Cond.instanceMethod yJ0_charAt_5068e ∈ ea_tbl := ea_in (et_8 (List.mem_of_getElem? (i := 116) (by decide +kernel))) rfl
theorem ew_1911 : Cond.selects RJ0 yJ0_charAt_5068e yJ0_charAt_5068e ∈ ea_tbl := ea_in (et_8 (List.mem_of_getElem? (i := 117) (by decide +kernel))) rfl
theorem ew_1912 : Cond.code yJ0_charAt_5068e cJ0_charAt_5068e 2 (some .char) ∈ ea_tbl := ea_in (et_8 (List.mem_of_getElem? (i := 118) rfl)) rfl
theorem ew_1913 : Cond.methodLink RJ0 492 yJ0_isLatin1_aae02 ∈ ea_tbl := ea_in (et_8 (List.mem_of_getElem? (i := 119) (by decide +kernel))) rfl
theorem ew_1914 : Cond.instanceMethod yJ0_isLatin1_aae02 ∈ ea_tbl := ea_in (et_8 (List.mem_of_getElem? (i := 120) (by decide +kernel))) rfl
theorem ew_1915 : Cond.selects RJ0 yJ0_isLatin1_aae02 yJ0_isLatin1_aae02 ∈ ea_tbl := ea_in (et_8 (List.mem_of_getElem? (i := 121) (by decide +kernel))) rfl
theorem ew_1916 : Cond.code yJ0_isLatin1_aae02 cJ0_isLatin1_aae02 1 (some .boolean) ∈ ea_tbl := ea_in (et_8 (List.mem_of_getElem? (i := 122) rfl)) rfl
theorem ew_1917 : Cond.methodLink RJ0 495 yJ1_charAt_3b067 ∈ ea_tbl := ea_in (et_8 (List.mem_of_getElem? (i := 123) (by decide +kernel))) rfl
theorem ew_1918 : Cond.static yJ1_charAt_3b067 ∈ ea_tbl := ea_in (et_8 (List.mem_of_getElem? (i := 124) (by decide +kernel))) rfl
theorem ew_1919 : Cond.code yJ1_charAt_3b067 cJ1_charAt_3b067 2 (some .char) ∈ ea_tbl := ea_in (et_8 (List.mem_of_getElem? (i := 125) rfl)) rfl
theorem ew_1920 : Cond.methodLink RJ1 9 yJ0_checkIndex_df160 ∈ ea_tbl := ea_in (et_8 (List.mem_of_getElem? (i := 126) (by decide +kernel))) rfl
theorem ew_1921 : Cond.static yJ0_checkIndex_df160 ∈ ea_tbl := ea_in (et_8 (List.mem_of_getElem? (i := 127) (by decide +kernel))) rfl
theorem ew_1922 : Cond.code yJ0_checkIndex_df160 cJ0_checkIndex_df160 2 none ∈ ea_tbl := ea_in (et_8 (List.mem_of_getElem? (i := 128) rfl)) rfl
theorem ew_1923 : Cond.fieldLink RJ0 1053 RJ3 "SIOOBE_FORMATTER" "Ljava/util/function/BiFunction;" ∈ ea_tbl := ea_in (et_8 (List.mem_of_getElem? (i := 129) (by decide +kernel))) rfl
theorem ew_1925 : Cond.methodLink RJ0 1059 yJ3_checkIndex_8e157 ∈ ea_tbl := ea_in (et_8 (List.mem_of_getElem? (i := 131) (by decide +kernel))) rfl
theorem ew_1926 : Cond.static yJ3_checkIndex_8e157 ∈ ea_tbl := ea_in (et_8 (List.mem_of_getElem? (i := 132) (by decide +kernel))) rfl
theorem ew_1927 : Cond.code yJ3_checkIndex_8e157 cJ3_checkIndex_8e157 3 (some .int) ∈ ea_tbl := ea_in (et_8 (List.mem_of_getElem? (i := 133) rfl)) rfl
theorem ew_1930 : Cond.code yJ2_charAt_3b067 cJ2_charAt_3b067 2 (some .char) ∈ ea_tbl := ea_in (et_8 (List.mem_of_getElem? (i := 136) rfl)) rfl
theorem ew_1933 : Cond.code yJ2_checkIndex_2214a cJ2_checkIndex_2214a 2 none ∈ ea_tbl := ea_in (et_8 (List.mem_of_getElem? (i := 139) rfl)) rfl
theorem ew_1936 : Cond.code yJ2_length_9d52b cJ2_length_9d52b 1 (some .int) ∈ ea_tbl := ea_in (et_8 (List.mem_of_getElem? (i := 142) rfl)) rfl
theorem ew_1940 : Cond.code yJ2_getChar_3b067 cJ2_getChar_3b067 2 (some .char) ∈ ea_tbl := ea_in (et_8 (List.mem_of_getElem? (i := 146) rfl)) rfl
theorem ew_1964 : Cond.methodLink RX12 431 yX12_isDigit ∈ ea_tbl := ea_in (et_8 (List.mem_of_getElem? (i := 170) (by decide +kernel))) rfl
theorem ew_1965 : Cond.static yX12_isDigit ∈ ea_tbl := ea_in (et_8 (List.mem_of_getElem? (i := 171) (by decide +kernel))) rfl
theorem ew_1966 : Cond.code yX12_isDigit cX12_isDigit 1 (some .boolean) ∈ ea_tbl := ea_in (et_8 (List.mem_of_getElem? (i := 172) rfl)) rfl
theorem ew_1967 : Cond.methodLink RX12 525 yX12_aLine ∈ ea_tbl := ea_in (et_8 (List.mem_of_getElem? (i := 173) (by decide +kernel))) rfl
theorem ew_1969 : Cond.instanceMethod yX12_aLine ∈ ea_tbl := ea_in (et_8 (List.mem_of_getElem? (i := 175) (by decide +kernel))) rfl
theorem ew_1970 : Cond.code yX12_aLine cX12_aLine 2 (some .boolean) ∈ ea_tbl := ea_in (et_8 (List.mem_of_getElem? (i := 176) rfl)) rfl
theorem ew_1971 : Cond.methodLink RX12 443 yX12_bad ∈ ea_tbl := ea_in (et_8 (List.mem_of_getElem? (i := 177) (by decide +kernel))) rfl
theorem ew_1973 : Cond.instanceMethod yX12_bad ∈ ea_tbl := ea_in (et_8 (List.mem_of_getElem? (i := 179) (by decide +kernel))) rfl
theorem ew_1974 : Cond.code yX12_bad cX12_bad 2 (some .boolean) ∈ ea_tbl := ea_in (et_8 (List.mem_of_getElem? (i := 180) rfl)) rfl
theorem ew_1975 : Cond.methodLink RX12 516 yX12_inner ∈ ea_tbl := ea_in (et_8 (List.mem_of_getElem? (i := 181) (by decide +kernel))) rfl
theorem ew_1977 : Cond.instanceMethod yX12_inner ∈ ea_tbl := ea_in (et_8 (List.mem_of_getElem? (i := 183) (by decide +kernel))) rfl
theorem ew_1978 : Cond.code yX12_inner cX12_inner 3 (some .boolean) ∈ ea_tbl := ea_in (et_8 (List.mem_of_getElem? (i := 184) rfl)) rfl
theorem ew_1979 : Cond.methodLink RX12 489 yX12_aCharge ∈ ea_tbl := ea_in (et_8 (List.mem_of_getElem? (i := 185) (by decide +kernel))) rfl
theorem ew_1981 : Cond.instanceMethod yX12_aCharge ∈ ea_tbl := ea_in (et_8 (List.mem_of_getElem? (i := 187) (by decide +kernel))) rfl
theorem ew_1982 : Cond.code yX12_aCharge cX12_aCharge 1 (some .boolean) ∈ ea_tbl := ea_in (et_8 (List.mem_of_getElem? (i := 188) rfl)) rfl
theorem ew_1983 : Cond.methodLink RX12 471 yX12_sumOf ∈ ea_tbl := ea_in (et_8 (List.mem_of_getElem? (i := 189) (by decide +kernel))) rfl
theorem ew_1985 : Cond.instanceMethod yX12_sumOf ∈ ea_tbl := ea_in (et_8 (List.mem_of_getElem? (i := 191) (by decide +kernel))) rfl
theorem ew_1986 : Cond.code yX12_sumOf cX12_sumOf 2 (some .boolean) ∈ ea_tbl := ea_in (et_8 (List.mem_of_getElem? (i := 192) rfl)) rfl
theorem ew_1987 : Cond.methodLink RX12 458 yX12_product ∈ ea_tbl := ea_in (et_8 (List.mem_of_getElem? (i := 193) (by decide +kernel))) rfl
theorem ew_1989 : Cond.instanceMethod yX12_product ∈ ea_tbl := ea_in (et_8 (List.mem_of_getElem? (i := 195) (by decide +kernel))) rfl
theorem ew_1990 : Cond.code yX12_product cX12_product 2 (some .boolean) ∈ ea_tbl := ea_in (et_8 (List.mem_of_getElem? (i := 196) rfl)) rfl
theorem ew_1991 : Cond.methodLink RX12 465 yX12_unit ∈ ea_tbl := ea_in (et_8 (List.mem_of_getElem? (i := 197) (by decide +kernel))) rfl
theorem ew_1993 : Cond.instanceMethod yX12_unit ∈ ea_tbl := ea_in (et_8 (List.mem_of_getElem? (i := 199) (by decide +kernel))) rfl
theorem ew_1994 : Cond.code yX12_unit cX12_unit 1 (some .boolean) ∈ ea_tbl := ea_in (et_8 (List.mem_of_getElem? (i := 200) rfl)) rfl
theorem ew_1995 : Cond.methodLink RX12 468 yX12_opens ∈ ea_tbl := ea_in (et_8 (List.mem_of_getElem? (i := 201) (by decide +kernel))) rfl
theorem ew_1997 : Cond.instanceMethod yX12_opens ∈ ea_tbl := ea_in (et_8 (List.mem_of_getElem? (i := 203) (by decide +kernel))) rfl
theorem ew_1998 : Cond.code yX12_opens cX12_opens 1 (some .boolean) ∈ ea_tbl := ea_in (et_8 (List.mem_of_getElem? (i := 204) rfl)) rfl
theorem ew_1999 : Cond.methodLink RX12 474 yX12_need ∈ ea_tbl := ea_in (et_8 (List.mem_of_getElem? (i := 205) (by decide +kernel))) rfl
theorem ew_2001 : Cond.instanceMethod yX12_need ∈ ea_tbl := ea_in (et_8 (List.mem_of_getElem? (i := 207) (by decide +kernel))) rfl
theorem ew_2002 : Cond.code yX12_need cX12_need 2 (some .boolean) ∈ ea_tbl := ea_in (et_8 (List.mem_of_getElem? (i := 208) rfl)) rfl
theorem ew_2003 : Cond.methodLink RX12 462 yX12_lay ∈ ea_tbl := ea_in (et_8 (List.mem_of_getElem? (i := 209) (by decide +kernel))) rfl
theorem ew_2005 : Cond.instanceMethod yX12_lay ∈ ea_tbl := ea_in (et_8 (List.mem_of_getElem? (i := 211) (by decide +kernel))) rfl
theorem ew_2006 : Cond.code yX12_lay cX12_lay 3 none ∈ ea_tbl := ea_in (et_8 (List.mem_of_getElem? (i := 212) rfl)) rfl
theorem ew_2007 : Cond.methodLink RX12 486 yX12_any ∈ ea_tbl := ea_in (et_8 (List.mem_of_getElem? (i := 213) (by decide +kernel))) rfl
theorem ew_2009 : Cond.instanceMethod yX12_any ∈ ea_tbl := ea_in (et_8 (List.mem_of_getElem? (i := 215) (by decide +kernel))) rfl
theorem ew_2010 : Cond.code yX12_any cX12_any 1 (some .boolean) ∈ ea_tbl := ea_in (et_8 (List.mem_of_getElem? (i := 216) rfl)) rfl
theorem ew_2011 : Cond.methodLink RX12 477 yX12_all ∈ ea_tbl := ea_in (et_8 (List.mem_of_getElem? (i := 217) (by decide +kernel))) rfl
theorem ew_2013 : Cond.instanceMethod yX12_all ∈ ea_tbl := ea_in (et_8 (List.mem_of_getElem? (i := 219) (by decide +kernel))) rfl
theorem ew_2014 : Cond.code yX12_all cX12_all 1 (some .boolean) ∈ ea_tbl := ea_in (et_8 (List.mem_of_getElem? (i := 220) rfl)) rfl
theorem ew_2015 : Cond.methodLink RX12 480 yX12_one ∈ ea_tbl := ea_in (et_8 (List.mem_of_getElem? (i := 221) (by decide +kernel))) rfl
theorem ew_2017 : Cond.instanceMethod yX12_one ∈ ea_tbl := ea_in (et_8 (List.mem_of_getElem? (i := 223) (by decide +kernel))) rfl
theorem ew_2018 : Cond.code yX12_one cX12_one 2 (some .boolean) ∈ ea_tbl := ea_in (et_8 (List.mem_of_getElem? (i := 224) rfl)) rfl
theorem ew_2019 : Cond.methodLink RX12 492 yX12_aNumber ∈ ea_tbl := ea_in (et_8 (List.mem_of_getElem? (i := 225) (by decide +kernel))) rfl
theorem ew_2021 : Cond.instanceMethod yX12_aNumber ∈ ea_tbl := ea_in (et_8 (List.mem_of_getElem? (i := 227) (by decide +kernel))) rfl
theorem ew_2022 : Cond.code yX12_aNumber cX12_aNumber 2 (some .boolean) ∈ ea_tbl := ea_in (et_8 (List.mem_of_getElem? (i := 228) rfl)) rfl
theorem ew_2027 : Cond.code yX12_fault cX12_fault 2 (some .int) ∈ ea_tbl := ea_in (et_8 (List.mem_of_getElem? (i := 233) rfl)) rfl
theorem ew_2031 : Cond.code yX12_inForce cX12_inForce 4 (some .int) ∈ ea_tbl := ea_in (et_8 (List.mem_of_getElem? (i := 237) rfl)) rfl
theorem ew_2032 : Cond.methodLink RX12 528 yX12_actOn ∈ ea_tbl := ea_in (et_8 (List.mem_of_getElem? (i := 238) (by decide +kernel))) rfl
theorem ew_2034 : Cond.instanceMethod yX12_actOn ∈ ea_tbl := ea_in (et_9 (List.mem_of_getElem? (i := 0) (by decide +kernel))) rfl
theorem ew_2035 : Cond.code yX12_actOn cX12_actOn 3 (some .int) ∈ ea_tbl := ea_in (et_9 (List.mem_of_getElem? (i := 1) rfl)) rfl
theorem ew_2039 : Cond.code yX12_post cX12_post 9 (some .int) ∈ ea_tbl := ea_in (et_9 (List.mem_of_getElem? (i := 5) rfl)) rfl
theorem ew_2040 : Cond.methodLink RX12 550 yX12_isCross ∈ ea_tbl := ea_in (et_9 (List.mem_of_getElem? (i := 6) (by decide +kernel))) rfl
theorem ew_2042 : Cond.instanceMethod yX12_isCross ∈ ea_tbl := ea_in (et_9 (List.mem_of_getElem? (i := 8) (by decide +kernel))) rfl
theorem ew_2043 : Cond.code yX12_isCross cX12_isCross 4 (some .boolean) ∈ ea_tbl := ea_in (et_9 (List.mem_of_getElem? (i := 9) rfl)) rfl
theorem ew_2044 : Cond.methodLink RX12 543 yX12_isFree ∈ ea_tbl := ea_in (et_9 (List.mem_of_getElem? (i := 10) (by decide +kernel))) rfl
theorem ew_2046 : Cond.instanceMethod yX12_isFree ∈ ea_tbl := ea_in (et_9 (List.mem_of_getElem? (i := 12) (by decide +kernel))) rfl
theorem ew_2047 : Cond.code yX12_isFree cX12_isFree 3 (some .boolean) ∈ ea_tbl := ea_in (et_9 (List.mem_of_getElem? (i := 13) rfl)) rfl
theorem ew_2048 : Cond.methodLink RX12 553 yX12_chargeBy ∈ ea_tbl := ea_in (et_9 (List.mem_of_getElem? (i := 14) (by decide +kernel))) rfl
theorem ew_2050 : Cond.instanceMethod yX12_chargeBy ∈ ea_tbl := ea_in (et_9 (List.mem_of_getElem? (i := 16) (by decide +kernel))) rfl
theorem ew_2051 : Cond.code yX12_chargeBy cX12_chargeBy 5 (some .int) ∈ ea_tbl := ea_in (et_9 (List.mem_of_getElem? (i := 17) rfl)) rfl
theorem ew_2052 : Cond.methodLink RX12 546 yX12_lineOf ∈ ea_tbl := ea_in (et_9 (List.mem_of_getElem? (i := 18) (by decide +kernel))) rfl
theorem ew_2054 : Cond.instanceMethod yX12_lineOf ∈ ea_tbl := ea_in (et_9 (List.mem_of_getElem? (i := 20) (by decide +kernel))) rfl
theorem ew_2055 : Cond.code yX12_lineOf cX12_lineOf 6 (some .int) ∈ ea_tbl := ea_in (et_9 (List.mem_of_getElem? (i := 21) rfl)) rfl
theorem ew_2056 : Cond.methodLink RX12 537 yX12_gathers ∈ ea_tbl := ea_in (et_9 (List.mem_of_getElem? (i := 22) (by decide +kernel))) rfl
theorem ew_2058 : Cond.instanceMethod yX12_gathers ∈ ea_tbl := ea_in (et_9 (List.mem_of_getElem? (i := 24) (by decide +kernel))) rfl
theorem ew_2059 : Cond.code yX12_gathers cX12_gathers 2 none ∈ ea_tbl := ea_in (et_9 (List.mem_of_getElem? (i := 25) rfl)) rfl
theorem ew_2060 : Cond.methodLink RX12 540 yX12_comesTo ∈ ea_tbl := ea_in (et_9 (List.mem_of_getElem? (i := 26) (by decide +kernel))) rfl
theorem ew_2062 : Cond.instanceMethod yX12_comesTo ∈ ea_tbl := ea_in (et_9 (List.mem_of_getElem? (i := 28) (by decide +kernel))) rfl
theorem ew_2063 : Cond.code yX12_comesTo cX12_comesTo 8 (some .int) ∈ ea_tbl := ea_in (et_9 (List.mem_of_getElem? (i := 29) rfl)) rfl
theorem ew_2064 : Cond.methodLink RX12 534 yX12_both ∈ ea_tbl := ea_in (et_9 (List.mem_of_getElem? (i := 30) (by decide +kernel))) rfl
theorem ew_2065 : Cond.static yX12_both ∈ ea_tbl := ea_in (et_9 (List.mem_of_getElem? (i := 31) (by decide +kernel))) rfl
theorem ew_2066 : Cond.code yX12_both cX12_both 3 (some .int) ∈ ea_tbl := ea_in (et_9 (List.mem_of_getElem? (i := 32) rfl)) rfl
theorem ew_2067 : Cond.constant RX12 549 99999 ∈ ea_tbl := ea_in (et_9 (List.mem_of_getElem? (i := 33) (by decide +kernel))) rfl
theorem ew_2068 : Cond.methodLink RX12 556 yX12_turns ∈ ea_tbl := ea_in (et_9 (List.mem_of_getElem? (i := 34) (by decide +kernel))) rfl
theorem ew_2070 : Cond.instanceMethod yX12_turns ∈ ea_tbl := ea_in (et_9 (List.mem_of_getElem? (i := 36) (by decide +kernel))) rfl
theorem ew_2071 : Cond.code yX12_turns cX12_turns 6 none ∈ ea_tbl := ea_in (et_9 (List.mem_of_getElem? (i := 37) rfl)) rfl
theorem ew_2075 : Cond.code yX12_of cX12_of 3 (some .int) ∈ ea_tbl := ea_in (et_9 (List.mem_of_getElem? (i := 41) rfl)) rfl
theorem ew_2076 : Cond.methodLink RX12 563 yX12_isLetterOf ∈ ea_tbl := ea_in (et_9 (List.mem_of_getElem? (i := 42) (by decide +kernel))) rfl
theorem ew_2078 : Cond.instanceMethod yX12_isLetterOf ∈ ea_tbl := ea_in (et_9 (List.mem_of_getElem? (i := 44) (by decide +kernel))) rfl
theorem ew_2079 : Cond.code yX12_isLetterOf cX12_isLetterOf 2 (some .boolean) ∈ ea_tbl := ea_in (et_9 (List.mem_of_getElem? (i := 45) rfl)) rfl
theorem ew_2083 : Cond.code yX12_charge cX12_charge 3 (some .int) ∈ ea_tbl := ea_in (et_9 (List.mem_of_getElem? (i := 49) rfl)) rfl
theorem ew_2084 : Cond.methodLink RX12 566 yX12_owed ∈ ea_tbl := ea_in (et_9 (List.mem_of_getElem? (i := 50) (by decide +kernel))) rfl
theorem ew_2086 : Cond.instanceMethod yX12_owed ∈ ea_tbl := ea_in (et_9 (List.mem_of_getElem? (i := 52) (by decide +kernel))) rfl
theorem ew_2087 : Cond.code yX12_owed cX12_owed 2 (some .int) ∈ ea_tbl := ea_in (et_9 (List.mem_of_getElem? (i := 53) rfl)) rfl
theorem ew_2088 : Cond.methodLink RX12 560 yX12_isOwed ∈ ea_tbl := ea_in (et_9 (List.mem_of_getElem? (i := 54) (by decide +kernel))) rfl
theorem ew_2090 : Cond.instanceMethod yX12_isOwed ∈ ea_tbl := ea_in (et_9 (List.mem_of_getElem? (i := 56) (by decide +kernel))) rfl
theorem ew_2091 : Cond.code yX12_isOwed cX12_isOwed 2 (some .boolean) ∈ ea_tbl := ea_in (et_9 (List.mem_of_getElem? (i := 57) rfl)) rfl
theorem ew_2095 : Cond.code yX12_lead cX12_lead 5 (some .int) ∈ ea_tbl := ea_in (et_9 (List.mem_of_getElem? (i := 61) rfl)) rfl
theorem ew_2099 : Cond.code yX12_where cX12_where 5 (some .int) ∈ ea_tbl := ea_in (et_9 (List.mem_of_getElem? (i := 65) rfl)) rfl
theorem ew_2103 : Cond.code yX12_sorter cX12_sorter 3 (some .int) ∈ ea_tbl := ea_in (et_9 (List.mem_of_getElem? (i := 69) rfl)) rfl
theorem ew_2107 : Cond.code yX12_seat cX12_seat 3 (some .boolean) ∈ ea_tbl := ea_in (et_9 (List.mem_of_getElem? (i := 73) rfl)) rfl
theorem ew_2111 : Cond.code yX12_minutes cX12_minutes 2 (some .int) ∈ ea_tbl := ea_in (et_9 (List.mem_of_getElem? (i := 77) rfl)) rfl
theorem ew_2112 : Cond.methodLink RX12 594 yX12_leadsOn ∈ ea_tbl := ea_in (et_9 (List.mem_of_getElem? (i := 78) (by decide +kernel))) rfl
theorem ew_2114 : Cond.instanceMethod yX12_leadsOn ∈ ea_tbl := ea_in (et_9 (List.mem_of_getElem? (i := 80) (by decide +kernel))) rfl
theorem ew_2115 : Cond.code yX12_leadsOn cX12_leadsOn 5 none ∈ ea_tbl := ea_in (et_9 (List.mem_of_getElem? (i := 81) rfl)) rfl
theorem ew_2116 : Cond.methodLink RX12 585 yX12_begins ∈ ea_tbl := ea_in (et_9 (List.mem_of_getElem? (i := 82) (by decide +kernel))) rfl
theorem ew_2118 : Cond.instanceMethod yX12_begins ∈ ea_tbl := ea_in (et_9 (List.mem_of_getElem? (i := 84) (by decide +kernel))) rfl
theorem ew_2119 : Cond.code yX12_begins cX12_begins 3 none ∈ ea_tbl := ea_in (et_9 (List.mem_of_getElem? (i := 85) rfl)) rfl
theorem ew_2120 : Cond.methodLink RX12 588 yX12_coming ∈ ea_tbl := ea_in (et_9 (List.mem_of_getElem? (i := 86) (by decide +kernel))) rfl
theorem ew_2122 : Cond.instanceMethod yX12_coming ∈ ea_tbl := ea_in (et_9 (List.mem_of_getElem? (i := 88) (by decide +kernel))) rfl
theorem ew_2123 : Cond.code yX12_coming cX12_coming 6 none ∈ ea_tbl := ea_in (et_9 (List.mem_of_getElem? (i := 89) rfl)) rfl
theorem ew_2124 : Cond.methodLink RX12 575 yX12_isAboard ∈ ea_tbl := ea_in (et_9 (List.mem_of_getElem? (i := 90) (by decide +kernel))) rfl
theorem ew_2126 : Cond.instanceMethod yX12_isAboard ∈ ea_tbl := ea_in (et_9 (List.mem_of_getElem? (i := 92) (by decide +kernel))) rfl
theorem ew_2127 : Cond.code yX12_isAboard cX12_isAboard 3 (some .boolean) ∈ ea_tbl := ea_in (et_9 (List.mem_of_getElem? (i := 93) rfl)) rfl
theorem ew_2128 : Cond.methodLink RX12 572 yX12_code ∈ ea_tbl := ea_in (et_9 (List.mem_of_getElem? (i := 94) (by decide +kernel))) rfl
theorem ew_2129 : Cond.static yX12_code ∈ ea_tbl := ea_in (et_9 (List.mem_of_getElem? (i := 95) (by decide +kernel))) rfl
theorem ew_2130 : Cond.code yX12_code cX12_code 1 (some .int) ∈ ea_tbl := ea_in (et_9 (List.mem_of_getElem? (i := 96) rfl)) rfl
theorem ew_2131 : Cond.methodLink RX12 578 yX12_putsDown ∈ ea_tbl := ea_in (et_9 (List.mem_of_getElem? (i := 97) (by decide +kernel))) rfl
theorem ew_2133 : Cond.instanceMethod yX12_putsDown ∈ ea_tbl := ea_in (et_9 (List.mem_of_getElem? (i := 99) (by decide +kernel))) rfl
theorem ew_2134 : Cond.code yX12_putsDown cX12_putsDown 4 none ∈ ea_tbl := ea_in (et_9 (List.mem_of_getElem? (i := 100) rfl)) rfl
theorem ew_2135 : Cond.methodLink RX12 591 yX12_leaves ∈ ea_tbl := ea_in (et_9 (List.mem_of_getElem? (i := 101) (by decide +kernel))) rfl
theorem ew_2137 : Cond.instanceMethod yX12_leaves ∈ ea_tbl := ea_in (et_9 (List.mem_of_getElem? (i := 103) (by decide +kernel))) rfl
theorem ew_2138 : Cond.code yX12_leaves cX12_leaves 8 none ∈ ea_tbl := ea_in (et_9 (List.mem_of_getElem? (i := 104) rfl)) rfl
theorem ew_2139 : Cond.methodLink RX12 582 yX12_sorts ∈ ea_tbl := ea_in (et_9 (List.mem_of_getElem? (i := 105) (by decide +kernel))) rfl
theorem ew_2141 : Cond.instanceMethod yX12_sorts ∈ ea_tbl := ea_in (et_9 (List.mem_of_getElem? (i := 107) (by decide +kernel))) rfl
theorem ew_2142 : Cond.code yX12_sorts cX12_sorts 4 none ∈ ea_tbl := ea_in (et_9 (List.mem_of_getElem? (i := 108) rfl)) rfl
theorem ew_2146 : Cond.code yX12_look cX12_look 4 (some .int) ∈ ea_tbl := ea_in (et_9 (List.mem_of_getElem? (i := 112) rfl)) rfl
theorem ew_2150 : Cond.code yX12_run_ cX12_run_ 7 (some .int) ∈ ea_tbl := ea_in (et_9 (List.mem_of_getElem? (i := 116) rfl)) rfl
theorem ew_2151 : Cond.methodLink RX12 597 yX12_gone ∈ ea_tbl := ea_in (et_9 (List.mem_of_getElem? (i := 117) (by decide +kernel))) rfl
theorem ew_2153 : Cond.instanceMethod yX12_gone ∈ ea_tbl := ea_in (et_9 (List.mem_of_getElem? (i := 119) (by decide +kernel))) rfl
theorem ew_2154 : Cond.code yX12_gone cX12_gone 3 (some .int) ∈ ea_tbl := ea_in (et_9 (List.mem_of_getElem? (i := 120) rfl)) rfl
theorem ew_2158 : Cond.code yX12_account cX12_account 9 (some .int) ∈ ea_tbl := ea_in (et_9 (List.mem_of_getElem? (i := 124) rfl)) rfl
theorem ew_2159 : Cond.methodLink RX12 600 yX12_isOf ∈ ea_tbl := ea_in (et_9 (List.mem_of_getElem? (i := 125) (by decide +kernel))) rfl
theorem ew_2161 : Cond.instanceMethod yX12_isOf ∈ ea_tbl := ea_in (et_9 (List.mem_of_getElem? (i := 127) (by decide +kernel))) rfl
theorem ew_2162 : Cond.code yX12_isOf cX12_isOf 4 (some .boolean) ∈ ea_tbl := ea_in (et_9 (List.mem_of_getElem? (i := 128) rfl)) rfl
theorem ew_2166 : Cond.code yX12_nobody cX12_nobody 2 (some .boolean) ∈ ea_tbl := ea_in (et_9 (List.mem_of_getElem? (i := 132) rfl)) rfl
theorem ew_2170 : Cond.code yX12_place cX12_place 5 (some .boolean) ∈ ea_tbl := ea_in (et_9 (List.mem_of_getElem? (i := 136) rfl)) rfl
theorem ew_2174 : Cond.code yX12_order cX12_order 9 (some .long) ∈ ea_tbl := ea_in (et_9 (List.mem_of_getElem? (i := 140) rfl)) rfl
theorem ew_2175 : Cond.constantLong RX12 603 (-1) ∈ ea_tbl := ea_in (et_9 (List.mem_of_getElem? (i := 141) (by decide +kernel))) rfl
theorem ew_2176 : Cond.constantLong RX12 605 100 ∈ ea_tbl := ea_in (et_9 (List.mem_of_getElem? (i := 142) (by decide +kernel))) rfl
theorem ew_2177 : Cond.methodLink RX12 607 yX12_common ∈ ea_tbl := ea_in (et_9 (List.mem_of_getElem? (i := 143) (by decide +kernel))) rfl
theorem ew_2178 : Cond.static yX12_common ∈ ea_tbl := ea_in (et_9 (List.mem_of_getElem? (i := 144) (by decide +kernel))) rfl
theorem ew_2179 : Cond.code yX12_common cX12_common 10 (some .long) ∈ ea_tbl := ea_in (et_9 (List.mem_of_getElem? (i := 145) rfl)) rfl
theorem ew_2180 : Cond.methodLink RX12 611 yX12_ordered ∈ ea_tbl := ea_in (et_9 (List.mem_of_getElem? (i := 146) (by decide +kernel))) rfl
theorem ew_2182 : Cond.instanceMethod yX12_ordered ∈ ea_tbl := ea_in (et_9 (List.mem_of_getElem? (i := 148) (by decide +kernel))) rfl
theorem ew_2183 : Cond.code yX12_ordered cX12_ordered 8 (some .int) ∈ ea_tbl := ea_in (et_9 (List.mem_of_getElem? (i := 149) rfl)) rfl
theorem ew_2187 : Cond.code yX12_found cX12_found 4 (some .boolean) ∈ ea_tbl := ea_in (et_9 (List.mem_of_getElem? (i := 153) rfl)) rfl
theorem ew_2191 : Cond.code yX12_rob cX12_rob 7 (some .int) ∈ ea_tbl := ea_in (et_9 (List.mem_of_getElem? (i := 157) rfl)) rfl
theorem ew_2195 : Cond.code yX12_robbery cX12_robbery 3 (some .int) ∈ ea_tbl := ea_in (et_9 (List.mem_of_getElem? (i := 161) rfl)) rfl
theorem ew_2199 : Cond.code yX12_set cX12_set 2 (some .boolean) ∈ ea_tbl := ea_in (et_9 (List.mem_of_getElem? (i := 165) rfl)) rfl
theorem ew_2203 : Cond.code yX12_seen cX12_seen 6 (some .boolean) ∈ ea_tbl := ea_in (et_9 (List.mem_of_getElem? (i := 169) rfl)) rfl
theorem ew_2204 : Cond.methodLink RX12 619 yX12_isMinute ∈ ea_tbl := ea_in (et_9 (List.mem_of_getElem? (i := 170) (by decide +kernel))) rfl
theorem ew_2205 : Cond.static yX12_isMinute ∈ ea_tbl := ea_in (et_9 (List.mem_of_getElem? (i := 171) (by decide +kernel))) rfl
theorem ew_2206 : Cond.code yX12_isMinute cX12_isMinute 1 (some .boolean) ∈ ea_tbl := ea_in (et_9 (List.mem_of_getElem? (i := 172) rfl)) rfl
theorem ew_2207 : Cond.methodLink RX12 622 yX12_shows ∈ ea_tbl := ea_in (et_9 (List.mem_of_getElem? (i := 173) (by decide +kernel))) rfl
theorem ew_2209 : Cond.instanceMethod yX12_shows ∈ ea_tbl := ea_in (et_9 (List.mem_of_getElem? (i := 175) (by decide +kernel))) rfl
theorem ew_2210 : Cond.code yX12_shows cX12_shows 4 (some .int) ∈ ea_tbl := ea_in (et_9 (List.mem_of_getElem? (i := 176) rfl)) rfl
theorem ew_2211 : Cond.constantLong RX12 617 3600 ∈ ea_tbl := ea_in (et_9 (List.mem_of_getElem? (i := 177) (by decide +kernel))) rfl
theorem ew_2215 : Cond.code yX12_clock cX12_clock 3 (some .int) ∈ ea_tbl := ea_in (et_9 (List.mem_of_getElem? (i := 181) rfl)) rfl
theorem ew_2219 : Cond.code yX12_trueMinute cX12_trueMinute 6 (some .int) ∈ ea_tbl := ea_in (et_9 (List.mem_of_getElem? (i := 185) rfl)) rfl
theorem ew_2220 : Cond.methodLink RX12 625 yX12_mayShow ∈ ea_tbl := ea_in (et_9 (List.mem_of_getElem? (i := 186) (by decide +kernel))) rfl
theorem ew_2222 : Cond.instanceMethod yX12_mayShow ∈ ea_tbl := ea_in (et_9 (List.mem_of_getElem? (i := 188) (by decide +kernel))) rfl
theorem ew_2223 : Cond.code yX12_mayShow cX12_mayShow 6 (some .boolean) ∈ ea_tbl := ea_in (et_9 (List.mem_of_getElem? (i := 189) rfl)) rfl
theorem ew_2227 : Cond.code yX12_tried cX12_tried 5 (some .long) ∈ ea_tbl := ea_in (et_9 (List.mem_of_getElem? (i := 193) rfl)) rfl
theorem ew_2231 : Cond.code yX12_whatIf cX12_whatIf 6 (some .int) ∈ ea_tbl := ea_in (et_9 (List.mem_of_getElem? (i := 197) rfl)) rfl
theorem ew_2232 : Cond.methodLink RX12 634 yX12_sums ∈ ea_tbl := ea_in (et_9 (List.mem_of_getElem? (i := 198) (by decide +kernel))) rfl
theorem ew_2234 : Cond.instanceMethod yX12_sums ∈ ea_tbl := ea_in (et_9 (List.mem_of_getElem? (i := 200) (by decide +kernel))) rfl
theorem ew_2235 : Cond.code yX12_sums cX12_sums 3 (some .int) ∈ ea_tbl := ea_in (et_9 (List.mem_of_getElem? (i := 201) rfl)) rfl
theorem ew_2236 : Cond.methodLink RX12 628 yX12_keeps ∈ ea_tbl := ea_in (et_9 (List.mem_of_getElem? (i := 202) (by decide +kernel))) rfl
theorem ew_2238 : Cond.instanceMethod yX12_keeps ∈ ea_tbl := ea_in (et_9 (List.mem_of_getElem? (i := 204) (by decide +kernel))) rfl
theorem ew_2239 : Cond.code yX12_keeps cX12_keeps 2 none ∈ ea_tbl := ea_in (et_9 (List.mem_of_getElem? (i := 205) rfl)) rfl
theorem ew_2240 : Cond.methodLink RX12 631 yX12_putsBack ∈ ea_tbl := ea_in (et_9 (List.mem_of_getElem? (i := 206) (by decide +kernel))) rfl
theorem ew_2242 : Cond.instanceMethod yX12_putsBack ∈ ea_tbl := ea_in (et_9 (List.mem_of_getElem? (i := 208) (by decide +kernel))) rfl
theorem ew_2243 : Cond.code yX12_putsBack cX12_putsBack 2 none ∈ ea_tbl := ea_in (et_9 (List.mem_of_getElem? (i := 209) rfl)) rfl
theorem ew_2247 : Cond.code yX12_seats cX12_seats 10 (some .int) ∈ ea_tbl := ea_in (et_9 (List.mem_of_getElem? (i := 213) rfl)) rfl
theorem ew_2248 : Cond.fieldLink RJ0 9 RJ0 "value" "[B" ∈ ea_tbl := ea_in (et_9 (List.mem_of_getElem? (i := 214) (by decide +kernel))) rfl
theorem ew_2249 : Cond.fieldLink RJ0 15 RJ0 "coder" "B" ∈ ea_tbl := ea_in (et_9 (List.mem_of_getElem? (i := 215) (by decide +kernel))) rfl
