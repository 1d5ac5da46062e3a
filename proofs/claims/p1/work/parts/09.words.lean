/-! words of the tables -/
theorem ew_0 : Cond.selects RX6 yX6_reckon yX6_reckon ∈ ea_tbl := ea_in (List.mem_of_getElem? (i := 0) (by decide +kernel)) rfl
theorem ew_1 : Cond.selects RX11 yX11_tableChanged yX11_tableChanged ∈ ea_tbl := ea_in (List.mem_of_getElem? (i := 1) (by decide +kernel)) rfl
theorem ew_2 : Cond.selects RX11 yX11_mayBeTold yX11_mayBeTold ∈ ea_tbl := ea_in (List.mem_of_getElem? (i := 2) (by decide +kernel)) rfl
theorem ew_3 : Cond.selects RX10 yX10_collect yX10_collect ∈ ea_tbl := ea_in (List.mem_of_getElem? (i := 3) (by decide +kernel)) rfl
theorem ew_4 : Cond.selects RX10 yX10_addKey yX10_addKey ∈ ea_tbl := ea_in (List.mem_of_getElem? (i := 4) (by decide +kernel)) rfl
theorem ew_5 : Cond.selects RX10 yX10_sortKeys yX10_sortKeys ∈ ea_tbl := ea_in (List.mem_of_getElem? (i := 5) (by decide +kernel)) rfl
theorem ew_6 : Cond.selects RX10 yX10_linkMinutes yX10_linkMinutes ∈ ea_tbl := ea_in (List.mem_of_getElem? (i := 6) (by decide +kernel)) rfl
theorem ew_7 : Cond.selects RX10 yX10_townIn yX10_townIn ∈ ea_tbl := ea_in (List.mem_of_getElem? (i := 7) (by decide +kernel)) rfl
theorem ew_8 : Cond.selects RX10 yX10_trace yX10_trace ∈ ea_tbl := ea_in (List.mem_of_getElem? (i := 8) (by decide +kernel)) rfl
theorem ew_9 : Cond.selects RX10 yX10_takeRun yX10_takeRun ∈ ea_tbl := ea_in (List.mem_of_getElem? (i := 9) (by decide +kernel)) rfl
theorem ew_10 : Cond.selects RX10 yX10_leaveRun yX10_leaveRun ∈ ea_tbl := ea_in (List.mem_of_getElem? (i := 10) (by decide +kernel)) rfl
theorem ew_11 : Cond.selects RX1 yX1_burn yX1_burn ∈ ea_tbl := ea_in (List.mem_of_getElem? (i := 11) (by decide +kernel)) rfl
theorem ew_12 : Cond.selects RX1 yX1_goes yX1_goes ∈ ea_tbl := ea_in (List.mem_of_getElem? (i := 12) (by decide +kernel)) rfl
theorem ew_13 : Cond.selects RX1 yX1_sort yX1_sort ∈ ea_tbl := ea_in (List.mem_of_getElem? (i := 13) (by decide +kernel)) rfl
theorem ew_14 : Cond.selects RX1 yX1_comes yX1_comes ∈ ea_tbl := ea_in (List.mem_of_getElem? (i := 14) (by decide +kernel)) rfl
theorem ew_15 : Cond.selects RX1 yX1_stateIn yX1_stateIn ∈ ea_tbl := ea_in (List.mem_of_getElem? (i := 15) (by decide +kernel)) rfl
theorem ew_16 : Cond.selects RX5 yX5_scan yX5_scan ∈ ea_tbl := ea_in (List.mem_of_getElem? (i := 16) (by decide +kernel)) rfl
theorem ew_17 : Cond.selects RX5 yX5_scanWord yX5_scanWord ∈ ea_tbl := ea_in (List.mem_of_getElem? (i := 17) (by decide +kernel)) rfl
theorem ew_18 : Cond.selects RX5 yX5_addToken yX5_addToken ∈ ea_tbl := ea_in (List.mem_of_getElem? (i := 18) (by decide +kernel)) rfl
theorem ew_19 : Cond.selects RX5 yX5_scanNumber yX5_scanNumber ∈ ea_tbl := ea_in (List.mem_of_getElem? (i := 19) (by decide +kernel)) rfl
theorem ew_20 : Cond.selects RX5 yX5_refuse yX5_refuse ∈ ea_tbl := ea_in (List.mem_of_getElem? (i := 20) (by decide +kernel)) rfl
theorem ew_21 : Cond.selects RX5 yX5_readCharge yX5_readCharge ∈ ea_tbl := ea_in (List.mem_of_getElem? (i := 21) (by decide +kernel)) rfl
theorem ew_22 : Cond.selects RX5 yX5_step yX5_step ∈ ea_tbl := ea_in (List.mem_of_getElem? (i := 22) (by decide +kernel)) rfl
theorem ew_23 : Cond.selects RX5 yX5_readSum yX5_readSum ∈ ea_tbl := ea_in (List.mem_of_getElem? (i := 23) (by decide +kernel)) rfl
theorem ew_24 : Cond.selects RX5 yX5_readProduct yX5_readProduct ∈ ea_tbl := ea_in (List.mem_of_getElem? (i := 24) (by decide +kernel)) rfl
theorem ew_25 : Cond.selects RX5 yX5_readUnit yX5_readUnit ∈ ea_tbl := ea_in (List.mem_of_getElem? (i := 25) (by decide +kernel)) rfl
theorem ew_26 : Cond.selects RX5 yX5_put yX5_put ∈ ea_tbl := ea_in (List.mem_of_getElem? (i := 26) (by decide +kernel)) rfl
theorem ew_27 : Cond.selects RX5 yX5_readWhen yX5_readWhen ∈ ea_tbl := ea_in (List.mem_of_getElem? (i := 27) (by decide +kernel)) rfl
theorem ew_28 : Cond.selects RX5 yX5_readNots yX5_readNots ∈ ea_tbl := ea_in (List.mem_of_getElem? (i := 28) (by decide +kernel)) rfl
theorem ew_29 : Cond.selects RX5 yX5_comparison yX5_comparison ∈ ea_tbl := ea_in (List.mem_of_getElem? (i := 29) (by decide +kernel)) rfl
theorem ew_30 : Cond.selects RX5 yX5_readRule yX5_readRule ∈ ea_tbl := ea_in (List.mem_of_getElem? (i := 30) (by decide +kernel)) rfl
theorem ew_31 : Cond.selects RX5 yX5_readAfter yX5_readAfter ∈ ea_tbl := ea_in (List.mem_of_getElem? (i := 31) (by decide +kernel)) rfl
theorem ew_32 : Cond.selects RX5 yX5_skip yX5_skip ∈ ea_tbl := ea_in (List.mem_of_getElem? (i := 32) (by decide +kernel)) rfl
theorem ew_33 : Cond.selects RX11 yX11_franksAhead yX11_franksAhead ∈ ea_tbl := ea_in (List.mem_of_getElem? (i := 33) (by decide +kernel)) rfl
theorem ew_34 : Cond.selects RX8 yX8_lineFor yX8_lineFor ∈ ea_tbl := ea_in (List.mem_of_getElem? (i := 34) (by decide +kernel)) rfl
theorem ew_35 : Cond.selects RX8 yX8_ask yX8_ask ∈ ea_tbl := ea_in (List.mem_of_getElem? (i := 35) (by decide +kernel)) rfl
theorem ew_36 : Cond.selects RX8 yX8_worth yX8_worth ∈ ea_tbl := ea_in (List.mem_of_getElem? (i := 36) (by decide +kernel)) rfl
theorem ew_37 : Cond.selects RX11 yX11_letterOf yX11_letterOf ∈ ea_tbl := ea_in (List.mem_of_getElem? (i := 37) (by decide +kernel)) rfl
theorem ew_38 : Cond.selects RX11 yX11_owedBetween yX11_owedBetween ∈ ea_tbl := ea_in (List.mem_of_getElem? (i := 38) (by decide +kernel)) rfl
theorem ew_39 : Cond.selects RX11 yX11_isBetween yX11_isBetween ∈ ea_tbl := ea_in (List.mem_of_getElem? (i := 39) (by decide +kernel)) rfl
theorem ew_40 : Cond.selects RX11 yX11_differing yX11_differing ∈ ea_tbl := ea_in (List.mem_of_getElem? (i := 40) (by decide +kernel)) rfl
theorem ew_41 : Cond.selects RX11 yX11_differs yX11_differs ∈ ea_tbl := ea_in (List.mem_of_getElem? (i := 41) (by decide +kernel)) rfl
theorem ew_42 : Cond.selects RX11 yX11_differingLetter yX11_differingLetter ∈ ea_tbl := ea_in (List.mem_of_getElem? (i := 42) (by decide +kernel)) rfl
theorem ew_43 : Cond.selects RX11 yX11_isUnderWay yX11_isUnderWay ∈ ea_tbl := ea_in (List.mem_of_getElem? (i := 43) (by decide +kernel)) rfl
theorem ew_44 : Cond.selects RX2 yX2_mayShow yX2_mayShow ∈ ea_tbl := ea_in (List.mem_of_getElem? (i := 44) (by decide +kernel)) rfl
theorem ew_45 : Cond.selects RX11 yX11_outcome yX11_outcome ∈ ea_tbl := ea_in (List.mem_of_getElem? (i := 45) (by decide +kernel)) rfl
theorem ew_46 : Cond.selects RX11 yX11_seekSeats yX11_seekSeats ∈ ea_tbl := ea_in (List.mem_of_getElem? (i := 46) (by decide +kernel)) rfl
theorem ew_47 : Cond.selects RX12 yX12_isTown yX12_isTown ∈ ea_tbl := ea_in (List.mem_of_getElem? (i := 47) (by decide +kernel)) rfl
theorem ew_48 : Cond.selects RX12 yX12_milesOf yX12_milesOf ∈ ea_tbl := ea_in (List.mem_of_getElem? (i := 48) (by decide +kernel)) rfl
theorem ew_49 : Cond.selects RX12 yX12_spreads yX12_spreads ∈ ea_tbl := ea_in (List.mem_of_getElem? (i := 49) (by decide +kernel)) rfl
theorem ew_50 : Cond.selects RX12 yX12_isTrain yX12_isTrain ∈ ea_tbl := ea_in (List.mem_of_getElem? (i := 50) (by decide +kernel)) rfl
theorem ew_51 : Cond.selects RX12 yX12_canBeLate yX12_canBeLate ∈ ea_tbl := ea_in (List.mem_of_getElem? (i := 51) (by decide +kernel)) rfl
theorem ew_52 : Cond.selects RX12 yX12_comesAt yX12_comesAt ∈ ea_tbl := ea_in (List.mem_of_getElem? (i := 52) (by decide +kernel)) rfl
theorem ew_53 : Cond.selects RX12 yX12_bestFrom yX12_bestFrom ∈ ea_tbl := ea_in (List.mem_of_getElem? (i := 53) (by decide +kernel)) rfl
theorem ew_54 : Cond.selects RX12 yX12_table yX12_table ∈ ea_tbl := ea_in (List.mem_of_getElem? (i := 54) (by decide +kernel)) rfl
theorem ew_55 : Cond.selects RX12 yX12_isMore yX12_isMore ∈ ea_tbl := ea_in (List.mem_of_getElem? (i := 55) (by decide +kernel)) rfl
theorem ew_56 : Cond.selects RX12 yX12_minuteOf yX12_minuteOf ∈ ea_tbl := ea_in (List.mem_of_getElem? (i := 56) (by decide +kernel)) rfl
theorem ew_57 : Cond.selects RX12 yX12_goesAt yX12_goesAt ∈ ea_tbl := ea_in (List.mem_of_getElem? (i := 57) (by decide +kernel)) rfl
theorem ew_58 : Cond.selects RX12 yX12_isAheadOf yX12_isAheadOf ∈ ea_tbl := ea_in (List.mem_of_getElem? (i := 58) (by decide +kernel)) rfl
theorem ew_59 : Cond.selects RX12 yX12_goings yX12_goings ∈ ea_tbl := ea_in (List.mem_of_getElem? (i := 59) (by decide +kernel)) rfl
theorem ew_60 : Cond.selects RX12 yX12_townOf yX12_townOf ∈ ea_tbl := ea_in (List.mem_of_getElem? (i := 60) (by decide +kernel)) rfl
theorem ew_61 : Cond.selects RX12 yX12_going yX12_going ∈ ea_tbl := ea_in (List.mem_of_getElem? (i := 61) (by decide +kernel)) rfl
theorem ew_62 : Cond.selects RX12 yX12_isBetter yX12_isBetter ∈ ea_tbl := ea_in (List.mem_of_getElem? (i := 62) (by decide +kernel)) rfl
theorem ew_63 : Cond.selects RX12 yX12_next0 yX12_next0 ∈ ea_tbl := ea_in (List.mem_of_getElem? (i := 63) (by decide +kernel)) rfl
theorem ew_64 : Cond.selects RX12 yX12_see yX12_see ∈ ea_tbl := ea_in (List.mem_of_getElem? (i := 64) (by decide +kernel)) rfl
theorem ew_65 : Cond.selects RX12 yX12_word yX12_word ∈ ea_tbl := ea_in (List.mem_of_getElem? (i := 65) (by decide +kernel)) rfl
theorem ew_67 : Cond.selects RX12 yX12_aLine yX12_aLine ∈ ea_tbl := ea_in (List.mem_of_getElem? (i := 67) (by decide +kernel)) rfl
theorem ew_68 : Cond.selects RX12 yX12_bad yX12_bad ∈ ea_tbl := ea_in (List.mem_of_getElem? (i := 68) (by decide +kernel)) rfl
theorem ew_69 : Cond.selects RX12 yX12_inner yX12_inner ∈ ea_tbl := ea_in (List.mem_of_getElem? (i := 69) (by decide +kernel)) rfl
theorem ew_70 : Cond.selects RX12 yX12_aCharge yX12_aCharge ∈ ea_tbl := ea_in (List.mem_of_getElem? (i := 70) (by decide +kernel)) rfl
theorem ew_71 : Cond.selects RX12 yX12_sumOf yX12_sumOf ∈ ea_tbl := ea_in (List.mem_of_getElem? (i := 71) (by decide +kernel)) rfl
theorem ew_72 : Cond.selects RX12 yX12_product yX12_product ∈ ea_tbl := ea_in (List.mem_of_getElem? (i := 72) (by decide +kernel)) rfl
theorem ew_73 : Cond.selects RX12 yX12_unit yX12_unit ∈ ea_tbl := ea_in (List.mem_of_getElem? (i := 73) (by decide +kernel)) rfl
theorem ew_74 : Cond.selects RX12 yX12_opens yX12_opens ∈ ea_tbl := ea_in (List.mem_of_getElem? (i := 74) (by decide +kernel)) rfl
theorem ew_75 : Cond.selects RX12 yX12_need yX12_need ∈ ea_tbl := ea_in (List.mem_of_getElem? (i := 75) (by decide +kernel)) rfl
theorem ew_76 : Cond.selects RX12 yX12_lay yX12_lay ∈ ea_tbl := ea_in (List.mem_of_getElem? (i := 76) (by decide +kernel)) rfl
theorem ew_77 : Cond.selects RX12 yX12_any yX12_any ∈ ea_tbl := ea_in (List.mem_of_getElem? (i := 77) (by decide +kernel)) rfl
theorem ew_78 : Cond.selects RX12 yX12_all yX12_all ∈ ea_tbl := ea_in (List.mem_of_getElem? (i := 78) (by decide +kernel)) rfl
theorem ew_79 : Cond.selects RX12 yX12_one yX12_one ∈ ea_tbl := ea_in (List.mem_of_getElem? (i := 79) (by decide +kernel)) rfl
theorem ew_80 : Cond.selects RX12 yX12_aNumber yX12_aNumber ∈ ea_tbl := ea_in (List.mem_of_getElem? (i := 80) (by decide +kernel)) rfl
theorem ew_81 : Cond.selects RX12 yX12_actOn yX12_actOn ∈ ea_tbl := ea_in (List.mem_of_getElem? (i := 81) (by decide +kernel)) rfl
theorem ew_82 : Cond.selects RX12 yX12_isCross yX12_isCross ∈ ea_tbl := ea_in (List.mem_of_getElem? (i := 82) (by decide +kernel)) rfl
theorem ew_83 : Cond.selects RX12 yX12_isFree yX12_isFree ∈ ea_tbl := ea_in (List.mem_of_getElem? (i := 83) (by decide +kernel)) rfl
theorem ew_84 : Cond.selects RX12 yX12_chargeBy yX12_chargeBy ∈ ea_tbl := ea_in (List.mem_of_getElem? (i := 84) (by decide +kernel)) rfl
theorem ew_85 : Cond.selects RX12 yX12_lineOf yX12_lineOf ∈ ea_tbl := ea_in (List.mem_of_getElem? (i := 85) (by decide +kernel)) rfl
theorem ew_86 : Cond.selects RX12 yX12_gathers yX12_gathers ∈ ea_tbl := ea_in (List.mem_of_getElem? (i := 86) (by decide +kernel)) rfl
theorem ew_87 : Cond.selects RX12 yX12_comesTo yX12_comesTo ∈ ea_tbl := ea_in (List.mem_of_getElem? (i := 87) (by decide +kernel)) rfl
theorem ew_88 : Cond.selects RX12 yX12_turns yX12_turns ∈ ea_tbl := ea_in (List.mem_of_getElem? (i := 88) (by decide +kernel)) rfl
theorem ew_89 : Cond.selects RX12 yX12_isLetterOf yX12_isLetterOf ∈ ea_tbl := ea_in (List.mem_of_getElem? (i := 89) (by decide +kernel)) rfl
theorem ew_90 : Cond.selects RX12 yX12_owed yX12_owed ∈ ea_tbl := ea_in (List.mem_of_getElem? (i := 90) (by decide +kernel)) rfl
theorem ew_91 : Cond.selects RX12 yX12_isOwed yX12_isOwed ∈ ea_tbl := ea_in (List.mem_of_getElem? (i := 91) (by decide +kernel)) rfl
theorem ew_92 : Cond.selects RX12 yX12_leadsOn yX12_leadsOn ∈ ea_tbl := ea_in (List.mem_of_getElem? (i := 92) (by decide +kernel)) rfl
theorem ew_93 : Cond.selects RX12 yX12_begins yX12_begins ∈ ea_tbl := ea_in (List.mem_of_getElem? (i := 93) (by decide +kernel)) rfl
theorem ew_94 : Cond.selects RX12 yX12_coming yX12_coming ∈ ea_tbl := ea_in (List.mem_of_getElem? (i := 94) (by decide +kernel)) rfl
theorem ew_95 : Cond.selects RX12 yX12_isAboard yX12_isAboard ∈ ea_tbl := ea_in (List.mem_of_getElem? (i := 95) (by decide +kernel)) rfl
theorem ew_96 : Cond.selects RX12 yX12_putsDown yX12_putsDown ∈ ea_tbl := ea_in (List.mem_of_getElem? (i := 96) (by decide +kernel)) rfl
theorem ew_97 : Cond.selects RX12 yX12_leaves yX12_leaves ∈ ea_tbl := ea_in (List.mem_of_getElem? (i := 97) (by decide +kernel)) rfl
theorem ew_98 : Cond.selects RX12 yX12_sorts yX12_sorts ∈ ea_tbl := ea_in (List.mem_of_getElem? (i := 98) (by decide +kernel)) rfl
theorem ew_99 : Cond.selects RX12 yX12_gone yX12_gone ∈ ea_tbl := ea_in (List.mem_of_getElem? (i := 99) (by decide +kernel)) rfl
theorem ew_100 : Cond.selects RX12 yX12_isOf yX12_isOf ∈ ea_tbl := ea_in (List.mem_of_getElem? (i := 100) (by decide +kernel)) rfl
theorem ew_101 : Cond.selects RX12 yX12_ordered yX12_ordered ∈ ea_tbl := ea_in (List.mem_of_getElem? (i := 101) (by decide +kernel)) rfl
theorem ew_102 : Cond.selects RX12 yX12_shows yX12_shows ∈ ea_tbl := ea_in (List.mem_of_getElem? (i := 102) (by decide +kernel)) rfl
theorem ew_103 : Cond.selects RX12 yX12_mayShow yX12_mayShow ∈ ea_tbl := ea_in (List.mem_of_getElem? (i := 103) (by decide +kernel)) rfl
theorem ew_104 : Cond.selects RX12 yX12_sums yX12_sums ∈ ea_tbl := ea_in (List.mem_of_getElem? (i := 104) (by decide +kernel)) rfl
theorem ew_105 : Cond.selects RX12 yX12_keeps yX12_keeps ∈ ea_tbl := ea_in (List.mem_of_getElem? (i := 105) (by decide +kernel)) rfl
theorem ew_106 : Cond.selects RX12 yX12_putsBack yX12_putsBack ∈ ea_tbl := ea_in (List.mem_of_getElem? (i := 106) (by decide +kernel)) rfl
theorem ew_108 : Cond.initialized RX11 ∈ ea_tbl := ea_in (et_1 (List.mem_of_getElem? (i := 1) (by decide +kernel))) rfl
theorem ew_109 : Cond.initialized RX6 ∈ ea_tbl := ea_in (et_1 (List.mem_of_getElem? (i := 2) (by decide +kernel))) rfl
theorem ew_110 : Cond.initialized RJ7 ∈ ea_tbl := ea_in (et_1 (List.mem_of_getElem? (i := 3) (by decide +kernel))) rfl
theorem ew_112 : Cond.initialized RJ9 ∈ ea_tbl := ea_in (et_1 (List.mem_of_getElem? (i := 5) (by decide +kernel))) rfl
theorem ew_113 : Cond.initialized RX9 ∈ ea_tbl := ea_in (et_1 (List.mem_of_getElem? (i := 6) (by decide +kernel))) rfl
theorem ew_114 : Cond.initialized RX10 ∈ ea_tbl := ea_in (et_1 (List.mem_of_getElem? (i := 7) (by decide +kernel))) rfl
theorem ew_115 : Cond.initialized RX3 ∈ ea_tbl := ea_in (et_1 (List.mem_of_getElem? (i := 8) (by decide +kernel))) rfl
theorem ew_116 : Cond.initialized RX8 ∈ ea_tbl := ea_in (et_1 (List.mem_of_getElem? (i := 9) (by decide +kernel))) rfl
theorem ew_117 : Cond.initialized RX5 ∈ ea_tbl := ea_in (et_1 (List.mem_of_getElem? (i := 10) (by decide +kernel))) rfl
theorem ew_118 : Cond.initialized RX1 ∈ ea_tbl := ea_in (et_1 (List.mem_of_getElem? (i := 11) (by decide +kernel))) rfl
theorem ew_119 : Cond.initialized RX2 ∈ ea_tbl := ea_in (et_1 (List.mem_of_getElem? (i := 12) (by decide +kernel))) rfl
theorem ew_120 : Cond.initialized RX12 ∈ ea_tbl := ea_in (et_1 (List.mem_of_getElem? (i := 13) (by decide +kernel))) rfl
theorem ew_121 : Cond.initialized RX0 ∈ ea_tbl := ea_in (et_1 (List.mem_of_getElem? (i := 14) (by decide +kernel))) rfl
theorem ew_126 : Cond.initialized RX4 ∈ ea_tbl := ea_in (et_1 (List.mem_of_getElem? (i := 19) (by decide +kernel))) rfl
theorem ew_127 : Cond.initialized RX7 ∈ ea_tbl := ea_in (et_1 (List.mem_of_getElem? (i := 20) (by decide +kernel))) rfl
theorem ew_128 : Cond.classLink RL 7 RX11 ∈ ea_tbl := ea_in (et_1 (List.mem_of_getElem? (i := 21) (by decide +kernel))) rfl
theorem ew_129 : Cond.instantiable RX11 16 ∈ ea_tbl := ea_in (et_1 (List.mem_of_getElem? (i := 22) (by decide +kernel))) rfl
theorem ew_130 : Cond.methodLink RL 9 yX11_init ∈ ea_tbl := ea_in (et_1 (List.mem_of_getElem? (i := 23) (by decide +kernel))) rfl
theorem ew_131 : Cond.instanceMethod yX11_init ∈ ea_tbl := ea_in (et_1 (List.mem_of_getElem? (i := 24) (by decide +kernel))) rfl
theorem ew_132 : Cond.code yX11_init cX11_init 2 none ∈ ea_tbl := ea_in (et_1 (List.mem_of_getElem? (i := 25) rfl)) rfl
theorem ew_133 : Cond.methodLink RX11 3 Lib.objectInit ∈ ea_tbl := ea_in (et_1 (List.mem_of_getElem? (i := 26) (by decide +kernel))) rfl
theorem ew_134 : Cond.instanceMethod Lib.objectInit ∈ ea_tbl := ea_in (et_1 (List.mem_of_getElem? (i := 27) (by decide +kernel))) rfl
theorem ew_135 : Cond.code Lib.objectInit ⟨#[0xb1]⟩ 1 none ∈ ea_tbl := ea_in (et_1 (List.mem_of_getElem? (i := 28) rfl)) rfl
theorem ew_136 : Cond.classLink RX11 9 RX6 ∈ ea_tbl := ea_in (et_1 (List.mem_of_getElem? (i := 29) (by decide +kernel))) rfl
theorem ew_137 : Cond.instantiable RX6 4 ∈ ea_tbl := ea_in (et_1 (List.mem_of_getElem? (i := 30) (by decide +kernel))) rfl
theorem ew_138 : Cond.methodLink RX11 11 yX6_init ∈ ea_tbl := ea_in (et_1 (List.mem_of_getElem? (i := 31) (by decide +kernel))) rfl
theorem ew_139 : Cond.instanceMethod yX6_init ∈ ea_tbl := ea_in (et_1 (List.mem_of_getElem? (i := 32) (by decide +kernel))) rfl
theorem ew_140 : Cond.code yX6_init cX6_init 2 none ∈ ea_tbl := ea_in (et_1 (List.mem_of_getElem? (i := 33) rfl)) rfl
theorem ew_141 : Cond.methodLink RX6 3 Lib.objectInit ∈ ea_tbl := ea_in (et_1 (List.mem_of_getElem? (i := 34) (by decide +kernel))) rfl
theorem ew_142 : Cond.constant RX6 21 1000000 ∈ ea_tbl := ea_in (et_1 (List.mem_of_getElem? (i := 35) (by decide +kernel))) rfl
theorem ew_143 : Cond.methodLink RX6 22 yJ7_fill_53178 ∈ ea_tbl := ea_in (et_1 (List.mem_of_getElem? (i := 36) (by decide +kernel))) rfl
theorem ew_144 : Cond.static yJ7_fill_53178 ∈ ea_tbl := ea_in (et_1 (List.mem_of_getElem? (i := 37) (by decide +kernel))) rfl
theorem ew_145 : Cond.code yJ7_fill_53178 cJ7_fill_53178 4 none ∈ ea_tbl := ea_in (et_1 (List.mem_of_getElem? (i := 38) rfl)) rfl
theorem ew_146 : Cond.methodLink RX6 28 yX6_reckon ∈ ea_tbl := ea_in (et_1 (List.mem_of_getElem? (i := 39) (by decide +kernel))) rfl
theorem ew_148 : Cond.instanceMethod yX6_reckon ∈ ea_tbl := ea_in (et_1 (List.mem_of_getElem? (i := 41) (by decide +kernel))) rfl
theorem ew_149 : Cond.code yX6_reckon cX6_reckon 7 none ∈ ea_tbl := ea_in (et_1 (List.mem_of_getElem? (i := 42) rfl)) rfl
theorem ew_153 : Cond.methodLink RX6 41 yJ9_min_7cf53 ∈ ea_tbl := ea_in (et_1 (List.mem_of_getElem? (i := 46) (by decide +kernel))) rfl
theorem ew_154 : Cond.static yJ9_min_7cf53 ∈ ea_tbl := ea_in (et_1 (List.mem_of_getElem? (i := 47) (by decide +kernel))) rfl
theorem ew_155 : Cond.code yJ9_min_7cf53 cJ9_min_7cf53 2 (some .int) ∈ ea_tbl := ea_in (et_1 (List.mem_of_getElem? (i := 48) rfl)) rfl
theorem ew_156 : Cond.fieldLink RX11 77 RX6 "count" "I" ∈ ea_tbl := ea_in (et_1 (List.mem_of_getElem? (i := 49) (by decide +kernel))) rfl
theorem ew_157 : Cond.fieldLink RX6 31 RX6 "count" "I" ∈ ea_tbl := ea_in (et_1 (List.mem_of_getElem? (i := 50) (by decide +kernel))) rfl
theorem ew_158 : Cond.fieldLink RX6 9 RX6 "direct" "[I" ∈ ea_tbl := ea_in (et_1 (List.mem_of_getElem? (i := 51) (by decide +kernel))) rfl
theorem ew_159 : Cond.fieldLink RX6 15 RX6 "least" "[I" ∈ ea_tbl := ea_in (et_1 (List.mem_of_getElem? (i := 52) (by decide +kernel))) rfl
theorem ew_160 : Cond.fieldLink RX6 18 RX6 "roundCapital" "[I" ∈ ea_tbl := ea_in (et_1 (List.mem_of_getElem? (i := 53) (by decide +kernel))) rfl
theorem ew_170 : Cond.arrayClass .int ∈ ea_tbl := ea_in (et_1 (List.mem_of_getElem? (i := 63) (by decide +kernel))) rfl
theorem ew_171 : Cond.classLink RX11 16 RX9 ∈ ea_tbl := ea_in (et_1 (List.mem_of_getElem? (i := 64) (by decide +kernel))) rfl
theorem ew_172 : Cond.instantiable RX9 8 ∈ ea_tbl := ea_in (et_1 (List.mem_of_getElem? (i := 65) (by decide +kernel))) rfl
theorem ew_173 : Cond.methodLinkNest RX11 18 yX9_init RX11 ∈ ea_nl := ea_nin (et_1 (List.mem_of_getElem? (i := 66) (by decide +kernel))) rfl
theorem ew_174 : Cond.instanceMethod yX9_init ∈ ea_tbl := ea_in (et_1 (List.mem_of_getElem? (i := 67) (by decide +kernel))) rfl
theorem ew_175 : Cond.code yX9_init cX9_init 1 none ∈ ea_tbl := ea_in (et_1 (List.mem_of_getElem? (i := 68) rfl)) rfl
theorem ew_176 : Cond.methodLink RX9 3 Lib.objectInit ∈ ea_tbl := ea_in (et_1 (List.mem_of_getElem? (i := 69) (by decide +kernel))) rfl
theorem ew_177 : Cond.fieldLink RX9 34 RX9 "trains" "I" ∈ ea_tbl := ea_in (et_1 (List.mem_of_getElem? (i := 70) (by decide +kernel))) rfl
theorem ew_178 : Cond.fieldLink RX11 93 RX9 "trains" "I" ∈ ea_tbl := ea_in (et_1 (List.mem_of_getElem? (i := 71) (by decide +kernel))) rfl
theorem ew_179 : Cond.fieldLink RX10 103 RX9 "trains" "I" ∈ ea_tbl := ea_in (et_1 (List.mem_of_getElem? (i := 72) (by decide +kernel))) rfl
theorem ew_180 : Cond.fieldLink RX9 9 RX9 "stops" "[I" ∈ ea_tbl := ea_in (et_1 (List.mem_of_getElem? (i := 73) (by decide +kernel))) rfl
theorem ew_181 : Cond.fieldLink RX11 111 RX9 "stops" "[I" ∈ ea_tbl := ea_in (et_1 (List.mem_of_getElem? (i := 74) (by decide +kernel))) rfl
theorem ew_182 : Cond.fieldLink RX1 135 RX9 "stops" "[I" ∈ ea_tbl := ea_in (et_1 (List.mem_of_getElem? (i := 75) (by decide +kernel))) rfl
theorem ew_183 : Cond.fieldLink RX10 106 RX9 "stops" "[I" ∈ ea_tbl := ea_in (et_1 (List.mem_of_getElem? (i := 76) (by decide +kernel))) rfl
theorem ew_184 : Cond.fieldLink RX9 15 RX9 "town" "[I" ∈ ea_tbl := ea_in (et_1 (List.mem_of_getElem? (i := 77) (by decide +kernel))) rfl
theorem ew_185 : Cond.fieldLink RX11 115 RX9 "town" "[I" ∈ ea_tbl := ea_in (et_1 (List.mem_of_getElem? (i := 78) (by decide +kernel))) rfl
theorem ew_186 : Cond.fieldLink RX1 138 RX9 "town" "[I" ∈ ea_tbl := ea_in (et_1 (List.mem_of_getElem? (i := 79) (by decide +kernel))) rfl
theorem ew_187 : Cond.fieldLink RX10 64 RX9 "town" "[I" ∈ ea_tbl := ea_in (et_1 (List.mem_of_getElem? (i := 80) (by decide +kernel))) rfl
theorem ew_188 : Cond.fieldLink RX9 18 RX9 "comes" "[I" ∈ ea_tbl := ea_in (et_1 (List.mem_of_getElem? (i := 81) (by decide +kernel))) rfl
theorem ew_189 : Cond.fieldLink RX11 118 RX9 "comes" "[I" ∈ ea_tbl := ea_in (et_1 (List.mem_of_getElem? (i := 82) (by decide +kernel))) rfl
theorem ew_190 : Cond.fieldLink RX1 171 RX9 "comes" "[I" ∈ ea_tbl := ea_in (et_1 (List.mem_of_getElem? (i := 83) (by decide +kernel))) rfl
theorem ew_191 : Cond.fieldLink RX9 21 RX9 "goes" "[I" ∈ ea_tbl := ea_in (et_1 (List.mem_of_getElem? (i := 84) (by decide +kernel))) rfl
theorem ew_192 : Cond.fieldLink RX11 121 RX9 "goes" "[I" ∈ ea_tbl := ea_in (et_1 (List.mem_of_getElem? (i := 85) (by decide +kernel))) rfl
theorem ew_193 : Cond.fieldLink RX1 173 RX9 "goes" "[I" ∈ ea_tbl := ea_in (et_1 (List.mem_of_getElem? (i := 86) (by decide +kernel))) rfl
theorem ew_194 : Cond.fieldLink RX9 24 RX9 "fast" "[Z" ∈ ea_tbl := ea_in (et_1 (List.mem_of_getElem? (i := 87) (by decide +kernel))) rfl
theorem ew_195 : Cond.fieldLink RX11 124 RX9 "fast" "[Z" ∈ ea_tbl := ea_in (et_1 (List.mem_of_getElem? (i := 88) (by decide +kernel))) rfl
theorem ew_196 : Cond.fieldLink RX9 28 RX9 "delay" "[I" ∈ ea_tbl := ea_in (et_1 (List.mem_of_getElem? (i := 89) (by decide +kernel))) rfl
theorem ew_197 : Cond.fieldLink RX11 132 RX9 "delay" "[I" ∈ ea_tbl := ea_in (et_1 (List.mem_of_getElem? (i := 90) (by decide +kernel))) rfl
theorem ew_198 : Cond.fieldLink RX9 31 RX9 "missed" "[Z" ∈ ea_tbl := ea_in (et_1 (List.mem_of_getElem? (i := 91) (by decide +kernel))) rfl
theorem ew_199 : Cond.fieldLink RX11 139 RX9 "missed" "[Z" ∈ ea_tbl := ea_in (et_1 (List.mem_of_getElem? (i := 92) (by decide +kernel))) rfl
theorem ew_200 : Cond.fieldLink RX1 130 RX9 "missed" "[Z" ∈ ea_tbl := ea_in (et_1 (List.mem_of_getElem? (i := 93) (by decide +kernel))) rfl
theorem ew_218 : Cond.arrayClass .boolean ∈ ea_tbl := ea_in (et_1 (List.mem_of_getElem? (i := 111) (by decide +kernel))) rfl
theorem ew_219 : Cond.classLink RX11 23 RX10 ∈ ea_tbl := ea_in (et_1 (List.mem_of_getElem? (i := 112) (by decide +kernel))) rfl
theorem ew_220 : Cond.instantiable RX10 9 ∈ ea_tbl := ea_in (et_1 (List.mem_of_getElem? (i := 113) (by decide +kernel))) rfl
theorem ew_221 : Cond.methodLink RX11 25 yX10_init ∈ ea_tbl := ea_in (et_1 (List.mem_of_getElem? (i := 114) (by decide +kernel))) rfl
theorem ew_222 : Cond.instanceMethod yX10_init ∈ ea_tbl := ea_in (et_1 (List.mem_of_getElem? (i := 115) (by decide +kernel))) rfl
theorem ew_223 : Cond.code yX10_init cX10_init 2 none ∈ ea_tbl := ea_in (et_1 (List.mem_of_getElem? (i := 116) rfl)) rfl
theorem ew_224 : Cond.methodLink RX10 5 Lib.objectInit ∈ ea_tbl := ea_in (et_1 (List.mem_of_getElem? (i := 117) (by decide +kernel))) rfl
theorem ew_225 : Cond.fieldLink RX10 24 RX10 "fresh" "Z" ∈ ea_tbl := ea_in (et_1 (List.mem_of_getElem? (i := 118) (by decide +kernel))) rfl
theorem ew_226 : Cond.fieldLink RX11 445 RX10 "fresh" "Z" ∈ ea_tbl := ea_in (et_1 (List.mem_of_getElem? (i := 119) (by decide +kernel))) rfl
theorem ew_227 : Cond.fieldLink RX10 53 RX10 "count" "I" ∈ ea_tbl := ea_in (et_1 (List.mem_of_getElem? (i := 120) (by decide +kernel))) rfl
theorem ew_228 : Cond.fieldLink RX1 92 RX10 "count" "I" ∈ ea_tbl := ea_in (et_1 (List.mem_of_getElem? (i := 121) (by decide +kernel))) rfl
theorem ew_229 : Cond.fieldLink RX10 20 RX10 "table" "LInlandMails$Table;" ∈ ea_tbl := ea_in (et_1 (List.mem_of_getElem? (i := 122) (by decide +kernel))) rfl
theorem ew_230 : Cond.fieldLink RX10 28 RX10 "keys" "[I" ∈ ea_tbl := ea_in (et_1 (List.mem_of_getElem? (i := 123) (by decide +kernel))) rfl
theorem ew_231 : Cond.fieldLink RX10 31 RX10 "best" "[J" ∈ ea_tbl := ea_in (et_1 (List.mem_of_getElem? (i := 124) (by decide +kernel))) rfl
theorem ew_232 : Cond.fieldLink RX10 35 RX10 "ride" "[J" ∈ ea_tbl := ea_in (et_1 (List.mem_of_getElem? (i := 125) (by decide +kernel))) rfl
theorem ew_233 : Cond.fieldLink RX10 38 RX10 "firstOfMinute" "[I" ∈ ea_tbl := ea_in (et_1 (List.mem_of_getElem? (i := 126) (by decide +kernel))) rfl
theorem ew_234 : Cond.fieldLink RX10 11 RX10 "head" "[I" ∈ ea_tbl := ea_in (et_1 (List.mem_of_getElem? (i := 127) (by decide +kernel))) rfl
theorem ew_235 : Cond.fieldLink RX10 17 RX10 "headMinute" "[I" ∈ ea_tbl := ea_in (et_1 (List.mem_of_getElem? (i := 128) (by decide +kernel))) rfl
theorem ew_255 : Cond.classLink RX11 32 RX3 ∈ ea_tbl := ea_in (et_1 (List.mem_of_getElem? (i := 148) (by decide +kernel))) rfl
theorem ew_256 : Cond.instantiable RX3 5 ∈ ea_tbl := ea_in (et_1 (List.mem_of_getElem? (i := 149) (by decide +kernel))) rfl
theorem ew_257 : Cond.methodLinkNest RX11 34 yX3_init RX11 ∈ ea_nl := ea_nin (et_1 (List.mem_of_getElem? (i := 150) (by decide +kernel))) rfl
theorem ew_258 : Cond.instanceMethod yX3_init ∈ ea_tbl := ea_in (et_1 (List.mem_of_getElem? (i := 151) (by decide +kernel))) rfl
theorem ew_259 : Cond.code yX3_init cX3_init 1 none ∈ ea_tbl := ea_in (et_1 (List.mem_of_getElem? (i := 152) rfl)) rfl
theorem ew_260 : Cond.methodLink RX3 3 Lib.objectInit ∈ ea_tbl := ea_in (et_1 (List.mem_of_getElem? (i := 153) (by decide +kernel))) rfl
theorem ew_261 : Cond.fieldLink RX3 24 RX3 "count" "I" ∈ ea_tbl := ea_in (et_1 (List.mem_of_getElem? (i := 154) (by decide +kernel))) rfl
theorem ew_262 : Cond.fieldLink RX11 155 RX3 "count" "I" ∈ ea_tbl := ea_in (et_1 (List.mem_of_getElem? (i := 155) (by decide +kernel))) rfl
theorem ew_263 : Cond.fieldLink RX3 9 RX3 "seat" "[I" ∈ ea_tbl := ea_in (et_1 (List.mem_of_getElem? (i := 156) (by decide +kernel))) rfl
theorem ew_264 : Cond.fieldLink RX11 346 RX3 "seat" "[I" ∈ ea_tbl := ea_in (et_1 (List.mem_of_getElem? (i := 157) (by decide +kernel))) rfl
theorem ew_265 : Cond.fieldLink RX3 15 RX3 "speed" "[I" ∈ ea_tbl := ea_in (et_1 (List.mem_of_getElem? (i := 158) (by decide +kernel))) rfl
theorem ew_266 : Cond.fieldLink RX3 18 RX3 "knows" "[I" ∈ ea_tbl := ea_in (et_1 (List.mem_of_getElem? (i := 159) (by decide +kernel))) rfl
theorem ew_267 : Cond.fieldLink RX3 21 RX3 "time" "[I" ∈ ea_tbl := ea_in (et_1 (List.mem_of_getElem? (i := 160) (by decide +kernel))) rfl
theorem ew_279 : Cond.classLink RX11 39 RX8 ∈ ea_tbl := ea_in (et_1 (List.mem_of_getElem? (i := 172) (by decide +kernel))) rfl
theorem ew_280 : Cond.instantiable RX8 5 ∈ ea_tbl := ea_in (et_1 (List.mem_of_getElem? (i := 173) (by decide +kernel))) rfl
theorem ew_281 : Cond.methodLinkNest RX11 41 yX8_init RX11 ∈ ea_nl := ea_nin (et_1 (List.mem_of_getElem? (i := 174) (by decide +kernel))) rfl
theorem ew_282 : Cond.instanceMethod yX8_init ∈ ea_tbl := ea_in (et_1 (List.mem_of_getElem? (i := 175) (by decide +kernel))) rfl
theorem ew_283 : Cond.code yX8_init cX8_init 1 none ∈ ea_tbl := ea_in (et_1 (List.mem_of_getElem? (i := 176) rfl)) rfl
theorem ew_284 : Cond.methodLink RX8 3 Lib.objectInit ∈ ea_tbl := ea_in (et_1 (List.mem_of_getElem? (i := 177) (by decide +kernel))) rfl
theorem ew_285 : Cond.classLink RX8 9 RX5 ∈ ea_tbl := ea_in (et_1 (List.mem_of_getElem? (i := 178) (by decide +kernel))) rfl
theorem ew_286 : Cond.instantiable RX5 12 ∈ ea_tbl := ea_in (et_1 (List.mem_of_getElem? (i := 179) (by decide +kernel))) rfl
theorem ew_287 : Cond.methodLinkNest RX8 11 yX5_init RX11 ∈ ea_nl := ea_nin (et_1 (List.mem_of_getElem? (i := 180) (by decide +kernel))) rfl
theorem ew_288 : Cond.instanceMethod yX5_init ∈ ea_tbl := ea_in (et_1 (List.mem_of_getElem? (i := 181) (by decide +kernel))) rfl
theorem ew_289 : Cond.code yX5_init cX5_init 1 none ∈ ea_tbl := ea_in (et_1 (List.mem_of_getElem? (i := 182) rfl)) rfl
theorem ew_290 : Cond.methodLink RX5 3 Lib.objectInit ∈ ea_tbl := ea_in (et_1 (List.mem_of_getElem? (i := 183) (by decide +kernel))) rfl
theorem ew_291 : Cond.fieldLink RX5 33 RX5 "length" "I" ∈ ea_tbl := ea_in (et_1 (List.mem_of_getElem? (i := 184) (by decide +kernel))) rfl
theorem ew_292 : Cond.fieldLink RX11 161 RX5 "length" "I" ∈ ea_tbl := ea_in (et_1 (List.mem_of_getElem? (i := 185) (by decide +kernel))) rfl
theorem ew_293 : Cond.fieldLink RX5 36 RX5 "fault" "I" ∈ ea_tbl := ea_in (et_1 (List.mem_of_getElem? (i := 186) (by decide +kernel))) rfl
theorem ew_294 : Cond.fieldLink RX11 183 RX5 "fault" "I" ∈ ea_tbl := ea_in (et_1 (List.mem_of_getElem? (i := 187) (by decide +kernel))) rfl
theorem ew_295 : Cond.fieldLink RX5 9 RX5 "faultPlace" "I" ∈ ea_tbl := ea_in (et_1 (List.mem_of_getElem? (i := 188) (by decide +kernel))) rfl
theorem ew_296 : Cond.fieldLink RX11 186 RX5 "faultPlace" "I" ∈ ea_tbl := ea_in (et_1 (List.mem_of_getElem? (i := 189) (by decide +kernel))) rfl
theorem ew_297 : Cond.fieldLink RX5 15 RX5 "tape" "[I" ∈ ea_tbl := ea_in (et_1 (List.mem_of_getElem? (i := 190) (by decide +kernel))) rfl
theorem ew_298 : Cond.fieldLink RX5 19 RX5 "kinds" "[I" ∈ ea_tbl := ea_in (et_1 (List.mem_of_getElem? (i := 191) (by decide +kernel))) rfl
theorem ew_299 : Cond.fieldLink RX5 22 RX5 "starts" "[I" ∈ ea_tbl := ea_in (et_1 (List.mem_of_getElem? (i := 192) (by decide +kernel))) rfl
theorem ew_300 : Cond.fieldLink RX5 25 RX5 "values" "[I" ∈ ea_tbl := ea_in (et_1 (List.mem_of_getElem? (i := 193) (by decide +kernel))) rfl
theorem ew_301 : Cond.fieldLink RX5 138 RX5 "tokens" "I" ∈ ea_tbl := ea_in (et_1 (List.mem_of_getElem? (i := 194) (by decide +kernel))) rfl
theorem ew_302 : Cond.fieldLink RX5 48 RX5 "current" "I" ∈ ea_tbl := ea_in (et_1 (List.mem_of_getElem? (i := 195) (by decide +kernel))) rfl
theorem ew_303 : Cond.fieldLink RX5 51 RX5 "token" "I" ∈ ea_tbl := ea_in (et_1 (List.mem_of_getElem? (i := 196) (by decide +kernel))) rfl
theorem ew_304 : Cond.fieldLink RX5 30 RX5 "code" "[I" ∈ ea_tbl := ea_in (et_1 (List.mem_of_getElem? (i := 197) (by decide +kernel))) rfl
theorem ew_305 : Cond.fieldLink RX5 45 RX5 "used" "I" ∈ ea_tbl := ea_in (et_1 (List.mem_of_getElem? (i := 198) (by decide +kernel))) rfl
theorem ew_331 : Cond.classLink RX8 18 RX0 ∈ ea_tbl := ea_in (et_1 (List.mem_of_getElem? (i := 224) (by decide +kernel))) rfl
theorem ew_332 : Cond.arrayOver (.object RX0) ∈ ea_nl := ea_nin (et_1 (List.mem_of_getElem? (i := 225) (by decide +kernel))) rfl
theorem ew_333 : Cond.fieldLink RX8 12 RX8 "reader" "LInlandMails$Reader;" ∈ ea_tbl := ea_in (et_1 (List.mem_of_getElem? (i := 226) (by decide +kernel))) rfl
theorem ew_334 : Cond.fieldLink RX11 157 RX8 "reader" "LInlandMails$Reader;" ∈ ea_tbl := ea_in (et_1 (List.mem_of_getElem? (i := 227) (by decide +kernel))) rfl
theorem ew_335 : Cond.fieldLink RX8 31 RX8 "count" "I" ∈ ea_tbl := ea_in (et_1 (List.mem_of_getElem? (i := 228) (by decide +kernel))) rfl
theorem ew_336 : Cond.fieldLink RX11 156 RX8 "count" "I" ∈ ea_tbl := ea_in (et_1 (List.mem_of_getElem? (i := 229) (by decide +kernel))) rfl
theorem ew_337 : Cond.fieldLink RX8 20 RX8 "acts" "[LInlandMails$Act;" ∈ ea_tbl := ea_in (et_1 (List.mem_of_getElem? (i := 230) (by decide +kernel))) rfl
theorem ew_338 : Cond.fieldLink RX8 24 RX8 "asked" "[I" ∈ ea_tbl := ea_in (et_1 (List.mem_of_getElem? (i := 231) (by decide +kernel))) rfl
theorem ew_339 : Cond.fieldLink RX8 28 RX8 "stack" "[I" ∈ ea_tbl := ea_in (et_1 (List.mem_of_getElem? (i := 232) (by decide +kernel))) rfl
theorem ew_351 : Cond.classLink RX11 46 RX4 ∈ ea_tbl := ea_in (et_2 (List.mem_of_getElem? (i := 4) (by decide +kernel))) rfl
theorem ew_352 : Cond.arrayOver (.object RX4) ∈ ea_nl := ea_nin (et_2 (List.mem_of_getElem? (i := 5) (by decide +kernel))) rfl
theorem ew_353 : Cond.classLink RX11 52 RX1 ∈ ea_tbl := ea_in (et_2 (List.mem_of_getElem? (i := 6) (by decide +kernel))) rfl
theorem ew_354 : Cond.instantiable RX1 16 ∈ ea_tbl := ea_in (et_2 (List.mem_of_getElem? (i := 7) (by decide +kernel))) rfl
theorem ew_355 : Cond.methodLink RX11 54 yX1_init ∈ ea_tbl := ea_in (et_2 (List.mem_of_getElem? (i := 8) (by decide +kernel))) rfl
theorem ew_356 : Cond.instanceMethod yX1_init ∈ ea_tbl := ea_in (et_2 (List.mem_of_getElem? (i := 9) (by decide +kernel))) rfl
theorem ew_357 : Cond.code yX1_init cX1_init 6 none ∈ ea_tbl := ea_in (et_2 (List.mem_of_getElem? (i := 10) rfl)) rfl
theorem ew_358 : Cond.methodLink RX1 3 Lib.objectInit ∈ ea_tbl := ea_in (et_2 (List.mem_of_getElem? (i := 11) (by decide +kernel))) rfl
theorem ew_359 : Cond.fieldLink RX1 60 RX1 "count" "I" ∈ ea_tbl := ea_in (et_2 (List.mem_of_getElem? (i := 12) (by decide +kernel))) rfl
theorem ew_360 : Cond.fieldLink RX11 154 RX1 "count" "I" ∈ ea_tbl := ea_in (et_2 (List.mem_of_getElem? (i := 13) (by decide +kernel))) rfl
theorem ew_361 : Cond.fieldLink RX1 9 RX1 "state" "[I" ∈ ea_tbl := ea_in (et_2 (List.mem_of_getElem? (i := 14) (by decide +kernel))) rfl
theorem ew_362 : Cond.fieldLink RX11 255 RX1 "state" "[I" ∈ ea_tbl := ea_in (et_2 (List.mem_of_getElem? (i := 15) (by decide +kernel))) rfl
theorem ew_363 : Cond.fieldLink RX1 15 RX1 "place" "[I" ∈ ea_tbl := ea_in (et_2 (List.mem_of_getElem? (i := 16) (by decide +kernel))) rfl
theorem ew_364 : Cond.fieldLink RX11 276 RX1 "place" "[I" ∈ ea_tbl := ea_in (et_2 (List.mem_of_getElem? (i := 17) (by decide +kernel))) rfl
theorem ew_365 : Cond.fieldLink RX1 18 RX1 "goal" "[I" ∈ ea_tbl := ea_in (et_2 (List.mem_of_getElem? (i := 18) (by decide +kernel))) rfl
theorem ew_366 : Cond.fieldLink RX11 282 RX1 "goal" "[I" ∈ ea_tbl := ea_in (et_2 (List.mem_of_getElem? (i := 19) (by decide +kernel))) rfl
theorem ew_367 : Cond.fieldLink RX1 21 RX1 "left" "[I" ∈ ea_tbl := ea_in (et_2 (List.mem_of_getElem? (i := 20) (by decide +kernel))) rfl
theorem ew_368 : Cond.fieldLink RX11 285 RX1 "left" "[I" ∈ ea_tbl := ea_in (et_2 (List.mem_of_getElem? (i := 21) (by decide +kernel))) rfl
theorem ew_369 : Cond.fieldLink RX1 24 RX1 "sorted" "[Z" ∈ ea_tbl := ea_in (et_2 (List.mem_of_getElem? (i := 22) (by decide +kernel))) rfl
theorem ew_370 : Cond.fieldLink RX11 279 RX1 "sorted" "[Z" ∈ ea_tbl := ea_in (et_2 (List.mem_of_getElem? (i := 23) (by decide +kernel))) rfl
theorem ew_371 : Cond.fieldLink RX1 28 RX1 "leftBy" "[I" ∈ ea_tbl := ea_in (et_2 (List.mem_of_getElem? (i := 24) (by decide +kernel))) rfl
theorem ew_372 : Cond.fieldLink RX11 356 RX1 "leftBy" "[I" ∈ ea_tbl := ea_in (et_2 (List.mem_of_getElem? (i := 25) (by decide +kernel))) rfl
theorem ew_373 : Cond.fieldLink RX1 31 RX1 "since" "[I" ∈ ea_tbl := ea_in (et_2 (List.mem_of_getElem? (i := 26) (by decide +kernel))) rfl
theorem ew_374 : Cond.fieldLink RX1 34 RX1 "inHole" "[I" ∈ ea_tbl := ea_in (et_2 (List.mem_of_getElem? (i := 27) (by decide +kernel))) rfl
theorem ew_375 : Cond.fieldLink RX1 37 RX1 "aboard" "[I" ∈ ea_tbl := ea_in (et_2 (List.mem_of_getElem? (i := 28) (by decide +kernel))) rfl
theorem ew_376 : Cond.fieldLink RX1 64 RX1 "moving" "I" ∈ ea_tbl := ea_in (et_2 (List.mem_of_getElem? (i := 29) (by decide +kernel))) rfl
theorem ew_377 : Cond.fieldLink RX1 40 RX1 "table" "LInlandMails$Table;" ∈ ea_tbl := ea_in (et_2 (List.mem_of_getElem? (i := 30) (by decide +kernel))) rfl
theorem ew_378 : Cond.fieldLink RX1 44 RX1 "ways" "LInlandMails$Ways;" ∈ ea_tbl := ea_in (et_2 (List.mem_of_getElem? (i := 31) (by decide +kernel))) rfl
theorem ew_379 : Cond.fieldLink RX1 48 RX1 "crew" "LInlandMails$Crew;" ∈ ea_tbl := ea_in (et_2 (List.mem_of_getElem? (i := 32) (by decide +kernel))) rfl
theorem ew_380 : Cond.fieldLink RX1 52 RX1 "letters" "[LInlandMails$Letter;" ∈ ea_tbl := ea_in (et_2 (List.mem_of_getElem? (i := 33) (by decide +kernel))) rfl
theorem ew_381 : Cond.fieldLink RX1 56 RX1 "real" "Z" ∈ ea_tbl := ea_in (et_2 (List.mem_of_getElem? (i := 34) (by decide +kernel))) rfl
theorem ew_415 : Cond.classLink RX11 64 RX2 ∈ ea_tbl := ea_in (et_2 (List.mem_of_getElem? (i := 68) (by decide +kernel))) rfl
theorem ew_416 : Cond.arrayOver (.object RX2) ∈ ea_nl := ea_nin (et_2 (List.mem_of_getElem? (i := 69) (by decide +kernel))) rfl
theorem ew_417 : Cond.classLink RX11 70 RX7 ∈ ea_tbl := ea_in (et_2 (List.mem_of_getElem? (i := 70) (by decide +kernel))) rfl
theorem ew_418 : Cond.arrayOver (.object RX7) ∈ ea_nl := ea_nin (et_2 (List.mem_of_getElem? (i := 71) (by decide +kernel))) rfl
theorem ew_419 : Cond.instantiable RX2 3 ∈ ea_tbl := ea_in (et_2 (List.mem_of_getElem? (i := 72) (by decide +kernel))) rfl
theorem ew_420 : Cond.methodLinkNest RX11 76 yX2_init RX11 ∈ ea_nl := ea_nin (et_2 (List.mem_of_getElem? (i := 73) (by decide +kernel))) rfl
theorem ew_421 : Cond.instanceMethod yX2_init ∈ ea_tbl := ea_in (et_2 (List.mem_of_getElem? (i := 74) (by decide +kernel))) rfl
theorem ew_422 : Cond.code yX2_init cX2_init 1 none ∈ ea_tbl := ea_in (et_2 (List.mem_of_getElem? (i := 75) rfl)) rfl
theorem ew_423 : Cond.methodLink RX2 3 Lib.objectInit ∈ ea_tbl := ea_in (et_2 (List.mem_of_getElem? (i := 76) (by decide +kernel))) rfl
theorem ew_424 : Cond.fieldLink RX2 18 RX2 "setAt" "I" ∈ ea_tbl := ea_in (et_2 (List.mem_of_getElem? (i := 77) (by decide +kernel))) rfl
theorem ew_425 : Cond.fieldLink RX11 420 RX2 "setAt" "I" ∈ ea_tbl := ea_in (et_2 (List.mem_of_getElem? (i := 78) (by decide +kernel))) rfl
theorem ew_426 : Cond.fieldLink RX2 9 RX2 "low" "I" ∈ ea_tbl := ea_in (et_2 (List.mem_of_getElem? (i := 79) (by decide +kernel))) rfl
theorem ew_427 : Cond.fieldLink RX11 426 RX2 "low" "I" ∈ ea_tbl := ea_in (et_2 (List.mem_of_getElem? (i := 80) (by decide +kernel))) rfl
theorem ew_428 : Cond.fieldLink RX2 15 RX2 "high" "I" ∈ ea_tbl := ea_in (et_2 (List.mem_of_getElem? (i := 81) (by decide +kernel))) rfl
theorem ew_429 : Cond.fieldLink RX11 429 RX2 "high" "I" ∈ ea_tbl := ea_in (et_2 (List.mem_of_getElem? (i := 82) (by decide +kernel))) rfl
theorem ew_437 : Cond.fieldLink RX11 12 RX11 "roads" "LInlandMails$Roads;" ∈ ea_tbl := ea_in (et_2 (List.mem_of_getElem? (i := 90) (by decide +kernel))) rfl
theorem ew_438 : Cond.fieldLink RX11 19 RX11 "table" "LInlandMails$Table;" ∈ ea_tbl := ea_in (et_2 (List.mem_of_getElem? (i := 91) (by decide +kernel))) rfl
theorem ew_439 : Cond.fieldLink RX11 28 RX11 "ways" "LInlandMails$Ways;" ∈ ea_tbl := ea_in (et_2 (List.mem_of_getElem? (i := 92) (by decide +kernel))) rfl
theorem ew_440 : Cond.fieldLink RX11 35 RX11 "crew" "LInlandMails$Crew;" ∈ ea_tbl := ea_in (et_2 (List.mem_of_getElem? (i := 93) (by decide +kernel))) rfl
theorem ew_441 : Cond.fieldLink RX11 42 RX11 "statutes" "LInlandMails$Statutes;" ∈ ea_tbl := ea_in (et_2 (List.mem_of_getElem? (i := 94) (by decide +kernel))) rfl
theorem ew_442 : Cond.fieldLink RX11 48 RX11 "letters" "[LInlandMails$Letter;" ∈ ea_tbl := ea_in (et_2 (List.mem_of_getElem? (i := 95) (by decide +kernel))) rfl
theorem ew_443 : Cond.fieldLink RX11 57 RX11 "bags" "LInlandMails$Bags;" ∈ ea_tbl := ea_in (et_2 (List.mem_of_getElem? (i := 96) (by decide +kernel))) rfl
theorem ew_444 : Cond.fieldLink RX11 61 RX11 "trial" "LInlandMails$Bags;" ∈ ea_tbl := ea_in (et_2 (List.mem_of_getElem? (i := 97) (by decide +kernel))) rfl
theorem ew_445 : Cond.fieldLink RX11 66 RX11 "clocks" "[LInlandMails$Clock;" ∈ ea_tbl := ea_in (et_2 (List.mem_of_getElem? (i := 98) (by decide +kernel))) rfl
theorem ew_446 : Cond.fieldLink RX11 72 RX11 "robberies" "[LInlandMails$Robbery;" ∈ ea_tbl := ea_in (et_2 (List.mem_of_getElem? (i := 99) (by decide +kernel))) rfl
theorem ew_447 : Cond.fieldLink RX11 397 RX11 "robberyCount" "I" ∈ ea_tbl := ea_in (et_2 (List.mem_of_getElem? (i := 100) (by decide +kernel))) rfl
theorem ew_448 : Cond.fieldLink RX11 100 RX11 "now" "I" ∈ ea_tbl := ea_in (et_2 (List.mem_of_getElem? (i := 101) (by decide +kernel))) rfl
theorem ew_449 : Cond.fieldLink RX11 96 RX11 "bestKnown" "Z" ∈ ea_tbl := ea_in (et_2 (List.mem_of_getElem? (i := 102) (by decide +kernel))) rfl
theorem ew_450 : Cond.fieldLink RX11 451 RX11 "bestSum" "I" ∈ ea_tbl := ea_in (et_2 (List.mem_of_getElem? (i := 103) (by decide +kernel))) rfl
theorem ew_451 : Cond.fieldLink RX11 454 RX11 "bestOne" "I" ∈ ea_tbl := ea_in (et_2 (List.mem_of_getElem? (i := 104) (by decide +kernel))) rfl
theorem ew_452 : Cond.fieldLink RX11 457 RX11 "bestTwo" "I" ∈ ea_tbl := ea_in (et_2 (List.mem_of_getElem? (i := 105) (by decide +kernel))) rfl
theorem ew_486 : Cond.methodLink RL 13 yX11_town ∈ ea_tbl := ea_in (et_2 (List.mem_of_getElem? (i := 139) (by decide +kernel))) rfl
theorem ew_487 : Cond.instanceMethod yX11_town ∈ ea_tbl := ea_in (et_2 (List.mem_of_getElem? (i := 140) (by decide +kernel))) rfl
theorem ew_488 : Cond.selects RX11 yX11_town yX11_town ∈ ea_tbl := ea_in (et_2 (List.mem_of_getElem? (i := 141) (by decide +kernel))) rfl
theorem ew_489 : Cond.code yX11_town cX11_town 1 (some .int) ∈ ea_tbl := ea_in (et_2 (List.mem_of_getElem? (i := 142) rfl)) rfl
theorem ew_490 : Cond.methodLink RL 18 yX11_road ∈ ea_tbl := ea_in (et_2 (List.mem_of_getElem? (i := 143) (by decide +kernel))) rfl
theorem ew_491 : Cond.instanceMethod yX11_road ∈ ea_tbl := ea_in (et_2 (List.mem_of_getElem? (i := 144) (by decide +kernel))) rfl
theorem ew_492 : Cond.selects RX11 yX11_road yX11_road ∈ ea_tbl := ea_in (et_2 (List.mem_of_getElem? (i := 145) (by decide +kernel))) rfl
theorem ew_493 : Cond.code yX11_road cX11_road 4 (some .boolean) ∈ ea_tbl := ea_in (et_2 (List.mem_of_getElem? (i := 146) rfl)) rfl
theorem ew_494 : Cond.methodLink RX11 81 yX6_has ∈ ea_tbl := ea_in (et_2 (List.mem_of_getElem? (i := 147) (by decide +kernel))) rfl
theorem ew_495 : Cond.instanceMethod yX6_has ∈ ea_tbl := ea_in (et_2 (List.mem_of_getElem? (i := 148) (by decide +kernel))) rfl
theorem ew_496 : Cond.selects RX6 yX6_has yX6_has ∈ ea_tbl := ea_in (et_2 (List.mem_of_getElem? (i := 149) (by decide +kernel))) rfl
theorem ew_497 : Cond.code yX6_has cX6_has 2 (some .boolean) ∈ ea_tbl := ea_in (et_2 (List.mem_of_getElem? (i := 150) rfl)) rfl
theorem ew_498 : Cond.methodLink RX11 85 yX6_lay ∈ ea_tbl := ea_in (et_2 (List.mem_of_getElem? (i := 151) (by decide +kernel))) rfl
theorem ew_499 : Cond.instanceMethod yX6_lay ∈ ea_tbl := ea_in (et_2 (List.mem_of_getElem? (i := 152) (by decide +kernel))) rfl
theorem ew_500 : Cond.selects RX6 yX6_lay yX6_lay ∈ ea_tbl := ea_in (et_2 (List.mem_of_getElem? (i := 153) (by decide +kernel))) rfl
theorem ew_501 : Cond.code yX6_lay cX6_lay 4 none ∈ ea_tbl := ea_in (et_2 (List.mem_of_getElem? (i := 154) rfl)) rfl
theorem ew_502 : Cond.methodLink RL 23 yX11_miles ∈ ea_tbl := ea_in (et_2 (List.mem_of_getElem? (i := 155) (by decide +kernel))) rfl
theorem ew_503 : Cond.instanceMethod yX11_miles ∈ ea_tbl := ea_in (et_2 (List.mem_of_getElem? (i := 156) (by decide +kernel))) rfl
theorem ew_504 : Cond.selects RX11 yX11_miles yX11_miles ∈ ea_tbl := ea_in (et_2 (List.mem_of_getElem? (i := 157) (by decide +kernel))) rfl
theorem ew_505 : Cond.code yX11_miles cX11_miles 3 (some .int) ∈ ea_tbl := ea_in (et_2 (List.mem_of_getElem? (i := 158) rfl)) rfl
theorem ew_506 : Cond.methodLink RX11 89 yX6_between ∈ ea_tbl := ea_in (et_2 (List.mem_of_getElem? (i := 159) (by decide +kernel))) rfl
theorem ew_507 : Cond.instanceMethod yX6_between ∈ ea_tbl := ea_in (et_2 (List.mem_of_getElem? (i := 160) (by decide +kernel))) rfl
theorem ew_508 : Cond.selects RX6 yX6_between yX6_between ∈ ea_tbl := ea_in (et_2 (List.mem_of_getElem? (i := 161) (by decide +kernel))) rfl
theorem ew_509 : Cond.code yX6_between cX6_between 4 (some .int) ∈ ea_tbl := ea_in (et_2 (List.mem_of_getElem? (i := 162) rfl)) rfl
theorem ew_510 : Cond.methodLink RL 28 yX11_train ∈ ea_tbl := ea_in (et_2 (List.mem_of_getElem? (i := 163) (by decide +kernel))) rfl
theorem ew_511 : Cond.instanceMethod yX11_train ∈ ea_tbl := ea_in (et_2 (List.mem_of_getElem? (i := 164) (by decide +kernel))) rfl
theorem ew_512 : Cond.selects RX11 yX11_train yX11_train ∈ ea_tbl := ea_in (et_2 (List.mem_of_getElem? (i := 165) (by decide +kernel))) rfl
theorem ew_513 : Cond.code yX11_train cX11_train 1 (some .int) ∈ ea_tbl := ea_in (et_2 (List.mem_of_getElem? (i := 166) rfl)) rfl
theorem ew_514 : Cond.methodLink RL 32 yX11_stop ∈ ea_tbl := ea_in (et_2 (List.mem_of_getElem? (i := 167) (by decide +kernel))) rfl
theorem ew_515 : Cond.instanceMethod yX11_stop ∈ ea_tbl := ea_in (et_2 (List.mem_of_getElem? (i := 168) (by decide +kernel))) rfl
theorem ew_516 : Cond.selects RX11 yX11_stop yX11_stop ∈ ea_tbl := ea_in (et_2 (List.mem_of_getElem? (i := 169) (by decide +kernel))) rfl
theorem ew_517 : Cond.code yX11_stop cX11_stop 7 (some .int) ∈ ea_tbl := ea_in (et_2 (List.mem_of_getElem? (i := 170) rfl)) rfl
theorem ew_518 : Cond.methodLink RX11 103 yX9_has ∈ ea_tbl := ea_in (et_2 (List.mem_of_getElem? (i := 171) (by decide +kernel))) rfl
theorem ew_519 : Cond.instanceMethod yX9_has ∈ ea_tbl := ea_in (et_2 (List.mem_of_getElem? (i := 172) (by decide +kernel))) rfl
theorem ew_520 : Cond.selects RX9 yX9_has yX9_has ∈ ea_tbl := ea_in (et_2 (List.mem_of_getElem? (i := 173) (by decide +kernel))) rfl
theorem ew_521 : Cond.code yX9_has cX9_has 2 (some .boolean) ∈ ea_tbl := ea_in (et_2 (List.mem_of_getElem? (i := 174) rfl)) rfl
theorem ew_522 : Cond.methodLink RX11 104 yX9_add ∈ ea_tbl := ea_in (et_2 (List.mem_of_getElem? (i := 175) (by decide +kernel))) rfl
theorem ew_523 : Cond.instanceMethod yX9_add ∈ ea_tbl := ea_in (et_2 (List.mem_of_getElem? (i := 176) (by decide +kernel))) rfl
theorem ew_524 : Cond.selects RX9 yX9_add yX9_add ∈ ea_tbl := ea_in (et_2 (List.mem_of_getElem? (i := 177) (by decide +kernel))) rfl
theorem ew_525 : Cond.code yX9_add cX9_add 8 (some .int) ∈ ea_tbl := ea_in (et_2 (List.mem_of_getElem? (i := 178) rfl)) rfl
theorem ew_526 : Cond.methodLink RX11 108 yX11_tableChanged ∈ ea_tbl := ea_in (et_2 (List.mem_of_getElem? (i := 179) (by decide +kernel))) rfl
theorem ew_528 : Cond.instanceMethod yX11_tableChanged ∈ ea_tbl := ea_in (et_2 (List.mem_of_getElem? (i := 181) (by decide +kernel))) rfl
theorem ew_529 : Cond.code yX11_tableChanged cX11_tableChanged 1 none ∈ ea_tbl := ea_in (et_2 (List.mem_of_getElem? (i := 182) rfl)) rfl
theorem ew_530 : Cond.methodLink RL 37 yX11_stopOf ∈ ea_tbl := ea_in (et_2 (List.mem_of_getElem? (i := 183) (by decide +kernel))) rfl
theorem ew_531 : Cond.instanceMethod yX11_stopOf ∈ ea_tbl := ea_in (et_2 (List.mem_of_getElem? (i := 184) (by decide +kernel))) rfl
theorem ew_532 : Cond.selects RX11 yX11_stopOf yX11_stopOf ∈ ea_tbl := ea_in (et_2 (List.mem_of_getElem? (i := 185) (by decide +kernel))) rfl
theorem ew_533 : Cond.code yX11_stopOf cX11_stopOf 5 (some .int) ∈ ea_tbl := ea_in (et_2 (List.mem_of_getElem? (i := 186) rfl)) rfl
theorem ew_534 : Cond.methodLink RL 42 yX11_late ∈ ea_tbl := ea_in (et_2 (List.mem_of_getElem? (i := 187) (by decide +kernel))) rfl
theorem ew_535 : Cond.instanceMethod yX11_late ∈ ea_tbl := ea_in (et_2 (List.mem_of_getElem? (i := 188) (by decide +kernel))) rfl
theorem ew_536 : Cond.selects RX11 yX11_late yX11_late ∈ ea_tbl := ea_in (et_2 (List.mem_of_getElem? (i := 189) (by decide +kernel))) rfl
theorem ew_537 : Cond.code yX11_late cX11_late 4 (some .boolean) ∈ ea_tbl := ea_in (et_2 (List.mem_of_getElem? (i := 190) rfl)) rfl
theorem ew_538 : Cond.methodLink RX11 128 yX11_mayBeTold ∈ ea_tbl := ea_in (et_2 (List.mem_of_getElem? (i := 191) (by decide +kernel))) rfl
theorem ew_540 : Cond.instanceMethod yX11_mayBeTold ∈ ea_tbl := ea_in (et_2 (List.mem_of_getElem? (i := 193) (by decide +kernel))) rfl
theorem ew_541 : Cond.code yX11_mayBeTold cX11_mayBeTold 4 (some .boolean) ∈ ea_tbl := ea_in (et_2 (List.mem_of_getElem? (i := 194) rfl)) rfl
theorem ew_542 : Cond.methodLink RX11 135 yX9_hasRun ∈ ea_tbl := ea_in (et_2 (List.mem_of_getElem? (i := 195) (by decide +kernel))) rfl
theorem ew_543 : Cond.instanceMethod yX9_hasRun ∈ ea_tbl := ea_in (et_2 (List.mem_of_getElem? (i := 196) (by decide +kernel))) rfl
theorem ew_544 : Cond.selects RX9 yX9_hasRun yX9_hasRun ∈ ea_tbl := ea_in (et_2 (List.mem_of_getElem? (i := 197) (by decide +kernel))) rfl
theorem ew_545 : Cond.code yX9_hasRun cX9_hasRun 3 (some .boolean) ∈ ea_tbl := ea_in (et_2 (List.mem_of_getElem? (i := 198) rfl)) rfl
theorem ew_546 : Cond.methodLink RX9 38 yX9_has ∈ ea_tbl := ea_in (et_2 (List.mem_of_getElem? (i := 199) (by decide +kernel))) rfl
theorem ew_547 : Cond.methodLink RL 46 yX11_miss ∈ ea_tbl := ea_in (et_2 (List.mem_of_getElem? (i := 200) (by decide +kernel))) rfl
theorem ew_548 : Cond.instanceMethod yX11_miss ∈ ea_tbl := ea_in (et_2 (List.mem_of_getElem? (i := 201) (by decide +kernel))) rfl
theorem ew_549 : Cond.selects RX11 yX11_miss yX11_miss ∈ ea_tbl := ea_in (et_2 (List.mem_of_getElem? (i := 202) (by decide +kernel))) rfl
theorem ew_550 : Cond.code yX11_miss cX11_miss 5 (some .boolean) ∈ ea_tbl := ea_in (et_2 (List.mem_of_getElem? (i := 203) rfl)) rfl
theorem ew_551 : Cond.methodLink RX11 142 yX9_comesAt ∈ ea_tbl := ea_in (et_2 (List.mem_of_getElem? (i := 204) (by decide +kernel))) rfl
theorem ew_552 : Cond.instanceMethod yX9_comesAt ∈ ea_tbl := ea_in (et_2 (List.mem_of_getElem? (i := 205) (by decide +kernel))) rfl
theorem ew_553 : Cond.selects RX9 yX9_comesAt yX9_comesAt ∈ ea_tbl := ea_in (et_2 (List.mem_of_getElem? (i := 206) (by decide +kernel))) rfl
theorem ew_554 : Cond.code yX9_comesAt cX9_comesAt 4 (some .int) ∈ ea_tbl := ea_in (et_2 (List.mem_of_getElem? (i := 207) rfl)) rfl
theorem ew_555 : Cond.methodLink RL 50 yX11_minutes ∈ ea_tbl := ea_in (et_2 (List.mem_of_getElem? (i := 208) (by decide +kernel))) rfl
theorem ew_556 : Cond.instanceMethod yX11_minutes ∈ ea_tbl := ea_in (et_2 (List.mem_of_getElem? (i := 209) (by decide +kernel))) rfl
theorem ew_557 : Cond.selects RX11 yX11_minutes yX11_minutes ∈ ea_tbl := ea_in (et_2 (List.mem_of_getElem? (i := 210) (by decide +kernel))) rfl
theorem ew_558 : Cond.code yX11_minutes cX11_minutes 2 (some .int) ∈ ea_tbl := ea_in (et_2 (List.mem_of_getElem? (i := 211) rfl)) rfl
theorem ew_559 : Cond.methodLink RX11 146 yX1_carry ∈ ea_tbl := ea_in (et_2 (List.mem_of_getElem? (i := 212) (by decide +kernel))) rfl
theorem ew_560 : Cond.instanceMethod yX1_carry ∈ ea_tbl := ea_in (et_2 (List.mem_of_getElem? (i := 213) (by decide +kernel))) rfl
theorem ew_561 : Cond.selects RX1 yX1_carry yX1_carry ∈ ea_tbl := ea_in (et_2 (List.mem_of_getElem? (i := 214) (by decide +kernel))) rfl
theorem ew_562 : Cond.code yX1_carry cX1_carry 7 none ∈ ea_tbl := ea_in (et_2 (List.mem_of_getElem? (i := 215) rfl)) rfl
theorem ew_563 : Cond.methodLink RX1 83 yX10_refresh ∈ ea_tbl := ea_in (et_2 (List.mem_of_getElem? (i := 216) (by decide +kernel))) rfl
theorem ew_564 : Cond.instanceMethod yX10_refresh ∈ ea_tbl := ea_in (et_2 (List.mem_of_getElem? (i := 217) (by decide +kernel))) rfl
theorem ew_565 : Cond.selects RX10 yX10_refresh yX10_refresh ∈ ea_tbl := ea_in (et_2 (List.mem_of_getElem? (i := 218) (by decide +kernel))) rfl
theorem ew_566 : Cond.code yX10_refresh cX10_refresh 1 none ∈ ea_tbl := ea_in (et_2 (List.mem_of_getElem? (i := 219) rfl)) rfl
theorem ew_567 : Cond.methodLink RX10 41 yX10_collect ∈ ea_tbl := ea_in (et_2 (List.mem_of_getElem? (i := 220) (by decide +kernel))) rfl
theorem ew_569 : Cond.instanceMethod yX10_collect ∈ ea_tbl := ea_in (et_2 (List.mem_of_getElem? (i := 222) (by decide +kernel))) rfl
theorem ew_570 : Cond.code yX10_collect cX10_collect 5 none ∈ ea_tbl := ea_in (et_2 (List.mem_of_getElem? (i := 223) rfl)) rfl
theorem ew_571 : Cond.methodLink RX10 109 yX9_comesAt ∈ ea_tbl := ea_in (et_2 (List.mem_of_getElem? (i := 224) (by decide +kernel))) rfl
theorem ew_572 : Cond.methodLink RX10 113 yX10_addKey ∈ ea_tbl := ea_in (et_2 (List.mem_of_getElem? (i := 225) (by decide +kernel))) rfl
theorem ew_574 : Cond.instanceMethod yX10_addKey ∈ ea_tbl := ea_in (et_2 (List.mem_of_getElem? (i := 227) (by decide +kernel))) rfl
theorem ew_575 : Cond.code yX10_addKey cX10_addKey 3 none ∈ ea_tbl := ea_in (et_2 (List.mem_of_getElem? (i := 228) rfl)) rfl
theorem ew_576 : Cond.methodLink RX10 117 yX9_goesAt ∈ ea_tbl := ea_in (et_2 (List.mem_of_getElem? (i := 229) (by decide +kernel))) rfl
theorem ew_577 : Cond.instanceMethod yX9_goesAt ∈ ea_tbl := ea_in (et_2 (List.mem_of_getElem? (i := 230) (by decide +kernel))) rfl
theorem ew_578 : Cond.selects RX9 yX9_goesAt yX9_goesAt ∈ ea_tbl := ea_in (et_2 (List.mem_of_getElem? (i := 231) (by decide +kernel))) rfl
theorem ew_579 : Cond.code yX9_goesAt cX9_goesAt 4 (some .int) ∈ ea_tbl := ea_in (et_2 (List.mem_of_getElem? (i := 232) rfl)) rfl
theorem ew_580 : Cond.methodLink RX10 44 yX10_sortKeys ∈ ea_tbl := ea_in (et_2 (List.mem_of_getElem? (i := 233) (by decide +kernel))) rfl
theorem ew_582 : Cond.instanceMethod yX10_sortKeys ∈ ea_tbl := ea_in (et_2 (List.mem_of_getElem? (i := 235) (by decide +kernel))) rfl
theorem ew_583 : Cond.code yX10_sortKeys cX10_sortKeys 5 none ∈ ea_tbl := ea_in (et_2 (List.mem_of_getElem? (i := 236) rfl)) rfl
theorem ew_584 : Cond.methodLink RX10 47 yX10_linkMinutes ∈ ea_tbl := ea_in (et_2 (List.mem_of_getElem? (i := 237) (by decide +kernel))) rfl
theorem ew_586 : Cond.instanceMethod yX10_linkMinutes ∈ ea_tbl := ea_in (et_2 (List.mem_of_getElem? (i := 239) (by decide +kernel))) rfl
theorem ew_587 : Cond.code yX10_linkMinutes cX10_linkMinutes 4 none ∈ ea_tbl := ea_in (et_3 (List.mem_of_getElem? (i := 0) rfl)) rfl
theorem ew_588 : Cond.methodLink RX10 120 yJ7_fill_53178 ∈ ea_tbl := ea_in (et_3 (List.mem_of_getElem? (i := 1) (by decide +kernel))) rfl
theorem ew_589 : Cond.methodLink RX10 93 yX10_isGoing ∈ ea_tbl := ea_in (et_3 (List.mem_of_getElem? (i := 2) (by decide +kernel))) rfl
theorem ew_590 : Cond.static yX10_isGoing ∈ ea_tbl := ea_in (et_3 (List.mem_of_getElem? (i := 3) (by decide +kernel))) rfl
theorem ew_591 : Cond.code yX10_isGoing cX10_isGoing 1 (some .boolean) ∈ ea_tbl := ea_in (et_3 (List.mem_of_getElem? (i := 4) rfl)) rfl
theorem ew_592 : Cond.methodLink RX10 97 yX10_townIn ∈ ea_tbl := ea_in (et_3 (List.mem_of_getElem? (i := 5) (by decide +kernel))) rfl
theorem ew_594 : Cond.instanceMethod yX10_townIn ∈ ea_tbl := ea_in (et_3 (List.mem_of_getElem? (i := 7) (by decide +kernel))) rfl
theorem ew_595 : Cond.code yX10_townIn cX10_townIn 2 (some .int) ∈ ea_tbl := ea_in (et_3 (List.mem_of_getElem? (i := 8) rfl)) rfl
theorem ew_596 : Cond.methodLink RX10 69 yX10_trainIn ∈ ea_tbl := ea_in (et_3 (List.mem_of_getElem? (i := 9) (by decide +kernel))) rfl
theorem ew_597 : Cond.static yX10_trainIn ∈ ea_tbl := ea_in (et_3 (List.mem_of_getElem? (i := 10) (by decide +kernel))) rfl
theorem ew_598 : Cond.code yX10_trainIn cX10_trainIn 1 (some .int) ∈ ea_tbl := ea_in (et_3 (List.mem_of_getElem? (i := 11) rfl)) rfl
theorem ew_599 : Cond.methodLink RX10 72 yX10_stopIn ∈ ea_tbl := ea_in (et_3 (List.mem_of_getElem? (i := 12) (by decide +kernel))) rfl
theorem ew_600 : Cond.static yX10_stopIn ∈ ea_tbl := ea_in (et_3 (List.mem_of_getElem? (i := 13) (by decide +kernel))) rfl
theorem ew_601 : Cond.code yX10_stopIn cX10_stopIn 1 (some .int) ∈ ea_tbl := ea_in (et_3 (List.mem_of_getElem? (i := 14) rfl)) rfl
theorem ew_602 : Cond.methodLink RX10 61 yX10_minuteIn ∈ ea_tbl := ea_in (et_3 (List.mem_of_getElem? (i := 15) (by decide +kernel))) rfl
theorem ew_603 : Cond.static yX10_minuteIn ∈ ea_tbl := ea_in (et_3 (List.mem_of_getElem? (i := 16) (by decide +kernel))) rfl
theorem ew_604 : Cond.code yX10_minuteIn cX10_minuteIn 1 (some .int) ∈ ea_tbl := ea_in (et_3 (List.mem_of_getElem? (i := 17) rfl)) rfl
theorem ew_605 : Cond.methodLink RX10 100 yX10_slotIn ∈ ea_tbl := ea_in (et_3 (List.mem_of_getElem? (i := 18) (by decide +kernel))) rfl
theorem ew_606 : Cond.static yX10_slotIn ∈ ea_tbl := ea_in (et_3 (List.mem_of_getElem? (i := 19) (by decide +kernel))) rfl
theorem ew_607 : Cond.code yX10_slotIn cX10_slotIn 1 (some .int) ∈ ea_tbl := ea_in (et_3 (List.mem_of_getElem? (i := 20) rfl)) rfl
theorem ew_608 : Cond.methodLink RX10 75 yX10_dayIn ∈ ea_tbl := ea_in (et_3 (List.mem_of_getElem? (i := 21) (by decide +kernel))) rfl
theorem ew_609 : Cond.static yX10_dayIn ∈ ea_tbl := ea_in (et_3 (List.mem_of_getElem? (i := 22) (by decide +kernel))) rfl
theorem ew_610 : Cond.code yX10_dayIn cX10_dayIn 1 (some .int) ∈ ea_tbl := ea_in (et_3 (List.mem_of_getElem? (i := 23) rfl)) rfl
theorem ew_611 : Cond.methodLink RX10 50 yX10_trace ∈ ea_tbl := ea_in (et_3 (List.mem_of_getElem? (i := 24) (by decide +kernel))) rfl
theorem ew_613 : Cond.instanceMethod yX10_trace ∈ ea_tbl := ea_in (et_3 (List.mem_of_getElem? (i := 26) (by decide +kernel))) rfl
theorem ew_614 : Cond.code yX10_trace cX10_trace 3 none ∈ ea_tbl := ea_in (et_3 (List.mem_of_getElem? (i := 27) rfl)) rfl
theorem ew_615 : Cond.constantLong RX10 78 9223372036854775807 ∈ ea_tbl := ea_in (et_3 (List.mem_of_getElem? (i := 28) (by decide +kernel))) rfl
theorem ew_616 : Cond.methodLink RX10 126 yJ7_fill_d0a16 ∈ ea_tbl := ea_in (et_3 (List.mem_of_getElem? (i := 29) (by decide +kernel))) rfl
theorem ew_617 : Cond.static yJ7_fill_d0a16 ∈ ea_tbl := ea_in (et_3 (List.mem_of_getElem? (i := 30) (by decide +kernel))) rfl
theorem ew_618 : Cond.code yJ7_fill_d0a16 cJ7_fill_d0a16 5 none ∈ ea_tbl := ea_in (et_3 (List.mem_of_getElem? (i := 31) rfl)) rfl
theorem ew_619 : Cond.methodLink RX10 129 yX10_takeRun ∈ ea_tbl := ea_in (et_3 (List.mem_of_getElem? (i := 32) (by decide +kernel))) rfl
theorem ew_621 : Cond.instanceMethod yX10_takeRun ∈ ea_tbl := ea_in (et_3 (List.mem_of_getElem? (i := 34) (by decide +kernel))) rfl
theorem ew_622 : Cond.code yX10_takeRun cX10_takeRun 9 none ∈ ea_tbl := ea_in (et_3 (List.mem_of_getElem? (i := 35) rfl)) rfl
theorem ew_623 : Cond.methodLink RX10 136 yJ9_min_f86c9 ∈ ea_tbl := ea_in (et_3 (List.mem_of_getElem? (i := 36) (by decide +kernel))) rfl
theorem ew_624 : Cond.static yJ9_min_f86c9 ∈ ea_tbl := ea_in (et_3 (List.mem_of_getElem? (i := 37) (by decide +kernel))) rfl
theorem ew_625 : Cond.code yJ9_min_f86c9 cJ9_min_f86c9 4 (some .long) ∈ ea_tbl := ea_in (et_3 (List.mem_of_getElem? (i := 38) rfl)) rfl
theorem ew_626 : Cond.methodLink RX10 133 yX10_leaveRun ∈ ea_tbl := ea_in (et_3 (List.mem_of_getElem? (i := 39) (by decide +kernel))) rfl
theorem ew_628 : Cond.instanceMethod yX10_leaveRun ∈ ea_tbl := ea_in (et_3 (List.mem_of_getElem? (i := 41) (by decide +kernel))) rfl
theorem ew_629 : Cond.code yX10_leaveRun cX10_leaveRun 12 none ∈ ea_tbl := ea_in (et_3 (List.mem_of_getElem? (i := 42) rfl)) rfl
theorem ew_630 : Cond.constantLong RX10 142 8192 ∈ ea_tbl := ea_in (et_3 (List.mem_of_getElem? (i := 43) (by decide +kernel))) rfl
theorem ew_631 : Cond.methodLink RX1 88 yX10_firstBehind ∈ ea_tbl := ea_in (et_3 (List.mem_of_getElem? (i := 44) (by decide +kernel))) rfl
theorem ew_632 : Cond.instanceMethod yX10_firstBehind ∈ ea_tbl := ea_in (et_3 (List.mem_of_getElem? (i := 45) (by decide +kernel))) rfl
theorem ew_633 : Cond.selects RX10 yX10_firstBehind yX10_firstBehind ∈ ea_tbl := ea_in (et_3 (List.mem_of_getElem? (i := 46) (by decide +kernel))) rfl
theorem ew_634 : Cond.code yX10_firstBehind cX10_firstBehind 3 (some .int) ∈ ea_tbl := ea_in (et_3 (List.mem_of_getElem? (i := 47) rfl)) rfl
theorem ew_635 : Cond.methodLink RX10 57 yX10_keyAt ∈ ea_tbl := ea_in (et_3 (List.mem_of_getElem? (i := 48) (by decide +kernel))) rfl
theorem ew_636 : Cond.instanceMethod yX10_keyAt ∈ ea_tbl := ea_in (et_3 (List.mem_of_getElem? (i := 49) (by decide +kernel))) rfl
theorem ew_637 : Cond.selects RX10 yX10_keyAt yX10_keyAt ∈ ea_tbl := ea_in (et_3 (List.mem_of_getElem? (i := 50) (by decide +kernel))) rfl
theorem ew_638 : Cond.code yX10_keyAt cX10_keyAt 2 (some .int) ∈ ea_tbl := ea_in (et_3 (List.mem_of_getElem? (i := 51) rfl)) rfl
theorem ew_639 : Cond.methodLink RX1 93 yX10_keyAt ∈ ea_tbl := ea_in (et_3 (List.mem_of_getElem? (i := 52) (by decide +kernel))) rfl
theorem ew_640 : Cond.methodLink RX1 96 yX10_minuteIn ∈ ea_tbl := ea_in (et_3 (List.mem_of_getElem? (i := 53) (by decide +kernel))) rfl
theorem ew_641 : Cond.methodLink RX1 99 yX1_burn ∈ ea_tbl := ea_in (et_3 (List.mem_of_getElem? (i := 54) (by decide +kernel))) rfl
theorem ew_643 : Cond.instanceMethod yX1_burn ∈ ea_tbl := ea_in (et_3 (List.mem_of_getElem? (i := 56) (by decide +kernel))) rfl
theorem ew_644 : Cond.code yX1_burn cX1_burn 3 none ∈ ea_tbl := ea_in (et_3 (List.mem_of_getElem? (i := 57) rfl)) rfl
theorem ew_645 : Cond.methodLink RX1 117 yX1_move ∈ ea_tbl := ea_in (et_3 (List.mem_of_getElem? (i := 58) (by decide +kernel))) rfl
theorem ew_646 : Cond.instanceMethod yX1_move ∈ ea_tbl := ea_in (et_3 (List.mem_of_getElem? (i := 59) (by decide +kernel))) rfl
theorem ew_647 : Cond.selects RX1 yX1_move yX1_move ∈ ea_tbl := ea_in (et_3 (List.mem_of_getElem? (i := 60) (by decide +kernel))) rfl
theorem ew_648 : Cond.code yX1_move cX1_move 5 none ∈ ea_tbl := ea_in (et_3 (List.mem_of_getElem? (i := 61) rfl)) rfl
theorem ew_649 : Cond.methodLink RX1 67 yX4_note ∈ ea_tbl := ea_in (et_3 (List.mem_of_getElem? (i := 62) (by decide +kernel))) rfl
theorem ew_650 : Cond.instanceMethod yX4_note ∈ ea_tbl := ea_in (et_3 (List.mem_of_getElem? (i := 63) (by decide +kernel))) rfl
theorem ew_651 : Cond.selects RX4 yX4_note yX4_note ∈ ea_tbl := ea_in (et_3 (List.mem_of_getElem? (i := 64) (by decide +kernel))) rfl
theorem ew_652 : Cond.code yX4_note cX4_note 4 none ∈ ea_tbl := ea_in (et_3 (List.mem_of_getElem? (i := 65) rfl)) rfl
theorem ew_653 : Cond.methodLink RX4 52 yJ7_copyOf_59c91 ∈ ea_tbl := ea_in (et_3 (List.mem_of_getElem? (i := 66) (by decide +kernel))) rfl
theorem ew_654 : Cond.static yJ7_copyOf_59c91 ∈ ea_tbl := ea_in (et_3 (List.mem_of_getElem? (i := 67) (by decide +kernel))) rfl
theorem ew_655 : Cond.code yJ7_copyOf_59c91 cJ7_copyOf_59c91 3 (some (.array .int)) ∈ ea_tbl := ea_in (et_3 (List.mem_of_getElem? (i := 68) rfl)) rfl
theorem ew_665 : Cond.methodLink RX1 103 yX10_isGoing ∈ ea_tbl := ea_in (et_3 (List.mem_of_getElem? (i := 78) (by decide +kernel))) rfl
theorem ew_666 : Cond.methodLink RX1 107 yX1_goes ∈ ea_tbl := ea_in (et_3 (List.mem_of_getElem? (i := 79) (by decide +kernel))) rfl
theorem ew_668 : Cond.instanceMethod yX1_goes ∈ ea_tbl := ea_in (et_3 (List.mem_of_getElem? (i := 81) (by decide +kernel))) rfl
theorem ew_669 : Cond.code yX1_goes cX1_goes 10 none ∈ ea_tbl := ea_in (et_3 (List.mem_of_getElem? (i := 82) rfl)) rfl
theorem ew_670 : Cond.methodLink RX1 121 yX10_trainIn ∈ ea_tbl := ea_in (et_3 (List.mem_of_getElem? (i := 83) (by decide +kernel))) rfl
theorem ew_671 : Cond.methodLink RX1 124 yX10_stopIn ∈ ea_tbl := ea_in (et_3 (List.mem_of_getElem? (i := 84) (by decide +kernel))) rfl
theorem ew_672 : Cond.methodLink RX1 127 yX10_dayIn ∈ ea_tbl := ea_in (et_3 (List.mem_of_getElem? (i := 85) (by decide +kernel))) rfl
theorem ew_673 : Cond.methodLink RX1 151 yX10_bestAtGoing ∈ ea_tbl := ea_in (et_3 (List.mem_of_getElem? (i := 86) (by decide +kernel))) rfl
theorem ew_674 : Cond.instanceMethod yX10_bestAtGoing ∈ ea_tbl := ea_in (et_3 (List.mem_of_getElem? (i := 87) (by decide +kernel))) rfl
theorem ew_675 : Cond.selects RX10 yX10_bestAtGoing yX10_bestAtGoing ∈ ea_tbl := ea_in (et_3 (List.mem_of_getElem? (i := 88) (by decide +kernel))) rfl
theorem ew_676 : Cond.code yX10_bestAtGoing cX10_bestAtGoing 4 (some .long) ∈ ea_tbl := ea_in (et_3 (List.mem_of_getElem? (i := 89) rfl)) rfl
theorem ew_677 : Cond.methodLink RX1 155 yX10_begins ∈ ea_tbl := ea_in (et_3 (List.mem_of_getElem? (i := 90) (by decide +kernel))) rfl
theorem ew_678 : Cond.static yX10_begins ∈ ea_tbl := ea_in (et_3 (List.mem_of_getElem? (i := 91) (by decide +kernel))) rfl
theorem ew_679 : Cond.code yX10_begins cX10_begins 3 (some .boolean) ∈ ea_tbl := ea_in (et_3 (List.mem_of_getElem? (i := 92) rfl)) rfl
theorem ew_680 : Cond.methodLink RX10 80 yX10_trainOf ∈ ea_tbl := ea_in (et_3 (List.mem_of_getElem? (i := 93) (by decide +kernel))) rfl
theorem ew_681 : Cond.static yX10_trainOf ∈ ea_tbl := ea_in (et_3 (List.mem_of_getElem? (i := 94) (by decide +kernel))) rfl
theorem ew_682 : Cond.code yX10_trainOf cX10_trainOf 2 (some .int) ∈ ea_tbl := ea_in (et_3 (List.mem_of_getElem? (i := 95) rfl)) rfl
theorem ew_683 : Cond.methodLink RX10 84 yX10_dayOf ∈ ea_tbl := ea_in (et_3 (List.mem_of_getElem? (i := 96) (by decide +kernel))) rfl
theorem ew_684 : Cond.static yX10_dayOf ∈ ea_tbl := ea_in (et_3 (List.mem_of_getElem? (i := 97) (by decide +kernel))) rfl
theorem ew_685 : Cond.code yX10_dayOf cX10_dayOf 2 (some .int) ∈ ea_tbl := ea_in (et_3 (List.mem_of_getElem? (i := 98) rfl)) rfl
theorem ew_686 : Cond.methodLink RX10 87 yX10_takenOf ∈ ea_tbl := ea_in (et_3 (List.mem_of_getElem? (i := 99) (by decide +kernel))) rfl
theorem ew_687 : Cond.static yX10_takenOf ∈ ea_tbl := ea_in (et_3 (List.mem_of_getElem? (i := 100) (by decide +kernel))) rfl
theorem ew_688 : Cond.code yX10_takenOf cX10_takenOf 2 (some .int) ∈ ea_tbl := ea_in (et_3 (List.mem_of_getElem? (i := 101) rfl)) rfl
theorem ew_689 : Cond.methodLink RX1 159 yX10_leftOf ∈ ea_tbl := ea_in (et_3 (List.mem_of_getElem? (i := 102) (by decide +kernel))) rfl
theorem ew_690 : Cond.static yX10_leftOf ∈ ea_tbl := ea_in (et_3 (List.mem_of_getElem? (i := 103) (by decide +kernel))) rfl
theorem ew_691 : Cond.code yX10_leftOf cX10_leftOf 2 (some .int) ∈ ea_tbl := ea_in (et_3 (List.mem_of_getElem? (i := 104) rfl)) rfl
theorem ew_692 : Cond.methodLink RX1 163 yX3_sitsIn ∈ ea_tbl := ea_in (et_3 (List.mem_of_getElem? (i := 105) (by decide +kernel))) rfl
theorem ew_693 : Cond.instanceMethod yX3_sitsIn ∈ ea_tbl := ea_in (et_3 (List.mem_of_getElem? (i := 106) (by decide +kernel))) rfl
theorem ew_694 : Cond.selects RX3 yX3_sitsIn yX3_sitsIn ∈ ea_tbl := ea_in (et_3 (List.mem_of_getElem? (i := 107) (by decide +kernel))) rfl
theorem ew_695 : Cond.code yX3_sitsIn cX3_sitsIn 3 (some .boolean) ∈ ea_tbl := ea_in (et_3 (List.mem_of_getElem? (i := 108) rfl)) rfl
theorem ew_696 : Cond.methodLink RX1 168 yX1_sort ∈ ea_tbl := ea_in (et_3 (List.mem_of_getElem? (i := 109) (by decide +kernel))) rfl
theorem ew_698 : Cond.instanceMethod yX1_sort ∈ ea_tbl := ea_in (et_3 (List.mem_of_getElem? (i := 111) (by decide +kernel))) rfl
theorem ew_699 : Cond.code yX1_sort cX1_sort 7 none ∈ ea_tbl := ea_in (et_3 (List.mem_of_getElem? (i := 112) rfl)) rfl
theorem ew_700 : Cond.methodLink RX1 175 yX3_begin ∈ ea_tbl := ea_in (et_3 (List.mem_of_getElem? (i := 113) (by decide +kernel))) rfl
theorem ew_701 : Cond.instanceMethod yX3_begin ∈ ea_tbl := ea_in (et_3 (List.mem_of_getElem? (i := 114) (by decide +kernel))) rfl
theorem ew_702 : Cond.selects RX3 yX3_begin yX3_begin ∈ ea_tbl := ea_in (et_3 (List.mem_of_getElem? (i := 115) (by decide +kernel))) rfl
theorem ew_703 : Cond.code yX3_begin cX3_begin 3 none ∈ ea_tbl := ea_in (et_3 (List.mem_of_getElem? (i := 116) rfl)) rfl
theorem ew_704 : Cond.methodLink RX1 73 yX1_isAboard ∈ ea_tbl := ea_in (et_3 (List.mem_of_getElem? (i := 117) (by decide +kernel))) rfl
theorem ew_705 : Cond.instanceMethod yX1_isAboard ∈ ea_tbl := ea_in (et_3 (List.mem_of_getElem? (i := 118) (by decide +kernel))) rfl
theorem ew_706 : Cond.selects RX1 yX1_isAboard yX1_isAboard ∈ ea_tbl := ea_in (et_3 (List.mem_of_getElem? (i := 119) (by decide +kernel))) rfl
theorem ew_707 : Cond.code yX1_isAboard cX1_isAboard 3 (some .boolean) ∈ ea_tbl := ea_in (et_3 (List.mem_of_getElem? (i := 120) rfl)) rfl
theorem ew_708 : Cond.methodLink RX1 178 yX3_sortsOne ∈ ea_tbl := ea_in (et_3 (List.mem_of_getElem? (i := 121) (by decide +kernel))) rfl
theorem ew_709 : Cond.instanceMethod yX3_sortsOne ∈ ea_tbl := ea_in (et_3 (List.mem_of_getElem? (i := 122) (by decide +kernel))) rfl
theorem ew_710 : Cond.selects RX3 yX3_sortsOne yX3_sortsOne ∈ ea_tbl := ea_in (et_3 (List.mem_of_getElem? (i := 123) (by decide +kernel))) rfl
theorem ew_711 : Cond.code yX3_sortsOne cX3_sortsOne 4 (some .boolean) ∈ ea_tbl := ea_in (et_3 (List.mem_of_getElem? (i := 124) rfl)) rfl
theorem ew_712 : Cond.methodLink RX1 111 yX1_comes ∈ ea_tbl := ea_in (et_3 (List.mem_of_getElem? (i := 125) (by decide +kernel))) rfl
theorem ew_714 : Cond.instanceMethod yX1_comes ∈ ea_tbl := ea_in (et_3 (List.mem_of_getElem? (i := 127) (by decide +kernel))) rfl
theorem ew_715 : Cond.code yX1_comes cX1_comes 10 none ∈ ea_tbl := ea_in (et_3 (List.mem_of_getElem? (i := 128) rfl)) rfl
theorem ew_716 : Cond.methodLink RX1 141 yX1_stateIn ∈ ea_tbl := ea_in (et_3 (List.mem_of_getElem? (i := 129) (by decide +kernel))) rfl
theorem ew_718 : Cond.instanceMethod yX1_stateIn ∈ ea_tbl := ea_in (et_3 (List.mem_of_getElem? (i := 131) (by decide +kernel))) rfl
theorem ew_719 : Cond.code yX1_stateIn cX1_stateIn 3 (some .int) ∈ ea_tbl := ea_in (et_3 (List.mem_of_getElem? (i := 132) rfl)) rfl
theorem ew_720 : Cond.arrayClass .long ∈ ea_tbl := ea_in (et_3 (List.mem_of_getElem? (i := 133) (by decide +kernel))) rfl
theorem ew_721 : Cond.methodLink RL 55 yX11_look ∈ ea_tbl := ea_in (et_3 (List.mem_of_getElem? (i := 134) (by decide +kernel))) rfl
theorem ew_722 : Cond.instanceMethod yX11_look ∈ ea_tbl := ea_in (et_3 (List.mem_of_getElem? (i := 135) (by decide +kernel))) rfl
theorem ew_723 : Cond.selects RX11 yX11_look yX11_look ∈ ea_tbl := ea_in (et_3 (List.mem_of_getElem? (i := 136) (by decide +kernel))) rfl
theorem ew_724 : Cond.code yX11_look cX11_look 2 (some .int) ∈ ea_tbl := ea_in (et_3 (List.mem_of_getElem? (i := 137) rfl)) rfl
theorem ew_725 : Cond.methodLink RX11 150 yX1_inState ∈ ea_tbl := ea_in (et_3 (List.mem_of_getElem? (i := 138) (by decide +kernel))) rfl
theorem ew_726 : Cond.instanceMethod yX1_inState ∈ ea_tbl := ea_in (et_3 (List.mem_of_getElem? (i := 139) (by decide +kernel))) rfl
theorem ew_727 : Cond.selects RX1 yX1_inState yX1_inState ∈ ea_tbl := ea_in (et_3 (List.mem_of_getElem? (i := 140) (by decide +kernel))) rfl
theorem ew_728 : Cond.code yX1_inState cX1_inState 4 (some .int) ∈ ea_tbl := ea_in (et_3 (List.mem_of_getElem? (i := 141) rfl)) rfl
theorem ew_729 : Cond.methodLink RL 59 yX11_feed ∈ ea_tbl := ea_in (et_3 (List.mem_of_getElem? (i := 142) (by decide +kernel))) rfl
theorem ew_730 : Cond.instanceMethod yX11_feed ∈ ea_tbl := ea_in (et_3 (List.mem_of_getElem? (i := 143) (by decide +kernel))) rfl
theorem ew_731 : Cond.selects RX11 yX11_feed yX11_feed ∈ ea_tbl := ea_in (et_3 (List.mem_of_getElem? (i := 144) (by decide +kernel))) rfl
theorem ew_732 : Cond.code yX11_feed cX11_feed 7 (some .int) ∈ ea_tbl := ea_in (et_3 (List.mem_of_getElem? (i := 145) rfl)) rfl
theorem ew_733 : Cond.methodLink RX11 166 yX5_take ∈ ea_tbl := ea_in (et_3 (List.mem_of_getElem? (i := 146) (by decide +kernel))) rfl
theorem ew_734 : Cond.instanceMethod yX5_take ∈ ea_tbl := ea_in (et_3 (List.mem_of_getElem? (i := 147) (by decide +kernel))) rfl
theorem ew_735 : Cond.selects RX5 yX5_take yX5_take ∈ ea_tbl := ea_in (et_3 (List.mem_of_getElem? (i := 148) (by decide +kernel))) rfl
theorem ew_736 : Cond.code yX5_take cX5_take 3 none ∈ ea_tbl := ea_in (et_3 (List.mem_of_getElem? (i := 149) rfl)) rfl
theorem ew_737 : Cond.methodLink RL 64 yX11_end ∈ ea_tbl := ea_in (et_3 (List.mem_of_getElem? (i := 150) (by decide +kernel))) rfl
theorem ew_738 : Cond.instanceMethod yX11_end ∈ ea_tbl := ea_in (et_3 (List.mem_of_getElem? (i := 151) (by decide +kernel))) rfl
theorem ew_739 : Cond.selects RX11 yX11_end yX11_end ∈ ea_tbl := ea_in (et_3 (List.mem_of_getElem? (i := 152) (by decide +kernel))) rfl
theorem ew_740 : Cond.code yX11_end cX11_end 2 (some .boolean) ∈ ea_tbl := ea_in (et_3 (List.mem_of_getElem? (i := 153) rfl)) rfl
theorem ew_741 : Cond.methodLink RL 69 yX11_act ∈ ea_tbl := ea_in (et_3 (List.mem_of_getElem? (i := 154) (by decide +kernel))) rfl
theorem ew_742 : Cond.instanceMethod yX11_act ∈ ea_tbl := ea_in (et_3 (List.mem_of_getElem? (i := 155) (by decide +kernel))) rfl
theorem ew_743 : Cond.selects RX11 yX11_act yX11_act ∈ ea_tbl := ea_in (et_3 (List.mem_of_getElem? (i := 156) (by decide +kernel))) rfl
theorem ew_744 : Cond.code yX11_act cX11_act 2 (some .int) ∈ ea_tbl := ea_in (et_3 (List.mem_of_getElem? (i := 157) rfl)) rfl
theorem ew_745 : Cond.methodLink RX11 170 yX8_mayBegin ∈ ea_tbl := ea_in (et_3 (List.mem_of_getElem? (i := 158) (by decide +kernel))) rfl
theorem ew_746 : Cond.instanceMethod yX8_mayBegin ∈ ea_tbl := ea_in (et_3 (List.mem_of_getElem? (i := 159) (by decide +kernel))) rfl
theorem ew_747 : Cond.selects RX8 yX8_mayBegin yX8_mayBegin ∈ ea_tbl := ea_in (et_3 (List.mem_of_getElem? (i := 160) (by decide +kernel))) rfl
theorem ew_748 : Cond.code yX8_mayBegin cX8_mayBegin 3 (some .boolean) ∈ ea_tbl := ea_in (et_3 (List.mem_of_getElem? (i := 161) rfl)) rfl
theorem ew_749 : Cond.methodLink RX11 173 yX5_drop ∈ ea_tbl := ea_in (et_3 (List.mem_of_getElem? (i := 162) (by decide +kernel))) rfl
theorem ew_750 : Cond.instanceMethod yX5_drop ∈ ea_tbl := ea_in (et_3 (List.mem_of_getElem? (i := 163) (by decide +kernel))) rfl
theorem ew_751 : Cond.selects RX5 yX5_drop yX5_drop ∈ ea_tbl := ea_in (et_3 (List.mem_of_getElem? (i := 164) (by decide +kernel))) rfl
theorem ew_752 : Cond.code yX5_drop cX5_drop 1 none ∈ ea_tbl := ea_in (et_3 (List.mem_of_getElem? (i := 165) rfl)) rfl
theorem ew_753 : Cond.methodLink RX11 176 yX5_read ∈ ea_tbl := ea_in (et_3 (List.mem_of_getElem? (i := 166) (by decide +kernel))) rfl
theorem ew_754 : Cond.instanceMethod yX5_read ∈ ea_tbl := ea_in (et_3 (List.mem_of_getElem? (i := 167) (by decide +kernel))) rfl
theorem ew_755 : Cond.selects RX5 yX5_read yX5_read ∈ ea_tbl := ea_in (et_3 (List.mem_of_getElem? (i := 168) (by decide +kernel))) rfl
theorem ew_756 : Cond.code yX5_read cX5_read 4 (some (.object RX0)) ∈ ea_tbl := ea_in (et_3 (List.mem_of_getElem? (i := 169) rfl)) rfl
theorem ew_757 : Cond.methodLink RX5 39 yX5_scan ∈ ea_tbl := ea_in (et_3 (List.mem_of_getElem? (i := 170) (by decide +kernel))) rfl
theorem ew_759 : Cond.instanceMethod yX5_scan ∈ ea_tbl := ea_in (et_3 (List.mem_of_getElem? (i := 172) (by decide +kernel))) rfl
theorem ew_760 : Cond.code yX5_scan cX5_scan 3 none ∈ ea_tbl := ea_in (et_3 (List.mem_of_getElem? (i := 173) rfl)) rfl
theorem ew_761 : Cond.methodLink RX5 141 yX5_isLetter ∈ ea_tbl := ea_in (et_3 (List.mem_of_getElem? (i := 174) (by decide +kernel))) rfl
theorem ew_762 : Cond.static yX5_isLetter ∈ ea_tbl := ea_in (et_3 (List.mem_of_getElem? (i := 175) (by decide +kernel))) rfl
theorem ew_763 : Cond.code yX5_isLetter cX5_isLetter 1 (some .boolean) ∈ ea_tbl := ea_in (et_3 (List.mem_of_getElem? (i := 176) rfl)) rfl
theorem ew_764 : Cond.methodLink RX5 144 yX5_scanWord ∈ ea_tbl := ea_in (et_3 (List.mem_of_getElem? (i := 177) (by decide +kernel))) rfl
theorem ew_766 : Cond.instanceMethod yX5_scanWord ∈ ea_tbl := ea_in (et_3 (List.mem_of_getElem? (i := 179) (by decide +kernel))) rfl
theorem ew_767 : Cond.code yX5_scanWord cX5_scanWord 7 (some .int) ∈ ea_tbl := ea_in (et_3 (List.mem_of_getElem? (i := 180) rfl)) rfl
theorem ew_768 : Cond.constantLong RX5 161 (-1) ∈ ea_tbl := ea_in (et_3 (List.mem_of_getElem? (i := 181) (by decide +kernel))) rfl
theorem ew_771 : Cond.methodLink RX5 157 yX5_addToken ∈ ea_tbl := ea_in (et_3 (List.mem_of_getElem? (i := 184) (by decide +kernel))) rfl
theorem ew_773 : Cond.instanceMethod yX5_addToken ∈ ea_tbl := ea_in (et_3 (List.mem_of_getElem? (i := 186) (by decide +kernel))) rfl
theorem ew_774 : Cond.code yX5_addToken cX5_addToken 4 none ∈ ea_tbl := ea_in (et_3 (List.mem_of_getElem? (i := 187) rfl)) rfl
theorem ew_775 : Cond.methodLink RX5 148 yX5_isDigit ∈ ea_tbl := ea_in (et_3 (List.mem_of_getElem? (i := 188) (by decide +kernel))) rfl
theorem ew_776 : Cond.static yX5_isDigit ∈ ea_tbl := ea_in (et_3 (List.mem_of_getElem? (i := 189) (by decide +kernel))) rfl
theorem ew_777 : Cond.code yX5_isDigit cX5_isDigit 1 (some .boolean) ∈ ea_tbl := ea_in (et_3 (List.mem_of_getElem? (i := 190) rfl)) rfl
theorem ew_778 : Cond.methodLink RX5 151 yX5_scanNumber ∈ ea_tbl := ea_in (et_3 (List.mem_of_getElem? (i := 191) (by decide +kernel))) rfl
theorem ew_780 : Cond.instanceMethod yX5_scanNumber ∈ ea_tbl := ea_in (et_3 (List.mem_of_getElem? (i := 193) (by decide +kernel))) rfl
theorem ew_781 : Cond.code yX5_scanNumber cX5_scanNumber 4 (some .int) ∈ ea_tbl := ea_in (et_3 (List.mem_of_getElem? (i := 194) rfl)) rfl
theorem ew_782 : Cond.methodLink RX5 154 yX5_isSign ∈ ea_tbl := ea_in (et_3 (List.mem_of_getElem? (i := 195) (by decide +kernel))) rfl
theorem ew_783 : Cond.static yX5_isSign ∈ ea_tbl := ea_in (et_3 (List.mem_of_getElem? (i := 196) (by decide +kernel))) rfl
theorem ew_784 : Cond.code yX5_isSign cX5_isSign 1 (some .boolean) ∈ ea_tbl := ea_in (et_3 (List.mem_of_getElem? (i := 197) rfl)) rfl
theorem ew_785 : Cond.methodLink RX5 42 yX5_drop ∈ ea_tbl := ea_in (et_3 (List.mem_of_getElem? (i := 198) (by decide +kernel))) rfl
theorem ew_786 : Cond.classLink RX5 28 RX0 ∈ ea_tbl := ea_in (et_3 (List.mem_of_getElem? (i := 199) (by decide +kernel))) rfl
theorem ew_787 : Cond.instantiable RX0 12 ∈ ea_tbl := ea_in (et_3 (List.mem_of_getElem? (i := 200) (by decide +kernel))) rfl
theorem ew_788 : Cond.methodLink RX5 54 yX0_init ∈ ea_tbl := ea_in (et_3 (List.mem_of_getElem? (i := 201) (by decide +kernel))) rfl
theorem ew_789 : Cond.instanceMethod yX0_init ∈ ea_tbl := ea_in (et_3 (List.mem_of_getElem? (i := 202) (by decide +kernel))) rfl
theorem ew_790 : Cond.code yX0_init cX0_init 2 none ∈ ea_tbl := ea_in (et_3 (List.mem_of_getElem? (i := 203) rfl)) rfl
theorem ew_791 : Cond.methodLink RX0 1 Lib.objectInit ∈ ea_tbl := ea_in (et_3 (List.mem_of_getElem? (i := 204) (by decide +kernel))) rfl
theorem ew_792 : Cond.fieldLink RX0 23 RX0 "day" "I" ∈ ea_tbl := ea_in (et_3 (List.mem_of_getElem? (i := 205) (by decide +kernel))) rfl
theorem ew_793 : Cond.fieldLink RX8 35 RX0 "day" "I" ∈ ea_tbl := ea_in (et_3 (List.mem_of_getElem? (i := 206) (by decide +kernel))) rfl
theorem ew_794 : Cond.fieldLink RX5 61 RX0 "lines" "I" ∈ ea_tbl := ea_in (et_3 (List.mem_of_getElem? (i := 207) (by decide +kernel))) rfl
theorem ew_795 : Cond.fieldLink RX11 195 RX0 "lines" "I" ∈ ea_tbl := ea_in (et_3 (List.mem_of_getElem? (i := 208) (by decide +kernel))) rfl
theorem ew_796 : Cond.fieldLink RX5 100 RX0 "lateMore" "I" ∈ ea_tbl := ea_in (et_3 (List.mem_of_getElem? (i := 209) (by decide +kernel))) rfl
theorem ew_797 : Cond.fieldLink RX8 108 RX0 "lateMore" "I" ∈ ea_tbl := ea_in (et_3 (List.mem_of_getElem? (i := 210) (by decide +kernel))) rfl
theorem ew_798 : Cond.fieldLink RX11 200 RX0 "lateMore" "I" ∈ ea_tbl := ea_in (et_3 (List.mem_of_getElem? (i := 211) (by decide +kernel))) rfl
theorem ew_799 : Cond.fieldLink RX0 7 RX0 "lateAfter" "I" ∈ ea_tbl := ea_in (et_3 (List.mem_of_getElem? (i := 212) (by decide +kernel))) rfl
theorem ew_800 : Cond.fieldLink RX5 103 RX0 "lateAfter" "I" ∈ ea_tbl := ea_in (et_3 (List.mem_of_getElem? (i := 213) (by decide +kernel))) rfl
theorem ew_801 : Cond.fieldLink RX8 105 RX0 "lateAfter" "I" ∈ ea_tbl := ea_in (et_3 (List.mem_of_getElem? (i := 214) (by decide +kernel))) rfl
theorem ew_802 : Cond.fieldLink RX11 203 RX0 "lateAfter" "I" ∈ ea_tbl := ea_in (et_3 (List.mem_of_getElem? (i := 215) (by decide +kernel))) rfl
theorem ew_803 : Cond.fieldLink RX5 88 RX0 "frank" "I" ∈ ea_tbl := ea_in (et_3 (List.mem_of_getElem? (i := 216) (by decide +kernel))) rfl
theorem ew_804 : Cond.fieldLink RX8 123 RX0 "frank" "I" ∈ ea_tbl := ea_in (et_3 (List.mem_of_getElem? (i := 217) (by decide +kernel))) rfl
theorem ew_805 : Cond.fieldLink RX11 206 RX0 "frank" "I" ∈ ea_tbl := ea_in (et_3 (List.mem_of_getElem? (i := 218) (by decide +kernel))) rfl
theorem ew_806 : Cond.fieldLink RX5 91 RX0 "ship" "I" ∈ ea_tbl := ea_in (et_3 (List.mem_of_getElem? (i := 219) (by decide +kernel))) rfl
theorem ew_807 : Cond.fieldLink RX8 114 RX0 "ship" "I" ∈ ea_tbl := ea_in (et_3 (List.mem_of_getElem? (i := 220) (by decide +kernel))) rfl
theorem ew_808 : Cond.fieldLink RX11 209 RX0 "ship" "I" ∈ ea_tbl := ea_in (et_3 (List.mem_of_getElem? (i := 221) (by decide +kernel))) rfl
theorem ew_809 : Cond.fieldLink RX5 94 RX0 "sign" "I" ∈ ea_tbl := ea_in (et_3 (List.mem_of_getElem? (i := 222) (by decide +kernel))) rfl
theorem ew_810 : Cond.fieldLink RX8 117 RX0 "sign" "I" ∈ ea_tbl := ea_in (et_3 (List.mem_of_getElem? (i := 223) (by decide +kernel))) rfl
theorem ew_811 : Cond.fieldLink RX11 212 RX0 "sign" "I" ∈ ea_tbl := ea_in (et_3 (List.mem_of_getElem? (i := 224) (by decide +kernel))) rfl
theorem ew_812 : Cond.fieldLink RX0 13 RX0 "dead" "I" ∈ ea_tbl := ea_in (et_3 (List.mem_of_getElem? (i := 225) (by decide +kernel))) rfl
theorem ew_813 : Cond.fieldLink RX5 97 RX0 "dead" "I" ∈ ea_tbl := ea_in (et_3 (List.mem_of_getElem? (i := 226) (by decide +kernel))) rfl
theorem ew_814 : Cond.fieldLink RX8 55 RX0 "dead" "I" ∈ ea_tbl := ea_in (et_3 (List.mem_of_getElem? (i := 227) (by decide +kernel))) rfl
theorem ew_815 : Cond.fieldLink RX11 215 RX0 "dead" "I" ∈ ea_tbl := ea_in (et_3 (List.mem_of_getElem? (i := 228) (by decide +kernel))) rfl
theorem ew_816 : Cond.fieldLink RX5 106 RX0 "chargeLines" "I" ∈ ea_tbl := ea_in (et_3 (List.mem_of_getElem? (i := 229) (by decide +kernel))) rfl
theorem ew_817 : Cond.fieldLink RX8 130 RX0 "chargeLines" "I" ∈ ea_tbl := ea_in (et_3 (List.mem_of_getElem? (i := 230) (by decide +kernel))) rfl
theorem ew_818 : Cond.fieldLink RX0 16 RX0 "chargeAt" "[I" ∈ ea_tbl := ea_in (et_3 (List.mem_of_getElem? (i := 231) (by decide +kernel))) rfl
theorem ew_819 : Cond.fieldLink RX5 109 RX0 "chargeAt" "[I" ∈ ea_tbl := ea_in (et_3 (List.mem_of_getElem? (i := 232) (by decide +kernel))) rfl
theorem ew_820 : Cond.fieldLink RX8 85 RX0 "chargeAt" "[I" ∈ ea_tbl := ea_in (et_3 (List.mem_of_getElem? (i := 233) (by decide +kernel))) rfl
theorem ew_821 : Cond.fieldLink RX0 20 RX0 "whenAt" "[I" ∈ ea_tbl := ea_in (et_3 (List.mem_of_getElem? (i := 234) (by decide +kernel))) rfl
theorem ew_822 : Cond.fieldLink RX5 112 RX0 "whenAt" "[I" ∈ ea_tbl := ea_in (et_3 (List.mem_of_getElem? (i := 235) (by decide +kernel))) rfl
theorem ew_823 : Cond.fieldLink RX8 133 RX0 "whenAt" "[I" ∈ ea_tbl := ea_in (et_3 (List.mem_of_getElem? (i := 236) (by decide +kernel))) rfl
theorem ew_824 : Cond.fieldLink RX5 80 RX0 "code" "[I" ∈ ea_tbl := ea_in (et_3 (List.mem_of_getElem? (i := 237) (by decide +kernel))) rfl
theorem ew_825 : Cond.fieldLink RX8 82 RX0 "code" "[I" ∈ ea_tbl := ea_in (et_3 (List.mem_of_getElem? (i := 238) (by decide +kernel))) rfl
theorem ew_851 : Cond.methodLink RX5 57 yX5_refuse ∈ ea_tbl := ea_in (et_4 (List.mem_of_getElem? (i := 24) (by decide +kernel))) rfl
theorem ew_853 : Cond.instanceMethod yX5_refuse ∈ ea_tbl := ea_in (et_4 (List.mem_of_getElem? (i := 26) (by decide +kernel))) rfl
theorem ew_854 : Cond.code yX5_refuse cX5_refuse 2 (some .boolean) ∈ ea_tbl := ea_in (et_4 (List.mem_of_getElem? (i := 27) rfl)) rfl
theorem ew_855 : Cond.methodLink RX5 64 yX5_readCharge ∈ ea_tbl := ea_in (et_4 (List.mem_of_getElem? (i := 28) (by decide +kernel))) rfl
theorem ew_857 : Cond.instanceMethod yX5_readCharge ∈ ea_tbl := ea_in (et_4 (List.mem_of_getElem? (i := 30) (by decide +kernel))) rfl
theorem ew_858 : Cond.code yX5_readCharge cX5_readCharge 4 (some .boolean) ∈ ea_tbl := ea_in (et_4 (List.mem_of_getElem? (i := 31) rfl)) rfl
theorem ew_859 : Cond.methodLink RX5 81 yX5_step ∈ ea_tbl := ea_in (et_4 (List.mem_of_getElem? (i := 32) (by decide +kernel))) rfl
theorem ew_861 : Cond.instanceMethod yX5_step ∈ ea_tbl := ea_in (et_4 (List.mem_of_getElem? (i := 34) (by decide +kernel))) rfl
theorem ew_862 : Cond.code yX5_step cX5_step 1 none ∈ ea_tbl := ea_in (et_4 (List.mem_of_getElem? (i := 35) rfl)) rfl
theorem ew_863 : Cond.methodLink RX5 115 yX5_readSum ∈ ea_tbl := ea_in (et_4 (List.mem_of_getElem? (i := 36) (by decide +kernel))) rfl
theorem ew_865 : Cond.instanceMethod yX5_readSum ∈ ea_tbl := ea_in (et_4 (List.mem_of_getElem? (i := 38) (by decide +kernel))) rfl
theorem ew_866 : Cond.code yX5_readSum cX5_readSum 4 (some .boolean) ∈ ea_tbl := ea_in (et_4 (List.mem_of_getElem? (i := 39) rfl)) rfl
theorem ew_867 : Cond.methodLink RX5 132 yX5_readProduct ∈ ea_tbl := ea_in (et_4 (List.mem_of_getElem? (i := 40) (by decide +kernel))) rfl
theorem ew_869 : Cond.instanceMethod yX5_readProduct ∈ ea_tbl := ea_in (et_4 (List.mem_of_getElem? (i := 42) (by decide +kernel))) rfl
theorem ew_870 : Cond.code yX5_readProduct cX5_readProduct 4 (some .boolean) ∈ ea_tbl := ea_in (et_4 (List.mem_of_getElem? (i := 43) rfl)) rfl
theorem ew_871 : Cond.methodLink RX5 135 yX5_readUnit ∈ ea_tbl := ea_in (et_4 (List.mem_of_getElem? (i := 44) (by decide +kernel))) rfl
theorem ew_873 : Cond.instanceMethod yX5_readUnit ∈ ea_tbl := ea_in (et_4 (List.mem_of_getElem? (i := 46) (by decide +kernel))) rfl
theorem ew_874 : Cond.code yX5_readUnit cX5_readUnit 2 (some .boolean) ∈ ea_tbl := ea_in (et_4 (List.mem_of_getElem? (i := 47) rfl)) rfl
theorem ew_875 : Cond.methodLink RX5 118 yX5_put ∈ ea_tbl := ea_in (et_4 (List.mem_of_getElem? (i := 48) (by decide +kernel))) rfl
theorem ew_877 : Cond.instanceMethod yX5_put ∈ ea_tbl := ea_in (et_4 (List.mem_of_getElem? (i := 50) (by decide +kernel))) rfl
theorem ew_878 : Cond.code yX5_put cX5_put 2 none ∈ ea_tbl := ea_in (et_4 (List.mem_of_getElem? (i := 51) rfl)) rfl
theorem ew_879 : Cond.methodLink RX5 121 yX5_readWhen ∈ ea_tbl := ea_in (et_4 (List.mem_of_getElem? (i := 52) (by decide +kernel))) rfl
theorem ew_881 : Cond.instanceMethod yX5_readWhen ∈ ea_tbl := ea_in (et_4 (List.mem_of_getElem? (i := 54) (by decide +kernel))) rfl
theorem ew_882 : Cond.code yX5_readWhen cX5_readWhen 6 (some .boolean) ∈ ea_tbl := ea_in (et_4 (List.mem_of_getElem? (i := 55) rfl)) rfl
theorem ew_883 : Cond.methodLink RX5 125 yX5_readNots ∈ ea_tbl := ea_in (et_4 (List.mem_of_getElem? (i := 56) (by decide +kernel))) rfl
theorem ew_885 : Cond.instanceMethod yX5_readNots ∈ ea_tbl := ea_in (et_4 (List.mem_of_getElem? (i := 58) (by decide +kernel))) rfl
theorem ew_886 : Cond.code yX5_readNots cX5_readNots 2 (some .int) ∈ ea_tbl := ea_in (et_4 (List.mem_of_getElem? (i := 59) rfl)) rfl
theorem ew_887 : Cond.methodLink RX5 129 yX5_comparison ∈ ea_tbl := ea_in (et_4 (List.mem_of_getElem? (i := 60) (by decide +kernel))) rfl
theorem ew_889 : Cond.instanceMethod yX5_comparison ∈ ea_tbl := ea_in (et_4 (List.mem_of_getElem? (i := 62) (by decide +kernel))) rfl
theorem ew_890 : Cond.code yX5_comparison cX5_comparison 1 (some .int) ∈ ea_tbl := ea_in (et_4 (List.mem_of_getElem? (i := 63) rfl)) rfl
theorem ew_891 : Cond.methodLink RX5 68 yX5_readRule ∈ ea_tbl := ea_in (et_4 (List.mem_of_getElem? (i := 64) (by decide +kernel))) rfl
theorem ew_893 : Cond.instanceMethod yX5_readRule ∈ ea_tbl := ea_in (et_4 (List.mem_of_getElem? (i := 66) (by decide +kernel))) rfl
theorem ew_894 : Cond.code yX5_readRule cX5_readRule 4 (some .boolean) ∈ ea_tbl := ea_in (et_4 (List.mem_of_getElem? (i := 67) rfl)) rfl
theorem ew_895 : Cond.methodLink RX5 84 yX5_readAfter ∈ ea_tbl := ea_in (et_4 (List.mem_of_getElem? (i := 68) (by decide +kernel))) rfl
theorem ew_897 : Cond.instanceMethod yX5_readAfter ∈ ea_tbl := ea_in (et_4 (List.mem_of_getElem? (i := 70) (by decide +kernel))) rfl
theorem ew_898 : Cond.code yX5_readAfter cX5_readAfter 3 (some .boolean) ∈ ea_tbl := ea_in (et_4 (List.mem_of_getElem? (i := 71) rfl)) rfl
theorem ew_899 : Cond.methodLink RX5 71 yX5_skip ∈ ea_tbl := ea_in (et_4 (List.mem_of_getElem? (i := 72) (by decide +kernel))) rfl
theorem ew_901 : Cond.instanceMethod yX5_skip ∈ ea_tbl := ea_in (et_4 (List.mem_of_getElem? (i := 74) (by decide +kernel))) rfl
theorem ew_902 : Cond.code yX5_skip cX5_skip 2 (some .boolean) ∈ ea_tbl := ea_in (et_4 (List.mem_of_getElem? (i := 75) rfl)) rfl
theorem ew_903 : Cond.methodLink RX5 74 yJ7_copyOf_59c91 ∈ ea_tbl := ea_in (et_4 (List.mem_of_getElem? (i := 76) (by decide +kernel))) rfl
theorem ew_904 : Cond.methodLink RX11 180 yX8_add ∈ ea_tbl := ea_in (et_4 (List.mem_of_getElem? (i := 77) (by decide +kernel))) rfl
theorem ew_905 : Cond.instanceMethod yX8_add ∈ ea_tbl := ea_in (et_4 (List.mem_of_getElem? (i := 78) (by decide +kernel))) rfl
theorem ew_906 : Cond.selects RX8 yX8_add yX8_add ∈ ea_tbl := ea_in (et_4 (List.mem_of_getElem? (i := 79) (by decide +kernel))) rfl
theorem ew_907 : Cond.code yX8_add cX8_add 2 (some .int) ∈ ea_tbl := ea_in (et_4 (List.mem_of_getElem? (i := 80) rfl)) rfl
theorem ew_908 : Cond.methodLink RL 73 yX11_fault ∈ ea_tbl := ea_in (et_4 (List.mem_of_getElem? (i := 81) (by decide +kernel))) rfl
theorem ew_909 : Cond.instanceMethod yX11_fault ∈ ea_tbl := ea_in (et_4 (List.mem_of_getElem? (i := 82) (by decide +kernel))) rfl
theorem ew_910 : Cond.selects RX11 yX11_fault yX11_fault ∈ ea_tbl := ea_in (et_4 (List.mem_of_getElem? (i := 83) (by decide +kernel))) rfl
theorem ew_911 : Cond.code yX11_fault cX11_fault 2 (some .int) ∈ ea_tbl := ea_in (et_4 (List.mem_of_getElem? (i := 84) rfl)) rfl
theorem ew_912 : Cond.methodLink RL 77 yX11_inForce ∈ ea_tbl := ea_in (et_4 (List.mem_of_getElem? (i := 85) (by decide +kernel))) rfl
theorem ew_913 : Cond.instanceMethod yX11_inForce ∈ ea_tbl := ea_in (et_4 (List.mem_of_getElem? (i := 86) (by decide +kernel))) rfl
theorem ew_914 : Cond.selects RX11 yX11_inForce yX11_inForce ∈ ea_tbl := ea_in (et_4 (List.mem_of_getElem? (i := 87) (by decide +kernel))) rfl
theorem ew_915 : Cond.code yX11_inForce cX11_inForce 5 (some .int) ∈ ea_tbl := ea_in (et_4 (List.mem_of_getElem? (i := 88) rfl)) rfl
theorem ew_916 : Cond.methodLink RX11 189 yX8_numberOn ∈ ea_tbl := ea_in (et_4 (List.mem_of_getElem? (i := 89) (by decide +kernel))) rfl
theorem ew_917 : Cond.instanceMethod yX8_numberOn ∈ ea_tbl := ea_in (et_4 (List.mem_of_getElem? (i := 90) (by decide +kernel))) rfl
theorem ew_918 : Cond.selects RX8 yX8_numberOn yX8_numberOn ∈ ea_tbl := ea_in (et_4 (List.mem_of_getElem? (i := 91) (by decide +kernel))) rfl
theorem ew_919 : Cond.code yX8_numberOn cX8_numberOn 4 (some .int) ∈ ea_tbl := ea_in (et_4 (List.mem_of_getElem? (i := 92) rfl)) rfl
theorem ew_920 : Cond.methodLink RX11 192 yX8_actOf ∈ ea_tbl := ea_in (et_4 (List.mem_of_getElem? (i := 93) (by decide +kernel))) rfl
theorem ew_921 : Cond.instanceMethod yX8_actOf ∈ ea_tbl := ea_in (et_4 (List.mem_of_getElem? (i := 94) (by decide +kernel))) rfl
theorem ew_922 : Cond.selects RX8 yX8_actOf yX8_actOf ∈ ea_tbl := ea_in (et_4 (List.mem_of_getElem? (i := 95) (by decide +kernel))) rfl
theorem ew_923 : Cond.code yX8_actOf cX8_actOf 2 (some (.object RX0)) ∈ ea_tbl := ea_in (et_4 (List.mem_of_getElem? (i := 96) rfl)) rfl
theorem ew_924 : Cond.methodLink RL 81 yX11_post ∈ ea_tbl := ea_in (et_4 (List.mem_of_getElem? (i := 97) (by decide +kernel))) rfl
theorem ew_925 : Cond.instanceMethod yX11_post ∈ ea_tbl := ea_in (et_4 (List.mem_of_getElem? (i := 98) (by decide +kernel))) rfl
theorem ew_926 : Cond.selects RX11 yX11_post yX11_post ∈ ea_tbl := ea_in (et_4 (List.mem_of_getElem? (i := 99) (by decide +kernel))) rfl
theorem ew_927 : Cond.code yX11_post cX11_post 9 (some .int) ∈ ea_tbl := ea_in (et_4 (List.mem_of_getElem? (i := 100) rfl)) rfl
theorem ew_928 : Cond.instantiable RX4 20 ∈ ea_tbl := ea_in (et_4 (List.mem_of_getElem? (i := 101) (by decide +kernel))) rfl
theorem ew_929 : Cond.methodLink RX11 218 yX4_init ∈ ea_tbl := ea_in (et_4 (List.mem_of_getElem? (i := 102) (by decide +kernel))) rfl
theorem ew_930 : Cond.instanceMethod yX4_init ∈ ea_tbl := ea_in (et_4 (List.mem_of_getElem? (i := 103) (by decide +kernel))) rfl
theorem ew_931 : Cond.code yX4_init cX4_init 7 none ∈ ea_tbl := ea_in (et_4 (List.mem_of_getElem? (i := 104) rfl)) rfl
theorem ew_932 : Cond.methodLink RX4 3 Lib.objectInit ∈ ea_tbl := ea_in (et_4 (List.mem_of_getElem? (i := 105) (by decide +kernel))) rfl
theorem ew_933 : Cond.fieldLink RX4 25 RX4 "kind" "I" ∈ ea_tbl := ea_in (et_4 (List.mem_of_getElem? (i := 106) (by decide +kernel))) rfl
theorem ew_934 : Cond.fieldLink RX8 111 RX4 "kind" "I" ∈ ea_tbl := ea_in (et_4 (List.mem_of_getElem? (i := 107) (by decide +kernel))) rfl
theorem ew_935 : Cond.fieldLink RX11 258 RX4 "kind" "I" ∈ ea_tbl := ea_in (et_4 (List.mem_of_getElem? (i := 108) (by decide +kernel))) rfl
theorem ew_936 : Cond.fieldLink RX4 28 RX4 "from" "I" ∈ ea_tbl := ea_in (et_4 (List.mem_of_getElem? (i := 109) (by decide +kernel))) rfl
theorem ew_937 : Cond.fieldLink RX11 261 RX4 "from" "I" ∈ ea_tbl := ea_in (et_4 (List.mem_of_getElem? (i := 110) (by decide +kernel))) rfl
theorem ew_938 : Cond.fieldLink RX4 31 RX4 "to" "I" ∈ ea_tbl := ea_in (et_4 (List.mem_of_getElem? (i := 111) (by decide +kernel))) rfl
theorem ew_939 : Cond.fieldLink RX1 145 RX4 "to" "I" ∈ ea_tbl := ea_in (et_4 (List.mem_of_getElem? (i := 112) (by decide +kernel))) rfl
theorem ew_940 : Cond.fieldLink RX11 264 RX4 "to" "I" ∈ ea_tbl := ea_in (et_4 (List.mem_of_getElem? (i := 113) (by decide +kernel))) rfl
theorem ew_941 : Cond.fieldLink RX4 34 RX4 "sheets" "I" ∈ ea_tbl := ea_in (et_4 (List.mem_of_getElem? (i := 114) (by decide +kernel))) rfl
theorem ew_942 : Cond.fieldLink RX8 139 RX4 "sheets" "I" ∈ ea_tbl := ea_in (et_4 (List.mem_of_getElem? (i := 115) (by decide +kernel))) rfl
theorem ew_943 : Cond.fieldLink RX11 267 RX4 "sheets" "I" ∈ ea_tbl := ea_in (et_4 (List.mem_of_getElem? (i := 116) (by decide +kernel))) rfl
theorem ew_944 : Cond.fieldLink RX4 37 RX4 "weight" "I" ∈ ea_tbl := ea_in (et_4 (List.mem_of_getElem? (i := 117) (by decide +kernel))) rfl
theorem ew_945 : Cond.fieldLink RX8 142 RX4 "weight" "I" ∈ ea_tbl := ea_in (et_4 (List.mem_of_getElem? (i := 118) (by decide +kernel))) rfl
theorem ew_946 : Cond.fieldLink RX11 270 RX4 "weight" "I" ∈ ea_tbl := ea_in (et_4 (List.mem_of_getElem? (i := 119) (by decide +kernel))) rfl
theorem ew_947 : Cond.fieldLink RX4 40 RX4 "who" "I" ∈ ea_tbl := ea_in (et_4 (List.mem_of_getElem? (i := 120) (by decide +kernel))) rfl
theorem ew_948 : Cond.fieldLink RX11 273 RX4 "who" "I" ∈ ea_tbl := ea_in (et_4 (List.mem_of_getElem? (i := 121) (by decide +kernel))) rfl
theorem ew_949 : Cond.fieldLink RX4 43 RX4 "minute" "I" ∈ ea_tbl := ea_in (et_4 (List.mem_of_getElem? (i := 122) (by decide +kernel))) rfl
theorem ew_950 : Cond.fieldLink RX8 102 RX4 "minute" "I" ∈ ea_tbl := ea_in (et_4 (List.mem_of_getElem? (i := 123) (by decide +kernel))) rfl
theorem ew_951 : Cond.fieldLink RX11 221 RX4 "minute" "I" ∈ ea_tbl := ea_in (et_4 (List.mem_of_getElem? (i := 124) (by decide +kernel))) rfl
theorem ew_952 : Cond.fieldLink RX8 136 RX4 "miles" "I" ∈ ea_tbl := ea_in (et_4 (List.mem_of_getElem? (i := 125) (by decide +kernel))) rfl
theorem ew_953 : Cond.fieldLink RX11 229 RX4 "miles" "I" ∈ ea_tbl := ea_in (et_4 (List.mem_of_getElem? (i := 126) (by decide +kernel))) rfl
theorem ew_954 : Cond.fieldLink RX8 145 RX4 "cross" "Z" ∈ ea_tbl := ea_in (et_4 (List.mem_of_getElem? (i := 127) (by decide +kernel))) rfl
theorem ew_955 : Cond.fieldLink RX11 235 RX4 "cross" "Z" ∈ ea_tbl := ea_in (et_4 (List.mem_of_getElem? (i := 128) (by decide +kernel))) rfl
theorem ew_956 : Cond.fieldLink RX8 120 RX4 "franksAhead" "I" ∈ ea_tbl := ea_in (et_4 (List.mem_of_getElem? (i := 129) (by decide +kernel))) rfl
theorem ew_957 : Cond.fieldLink RX11 242 RX4 "franksAhead" "I" ∈ ea_tbl := ea_in (et_4 (List.mem_of_getElem? (i := 130) (by decide +kernel))) rfl
theorem ew_958 : Cond.fieldLink RX4 46 RX4 "charge" "I" ∈ ea_tbl := ea_in (et_4 (List.mem_of_getElem? (i := 131) (by decide +kernel))) rfl
theorem ew_959 : Cond.fieldLink RX8 73 RX4 "charge" "I" ∈ ea_tbl := ea_in (et_4 (List.mem_of_getElem? (i := 132) (by decide +kernel))) rfl
theorem ew_960 : Cond.fieldLink RX11 288 RX4 "charge" "I" ∈ ea_tbl := ea_in (et_4 (List.mem_of_getElem? (i := 133) (by decide +kernel))) rfl
theorem ew_961 : Cond.fieldLink RX4 9 RX4 "act" "I" ∈ ea_tbl := ea_in (et_4 (List.mem_of_getElem? (i := 134) (by decide +kernel))) rfl
theorem ew_962 : Cond.fieldLink RX8 48 RX4 "act" "I" ∈ ea_tbl := ea_in (et_4 (List.mem_of_getElem? (i := 135) (by decide +kernel))) rfl
theorem ew_963 : Cond.fieldLink RX11 291 RX4 "act" "I" ∈ ea_tbl := ea_in (et_4 (List.mem_of_getElem? (i := 136) (by decide +kernel))) rfl
theorem ew_964 : Cond.fieldLink RX4 15 RX4 "line" "I" ∈ ea_tbl := ea_in (et_4 (List.mem_of_getElem? (i := 137) (by decide +kernel))) rfl
theorem ew_965 : Cond.fieldLink RX8 79 RX4 "line" "I" ∈ ea_tbl := ea_in (et_4 (List.mem_of_getElem? (i := 138) (by decide +kernel))) rfl
theorem ew_966 : Cond.fieldLink RX11 294 RX4 "line" "I" ∈ ea_tbl := ea_in (et_4 (List.mem_of_getElem? (i := 139) (by decide +kernel))) rfl
theorem ew_967 : Cond.fieldLink RX8 65 RX4 "free" "Z" ∈ ea_tbl := ea_in (et_4 (List.mem_of_getElem? (i := 140) (by decide +kernel))) rfl
theorem ew_968 : Cond.fieldLink RX11 301 RX4 "free" "Z" ∈ ea_tbl := ea_in (et_4 (List.mem_of_getElem? (i := 141) (by decide +kernel))) rfl
theorem ew_969 : Cond.fieldLink RX4 18 RX4 "deadDays" "I" ∈ ea_tbl := ea_in (et_4 (List.mem_of_getElem? (i := 142) (by decide +kernel))) rfl
theorem ew_970 : Cond.fieldLink RX8 58 RX4 "deadDays" "I" ∈ ea_tbl := ea_in (et_4 (List.mem_of_getElem? (i := 143) (by decide +kernel))) rfl
theorem ew_971 : Cond.fieldLink RX1 114 RX4 "deadDays" "I" ∈ ea_tbl := ea_in (et_4 (List.mem_of_getElem? (i := 144) (by decide +kernel))) rfl
theorem ew_972 : Cond.fieldLink RX1 148 RX4 "nobody" "Z" ∈ ea_tbl := ea_in (et_4 (List.mem_of_getElem? (i := 145) (by decide +kernel))) rfl
theorem ew_973 : Cond.fieldLink RX11 369 RX4 "nobody" "Z" ∈ ea_tbl := ea_in (et_4 (List.mem_of_getElem? (i := 146) (by decide +kernel))) rfl
theorem ew_974 : Cond.fieldLink RX4 49 RX4 "rowCount" "I" ∈ ea_tbl := ea_in (et_4 (List.mem_of_getElem? (i := 147) (by decide +kernel))) rfl
theorem ew_975 : Cond.fieldLink RX11 329 RX4 "rowCount" "I" ∈ ea_tbl := ea_in (et_4 (List.mem_of_getElem? (i := 148) (by decide +kernel))) rfl
theorem ew_976 : Cond.fieldLink RX4 21 RX4 "rows" "[I" ∈ ea_tbl := ea_in (et_4 (List.mem_of_getElem? (i := 149) (by decide +kernel))) rfl
theorem ew_977 : Cond.fieldLink RX4 65 RX4 "places" "I" ∈ ea_tbl := ea_in (et_4 (List.mem_of_getElem? (i := 150) (by decide +kernel))) rfl
theorem ew_978 : Cond.fieldLink RX11 377 RX4 "places" "I" ∈ ea_tbl := ea_in (et_4 (List.mem_of_getElem? (i := 151) (by decide +kernel))) rfl
theorem ew_979 : Cond.fieldLink RX4 62 RX4 "placeRows" "[I" ∈ ea_tbl := ea_in (et_4 (List.mem_of_getElem? (i := 152) (by decide +kernel))) rfl
theorem ew_1021 : Cond.methodLink RX11 224 yJ9_max_7cf53 ∈ ea_tbl := ea_in (et_4 (List.mem_of_getElem? (i := 194) (by decide +kernel))) rfl
theorem ew_1022 : Cond.static yJ9_max_7cf53 ∈ ea_tbl := ea_in (et_4 (List.mem_of_getElem? (i := 195) (by decide +kernel))) rfl
theorem ew_1023 : Cond.code yJ9_max_7cf53 cJ9_max_7cf53 2 (some .int) ∈ ea_tbl := ea_in (et_4 (List.mem_of_getElem? (i := 196) rfl)) rfl
theorem ew_1024 : Cond.methodLink RX11 232 yX6_isCross ∈ ea_tbl := ea_in (et_4 (List.mem_of_getElem? (i := 197) (by decide +kernel))) rfl
theorem ew_1025 : Cond.instanceMethod yX6_isCross ∈ ea_tbl := ea_in (et_4 (List.mem_of_getElem? (i := 198) (by decide +kernel))) rfl
theorem ew_1026 : Cond.selects RX6 yX6_isCross yX6_isCross ∈ ea_tbl := ea_in (et_4 (List.mem_of_getElem? (i := 199) (by decide +kernel))) rfl
theorem ew_1027 : Cond.code yX6_isCross cX6_isCross 4 (some .boolean) ∈ ea_tbl := ea_in (et_4 (List.mem_of_getElem? (i := 200) rfl)) rfl
theorem ew_1028 : Cond.methodLink RX11 238 yX11_franksAhead ∈ ea_tbl := ea_in (et_4 (List.mem_of_getElem? (i := 201) (by decide +kernel))) rfl
theorem ew_1030 : Cond.instanceMethod yX11_franksAhead ∈ ea_tbl := ea_in (et_4 (List.mem_of_getElem? (i := 203) (by decide +kernel))) rfl
theorem ew_1031 : Cond.code yX11_franksAhead cX11_franksAhead 5 (some .int) ∈ ea_tbl := ea_in (et_4 (List.mem_of_getElem? (i := 204) rfl)) rfl
theorem ew_1032 : Cond.methodLink RX11 460 yX4_dayOf ∈ ea_tbl := ea_in (et_4 (List.mem_of_getElem? (i := 205) (by decide +kernel))) rfl
theorem ew_1033 : Cond.instanceMethod yX4_dayOf ∈ ea_tbl := ea_in (et_4 (List.mem_of_getElem? (i := 206) (by decide +kernel))) rfl
theorem ew_1034 : Cond.selects RX4 yX4_dayOf yX4_dayOf ∈ ea_tbl := ea_in (et_4 (List.mem_of_getElem? (i := 207) (by decide +kernel))) rfl
theorem ew_1035 : Cond.code yX4_dayOf cX4_dayOf 1 (some .int) ∈ ea_tbl := ea_in (et_4 (List.mem_of_getElem? (i := 208) rfl)) rfl
theorem ew_1036 : Cond.methodLink RX11 244 yX8_price ∈ ea_tbl := ea_in (et_4 (List.mem_of_getElem? (i := 209) (by decide +kernel))) rfl
theorem ew_1037 : Cond.instanceMethod yX8_price ∈ ea_tbl := ea_in (et_4 (List.mem_of_getElem? (i := 210) (by decide +kernel))) rfl
theorem ew_1038 : Cond.selects RX8 yX8_price yX8_price ∈ ea_tbl := ea_in (et_4 (List.mem_of_getElem? (i := 211) (by decide +kernel))) rfl
theorem ew_1039 : Cond.code yX8_price cX8_price 3 none ∈ ea_tbl := ea_in (et_4 (List.mem_of_getElem? (i := 212) rfl)) rfl
theorem ew_1040 : Cond.methodLink RX8 38 yX4_dayOf ∈ ea_tbl := ea_in (et_4 (List.mem_of_getElem? (i := 213) (by decide +kernel))) rfl
theorem ew_1041 : Cond.methodLink RX8 44 yX8_numberOn ∈ ea_tbl := ea_in (et_4 (List.mem_of_getElem? (i := 214) (by decide +kernel))) rfl
theorem ew_1042 : Cond.methodLink RX8 51 yX8_actOf ∈ ea_tbl := ea_in (et_4 (List.mem_of_getElem? (i := 215) (by decide +kernel))) rfl
theorem ew_1043 : Cond.methodLink RX8 61 yX8_isFree ∈ ea_tbl := ea_in (et_4 (List.mem_of_getElem? (i := 216) (by decide +kernel))) rfl
theorem ew_1044 : Cond.static yX8_isFree ∈ ea_tbl := ea_in (et_4 (List.mem_of_getElem? (i := 217) (by decide +kernel))) rfl
theorem ew_1045 : Cond.code yX8_isFree cX8_isFree 2 (some .boolean) ∈ ea_tbl := ea_in (et_4 (List.mem_of_getElem? (i := 218) rfl)) rfl
theorem ew_1046 : Cond.methodLink RX8 69 yX8_chargeBy ∈ ea_tbl := ea_in (et_4 (List.mem_of_getElem? (i := 219) (by decide +kernel))) rfl
theorem ew_1047 : Cond.instanceMethod yX8_chargeBy ∈ ea_tbl := ea_in (et_4 (List.mem_of_getElem? (i := 220) (by decide +kernel))) rfl
theorem ew_1048 : Cond.selects RX8 yX8_chargeBy yX8_chargeBy ∈ ea_tbl := ea_in (et_4 (List.mem_of_getElem? (i := 221) (by decide +kernel))) rfl
theorem ew_1049 : Cond.code yX8_chargeBy cX8_chargeBy 5 (some .int) ∈ ea_tbl := ea_in (et_4 (List.mem_of_getElem? (i := 222) rfl)) rfl
theorem ew_1050 : Cond.methodLink RX8 76 yX8_lineFor ∈ ea_tbl := ea_in (et_4 (List.mem_of_getElem? (i := 223) (by decide +kernel))) rfl
theorem ew_1052 : Cond.instanceMethod yX8_lineFor ∈ ea_tbl := ea_in (et_4 (List.mem_of_getElem? (i := 225) (by decide +kernel))) rfl
theorem ew_1053 : Cond.code yX8_lineFor cX8_lineFor 4 (some .int) ∈ ea_tbl := ea_in (et_4 (List.mem_of_getElem? (i := 226) rfl)) rfl
theorem ew_1054 : Cond.methodLink RX8 126 yX8_ask ∈ ea_tbl := ea_in (et_4 (List.mem_of_getElem? (i := 227) (by decide +kernel))) rfl
theorem ew_1056 : Cond.instanceMethod yX8_ask ∈ ea_tbl := ea_in (et_4 (List.mem_of_getElem? (i := 229) (by decide +kernel))) rfl
theorem ew_1057 : Cond.code yX8_ask cX8_ask 2 none ∈ ea_tbl := ea_in (et_4 (List.mem_of_getElem? (i := 230) rfl)) rfl
theorem ew_1058 : Cond.methodLink RX8 88 yX8_worth ∈ ea_tbl := ea_in (et_4 (List.mem_of_getElem? (i := 231) (by decide +kernel))) rfl
theorem ew_1060 : Cond.instanceMethod yX8_worth ∈ ea_tbl := ea_in (et_4 (List.mem_of_getElem? (i := 233) (by decide +kernel))) rfl
theorem ew_1061 : Cond.code yX8_worth cX8_worth 6 (some .int) ∈ ea_tbl := ea_in (et_4 (List.mem_of_getElem? (i := 234) rfl)) rfl
theorem ew_1062 : Cond.methodLink RX8 148 yX8_joined ∈ ea_tbl := ea_in (et_4 (List.mem_of_getElem? (i := 235) (by decide +kernel))) rfl
theorem ew_1063 : Cond.static yX8_joined ∈ ea_tbl := ea_in (et_4 (List.mem_of_getElem? (i := 236) (by decide +kernel))) rfl
theorem ew_1064 : Cond.code yX8_joined cX8_joined 3 (some .int) ∈ ea_tbl := ea_in (et_4 (List.mem_of_getElem? (i := 237) rfl)) rfl
theorem ew_1065 : Cond.methodLink RX8 92 yJ9_max_7cf53 ∈ ea_tbl := ea_in (et_4 (List.mem_of_getElem? (i := 238) (by decide +kernel))) rfl
theorem ew_1066 : Cond.constant RX8 98 99999 ∈ ea_tbl := ea_in (et_4 (List.mem_of_getElem? (i := 239) (by decide +kernel))) rfl
theorem ew_1067 : Cond.methodLink RX8 99 yJ9_min_7cf53 ∈ ea_tbl := ea_in (et_5 (List.mem_of_getElem? (i := 0) (by decide +kernel))) rfl
theorem ew_1068 : Cond.methodLink RX11 248 yX1_begin ∈ ea_tbl := ea_in (et_5 (List.mem_of_getElem? (i := 1) (by decide +kernel))) rfl
theorem ew_1069 : Cond.instanceMethod yX1_begin ∈ ea_tbl := ea_in (et_5 (List.mem_of_getElem? (i := 2) (by decide +kernel))) rfl
theorem ew_1070 : Cond.selects RX1 yX1_begin yX1_begin ∈ ea_tbl := ea_in (et_5 (List.mem_of_getElem? (i := 3) (by decide +kernel))) rfl
theorem ew_1071 : Cond.code yX1_begin cX1_begin 4 none ∈ ea_tbl := ea_in (et_5 (List.mem_of_getElem? (i := 4) rfl)) rfl
theorem ew_1072 : Cond.methodLink RL 86 yX11_of ∈ ea_tbl := ea_in (et_5 (List.mem_of_getElem? (i := 5) (by decide +kernel))) rfl
theorem ew_1073 : Cond.instanceMethod yX11_of ∈ ea_tbl := ea_in (et_5 (List.mem_of_getElem? (i := 6) (by decide +kernel))) rfl
theorem ew_1074 : Cond.selects RX11 yX11_of yX11_of ∈ ea_tbl := ea_in (et_5 (List.mem_of_getElem? (i := 7) (by decide +kernel))) rfl
theorem ew_1075 : Cond.code yX11_of cX11_of 5 (some .int) ∈ ea_tbl := ea_in (et_5 (List.mem_of_getElem? (i := 8) rfl)) rfl
theorem ew_1076 : Cond.methodLink RX11 251 yX11_letterOf ∈ ea_tbl := ea_in (et_5 (List.mem_of_getElem? (i := 9) (by decide +kernel))) rfl
theorem ew_1078 : Cond.instanceMethod yX11_letterOf ∈ ea_tbl := ea_in (et_5 (List.mem_of_getElem? (i := 11) (by decide +kernel))) rfl
theorem ew_1079 : Cond.code yX11_letterOf cX11_letterOf 2 (some (.object RX4)) ∈ ea_tbl := ea_in (et_5 (List.mem_of_getElem? (i := 12) rfl)) rfl
theorem ew_1080 : Cond.methodLink RL 90 yX11_charge ∈ ea_tbl := ea_in (et_5 (List.mem_of_getElem? (i := 13) (by decide +kernel))) rfl
theorem ew_1081 : Cond.instanceMethod yX11_charge ∈ ea_tbl := ea_in (et_5 (List.mem_of_getElem? (i := 14) (by decide +kernel))) rfl
theorem ew_1082 : Cond.selects RX11 yX11_charge yX11_charge ∈ ea_tbl := ea_in (et_5 (List.mem_of_getElem? (i := 15) (by decide +kernel))) rfl
theorem ew_1083 : Cond.code yX11_charge cX11_charge 4 (some .int) ∈ ea_tbl := ea_in (et_5 (List.mem_of_getElem? (i := 16) rfl)) rfl
theorem ew_1084 : Cond.methodLink RX11 297 yX4_owed ∈ ea_tbl := ea_in (et_5 (List.mem_of_getElem? (i := 17) (by decide +kernel))) rfl
theorem ew_1085 : Cond.instanceMethod yX4_owed ∈ ea_tbl := ea_in (et_5 (List.mem_of_getElem? (i := 18) (by decide +kernel))) rfl
theorem ew_1086 : Cond.selects RX4 yX4_owed yX4_owed ∈ ea_tbl := ea_in (et_5 (List.mem_of_getElem? (i := 19) (by decide +kernel))) rfl
theorem ew_1087 : Cond.code yX4_owed cX4_owed 1 (some .int) ∈ ea_tbl := ea_in (et_5 (List.mem_of_getElem? (i := 20) rfl)) rfl
theorem ew_1088 : Cond.methodLink RL 94 yX11_way ∈ ea_tbl := ea_in (et_5 (List.mem_of_getElem? (i := 21) (by decide +kernel))) rfl
theorem ew_1089 : Cond.instanceMethod yX11_way ∈ ea_tbl := ea_in (et_5 (List.mem_of_getElem? (i := 22) (by decide +kernel))) rfl
theorem ew_1090 : Cond.selects RX11 yX11_way yX11_way ∈ ea_tbl := ea_in (et_5 (List.mem_of_getElem? (i := 23) (by decide +kernel))) rfl
theorem ew_1091 : Cond.code yX11_way cX11_way 7 (some .int) ∈ ea_tbl := ea_in (et_5 (List.mem_of_getElem? (i := 24) rfl)) rfl
theorem ew_1092 : Cond.methodLink RX11 304 yX10_bestFrom ∈ ea_tbl := ea_in (et_5 (List.mem_of_getElem? (i := 25) (by decide +kernel))) rfl
theorem ew_1093 : Cond.instanceMethod yX10_bestFrom ∈ ea_tbl := ea_in (et_5 (List.mem_of_getElem? (i := 26) (by decide +kernel))) rfl
theorem ew_1094 : Cond.selects RX10 yX10_bestFrom yX10_bestFrom ∈ ea_tbl := ea_in (et_5 (List.mem_of_getElem? (i := 27) (by decide +kernel))) rfl
theorem ew_1095 : Cond.code yX10_bestFrom cX10_bestFrom 6 (some .long) ∈ ea_tbl := ea_in (et_5 (List.mem_of_getElem? (i := 28) rfl)) rfl
theorem ew_1096 : Cond.methodLink RX10 90 yX10_refresh ∈ ea_tbl := ea_in (et_5 (List.mem_of_getElem? (i := 29) (by decide +kernel))) rfl
theorem ew_1097 : Cond.constantLong RX11 308 9223372036854775807 ∈ ea_tbl := ea_in (et_5 (List.mem_of_getElem? (i := 30) (by decide +kernel))) rfl
theorem ew_1098 : Cond.methodLink RX11 310 yX10_minuteOf ∈ ea_tbl := ea_in (et_5 (List.mem_of_getElem? (i := 31) (by decide +kernel))) rfl
theorem ew_1099 : Cond.static yX10_minuteOf ∈ ea_tbl := ea_in (et_5 (List.mem_of_getElem? (i := 32) (by decide +kernel))) rfl
theorem ew_1100 : Cond.code yX10_minuteOf cX10_minuteOf 2 (some .int) ∈ ea_tbl := ea_in (et_5 (List.mem_of_getElem? (i := 33) rfl)) rfl
theorem ew_1101 : Cond.methodLink RX11 314 yX10_runsOf ∈ ea_tbl := ea_in (et_5 (List.mem_of_getElem? (i := 34) (by decide +kernel))) rfl
theorem ew_1102 : Cond.static yX10_runsOf ∈ ea_tbl := ea_in (et_5 (List.mem_of_getElem? (i := 35) (by decide +kernel))) rfl
theorem ew_1103 : Cond.code yX10_runsOf cX10_runsOf 2 (some .int) ∈ ea_tbl := ea_in (et_5 (List.mem_of_getElem? (i := 36) rfl)) rfl
theorem ew_1104 : Cond.methodLink RX11 317 yX10_trainOf ∈ ea_tbl := ea_in (et_5 (List.mem_of_getElem? (i := 37) (by decide +kernel))) rfl
theorem ew_1105 : Cond.methodLink RX11 320 yX10_dayOf ∈ ea_tbl := ea_in (et_5 (List.mem_of_getElem? (i := 38) (by decide +kernel))) rfl
theorem ew_1106 : Cond.methodLink RX11 323 yX10_takenOf ∈ ea_tbl := ea_in (et_5 (List.mem_of_getElem? (i := 39) (by decide +kernel))) rfl
theorem ew_1107 : Cond.methodLink RX11 326 yX10_leftOf ∈ ea_tbl := ea_in (et_5 (List.mem_of_getElem? (i := 40) (by decide +kernel))) rfl
theorem ew_1108 : Cond.methodLink RL 99 yX11_lead ∈ ea_tbl := ea_in (et_5 (List.mem_of_getElem? (i := 41) (by decide +kernel))) rfl
theorem ew_1109 : Cond.instanceMethod yX11_lead ∈ ea_tbl := ea_in (et_5 (List.mem_of_getElem? (i := 42) (by decide +kernel))) rfl
theorem ew_1110 : Cond.selects RX11 yX11_lead yX11_lead ∈ ea_tbl := ea_in (et_5 (List.mem_of_getElem? (i := 43) (by decide +kernel))) rfl
theorem ew_1111 : Cond.code yX11_lead cX11_lead 5 (some .int) ∈ ea_tbl := ea_in (et_5 (List.mem_of_getElem? (i := 44) rfl)) rfl
theorem ew_1112 : Cond.methodLink RX11 332 yX4_rowMinute ∈ ea_tbl := ea_in (et_5 (List.mem_of_getElem? (i := 45) (by decide +kernel))) rfl
theorem ew_1113 : Cond.instanceMethod yX4_rowMinute ∈ ea_tbl := ea_in (et_5 (List.mem_of_getElem? (i := 46) (by decide +kernel))) rfl
theorem ew_1114 : Cond.selects RX4 yX4_rowMinute yX4_rowMinute ∈ ea_tbl := ea_in (et_5 (List.mem_of_getElem? (i := 47) (by decide +kernel))) rfl
theorem ew_1115 : Cond.code yX4_rowMinute cX4_rowMinute 2 (some .int) ∈ ea_tbl := ea_in (et_5 (List.mem_of_getElem? (i := 48) rfl)) rfl
theorem ew_1116 : Cond.methodLink RX11 335 yX4_rowState ∈ ea_tbl := ea_in (et_5 (List.mem_of_getElem? (i := 49) (by decide +kernel))) rfl
theorem ew_1117 : Cond.instanceMethod yX4_rowState ∈ ea_tbl := ea_in (et_5 (List.mem_of_getElem? (i := 50) (by decide +kernel))) rfl
theorem ew_1118 : Cond.selects RX4 yX4_rowState yX4_rowState ∈ ea_tbl := ea_in (et_5 (List.mem_of_getElem? (i := 51) (by decide +kernel))) rfl
theorem ew_1119 : Cond.code yX4_rowState cX4_rowState 2 (some .int) ∈ ea_tbl := ea_in (et_5 (List.mem_of_getElem? (i := 52) rfl)) rfl
theorem ew_1120 : Cond.methodLink RX11 338 yX4_rowPlace ∈ ea_tbl := ea_in (et_5 (List.mem_of_getElem? (i := 53) (by decide +kernel))) rfl
theorem ew_1121 : Cond.instanceMethod yX4_rowPlace ∈ ea_tbl := ea_in (et_5 (List.mem_of_getElem? (i := 54) (by decide +kernel))) rfl
theorem ew_1122 : Cond.selects RX4 yX4_rowPlace yX4_rowPlace ∈ ea_tbl := ea_in (et_5 (List.mem_of_getElem? (i := 55) (by decide +kernel))) rfl
theorem ew_1123 : Cond.code yX4_rowPlace cX4_rowPlace 2 (some .int) ∈ ea_tbl := ea_in (et_5 (List.mem_of_getElem? (i := 56) rfl)) rfl
theorem ew_1124 : Cond.methodLink RL 103 yX11_where ∈ ea_tbl := ea_in (et_5 (List.mem_of_getElem? (i := 57) (by decide +kernel))) rfl
theorem ew_1125 : Cond.instanceMethod yX11_where ∈ ea_tbl := ea_in (et_5 (List.mem_of_getElem? (i := 58) (by decide +kernel))) rfl
theorem ew_1126 : Cond.selects RX11 yX11_where yX11_where ∈ ea_tbl := ea_in (et_5 (List.mem_of_getElem? (i := 59) (by decide +kernel))) rfl
theorem ew_1127 : Cond.code yX11_where cX11_where 6 (some .int) ∈ ea_tbl := ea_in (et_5 (List.mem_of_getElem? (i := 60) rfl)) rfl
theorem ew_1128 : Cond.methodLink RX11 341 yX4_rowAt ∈ ea_tbl := ea_in (et_5 (List.mem_of_getElem? (i := 61) (by decide +kernel))) rfl
theorem ew_1129 : Cond.instanceMethod yX4_rowAt ∈ ea_tbl := ea_in (et_5 (List.mem_of_getElem? (i := 62) (by decide +kernel))) rfl
theorem ew_1130 : Cond.selects RX4 yX4_rowAt yX4_rowAt ∈ ea_tbl := ea_in (et_5 (List.mem_of_getElem? (i := 63) (by decide +kernel))) rfl
theorem ew_1131 : Cond.code yX4_rowAt cX4_rowAt 4 (some .int) ∈ ea_tbl := ea_in (et_5 (List.mem_of_getElem? (i := 64) rfl)) rfl
theorem ew_1132 : Cond.methodLink RX4 58 yX4_rowMinute ∈ ea_tbl := ea_in (et_5 (List.mem_of_getElem? (i := 65) (by decide +kernel))) rfl
theorem ew_1133 : Cond.methodLink RL 107 yX11_sorter ∈ ea_tbl := ea_in (et_5 (List.mem_of_getElem? (i := 66) (by decide +kernel))) rfl
theorem ew_1134 : Cond.instanceMethod yX11_sorter ∈ ea_tbl := ea_in (et_5 (List.mem_of_getElem? (i := 67) (by decide +kernel))) rfl
theorem ew_1135 : Cond.selects RX11 yX11_sorter yX11_sorter ∈ ea_tbl := ea_in (et_5 (List.mem_of_getElem? (i := 68) (by decide +kernel))) rfl
theorem ew_1136 : Cond.code yX11_sorter cX11_sorter 3 (some .int) ∈ ea_tbl := ea_in (et_5 (List.mem_of_getElem? (i := 69) rfl)) rfl
theorem ew_1137 : Cond.methodLink RX11 344 yX3_add ∈ ea_tbl := ea_in (et_5 (List.mem_of_getElem? (i := 70) (by decide +kernel))) rfl
theorem ew_1138 : Cond.instanceMethod yX3_add ∈ ea_tbl := ea_in (et_5 (List.mem_of_getElem? (i := 71) (by decide +kernel))) rfl
theorem ew_1139 : Cond.selects RX3 yX3_add yX3_add ∈ ea_tbl := ea_in (et_5 (List.mem_of_getElem? (i := 72) (by decide +kernel))) rfl
theorem ew_1140 : Cond.code yX3_add cX3_add 3 (some .int) ∈ ea_tbl := ea_in (et_5 (List.mem_of_getElem? (i := 73) rfl)) rfl
theorem ew_1141 : Cond.methodLink RL 111 yX11_seat ∈ ea_tbl := ea_in (et_5 (List.mem_of_getElem? (i := 74) (by decide +kernel))) rfl
theorem ew_1142 : Cond.instanceMethod yX11_seat ∈ ea_tbl := ea_in (et_5 (List.mem_of_getElem? (i := 75) (by decide +kernel))) rfl
theorem ew_1143 : Cond.selects RX11 yX11_seat yX11_seat ∈ ea_tbl := ea_in (et_5 (List.mem_of_getElem? (i := 76) (by decide +kernel))) rfl
theorem ew_1144 : Cond.code yX11_seat cX11_seat 3 (some .boolean) ∈ ea_tbl := ea_in (et_5 (List.mem_of_getElem? (i := 77) rfl)) rfl
theorem ew_1145 : Cond.methodLink RL 116 yX11_run ∈ ea_tbl := ea_in (et_5 (List.mem_of_getElem? (i := 78) (by decide +kernel))) rfl
theorem ew_1146 : Cond.instanceMethod yX11_run ∈ ea_tbl := ea_in (et_5 (List.mem_of_getElem? (i := 79) (by decide +kernel))) rfl
theorem ew_1147 : Cond.selects RX11 yX11_run yX11_run ∈ ea_tbl := ea_in (et_5 (List.mem_of_getElem? (i := 80) (by decide +kernel))) rfl
theorem ew_1148 : Cond.code yX11_run cX11_run 5 (some .int) ∈ ea_tbl := ea_in (et_5 (List.mem_of_getElem? (i := 81) rfl)) rfl
theorem ew_1149 : Cond.methodLink RX11 349 yX1_aboardOf ∈ ea_tbl := ea_in (et_5 (List.mem_of_getElem? (i := 82) (by decide +kernel))) rfl
theorem ew_1150 : Cond.instanceMethod yX1_aboardOf ∈ ea_tbl := ea_in (et_5 (List.mem_of_getElem? (i := 83) (by decide +kernel))) rfl
theorem ew_1151 : Cond.selects RX1 yX1_aboardOf yX1_aboardOf ∈ ea_tbl := ea_in (et_5 (List.mem_of_getElem? (i := 84) (by decide +kernel))) rfl
theorem ew_1152 : Cond.code yX1_aboardOf cX1_aboardOf 5 (some .int) ∈ ea_tbl := ea_in (et_5 (List.mem_of_getElem? (i := 85) rfl)) rfl
theorem ew_1153 : Cond.methodLink RX11 353 yX9_goneFrom ∈ ea_tbl := ea_in (et_5 (List.mem_of_getElem? (i := 86) (by decide +kernel))) rfl
theorem ew_1154 : Cond.instanceMethod yX9_goneFrom ∈ ea_tbl := ea_in (et_5 (List.mem_of_getElem? (i := 87) (by decide +kernel))) rfl
theorem ew_1155 : Cond.selects RX9 yX9_goneFrom yX9_goneFrom ∈ ea_tbl := ea_in (et_5 (List.mem_of_getElem? (i := 88) (by decide +kernel))) rfl
theorem ew_1156 : Cond.code yX9_goneFrom cX9_goneFrom 6 (some .int) ∈ ea_tbl := ea_in (et_5 (List.mem_of_getElem? (i := 89) rfl)) rfl
theorem ew_1157 : Cond.methodLink RX9 42 yX9_goesAt ∈ ea_tbl := ea_in (et_5 (List.mem_of_getElem? (i := 90) (by decide +kernel))) rfl
theorem ew_1158 : Cond.methodLink RL 120 yX11_account ∈ ea_tbl := ea_in (et_5 (List.mem_of_getElem? (i := 91) (by decide +kernel))) rfl
theorem ew_1159 : Cond.instanceMethod yX11_account ∈ ea_tbl := ea_in (et_5 (List.mem_of_getElem? (i := 92) (by decide +kernel))) rfl
theorem ew_1160 : Cond.selects RX11 yX11_account yX11_account ∈ ea_tbl := ea_in (et_5 (List.mem_of_getElem? (i := 93) (by decide +kernel))) rfl
theorem ew_1161 : Cond.code yX11_account cX11_account 4 (some .int) ∈ ea_tbl := ea_in (et_5 (List.mem_of_getElem? (i := 94) rfl)) rfl
theorem ew_1162 : Cond.methodLink RX11 359 yX11_owedBetween ∈ ea_tbl := ea_in (et_5 (List.mem_of_getElem? (i := 95) (by decide +kernel))) rfl
theorem ew_1164 : Cond.instanceMethod yX11_owedBetween ∈ ea_tbl := ea_in (et_5 (List.mem_of_getElem? (i := 97) (by decide +kernel))) rfl
theorem ew_1165 : Cond.code yX11_owedBetween cX11_owedBetween 6 (some .int) ∈ ea_tbl := ea_in (et_5 (List.mem_of_getElem? (i := 98) rfl)) rfl
theorem ew_1166 : Cond.methodLink RX11 462 yX11_isBetween ∈ ea_tbl := ea_in (et_5 (List.mem_of_getElem? (i := 99) (by decide +kernel))) rfl
theorem ew_1168 : Cond.instanceMethod yX11_isBetween ∈ ea_tbl := ea_in (et_5 (List.mem_of_getElem? (i := 101) (by decide +kernel))) rfl
theorem ew_1169 : Cond.code yX11_isBetween cX11_isBetween 4 (some .boolean) ∈ ea_tbl := ea_in (et_5 (List.mem_of_getElem? (i := 102) rfl)) rfl
theorem ew_1170 : Cond.methodLink RX11 363 yX11_differing ∈ ea_tbl := ea_in (et_5 (List.mem_of_getElem? (i := 103) (by decide +kernel))) rfl
theorem ew_1172 : Cond.instanceMethod yX11_differing ∈ ea_tbl := ea_in (et_5 (List.mem_of_getElem? (i := 105) (by decide +kernel))) rfl
theorem ew_1173 : Cond.code yX11_differing cX11_differing 5 (some .int) ∈ ea_tbl := ea_in (et_5 (List.mem_of_getElem? (i := 106) rfl)) rfl
theorem ew_1174 : Cond.methodLink RX11 465 yX11_differs ∈ ea_tbl := ea_in (et_5 (List.mem_of_getElem? (i := 107) (by decide +kernel))) rfl
theorem ew_1176 : Cond.instanceMethod yX11_differs ∈ ea_tbl := ea_in (et_5 (List.mem_of_getElem? (i := 109) (by decide +kernel))) rfl
theorem ew_1177 : Cond.code yX11_differs cX11_differs 4 (some .boolean) ∈ ea_tbl := ea_in (et_5 (List.mem_of_getElem? (i := 110) rfl)) rfl
theorem ew_1178 : Cond.methodLink RX11 366 yX11_differingLetter ∈ ea_tbl := ea_in (et_5 (List.mem_of_getElem? (i := 111) (by decide +kernel))) rfl
theorem ew_1180 : Cond.instanceMethod yX11_differingLetter ∈ ea_tbl := ea_in (et_5 (List.mem_of_getElem? (i := 113) (by decide +kernel))) rfl
theorem ew_1181 : Cond.code yX11_differingLetter cX11_differingLetter 6 (some .int) ∈ ea_tbl := ea_in (et_5 (List.mem_of_getElem? (i := 114) rfl)) rfl
theorem ew_1182 : Cond.methodLink RL 124 yX11_nobody ∈ ea_tbl := ea_in (et_5 (List.mem_of_getElem? (i := 115) (by decide +kernel))) rfl
theorem ew_1183 : Cond.instanceMethod yX11_nobody ∈ ea_tbl := ea_in (et_5 (List.mem_of_getElem? (i := 116) (by decide +kernel))) rfl
theorem ew_1184 : Cond.selects RX11 yX11_nobody yX11_nobody ∈ ea_tbl := ea_in (et_5 (List.mem_of_getElem? (i := 117) (by decide +kernel))) rfl
theorem ew_1185 : Cond.code yX11_nobody cX11_nobody 3 (some .boolean) ∈ ea_tbl := ea_in (et_5 (List.mem_of_getElem? (i := 118) rfl)) rfl
theorem ew_1186 : Cond.methodLink RL 128 yX11_place ∈ ea_tbl := ea_in (et_5 (List.mem_of_getElem? (i := 119) (by decide +kernel))) rfl
theorem ew_1187 : Cond.instanceMethod yX11_place ∈ ea_tbl := ea_in (et_5 (List.mem_of_getElem? (i := 120) (by decide +kernel))) rfl
theorem ew_1188 : Cond.selects RX11 yX11_place yX11_place ∈ ea_tbl := ea_in (et_5 (List.mem_of_getElem? (i := 121) (by decide +kernel))) rfl
theorem ew_1189 : Cond.code yX11_place cX11_place 5 (some .boolean) ∈ ea_tbl := ea_in (et_5 (List.mem_of_getElem? (i := 122) rfl)) rfl
theorem ew_1190 : Cond.methodLink RX11 372 yX4_tell ∈ ea_tbl := ea_in (et_5 (List.mem_of_getElem? (i := 123) (by decide +kernel))) rfl
theorem ew_1191 : Cond.instanceMethod yX4_tell ∈ ea_tbl := ea_in (et_5 (List.mem_of_getElem? (i := 124) (by decide +kernel))) rfl
theorem ew_1192 : Cond.selects RX4 yX4_tell yX4_tell ∈ ea_tbl := ea_in (et_5 (List.mem_of_getElem? (i := 125) (by decide +kernel))) rfl
theorem ew_1193 : Cond.code yX4_tell cX4_tell 5 (some .boolean) ∈ ea_tbl := ea_in (et_5 (List.mem_of_getElem? (i := 126) rfl)) rfl
theorem ew_1194 : Cond.methodLink RX4 71 yX4_placeOf ∈ ea_tbl := ea_in (et_5 (List.mem_of_getElem? (i := 127) (by decide +kernel))) rfl
theorem ew_1195 : Cond.instanceMethod yX4_placeOf ∈ ea_tbl := ea_in (et_5 (List.mem_of_getElem? (i := 128) (by decide +kernel))) rfl
theorem ew_1196 : Cond.selects RX4 yX4_placeOf yX4_placeOf ∈ ea_tbl := ea_in (et_5 (List.mem_of_getElem? (i := 129) (by decide +kernel))) rfl
theorem ew_1197 : Cond.code yX4_placeOf cX4_placeOf 3 (some .int) ∈ ea_tbl := ea_in (et_5 (List.mem_of_getElem? (i := 130) rfl)) rfl
theorem ew_1198 : Cond.methodLink RX4 68 yX4_placeTown ∈ ea_tbl := ea_in (et_5 (List.mem_of_getElem? (i := 131) (by decide +kernel))) rfl
theorem ew_1199 : Cond.instanceMethod yX4_placeTown ∈ ea_tbl := ea_in (et_5 (List.mem_of_getElem? (i := 132) (by decide +kernel))) rfl
theorem ew_1200 : Cond.selects RX4 yX4_placeTown yX4_placeTown ∈ ea_tbl := ea_in (et_5 (List.mem_of_getElem? (i := 133) (by decide +kernel))) rfl
theorem ew_1201 : Cond.code yX4_placeTown cX4_placeTown 2 (some .int) ∈ ea_tbl := ea_in (et_5 (List.mem_of_getElem? (i := 134) rfl)) rfl
theorem ew_1202 : Cond.methodLink RL 132 yX11_order ∈ ea_tbl := ea_in (et_5 (List.mem_of_getElem? (i := 135) (by decide +kernel))) rfl
theorem ew_1203 : Cond.instanceMethod yX11_order ∈ ea_tbl := ea_in (et_5 (List.mem_of_getElem? (i := 136) (by decide +kernel))) rfl
theorem ew_1204 : Cond.selects RX11 yX11_order yX11_order ∈ ea_tbl := ea_in (et_5 (List.mem_of_getElem? (i := 137) (by decide +kernel))) rfl
theorem ew_1205 : Cond.code yX11_order cX11_order 4 (some .long) ∈ ea_tbl := ea_in (et_5 (List.mem_of_getElem? (i := 138) rfl)) rfl
theorem ew_1206 : Cond.constantLong RX11 375 (-1) ∈ ea_tbl := ea_in (et_5 (List.mem_of_getElem? (i := 139) (by decide +kernel))) rfl
theorem ew_1207 : Cond.methodLink RX11 380 yX4_foundByAll ∈ ea_tbl := ea_in (et_5 (List.mem_of_getElem? (i := 140) (by decide +kernel))) rfl
theorem ew_1208 : Cond.instanceMethod yX4_foundByAll ∈ ea_tbl := ea_in (et_5 (List.mem_of_getElem? (i := 141) (by decide +kernel))) rfl
theorem ew_1209 : Cond.selects RX4 yX4_foundByAll yX4_foundByAll ∈ ea_tbl := ea_in (et_5 (List.mem_of_getElem? (i := 142) (by decide +kernel))) rfl
theorem ew_1210 : Cond.code yX4_foundByAll cX4_foundByAll 13 (some .long) ∈ ea_tbl := ea_in (et_5 (List.mem_of_getElem? (i := 143) rfl)) rfl
theorem ew_1211 : Cond.constantLong RX4 74 100 ∈ ea_tbl := ea_in (et_5 (List.mem_of_getElem? (i := 144) (by decide +kernel))) rfl
theorem ew_1212 : Cond.methodLink RX4 76 yX4_placeChance ∈ ea_tbl := ea_in (et_5 (List.mem_of_getElem? (i := 145) (by decide +kernel))) rfl
theorem ew_1213 : Cond.instanceMethod yX4_placeChance ∈ ea_tbl := ea_in (et_5 (List.mem_of_getElem? (i := 146) (by decide +kernel))) rfl
theorem ew_1214 : Cond.selects RX4 yX4_placeChance yX4_placeChance ∈ ea_tbl := ea_in (et_5 (List.mem_of_getElem? (i := 147) (by decide +kernel))) rfl
theorem ew_1215 : Cond.code yX4_placeChance cX4_placeChance 2 (some .int) ∈ ea_tbl := ea_in (et_5 (List.mem_of_getElem? (i := 148) rfl)) rfl
theorem ew_1216 : Cond.constantLong RX4 79 (-1) ∈ ea_tbl := ea_in (et_5 (List.mem_of_getElem? (i := 149) (by decide +kernel))) rfl
theorem ew_1217 : Cond.methodLink RX11 384 yX4_placeTown ∈ ea_tbl := ea_in (et_5 (List.mem_of_getElem? (i := 150) (by decide +kernel))) rfl
theorem ew_1218 : Cond.methodLink RX11 387 yX4_placeChance ∈ ea_tbl := ea_in (et_5 (List.mem_of_getElem? (i := 151) (by decide +kernel))) rfl
theorem ew_1219 : Cond.methodLink RL 137 yX11_found ∈ ea_tbl := ea_in (et_5 (List.mem_of_getElem? (i := 152) (by decide +kernel))) rfl
theorem ew_1220 : Cond.instanceMethod yX11_found ∈ ea_tbl := ea_in (et_5 (List.mem_of_getElem? (i := 153) (by decide +kernel))) rfl
theorem ew_1221 : Cond.selects RX11 yX11_found yX11_found ∈ ea_tbl := ea_in (et_5 (List.mem_of_getElem? (i := 154) (by decide +kernel))) rfl
theorem ew_1222 : Cond.code yX11_found cX11_found 4 (some .boolean) ∈ ea_tbl := ea_in (et_5 (List.mem_of_getElem? (i := 155) rfl)) rfl
theorem ew_1223 : Cond.methodLink RX11 390 yX4_placeOf ∈ ea_tbl := ea_in (et_5 (List.mem_of_getElem? (i := 156) (by decide +kernel))) rfl
theorem ew_1224 : Cond.methodLink RX11 393 yX1_move ∈ ea_tbl := ea_in (et_5 (List.mem_of_getElem? (i := 157) (by decide +kernel))) rfl
theorem ew_1225 : Cond.methodLink RL 141 yX11_rob ∈ ea_tbl := ea_in (et_5 (List.mem_of_getElem? (i := 158) (by decide +kernel))) rfl
theorem ew_1226 : Cond.instanceMethod yX11_rob ∈ ea_tbl := ea_in (et_5 (List.mem_of_getElem? (i := 159) (by decide +kernel))) rfl
theorem ew_1227 : Cond.selects RX11 yX11_rob yX11_rob ∈ ea_tbl := ea_in (et_5 (List.mem_of_getElem? (i := 160) (by decide +kernel))) rfl
theorem ew_1228 : Cond.code yX11_rob cX11_rob 6 (some .int) ∈ ea_tbl := ea_in (et_5 (List.mem_of_getElem? (i := 161) rfl)) rfl
theorem ew_1229 : Cond.methodLink RX11 400 yX11_isUnderWay ∈ ea_tbl := ea_in (et_5 (List.mem_of_getElem? (i := 162) (by decide +kernel))) rfl
theorem ew_1231 : Cond.instanceMethod yX11_isUnderWay ∈ ea_tbl := ea_in (et_5 (List.mem_of_getElem? (i := 164) (by decide +kernel))) rfl
theorem ew_1232 : Cond.code yX11_isUnderWay cX11_isUnderWay 4 (some .boolean) ∈ ea_tbl := ea_in (et_5 (List.mem_of_getElem? (i := 165) rfl)) rfl
theorem ew_1233 : Cond.instantiable RX7 5 ∈ ea_tbl := ea_in (et_5 (List.mem_of_getElem? (i := 166) (by decide +kernel))) rfl
theorem ew_1234 : Cond.methodLink RX11 403 yX7_init ∈ ea_tbl := ea_in (et_5 (List.mem_of_getElem? (i := 167) (by decide +kernel))) rfl
theorem ew_1235 : Cond.instanceMethod yX7_init ∈ ea_tbl := ea_in (et_5 (List.mem_of_getElem? (i := 168) (by decide +kernel))) rfl
theorem ew_1236 : Cond.code yX7_init cX7_init 4 none ∈ ea_tbl := ea_in (et_5 (List.mem_of_getElem? (i := 169) rfl)) rfl
theorem ew_1237 : Cond.methodLink RX7 3 Lib.objectInit ∈ ea_tbl := ea_in (et_5 (List.mem_of_getElem? (i := 170) (by decide +kernel))) rfl
theorem ew_1238 : Cond.methodLink RX7 18 yJ9_max_7cf53 ∈ ea_tbl := ea_in (et_5 (List.mem_of_getElem? (i := 171) (by decide +kernel))) rfl
theorem ew_1239 : Cond.fieldLink RX7 9 RX7 "run" "I" ∈ ea_tbl := ea_in (et_5 (List.mem_of_getElem? (i := 172) (by decide +kernel))) rfl
theorem ew_1240 : Cond.fieldLink RX11 410 RX7 "run" "I" ∈ ea_tbl := ea_in (et_5 (List.mem_of_getElem? (i := 173) (by decide +kernel))) rfl
theorem ew_1241 : Cond.fieldLink RX7 15 RX7 "minute" "I" ∈ ea_tbl := ea_in (et_5 (List.mem_of_getElem? (i := 174) (by decide +kernel))) rfl
theorem ew_1242 : Cond.fieldLink RX11 413 RX7 "minute" "I" ∈ ea_tbl := ea_in (et_5 (List.mem_of_getElem? (i := 175) (by decide +kernel))) rfl
theorem ew_1243 : Cond.fieldLink RX7 28 RX7 "count" "I" ∈ ea_tbl := ea_in (et_5 (List.mem_of_getElem? (i := 176) (by decide +kernel))) rfl
theorem ew_1244 : Cond.fieldLink RX11 414 RX7 "count" "I" ∈ ea_tbl := ea_in (et_5 (List.mem_of_getElem? (i := 177) (by decide +kernel))) rfl
theorem ew_1245 : Cond.fieldLink RX7 31 RX7 "owed" "I" ∈ ea_tbl := ea_in (et_5 (List.mem_of_getElem? (i := 178) (by decide +kernel))) rfl
theorem ew_1246 : Cond.fieldLink RX11 415 RX7 "owed" "I" ∈ ea_tbl := ea_in (et_5 (List.mem_of_getElem? (i := 179) (by decide +kernel))) rfl
theorem ew_1247 : Cond.fieldLink RX7 24 RX7 "taken" "[I" ∈ ea_tbl := ea_in (et_5 (List.mem_of_getElem? (i := 180) (by decide +kernel))) rfl
theorem ew_1259 : Cond.methodLink RX11 405 yX1_isAboard ∈ ea_tbl := ea_in (et_5 (List.mem_of_getElem? (i := 192) (by decide +kernel))) rfl
theorem ew_1260 : Cond.methodLink RX11 408 yX7_take ∈ ea_tbl := ea_in (et_5 (List.mem_of_getElem? (i := 193) (by decide +kernel))) rfl
theorem ew_1261 : Cond.instanceMethod yX7_take ∈ ea_tbl := ea_in (et_5 (List.mem_of_getElem? (i := 194) (by decide +kernel))) rfl
theorem ew_1262 : Cond.selects RX7 yX7_take yX7_take ∈ ea_tbl := ea_in (et_5 (List.mem_of_getElem? (i := 195) (by decide +kernel))) rfl
theorem ew_1263 : Cond.code yX7_take cX7_take 3 none ∈ ea_tbl := ea_in (et_5 (List.mem_of_getElem? (i := 196) rfl)) rfl
theorem ew_1264 : Cond.methodLink RL 145 yX11_robbery ∈ ea_tbl := ea_in (et_5 (List.mem_of_getElem? (i := 197) (by decide +kernel))) rfl
theorem ew_1265 : Cond.instanceMethod yX11_robbery ∈ ea_tbl := ea_in (et_5 (List.mem_of_getElem? (i := 198) (by decide +kernel))) rfl
theorem ew_1266 : Cond.selects RX11 yX11_robbery yX11_robbery ∈ ea_tbl := ea_in (et_5 (List.mem_of_getElem? (i := 199) (by decide +kernel))) rfl
theorem ew_1267 : Cond.code yX11_robbery cX11_robbery 4 (some .int) ∈ ea_tbl := ea_in (et_5 (List.mem_of_getElem? (i := 200) rfl)) rfl
theorem ew_1268 : Cond.methodLink RX11 417 yX7_letterAt ∈ ea_tbl := ea_in (et_5 (List.mem_of_getElem? (i := 201) (by decide +kernel))) rfl
theorem ew_1269 : Cond.instanceMethod yX7_letterAt ∈ ea_tbl := ea_in (et_5 (List.mem_of_getElem? (i := 202) (by decide +kernel))) rfl
theorem ew_1270 : Cond.selects RX7 yX7_letterAt yX7_letterAt ∈ ea_tbl := ea_in (et_5 (List.mem_of_getElem? (i := 203) (by decide +kernel))) rfl
theorem ew_1271 : Cond.code yX7_letterAt cX7_letterAt 2 (some .int) ∈ ea_tbl := ea_in (et_5 (List.mem_of_getElem? (i := 204) rfl)) rfl
theorem ew_1272 : Cond.methodLink RL 149 yX11_set ∈ ea_tbl := ea_in (et_5 (List.mem_of_getElem? (i := 205) (by decide +kernel))) rfl
theorem ew_1273 : Cond.instanceMethod yX11_set ∈ ea_tbl := ea_in (et_5 (List.mem_of_getElem? (i := 206) (by decide +kernel))) rfl
theorem ew_1274 : Cond.selects RX11 yX11_set yX11_set ∈ ea_tbl := ea_in (et_5 (List.mem_of_getElem? (i := 207) (by decide +kernel))) rfl
theorem ew_1275 : Cond.code yX11_set cX11_set 2 (some .boolean) ∈ ea_tbl := ea_in (et_5 (List.mem_of_getElem? (i := 208) rfl)) rfl
theorem ew_1276 : Cond.methodLink RL 153 yX11_seen ∈ ea_tbl := ea_in (et_5 (List.mem_of_getElem? (i := 209) (by decide +kernel))) rfl
theorem ew_1277 : Cond.instanceMethod yX11_seen ∈ ea_tbl := ea_in (et_5 (List.mem_of_getElem? (i := 210) (by decide +kernel))) rfl
theorem ew_1278 : Cond.selects RX11 yX11_seen yX11_seen ∈ ea_tbl := ea_in (et_5 (List.mem_of_getElem? (i := 211) (by decide +kernel))) rfl
theorem ew_1279 : Cond.code yX11_seen cX11_seen 3 (some .boolean) ∈ ea_tbl := ea_in (et_5 (List.mem_of_getElem? (i := 212) rfl)) rfl
theorem ew_1280 : Cond.methodLink RX11 423 yX2_learn ∈ ea_tbl := ea_in (et_5 (List.mem_of_getElem? (i := 213) (by decide +kernel))) rfl
theorem ew_1281 : Cond.instanceMethod yX2_learn ∈ ea_tbl := ea_in (et_5 (List.mem_of_getElem? (i := 214) (by decide +kernel))) rfl
theorem ew_1282 : Cond.selects RX2 yX2_learn yX2_learn ∈ ea_tbl := ea_in (et_5 (List.mem_of_getElem? (i := 215) (by decide +kernel))) rfl
theorem ew_1283 : Cond.code yX2_learn cX2_learn 6 (some .boolean) ∈ ea_tbl := ea_in (et_5 (List.mem_of_getElem? (i := 216) rfl)) rfl
theorem ew_1284 : Cond.methodLink RX2 21 yX2_shown ∈ ea_tbl := ea_in (et_5 (List.mem_of_getElem? (i := 217) (by decide +kernel))) rfl
theorem ew_1285 : Cond.static yX2_shown ∈ ea_tbl := ea_in (et_5 (List.mem_of_getElem? (i := 218) (by decide +kernel))) rfl
theorem ew_1286 : Cond.code yX2_shown cX2_shown 2 (some .int) ∈ ea_tbl := ea_in (et_5 (List.mem_of_getElem? (i := 219) rfl)) rfl
theorem ew_1287 : Cond.methodLink RL 157 yX11_clock ∈ ea_tbl := ea_in (et_5 (List.mem_of_getElem? (i := 220) (by decide +kernel))) rfl
theorem ew_1288 : Cond.instanceMethod yX11_clock ∈ ea_tbl := ea_in (et_5 (List.mem_of_getElem? (i := 221) (by decide +kernel))) rfl
theorem ew_1289 : Cond.selects RX11 yX11_clock yX11_clock ∈ ea_tbl := ea_in (et_5 (List.mem_of_getElem? (i := 222) (by decide +kernel))) rfl
theorem ew_1290 : Cond.code yX11_clock cX11_clock 3 (some .int) ∈ ea_tbl := ea_in (et_5 (List.mem_of_getElem? (i := 223) rfl)) rfl
theorem ew_1291 : Cond.methodLink RL 161 yX11_trueMinute ∈ ea_tbl := ea_in (et_5 (List.mem_of_getElem? (i := 224) (by decide +kernel))) rfl
theorem ew_1292 : Cond.instanceMethod yX11_trueMinute ∈ ea_tbl := ea_in (et_5 (List.mem_of_getElem? (i := 225) (by decide +kernel))) rfl
theorem ew_1293 : Cond.selects RX11 yX11_trueMinute yX11_trueMinute ∈ ea_tbl := ea_in (et_5 (List.mem_of_getElem? (i := 226) (by decide +kernel))) rfl
theorem ew_1294 : Cond.code yX11_trueMinute cX11_trueMinute 4 (some .int) ∈ ea_tbl := ea_in (et_5 (List.mem_of_getElem? (i := 227) rfl)) rfl
theorem ew_1298 : Cond.code yX2_least cX2_least 3 (some .int) ∈ ea_tbl := ea_in (et_5 (List.mem_of_getElem? (i := 231) rfl)) rfl
theorem ew_1299 : Cond.methodLink RX2 25 yX2_mayShow ∈ ea_tbl := ea_in (et_5 (List.mem_of_getElem? (i := 232) (by decide +kernel))) rfl
theorem ew_1301 : Cond.instanceMethod yX2_mayShow ∈ ea_tbl := ea_in (et_5 (List.mem_of_getElem? (i := 234) (by decide +kernel))) rfl
theorem ew_1302 : Cond.code yX2_mayShow cX2_mayShow 4 (some .boolean) ∈ ea_tbl := ea_in (et_5 (List.mem_of_getElem? (i := 235) rfl)) rfl
theorem ew_1306 : Cond.code yX2_greatest cX2_greatest 3 (some .int) ∈ ea_tbl := ea_in (et_5 (List.mem_of_getElem? (i := 239) rfl)) rfl
theorem ew_1307 : Cond.methodLink RL 165 yX11_tried ∈ ea_tbl := ea_in (et_6 (List.mem_of_getElem? (i := 0) (by decide +kernel))) rfl
theorem ew_1308 : Cond.instanceMethod yX11_tried ∈ ea_tbl := ea_in (et_6 (List.mem_of_getElem? (i := 1) (by decide +kernel))) rfl
theorem ew_1309 : Cond.selects RX11 yX11_tried yX11_tried ∈ ea_tbl := ea_in (et_6 (List.mem_of_getElem? (i := 2) (by decide +kernel))) rfl
theorem ew_1310 : Cond.code yX11_tried cX11_tried 6 (some .long) ∈ ea_tbl := ea_in (et_6 (List.mem_of_getElem? (i := 3) rfl)) rfl
theorem ew_1311 : Cond.methodLink RX11 438 yX8_chargeBy ∈ ea_tbl := ea_in (et_6 (List.mem_of_getElem? (i := 4) (by decide +kernel))) rfl
theorem ew_1312 : Cond.methodLink RL 170 yX11_whatIf ∈ ea_tbl := ea_in (et_6 (List.mem_of_getElem? (i := 5) (by decide +kernel))) rfl
theorem ew_1313 : Cond.instanceMethod yX11_whatIf ∈ ea_tbl := ea_in (et_6 (List.mem_of_getElem? (i := 6) (by decide +kernel))) rfl
theorem ew_1314 : Cond.selects RX11 yX11_whatIf yX11_whatIf ∈ ea_tbl := ea_in (et_6 (List.mem_of_getElem? (i := 7) (by decide +kernel))) rfl
theorem ew_1315 : Cond.code yX11_whatIf cX11_whatIf 7 (some .int) ∈ ea_tbl := ea_in (et_6 (List.mem_of_getElem? (i := 8) rfl)) rfl
theorem ew_1316 : Cond.methodLink RX11 442 yX11_outcome ∈ ea_tbl := ea_in (et_6 (List.mem_of_getElem? (i := 9) (by decide +kernel))) rfl
theorem ew_1318 : Cond.instanceMethod yX11_outcome ∈ ea_tbl := ea_in (et_6 (List.mem_of_getElem? (i := 11) (by decide +kernel))) rfl
theorem ew_1319 : Cond.code yX11_outcome cX11_outcome 1 (some .int) ∈ ea_tbl := ea_in (et_6 (List.mem_of_getElem? (i := 12) rfl)) rfl
theorem ew_1320 : Cond.methodLink RX11 468 yX1_copy ∈ ea_tbl := ea_in (et_6 (List.mem_of_getElem? (i := 13) (by decide +kernel))) rfl
theorem ew_1321 : Cond.instanceMethod yX1_copy ∈ ea_tbl := ea_in (et_6 (List.mem_of_getElem? (i := 14) (by decide +kernel))) rfl
theorem ew_1322 : Cond.selects RX1 yX1_copy yX1_copy ∈ ea_tbl := ea_in (et_6 (List.mem_of_getElem? (i := 15) (by decide +kernel))) rfl
theorem ew_1323 : Cond.code yX1_copy cX1_copy 2 none ∈ ea_tbl := ea_in (et_6 (List.mem_of_getElem? (i := 16) rfl)) rfl
theorem ew_1325 : Cond.methodLink RX11 472 yX1_sumOfMinutes ∈ ea_tbl := ea_in (et_6 (List.mem_of_getElem? (i := 18) (by decide +kernel))) rfl
theorem ew_1326 : Cond.instanceMethod yX1_sumOfMinutes ∈ ea_tbl := ea_in (et_6 (List.mem_of_getElem? (i := 19) (by decide +kernel))) rfl
theorem ew_1327 : Cond.selects RX1 yX1_sumOfMinutes yX1_sumOfMinutes ∈ ea_tbl := ea_in (et_6 (List.mem_of_getElem? (i := 20) (by decide +kernel))) rfl
theorem ew_1328 : Cond.code yX1_sumOfMinutes cX1_sumOfMinutes 3 (some .int) ∈ ea_tbl := ea_in (et_6 (List.mem_of_getElem? (i := 21) rfl)) rfl
theorem ew_1329 : Cond.methodLink RL 174 yX11_seats ∈ ea_tbl := ea_in (et_6 (List.mem_of_getElem? (i := 22) (by decide +kernel))) rfl
theorem ew_1330 : Cond.instanceMethod yX11_seats ∈ ea_tbl := ea_in (et_6 (List.mem_of_getElem? (i := 23) (by decide +kernel))) rfl
theorem ew_1331 : Cond.selects RX11 yX11_seats yX11_seats ∈ ea_tbl := ea_in (et_6 (List.mem_of_getElem? (i := 24) (by decide +kernel))) rfl
theorem ew_1332 : Cond.code yX11_seats cX11_seats 2 (some .int) ∈ ea_tbl := ea_in (et_6 (List.mem_of_getElem? (i := 25) rfl)) rfl
theorem ew_1333 : Cond.methodLink RX11 448 yX11_seekSeats ∈ ea_tbl := ea_in (et_6 (List.mem_of_getElem? (i := 26) (by decide +kernel))) rfl
theorem ew_1335 : Cond.instanceMethod yX11_seekSeats ∈ ea_tbl := ea_in (et_6 (List.mem_of_getElem? (i := 28) (by decide +kernel))) rfl
theorem ew_1336 : Cond.code yX11_seekSeats cX11_seekSeats 7 none ∈ ea_tbl := ea_in (et_6 (List.mem_of_getElem? (i := 29) rfl)) rfl
theorem ew_1337 : Cond.constant RX11 477 2147483647 ∈ ea_tbl := ea_in (et_6 (List.mem_of_getElem? (i := 30) (by decide +kernel))) rfl
theorem ew_1338 : Cond.classLink RL 10 RX12 ∈ ea_tbl := ea_in (et_6 (List.mem_of_getElem? (i := 31) (by decide +kernel))) rfl
theorem ew_1339 : Cond.instantiable RX12 118 ∈ ea_tbl := ea_in (et_6 (List.mem_of_getElem? (i := 32) (by decide +kernel))) rfl
theorem ew_1340 : Cond.methodLink RL 12 yX12_init ∈ ea_tbl := ea_in (et_6 (List.mem_of_getElem? (i := 33) (by decide +kernel))) rfl
theorem ew_1341 : Cond.instanceMethod yX12_init ∈ ea_tbl := ea_in (et_6 (List.mem_of_getElem? (i := 34) (by decide +kernel))) rfl
theorem ew_1342 : Cond.code yX12_init cX12_init 2 none ∈ ea_tbl := ea_in (et_6 (List.mem_of_getElem? (i := 35) rfl)) rfl
theorem ew_1343 : Cond.methodLink RX12 1 Lib.objectInit ∈ ea_tbl := ea_in (et_6 (List.mem_of_getElem? (i := 36) (by decide +kernel))) rfl
theorem ew_1344 : Cond.constant RX12 198 120000 ∈ ea_tbl := ea_in (et_6 (List.mem_of_getElem? (i := 37) (by decide +kernel))) rfl
theorem ew_1345 : Cond.fieldLink RX12 313 RX12 "now" "I" ∈ ea_tbl := ea_in (et_6 (List.mem_of_getElem? (i := 38) (by decide +kernel))) rfl
theorem ew_1346 : Cond.fieldLink RX12 283 RX12 "towns" "I" ∈ ea_tbl := ea_in (et_6 (List.mem_of_getElem? (i := 39) (by decide +kernel))) rfl
theorem ew_1347 : Cond.fieldLink RX12 290 RX12 "trains" "I" ∈ ea_tbl := ea_in (et_6 (List.mem_of_getElem? (i := 40) (by decide +kernel))) rfl
theorem ew_1348 : Cond.fieldLink RX12 7 RX12 "road" "[I" ∈ ea_tbl := ea_in (et_6 (List.mem_of_getElem? (i := 41) (by decide +kernel))) rfl
theorem ew_1349 : Cond.fieldLink RX12 13 RX12 "stops" "[I" ∈ ea_tbl := ea_in (et_6 (List.mem_of_getElem? (i := 42) (by decide +kernel))) rfl
theorem ew_1350 : Cond.fieldLink RX12 16 RX12 "stopTown" "[I" ∈ ea_tbl := ea_in (et_6 (List.mem_of_getElem? (i := 43) (by decide +kernel))) rfl
theorem ew_1351 : Cond.fieldLink RX12 19 RX12 "comes" "[I" ∈ ea_tbl := ea_in (et_6 (List.mem_of_getElem? (i := 44) (by decide +kernel))) rfl
theorem ew_1352 : Cond.fieldLink RX12 22 RX12 "goes" "[I" ∈ ea_tbl := ea_in (et_6 (List.mem_of_getElem? (i := 45) (by decide +kernel))) rfl
theorem ew_1353 : Cond.fieldLink RX12 25 RX12 "late" "[I" ∈ ea_tbl := ea_in (et_6 (List.mem_of_getElem? (i := 46) (by decide +kernel))) rfl
theorem ew_1354 : Cond.fieldLink RX12 28 RX12 "fast" "[Z" ∈ ea_tbl := ea_in (et_6 (List.mem_of_getElem? (i := 47) (by decide +kernel))) rfl
theorem ew_1355 : Cond.fieldLink RX12 32 RX12 "missed" "[Z" ∈ ea_tbl := ea_in (et_6 (List.mem_of_getElem? (i := 48) (by decide +kernel))) rfl
theorem ew_1356 : Cond.fieldLink RX12 35 RX12 "far" "[I" ∈ ea_tbl := ea_in (et_6 (List.mem_of_getElem? (i := 49) (by decide +kernel))) rfl
theorem ew_1357 : Cond.fieldLink RX12 293 RX12 "known" "Z" ∈ ea_tbl := ea_in (et_6 (List.mem_of_getElem? (i := 50) (by decide +kernel))) rfl
theorem ew_1358 : Cond.fieldLink RX12 335 RX12 "happens" "I" ∈ ea_tbl := ea_in (et_6 (List.mem_of_getElem? (i := 51) (by decide +kernel))) rfl
theorem ew_1359 : Cond.fieldLink RX12 38 RX12 "evMinute" "[I" ∈ ea_tbl := ea_in (et_6 (List.mem_of_getElem? (i := 52) (by decide +kernel))) rfl
theorem ew_1360 : Cond.fieldLink RX12 41 RX12 "evKind" "[I" ∈ ea_tbl := ea_in (et_6 (List.mem_of_getElem? (i := 53) (by decide +kernel))) rfl
theorem ew_1361 : Cond.fieldLink RX12 44 RX12 "evRun" "[I" ∈ ea_tbl := ea_in (et_6 (List.mem_of_getElem? (i := 54) (by decide +kernel))) rfl
theorem ew_1362 : Cond.fieldLink RX12 47 RX12 "evStop" "[I" ∈ ea_tbl := ea_in (et_6 (List.mem_of_getElem? (i := 55) (by decide +kernel))) rfl
theorem ew_1363 : Cond.fieldLink RX12 50 RX12 "next" "[I" ∈ ea_tbl := ea_in (et_6 (List.mem_of_getElem? (i := 56) (by decide +kernel))) rfl
theorem ew_1364 : Cond.fieldLink RX12 53 RX12 "wayAt" "[I" ∈ ea_tbl := ea_in (et_6 (List.mem_of_getElem? (i := 57) (by decide +kernel))) rfl
theorem ew_1365 : Cond.fieldLink RX12 56 RX12 "wayRuns" "[I" ∈ ea_tbl := ea_in (et_6 (List.mem_of_getElem? (i := 58) (by decide +kernel))) rfl
theorem ew_1366 : Cond.fieldLink RX12 59 RX12 "wayLeft" "[I" ∈ ea_tbl := ea_in (et_6 (List.mem_of_getElem? (i := 59) (by decide +kernel))) rfl
theorem ew_1367 : Cond.fieldLink RX12 62 RX12 "bestGoing" "[I" ∈ ea_tbl := ea_in (et_6 (List.mem_of_getElem? (i := 60) (by decide +kernel))) rfl
theorem ew_1368 : Cond.fieldLink RX12 65 RX12 "behind" "[I" ∈ ea_tbl := ea_in (et_6 (List.mem_of_getElem? (i := 61) (by decide +kernel))) rfl
theorem ew_1369 : Cond.fieldLink RX12 68 RX12 "firstIn" "[I" ∈ ea_tbl := ea_in (et_6 (List.mem_of_getElem? (i := 62) (by decide +kernel))) rfl
theorem ew_1370 : Cond.fieldLink RX12 522 RX12 "acts" "I" ∈ ea_tbl := ea_in (et_6 (List.mem_of_getElem? (i := 63) (by decide +kernel))) rfl
theorem ew_1371 : Cond.fieldLink RX12 71 RX12 "actFrom" "[I" ∈ ea_tbl := ea_in (et_6 (List.mem_of_getElem? (i := 64) (by decide +kernel))) rfl
theorem ew_1372 : Cond.fieldLink RX12 74 RX12 "actLines" "[I" ∈ ea_tbl := ea_in (et_6 (List.mem_of_getElem? (i := 65) (by decide +kernel))) rfl
theorem ew_1373 : Cond.fieldLink RX12 77 RX12 "lateBy" "[I" ∈ ea_tbl := ea_in (et_6 (List.mem_of_getElem? (i := 66) (by decide +kernel))) rfl
theorem ew_1374 : Cond.fieldLink RX12 80 RX12 "lateAfter" "[I" ∈ ea_tbl := ea_in (et_6 (List.mem_of_getElem? (i := 67) (by decide +kernel))) rfl
theorem ew_1375 : Cond.fieldLink RX12 83 RX12 "frankBy" "[I" ∈ ea_tbl := ea_in (et_6 (List.mem_of_getElem? (i := 68) (by decide +kernel))) rfl
theorem ew_1376 : Cond.fieldLink RX12 86 RX12 "shipBy" "[I" ∈ ea_tbl := ea_in (et_6 (List.mem_of_getElem? (i := 69) (by decide +kernel))) rfl
theorem ew_1377 : Cond.fieldLink RX12 89 RX12 "signBy" "[I" ∈ ea_tbl := ea_in (et_6 (List.mem_of_getElem? (i := 70) (by decide +kernel))) rfl
theorem ew_1378 : Cond.fieldLink RX12 92 RX12 "deadBy" "[I" ∈ ea_tbl := ea_in (et_6 (List.mem_of_getElem? (i := 71) (by decide +kernel))) rfl
theorem ew_1379 : Cond.fieldLink RX12 95 RX12 "charges" "[I" ∈ ea_tbl := ea_in (et_6 (List.mem_of_getElem? (i := 72) (by decide +kernel))) rfl
theorem ew_1380 : Cond.fieldLink RX12 98 RX12 "from" "[I" ∈ ea_tbl := ea_in (et_6 (List.mem_of_getElem? (i := 73) (by decide +kernel))) rfl
theorem ew_1381 : Cond.fieldLink RX12 101 RX12 "when" "[I" ∈ ea_tbl := ea_in (et_6 (List.mem_of_getElem? (i := 74) (by decide +kernel))) rfl
theorem ew_1382 : Cond.fieldLink RX12 104 RX12 "step" "[I" ∈ ea_tbl := ea_in (et_6 (List.mem_of_getElem? (i := 75) (by decide +kernel))) rfl
theorem ew_1383 : Cond.fieldLink RX12 107 RX12 "freshFrom" "[I" ∈ ea_tbl := ea_in (et_6 (List.mem_of_getElem? (i := 76) (by decide +kernel))) rfl
theorem ew_1384 : Cond.fieldLink RX12 110 RX12 "freshWhen" "[I" ∈ ea_tbl := ea_in (et_6 (List.mem_of_getElem? (i := 77) (by decide +kernel))) rfl
theorem ew_1385 : Cond.fieldLink RX12 113 RX12 "fresh" "[I" ∈ ea_tbl := ea_in (et_6 (List.mem_of_getElem? (i := 78) (by decide +kernel))) rfl
theorem ew_1386 : Cond.fieldLink RX12 116 RX12 "tape" "[I" ∈ ea_tbl := ea_in (et_6 (List.mem_of_getElem? (i := 79) (by decide +kernel))) rfl
theorem ew_1387 : Cond.fieldLink RX12 119 RX12 "pile" "[I" ∈ ea_tbl := ea_in (et_6 (List.mem_of_getElem? (i := 80) (by decide +kernel))) rfl
theorem ew_1388 : Cond.fieldLink RX12 513 RX12 "freshLines" "I" ∈ ea_tbl := ea_in (et_6 (List.mem_of_getElem? (i := 81) (by decide +kernel))) rfl
theorem ew_1389 : Cond.fieldLink RX12 483 RX12 "freshCharges" "I" ∈ ea_tbl := ea_in (et_6 (List.mem_of_getElem? (i := 82) (by decide +kernel))) rfl
theorem ew_1390 : Cond.fieldLink RX12 452 RX12 "freshSteps" "I" ∈ ea_tbl := ea_in (et_6 (List.mem_of_getElem? (i := 83) (by decide +kernel))) rfl
theorem ew_1391 : Cond.fieldLink RX12 495 RX12 "freshLate" "I" ∈ ea_tbl := ea_in (et_6 (List.mem_of_getElem? (i := 84) (by decide +kernel))) rfl
theorem ew_1392 : Cond.fieldLink RX12 498 RX12 "freshAfter" "I" ∈ ea_tbl := ea_in (et_6 (List.mem_of_getElem? (i := 85) (by decide +kernel))) rfl
theorem ew_1393 : Cond.fieldLink RX12 501 RX12 "freshFrank" "I" ∈ ea_tbl := ea_in (et_6 (List.mem_of_getElem? (i := 86) (by decide +kernel))) rfl
theorem ew_1394 : Cond.fieldLink RX12 504 RX12 "freshShip" "I" ∈ ea_tbl := ea_in (et_6 (List.mem_of_getElem? (i := 87) (by decide +kernel))) rfl
theorem ew_1395 : Cond.fieldLink RX12 507 RX12 "freshSign" "I" ∈ ea_tbl := ea_in (et_6 (List.mem_of_getElem? (i := 88) (by decide +kernel))) rfl
theorem ew_1396 : Cond.fieldLink RX12 510 RX12 "freshDead" "I" ∈ ea_tbl := ea_in (et_6 (List.mem_of_getElem? (i := 89) (by decide +kernel))) rfl
theorem ew_1397 : Cond.fieldLink RX12 364 RX12 "taped" "I" ∈ ea_tbl := ea_in (et_6 (List.mem_of_getElem? (i := 90) (by decide +kernel))) rfl
theorem ew_1398 : Cond.fieldLink RX12 367 RX12 "at" "I" ∈ ea_tbl := ea_in (et_6 (List.mem_of_getElem? (i := 91) (by decide +kernel))) rfl
theorem ew_1399 : Cond.fieldLink RX12 422 RX12 "token" "I" ∈ ea_tbl := ea_in (et_6 (List.mem_of_getElem? (i := 92) (by decide +kernel))) rfl
theorem ew_1400 : Cond.fieldLink RX12 370 RX12 "tokenAt" "I" ∈ ea_tbl := ea_in (et_6 (List.mem_of_getElem? (i := 93) (by decide +kernel))) rfl
theorem ew_1401 : Cond.fieldLink RX12 434 RX12 "value" "I" ∈ ea_tbl := ea_in (et_6 (List.mem_of_getElem? (i := 94) (by decide +kernel))) rfl
theorem ew_1402 : Cond.fieldLink RX12 437 RX12 "wrong" "I" ∈ ea_tbl := ea_in (et_6 (List.mem_of_getElem? (i := 95) (by decide +kernel))) rfl
theorem ew_1403 : Cond.fieldLink RX12 440 RX12 "wrongAt" "I" ∈ ea_tbl := ea_in (et_6 (List.mem_of_getElem? (i := 96) (by decide +kernel))) rfl
theorem ew_1404 : Cond.fieldLink RX12 519 RX12 "faultKind" "I" ∈ ea_tbl := ea_in (et_6 (List.mem_of_getElem? (i := 97) (by decide +kernel))) rfl
theorem ew_1405 : Cond.fieldLink RX12 455 RX12 "depth" "I" ∈ ea_tbl := ea_in (et_6 (List.mem_of_getElem? (i := 98) (by decide +kernel))) rfl
theorem ew_1406 : Cond.fieldLink RX12 449 RX12 "number" "I" ∈ ea_tbl := ea_in (et_6 (List.mem_of_getElem? (i := 99) (by decide +kernel))) rfl
theorem ew_1407 : Cond.fieldLink RX12 122 RX12 "faultPlace" "I" ∈ ea_tbl := ea_in (et_6 (List.mem_of_getElem? (i := 100) (by decide +kernel))) rfl
theorem ew_1408 : Cond.fieldLink RX12 531 RX12 "letters" "I" ∈ ea_tbl := ea_in (et_6 (List.mem_of_getElem? (i := 101) (by decide +kernel))) rfl
theorem ew_1409 : Cond.fieldLink RX12 126 RX12 "kind" "[I" ∈ ea_tbl := ea_in (et_6 (List.mem_of_getElem? (i := 102) (by decide +kernel))) rfl
theorem ew_1410 : Cond.fieldLink RX12 129 RX12 "postedAt" "[I" ∈ ea_tbl := ea_in (et_6 (List.mem_of_getElem? (i := 103) (by decide +kernel))) rfl
theorem ew_1411 : Cond.fieldLink RX12 132 RX12 "postedTo" "[I" ∈ ea_tbl := ea_in (et_6 (List.mem_of_getElem? (i := 104) (by decide +kernel))) rfl
theorem ew_1412 : Cond.fieldLink RX12 135 RX12 "sheets" "[I" ∈ ea_tbl := ea_in (et_6 (List.mem_of_getElem? (i := 105) (by decide +kernel))) rfl
theorem ew_1413 : Cond.fieldLink RX12 138 RX12 "weight" "[I" ∈ ea_tbl := ea_in (et_6 (List.mem_of_getElem? (i := 106) (by decide +kernel))) rfl
theorem ew_1414 : Cond.fieldLink RX12 141 RX12 "who" "[I" ∈ ea_tbl := ea_in (et_6 (List.mem_of_getElem? (i := 107) (by decide +kernel))) rfl
theorem ew_1415 : Cond.fieldLink RX12 144 RX12 "posted" "[I" ∈ ea_tbl := ea_in (et_6 (List.mem_of_getElem? (i := 108) (by decide +kernel))) rfl
theorem ew_1416 : Cond.fieldLink RX12 147 RX12 "milesWere" "[I" ∈ ea_tbl := ea_in (et_6 (List.mem_of_getElem? (i := 109) (by decide +kernel))) rfl
theorem ew_1417 : Cond.fieldLink RX12 150 RX12 "frankNumber" "[I" ∈ ea_tbl := ea_in (et_6 (List.mem_of_getElem? (i := 110) (by decide +kernel))) rfl
theorem ew_1418 : Cond.fieldLink RX12 153 RX12 "letterAct" "[I" ∈ ea_tbl := ea_in (et_6 (List.mem_of_getElem? (i := 111) (by decide +kernel))) rfl
theorem ew_1419 : Cond.fieldLink RX12 156 RX12 "chargeAll" "[I" ∈ ea_tbl := ea_in (et_6 (List.mem_of_getElem? (i := 112) (by decide +kernel))) rfl
theorem ew_1420 : Cond.fieldLink RX12 159 RX12 "chargeLine" "[I" ∈ ea_tbl := ea_in (et_6 (List.mem_of_getElem? (i := 113) (by decide +kernel))) rfl
theorem ew_1421 : Cond.fieldLink RX12 162 RX12 "leadRows" "[I" ∈ ea_tbl := ea_in (et_6 (List.mem_of_getElem? (i := 114) (by decide +kernel))) rfl
theorem ew_1422 : Cond.fieldLink RX12 165 RX12 "deadFor" "[I" ∈ ea_tbl := ea_in (et_6 (List.mem_of_getElem? (i := 115) (by decide +kernel))) rfl
theorem ew_1423 : Cond.fieldLink RX12 168 RX12 "crossWas" "[Z" ∈ ea_tbl := ea_in (et_6 (List.mem_of_getElem? (i := 116) (by decide +kernel))) rfl
theorem ew_1424 : Cond.fieldLink RX12 171 RX12 "free" "[Z" ∈ ea_tbl := ea_in (et_6 (List.mem_of_getElem? (i := 117) (by decide +kernel))) rfl
theorem ew_1425 : Cond.fieldLink RX12 174 RX12 "isNobody" "[Z" ∈ ea_tbl := ea_in (et_6 (List.mem_of_getElem? (i := 118) (by decide +kernel))) rfl
theorem ew_1426 : Cond.fieldLink RX12 177 RX12 "state" "[I" ∈ ea_tbl := ea_in (et_6 (List.mem_of_getElem? (i := 119) (by decide +kernel))) rfl
theorem ew_1427 : Cond.fieldLink RX12 180 RX12 "place" "[I" ∈ ea_tbl := ea_in (et_6 (List.mem_of_getElem? (i := 120) (by decide +kernel))) rfl
theorem ew_1428 : Cond.fieldLink RX12 183 RX12 "forStop" "[I" ∈ ea_tbl := ea_in (et_6 (List.mem_of_getElem? (i := 121) (by decide +kernel))) rfl
theorem ew_1429 : Cond.fieldLink RX12 186 RX12 "left" "[I" ∈ ea_tbl := ea_in (et_6 (List.mem_of_getElem? (i := 122) (by decide +kernel))) rfl
theorem ew_1430 : Cond.fieldLink RX12 189 RX12 "changed" "[I" ∈ ea_tbl := ea_in (et_6 (List.mem_of_getElem? (i := 123) (by decide +kernel))) rfl
theorem ew_1431 : Cond.fieldLink RX12 192 RX12 "runLeft" "[I" ∈ ea_tbl := ea_in (et_6 (List.mem_of_getElem? (i := 124) (by decide +kernel))) rfl
theorem ew_1432 : Cond.fieldLink RX12 195 RX12 "sorted" "[Z" ∈ ea_tbl := ea_in (et_6 (List.mem_of_getElem? (i := 125) (by decide +kernel))) rfl
theorem ew_1433 : Cond.fieldLink RX12 199 RX12 "leadMinute" "[I" ∈ ea_tbl := ea_in (et_6 (List.mem_of_getElem? (i := 126) (by decide +kernel))) rfl
theorem ew_1434 : Cond.fieldLink RX12 202 RX12 "leadState" "[I" ∈ ea_tbl := ea_in (et_6 (List.mem_of_getElem? (i := 127) (by decide +kernel))) rfl
theorem ew_1435 : Cond.fieldLink RX12 205 RX12 "leadPlace" "[I" ∈ ea_tbl := ea_in (et_6 (List.mem_of_getElem? (i := 128) (by decide +kernel))) rfl
theorem ew_1436 : Cond.fieldLink RX12 208 RX12 "facts" "[I" ∈ ea_tbl := ea_in (et_6 (List.mem_of_getElem? (i := 129) (by decide +kernel))) rfl
theorem ew_1437 : Cond.fieldLink RX12 569 RX12 "sorters" "I" ∈ ea_tbl := ea_in (et_6 (List.mem_of_getElem? (i := 130) (by decide +kernel))) rfl
theorem ew_1438 : Cond.fieldLink RX12 211 RX12 "speed" "[I" ∈ ea_tbl := ea_in (et_6 (List.mem_of_getElem? (i := 131) (by decide +kernel))) rfl
theorem ew_1439 : Cond.fieldLink RX12 214 RX12 "knows" "[I" ∈ ea_tbl := ea_in (et_6 (List.mem_of_getElem? (i := 132) (by decide +kernel))) rfl
theorem ew_1440 : Cond.fieldLink RX12 217 RX12 "seatOf" "[I" ∈ ea_tbl := ea_in (et_6 (List.mem_of_getElem? (i := 133) (by decide +kernel))) rfl
theorem ew_1441 : Cond.fieldLink RX12 220 RX12 "timeLeft" "[I" ∈ ea_tbl := ea_in (et_6 (List.mem_of_getElem? (i := 134) (by decide +kernel))) rfl
theorem ew_1442 : Cond.fieldLink RX12 223 RX12 "places" "[I" ∈ ea_tbl := ea_in (et_6 (List.mem_of_getElem? (i := 135) (by decide +kernel))) rfl
theorem ew_1443 : Cond.fieldLink RX12 226 RX12 "placeTown" "[I" ∈ ea_tbl := ea_in (et_6 (List.mem_of_getElem? (i := 136) (by decide +kernel))) rfl
theorem ew_1444 : Cond.fieldLink RX12 229 RX12 "placeChance" "[I" ∈ ea_tbl := ea_in (et_6 (List.mem_of_getElem? (i := 137) (by decide +kernel))) rfl
theorem ew_1445 : Cond.fieldLink RX12 614 RX12 "robberies" "I" ∈ ea_tbl := ea_in (et_6 (List.mem_of_getElem? (i := 138) (by decide +kernel))) rfl
theorem ew_1446 : Cond.fieldLink RX12 232 RX12 "robbedRun" "[I" ∈ ea_tbl := ea_in (et_6 (List.mem_of_getElem? (i := 139) (by decide +kernel))) rfl
theorem ew_1447 : Cond.fieldLink RX12 235 RX12 "robbedAt" "[I" ∈ ea_tbl := ea_in (et_6 (List.mem_of_getElem? (i := 140) (by decide +kernel))) rfl
theorem ew_1448 : Cond.fieldLink RX12 238 RX12 "robbedMany" "[I" ∈ ea_tbl := ea_in (et_6 (List.mem_of_getElem? (i := 141) (by decide +kernel))) rfl
theorem ew_1449 : Cond.fieldLink RX12 241 RX12 "robbedOwed" "[I" ∈ ea_tbl := ea_in (et_6 (List.mem_of_getElem? (i := 142) (by decide +kernel))) rfl
theorem ew_1450 : Cond.fieldLink RX12 244 RX12 "robbed" "[I" ∈ ea_tbl := ea_in (et_6 (List.mem_of_getElem? (i := 143) (by decide +kernel))) rfl
theorem ew_1451 : Cond.fieldLink RX12 247 RX12 "low" "[I" ∈ ea_tbl := ea_in (et_6 (List.mem_of_getElem? (i := 144) (by decide +kernel))) rfl
theorem ew_1452 : Cond.fieldLink RX12 250 RX12 "high" "[I" ∈ ea_tbl := ea_in (et_6 (List.mem_of_getElem? (i := 145) (by decide +kernel))) rfl
theorem ew_1453 : Cond.fieldLink RX12 253 RX12 "setAt" "[I" ∈ ea_tbl := ea_in (et_6 (List.mem_of_getElem? (i := 146) (by decide +kernel))) rfl
theorem ew_1454 : Cond.fieldLink RX12 256 RX12 "stateHad" "[I" ∈ ea_tbl := ea_in (et_6 (List.mem_of_getElem? (i := 147) (by decide +kernel))) rfl
theorem ew_1455 : Cond.fieldLink RX12 259 RX12 "placeHad" "[I" ∈ ea_tbl := ea_in (et_6 (List.mem_of_getElem? (i := 148) (by decide +kernel))) rfl
theorem ew_1456 : Cond.fieldLink RX12 262 RX12 "forStopHad" "[I" ∈ ea_tbl := ea_in (et_6 (List.mem_of_getElem? (i := 149) (by decide +kernel))) rfl
theorem ew_1457 : Cond.fieldLink RX12 265 RX12 "leftHad" "[I" ∈ ea_tbl := ea_in (et_6 (List.mem_of_getElem? (i := 150) (by decide +kernel))) rfl
theorem ew_1458 : Cond.fieldLink RX12 268 RX12 "changedHad" "[I" ∈ ea_tbl := ea_in (et_6 (List.mem_of_getElem? (i := 151) (by decide +kernel))) rfl
theorem ew_1459 : Cond.fieldLink RX12 271 RX12 "rowsHad" "[I" ∈ ea_tbl := ea_in (et_6 (List.mem_of_getElem? (i := 152) (by decide +kernel))) rfl
theorem ew_1460 : Cond.fieldLink RX12 274 RX12 "deadHad" "[I" ∈ ea_tbl := ea_in (et_6 (List.mem_of_getElem? (i := 153) (by decide +kernel))) rfl
theorem ew_1461 : Cond.fieldLink RX12 277 RX12 "runLeftHad" "[I" ∈ ea_tbl := ea_in (et_6 (List.mem_of_getElem? (i := 154) (by decide +kernel))) rfl
theorem ew_1462 : Cond.fieldLink RX12 280 RX12 "sortedHad" "[Z" ∈ ea_tbl := ea_in (et_6 (List.mem_of_getElem? (i := 155) (by decide +kernel))) rfl
theorem ew_1700 : Cond.methodLink RL 17 yX12_town ∈ ea_tbl := ea_in (et_7 (List.mem_of_getElem? (i := 153) (by decide +kernel))) rfl
theorem ew_1701 : Cond.instanceMethod yX12_town ∈ ea_tbl := ea_in (et_7 (List.mem_of_getElem? (i := 154) (by decide +kernel))) rfl
theorem ew_1702 : Cond.selects RX12 yX12_town yX12_town ∈ ea_tbl := ea_in (et_7 (List.mem_of_getElem? (i := 155) (by decide +kernel))) rfl
theorem ew_1703 : Cond.code yX12_town cX12_town 1 (some .int) ∈ ea_tbl := ea_in (et_7 (List.mem_of_getElem? (i := 156) rfl)) rfl
theorem ew_1704 : Cond.methodLink RL 22 yX12_road ∈ ea_tbl := ea_in (et_7 (List.mem_of_getElem? (i := 157) (by decide +kernel))) rfl
theorem ew_1705 : Cond.instanceMethod yX12_road ∈ ea_tbl := ea_in (et_7 (List.mem_of_getElem? (i := 158) (by decide +kernel))) rfl
theorem ew_1706 : Cond.selects RX12 yX12_road yX12_road ∈ ea_tbl := ea_in (et_7 (List.mem_of_getElem? (i := 159) (by decide +kernel))) rfl
theorem ew_1707 : Cond.code yX12_road cX12_road 4 (some .boolean) ∈ ea_tbl := ea_in (et_7 (List.mem_of_getElem? (i := 160) rfl)) rfl
theorem ew_1708 : Cond.methodLink RX12 297 yX12_isTown ∈ ea_tbl := ea_in (et_7 (List.mem_of_getElem? (i := 161) (by decide +kernel))) rfl
theorem ew_1710 : Cond.instanceMethod yX12_isTown ∈ ea_tbl := ea_in (et_7 (List.mem_of_getElem? (i := 163) (by decide +kernel))) rfl
theorem ew_1711 : Cond.code yX12_isTown cX12_isTown 2 (some .boolean) ∈ ea_tbl := ea_in (et_7 (List.mem_of_getElem? (i := 164) rfl)) rfl
theorem ew_1712 : Cond.methodLink RX12 286 yX12_isIn ∈ ea_tbl := ea_in (et_7 (List.mem_of_getElem? (i := 165) (by decide +kernel))) rfl
theorem ew_1713 : Cond.static yX12_isIn ∈ ea_tbl := ea_in (et_7 (List.mem_of_getElem? (i := 166) (by decide +kernel))) rfl
theorem ew_1714 : Cond.code yX12_isIn cX12_isIn 3 (some .boolean) ∈ ea_tbl := ea_in (et_7 (List.mem_of_getElem? (i := 167) rfl)) rfl
theorem ew_1715 : Cond.methodLink RL 27 yX12_miles ∈ ea_tbl := ea_in (et_7 (List.mem_of_getElem? (i := 168) (by decide +kernel))) rfl
theorem ew_1716 : Cond.instanceMethod yX12_miles ∈ ea_tbl := ea_in (et_7 (List.mem_of_getElem? (i := 169) (by decide +kernel))) rfl
theorem ew_1717 : Cond.selects RX12 yX12_miles yX12_miles ∈ ea_tbl := ea_in (et_7 (List.mem_of_getElem? (i := 170) (by decide +kernel))) rfl
theorem ew_1718 : Cond.code yX12_miles cX12_miles 4 (some .int) ∈ ea_tbl := ea_in (et_7 (List.mem_of_getElem? (i := 171) rfl)) rfl
theorem ew_1719 : Cond.methodLink RX12 306 yX12_milesOf ∈ ea_tbl := ea_in (et_7 (List.mem_of_getElem? (i := 172) (by decide +kernel))) rfl
theorem ew_1721 : Cond.instanceMethod yX12_milesOf ∈ ea_tbl := ea_in (et_7 (List.mem_of_getElem? (i := 174) (by decide +kernel))) rfl
theorem ew_1722 : Cond.code yX12_milesOf cX12_milesOf 4 (some .int) ∈ ea_tbl := ea_in (et_7 (List.mem_of_getElem? (i := 175) rfl)) rfl
theorem ew_1723 : Cond.methodLink RX12 302 yX12_spreads ∈ ea_tbl := ea_in (et_7 (List.mem_of_getElem? (i := 176) (by decide +kernel))) rfl
theorem ew_1725 : Cond.instanceMethod yX12_spreads ∈ ea_tbl := ea_in (et_7 (List.mem_of_getElem? (i := 178) (by decide +kernel))) rfl
theorem ew_1726 : Cond.code yX12_spreads cX12_spreads 7 none ∈ ea_tbl := ea_in (et_7 (List.mem_of_getElem? (i := 179) rfl)) rfl
theorem ew_1727 : Cond.constant RX12 301 1000000 ∈ ea_tbl := ea_in (et_7 (List.mem_of_getElem? (i := 180) (by decide +kernel))) rfl
theorem ew_1728 : Cond.methodLink RL 31 yX12_train ∈ ea_tbl := ea_in (et_7 (List.mem_of_getElem? (i := 181) (by decide +kernel))) rfl
theorem ew_1729 : Cond.instanceMethod yX12_train ∈ ea_tbl := ea_in (et_7 (List.mem_of_getElem? (i := 182) (by decide +kernel))) rfl
theorem ew_1730 : Cond.selects RX12 yX12_train yX12_train ∈ ea_tbl := ea_in (et_7 (List.mem_of_getElem? (i := 183) (by decide +kernel))) rfl
theorem ew_1731 : Cond.code yX12_train cX12_train 1 (some .int) ∈ ea_tbl := ea_in (et_7 (List.mem_of_getElem? (i := 184) rfl)) rfl
theorem ew_1732 : Cond.methodLink RL 36 yX12_stop ∈ ea_tbl := ea_in (et_7 (List.mem_of_getElem? (i := 185) (by decide +kernel))) rfl
theorem ew_1733 : Cond.instanceMethod yX12_stop ∈ ea_tbl := ea_in (et_7 (List.mem_of_getElem? (i := 186) (by decide +kernel))) rfl
theorem ew_1734 : Cond.selects RX12 yX12_stop yX12_stop ∈ ea_tbl := ea_in (et_7 (List.mem_of_getElem? (i := 187) (by decide +kernel))) rfl
theorem ew_1735 : Cond.code yX12_stop cX12_stop 7 (some .int) ∈ ea_tbl := ea_in (et_7 (List.mem_of_getElem? (i := 188) rfl)) rfl
theorem ew_1736 : Cond.methodLink RX12 310 yX12_isTrain ∈ ea_tbl := ea_in (et_7 (List.mem_of_getElem? (i := 189) (by decide +kernel))) rfl
theorem ew_1738 : Cond.instanceMethod yX12_isTrain ∈ ea_tbl := ea_in (et_7 (List.mem_of_getElem? (i := 191) (by decide +kernel))) rfl
theorem ew_1739 : Cond.code yX12_isTrain cX12_isTrain 2 (some .boolean) ∈ ea_tbl := ea_in (et_7 (List.mem_of_getElem? (i := 192) rfl)) rfl
theorem ew_1740 : Cond.methodLink RL 41 yX12_stopOf ∈ ea_tbl := ea_in (et_7 (List.mem_of_getElem? (i := 193) (by decide +kernel))) rfl
theorem ew_1741 : Cond.instanceMethod yX12_stopOf ∈ ea_tbl := ea_in (et_7 (List.mem_of_getElem? (i := 194) (by decide +kernel))) rfl
theorem ew_1742 : Cond.selects RX12 yX12_stopOf yX12_stopOf ∈ ea_tbl := ea_in (et_7 (List.mem_of_getElem? (i := 195) (by decide +kernel))) rfl
theorem ew_1743 : Cond.code yX12_stopOf cX12_stopOf 5 (some .int) ∈ ea_tbl := ea_in (et_7 (List.mem_of_getElem? (i := 196) rfl)) rfl
theorem ew_1744 : Cond.methodLink RL 45 yX12_late ∈ ea_tbl := ea_in (et_7 (List.mem_of_getElem? (i := 197) (by decide +kernel))) rfl
theorem ew_1745 : Cond.instanceMethod yX12_late ∈ ea_tbl := ea_in (et_7 (List.mem_of_getElem? (i := 198) (by decide +kernel))) rfl
theorem ew_1746 : Cond.selects RX12 yX12_late yX12_late ∈ ea_tbl := ea_in (et_7 (List.mem_of_getElem? (i := 199) (by decide +kernel))) rfl
theorem ew_1747 : Cond.code yX12_late cX12_late 4 (some .boolean) ∈ ea_tbl := ea_in (et_7 (List.mem_of_getElem? (i := 200) rfl)) rfl
theorem ew_1748 : Cond.methodLink RX12 319 yX12_canBeLate ∈ ea_tbl := ea_in (et_7 (List.mem_of_getElem? (i := 201) (by decide +kernel))) rfl
theorem ew_1750 : Cond.instanceMethod yX12_canBeLate ∈ ea_tbl := ea_in (et_7 (List.mem_of_getElem? (i := 203) (by decide +kernel))) rfl
theorem ew_1751 : Cond.code yX12_canBeLate cX12_canBeLate 4 (some .boolean) ∈ ea_tbl := ea_in (et_7 (List.mem_of_getElem? (i := 204) rfl)) rfl
theorem ew_1752 : Cond.methodLink RX12 316 yX12_isDay ∈ ea_tbl := ea_in (et_7 (List.mem_of_getElem? (i := 205) (by decide +kernel))) rfl
theorem ew_1753 : Cond.static yX12_isDay ∈ ea_tbl := ea_in (et_7 (List.mem_of_getElem? (i := 206) (by decide +kernel))) rfl
theorem ew_1754 : Cond.code yX12_isDay cX12_isDay 1 (some .boolean) ∈ ea_tbl := ea_in (et_7 (List.mem_of_getElem? (i := 207) rfl)) rfl
theorem ew_1755 : Cond.methodLink RX12 322 yX12_run ∈ ea_tbl := ea_in (et_7 (List.mem_of_getElem? (i := 208) (by decide +kernel))) rfl
theorem ew_1756 : Cond.static yX12_run ∈ ea_tbl := ea_in (et_7 (List.mem_of_getElem? (i := 209) (by decide +kernel))) rfl
theorem ew_1757 : Cond.code yX12_run cX12_run 2 (some .int) ∈ ea_tbl := ea_in (et_7 (List.mem_of_getElem? (i := 210) rfl)) rfl
theorem ew_1758 : Cond.methodLink RL 49 yX12_miss ∈ ea_tbl := ea_in (et_7 (List.mem_of_getElem? (i := 211) (by decide +kernel))) rfl
theorem ew_1759 : Cond.instanceMethod yX12_miss ∈ ea_tbl := ea_in (et_7 (List.mem_of_getElem? (i := 212) (by decide +kernel))) rfl
theorem ew_1760 : Cond.selects RX12 yX12_miss yX12_miss ∈ ea_tbl := ea_in (et_7 (List.mem_of_getElem? (i := 213) (by decide +kernel))) rfl
theorem ew_1761 : Cond.code yX12_miss cX12_miss 4 (some .boolean) ∈ ea_tbl := ea_in (et_7 (List.mem_of_getElem? (i := 214) rfl)) rfl
theorem ew_1762 : Cond.methodLink RX12 326 yX12_comesAt ∈ ea_tbl := ea_in (et_7 (List.mem_of_getElem? (i := 215) (by decide +kernel))) rfl
theorem ew_1764 : Cond.instanceMethod yX12_comesAt ∈ ea_tbl := ea_in (et_7 (List.mem_of_getElem? (i := 217) (by decide +kernel))) rfl
theorem ew_1765 : Cond.code yX12_comesAt cX12_comesAt 3 (some .int) ∈ ea_tbl := ea_in (et_7 (List.mem_of_getElem? (i := 218) rfl)) rfl
theorem ew_1766 : Cond.methodLink RL 98 yX12_way ∈ ea_tbl := ea_in (et_7 (List.mem_of_getElem? (i := 219) (by decide +kernel))) rfl
theorem ew_1767 : Cond.instanceMethod yX12_way ∈ ea_tbl := ea_in (et_7 (List.mem_of_getElem? (i := 220) (by decide +kernel))) rfl
theorem ew_1768 : Cond.selects RX12 yX12_way yX12_way ∈ ea_tbl := ea_in (et_7 (List.mem_of_getElem? (i := 221) (by decide +kernel))) rfl
theorem ew_1769 : Cond.code yX12_way cX12_way 6 (some .int) ∈ ea_tbl := ea_in (et_7 (List.mem_of_getElem? (i := 222) rfl)) rfl
theorem ew_1770 : Cond.methodLink RX12 361 yX12_bestFrom ∈ ea_tbl := ea_in (et_7 (List.mem_of_getElem? (i := 223) (by decide +kernel))) rfl
theorem ew_1772 : Cond.instanceMethod yX12_bestFrom ∈ ea_tbl := ea_in (et_7 (List.mem_of_getElem? (i := 225) (by decide +kernel))) rfl
theorem ew_1773 : Cond.code yX12_bestFrom cX12_bestFrom 5 (some .int) ∈ ea_tbl := ea_in (et_7 (List.mem_of_getElem? (i := 226) rfl)) rfl
theorem ew_1774 : Cond.methodLink RX12 358 yX12_table ∈ ea_tbl := ea_in (et_7 (List.mem_of_getElem? (i := 227) (by decide +kernel))) rfl
theorem ew_1776 : Cond.instanceMethod yX12_table ∈ ea_tbl := ea_in (et_7 (List.mem_of_getElem? (i := 229) (by decide +kernel))) rfl
theorem ew_1777 : Cond.code yX12_table cX12_table 3 none ∈ ea_tbl := ea_in (et_7 (List.mem_of_getElem? (i := 230) rfl)) rfl
theorem ew_1778 : Cond.methodLink RX12 338 yX12_isMore ∈ ea_tbl := ea_in (et_7 (List.mem_of_getElem? (i := 231) (by decide +kernel))) rfl
theorem ew_1780 : Cond.instanceMethod yX12_isMore ∈ ea_tbl := ea_in (et_7 (List.mem_of_getElem? (i := 233) (by decide +kernel))) rfl
theorem ew_1781 : Cond.code yX12_isMore cX12_isMore 2 (some .boolean) ∈ ea_tbl := ea_in (et_7 (List.mem_of_getElem? (i := 234) rfl)) rfl
theorem ew_1782 : Cond.methodLink RX12 332 yX12_minuteOf ∈ ea_tbl := ea_in (et_7 (List.mem_of_getElem? (i := 235) (by decide +kernel))) rfl
theorem ew_1784 : Cond.instanceMethod yX12_minuteOf ∈ ea_tbl := ea_in (et_7 (List.mem_of_getElem? (i := 237) (by decide +kernel))) rfl
theorem ew_1785 : Cond.code yX12_minuteOf cX12_minuteOf 3 (some .int) ∈ ea_tbl := ea_in (et_7 (List.mem_of_getElem? (i := 238) rfl)) rfl
theorem ew_1786 : Cond.methodLink RX12 329 yX12_goesAt ∈ ea_tbl := ea_in (et_7 (List.mem_of_getElem? (i := 239) (by decide +kernel))) rfl
theorem ew_1788 : Cond.instanceMethod yX12_goesAt ∈ ea_tbl := ea_in (et_8 (List.mem_of_getElem? (i := 1) (by decide +kernel))) rfl
theorem ew_1789 : Cond.code yX12_goesAt cX12_goesAt 3 (some .int) ∈ ea_tbl := ea_in (et_8 (List.mem_of_getElem? (i := 2) rfl)) rfl
theorem ew_1790 : Cond.methodLink RX12 341 yX12_isAheadOf ∈ ea_tbl := ea_in (et_8 (List.mem_of_getElem? (i := 3) (by decide +kernel))) rfl
theorem ew_1792 : Cond.instanceMethod yX12_isAheadOf ∈ ea_tbl := ea_in (et_8 (List.mem_of_getElem? (i := 5) (by decide +kernel))) rfl
theorem ew_1793 : Cond.code yX12_isAheadOf cX12_isAheadOf 5 (some .boolean) ∈ ea_tbl := ea_in (et_8 (List.mem_of_getElem? (i := 6) rfl)) rfl
theorem ew_1794 : Cond.methodLink RX12 345 yX12_goings ∈ ea_tbl := ea_in (et_8 (List.mem_of_getElem? (i := 7) (by decide +kernel))) rfl
theorem ew_1796 : Cond.instanceMethod yX12_goings ∈ ea_tbl := ea_in (et_8 (List.mem_of_getElem? (i := 9) (by decide +kernel))) rfl
theorem ew_1797 : Cond.code yX12_goings cX12_goings 13 none ∈ ea_tbl := ea_in (et_8 (List.mem_of_getElem? (i := 10) rfl)) rfl
theorem ew_1798 : Cond.methodLink RX12 349 yX12_townOf ∈ ea_tbl := ea_in (et_8 (List.mem_of_getElem? (i := 11) (by decide +kernel))) rfl
theorem ew_1800 : Cond.instanceMethod yX12_townOf ∈ ea_tbl := ea_in (et_8 (List.mem_of_getElem? (i := 13) (by decide +kernel))) rfl
theorem ew_1801 : Cond.code yX12_townOf cX12_townOf 3 (some .int) ∈ ea_tbl := ea_in (et_8 (List.mem_of_getElem? (i := 14) rfl)) rfl
theorem ew_1802 : Cond.methodLink RX12 352 yX12_going ∈ ea_tbl := ea_in (et_8 (List.mem_of_getElem? (i := 15) (by decide +kernel))) rfl
theorem ew_1804 : Cond.instanceMethod yX12_going ∈ ea_tbl := ea_in (et_8 (List.mem_of_getElem? (i := 17) (by decide +kernel))) rfl
theorem ew_1805 : Cond.code yX12_going cX12_going 4 (some .int) ∈ ea_tbl := ea_in (et_8 (List.mem_of_getElem? (i := 18) rfl)) rfl
theorem ew_1806 : Cond.methodLink RX12 355 yX12_isBetter ∈ ea_tbl := ea_in (et_8 (List.mem_of_getElem? (i := 19) (by decide +kernel))) rfl
theorem ew_1808 : Cond.instanceMethod yX12_isBetter ∈ ea_tbl := ea_in (et_8 (List.mem_of_getElem? (i := 21) (by decide +kernel))) rfl
theorem ew_1809 : Cond.code yX12_isBetter cX12_isBetter 6 (some .boolean) ∈ ea_tbl := ea_in (et_8 (List.mem_of_getElem? (i := 22) rfl)) rfl
theorem ew_1810 : Cond.methodLink RL 63 yX12_feed ∈ ea_tbl := ea_in (et_8 (List.mem_of_getElem? (i := 23) (by decide +kernel))) rfl
theorem ew_1811 : Cond.instanceMethod yX12_feed ∈ ea_tbl := ea_in (et_8 (List.mem_of_getElem? (i := 24) (by decide +kernel))) rfl
theorem ew_1812 : Cond.selects RX12 yX12_feed yX12_feed ∈ ea_tbl := ea_in (et_8 (List.mem_of_getElem? (i := 25) (by decide +kernel))) rfl
theorem ew_1813 : Cond.code yX12_feed cX12_feed 8 (some .int) ∈ ea_tbl := ea_in (et_8 (List.mem_of_getElem? (i := 26) rfl)) rfl
theorem ew_1814 : Cond.methodLink RL 68 yX12_end ∈ ea_tbl := ea_in (et_8 (List.mem_of_getElem? (i := 27) (by decide +kernel))) rfl
theorem ew_1815 : Cond.instanceMethod yX12_end ∈ ea_tbl := ea_in (et_8 (List.mem_of_getElem? (i := 28) (by decide +kernel))) rfl
theorem ew_1816 : Cond.selects RX12 yX12_end yX12_end ∈ ea_tbl := ea_in (et_8 (List.mem_of_getElem? (i := 29) (by decide +kernel))) rfl
theorem ew_1817 : Cond.code yX12_end cX12_end 2 (some .boolean) ∈ ea_tbl := ea_in (et_8 (List.mem_of_getElem? (i := 30) rfl)) rfl
theorem ew_1818 : Cond.methodLink RL 72 yX12_act ∈ ea_tbl := ea_in (et_8 (List.mem_of_getElem? (i := 31) (by decide +kernel))) rfl
theorem ew_1819 : Cond.instanceMethod yX12_act ∈ ea_tbl := ea_in (et_8 (List.mem_of_getElem? (i := 32) (by decide +kernel))) rfl
theorem ew_1820 : Cond.selects RX12 yX12_act yX12_act ∈ ea_tbl := ea_in (et_8 (List.mem_of_getElem? (i := 33) (by decide +kernel))) rfl
theorem ew_1821 : Cond.code yX12_act cX12_act 5 (some .int) ∈ ea_tbl := ea_in (et_8 (List.mem_of_getElem? (i := 34) rfl)) rfl
theorem ew_1822 : Cond.methodLink RX12 446 yX12_next0 ∈ ea_tbl := ea_in (et_8 (List.mem_of_getElem? (i := 35) (by decide +kernel))) rfl
theorem ew_1824 : Cond.instanceMethod yX12_next0 ∈ ea_tbl := ea_in (et_8 (List.mem_of_getElem? (i := 37) (by decide +kernel))) rfl
theorem ew_1825 : Cond.code yX12_next0 cX12_next0 3 none ∈ ea_tbl := ea_in (et_8 (List.mem_of_getElem? (i := 38) rfl)) rfl
theorem ew_1826 : Cond.methodLink RX12 418 yX12_see ∈ ea_tbl := ea_in (et_8 (List.mem_of_getElem? (i := 39) (by decide +kernel))) rfl
theorem ew_1828 : Cond.instanceMethod yX12_see ∈ ea_tbl := ea_in (et_8 (List.mem_of_getElem? (i := 41) (by decide +kernel))) rfl
theorem ew_1829 : Cond.code yX12_see cX12_see 2 (some .int) ∈ ea_tbl := ea_in (et_8 (List.mem_of_getElem? (i := 42) rfl)) rfl
theorem ew_1830 : Cond.methodLink RX12 425 yX12_isLetter ∈ ea_tbl := ea_in (et_8 (List.mem_of_getElem? (i := 43) (by decide +kernel))) rfl
theorem ew_1831 : Cond.static yX12_isLetter ∈ ea_tbl := ea_in (et_8 (List.mem_of_getElem? (i := 44) (by decide +kernel))) rfl
theorem ew_1832 : Cond.code yX12_isLetter cX12_isLetter 1 (some .boolean) ∈ ea_tbl := ea_in (et_8 (List.mem_of_getElem? (i := 45) rfl)) rfl
theorem ew_1833 : Cond.methodLink RX12 428 yX12_word ∈ ea_tbl := ea_in (et_8 (List.mem_of_getElem? (i := 46) (by decide +kernel))) rfl
theorem ew_1835 : Cond.instanceMethod yX12_word ∈ ea_tbl := ea_in (et_8 (List.mem_of_getElem? (i := 48) (by decide +kernel))) rfl
theorem ew_1836 : Cond.code yX12_word cX12_word 1 (some .int) ∈ ea_tbl := ea_in (et_8 (List.mem_of_getElem? (i := 49) rfl)) rfl
theorem ew_1841 : Cond.code yX12_is cX12_is 4 (some .boolean) ∈ ea_tbl := ea_in (et_8 (List.mem_of_getElem? (i := 54) rfl)) rfl
theorem ew_1907 : Cond.methodLink RX12 431 yX12_isDigit ∈ ea_tbl := ea_in (et_8 (List.mem_of_getElem? (i := 120) (by decide +kernel))) rfl
theorem ew_1908 : Cond.static yX12_isDigit ∈ ea_tbl := ea_in (et_8 (List.mem_of_getElem? (i := 121) (by decide +kernel))) rfl
theorem ew_1909 : Cond.code yX12_isDigit cX12_isDigit 1 (some .boolean) ∈ ea_tbl := ea_in (et_8 (List.mem_of_getElem? (i := 122) rfl)) rfl
theorem ew_1910 : Cond.methodLink RX12 525 yX12_aLine ∈ ea_tbl := ea_in (et_8 (List.mem_of_getElem? (i := 123) (by decide +kernel))) rfl
theorem ew_1912 : Cond.instanceMethod yX12_aLine ∈ ea_tbl := ea_in (et_8 (List.mem_of_getElem? (i := 125) (by decide +kernel))) rfl
theorem ew_1913 : Cond.code yX12_aLine cX12_aLine 2 (some .boolean) ∈ ea_tbl := ea_in (et_8 (List.mem_of_getElem? (i := 126) rfl)) rfl
theorem ew_1914 : Cond.methodLink RX12 443 yX12_bad ∈ ea_tbl := ea_in (et_8 (List.mem_of_getElem? (i := 127) (by decide +kernel))) rfl
theorem ew_1916 : Cond.instanceMethod yX12_bad ∈ ea_tbl := ea_in (et_8 (List.mem_of_getElem? (i := 129) (by decide +kernel))) rfl
theorem ew_1917 : Cond.code yX12_bad cX12_bad 2 (some .boolean) ∈ ea_tbl := ea_in (et_8 (List.mem_of_getElem? (i := 130) rfl)) rfl
theorem ew_1918 : Cond.methodLink RX12 516 yX12_inner ∈ ea_tbl := ea_in (et_8 (List.mem_of_getElem? (i := 131) (by decide +kernel))) rfl
theorem ew_1920 : Cond.instanceMethod yX12_inner ∈ ea_tbl := ea_in (et_8 (List.mem_of_getElem? (i := 133) (by decide +kernel))) rfl
theorem ew_1921 : Cond.code yX12_inner cX12_inner 3 (some .boolean) ∈ ea_tbl := ea_in (et_8 (List.mem_of_getElem? (i := 134) rfl)) rfl
theorem ew_1922 : Cond.methodLink RX12 489 yX12_aCharge ∈ ea_tbl := ea_in (et_8 (List.mem_of_getElem? (i := 135) (by decide +kernel))) rfl
theorem ew_1924 : Cond.instanceMethod yX12_aCharge ∈ ea_tbl := ea_in (et_8 (List.mem_of_getElem? (i := 137) (by decide +kernel))) rfl
theorem ew_1925 : Cond.code yX12_aCharge cX12_aCharge 1 (some .boolean) ∈ ea_tbl := ea_in (et_8 (List.mem_of_getElem? (i := 138) rfl)) rfl
theorem ew_1926 : Cond.methodLink RX12 471 yX12_sumOf ∈ ea_tbl := ea_in (et_8 (List.mem_of_getElem? (i := 139) (by decide +kernel))) rfl
theorem ew_1928 : Cond.instanceMethod yX12_sumOf ∈ ea_tbl := ea_in (et_8 (List.mem_of_getElem? (i := 141) (by decide +kernel))) rfl
theorem ew_1929 : Cond.code yX12_sumOf cX12_sumOf 2 (some .boolean) ∈ ea_tbl := ea_in (et_8 (List.mem_of_getElem? (i := 142) rfl)) rfl
theorem ew_1930 : Cond.methodLink RX12 458 yX12_product ∈ ea_tbl := ea_in (et_8 (List.mem_of_getElem? (i := 143) (by decide +kernel))) rfl
theorem ew_1932 : Cond.instanceMethod yX12_product ∈ ea_tbl := ea_in (et_8 (List.mem_of_getElem? (i := 145) (by decide +kernel))) rfl
theorem ew_1933 : Cond.code yX12_product cX12_product 2 (some .boolean) ∈ ea_tbl := ea_in (et_8 (List.mem_of_getElem? (i := 146) rfl)) rfl
theorem ew_1934 : Cond.methodLink RX12 465 yX12_unit ∈ ea_tbl := ea_in (et_8 (List.mem_of_getElem? (i := 147) (by decide +kernel))) rfl
theorem ew_1936 : Cond.instanceMethod yX12_unit ∈ ea_tbl := ea_in (et_8 (List.mem_of_getElem? (i := 149) (by decide +kernel))) rfl
theorem ew_1937 : Cond.code yX12_unit cX12_unit 1 (some .boolean) ∈ ea_tbl := ea_in (et_8 (List.mem_of_getElem? (i := 150) rfl)) rfl
theorem ew_1938 : Cond.methodLink RX12 468 yX12_opens ∈ ea_tbl := ea_in (et_8 (List.mem_of_getElem? (i := 151) (by decide +kernel))) rfl
theorem ew_1940 : Cond.instanceMethod yX12_opens ∈ ea_tbl := ea_in (et_8 (List.mem_of_getElem? (i := 153) (by decide +kernel))) rfl
theorem ew_1941 : Cond.code yX12_opens cX12_opens 1 (some .boolean) ∈ ea_tbl := ea_in (et_8 (List.mem_of_getElem? (i := 154) rfl)) rfl
theorem ew_1942 : Cond.methodLink RX12 474 yX12_need ∈ ea_tbl := ea_in (et_8 (List.mem_of_getElem? (i := 155) (by decide +kernel))) rfl
theorem ew_1944 : Cond.instanceMethod yX12_need ∈ ea_tbl := ea_in (et_8 (List.mem_of_getElem? (i := 157) (by decide +kernel))) rfl
theorem ew_1945 : Cond.code yX12_need cX12_need 2 (some .boolean) ∈ ea_tbl := ea_in (et_8 (List.mem_of_getElem? (i := 158) rfl)) rfl
theorem ew_1946 : Cond.methodLink RX12 462 yX12_lay ∈ ea_tbl := ea_in (et_8 (List.mem_of_getElem? (i := 159) (by decide +kernel))) rfl
theorem ew_1948 : Cond.instanceMethod yX12_lay ∈ ea_tbl := ea_in (et_8 (List.mem_of_getElem? (i := 161) (by decide +kernel))) rfl
theorem ew_1949 : Cond.code yX12_lay cX12_lay 3 none ∈ ea_tbl := ea_in (et_8 (List.mem_of_getElem? (i := 162) rfl)) rfl
theorem ew_1950 : Cond.methodLink RX12 486 yX12_any ∈ ea_tbl := ea_in (et_8 (List.mem_of_getElem? (i := 163) (by decide +kernel))) rfl
theorem ew_1952 : Cond.instanceMethod yX12_any ∈ ea_tbl := ea_in (et_8 (List.mem_of_getElem? (i := 165) (by decide +kernel))) rfl
theorem ew_1953 : Cond.code yX12_any cX12_any 1 (some .boolean) ∈ ea_tbl := ea_in (et_8 (List.mem_of_getElem? (i := 166) rfl)) rfl
theorem ew_1954 : Cond.methodLink RX12 477 yX12_all ∈ ea_tbl := ea_in (et_8 (List.mem_of_getElem? (i := 167) (by decide +kernel))) rfl
theorem ew_1956 : Cond.instanceMethod yX12_all ∈ ea_tbl := ea_in (et_8 (List.mem_of_getElem? (i := 169) (by decide +kernel))) rfl
theorem ew_1957 : Cond.code yX12_all cX12_all 1 (some .boolean) ∈ ea_tbl := ea_in (et_8 (List.mem_of_getElem? (i := 170) rfl)) rfl
theorem ew_1958 : Cond.methodLink RX12 480 yX12_one ∈ ea_tbl := ea_in (et_8 (List.mem_of_getElem? (i := 171) (by decide +kernel))) rfl
theorem ew_1960 : Cond.instanceMethod yX12_one ∈ ea_tbl := ea_in (et_8 (List.mem_of_getElem? (i := 173) (by decide +kernel))) rfl
theorem ew_1961 : Cond.code yX12_one cX12_one 2 (some .boolean) ∈ ea_tbl := ea_in (et_8 (List.mem_of_getElem? (i := 174) rfl)) rfl
theorem ew_1962 : Cond.methodLink RX12 492 yX12_aNumber ∈ ea_tbl := ea_in (et_8 (List.mem_of_getElem? (i := 175) (by decide +kernel))) rfl
theorem ew_1964 : Cond.instanceMethod yX12_aNumber ∈ ea_tbl := ea_in (et_8 (List.mem_of_getElem? (i := 177) (by decide +kernel))) rfl
theorem ew_1965 : Cond.code yX12_aNumber cX12_aNumber 2 (some .boolean) ∈ ea_tbl := ea_in (et_8 (List.mem_of_getElem? (i := 178) rfl)) rfl
theorem ew_1967 : Cond.methodLink RL 76 yX12_fault ∈ ea_tbl := ea_in (et_8 (List.mem_of_getElem? (i := 180) (by decide +kernel))) rfl
theorem ew_1968 : Cond.instanceMethod yX12_fault ∈ ea_tbl := ea_in (et_8 (List.mem_of_getElem? (i := 181) (by decide +kernel))) rfl
theorem ew_1969 : Cond.selects RX12 yX12_fault yX12_fault ∈ ea_tbl := ea_in (et_8 (List.mem_of_getElem? (i := 182) (by decide +kernel))) rfl
theorem ew_1970 : Cond.code yX12_fault cX12_fault 2 (some .int) ∈ ea_tbl := ea_in (et_8 (List.mem_of_getElem? (i := 183) rfl)) rfl
theorem ew_1971 : Cond.methodLink RL 80 yX12_inForce ∈ ea_tbl := ea_in (et_8 (List.mem_of_getElem? (i := 184) (by decide +kernel))) rfl
theorem ew_1972 : Cond.instanceMethod yX12_inForce ∈ ea_tbl := ea_in (et_8 (List.mem_of_getElem? (i := 185) (by decide +kernel))) rfl
theorem ew_1973 : Cond.selects RX12 yX12_inForce yX12_inForce ∈ ea_tbl := ea_in (et_8 (List.mem_of_getElem? (i := 186) (by decide +kernel))) rfl
theorem ew_1974 : Cond.code yX12_inForce cX12_inForce 4 (some .int) ∈ ea_tbl := ea_in (et_8 (List.mem_of_getElem? (i := 187) rfl)) rfl
theorem ew_1975 : Cond.methodLink RX12 528 yX12_actOn ∈ ea_tbl := ea_in (et_8 (List.mem_of_getElem? (i := 188) (by decide +kernel))) rfl
theorem ew_1977 : Cond.instanceMethod yX12_actOn ∈ ea_tbl := ea_in (et_8 (List.mem_of_getElem? (i := 190) (by decide +kernel))) rfl
theorem ew_1978 : Cond.code yX12_actOn cX12_actOn 3 (some .int) ∈ ea_tbl := ea_in (et_8 (List.mem_of_getElem? (i := 191) rfl)) rfl
theorem ew_1979 : Cond.methodLink RL 85 yX12_post ∈ ea_tbl := ea_in (et_8 (List.mem_of_getElem? (i := 192) (by decide +kernel))) rfl
theorem ew_1980 : Cond.instanceMethod yX12_post ∈ ea_tbl := ea_in (et_8 (List.mem_of_getElem? (i := 193) (by decide +kernel))) rfl
theorem ew_1981 : Cond.selects RX12 yX12_post yX12_post ∈ ea_tbl := ea_in (et_8 (List.mem_of_getElem? (i := 194) (by decide +kernel))) rfl
theorem ew_1982 : Cond.code yX12_post cX12_post 9 (some .int) ∈ ea_tbl := ea_in (et_8 (List.mem_of_getElem? (i := 195) rfl)) rfl
theorem ew_1983 : Cond.methodLink RX12 550 yX12_isCross ∈ ea_tbl := ea_in (et_8 (List.mem_of_getElem? (i := 196) (by decide +kernel))) rfl
theorem ew_1985 : Cond.instanceMethod yX12_isCross ∈ ea_tbl := ea_in (et_8 (List.mem_of_getElem? (i := 198) (by decide +kernel))) rfl
theorem ew_1986 : Cond.code yX12_isCross cX12_isCross 4 (some .boolean) ∈ ea_tbl := ea_in (et_8 (List.mem_of_getElem? (i := 199) rfl)) rfl
theorem ew_1987 : Cond.methodLink RX12 543 yX12_isFree ∈ ea_tbl := ea_in (et_8 (List.mem_of_getElem? (i := 200) (by decide +kernel))) rfl
theorem ew_1989 : Cond.instanceMethod yX12_isFree ∈ ea_tbl := ea_in (et_8 (List.mem_of_getElem? (i := 202) (by decide +kernel))) rfl
theorem ew_1990 : Cond.code yX12_isFree cX12_isFree 3 (some .boolean) ∈ ea_tbl := ea_in (et_8 (List.mem_of_getElem? (i := 203) rfl)) rfl
theorem ew_1991 : Cond.methodLink RX12 553 yX12_chargeBy ∈ ea_tbl := ea_in (et_8 (List.mem_of_getElem? (i := 204) (by decide +kernel))) rfl
theorem ew_1993 : Cond.instanceMethod yX12_chargeBy ∈ ea_tbl := ea_in (et_8 (List.mem_of_getElem? (i := 206) (by decide +kernel))) rfl
theorem ew_1994 : Cond.code yX12_chargeBy cX12_chargeBy 5 (some .int) ∈ ea_tbl := ea_in (et_8 (List.mem_of_getElem? (i := 207) rfl)) rfl
theorem ew_1995 : Cond.methodLink RX12 546 yX12_lineOf ∈ ea_tbl := ea_in (et_8 (List.mem_of_getElem? (i := 208) (by decide +kernel))) rfl
theorem ew_1997 : Cond.instanceMethod yX12_lineOf ∈ ea_tbl := ea_in (et_8 (List.mem_of_getElem? (i := 210) (by decide +kernel))) rfl
theorem ew_1998 : Cond.code yX12_lineOf cX12_lineOf 6 (some .int) ∈ ea_tbl := ea_in (et_8 (List.mem_of_getElem? (i := 211) rfl)) rfl
theorem ew_1999 : Cond.methodLink RX12 537 yX12_gathers ∈ ea_tbl := ea_in (et_8 (List.mem_of_getElem? (i := 212) (by decide +kernel))) rfl
theorem ew_2001 : Cond.instanceMethod yX12_gathers ∈ ea_tbl := ea_in (et_8 (List.mem_of_getElem? (i := 214) (by decide +kernel))) rfl
theorem ew_2002 : Cond.code yX12_gathers cX12_gathers 2 none ∈ ea_tbl := ea_in (et_8 (List.mem_of_getElem? (i := 215) rfl)) rfl
theorem ew_2003 : Cond.methodLink RX12 540 yX12_comesTo ∈ ea_tbl := ea_in (et_8 (List.mem_of_getElem? (i := 216) (by decide +kernel))) rfl
theorem ew_2005 : Cond.instanceMethod yX12_comesTo ∈ ea_tbl := ea_in (et_8 (List.mem_of_getElem? (i := 218) (by decide +kernel))) rfl
theorem ew_2006 : Cond.code yX12_comesTo cX12_comesTo 8 (some .int) ∈ ea_tbl := ea_in (et_8 (List.mem_of_getElem? (i := 219) rfl)) rfl
theorem ew_2007 : Cond.methodLink RX12 534 yX12_both ∈ ea_tbl := ea_in (et_8 (List.mem_of_getElem? (i := 220) (by decide +kernel))) rfl
theorem ew_2008 : Cond.static yX12_both ∈ ea_tbl := ea_in (et_8 (List.mem_of_getElem? (i := 221) (by decide +kernel))) rfl
theorem ew_2009 : Cond.code yX12_both cX12_both 3 (some .int) ∈ ea_tbl := ea_in (et_8 (List.mem_of_getElem? (i := 222) rfl)) rfl
theorem ew_2010 : Cond.constant RX12 549 99999 ∈ ea_tbl := ea_in (et_8 (List.mem_of_getElem? (i := 223) (by decide +kernel))) rfl
theorem ew_2011 : Cond.methodLink RX12 556 yX12_turns ∈ ea_tbl := ea_in (et_8 (List.mem_of_getElem? (i := 224) (by decide +kernel))) rfl
theorem ew_2013 : Cond.instanceMethod yX12_turns ∈ ea_tbl := ea_in (et_8 (List.mem_of_getElem? (i := 226) (by decide +kernel))) rfl
theorem ew_2014 : Cond.code yX12_turns cX12_turns 6 none ∈ ea_tbl := ea_in (et_8 (List.mem_of_getElem? (i := 227) rfl)) rfl
theorem ew_2015 : Cond.methodLink RL 89 yX12_of ∈ ea_tbl := ea_in (et_8 (List.mem_of_getElem? (i := 228) (by decide +kernel))) rfl
theorem ew_2016 : Cond.instanceMethod yX12_of ∈ ea_tbl := ea_in (et_8 (List.mem_of_getElem? (i := 229) (by decide +kernel))) rfl
theorem ew_2017 : Cond.selects RX12 yX12_of yX12_of ∈ ea_tbl := ea_in (et_8 (List.mem_of_getElem? (i := 230) (by decide +kernel))) rfl
theorem ew_2018 : Cond.code yX12_of cX12_of 3 (some .int) ∈ ea_tbl := ea_in (et_8 (List.mem_of_getElem? (i := 231) rfl)) rfl
theorem ew_2019 : Cond.methodLink RX12 563 yX12_isLetterOf ∈ ea_tbl := ea_in (et_8 (List.mem_of_getElem? (i := 232) (by decide +kernel))) rfl
theorem ew_2021 : Cond.instanceMethod yX12_isLetterOf ∈ ea_tbl := ea_in (et_8 (List.mem_of_getElem? (i := 234) (by decide +kernel))) rfl
theorem ew_2022 : Cond.code yX12_isLetterOf cX12_isLetterOf 2 (some .boolean) ∈ ea_tbl := ea_in (et_8 (List.mem_of_getElem? (i := 235) rfl)) rfl
theorem ew_2023 : Cond.methodLink RL 93 yX12_charge ∈ ea_tbl := ea_in (et_8 (List.mem_of_getElem? (i := 236) (by decide +kernel))) rfl
theorem ew_2024 : Cond.instanceMethod yX12_charge ∈ ea_tbl := ea_in (et_8 (List.mem_of_getElem? (i := 237) (by decide +kernel))) rfl
theorem ew_2025 : Cond.selects RX12 yX12_charge yX12_charge ∈ ea_tbl := ea_in (et_8 (List.mem_of_getElem? (i := 238) (by decide +kernel))) rfl
theorem ew_2026 : Cond.code yX12_charge cX12_charge 3 (some .int) ∈ ea_tbl := ea_in (et_8 (List.mem_of_getElem? (i := 239) rfl)) rfl
theorem ew_2027 : Cond.methodLink RX12 566 yX12_owed ∈ ea_tbl := ea_in (et_9 (List.mem_of_getElem? (i := 0) (by decide +kernel))) rfl
theorem ew_2029 : Cond.instanceMethod yX12_owed ∈ ea_tbl := ea_in (et_9 (List.mem_of_getElem? (i := 2) (by decide +kernel))) rfl
theorem ew_2030 : Cond.code yX12_owed cX12_owed 2 (some .int) ∈ ea_tbl := ea_in (et_9 (List.mem_of_getElem? (i := 3) rfl)) rfl
theorem ew_2031 : Cond.methodLink RX12 560 yX12_isOwed ∈ ea_tbl := ea_in (et_9 (List.mem_of_getElem? (i := 4) (by decide +kernel))) rfl
theorem ew_2033 : Cond.instanceMethod yX12_isOwed ∈ ea_tbl := ea_in (et_9 (List.mem_of_getElem? (i := 6) (by decide +kernel))) rfl
theorem ew_2034 : Cond.code yX12_isOwed cX12_isOwed 2 (some .boolean) ∈ ea_tbl := ea_in (et_9 (List.mem_of_getElem? (i := 7) rfl)) rfl
theorem ew_2035 : Cond.methodLink RL 102 yX12_lead ∈ ea_tbl := ea_in (et_9 (List.mem_of_getElem? (i := 8) (by decide +kernel))) rfl
theorem ew_2036 : Cond.instanceMethod yX12_lead ∈ ea_tbl := ea_in (et_9 (List.mem_of_getElem? (i := 9) (by decide +kernel))) rfl
theorem ew_2037 : Cond.selects RX12 yX12_lead yX12_lead ∈ ea_tbl := ea_in (et_9 (List.mem_of_getElem? (i := 10) (by decide +kernel))) rfl
theorem ew_2038 : Cond.code yX12_lead cX12_lead 5 (some .int) ∈ ea_tbl := ea_in (et_9 (List.mem_of_getElem? (i := 11) rfl)) rfl
theorem ew_2039 : Cond.methodLink RL 106 yX12_where ∈ ea_tbl := ea_in (et_9 (List.mem_of_getElem? (i := 12) (by decide +kernel))) rfl
theorem ew_2040 : Cond.instanceMethod yX12_where ∈ ea_tbl := ea_in (et_9 (List.mem_of_getElem? (i := 13) (by decide +kernel))) rfl
theorem ew_2041 : Cond.selects RX12 yX12_where yX12_where ∈ ea_tbl := ea_in (et_9 (List.mem_of_getElem? (i := 14) (by decide +kernel))) rfl
theorem ew_2042 : Cond.code yX12_where cX12_where 5 (some .int) ∈ ea_tbl := ea_in (et_9 (List.mem_of_getElem? (i := 15) rfl)) rfl
theorem ew_2043 : Cond.methodLink RL 110 yX12_sorter ∈ ea_tbl := ea_in (et_9 (List.mem_of_getElem? (i := 16) (by decide +kernel))) rfl
theorem ew_2044 : Cond.instanceMethod yX12_sorter ∈ ea_tbl := ea_in (et_9 (List.mem_of_getElem? (i := 17) (by decide +kernel))) rfl
theorem ew_2045 : Cond.selects RX12 yX12_sorter yX12_sorter ∈ ea_tbl := ea_in (et_9 (List.mem_of_getElem? (i := 18) (by decide +kernel))) rfl
theorem ew_2046 : Cond.code yX12_sorter cX12_sorter 3 (some .int) ∈ ea_tbl := ea_in (et_9 (List.mem_of_getElem? (i := 19) rfl)) rfl
theorem ew_2047 : Cond.methodLink RL 115 yX12_seat ∈ ea_tbl := ea_in (et_9 (List.mem_of_getElem? (i := 20) (by decide +kernel))) rfl
theorem ew_2048 : Cond.instanceMethod yX12_seat ∈ ea_tbl := ea_in (et_9 (List.mem_of_getElem? (i := 21) (by decide +kernel))) rfl
theorem ew_2049 : Cond.selects RX12 yX12_seat yX12_seat ∈ ea_tbl := ea_in (et_9 (List.mem_of_getElem? (i := 22) (by decide +kernel))) rfl
theorem ew_2050 : Cond.code yX12_seat cX12_seat 3 (some .boolean) ∈ ea_tbl := ea_in (et_9 (List.mem_of_getElem? (i := 23) rfl)) rfl
theorem ew_2051 : Cond.methodLink RL 54 yX12_minutes ∈ ea_tbl := ea_in (et_9 (List.mem_of_getElem? (i := 24) (by decide +kernel))) rfl
theorem ew_2052 : Cond.instanceMethod yX12_minutes ∈ ea_tbl := ea_in (et_9 (List.mem_of_getElem? (i := 25) (by decide +kernel))) rfl
theorem ew_2053 : Cond.selects RX12 yX12_minutes yX12_minutes ∈ ea_tbl := ea_in (et_9 (List.mem_of_getElem? (i := 26) (by decide +kernel))) rfl
theorem ew_2054 : Cond.code yX12_minutes cX12_minutes 2 (some .int) ∈ ea_tbl := ea_in (et_9 (List.mem_of_getElem? (i := 27) rfl)) rfl
theorem ew_2055 : Cond.methodLink RX12 594 yX12_leadsOn ∈ ea_tbl := ea_in (et_9 (List.mem_of_getElem? (i := 28) (by decide +kernel))) rfl
theorem ew_2057 : Cond.instanceMethod yX12_leadsOn ∈ ea_tbl := ea_in (et_9 (List.mem_of_getElem? (i := 30) (by decide +kernel))) rfl
theorem ew_2058 : Cond.code yX12_leadsOn cX12_leadsOn 5 none ∈ ea_tbl := ea_in (et_9 (List.mem_of_getElem? (i := 31) rfl)) rfl
theorem ew_2059 : Cond.methodLink RX12 585 yX12_begins ∈ ea_tbl := ea_in (et_9 (List.mem_of_getElem? (i := 32) (by decide +kernel))) rfl
theorem ew_2061 : Cond.instanceMethod yX12_begins ∈ ea_tbl := ea_in (et_9 (List.mem_of_getElem? (i := 34) (by decide +kernel))) rfl
theorem ew_2062 : Cond.code yX12_begins cX12_begins 3 none ∈ ea_tbl := ea_in (et_9 (List.mem_of_getElem? (i := 35) rfl)) rfl
theorem ew_2063 : Cond.methodLink RX12 588 yX12_coming ∈ ea_tbl := ea_in (et_9 (List.mem_of_getElem? (i := 36) (by decide +kernel))) rfl
theorem ew_2065 : Cond.instanceMethod yX12_coming ∈ ea_tbl := ea_in (et_9 (List.mem_of_getElem? (i := 38) (by decide +kernel))) rfl
theorem ew_2066 : Cond.code yX12_coming cX12_coming 6 none ∈ ea_tbl := ea_in (et_9 (List.mem_of_getElem? (i := 39) rfl)) rfl
theorem ew_2067 : Cond.methodLink RX12 575 yX12_isAboard ∈ ea_tbl := ea_in (et_9 (List.mem_of_getElem? (i := 40) (by decide +kernel))) rfl
theorem ew_2069 : Cond.instanceMethod yX12_isAboard ∈ ea_tbl := ea_in (et_9 (List.mem_of_getElem? (i := 42) (by decide +kernel))) rfl
theorem ew_2070 : Cond.code yX12_isAboard cX12_isAboard 3 (some .boolean) ∈ ea_tbl := ea_in (et_9 (List.mem_of_getElem? (i := 43) rfl)) rfl
theorem ew_2071 : Cond.methodLink RX12 572 yX12_code ∈ ea_tbl := ea_in (et_9 (List.mem_of_getElem? (i := 44) (by decide +kernel))) rfl
theorem ew_2072 : Cond.static yX12_code ∈ ea_tbl := ea_in (et_9 (List.mem_of_getElem? (i := 45) (by decide +kernel))) rfl
theorem ew_2073 : Cond.code yX12_code cX12_code 1 (some .int) ∈ ea_tbl := ea_in (et_9 (List.mem_of_getElem? (i := 46) rfl)) rfl
theorem ew_2074 : Cond.methodLink RX12 578 yX12_putsDown ∈ ea_tbl := ea_in (et_9 (List.mem_of_getElem? (i := 47) (by decide +kernel))) rfl
theorem ew_2076 : Cond.instanceMethod yX12_putsDown ∈ ea_tbl := ea_in (et_9 (List.mem_of_getElem? (i := 49) (by decide +kernel))) rfl
theorem ew_2077 : Cond.code yX12_putsDown cX12_putsDown 4 none ∈ ea_tbl := ea_in (et_9 (List.mem_of_getElem? (i := 50) rfl)) rfl
theorem ew_2078 : Cond.methodLink RX12 591 yX12_leaves ∈ ea_tbl := ea_in (et_9 (List.mem_of_getElem? (i := 51) (by decide +kernel))) rfl
theorem ew_2080 : Cond.instanceMethod yX12_leaves ∈ ea_tbl := ea_in (et_9 (List.mem_of_getElem? (i := 53) (by decide +kernel))) rfl
theorem ew_2081 : Cond.code yX12_leaves cX12_leaves 8 none ∈ ea_tbl := ea_in (et_9 (List.mem_of_getElem? (i := 54) rfl)) rfl
theorem ew_2082 : Cond.methodLink RX12 582 yX12_sorts ∈ ea_tbl := ea_in (et_9 (List.mem_of_getElem? (i := 55) (by decide +kernel))) rfl
theorem ew_2084 : Cond.instanceMethod yX12_sorts ∈ ea_tbl := ea_in (et_9 (List.mem_of_getElem? (i := 57) (by decide +kernel))) rfl
theorem ew_2085 : Cond.code yX12_sorts cX12_sorts 4 none ∈ ea_tbl := ea_in (et_9 (List.mem_of_getElem? (i := 58) rfl)) rfl
theorem ew_2086 : Cond.methodLink RL 58 yX12_look ∈ ea_tbl := ea_in (et_9 (List.mem_of_getElem? (i := 59) (by decide +kernel))) rfl
theorem ew_2087 : Cond.instanceMethod yX12_look ∈ ea_tbl := ea_in (et_9 (List.mem_of_getElem? (i := 60) (by decide +kernel))) rfl
theorem ew_2088 : Cond.selects RX12 yX12_look yX12_look ∈ ea_tbl := ea_in (et_9 (List.mem_of_getElem? (i := 61) (by decide +kernel))) rfl
theorem ew_2089 : Cond.code yX12_look cX12_look 4 (some .int) ∈ ea_tbl := ea_in (et_9 (List.mem_of_getElem? (i := 62) rfl)) rfl
theorem ew_2090 : Cond.methodLink RL 119 yX12_run_ ∈ ea_tbl := ea_in (et_9 (List.mem_of_getElem? (i := 63) (by decide +kernel))) rfl
theorem ew_2091 : Cond.instanceMethod yX12_run_ ∈ ea_tbl := ea_in (et_9 (List.mem_of_getElem? (i := 64) (by decide +kernel))) rfl
theorem ew_2092 : Cond.selects RX12 yX12_run_ yX12_run_ ∈ ea_tbl := ea_in (et_9 (List.mem_of_getElem? (i := 65) (by decide +kernel))) rfl
theorem ew_2093 : Cond.code yX12_run_ cX12_run_ 7 (some .int) ∈ ea_tbl := ea_in (et_9 (List.mem_of_getElem? (i := 66) rfl)) rfl
theorem ew_2094 : Cond.methodLink RX12 597 yX12_gone ∈ ea_tbl := ea_in (et_9 (List.mem_of_getElem? (i := 67) (by decide +kernel))) rfl
theorem ew_2096 : Cond.instanceMethod yX12_gone ∈ ea_tbl := ea_in (et_9 (List.mem_of_getElem? (i := 69) (by decide +kernel))) rfl
theorem ew_2097 : Cond.code yX12_gone cX12_gone 3 (some .int) ∈ ea_tbl := ea_in (et_9 (List.mem_of_getElem? (i := 70) rfl)) rfl
theorem ew_2098 : Cond.methodLink RL 123 yX12_account ∈ ea_tbl := ea_in (et_9 (List.mem_of_getElem? (i := 71) (by decide +kernel))) rfl
theorem ew_2099 : Cond.instanceMethod yX12_account ∈ ea_tbl := ea_in (et_9 (List.mem_of_getElem? (i := 72) (by decide +kernel))) rfl
theorem ew_2100 : Cond.selects RX12 yX12_account yX12_account ∈ ea_tbl := ea_in (et_9 (List.mem_of_getElem? (i := 73) (by decide +kernel))) rfl
theorem ew_2101 : Cond.code yX12_account cX12_account 9 (some .int) ∈ ea_tbl := ea_in (et_9 (List.mem_of_getElem? (i := 74) rfl)) rfl
theorem ew_2102 : Cond.methodLink RX12 600 yX12_isOf ∈ ea_tbl := ea_in (et_9 (List.mem_of_getElem? (i := 75) (by decide +kernel))) rfl
theorem ew_2104 : Cond.instanceMethod yX12_isOf ∈ ea_tbl := ea_in (et_9 (List.mem_of_getElem? (i := 77) (by decide +kernel))) rfl
theorem ew_2105 : Cond.code yX12_isOf cX12_isOf 4 (some .boolean) ∈ ea_tbl := ea_in (et_9 (List.mem_of_getElem? (i := 78) rfl)) rfl
theorem ew_2106 : Cond.methodLink RL 127 yX12_nobody ∈ ea_tbl := ea_in (et_9 (List.mem_of_getElem? (i := 79) (by decide +kernel))) rfl
theorem ew_2107 : Cond.instanceMethod yX12_nobody ∈ ea_tbl := ea_in (et_9 (List.mem_of_getElem? (i := 80) (by decide +kernel))) rfl
theorem ew_2108 : Cond.selects RX12 yX12_nobody yX12_nobody ∈ ea_tbl := ea_in (et_9 (List.mem_of_getElem? (i := 81) (by decide +kernel))) rfl
theorem ew_2109 : Cond.code yX12_nobody cX12_nobody 2 (some .boolean) ∈ ea_tbl := ea_in (et_9 (List.mem_of_getElem? (i := 82) rfl)) rfl
theorem ew_2110 : Cond.methodLink RL 131 yX12_place ∈ ea_tbl := ea_in (et_9 (List.mem_of_getElem? (i := 83) (by decide +kernel))) rfl
theorem ew_2111 : Cond.instanceMethod yX12_place ∈ ea_tbl := ea_in (et_9 (List.mem_of_getElem? (i := 84) (by decide +kernel))) rfl
theorem ew_2112 : Cond.selects RX12 yX12_place yX12_place ∈ ea_tbl := ea_in (et_9 (List.mem_of_getElem? (i := 85) (by decide +kernel))) rfl
theorem ew_2113 : Cond.code yX12_place cX12_place 5 (some .boolean) ∈ ea_tbl := ea_in (et_9 (List.mem_of_getElem? (i := 86) rfl)) rfl
theorem ew_2114 : Cond.methodLink RL 136 yX12_order ∈ ea_tbl := ea_in (et_9 (List.mem_of_getElem? (i := 87) (by decide +kernel))) rfl
theorem ew_2115 : Cond.instanceMethod yX12_order ∈ ea_tbl := ea_in (et_9 (List.mem_of_getElem? (i := 88) (by decide +kernel))) rfl
theorem ew_2116 : Cond.selects RX12 yX12_order yX12_order ∈ ea_tbl := ea_in (et_9 (List.mem_of_getElem? (i := 89) (by decide +kernel))) rfl
theorem ew_2117 : Cond.code yX12_order cX12_order 9 (some .long) ∈ ea_tbl := ea_in (et_9 (List.mem_of_getElem? (i := 90) rfl)) rfl
theorem ew_2118 : Cond.constantLong RX12 603 (-1) ∈ ea_tbl := ea_in (et_9 (List.mem_of_getElem? (i := 91) (by decide +kernel))) rfl
theorem ew_2119 : Cond.constantLong RX12 605 100 ∈ ea_tbl := ea_in (et_9 (List.mem_of_getElem? (i := 92) (by decide +kernel))) rfl
theorem ew_2120 : Cond.methodLink RX12 607 yX12_common ∈ ea_tbl := ea_in (et_9 (List.mem_of_getElem? (i := 93) (by decide +kernel))) rfl
theorem ew_2121 : Cond.static yX12_common ∈ ea_tbl := ea_in (et_9 (List.mem_of_getElem? (i := 94) (by decide +kernel))) rfl
theorem ew_2122 : Cond.code yX12_common cX12_common 10 (some .long) ∈ ea_tbl := ea_in (et_9 (List.mem_of_getElem? (i := 95) rfl)) rfl
theorem ew_2123 : Cond.methodLink RX12 611 yX12_ordered ∈ ea_tbl := ea_in (et_9 (List.mem_of_getElem? (i := 96) (by decide +kernel))) rfl
theorem ew_2125 : Cond.instanceMethod yX12_ordered ∈ ea_tbl := ea_in (et_9 (List.mem_of_getElem? (i := 98) (by decide +kernel))) rfl
theorem ew_2126 : Cond.code yX12_ordered cX12_ordered 8 (some .int) ∈ ea_tbl := ea_in (et_9 (List.mem_of_getElem? (i := 99) rfl)) rfl
theorem ew_2127 : Cond.methodLink RL 140 yX12_found ∈ ea_tbl := ea_in (et_9 (List.mem_of_getElem? (i := 100) (by decide +kernel))) rfl
theorem ew_2128 : Cond.instanceMethod yX12_found ∈ ea_tbl := ea_in (et_9 (List.mem_of_getElem? (i := 101) (by decide +kernel))) rfl
theorem ew_2129 : Cond.selects RX12 yX12_found yX12_found ∈ ea_tbl := ea_in (et_9 (List.mem_of_getElem? (i := 102) (by decide +kernel))) rfl
theorem ew_2130 : Cond.code yX12_found cX12_found 4 (some .boolean) ∈ ea_tbl := ea_in (et_9 (List.mem_of_getElem? (i := 103) rfl)) rfl
theorem ew_2131 : Cond.methodLink RL 144 yX12_rob ∈ ea_tbl := ea_in (et_9 (List.mem_of_getElem? (i := 104) (by decide +kernel))) rfl
theorem ew_2132 : Cond.instanceMethod yX12_rob ∈ ea_tbl := ea_in (et_9 (List.mem_of_getElem? (i := 105) (by decide +kernel))) rfl
theorem ew_2133 : Cond.selects RX12 yX12_rob yX12_rob ∈ ea_tbl := ea_in (et_9 (List.mem_of_getElem? (i := 106) (by decide +kernel))) rfl
theorem ew_2134 : Cond.code yX12_rob cX12_rob 7 (some .int) ∈ ea_tbl := ea_in (et_9 (List.mem_of_getElem? (i := 107) rfl)) rfl
theorem ew_2135 : Cond.methodLink RL 148 yX12_robbery ∈ ea_tbl := ea_in (et_9 (List.mem_of_getElem? (i := 108) (by decide +kernel))) rfl
theorem ew_2136 : Cond.instanceMethod yX12_robbery ∈ ea_tbl := ea_in (et_9 (List.mem_of_getElem? (i := 109) (by decide +kernel))) rfl
theorem ew_2137 : Cond.selects RX12 yX12_robbery yX12_robbery ∈ ea_tbl := ea_in (et_9 (List.mem_of_getElem? (i := 110) (by decide +kernel))) rfl
theorem ew_2138 : Cond.code yX12_robbery cX12_robbery 3 (some .int) ∈ ea_tbl := ea_in (et_9 (List.mem_of_getElem? (i := 111) rfl)) rfl
theorem ew_2139 : Cond.methodLink RL 152 yX12_set ∈ ea_tbl := ea_in (et_9 (List.mem_of_getElem? (i := 112) (by decide +kernel))) rfl
theorem ew_2140 : Cond.instanceMethod yX12_set ∈ ea_tbl := ea_in (et_9 (List.mem_of_getElem? (i := 113) (by decide +kernel))) rfl
theorem ew_2141 : Cond.selects RX12 yX12_set yX12_set ∈ ea_tbl := ea_in (et_9 (List.mem_of_getElem? (i := 114) (by decide +kernel))) rfl
theorem ew_2142 : Cond.code yX12_set cX12_set 2 (some .boolean) ∈ ea_tbl := ea_in (et_9 (List.mem_of_getElem? (i := 115) rfl)) rfl
theorem ew_2143 : Cond.methodLink RL 156 yX12_seen ∈ ea_tbl := ea_in (et_9 (List.mem_of_getElem? (i := 116) (by decide +kernel))) rfl
theorem ew_2144 : Cond.instanceMethod yX12_seen ∈ ea_tbl := ea_in (et_9 (List.mem_of_getElem? (i := 117) (by decide +kernel))) rfl
theorem ew_2145 : Cond.selects RX12 yX12_seen yX12_seen ∈ ea_tbl := ea_in (et_9 (List.mem_of_getElem? (i := 118) (by decide +kernel))) rfl
theorem ew_2146 : Cond.code yX12_seen cX12_seen 6 (some .boolean) ∈ ea_tbl := ea_in (et_9 (List.mem_of_getElem? (i := 119) rfl)) rfl
theorem ew_2147 : Cond.methodLink RX12 619 yX12_isMinute ∈ ea_tbl := ea_in (et_9 (List.mem_of_getElem? (i := 120) (by decide +kernel))) rfl
theorem ew_2148 : Cond.static yX12_isMinute ∈ ea_tbl := ea_in (et_9 (List.mem_of_getElem? (i := 121) (by decide +kernel))) rfl
theorem ew_2149 : Cond.code yX12_isMinute cX12_isMinute 1 (some .boolean) ∈ ea_tbl := ea_in (et_9 (List.mem_of_getElem? (i := 122) rfl)) rfl
theorem ew_2150 : Cond.methodLink RX12 622 yX12_shows ∈ ea_tbl := ea_in (et_9 (List.mem_of_getElem? (i := 123) (by decide +kernel))) rfl
theorem ew_2152 : Cond.instanceMethod yX12_shows ∈ ea_tbl := ea_in (et_9 (List.mem_of_getElem? (i := 125) (by decide +kernel))) rfl
theorem ew_2153 : Cond.code yX12_shows cX12_shows 4 (some .int) ∈ ea_tbl := ea_in (et_9 (List.mem_of_getElem? (i := 126) rfl)) rfl
theorem ew_2154 : Cond.constantLong RX12 617 3600 ∈ ea_tbl := ea_in (et_9 (List.mem_of_getElem? (i := 127) (by decide +kernel))) rfl
theorem ew_2155 : Cond.methodLink RL 160 yX12_clock ∈ ea_tbl := ea_in (et_9 (List.mem_of_getElem? (i := 128) (by decide +kernel))) rfl
theorem ew_2156 : Cond.instanceMethod yX12_clock ∈ ea_tbl := ea_in (et_9 (List.mem_of_getElem? (i := 129) (by decide +kernel))) rfl
theorem ew_2157 : Cond.selects RX12 yX12_clock yX12_clock ∈ ea_tbl := ea_in (et_9 (List.mem_of_getElem? (i := 130) (by decide +kernel))) rfl
theorem ew_2158 : Cond.code yX12_clock cX12_clock 3 (some .int) ∈ ea_tbl := ea_in (et_9 (List.mem_of_getElem? (i := 131) rfl)) rfl
theorem ew_2159 : Cond.methodLink RL 164 yX12_trueMinute ∈ ea_tbl := ea_in (et_9 (List.mem_of_getElem? (i := 132) (by decide +kernel))) rfl
theorem ew_2160 : Cond.instanceMethod yX12_trueMinute ∈ ea_tbl := ea_in (et_9 (List.mem_of_getElem? (i := 133) (by decide +kernel))) rfl
theorem ew_2161 : Cond.selects RX12 yX12_trueMinute yX12_trueMinute ∈ ea_tbl := ea_in (et_9 (List.mem_of_getElem? (i := 134) (by decide +kernel))) rfl
theorem ew_2162 : Cond.code yX12_trueMinute cX12_trueMinute 6 (some .int) ∈ ea_tbl := ea_in (et_9 (List.mem_of_getElem? (i := 135) rfl)) rfl
theorem ew_2163 : Cond.methodLink RX12 625 yX12_mayShow ∈ ea_tbl := ea_in (et_9 (List.mem_of_getElem? (i := 136) (by decide +kernel))) rfl
theorem ew_2165 : Cond.instanceMethod yX12_mayShow ∈ ea_tbl := ea_in (et_9 (List.mem_of_getElem? (i := 138) (by decide +kernel))) rfl
theorem ew_2166 : Cond.code yX12_mayShow cX12_mayShow 6 (some .boolean) ∈ ea_tbl := ea_in (et_9 (List.mem_of_getElem? (i := 139) rfl)) rfl
theorem ew_2167 : Cond.methodLink RL 169 yX12_tried ∈ ea_tbl := ea_in (et_9 (List.mem_of_getElem? (i := 140) (by decide +kernel))) rfl
theorem ew_2168 : Cond.instanceMethod yX12_tried ∈ ea_tbl := ea_in (et_9 (List.mem_of_getElem? (i := 141) (by decide +kernel))) rfl
theorem ew_2169 : Cond.selects RX12 yX12_tried yX12_tried ∈ ea_tbl := ea_in (et_9 (List.mem_of_getElem? (i := 142) (by decide +kernel))) rfl
theorem ew_2170 : Cond.code yX12_tried cX12_tried 5 (some .long) ∈ ea_tbl := ea_in (et_9 (List.mem_of_getElem? (i := 143) rfl)) rfl
theorem ew_2171 : Cond.methodLink RL 173 yX12_whatIf ∈ ea_tbl := ea_in (et_9 (List.mem_of_getElem? (i := 144) (by decide +kernel))) rfl
theorem ew_2172 : Cond.instanceMethod yX12_whatIf ∈ ea_tbl := ea_in (et_9 (List.mem_of_getElem? (i := 145) (by decide +kernel))) rfl
theorem ew_2173 : Cond.selects RX12 yX12_whatIf yX12_whatIf ∈ ea_tbl := ea_in (et_9 (List.mem_of_getElem? (i := 146) (by decide +kernel))) rfl
theorem ew_2174 : Cond.code yX12_whatIf cX12_whatIf 6 (some .int) ∈ ea_tbl := ea_in (et_9 (List.mem_of_getElem? (i := 147) rfl)) rfl
theorem ew_2175 : Cond.methodLink RX12 634 yX12_sums ∈ ea_tbl := ea_in (et_9 (List.mem_of_getElem? (i := 148) (by decide +kernel))) rfl
theorem ew_2177 : Cond.instanceMethod yX12_sums ∈ ea_tbl := ea_in (et_9 (List.mem_of_getElem? (i := 150) (by decide +kernel))) rfl
theorem ew_2178 : Cond.code yX12_sums cX12_sums 3 (some .int) ∈ ea_tbl := ea_in (et_9 (List.mem_of_getElem? (i := 151) rfl)) rfl
theorem ew_2179 : Cond.methodLink RX12 628 yX12_keeps ∈ ea_tbl := ea_in (et_9 (List.mem_of_getElem? (i := 152) (by decide +kernel))) rfl
theorem ew_2181 : Cond.instanceMethod yX12_keeps ∈ ea_tbl := ea_in (et_9 (List.mem_of_getElem? (i := 154) (by decide +kernel))) rfl
theorem ew_2182 : Cond.code yX12_keeps cX12_keeps 2 none ∈ ea_tbl := ea_in (et_9 (List.mem_of_getElem? (i := 155) rfl)) rfl
theorem ew_2183 : Cond.methodLink RX12 631 yX12_putsBack ∈ ea_tbl := ea_in (et_9 (List.mem_of_getElem? (i := 156) (by decide +kernel))) rfl
theorem ew_2185 : Cond.instanceMethod yX12_putsBack ∈ ea_tbl := ea_in (et_9 (List.mem_of_getElem? (i := 158) (by decide +kernel))) rfl
theorem ew_2186 : Cond.code yX12_putsBack cX12_putsBack 2 none ∈ ea_tbl := ea_in (et_9 (List.mem_of_getElem? (i := 159) rfl)) rfl
theorem ew_2187 : Cond.methodLink RL 177 yX12_seats ∈ ea_tbl := ea_in (et_9 (List.mem_of_getElem? (i := 160) (by decide +kernel))) rfl
theorem ew_2188 : Cond.instanceMethod yX12_seats ∈ ea_tbl := ea_in (et_9 (List.mem_of_getElem? (i := 161) (by decide +kernel))) rfl
theorem ew_2189 : Cond.selects RX12 yX12_seats yX12_seats ∈ ea_tbl := ea_in (et_9 (List.mem_of_getElem? (i := 162) (by decide +kernel))) rfl
theorem ew_2190 : Cond.code yX12_seats cX12_seats 10 (some .int) ∈ ea_tbl := ea_in (et_9 (List.mem_of_getElem? (i := 163) rfl)) rfl
