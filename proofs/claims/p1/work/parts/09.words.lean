/-! words of the tables -/
theorem ew_47 : Cond.selects RX12 yX12_isTown yX12_isTown ∈ ea_tbl := ea_in (List.mem_of_getElem? (i := 47) (by decide +kernel)) rfl
theorem ew_108 : Cond.initialized RX11 ∈ ea_tbl := ea_in (et_1 (List.mem_of_getElem? (i := 1) (by decide +kernel))) rfl
theorem ew_109 : Cond.initialized RX6 ∈ ea_tbl := ea_in (et_1 (List.mem_of_getElem? (i := 2) (by decide +kernel))) rfl
theorem ew_110 : Cond.initialized RJ7 ∈ ea_tbl := ea_in (et_1 (List.mem_of_getElem? (i := 3) (by decide +kernel))) rfl
theorem ew_112 : Cond.initialized RJ9 ∈ ea_tbl := ea_in (et_1 (List.mem_of_getElem? (i := 5) (by decide +kernel))) rfl
theorem ew_113 : Cond.initialized RX9 ∈ ea_tbl := ea_in (et_1 (List.mem_of_getElem? (i := 6) (by decide +kernel))) rfl
theorem ew_114 : Cond.initialized RX10 ∈ ea_tbl := ea_in (et_1 (List.mem_of_getElem? (i := 7) (by decide +kernel))) rfl
theorem ew_115 : Cond.initialized RX3 ∈ ea_tbl := ea_in (et_1 (List.mem_of_getElem? (i := 8) (by decide +kernel))) rfl
theorem ew_116 : Cond.initialized RX8 ∈ ea_tbl := ea_in (et_1 (List.mem_of_getElem? (i := 9) (by decide +kernel))) rfl
theorem ew_117 : Cond.initialized RX5 ∈ ea_tbl := ea_in (et_1 (List.mem_of_getElem? (i := 10) (by decide +kernel))) rfl
theorem ew_118 : Cond.initialized RX1 ∈ ea_tbl := ea_in (et_1 (List.mem_of_getElem? (i := 11) (by decide +kernel))) rfl
theorem ew_119 : Cond.initialized RX2 ∈ ea_tbl := ea_in (et_1 (List.mem_of_getElem? (i := 12) (by decide +kernel))) rfl
theorem ew_120 : Cond.initialized RX12 ∈ ea_tbl := ea_in (et_1 (List.mem_of_getElem? (i := 13) (by decide +kernel))) rfl
theorem ew_121 : Cond.initialized RX0 ∈ ea_tbl := ea_in (et_1 (List.mem_of_getElem? (i := 14) (by decide +kernel))) rfl
theorem ew_126 : Cond.initialized RX4 ∈ ea_tbl := ea_in (et_1 (List.mem_of_getElem? (i := 19) (by decide +kernel))) rfl
theorem ew_127 : Cond.initialized RX7 ∈ ea_tbl := ea_in (et_1 (List.mem_of_getElem? (i := 20) (by decide +kernel))) rfl
theorem ew_132 : Cond.code yX11_init cX11_init 2 none ∈ ea_tbl := ea_in (et_1 (List.mem_of_getElem? (i := 25) rfl)) rfl
theorem ew_140 : Cond.code yX6_init cX6_init 2 none ∈ ea_tbl := ea_in (et_1 (List.mem_of_getElem? (i := 33) rfl)) rfl
theorem ew_145 : Cond.code yJ7_fill_53178 cJ7_fill_53178 4 none ∈ ea_tbl := ea_in (et_1 (List.mem_of_getElem? (i := 38) rfl)) rfl
theorem ew_149 : Cond.code yX6_reckon cX6_reckon 7 none ∈ ea_tbl := ea_in (et_1 (List.mem_of_getElem? (i := 42) rfl)) rfl
theorem ew_155 : Cond.code yJ9_min_7cf53 cJ9_min_7cf53 2 (some .int) ∈ ea_tbl := ea_in (et_1 (List.mem_of_getElem? (i := 48) rfl)) rfl
theorem ew_156 : Cond.fieldLink RX11 77 RX6 "count" "I" ∈ ea_tbl := ea_in (et_1 (List.mem_of_getElem? (i := 49) (by decide +kernel))) rfl
theorem ew_175 : Cond.code yX9_init cX9_init 1 none ∈ ea_tbl := ea_in (et_1 (List.mem_of_getElem? (i := 68) rfl)) rfl
theorem ew_223 : Cond.code yX10_init cX10_init 2 none ∈ ea_tbl := ea_in (et_1 (List.mem_of_getElem? (i := 116) rfl)) rfl
theorem ew_259 : Cond.code yX3_init cX3_init 1 none ∈ ea_tbl := ea_in (et_1 (List.mem_of_getElem? (i := 152) rfl)) rfl
theorem ew_283 : Cond.code yX8_init cX8_init 1 none ∈ ea_tbl := ea_in (et_1 (List.mem_of_getElem? (i := 176) rfl)) rfl
theorem ew_289 : Cond.code yX5_init cX5_init 1 none ∈ ea_tbl := ea_in (et_1 (List.mem_of_getElem? (i := 182) rfl)) rfl
theorem ew_357 : Cond.code yX1_init cX1_init 6 none ∈ ea_tbl := ea_in (et_2 (List.mem_of_getElem? (i := 10) rfl)) rfl
theorem ew_422 : Cond.code yX2_init cX2_init 1 none ∈ ea_tbl := ea_in (et_2 (List.mem_of_getElem? (i := 75) rfl)) rfl
theorem ew_437 : Cond.fieldLink RX11 12 RX11 "roads" "LInlandMails$Roads;" ∈ ea_tbl := ea_in (et_2 (List.mem_of_getElem? (i := 90) (by decide +kernel))) rfl
theorem ew_489 : Cond.code yX11_town cX11_town 1 (some .int) ∈ ea_tbl := ea_in (et_2 (List.mem_of_getElem? (i := 142) rfl)) rfl
theorem ew_493 : Cond.code yX11_road cX11_road 4 (some .boolean) ∈ ea_tbl := ea_in (et_2 (List.mem_of_getElem? (i := 146) rfl)) rfl
theorem ew_494 : Cond.methodLink RX11 81 yX6_has ∈ ea_tbl := ea_in (et_2 (List.mem_of_getElem? (i := 147) (by decide +kernel))) rfl
theorem ew_495 : Cond.instanceMethod yX6_has ∈ ea_tbl := ea_in (et_2 (List.mem_of_getElem? (i := 148) (by decide +kernel))) rfl
theorem ew_496 : Cond.selects RX6 yX6_has yX6_has ∈ ea_tbl := ea_in (et_2 (List.mem_of_getElem? (i := 149) (by decide +kernel))) rfl
theorem ew_497 : Cond.code yX6_has cX6_has 2 (some .boolean) ∈ ea_tbl := ea_in (et_2 (List.mem_of_getElem? (i := 150) rfl)) rfl
theorem ew_498 : Cond.methodLink RX11 85 yX6_lay ∈ ea_tbl := ea_in (et_2 (List.mem_of_getElem? (i := 151) (by decide +kernel))) rfl
theorem ew_499 : Cond.instanceMethod yX6_lay ∈ ea_tbl := ea_in (et_2 (List.mem_of_getElem? (i := 152) (by decide +kernel))) rfl
theorem ew_500 : Cond.selects RX6 yX6_lay yX6_lay ∈ ea_tbl := ea_in (et_2 (List.mem_of_getElem? (i := 153) (by decide +kernel))) rfl
theorem ew_501 : Cond.code yX6_lay cX6_lay 4 none ∈ ea_tbl := ea_in (et_2 (List.mem_of_getElem? (i := 154) rfl)) rfl
theorem ew_505 : Cond.code yX11_miles cX11_miles 3 (some .int) ∈ ea_tbl := ea_in (et_2 (List.mem_of_getElem? (i := 158) rfl)) rfl
theorem ew_509 : Cond.code yX6_between cX6_between 4 (some .int) ∈ ea_tbl := ea_in (et_2 (List.mem_of_getElem? (i := 162) rfl)) rfl
theorem ew_513 : Cond.code yX11_train cX11_train 1 (some .int) ∈ ea_tbl := ea_in (et_2 (List.mem_of_getElem? (i := 166) rfl)) rfl
theorem ew_517 : Cond.code yX11_stop cX11_stop 7 (some .int) ∈ ea_tbl := ea_in (et_2 (List.mem_of_getElem? (i := 170) rfl)) rfl
theorem ew_521 : Cond.code yX9_has cX9_has 2 (some .boolean) ∈ ea_tbl := ea_in (et_2 (List.mem_of_getElem? (i := 174) rfl)) rfl
theorem ew_525 : Cond.code yX9_add cX9_add 8 (some .int) ∈ ea_tbl := ea_in (et_2 (List.mem_of_getElem? (i := 178) rfl)) rfl
theorem ew_529 : Cond.code yX11_tableChanged cX11_tableChanged 1 none ∈ ea_tbl := ea_in (et_2 (List.mem_of_getElem? (i := 182) rfl)) rfl
theorem ew_533 : Cond.code yX11_stopOf cX11_stopOf 5 (some .int) ∈ ea_tbl := ea_in (et_2 (List.mem_of_getElem? (i := 186) rfl)) rfl
theorem ew_537 : Cond.code yX11_late cX11_late 4 (some .boolean) ∈ ea_tbl := ea_in (et_2 (List.mem_of_getElem? (i := 190) rfl)) rfl
theorem ew_541 : Cond.code yX11_mayBeTold cX11_mayBeTold 4 (some .boolean) ∈ ea_tbl := ea_in (et_2 (List.mem_of_getElem? (i := 194) rfl)) rfl
theorem ew_545 : Cond.code yX9_hasRun cX9_hasRun 3 (some .boolean) ∈ ea_tbl := ea_in (et_2 (List.mem_of_getElem? (i := 198) rfl)) rfl
theorem ew_550 : Cond.code yX11_miss cX11_miss 5 (some .boolean) ∈ ea_tbl := ea_in (et_2 (List.mem_of_getElem? (i := 203) rfl)) rfl
theorem ew_554 : Cond.code yX9_comesAt cX9_comesAt 4 (some .int) ∈ ea_tbl := ea_in (et_2 (List.mem_of_getElem? (i := 207) rfl)) rfl
theorem ew_558 : Cond.code yX11_minutes cX11_minutes 2 (some .int) ∈ ea_tbl := ea_in (et_2 (List.mem_of_getElem? (i := 211) rfl)) rfl
theorem ew_562 : Cond.code yX1_carry cX1_carry 7 none ∈ ea_tbl := ea_in (et_2 (List.mem_of_getElem? (i := 215) rfl)) rfl
theorem ew_566 : Cond.code yX10_refresh cX10_refresh 1 none ∈ ea_tbl := ea_in (et_2 (List.mem_of_getElem? (i := 219) rfl)) rfl
theorem ew_570 : Cond.code yX10_collect cX10_collect 5 none ∈ ea_tbl := ea_in (et_2 (List.mem_of_getElem? (i := 223) rfl)) rfl
theorem ew_575 : Cond.code yX10_addKey cX10_addKey 3 none ∈ ea_tbl := ea_in (et_2 (List.mem_of_getElem? (i := 228) rfl)) rfl
theorem ew_579 : Cond.code yX9_goesAt cX9_goesAt 4 (some .int) ∈ ea_tbl := ea_in (et_2 (List.mem_of_getElem? (i := 232) rfl)) rfl
theorem ew_583 : Cond.code yX10_sortKeys cX10_sortKeys 5 none ∈ ea_tbl := ea_in (et_2 (List.mem_of_getElem? (i := 236) rfl)) rfl
theorem ew_587 : Cond.code yX10_linkMinutes cX10_linkMinutes 4 none ∈ ea_tbl := ea_in (et_3 (List.mem_of_getElem? (i := 0) rfl)) rfl
theorem ew_591 : Cond.code yX10_isGoing cX10_isGoing 1 (some .boolean) ∈ ea_tbl := ea_in (et_3 (List.mem_of_getElem? (i := 4) rfl)) rfl
theorem ew_595 : Cond.code yX10_townIn cX10_townIn 2 (some .int) ∈ ea_tbl := ea_in (et_3 (List.mem_of_getElem? (i := 8) rfl)) rfl
theorem ew_598 : Cond.code yX10_trainIn cX10_trainIn 1 (some .int) ∈ ea_tbl := ea_in (et_3 (List.mem_of_getElem? (i := 11) rfl)) rfl
theorem ew_601 : Cond.code yX10_stopIn cX10_stopIn 1 (some .int) ∈ ea_tbl := ea_in (et_3 (List.mem_of_getElem? (i := 14) rfl)) rfl
theorem ew_604 : Cond.code yX10_minuteIn cX10_minuteIn 1 (some .int) ∈ ea_tbl := ea_in (et_3 (List.mem_of_getElem? (i := 17) rfl)) rfl
theorem ew_607 : Cond.code yX10_slotIn cX10_slotIn 1 (some .int) ∈ ea_tbl := ea_in (et_3 (List.mem_of_getElem? (i := 20) rfl)) rfl
theorem ew_610 : Cond.code yX10_dayIn cX10_dayIn 1 (some .int) ∈ ea_tbl := ea_in (et_3 (List.mem_of_getElem? (i := 23) rfl)) rfl
theorem ew_614 : Cond.code yX10_trace cX10_trace 3 none ∈ ea_tbl := ea_in (et_3 (List.mem_of_getElem? (i := 27) rfl)) rfl
theorem ew_618 : Cond.code yJ7_fill_d0a16 cJ7_fill_d0a16 5 none ∈ ea_tbl := ea_in (et_3 (List.mem_of_getElem? (i := 31) rfl)) rfl
theorem ew_622 : Cond.code yX10_takeRun cX10_takeRun 9 none ∈ ea_tbl := ea_in (et_3 (List.mem_of_getElem? (i := 35) rfl)) rfl
theorem ew_625 : Cond.code yJ9_min_f86c9 cJ9_min_f86c9 4 (some .long) ∈ ea_tbl := ea_in (et_3 (List.mem_of_getElem? (i := 38) rfl)) rfl
theorem ew_629 : Cond.code yX10_leaveRun cX10_leaveRun 12 none ∈ ea_tbl := ea_in (et_3 (List.mem_of_getElem? (i := 42) rfl)) rfl
theorem ew_634 : Cond.code yX10_firstBehind cX10_firstBehind 3 (some .int) ∈ ea_tbl := ea_in (et_3 (List.mem_of_getElem? (i := 47) rfl)) rfl
theorem ew_638 : Cond.code yX10_keyAt cX10_keyAt 2 (some .int) ∈ ea_tbl := ea_in (et_3 (List.mem_of_getElem? (i := 51) rfl)) rfl
theorem ew_644 : Cond.code yX1_burn cX1_burn 3 none ∈ ea_tbl := ea_in (et_3 (List.mem_of_getElem? (i := 57) rfl)) rfl
theorem ew_648 : Cond.code yX1_move cX1_move 5 none ∈ ea_tbl := ea_in (et_3 (List.mem_of_getElem? (i := 61) rfl)) rfl
theorem ew_652 : Cond.code yX4_note cX4_note 4 none ∈ ea_tbl := ea_in (et_3 (List.mem_of_getElem? (i := 65) rfl)) rfl
theorem ew_653 : Cond.methodLink RX4 52 yJ7_copyOf_59c91 ∈ ea_tbl := ea_in (et_3 (List.mem_of_getElem? (i := 66) (by decide +kernel))) rfl
theorem ew_654 : Cond.static yJ7_copyOf_59c91 ∈ ea_tbl := ea_in (et_3 (List.mem_of_getElem? (i := 67) (by decide +kernel))) rfl
theorem ew_655 : Cond.code yJ7_copyOf_59c91 cJ7_copyOf_59c91 3 (some (.array .int)) ∈ ea_tbl := ea_in (et_3 (List.mem_of_getElem? (i := 68) rfl)) rfl
theorem ew_669 : Cond.code yX1_goes cX1_goes 10 none ∈ ea_tbl := ea_in (et_3 (List.mem_of_getElem? (i := 82) rfl)) rfl
theorem ew_676 : Cond.code yX10_bestAtGoing cX10_bestAtGoing 4 (some .long) ∈ ea_tbl := ea_in (et_3 (List.mem_of_getElem? (i := 89) rfl)) rfl
theorem ew_679 : Cond.code yX10_begins cX10_begins 3 (some .boolean) ∈ ea_tbl := ea_in (et_3 (List.mem_of_getElem? (i := 92) rfl)) rfl
theorem ew_682 : Cond.code yX10_trainOf cX10_trainOf 2 (some .int) ∈ ea_tbl := ea_in (et_3 (List.mem_of_getElem? (i := 95) rfl)) rfl
theorem ew_685 : Cond.code yX10_dayOf cX10_dayOf 2 (some .int) ∈ ea_tbl := ea_in (et_3 (List.mem_of_getElem? (i := 98) rfl)) rfl
theorem ew_688 : Cond.code yX10_takenOf cX10_takenOf 2 (some .int) ∈ ea_tbl := ea_in (et_3 (List.mem_of_getElem? (i := 101) rfl)) rfl
theorem ew_691 : Cond.code yX10_leftOf cX10_leftOf 2 (some .int) ∈ ea_tbl := ea_in (et_3 (List.mem_of_getElem? (i := 104) rfl)) rfl
theorem ew_695 : Cond.code yX3_sitsIn cX3_sitsIn 3 (some .boolean) ∈ ea_tbl := ea_in (et_3 (List.mem_of_getElem? (i := 108) rfl)) rfl
theorem ew_699 : Cond.code yX1_sort cX1_sort 7 none ∈ ea_tbl := ea_in (et_3 (List.mem_of_getElem? (i := 112) rfl)) rfl
theorem ew_703 : Cond.code yX3_begin cX3_begin 3 none ∈ ea_tbl := ea_in (et_3 (List.mem_of_getElem? (i := 116) rfl)) rfl
theorem ew_707 : Cond.code yX1_isAboard cX1_isAboard 3 (some .boolean) ∈ ea_tbl := ea_in (et_3 (List.mem_of_getElem? (i := 120) rfl)) rfl
theorem ew_711 : Cond.code yX3_sortsOne cX3_sortsOne 4 (some .boolean) ∈ ea_tbl := ea_in (et_3 (List.mem_of_getElem? (i := 124) rfl)) rfl
theorem ew_715 : Cond.code yX1_comes cX1_comes 10 none ∈ ea_tbl := ea_in (et_3 (List.mem_of_getElem? (i := 128) rfl)) rfl
theorem ew_719 : Cond.code yX1_stateIn cX1_stateIn 3 (some .int) ∈ ea_tbl := ea_in (et_3 (List.mem_of_getElem? (i := 132) rfl)) rfl
theorem ew_724 : Cond.code yX11_look cX11_look 2 (some .int) ∈ ea_tbl := ea_in (et_3 (List.mem_of_getElem? (i := 137) rfl)) rfl
theorem ew_728 : Cond.code yX1_inState cX1_inState 4 (some .int) ∈ ea_tbl := ea_in (et_3 (List.mem_of_getElem? (i := 141) rfl)) rfl
theorem ew_732 : Cond.code yX11_feed cX11_feed 7 (some .int) ∈ ea_tbl := ea_in (et_3 (List.mem_of_getElem? (i := 145) rfl)) rfl
theorem ew_736 : Cond.code yX5_take cX5_take 3 none ∈ ea_tbl := ea_in (et_3 (List.mem_of_getElem? (i := 149) rfl)) rfl
theorem ew_740 : Cond.code yX11_end cX11_end 2 (some .boolean) ∈ ea_tbl := ea_in (et_3 (List.mem_of_getElem? (i := 153) rfl)) rfl
theorem ew_744 : Cond.code yX11_act cX11_act 2 (some .int) ∈ ea_tbl := ea_in (et_3 (List.mem_of_getElem? (i := 157) rfl)) rfl
theorem ew_748 : Cond.code yX8_mayBegin cX8_mayBegin 3 (some .boolean) ∈ ea_tbl := ea_in (et_3 (List.mem_of_getElem? (i := 161) rfl)) rfl
theorem ew_752 : Cond.code yX5_drop cX5_drop 1 none ∈ ea_tbl := ea_in (et_3 (List.mem_of_getElem? (i := 165) rfl)) rfl
theorem ew_756 : Cond.code yX5_read cX5_read 4 (some (.object RX0)) ∈ ea_tbl := ea_in (et_3 (List.mem_of_getElem? (i := 169) rfl)) rfl
theorem ew_760 : Cond.code yX5_scan cX5_scan 3 none ∈ ea_tbl := ea_in (et_3 (List.mem_of_getElem? (i := 173) rfl)) rfl
theorem ew_763 : Cond.code yX5_isLetter cX5_isLetter 1 (some .boolean) ∈ ea_tbl := ea_in (et_3 (List.mem_of_getElem? (i := 176) rfl)) rfl
theorem ew_767 : Cond.code yX5_scanWord cX5_scanWord 7 (some .int) ∈ ea_tbl := ea_in (et_3 (List.mem_of_getElem? (i := 180) rfl)) rfl
theorem ew_774 : Cond.code yX5_addToken cX5_addToken 4 none ∈ ea_tbl := ea_in (et_3 (List.mem_of_getElem? (i := 187) rfl)) rfl
theorem ew_777 : Cond.code yX5_isDigit cX5_isDigit 1 (some .boolean) ∈ ea_tbl := ea_in (et_3 (List.mem_of_getElem? (i := 190) rfl)) rfl
theorem ew_781 : Cond.code yX5_scanNumber cX5_scanNumber 4 (some .int) ∈ ea_tbl := ea_in (et_3 (List.mem_of_getElem? (i := 194) rfl)) rfl
theorem ew_784 : Cond.code yX5_isSign cX5_isSign 1 (some .boolean) ∈ ea_tbl := ea_in (et_3 (List.mem_of_getElem? (i := 197) rfl)) rfl
theorem ew_790 : Cond.code yX0_init cX0_init 2 none ∈ ea_tbl := ea_in (et_3 (List.mem_of_getElem? (i := 203) rfl)) rfl
theorem ew_854 : Cond.code yX5_refuse cX5_refuse 2 (some .boolean) ∈ ea_tbl := ea_in (et_4 (List.mem_of_getElem? (i := 27) rfl)) rfl
theorem ew_858 : Cond.code yX5_readCharge cX5_readCharge 4 (some .boolean) ∈ ea_tbl := ea_in (et_4 (List.mem_of_getElem? (i := 31) rfl)) rfl
theorem ew_862 : Cond.code yX5_step cX5_step 1 none ∈ ea_tbl := ea_in (et_4 (List.mem_of_getElem? (i := 35) rfl)) rfl
theorem ew_866 : Cond.code yX5_readSum cX5_readSum 4 (some .boolean) ∈ ea_tbl := ea_in (et_4 (List.mem_of_getElem? (i := 39) rfl)) rfl
theorem ew_870 : Cond.code yX5_readProduct cX5_readProduct 4 (some .boolean) ∈ ea_tbl := ea_in (et_4 (List.mem_of_getElem? (i := 43) rfl)) rfl
theorem ew_874 : Cond.code yX5_readUnit cX5_readUnit 2 (some .boolean) ∈ ea_tbl := ea_in (et_4 (List.mem_of_getElem? (i := 47) rfl)) rfl
theorem ew_878 : Cond.code yX5_put cX5_put 2 none ∈ ea_tbl := ea_in (et_4 (List.mem_of_getElem? (i := 51) rfl)) rfl
theorem ew_882 : Cond.code yX5_readWhen cX5_readWhen 6 (some .boolean) ∈ ea_tbl := ea_in (et_4 (List.mem_of_getElem? (i := 55) rfl)) rfl
theorem ew_886 : Cond.code yX5_readNots cX5_readNots 2 (some .int) ∈ ea_tbl := ea_in (et_4 (List.mem_of_getElem? (i := 59) rfl)) rfl
theorem ew_890 : Cond.code yX5_comparison cX5_comparison 1 (some .int) ∈ ea_tbl := ea_in (et_4 (List.mem_of_getElem? (i := 63) rfl)) rfl
theorem ew_894 : Cond.code yX5_readRule cX5_readRule 4 (some .boolean) ∈ ea_tbl := ea_in (et_4 (List.mem_of_getElem? (i := 67) rfl)) rfl
theorem ew_898 : Cond.code yX5_readAfter cX5_readAfter 3 (some .boolean) ∈ ea_tbl := ea_in (et_4 (List.mem_of_getElem? (i := 71) rfl)) rfl
theorem ew_902 : Cond.code yX5_skip cX5_skip 2 (some .boolean) ∈ ea_tbl := ea_in (et_4 (List.mem_of_getElem? (i := 75) rfl)) rfl
theorem ew_907 : Cond.code yX8_add cX8_add 2 (some .int) ∈ ea_tbl := ea_in (et_4 (List.mem_of_getElem? (i := 80) rfl)) rfl
theorem ew_911 : Cond.code yX11_fault cX11_fault 2 (some .int) ∈ ea_tbl := ea_in (et_4 (List.mem_of_getElem? (i := 84) rfl)) rfl
theorem ew_915 : Cond.code yX11_inForce cX11_inForce 5 (some .int) ∈ ea_tbl := ea_in (et_4 (List.mem_of_getElem? (i := 88) rfl)) rfl
theorem ew_919 : Cond.code yX8_numberOn cX8_numberOn 4 (some .int) ∈ ea_tbl := ea_in (et_4 (List.mem_of_getElem? (i := 92) rfl)) rfl
theorem ew_923 : Cond.code yX8_actOf cX8_actOf 2 (some (.object RX0)) ∈ ea_tbl := ea_in (et_4 (List.mem_of_getElem? (i := 96) rfl)) rfl
theorem ew_927 : Cond.code yX11_post cX11_post 9 (some .int) ∈ ea_tbl := ea_in (et_4 (List.mem_of_getElem? (i := 100) rfl)) rfl
theorem ew_931 : Cond.code yX4_init cX4_init 7 none ∈ ea_tbl := ea_in (et_4 (List.mem_of_getElem? (i := 104) rfl)) rfl
theorem ew_974 : Cond.fieldLink RX4 49 RX4 "rowCount" "I" ∈ ea_tbl := ea_in (et_4 (List.mem_of_getElem? (i := 147) (by decide +kernel))) rfl
theorem ew_976 : Cond.fieldLink RX4 21 RX4 "rows" "[I" ∈ ea_tbl := ea_in (et_4 (List.mem_of_getElem? (i := 149) (by decide +kernel))) rfl
theorem ew_1023 : Cond.code yJ9_max_7cf53 cJ9_max_7cf53 2 (some .int) ∈ ea_tbl := ea_in (et_4 (List.mem_of_getElem? (i := 196) rfl)) rfl
theorem ew_1027 : Cond.code yX6_isCross cX6_isCross 4 (some .boolean) ∈ ea_tbl := ea_in (et_4 (List.mem_of_getElem? (i := 200) rfl)) rfl
theorem ew_1031 : Cond.code yX11_franksAhead cX11_franksAhead 5 (some .int) ∈ ea_tbl := ea_in (et_4 (List.mem_of_getElem? (i := 204) rfl)) rfl
theorem ew_1035 : Cond.code yX4_dayOf cX4_dayOf 1 (some .int) ∈ ea_tbl := ea_in (et_4 (List.mem_of_getElem? (i := 208) rfl)) rfl
theorem ew_1039 : Cond.code yX8_price cX8_price 3 none ∈ ea_tbl := ea_in (et_4 (List.mem_of_getElem? (i := 212) rfl)) rfl
theorem ew_1045 : Cond.code yX8_isFree cX8_isFree 2 (some .boolean) ∈ ea_tbl := ea_in (et_4 (List.mem_of_getElem? (i := 218) rfl)) rfl
theorem ew_1049 : Cond.code yX8_chargeBy cX8_chargeBy 5 (some .int) ∈ ea_tbl := ea_in (et_4 (List.mem_of_getElem? (i := 222) rfl)) rfl
theorem ew_1053 : Cond.code yX8_lineFor cX8_lineFor 4 (some .int) ∈ ea_tbl := ea_in (et_4 (List.mem_of_getElem? (i := 226) rfl)) rfl
theorem ew_1057 : Cond.code yX8_ask cX8_ask 2 none ∈ ea_tbl := ea_in (et_4 (List.mem_of_getElem? (i := 230) rfl)) rfl
theorem ew_1061 : Cond.code yX8_worth cX8_worth 6 (some .int) ∈ ea_tbl := ea_in (et_4 (List.mem_of_getElem? (i := 234) rfl)) rfl
theorem ew_1064 : Cond.code yX8_joined cX8_joined 3 (some .int) ∈ ea_tbl := ea_in (et_4 (List.mem_of_getElem? (i := 237) rfl)) rfl
theorem ew_1071 : Cond.code yX1_begin cX1_begin 4 none ∈ ea_tbl := ea_in (et_5 (List.mem_of_getElem? (i := 4) rfl)) rfl
theorem ew_1075 : Cond.code yX11_of cX11_of 5 (some .int) ∈ ea_tbl := ea_in (et_5 (List.mem_of_getElem? (i := 8) rfl)) rfl
theorem ew_1079 : Cond.code yX11_letterOf cX11_letterOf 2 (some (.object RX4)) ∈ ea_tbl := ea_in (et_5 (List.mem_of_getElem? (i := 12) rfl)) rfl
theorem ew_1083 : Cond.code yX11_charge cX11_charge 4 (some .int) ∈ ea_tbl := ea_in (et_5 (List.mem_of_getElem? (i := 16) rfl)) rfl
theorem ew_1087 : Cond.code yX4_owed cX4_owed 1 (some .int) ∈ ea_tbl := ea_in (et_5 (List.mem_of_getElem? (i := 20) rfl)) rfl
theorem ew_1091 : Cond.code yX11_way cX11_way 7 (some .int) ∈ ea_tbl := ea_in (et_5 (List.mem_of_getElem? (i := 24) rfl)) rfl
theorem ew_1095 : Cond.code yX10_bestFrom cX10_bestFrom 6 (some .long) ∈ ea_tbl := ea_in (et_5 (List.mem_of_getElem? (i := 28) rfl)) rfl
theorem ew_1100 : Cond.code yX10_minuteOf cX10_minuteOf 2 (some .int) ∈ ea_tbl := ea_in (et_5 (List.mem_of_getElem? (i := 33) rfl)) rfl
theorem ew_1103 : Cond.code yX10_runsOf cX10_runsOf 2 (some .int) ∈ ea_tbl := ea_in (et_5 (List.mem_of_getElem? (i := 36) rfl)) rfl
theorem ew_1111 : Cond.code yX11_lead cX11_lead 5 (some .int) ∈ ea_tbl := ea_in (et_5 (List.mem_of_getElem? (i := 44) rfl)) rfl
theorem ew_1113 : Cond.instanceMethod yX4_rowMinute ∈ ea_tbl := ea_in (et_5 (List.mem_of_getElem? (i := 46) (by decide +kernel))) rfl
theorem ew_1114 : Cond.selects RX4 yX4_rowMinute yX4_rowMinute ∈ ea_tbl := ea_in (et_5 (List.mem_of_getElem? (i := 47) (by decide +kernel))) rfl
theorem ew_1115 : Cond.code yX4_rowMinute cX4_rowMinute 2 (some .int) ∈ ea_tbl := ea_in (et_5 (List.mem_of_getElem? (i := 48) rfl)) rfl
theorem ew_1119 : Cond.code yX4_rowState cX4_rowState 2 (some .int) ∈ ea_tbl := ea_in (et_5 (List.mem_of_getElem? (i := 52) rfl)) rfl
theorem ew_1123 : Cond.code yX4_rowPlace cX4_rowPlace 2 (some .int) ∈ ea_tbl := ea_in (et_5 (List.mem_of_getElem? (i := 56) rfl)) rfl
theorem ew_1127 : Cond.code yX11_where cX11_where 6 (some .int) ∈ ea_tbl := ea_in (et_5 (List.mem_of_getElem? (i := 60) rfl)) rfl
theorem ew_1131 : Cond.code yX4_rowAt cX4_rowAt 4 (some .int) ∈ ea_tbl := ea_in (et_5 (List.mem_of_getElem? (i := 64) rfl)) rfl
theorem ew_1132 : Cond.methodLink RX4 58 yX4_rowMinute ∈ ea_tbl := ea_in (et_5 (List.mem_of_getElem? (i := 65) (by decide +kernel))) rfl
theorem ew_1136 : Cond.code yX11_sorter cX11_sorter 3 (some .int) ∈ ea_tbl := ea_in (et_5 (List.mem_of_getElem? (i := 69) rfl)) rfl
theorem ew_1140 : Cond.code yX3_add cX3_add 3 (some .int) ∈ ea_tbl := ea_in (et_5 (List.mem_of_getElem? (i := 73) rfl)) rfl
theorem ew_1144 : Cond.code yX11_seat cX11_seat 3 (some .boolean) ∈ ea_tbl := ea_in (et_5 (List.mem_of_getElem? (i := 77) rfl)) rfl
theorem ew_1148 : Cond.code yX11_run cX11_run 5 (some .int) ∈ ea_tbl := ea_in (et_5 (List.mem_of_getElem? (i := 81) rfl)) rfl
theorem ew_1152 : Cond.code yX1_aboardOf cX1_aboardOf 5 (some .int) ∈ ea_tbl := ea_in (et_5 (List.mem_of_getElem? (i := 85) rfl)) rfl
theorem ew_1156 : Cond.code yX9_goneFrom cX9_goneFrom 6 (some .int) ∈ ea_tbl := ea_in (et_5 (List.mem_of_getElem? (i := 89) rfl)) rfl
theorem ew_1161 : Cond.code yX11_account cX11_account 4 (some .int) ∈ ea_tbl := ea_in (et_5 (List.mem_of_getElem? (i := 94) rfl)) rfl
theorem ew_1165 : Cond.code yX11_owedBetween cX11_owedBetween 6 (some .int) ∈ ea_tbl := ea_in (et_5 (List.mem_of_getElem? (i := 98) rfl)) rfl
theorem ew_1169 : Cond.code yX11_isBetween cX11_isBetween 4 (some .boolean) ∈ ea_tbl := ea_in (et_5 (List.mem_of_getElem? (i := 102) rfl)) rfl
theorem ew_1173 : Cond.code yX11_differing cX11_differing 5 (some .int) ∈ ea_tbl := ea_in (et_5 (List.mem_of_getElem? (i := 106) rfl)) rfl
theorem ew_1177 : Cond.code yX11_differs cX11_differs 4 (some .boolean) ∈ ea_tbl := ea_in (et_5 (List.mem_of_getElem? (i := 110) rfl)) rfl
theorem ew_1181 : Cond.code yX11_differingLetter cX11_differingLetter 6 (some .int) ∈ ea_tbl := ea_in (et_5 (List.mem_of_getElem? (i := 114) rfl)) rfl
theorem ew_1185 : Cond.code yX11_nobody cX11_nobody 3 (some .boolean) ∈ ea_tbl := ea_in (et_5 (List.mem_of_getElem? (i := 118) rfl)) rfl
theorem ew_1189 : Cond.code yX11_place cX11_place 5 (some .boolean) ∈ ea_tbl := ea_in (et_5 (List.mem_of_getElem? (i := 122) rfl)) rfl
theorem ew_1193 : Cond.code yX4_tell cX4_tell 5 (some .boolean) ∈ ea_tbl := ea_in (et_5 (List.mem_of_getElem? (i := 126) rfl)) rfl
theorem ew_1197 : Cond.code yX4_placeOf cX4_placeOf 3 (some .int) ∈ ea_tbl := ea_in (et_5 (List.mem_of_getElem? (i := 130) rfl)) rfl
theorem ew_1201 : Cond.code yX4_placeTown cX4_placeTown 2 (some .int) ∈ ea_tbl := ea_in (et_5 (List.mem_of_getElem? (i := 134) rfl)) rfl
theorem ew_1205 : Cond.code yX11_order cX11_order 4 (some .long) ∈ ea_tbl := ea_in (et_5 (List.mem_of_getElem? (i := 138) rfl)) rfl
theorem ew_1210 : Cond.code yX4_foundByAll cX4_foundByAll 13 (some .long) ∈ ea_tbl := ea_in (et_5 (List.mem_of_getElem? (i := 143) rfl)) rfl
theorem ew_1215 : Cond.code yX4_placeChance cX4_placeChance 2 (some .int) ∈ ea_tbl := ea_in (et_5 (List.mem_of_getElem? (i := 148) rfl)) rfl
theorem ew_1222 : Cond.code yX11_found cX11_found 4 (some .boolean) ∈ ea_tbl := ea_in (et_5 (List.mem_of_getElem? (i := 155) rfl)) rfl
theorem ew_1228 : Cond.code yX11_rob cX11_rob 6 (some .int) ∈ ea_tbl := ea_in (et_5 (List.mem_of_getElem? (i := 161) rfl)) rfl
theorem ew_1232 : Cond.code yX11_isUnderWay cX11_isUnderWay 4 (some .boolean) ∈ ea_tbl := ea_in (et_5 (List.mem_of_getElem? (i := 165) rfl)) rfl
theorem ew_1236 : Cond.code yX7_init cX7_init 4 none ∈ ea_tbl := ea_in (et_5 (List.mem_of_getElem? (i := 169) rfl)) rfl
theorem ew_1263 : Cond.code yX7_take cX7_take 3 none ∈ ea_tbl := ea_in (et_5 (List.mem_of_getElem? (i := 196) rfl)) rfl
theorem ew_1267 : Cond.code yX11_robbery cX11_robbery 4 (some .int) ∈ ea_tbl := ea_in (et_5 (List.mem_of_getElem? (i := 200) rfl)) rfl
theorem ew_1271 : Cond.code yX7_letterAt cX7_letterAt 2 (some .int) ∈ ea_tbl := ea_in (et_5 (List.mem_of_getElem? (i := 204) rfl)) rfl
theorem ew_1275 : Cond.code yX11_set cX11_set 2 (some .boolean) ∈ ea_tbl := ea_in (et_5 (List.mem_of_getElem? (i := 208) rfl)) rfl
theorem ew_1279 : Cond.code yX11_seen cX11_seen 3 (some .boolean) ∈ ea_tbl := ea_in (et_5 (List.mem_of_getElem? (i := 212) rfl)) rfl
theorem ew_1283 : Cond.code yX2_learn cX2_learn 6 (some .boolean) ∈ ea_tbl := ea_in (et_5 (List.mem_of_getElem? (i := 216) rfl)) rfl
theorem ew_1286 : Cond.code yX2_shown cX2_shown 2 (some .int) ∈ ea_tbl := ea_in (et_5 (List.mem_of_getElem? (i := 219) rfl)) rfl
theorem ew_1290 : Cond.code yX11_clock cX11_clock 3 (some .int) ∈ ea_tbl := ea_in (et_5 (List.mem_of_getElem? (i := 223) rfl)) rfl
theorem ew_1294 : Cond.code yX11_trueMinute cX11_trueMinute 4 (some .int) ∈ ea_tbl := ea_in (et_5 (List.mem_of_getElem? (i := 227) rfl)) rfl
theorem ew_1298 : Cond.code yX2_least cX2_least 3 (some .int) ∈ ea_tbl := ea_in (et_5 (List.mem_of_getElem? (i := 231) rfl)) rfl
theorem ew_1302 : Cond.code yX2_mayShow cX2_mayShow 4 (some .boolean) ∈ ea_tbl := ea_in (et_5 (List.mem_of_getElem? (i := 235) rfl)) rfl
theorem ew_1306 : Cond.code yX2_greatest cX2_greatest 3 (some .int) ∈ ea_tbl := ea_in (et_5 (List.mem_of_getElem? (i := 239) rfl)) rfl
theorem ew_1310 : Cond.code yX11_tried cX11_tried 6 (some .long) ∈ ea_tbl := ea_in (et_6 (List.mem_of_getElem? (i := 3) rfl)) rfl
theorem ew_1315 : Cond.code yX11_whatIf cX11_whatIf 7 (some .int) ∈ ea_tbl := ea_in (et_6 (List.mem_of_getElem? (i := 8) rfl)) rfl
theorem ew_1319 : Cond.code yX11_outcome cX11_outcome 1 (some .int) ∈ ea_tbl := ea_in (et_6 (List.mem_of_getElem? (i := 12) rfl)) rfl
theorem ew_1323 : Cond.code yX1_copy cX1_copy 2 none ∈ ea_tbl := ea_in (et_6 (List.mem_of_getElem? (i := 16) rfl)) rfl
theorem ew_1328 : Cond.code yX1_sumOfMinutes cX1_sumOfMinutes 3 (some .int) ∈ ea_tbl := ea_in (et_6 (List.mem_of_getElem? (i := 21) rfl)) rfl
theorem ew_1332 : Cond.code yX11_seats cX11_seats 2 (some .int) ∈ ea_tbl := ea_in (et_6 (List.mem_of_getElem? (i := 25) rfl)) rfl
theorem ew_1336 : Cond.code yX11_seekSeats cX11_seekSeats 7 none ∈ ea_tbl := ea_in (et_6 (List.mem_of_getElem? (i := 29) rfl)) rfl
theorem ew_1342 : Cond.code yX12_init cX12_init 2 none ∈ ea_tbl := ea_in (et_6 (List.mem_of_getElem? (i := 35) rfl)) rfl
theorem ew_1346 : Cond.fieldLink RX12 283 RX12 "towns" "I" ∈ ea_tbl := ea_in (et_6 (List.mem_of_getElem? (i := 39) (by decide +kernel))) rfl
theorem ew_1348 : Cond.fieldLink RX12 7 RX12 "road" "[I" ∈ ea_tbl := ea_in (et_6 (List.mem_of_getElem? (i := 41) (by decide +kernel))) rfl
theorem ew_1357 : Cond.fieldLink RX12 293 RX12 "known" "Z" ∈ ea_tbl := ea_in (et_6 (List.mem_of_getElem? (i := 50) (by decide +kernel))) rfl
theorem ew_1703 : Cond.code yX12_town cX12_town 1 (some .int) ∈ ea_tbl := ea_in (et_7 (List.mem_of_getElem? (i := 156) rfl)) rfl
theorem ew_1707 : Cond.code yX12_road cX12_road 4 (some .boolean) ∈ ea_tbl := ea_in (et_7 (List.mem_of_getElem? (i := 160) rfl)) rfl
theorem ew_1708 : Cond.methodLink RX12 297 yX12_isTown ∈ ea_tbl := ea_in (et_7 (List.mem_of_getElem? (i := 161) (by decide +kernel))) rfl
theorem ew_1710 : Cond.instanceMethod yX12_isTown ∈ ea_tbl := ea_in (et_7 (List.mem_of_getElem? (i := 163) (by decide +kernel))) rfl
theorem ew_1711 : Cond.code yX12_isTown cX12_isTown 2 (some .boolean) ∈ ea_tbl := ea_in (et_7 (List.mem_of_getElem? (i := 164) rfl)) rfl
theorem ew_1712 : Cond.methodLink RX12 286 yX12_isIn ∈ ea_tbl := ea_in (et_7 (List.mem_of_getElem? (i := 165) (by decide +kernel))) rfl
theorem ew_1713 : Cond.static yX12_isIn ∈ ea_tbl := ea_in (et_7 (List.mem_of_getElem? (i := 166) (by decide +kernel))) rfl
theorem ew_1714 : Cond.code yX12_isIn cX12_isIn 3 (some .boolean) ∈ ea_tbl := ea_in (et_7 (List.mem_of_getElem? (i := 167) rfl)) rfl
theorem ew_1718 : Cond.code yX12_miles cX12_miles 4 (some .int) ∈ ea_tbl := ea_in (et_7 (List.mem_of_getElem? (i := 171) rfl)) rfl
theorem ew_1722 : Cond.code yX12_milesOf cX12_milesOf 4 (some .int) ∈ ea_tbl := ea_in (et_7 (List.mem_of_getElem? (i := 175) rfl)) rfl
theorem ew_1726 : Cond.code yX12_spreads cX12_spreads 7 none ∈ ea_tbl := ea_in (et_7 (List.mem_of_getElem? (i := 179) rfl)) rfl
theorem ew_1731 : Cond.code yX12_train cX12_train 1 (some .int) ∈ ea_tbl := ea_in (et_7 (List.mem_of_getElem? (i := 184) rfl)) rfl
theorem ew_1735 : Cond.code yX12_stop cX12_stop 7 (some .int) ∈ ea_tbl := ea_in (et_7 (List.mem_of_getElem? (i := 188) rfl)) rfl
theorem ew_1739 : Cond.code yX12_isTrain cX12_isTrain 2 (some .boolean) ∈ ea_tbl := ea_in (et_7 (List.mem_of_getElem? (i := 192) rfl)) rfl
theorem ew_1743 : Cond.code yX12_stopOf cX12_stopOf 5 (some .int) ∈ ea_tbl := ea_in (et_7 (List.mem_of_getElem? (i := 196) rfl)) rfl
theorem ew_1747 : Cond.code yX12_late cX12_late 4 (some .boolean) ∈ ea_tbl := ea_in (et_7 (List.mem_of_getElem? (i := 200) rfl)) rfl
theorem ew_1751 : Cond.code yX12_canBeLate cX12_canBeLate 4 (some .boolean) ∈ ea_tbl := ea_in (et_7 (List.mem_of_getElem? (i := 204) rfl)) rfl
theorem ew_1754 : Cond.code yX12_isDay cX12_isDay 1 (some .boolean) ∈ ea_tbl := ea_in (et_7 (List.mem_of_getElem? (i := 207) rfl)) rfl
theorem ew_1757 : Cond.code yX12_run cX12_run 2 (some .int) ∈ ea_tbl := ea_in (et_7 (List.mem_of_getElem? (i := 210) rfl)) rfl
theorem ew_1761 : Cond.code yX12_miss cX12_miss 4 (some .boolean) ∈ ea_tbl := ea_in (et_7 (List.mem_of_getElem? (i := 214) rfl)) rfl
theorem ew_1765 : Cond.code yX12_comesAt cX12_comesAt 3 (some .int) ∈ ea_tbl := ea_in (et_7 (List.mem_of_getElem? (i := 218) rfl)) rfl
theorem ew_1769 : Cond.code yX12_way cX12_way 6 (some .int) ∈ ea_tbl := ea_in (et_7 (List.mem_of_getElem? (i := 222) rfl)) rfl
theorem ew_1773 : Cond.code yX12_bestFrom cX12_bestFrom 5 (some .int) ∈ ea_tbl := ea_in (et_7 (List.mem_of_getElem? (i := 226) rfl)) rfl
theorem ew_1777 : Cond.code yX12_table cX12_table 3 none ∈ ea_tbl := ea_in (et_7 (List.mem_of_getElem? (i := 230) rfl)) rfl
theorem ew_1781 : Cond.code yX12_isMore cX12_isMore 2 (some .boolean) ∈ ea_tbl := ea_in (et_7 (List.mem_of_getElem? (i := 234) rfl)) rfl
theorem ew_1785 : Cond.code yX12_minuteOf cX12_minuteOf 3 (some .int) ∈ ea_tbl := ea_in (et_7 (List.mem_of_getElem? (i := 238) rfl)) rfl
theorem ew_1789 : Cond.code yX12_goesAt cX12_goesAt 3 (some .int) ∈ ea_tbl := ea_in (et_8 (List.mem_of_getElem? (i := 2) rfl)) rfl
theorem ew_1793 : Cond.code yX12_isAheadOf cX12_isAheadOf 5 (some .boolean) ∈ ea_tbl := ea_in (et_8 (List.mem_of_getElem? (i := 6) rfl)) rfl
theorem ew_1797 : Cond.code yX12_goings cX12_goings 13 none ∈ ea_tbl := ea_in (et_8 (List.mem_of_getElem? (i := 10) rfl)) rfl
theorem ew_1801 : Cond.code yX12_townOf cX12_townOf 3 (some .int) ∈ ea_tbl := ea_in (et_8 (List.mem_of_getElem? (i := 14) rfl)) rfl
theorem ew_1805 : Cond.code yX12_going cX12_going 4 (some .int) ∈ ea_tbl := ea_in (et_8 (List.mem_of_getElem? (i := 18) rfl)) rfl
theorem ew_1809 : Cond.code yX12_isBetter cX12_isBetter 6 (some .boolean) ∈ ea_tbl := ea_in (et_8 (List.mem_of_getElem? (i := 22) rfl)) rfl
theorem ew_1813 : Cond.code yX12_feed cX12_feed 8 (some .int) ∈ ea_tbl := ea_in (et_8 (List.mem_of_getElem? (i := 26) rfl)) rfl
theorem ew_1817 : Cond.code yX12_end cX12_end 2 (some .boolean) ∈ ea_tbl := ea_in (et_8 (List.mem_of_getElem? (i := 30) rfl)) rfl
theorem ew_1821 : Cond.code yX12_act cX12_act 5 (some .int) ∈ ea_tbl := ea_in (et_8 (List.mem_of_getElem? (i := 34) rfl)) rfl
theorem ew_1825 : Cond.code yX12_next0 cX12_next0 3 none ∈ ea_tbl := ea_in (et_8 (List.mem_of_getElem? (i := 38) rfl)) rfl
theorem ew_1829 : Cond.code yX12_see cX12_see 2 (some .int) ∈ ea_tbl := ea_in (et_8 (List.mem_of_getElem? (i := 42) rfl)) rfl
theorem ew_1832 : Cond.code yX12_isLetter cX12_isLetter 1 (some .boolean) ∈ ea_tbl := ea_in (et_8 (List.mem_of_getElem? (i := 45) rfl)) rfl
theorem ew_1836 : Cond.code yX12_word cX12_word 1 (some .int) ∈ ea_tbl := ea_in (et_8 (List.mem_of_getElem? (i := 49) rfl)) rfl
theorem ew_1841 : Cond.code yX12_is cX12_is 4 (some .boolean) ∈ ea_tbl := ea_in (et_8 (List.mem_of_getElem? (i := 54) rfl)) rfl
theorem ew_1909 : Cond.code yX12_isDigit cX12_isDigit 1 (some .boolean) ∈ ea_tbl := ea_in (et_8 (List.mem_of_getElem? (i := 122) rfl)) rfl
theorem ew_1913 : Cond.code yX12_aLine cX12_aLine 2 (some .boolean) ∈ ea_tbl := ea_in (et_8 (List.mem_of_getElem? (i := 126) rfl)) rfl
theorem ew_1917 : Cond.code yX12_bad cX12_bad 2 (some .boolean) ∈ ea_tbl := ea_in (et_8 (List.mem_of_getElem? (i := 130) rfl)) rfl
theorem ew_1921 : Cond.code yX12_inner cX12_inner 3 (some .boolean) ∈ ea_tbl := ea_in (et_8 (List.mem_of_getElem? (i := 134) rfl)) rfl
theorem ew_1925 : Cond.code yX12_aCharge cX12_aCharge 1 (some .boolean) ∈ ea_tbl := ea_in (et_8 (List.mem_of_getElem? (i := 138) rfl)) rfl
theorem ew_1929 : Cond.code yX12_sumOf cX12_sumOf 2 (some .boolean) ∈ ea_tbl := ea_in (et_8 (List.mem_of_getElem? (i := 142) rfl)) rfl
theorem ew_1933 : Cond.code yX12_product cX12_product 2 (some .boolean) ∈ ea_tbl := ea_in (et_8 (List.mem_of_getElem? (i := 146) rfl)) rfl
theorem ew_1937 : Cond.code yX12_unit cX12_unit 1 (some .boolean) ∈ ea_tbl := ea_in (et_8 (List.mem_of_getElem? (i := 150) rfl)) rfl
theorem ew_1941 : Cond.code yX12_opens cX12_opens 1 (some .boolean) ∈ ea_tbl := ea_in (et_8 (List.mem_of_getElem? (i := 154) rfl)) rfl
theorem ew_1945 : Cond.code yX12_need cX12_need 2 (some .boolean) ∈ ea_tbl := ea_in (et_8 (List.mem_of_getElem? (i := 158) rfl)) rfl
theorem ew_1949 : Cond.code yX12_lay cX12_lay 3 none ∈ ea_tbl := ea_in (et_8 (List.mem_of_getElem? (i := 162) rfl)) rfl
theorem ew_1953 : Cond.code yX12_any cX12_any 1 (some .boolean) ∈ ea_tbl := ea_in (et_8 (List.mem_of_getElem? (i := 166) rfl)) rfl
theorem ew_1957 : Cond.code yX12_all cX12_all 1 (some .boolean) ∈ ea_tbl := ea_in (et_8 (List.mem_of_getElem? (i := 170) rfl)) rfl
theorem ew_1961 : Cond.code yX12_one cX12_one 2 (some .boolean) ∈ ea_tbl := ea_in (et_8 (List.mem_of_getElem? (i := 174) rfl)) rfl
theorem ew_1965 : Cond.code yX12_aNumber cX12_aNumber 2 (some .boolean) ∈ ea_tbl := ea_in (et_8 (List.mem_of_getElem? (i := 178) rfl)) rfl
theorem ew_1970 : Cond.code yX12_fault cX12_fault 2 (some .int) ∈ ea_tbl := ea_in (et_8 (List.mem_of_getElem? (i := 183) rfl)) rfl
theorem ew_1974 : Cond.code yX12_inForce cX12_inForce 4 (some .int) ∈ ea_tbl := ea_in (et_8 (List.mem_of_getElem? (i := 187) rfl)) rfl
theorem ew_1978 : Cond.code yX12_actOn cX12_actOn 3 (some .int) ∈ ea_tbl := ea_in (et_8 (List.mem_of_getElem? (i := 191) rfl)) rfl
theorem ew_1982 : Cond.code yX12_post cX12_post 9 (some .int) ∈ ea_tbl := ea_in (et_8 (List.mem_of_getElem? (i := 195) rfl)) rfl
theorem ew_1986 : Cond.code yX12_isCross cX12_isCross 4 (some .boolean) ∈ ea_tbl := ea_in (et_8 (List.mem_of_getElem? (i := 199) rfl)) rfl
theorem ew_1990 : Cond.code yX12_isFree cX12_isFree 3 (some .boolean) ∈ ea_tbl := ea_in (et_8 (List.mem_of_getElem? (i := 203) rfl)) rfl
theorem ew_1994 : Cond.code yX12_chargeBy cX12_chargeBy 5 (some .int) ∈ ea_tbl := ea_in (et_8 (List.mem_of_getElem? (i := 207) rfl)) rfl
theorem ew_1998 : Cond.code yX12_lineOf cX12_lineOf 6 (some .int) ∈ ea_tbl := ea_in (et_8 (List.mem_of_getElem? (i := 211) rfl)) rfl
theorem ew_2002 : Cond.code yX12_gathers cX12_gathers 2 none ∈ ea_tbl := ea_in (et_8 (List.mem_of_getElem? (i := 215) rfl)) rfl
theorem ew_2006 : Cond.code yX12_comesTo cX12_comesTo 8 (some .int) ∈ ea_tbl := ea_in (et_8 (List.mem_of_getElem? (i := 219) rfl)) rfl
theorem ew_2009 : Cond.code yX12_both cX12_both 3 (some .int) ∈ ea_tbl := ea_in (et_8 (List.mem_of_getElem? (i := 222) rfl)) rfl
theorem ew_2014 : Cond.code yX12_turns cX12_turns 6 none ∈ ea_tbl := ea_in (et_8 (List.mem_of_getElem? (i := 227) rfl)) rfl
theorem ew_2018 : Cond.code yX12_of cX12_of 3 (some .int) ∈ ea_tbl := ea_in (et_8 (List.mem_of_getElem? (i := 231) rfl)) rfl
theorem ew_2022 : Cond.code yX12_isLetterOf cX12_isLetterOf 2 (some .boolean) ∈ ea_tbl := ea_in (et_8 (List.mem_of_getElem? (i := 235) rfl)) rfl
theorem ew_2026 : Cond.code yX12_charge cX12_charge 3 (some .int) ∈ ea_tbl := ea_in (et_8 (List.mem_of_getElem? (i := 239) rfl)) rfl
theorem ew_2030 : Cond.code yX12_owed cX12_owed 2 (some .int) ∈ ea_tbl := ea_in (et_9 (List.mem_of_getElem? (i := 3) rfl)) rfl
theorem ew_2034 : Cond.code yX12_isOwed cX12_isOwed 2 (some .boolean) ∈ ea_tbl := ea_in (et_9 (List.mem_of_getElem? (i := 7) rfl)) rfl
theorem ew_2038 : Cond.code yX12_lead cX12_lead 5 (some .int) ∈ ea_tbl := ea_in (et_9 (List.mem_of_getElem? (i := 11) rfl)) rfl
theorem ew_2042 : Cond.code yX12_where cX12_where 5 (some .int) ∈ ea_tbl := ea_in (et_9 (List.mem_of_getElem? (i := 15) rfl)) rfl
theorem ew_2046 : Cond.code yX12_sorter cX12_sorter 3 (some .int) ∈ ea_tbl := ea_in (et_9 (List.mem_of_getElem? (i := 19) rfl)) rfl
theorem ew_2050 : Cond.code yX12_seat cX12_seat 3 (some .boolean) ∈ ea_tbl := ea_in (et_9 (List.mem_of_getElem? (i := 23) rfl)) rfl
theorem ew_2054 : Cond.code yX12_minutes cX12_minutes 2 (some .int) ∈ ea_tbl := ea_in (et_9 (List.mem_of_getElem? (i := 27) rfl)) rfl
theorem ew_2058 : Cond.code yX12_leadsOn cX12_leadsOn 5 none ∈ ea_tbl := ea_in (et_9 (List.mem_of_getElem? (i := 31) rfl)) rfl
theorem ew_2062 : Cond.code yX12_begins cX12_begins 3 none ∈ ea_tbl := ea_in (et_9 (List.mem_of_getElem? (i := 35) rfl)) rfl
theorem ew_2066 : Cond.code yX12_coming cX12_coming 6 none ∈ ea_tbl := ea_in (et_9 (List.mem_of_getElem? (i := 39) rfl)) rfl
theorem ew_2070 : Cond.code yX12_isAboard cX12_isAboard 3 (some .boolean) ∈ ea_tbl := ea_in (et_9 (List.mem_of_getElem? (i := 43) rfl)) rfl
theorem ew_2073 : Cond.code yX12_code cX12_code 1 (some .int) ∈ ea_tbl := ea_in (et_9 (List.mem_of_getElem? (i := 46) rfl)) rfl
theorem ew_2077 : Cond.code yX12_putsDown cX12_putsDown 4 none ∈ ea_tbl := ea_in (et_9 (List.mem_of_getElem? (i := 50) rfl)) rfl
theorem ew_2081 : Cond.code yX12_leaves cX12_leaves 8 none ∈ ea_tbl := ea_in (et_9 (List.mem_of_getElem? (i := 54) rfl)) rfl
theorem ew_2085 : Cond.code yX12_sorts cX12_sorts 4 none ∈ ea_tbl := ea_in (et_9 (List.mem_of_getElem? (i := 58) rfl)) rfl
theorem ew_2089 : Cond.code yX12_look cX12_look 4 (some .int) ∈ ea_tbl := ea_in (et_9 (List.mem_of_getElem? (i := 62) rfl)) rfl
theorem ew_2093 : Cond.code yX12_run_ cX12_run_ 7 (some .int) ∈ ea_tbl := ea_in (et_9 (List.mem_of_getElem? (i := 66) rfl)) rfl
theorem ew_2097 : Cond.code yX12_gone cX12_gone 3 (some .int) ∈ ea_tbl := ea_in (et_9 (List.mem_of_getElem? (i := 70) rfl)) rfl
theorem ew_2101 : Cond.code yX12_account cX12_account 9 (some .int) ∈ ea_tbl := ea_in (et_9 (List.mem_of_getElem? (i := 74) rfl)) rfl
theorem ew_2105 : Cond.code yX12_isOf cX12_isOf 4 (some .boolean) ∈ ea_tbl := ea_in (et_9 (List.mem_of_getElem? (i := 78) rfl)) rfl
theorem ew_2109 : Cond.code yX12_nobody cX12_nobody 2 (some .boolean) ∈ ea_tbl := ea_in (et_9 (List.mem_of_getElem? (i := 82) rfl)) rfl
theorem ew_2113 : Cond.code yX12_place cX12_place 5 (some .boolean) ∈ ea_tbl := ea_in (et_9 (List.mem_of_getElem? (i := 86) rfl)) rfl
theorem ew_2117 : Cond.code yX12_order cX12_order 9 (some .long) ∈ ea_tbl := ea_in (et_9 (List.mem_of_getElem? (i := 90) rfl)) rfl
theorem ew_2122 : Cond.code yX12_common cX12_common 10 (some .long) ∈ ea_tbl := ea_in (et_9 (List.mem_of_getElem? (i := 95) rfl)) rfl
theorem ew_2126 : Cond.code yX12_ordered cX12_ordered 8 (some .int) ∈ ea_tbl := ea_in (et_9 (List.mem_of_getElem? (i := 99) rfl)) rfl
theorem ew_2130 : Cond.code yX12_found cX12_found 4 (some .boolean) ∈ ea_tbl := ea_in (et_9 (List.mem_of_getElem? (i := 103) rfl)) rfl
theorem ew_2134 : Cond.code yX12_rob cX12_rob 7 (some .int) ∈ ea_tbl := ea_in (et_9 (List.mem_of_getElem? (i := 107) rfl)) rfl
theorem ew_2138 : Cond.code yX12_robbery cX12_robbery 3 (some .int) ∈ ea_tbl := ea_in (et_9 (List.mem_of_getElem? (i := 111) rfl)) rfl
theorem ew_2142 : Cond.code yX12_set cX12_set 2 (some .boolean) ∈ ea_tbl := ea_in (et_9 (List.mem_of_getElem? (i := 115) rfl)) rfl
theorem ew_2146 : Cond.code yX12_seen cX12_seen 6 (some .boolean) ∈ ea_tbl := ea_in (et_9 (List.mem_of_getElem? (i := 119) rfl)) rfl
theorem ew_2149 : Cond.code yX12_isMinute cX12_isMinute 1 (some .boolean) ∈ ea_tbl := ea_in (et_9 (List.mem_of_getElem? (i := 122) rfl)) rfl
theorem ew_2153 : Cond.code yX12_shows cX12_shows 4 (some .int) ∈ ea_tbl := ea_in (et_9 (List.mem_of_getElem? (i := 126) rfl)) rfl
theorem ew_2158 : Cond.code yX12_clock cX12_clock 3 (some .int) ∈ ea_tbl := ea_in (et_9 (List.mem_of_getElem? (i := 131) rfl)) rfl
theorem ew_2162 : Cond.code yX12_trueMinute cX12_trueMinute 6 (some .int) ∈ ea_tbl := ea_in (et_9 (List.mem_of_getElem? (i := 135) rfl)) rfl
theorem ew_2166 : Cond.code yX12_mayShow cX12_mayShow 6 (some .boolean) ∈ ea_tbl := ea_in (et_9 (List.mem_of_getElem? (i := 139) rfl)) rfl
theorem ew_2170 : Cond.code yX12_tried cX12_tried 5 (some .long) ∈ ea_tbl := ea_in (et_9 (List.mem_of_getElem? (i := 143) rfl)) rfl
theorem ew_2174 : Cond.code yX12_whatIf cX12_whatIf 6 (some .int) ∈ ea_tbl := ea_in (et_9 (List.mem_of_getElem? (i := 147) rfl)) rfl
theorem ew_2178 : Cond.code yX12_sums cX12_sums 3 (some .int) ∈ ea_tbl := ea_in (et_9 (List.mem_of_getElem? (i := 151) rfl)) rfl
theorem ew_2182 : Cond.code yX12_keeps cX12_keeps 2 none ∈ ea_tbl := ea_in (et_9 (List.mem_of_getElem? (i := 155) rfl)) rfl
theorem ew_2186 : Cond.code yX12_putsBack cX12_putsBack 2 none ∈ ea_tbl := ea_in (et_9 (List.mem_of_getElem? (i := 159) rfl)) rfl
theorem ew_2190 : Cond.code yX12_seats cX12_seats 10 (some .int) ∈ ea_tbl := ea_in (et_9 (List.mem_of_getElem? (i := 163) rfl)) rfl
