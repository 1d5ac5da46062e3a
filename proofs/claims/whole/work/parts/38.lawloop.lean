/-! the law's loop -/
def ShL (h : ea_H) : Prop := ShC h ∧ ShM h
theorem ShL_core {h h' : ea_H} (e : ea_core h' = ea_core h) (hs : ShL h) : ShL h' := ⟨ShC_core e hs.1, ShM_core e hs.2⟩
theorem cShL_0 {h : ea_H} (hs : ShL h) : 0 < ea_n h ∧ ea_c h 0 = 11 ∧ ea_l h 0 = 0 := hs.1.1 0 (by decide)
theorem cShL_326 {h : ea_H} (hs : ShL h) : 326 < ea_n h ∧ ea_c h 326 = 12 ∧ ea_l h 326 = 0 := hs.2.1 0 (by decide)
theorem ea_sw_0_37 {x : Int} (q0 : ¬ x = 0) (q1 : ¬ x = 1) (q2 : ¬ x = 2) (q3 : ¬ x = 3) (q4 : ¬ x = 4) (q5 : ¬ x = 5) (q6 : ¬ x = 6) (q7 : ¬ x = 7) (q8 : ¬ x = 8) (q9 : ¬ x = 9) (q10 : ¬ x = 10) (q11 : ¬ x = 11) (q12 : ¬ x = 12) (q13 : ¬ x = 13) (q14 : ¬ x = 14) (q15 : ¬ x = 15) (q16 : ¬ x = 16) (q17 : ¬ x = 17) (q18 : ¬ x = 18) (q19 : ¬ x = 19) (q20 : ¬ x = 20) (q21 : ¬ x = 21) (q22 : ¬ x = 22) (q23 : ¬ x = 23) (q24 : ¬ x = 24) (q25 : ¬ x = 25) (q26 : ¬ x = 26) (q27 : ¬ x = 27) (q28 : ¬ x = 28) (q29 : ¬ x = 29) (q30 : ¬ x = 30) (q31 : ¬ x = 31) (q32 : ¬ x = 32) (q33 : ¬ x = 33) (q34 : ¬ x = 34) (q35 : ¬ x = 35) (q36 : ¬ x = 36) (q37 : ¬ x = 37) : x < 0 ∨ 37 < x := by omega
theorem ew_672 : Cond.methodLink RL 13 yX11_town ∈ ea_tbl := ea_in (et_3 (List.mem_of_getElem? (i := 78) (by decide +kernel))) rfl
theorem ew_673 : Cond.instanceMethod yX11_town ∈ ea_tbl := ea_in (et_3 (List.mem_of_getElem? (i := 79) (by decide +kernel))) rfl
theorem ew_674 : Cond.selects RX11 yX11_town yX11_town ∈ ea_tbl := ea_in (et_3 (List.mem_of_getElem? (i := 80) (by decide +kernel))) rfl
theorem ew_676 : Cond.methodLink RL 18 yX11_road ∈ ea_tbl := ea_in (et_3 (List.mem_of_getElem? (i := 82) (by decide +kernel))) rfl
theorem ew_677 : Cond.instanceMethod yX11_road ∈ ea_tbl := ea_in (et_3 (List.mem_of_getElem? (i := 83) (by decide +kernel))) rfl
theorem ew_678 : Cond.selects RX11 yX11_road yX11_road ∈ ea_tbl := ea_in (et_3 (List.mem_of_getElem? (i := 84) (by decide +kernel))) rfl
theorem ew_688 : Cond.methodLink RL 23 yX11_miles ∈ ea_tbl := ea_in (et_3 (List.mem_of_getElem? (i := 94) (by decide +kernel))) rfl
theorem ew_689 : Cond.instanceMethod yX11_miles ∈ ea_tbl := ea_in (et_3 (List.mem_of_getElem? (i := 95) (by decide +kernel))) rfl
theorem ew_690 : Cond.selects RX11 yX11_miles yX11_miles ∈ ea_tbl := ea_in (et_3 (List.mem_of_getElem? (i := 96) (by decide +kernel))) rfl
theorem ew_696 : Cond.methodLink RL 28 yX11_train ∈ ea_tbl := ea_in (et_3 (List.mem_of_getElem? (i := 102) (by decide +kernel))) rfl
theorem ew_697 : Cond.instanceMethod yX11_train ∈ ea_tbl := ea_in (et_3 (List.mem_of_getElem? (i := 103) (by decide +kernel))) rfl
theorem ew_698 : Cond.selects RX11 yX11_train yX11_train ∈ ea_tbl := ea_in (et_3 (List.mem_of_getElem? (i := 104) (by decide +kernel))) rfl
theorem ew_700 : Cond.methodLink RL 32 yX11_stop ∈ ea_tbl := ea_in (et_3 (List.mem_of_getElem? (i := 106) (by decide +kernel))) rfl
theorem ew_701 : Cond.instanceMethod yX11_stop ∈ ea_tbl := ea_in (et_3 (List.mem_of_getElem? (i := 107) (by decide +kernel))) rfl
theorem ew_702 : Cond.selects RX11 yX11_stop yX11_stop ∈ ea_tbl := ea_in (et_3 (List.mem_of_getElem? (i := 108) (by decide +kernel))) rfl
theorem ew_716 : Cond.methodLink RL 37 yX11_stopOf ∈ ea_tbl := ea_in (et_3 (List.mem_of_getElem? (i := 122) (by decide +kernel))) rfl
theorem ew_717 : Cond.instanceMethod yX11_stopOf ∈ ea_tbl := ea_in (et_3 (List.mem_of_getElem? (i := 123) (by decide +kernel))) rfl
theorem ew_718 : Cond.selects RX11 yX11_stopOf yX11_stopOf ∈ ea_tbl := ea_in (et_3 (List.mem_of_getElem? (i := 124) (by decide +kernel))) rfl
theorem ew_720 : Cond.methodLink RL 42 yX11_late ∈ ea_tbl := ea_in (et_3 (List.mem_of_getElem? (i := 126) (by decide +kernel))) rfl
theorem ew_721 : Cond.instanceMethod yX11_late ∈ ea_tbl := ea_in (et_3 (List.mem_of_getElem? (i := 127) (by decide +kernel))) rfl
theorem ew_722 : Cond.selects RX11 yX11_late yX11_late ∈ ea_tbl := ea_in (et_3 (List.mem_of_getElem? (i := 128) (by decide +kernel))) rfl
theorem ew_733 : Cond.methodLink RL 46 yX11_miss ∈ ea_tbl := ea_in (et_3 (List.mem_of_getElem? (i := 139) (by decide +kernel))) rfl
theorem ew_734 : Cond.instanceMethod yX11_miss ∈ ea_tbl := ea_in (et_3 (List.mem_of_getElem? (i := 140) (by decide +kernel))) rfl
theorem ew_735 : Cond.selects RX11 yX11_miss yX11_miss ∈ ea_tbl := ea_in (et_3 (List.mem_of_getElem? (i := 141) (by decide +kernel))) rfl
theorem ew_745 : Cond.methodLink RL 50 yX11_minutes ∈ ea_tbl := ea_in (et_3 (List.mem_of_getElem? (i := 151) (by decide +kernel))) rfl
theorem ew_746 : Cond.instanceMethod yX11_minutes ∈ ea_tbl := ea_in (et_3 (List.mem_of_getElem? (i := 152) (by decide +kernel))) rfl
theorem ew_747 : Cond.selects RX11 yX11_minutes yX11_minutes ∈ ea_tbl := ea_in (et_3 (List.mem_of_getElem? (i := 153) (by decide +kernel))) rfl
theorem ew_912 : Cond.methodLink RL 55 yX11_look ∈ ea_tbl := ea_in (et_4 (List.mem_of_getElem? (i := 78) (by decide +kernel))) rfl
theorem ew_913 : Cond.instanceMethod yX11_look ∈ ea_tbl := ea_in (et_4 (List.mem_of_getElem? (i := 79) (by decide +kernel))) rfl
theorem ew_914 : Cond.selects RX11 yX11_look yX11_look ∈ ea_tbl := ea_in (et_4 (List.mem_of_getElem? (i := 80) (by decide +kernel))) rfl
theorem ew_920 : Cond.methodLink RL 59 yX11_feed ∈ ea_tbl := ea_in (et_4 (List.mem_of_getElem? (i := 86) (by decide +kernel))) rfl
theorem ew_921 : Cond.instanceMethod yX11_feed ∈ ea_tbl := ea_in (et_4 (List.mem_of_getElem? (i := 87) (by decide +kernel))) rfl
theorem ew_922 : Cond.selects RX11 yX11_feed yX11_feed ∈ ea_tbl := ea_in (et_4 (List.mem_of_getElem? (i := 88) (by decide +kernel))) rfl
theorem ew_928 : Cond.methodLink RL 64 yX11_end ∈ ea_tbl := ea_in (et_4 (List.mem_of_getElem? (i := 94) (by decide +kernel))) rfl
theorem ew_929 : Cond.instanceMethod yX11_end ∈ ea_tbl := ea_in (et_4 (List.mem_of_getElem? (i := 95) (by decide +kernel))) rfl
theorem ew_930 : Cond.selects RX11 yX11_end yX11_end ∈ ea_tbl := ea_in (et_4 (List.mem_of_getElem? (i := 96) (by decide +kernel))) rfl
theorem ew_932 : Cond.methodLink RL 69 yX11_act ∈ ea_tbl := ea_in (et_4 (List.mem_of_getElem? (i := 98) (by decide +kernel))) rfl
theorem ew_933 : Cond.instanceMethod yX11_act ∈ ea_tbl := ea_in (et_4 (List.mem_of_getElem? (i := 99) (by decide +kernel))) rfl
theorem ew_934 : Cond.selects RX11 yX11_act yX11_act ∈ ea_tbl := ea_in (et_4 (List.mem_of_getElem? (i := 100) (by decide +kernel))) rfl
theorem ew_1049 : Cond.methodLink RL 73 yX11_fault ∈ ea_tbl := ea_in (et_4 (List.mem_of_getElem? (i := 215) (by decide +kernel))) rfl
theorem ew_1050 : Cond.instanceMethod yX11_fault ∈ ea_tbl := ea_in (et_4 (List.mem_of_getElem? (i := 216) (by decide +kernel))) rfl
theorem ew_1051 : Cond.selects RX11 yX11_fault yX11_fault ∈ ea_tbl := ea_in (et_4 (List.mem_of_getElem? (i := 217) (by decide +kernel))) rfl
theorem ew_1053 : Cond.methodLink RL 77 yX11_inForce ∈ ea_tbl := ea_in (et_4 (List.mem_of_getElem? (i := 219) (by decide +kernel))) rfl
theorem ew_1054 : Cond.instanceMethod yX11_inForce ∈ ea_tbl := ea_in (et_4 (List.mem_of_getElem? (i := 220) (by decide +kernel))) rfl
theorem ew_1055 : Cond.selects RX11 yX11_inForce yX11_inForce ∈ ea_tbl := ea_in (et_4 (List.mem_of_getElem? (i := 221) (by decide +kernel))) rfl
theorem ew_1065 : Cond.methodLink RL 81 yX11_post ∈ ea_tbl := ea_in (et_4 (List.mem_of_getElem? (i := 231) (by decide +kernel))) rfl
theorem ew_1066 : Cond.instanceMethod yX11_post ∈ ea_tbl := ea_in (et_4 (List.mem_of_getElem? (i := 232) (by decide +kernel))) rfl
theorem ew_1067 : Cond.selects RX11 yX11_post yX11_post ∈ ea_tbl := ea_in (et_4 (List.mem_of_getElem? (i := 233) (by decide +kernel))) rfl
theorem ew_1126 : Cond.methodLink RL 86 yX11_of ∈ ea_tbl := ea_in (et_5 (List.mem_of_getElem? (i := 52) (by decide +kernel))) rfl
theorem ew_1127 : Cond.instanceMethod yX11_of ∈ ea_tbl := ea_in (et_5 (List.mem_of_getElem? (i := 53) (by decide +kernel))) rfl
theorem ew_1128 : Cond.selects RX11 yX11_of yX11_of ∈ ea_tbl := ea_in (et_5 (List.mem_of_getElem? (i := 54) (by decide +kernel))) rfl
theorem ew_1134 : Cond.methodLink RL 90 yX11_charge ∈ ea_tbl := ea_in (et_5 (List.mem_of_getElem? (i := 60) (by decide +kernel))) rfl
theorem ew_1135 : Cond.instanceMethod yX11_charge ∈ ea_tbl := ea_in (et_5 (List.mem_of_getElem? (i := 61) (by decide +kernel))) rfl
theorem ew_1136 : Cond.selects RX11 yX11_charge yX11_charge ∈ ea_tbl := ea_in (et_5 (List.mem_of_getElem? (i := 62) (by decide +kernel))) rfl
theorem ew_1142 : Cond.methodLink RL 94 yX11_way ∈ ea_tbl := ea_in (et_5 (List.mem_of_getElem? (i := 68) (by decide +kernel))) rfl
theorem ew_1143 : Cond.instanceMethod yX11_way ∈ ea_tbl := ea_in (et_5 (List.mem_of_getElem? (i := 69) (by decide +kernel))) rfl
theorem ew_1144 : Cond.selects RX11 yX11_way yX11_way ∈ ea_tbl := ea_in (et_5 (List.mem_of_getElem? (i := 70) (by decide +kernel))) rfl
theorem ew_1169 : Cond.methodLink RL 99 yX11_lead ∈ ea_tbl := ea_in (et_5 (List.mem_of_getElem? (i := 95) (by decide +kernel))) rfl
theorem ew_1170 : Cond.instanceMethod yX11_lead ∈ ea_tbl := ea_in (et_5 (List.mem_of_getElem? (i := 96) (by decide +kernel))) rfl
theorem ew_1171 : Cond.selects RX11 yX11_lead yX11_lead ∈ ea_tbl := ea_in (et_5 (List.mem_of_getElem? (i := 97) (by decide +kernel))) rfl
theorem ew_1204 : Cond.methodLink RL 103 yX11_where ∈ ea_tbl := ea_in (et_5 (List.mem_of_getElem? (i := 130) (by decide +kernel))) rfl
theorem ew_1205 : Cond.instanceMethod yX11_where ∈ ea_tbl := ea_in (et_5 (List.mem_of_getElem? (i := 131) (by decide +kernel))) rfl
theorem ew_1206 : Cond.selects RX11 yX11_where yX11_where ∈ ea_tbl := ea_in (et_5 (List.mem_of_getElem? (i := 132) (by decide +kernel))) rfl
theorem ew_1208 : Cond.methodLink RL 107 yX11_sorter ∈ ea_tbl := ea_in (et_5 (List.mem_of_getElem? (i := 134) (by decide +kernel))) rfl
theorem ew_1209 : Cond.instanceMethod yX11_sorter ∈ ea_tbl := ea_in (et_5 (List.mem_of_getElem? (i := 135) (by decide +kernel))) rfl
theorem ew_1210 : Cond.selects RX11 yX11_sorter yX11_sorter ∈ ea_tbl := ea_in (et_5 (List.mem_of_getElem? (i := 136) (by decide +kernel))) rfl
theorem ew_1216 : Cond.methodLink RL 111 yX11_seat ∈ ea_tbl := ea_in (et_5 (List.mem_of_getElem? (i := 142) (by decide +kernel))) rfl
theorem ew_1217 : Cond.instanceMethod yX11_seat ∈ ea_tbl := ea_in (et_5 (List.mem_of_getElem? (i := 143) (by decide +kernel))) rfl
theorem ew_1218 : Cond.selects RX11 yX11_seat yX11_seat ∈ ea_tbl := ea_in (et_5 (List.mem_of_getElem? (i := 144) (by decide +kernel))) rfl
theorem ew_1220 : Cond.methodLink RL 116 yX11_run ∈ ea_tbl := ea_in (et_5 (List.mem_of_getElem? (i := 146) (by decide +kernel))) rfl
theorem ew_1221 : Cond.instanceMethod yX11_run ∈ ea_tbl := ea_in (et_5 (List.mem_of_getElem? (i := 147) (by decide +kernel))) rfl
theorem ew_1222 : Cond.selects RX11 yX11_run yX11_run ∈ ea_tbl := ea_in (et_5 (List.mem_of_getElem? (i := 148) (by decide +kernel))) rfl
theorem ew_1233 : Cond.methodLink RL 120 yX11_account ∈ ea_tbl := ea_in (et_5 (List.mem_of_getElem? (i := 159) (by decide +kernel))) rfl
theorem ew_1234 : Cond.instanceMethod yX11_account ∈ ea_tbl := ea_in (et_5 (List.mem_of_getElem? (i := 160) (by decide +kernel))) rfl
theorem ew_1235 : Cond.selects RX11 yX11_account yX11_account ∈ ea_tbl := ea_in (et_5 (List.mem_of_getElem? (i := 161) (by decide +kernel))) rfl
theorem ew_1257 : Cond.methodLink RL 124 yX11_nobody ∈ ea_tbl := ea_in (et_5 (List.mem_of_getElem? (i := 183) (by decide +kernel))) rfl
theorem ew_1258 : Cond.instanceMethod yX11_nobody ∈ ea_tbl := ea_in (et_5 (List.mem_of_getElem? (i := 184) (by decide +kernel))) rfl
theorem ew_1259 : Cond.selects RX11 yX11_nobody yX11_nobody ∈ ea_tbl := ea_in (et_5 (List.mem_of_getElem? (i := 185) (by decide +kernel))) rfl
theorem ew_1261 : Cond.methodLink RL 128 yX11_place ∈ ea_tbl := ea_in (et_5 (List.mem_of_getElem? (i := 187) (by decide +kernel))) rfl
theorem ew_1262 : Cond.instanceMethod yX11_place ∈ ea_tbl := ea_in (et_5 (List.mem_of_getElem? (i := 188) (by decide +kernel))) rfl
theorem ew_1263 : Cond.selects RX11 yX11_place yX11_place ∈ ea_tbl := ea_in (et_5 (List.mem_of_getElem? (i := 189) (by decide +kernel))) rfl
theorem ew_1277 : Cond.methodLink RL 132 yX11_order ∈ ea_tbl := ea_in (et_5 (List.mem_of_getElem? (i := 203) (by decide +kernel))) rfl
theorem ew_1278 : Cond.instanceMethod yX11_order ∈ ea_tbl := ea_in (et_5 (List.mem_of_getElem? (i := 204) (by decide +kernel))) rfl
theorem ew_1279 : Cond.selects RX11 yX11_order yX11_order ∈ ea_tbl := ea_in (et_5 (List.mem_of_getElem? (i := 205) (by decide +kernel))) rfl
theorem ew_1294 : Cond.methodLink RL 137 yX11_found ∈ ea_tbl := ea_in (et_5 (List.mem_of_getElem? (i := 220) (by decide +kernel))) rfl
theorem ew_1295 : Cond.instanceMethod yX11_found ∈ ea_tbl := ea_in (et_5 (List.mem_of_getElem? (i := 221) (by decide +kernel))) rfl
theorem ew_1296 : Cond.selects RX11 yX11_found yX11_found ∈ ea_tbl := ea_in (et_5 (List.mem_of_getElem? (i := 222) (by decide +kernel))) rfl
theorem ew_1300 : Cond.methodLink RL 141 yX11_rob ∈ ea_tbl := ea_in (et_5 (List.mem_of_getElem? (i := 226) (by decide +kernel))) rfl
theorem ew_1301 : Cond.instanceMethod yX11_rob ∈ ea_tbl := ea_in (et_5 (List.mem_of_getElem? (i := 227) (by decide +kernel))) rfl
theorem ew_1302 : Cond.selects RX11 yX11_rob yX11_rob ∈ ea_tbl := ea_in (et_5 (List.mem_of_getElem? (i := 228) (by decide +kernel))) rfl
theorem ew_1309 : Cond.methodLink RL 145 yX11_robbery ∈ ea_tbl := ea_in (et_5 (List.mem_of_getElem? (i := 235) (by decide +kernel))) rfl
theorem ew_1310 : Cond.instanceMethod yX11_robbery ∈ ea_tbl := ea_in (et_5 (List.mem_of_getElem? (i := 236) (by decide +kernel))) rfl
theorem ew_1311 : Cond.selects RX11 yX11_robbery yX11_robbery ∈ ea_tbl := ea_in (et_5 (List.mem_of_getElem? (i := 237) (by decide +kernel))) rfl
theorem ew_1329 : Cond.methodLink RL 149 yX11_set ∈ ea_tbl := ea_in (et_6 (List.mem_of_getElem? (i := 15) (by decide +kernel))) rfl
theorem ew_1330 : Cond.instanceMethod yX11_set ∈ ea_tbl := ea_in (et_6 (List.mem_of_getElem? (i := 16) (by decide +kernel))) rfl
theorem ew_1331 : Cond.selects RX11 yX11_set yX11_set ∈ ea_tbl := ea_in (et_6 (List.mem_of_getElem? (i := 17) (by decide +kernel))) rfl
theorem ew_1333 : Cond.methodLink RL 153 yX11_seen ∈ ea_tbl := ea_in (et_6 (List.mem_of_getElem? (i := 19) (by decide +kernel))) rfl
theorem ew_1334 : Cond.instanceMethod yX11_seen ∈ ea_tbl := ea_in (et_6 (List.mem_of_getElem? (i := 20) (by decide +kernel))) rfl
theorem ew_1335 : Cond.selects RX11 yX11_seen yX11_seen ∈ ea_tbl := ea_in (et_6 (List.mem_of_getElem? (i := 21) (by decide +kernel))) rfl
theorem ew_1344 : Cond.methodLink RL 157 yX11_clock ∈ ea_tbl := ea_in (et_6 (List.mem_of_getElem? (i := 30) (by decide +kernel))) rfl
theorem ew_1345 : Cond.instanceMethod yX11_clock ∈ ea_tbl := ea_in (et_6 (List.mem_of_getElem? (i := 31) (by decide +kernel))) rfl
theorem ew_1346 : Cond.selects RX11 yX11_clock yX11_clock ∈ ea_tbl := ea_in (et_6 (List.mem_of_getElem? (i := 32) (by decide +kernel))) rfl
theorem ew_1348 : Cond.methodLink RL 161 yX11_trueMinute ∈ ea_tbl := ea_in (et_6 (List.mem_of_getElem? (i := 34) (by decide +kernel))) rfl
theorem ew_1349 : Cond.instanceMethod yX11_trueMinute ∈ ea_tbl := ea_in (et_6 (List.mem_of_getElem? (i := 35) (by decide +kernel))) rfl
theorem ew_1350 : Cond.selects RX11 yX11_trueMinute yX11_trueMinute ∈ ea_tbl := ea_in (et_6 (List.mem_of_getElem? (i := 36) (by decide +kernel))) rfl
theorem ew_1364 : Cond.methodLink RL 165 yX11_tried ∈ ea_tbl := ea_in (et_6 (List.mem_of_getElem? (i := 50) (by decide +kernel))) rfl
theorem ew_1365 : Cond.instanceMethod yX11_tried ∈ ea_tbl := ea_in (et_6 (List.mem_of_getElem? (i := 51) (by decide +kernel))) rfl
theorem ew_1366 : Cond.selects RX11 yX11_tried yX11_tried ∈ ea_tbl := ea_in (et_6 (List.mem_of_getElem? (i := 52) (by decide +kernel))) rfl
theorem ew_1369 : Cond.methodLink RL 170 yX11_whatIf ∈ ea_tbl := ea_in (et_6 (List.mem_of_getElem? (i := 55) (by decide +kernel))) rfl
theorem ew_1370 : Cond.instanceMethod yX11_whatIf ∈ ea_tbl := ea_in (et_6 (List.mem_of_getElem? (i := 56) (by decide +kernel))) rfl
theorem ew_1371 : Cond.selects RX11 yX11_whatIf yX11_whatIf ∈ ea_tbl := ea_in (et_6 (List.mem_of_getElem? (i := 57) (by decide +kernel))) rfl
theorem ew_1386 : Cond.methodLink RL 174 yX11_seats ∈ ea_tbl := ea_in (et_6 (List.mem_of_getElem? (i := 72) (by decide +kernel))) rfl
theorem ew_1387 : Cond.instanceMethod yX11_seats ∈ ea_tbl := ea_in (et_6 (List.mem_of_getElem? (i := 73) (by decide +kernel))) rfl
theorem ew_1388 : Cond.selects RX11 yX11_seats yX11_seats ∈ ea_tbl := ea_in (et_6 (List.mem_of_getElem? (i := 74) (by decide +kernel))) rfl
theorem ew_1757 : Cond.methodLink RL 17 yX12_town ∈ ea_tbl := ea_in (et_7 (List.mem_of_getElem? (i := 203) (by decide +kernel))) rfl
theorem ew_1758 : Cond.instanceMethod yX12_town ∈ ea_tbl := ea_in (et_7 (List.mem_of_getElem? (i := 204) (by decide +kernel))) rfl
theorem ew_1759 : Cond.selects RX12 yX12_town yX12_town ∈ ea_tbl := ea_in (et_7 (List.mem_of_getElem? (i := 205) (by decide +kernel))) rfl
theorem ew_1761 : Cond.methodLink RL 22 yX12_road ∈ ea_tbl := ea_in (et_7 (List.mem_of_getElem? (i := 207) (by decide +kernel))) rfl
theorem ew_1762 : Cond.instanceMethod yX12_road ∈ ea_tbl := ea_in (et_7 (List.mem_of_getElem? (i := 208) (by decide +kernel))) rfl
theorem ew_1763 : Cond.selects RX12 yX12_road yX12_road ∈ ea_tbl := ea_in (et_7 (List.mem_of_getElem? (i := 209) (by decide +kernel))) rfl
theorem ew_1772 : Cond.methodLink RL 27 yX12_miles ∈ ea_tbl := ea_in (et_7 (List.mem_of_getElem? (i := 218) (by decide +kernel))) rfl
theorem ew_1773 : Cond.instanceMethod yX12_miles ∈ ea_tbl := ea_in (et_7 (List.mem_of_getElem? (i := 219) (by decide +kernel))) rfl
theorem ew_1774 : Cond.selects RX12 yX12_miles yX12_miles ∈ ea_tbl := ea_in (et_7 (List.mem_of_getElem? (i := 220) (by decide +kernel))) rfl
theorem ew_1785 : Cond.methodLink RL 31 yX12_train ∈ ea_tbl := ea_in (et_7 (List.mem_of_getElem? (i := 231) (by decide +kernel))) rfl
theorem ew_1786 : Cond.instanceMethod yX12_train ∈ ea_tbl := ea_in (et_7 (List.mem_of_getElem? (i := 232) (by decide +kernel))) rfl
theorem ew_1787 : Cond.selects RX12 yX12_train yX12_train ∈ ea_tbl := ea_in (et_7 (List.mem_of_getElem? (i := 233) (by decide +kernel))) rfl
theorem ew_1789 : Cond.methodLink RL 36 yX12_stop ∈ ea_tbl := ea_in (et_7 (List.mem_of_getElem? (i := 235) (by decide +kernel))) rfl
theorem ew_1790 : Cond.instanceMethod yX12_stop ∈ ea_tbl := ea_in (et_7 (List.mem_of_getElem? (i := 236) (by decide +kernel))) rfl
theorem ew_1791 : Cond.selects RX12 yX12_stop yX12_stop ∈ ea_tbl := ea_in (et_7 (List.mem_of_getElem? (i := 237) (by decide +kernel))) rfl
theorem ew_1797 : Cond.methodLink RL 41 yX12_stopOf ∈ ea_tbl := ea_in (et_8 (List.mem_of_getElem? (i := 3) (by decide +kernel))) rfl
theorem ew_1798 : Cond.instanceMethod yX12_stopOf ∈ ea_tbl := ea_in (et_8 (List.mem_of_getElem? (i := 4) (by decide +kernel))) rfl
theorem ew_1799 : Cond.selects RX12 yX12_stopOf yX12_stopOf ∈ ea_tbl := ea_in (et_8 (List.mem_of_getElem? (i := 5) (by decide +kernel))) rfl
theorem ew_1801 : Cond.methodLink RL 45 yX12_late ∈ ea_tbl := ea_in (et_8 (List.mem_of_getElem? (i := 7) (by decide +kernel))) rfl
theorem ew_1802 : Cond.instanceMethod yX12_late ∈ ea_tbl := ea_in (et_8 (List.mem_of_getElem? (i := 8) (by decide +kernel))) rfl
theorem ew_1803 : Cond.selects RX12 yX12_late yX12_late ∈ ea_tbl := ea_in (et_8 (List.mem_of_getElem? (i := 9) (by decide +kernel))) rfl
theorem ew_1815 : Cond.methodLink RL 49 yX12_miss ∈ ea_tbl := ea_in (et_8 (List.mem_of_getElem? (i := 21) (by decide +kernel))) rfl
theorem ew_1816 : Cond.instanceMethod yX12_miss ∈ ea_tbl := ea_in (et_8 (List.mem_of_getElem? (i := 22) (by decide +kernel))) rfl
theorem ew_1817 : Cond.selects RX12 yX12_miss yX12_miss ∈ ea_tbl := ea_in (et_8 (List.mem_of_getElem? (i := 23) (by decide +kernel))) rfl
theorem ew_1823 : Cond.methodLink RL 98 yX12_way ∈ ea_tbl := ea_in (et_8 (List.mem_of_getElem? (i := 29) (by decide +kernel))) rfl
theorem ew_1824 : Cond.instanceMethod yX12_way ∈ ea_tbl := ea_in (et_8 (List.mem_of_getElem? (i := 30) (by decide +kernel))) rfl
theorem ew_1825 : Cond.selects RX12 yX12_way yX12_way ∈ ea_tbl := ea_in (et_8 (List.mem_of_getElem? (i := 31) (by decide +kernel))) rfl
theorem ew_1867 : Cond.methodLink RL 63 yX12_feed ∈ ea_tbl := ea_in (et_8 (List.mem_of_getElem? (i := 73) (by decide +kernel))) rfl
theorem ew_1868 : Cond.instanceMethod yX12_feed ∈ ea_tbl := ea_in (et_8 (List.mem_of_getElem? (i := 74) (by decide +kernel))) rfl
theorem ew_1869 : Cond.selects RX12 yX12_feed yX12_feed ∈ ea_tbl := ea_in (et_8 (List.mem_of_getElem? (i := 75) (by decide +kernel))) rfl
theorem ew_1871 : Cond.methodLink RL 68 yX12_end ∈ ea_tbl := ea_in (et_8 (List.mem_of_getElem? (i := 77) (by decide +kernel))) rfl
theorem ew_1872 : Cond.instanceMethod yX12_end ∈ ea_tbl := ea_in (et_8 (List.mem_of_getElem? (i := 78) (by decide +kernel))) rfl
theorem ew_1873 : Cond.selects RX12 yX12_end yX12_end ∈ ea_tbl := ea_in (et_8 (List.mem_of_getElem? (i := 79) (by decide +kernel))) rfl
theorem ew_1875 : Cond.methodLink RL 72 yX12_act ∈ ea_tbl := ea_in (et_8 (List.mem_of_getElem? (i := 81) (by decide +kernel))) rfl
theorem ew_1876 : Cond.instanceMethod yX12_act ∈ ea_tbl := ea_in (et_8 (List.mem_of_getElem? (i := 82) (by decide +kernel))) rfl
theorem ew_1877 : Cond.selects RX12 yX12_act yX12_act ∈ ea_tbl := ea_in (et_8 (List.mem_of_getElem? (i := 83) (by decide +kernel))) rfl
theorem ew_2024 : Cond.methodLink RL 76 yX12_fault ∈ ea_tbl := ea_in (et_8 (List.mem_of_getElem? (i := 230) (by decide +kernel))) rfl
theorem ew_2025 : Cond.instanceMethod yX12_fault ∈ ea_tbl := ea_in (et_8 (List.mem_of_getElem? (i := 231) (by decide +kernel))) rfl
theorem ew_2026 : Cond.selects RX12 yX12_fault yX12_fault ∈ ea_tbl := ea_in (et_8 (List.mem_of_getElem? (i := 232) (by decide +kernel))) rfl
theorem ew_2028 : Cond.methodLink RL 80 yX12_inForce ∈ ea_tbl := ea_in (et_8 (List.mem_of_getElem? (i := 234) (by decide +kernel))) rfl
theorem ew_2029 : Cond.instanceMethod yX12_inForce ∈ ea_tbl := ea_in (et_8 (List.mem_of_getElem? (i := 235) (by decide +kernel))) rfl
theorem ew_2030 : Cond.selects RX12 yX12_inForce yX12_inForce ∈ ea_tbl := ea_in (et_8 (List.mem_of_getElem? (i := 236) (by decide +kernel))) rfl
theorem ew_2036 : Cond.methodLink RL 85 yX12_post ∈ ea_tbl := ea_in (et_9 (List.mem_of_getElem? (i := 2) (by decide +kernel))) rfl
theorem ew_2037 : Cond.instanceMethod yX12_post ∈ ea_tbl := ea_in (et_9 (List.mem_of_getElem? (i := 3) (by decide +kernel))) rfl
theorem ew_2038 : Cond.selects RX12 yX12_post yX12_post ∈ ea_tbl := ea_in (et_9 (List.mem_of_getElem? (i := 4) (by decide +kernel))) rfl
theorem ew_2072 : Cond.methodLink RL 89 yX12_of ∈ ea_tbl := ea_in (et_9 (List.mem_of_getElem? (i := 38) (by decide +kernel))) rfl
theorem ew_2073 : Cond.instanceMethod yX12_of ∈ ea_tbl := ea_in (et_9 (List.mem_of_getElem? (i := 39) (by decide +kernel))) rfl
theorem ew_2074 : Cond.selects RX12 yX12_of yX12_of ∈ ea_tbl := ea_in (et_9 (List.mem_of_getElem? (i := 40) (by decide +kernel))) rfl
theorem ew_2080 : Cond.methodLink RL 93 yX12_charge ∈ ea_tbl := ea_in (et_9 (List.mem_of_getElem? (i := 46) (by decide +kernel))) rfl
theorem ew_2081 : Cond.instanceMethod yX12_charge ∈ ea_tbl := ea_in (et_9 (List.mem_of_getElem? (i := 47) (by decide +kernel))) rfl
theorem ew_2082 : Cond.selects RX12 yX12_charge yX12_charge ∈ ea_tbl := ea_in (et_9 (List.mem_of_getElem? (i := 48) (by decide +kernel))) rfl
theorem ew_2092 : Cond.methodLink RL 102 yX12_lead ∈ ea_tbl := ea_in (et_9 (List.mem_of_getElem? (i := 58) (by decide +kernel))) rfl
theorem ew_2093 : Cond.instanceMethod yX12_lead ∈ ea_tbl := ea_in (et_9 (List.mem_of_getElem? (i := 59) (by decide +kernel))) rfl
theorem ew_2094 : Cond.selects RX12 yX12_lead yX12_lead ∈ ea_tbl := ea_in (et_9 (List.mem_of_getElem? (i := 60) (by decide +kernel))) rfl
theorem ew_2096 : Cond.methodLink RL 106 yX12_where ∈ ea_tbl := ea_in (et_9 (List.mem_of_getElem? (i := 62) (by decide +kernel))) rfl
theorem ew_2097 : Cond.instanceMethod yX12_where ∈ ea_tbl := ea_in (et_9 (List.mem_of_getElem? (i := 63) (by decide +kernel))) rfl
theorem ew_2098 : Cond.selects RX12 yX12_where yX12_where ∈ ea_tbl := ea_in (et_9 (List.mem_of_getElem? (i := 64) (by decide +kernel))) rfl
theorem ew_2100 : Cond.methodLink RL 110 yX12_sorter ∈ ea_tbl := ea_in (et_9 (List.mem_of_getElem? (i := 66) (by decide +kernel))) rfl
theorem ew_2101 : Cond.instanceMethod yX12_sorter ∈ ea_tbl := ea_in (et_9 (List.mem_of_getElem? (i := 67) (by decide +kernel))) rfl
theorem ew_2102 : Cond.selects RX12 yX12_sorter yX12_sorter ∈ ea_tbl := ea_in (et_9 (List.mem_of_getElem? (i := 68) (by decide +kernel))) rfl
theorem ew_2104 : Cond.methodLink RL 115 yX12_seat ∈ ea_tbl := ea_in (et_9 (List.mem_of_getElem? (i := 70) (by decide +kernel))) rfl
theorem ew_2105 : Cond.instanceMethod yX12_seat ∈ ea_tbl := ea_in (et_9 (List.mem_of_getElem? (i := 71) (by decide +kernel))) rfl
theorem ew_2106 : Cond.selects RX12 yX12_seat yX12_seat ∈ ea_tbl := ea_in (et_9 (List.mem_of_getElem? (i := 72) (by decide +kernel))) rfl
theorem ew_2108 : Cond.methodLink RL 54 yX12_minutes ∈ ea_tbl := ea_in (et_9 (List.mem_of_getElem? (i := 74) (by decide +kernel))) rfl
theorem ew_2109 : Cond.instanceMethod yX12_minutes ∈ ea_tbl := ea_in (et_9 (List.mem_of_getElem? (i := 75) (by decide +kernel))) rfl
theorem ew_2110 : Cond.selects RX12 yX12_minutes yX12_minutes ∈ ea_tbl := ea_in (et_9 (List.mem_of_getElem? (i := 76) (by decide +kernel))) rfl
theorem ew_2143 : Cond.methodLink RL 58 yX12_look ∈ ea_tbl := ea_in (et_9 (List.mem_of_getElem? (i := 109) (by decide +kernel))) rfl
theorem ew_2144 : Cond.instanceMethod yX12_look ∈ ea_tbl := ea_in (et_9 (List.mem_of_getElem? (i := 110) (by decide +kernel))) rfl
theorem ew_2145 : Cond.selects RX12 yX12_look yX12_look ∈ ea_tbl := ea_in (et_9 (List.mem_of_getElem? (i := 111) (by decide +kernel))) rfl
theorem ew_2147 : Cond.methodLink RL 119 yX12_run_ ∈ ea_tbl := ea_in (et_9 (List.mem_of_getElem? (i := 113) (by decide +kernel))) rfl
theorem ew_2148 : Cond.instanceMethod yX12_run_ ∈ ea_tbl := ea_in (et_9 (List.mem_of_getElem? (i := 114) (by decide +kernel))) rfl
theorem ew_2149 : Cond.selects RX12 yX12_run_ yX12_run_ ∈ ea_tbl := ea_in (et_9 (List.mem_of_getElem? (i := 115) (by decide +kernel))) rfl
theorem ew_2155 : Cond.methodLink RL 123 yX12_account ∈ ea_tbl := ea_in (et_9 (List.mem_of_getElem? (i := 121) (by decide +kernel))) rfl
theorem ew_2156 : Cond.instanceMethod yX12_account ∈ ea_tbl := ea_in (et_9 (List.mem_of_getElem? (i := 122) (by decide +kernel))) rfl
theorem ew_2157 : Cond.selects RX12 yX12_account yX12_account ∈ ea_tbl := ea_in (et_9 (List.mem_of_getElem? (i := 123) (by decide +kernel))) rfl
theorem ew_2163 : Cond.methodLink RL 127 yX12_nobody ∈ ea_tbl := ea_in (et_9 (List.mem_of_getElem? (i := 129) (by decide +kernel))) rfl
theorem ew_2164 : Cond.instanceMethod yX12_nobody ∈ ea_tbl := ea_in (et_9 (List.mem_of_getElem? (i := 130) (by decide +kernel))) rfl
theorem ew_2165 : Cond.selects RX12 yX12_nobody yX12_nobody ∈ ea_tbl := ea_in (et_9 (List.mem_of_getElem? (i := 131) (by decide +kernel))) rfl
theorem ew_2167 : Cond.methodLink RL 131 yX12_place ∈ ea_tbl := ea_in (et_9 (List.mem_of_getElem? (i := 133) (by decide +kernel))) rfl
theorem ew_2168 : Cond.instanceMethod yX12_place ∈ ea_tbl := ea_in (et_9 (List.mem_of_getElem? (i := 134) (by decide +kernel))) rfl
theorem ew_2169 : Cond.selects RX12 yX12_place yX12_place ∈ ea_tbl := ea_in (et_9 (List.mem_of_getElem? (i := 135) (by decide +kernel))) rfl
theorem ew_2171 : Cond.methodLink RL 136 yX12_order ∈ ea_tbl := ea_in (et_9 (List.mem_of_getElem? (i := 137) (by decide +kernel))) rfl
theorem ew_2172 : Cond.instanceMethod yX12_order ∈ ea_tbl := ea_in (et_9 (List.mem_of_getElem? (i := 138) (by decide +kernel))) rfl
theorem ew_2173 : Cond.selects RX12 yX12_order yX12_order ∈ ea_tbl := ea_in (et_9 (List.mem_of_getElem? (i := 139) (by decide +kernel))) rfl
theorem ew_2184 : Cond.methodLink RL 140 yX12_found ∈ ea_tbl := ea_in (et_9 (List.mem_of_getElem? (i := 150) (by decide +kernel))) rfl
theorem ew_2185 : Cond.instanceMethod yX12_found ∈ ea_tbl := ea_in (et_9 (List.mem_of_getElem? (i := 151) (by decide +kernel))) rfl
theorem ew_2186 : Cond.selects RX12 yX12_found yX12_found ∈ ea_tbl := ea_in (et_9 (List.mem_of_getElem? (i := 152) (by decide +kernel))) rfl
theorem ew_2188 : Cond.methodLink RL 144 yX12_rob ∈ ea_tbl := ea_in (et_9 (List.mem_of_getElem? (i := 154) (by decide +kernel))) rfl
theorem ew_2189 : Cond.instanceMethod yX12_rob ∈ ea_tbl := ea_in (et_9 (List.mem_of_getElem? (i := 155) (by decide +kernel))) rfl
theorem ew_2190 : Cond.selects RX12 yX12_rob yX12_rob ∈ ea_tbl := ea_in (et_9 (List.mem_of_getElem? (i := 156) (by decide +kernel))) rfl
theorem ew_2192 : Cond.methodLink RL 148 yX12_robbery ∈ ea_tbl := ea_in (et_9 (List.mem_of_getElem? (i := 158) (by decide +kernel))) rfl
theorem ew_2193 : Cond.instanceMethod yX12_robbery ∈ ea_tbl := ea_in (et_9 (List.mem_of_getElem? (i := 159) (by decide +kernel))) rfl
theorem ew_2194 : Cond.selects RX12 yX12_robbery yX12_robbery ∈ ea_tbl := ea_in (et_9 (List.mem_of_getElem? (i := 160) (by decide +kernel))) rfl
theorem ew_2196 : Cond.methodLink RL 152 yX12_set ∈ ea_tbl := ea_in (et_9 (List.mem_of_getElem? (i := 162) (by decide +kernel))) rfl
theorem ew_2197 : Cond.instanceMethod yX12_set ∈ ea_tbl := ea_in (et_9 (List.mem_of_getElem? (i := 163) (by decide +kernel))) rfl
theorem ew_2198 : Cond.selects RX12 yX12_set yX12_set ∈ ea_tbl := ea_in (et_9 (List.mem_of_getElem? (i := 164) (by decide +kernel))) rfl
theorem ew_2200 : Cond.methodLink RL 156 yX12_seen ∈ ea_tbl := ea_in (et_9 (List.mem_of_getElem? (i := 166) (by decide +kernel))) rfl
theorem ew_2201 : Cond.instanceMethod yX12_seen ∈ ea_tbl := ea_in (et_9 (List.mem_of_getElem? (i := 167) (by decide +kernel))) rfl
theorem ew_2202 : Cond.selects RX12 yX12_seen yX12_seen ∈ ea_tbl := ea_in (et_9 (List.mem_of_getElem? (i := 168) (by decide +kernel))) rfl
theorem ew_2212 : Cond.methodLink RL 160 yX12_clock ∈ ea_tbl := ea_in (et_9 (List.mem_of_getElem? (i := 178) (by decide +kernel))) rfl
theorem ew_2213 : Cond.instanceMethod yX12_clock ∈ ea_tbl := ea_in (et_9 (List.mem_of_getElem? (i := 179) (by decide +kernel))) rfl
theorem ew_2214 : Cond.selects RX12 yX12_clock yX12_clock ∈ ea_tbl := ea_in (et_9 (List.mem_of_getElem? (i := 180) (by decide +kernel))) rfl
theorem ew_2216 : Cond.methodLink RL 164 yX12_trueMinute ∈ ea_tbl := ea_in (et_9 (List.mem_of_getElem? (i := 182) (by decide +kernel))) rfl
theorem ew_2217 : Cond.instanceMethod yX12_trueMinute ∈ ea_tbl := ea_in (et_9 (List.mem_of_getElem? (i := 183) (by decide +kernel))) rfl
theorem ew_2218 : Cond.selects RX12 yX12_trueMinute yX12_trueMinute ∈ ea_tbl := ea_in (et_9 (List.mem_of_getElem? (i := 184) (by decide +kernel))) rfl
theorem ew_2224 : Cond.methodLink RL 169 yX12_tried ∈ ea_tbl := ea_in (et_9 (List.mem_of_getElem? (i := 190) (by decide +kernel))) rfl
theorem ew_2225 : Cond.instanceMethod yX12_tried ∈ ea_tbl := ea_in (et_9 (List.mem_of_getElem? (i := 191) (by decide +kernel))) rfl
theorem ew_2226 : Cond.selects RX12 yX12_tried yX12_tried ∈ ea_tbl := ea_in (et_9 (List.mem_of_getElem? (i := 192) (by decide +kernel))) rfl
theorem ew_2228 : Cond.methodLink RL 173 yX12_whatIf ∈ ea_tbl := ea_in (et_9 (List.mem_of_getElem? (i := 194) (by decide +kernel))) rfl
theorem ew_2229 : Cond.instanceMethod yX12_whatIf ∈ ea_tbl := ea_in (et_9 (List.mem_of_getElem? (i := 195) (by decide +kernel))) rfl
theorem ew_2230 : Cond.selects RX12 yX12_whatIf yX12_whatIf ∈ ea_tbl := ea_in (et_9 (List.mem_of_getElem? (i := 196) (by decide +kernel))) rfl
theorem ew_2244 : Cond.methodLink RL 177 yX12_seats ∈ ea_tbl := ea_in (et_9 (List.mem_of_getElem? (i := 210) (by decide +kernel))) rfl
theorem ew_2245 : Cond.instanceMethod yX12_seats ∈ ea_tbl := ea_in (et_9 (List.mem_of_getElem? (i := 211) (by decide +kernel))) rfl
theorem ew_2246 : Cond.selects RX12 yX12_seats yX12_seats ∈ ea_tbl := ea_in (et_9 (List.mem_of_getElem? (i := 212) (by decide +kernel))) rfl
noncomputable def BL_law_18 (J18 : Int32 → ea_H → Option (Int32 × ea_H)) (x3 : Int32) (h : ea_H) : Option (Int32 × ea_H) :=
  (if ((Int32.ofNat (ea_q h).1) - (7 : Int32)) < x3 then (some ((1 : Int32), h)) else (gd (vp_in x3 (ea_q h).1) (if Int32.toInt (((ea_q h).2 (Int32.toNatClampNeg x3)) &&& (63 : Int32)) = 0 then (Option.bind (qX11_town  h) fun w300 => (Option.bind (qX12_town  w300.2) fun w301 => (if w300.1 = w301.1 then (J18 ((x3 + (7 : Int32)) : Int32) w301.2) else (some ((0 : Int32), w301.2))))) else (if Int32.toInt (((ea_q h).2 (Int32.toNatClampNeg x3)) &&& (63 : Int32)) = 1 then (gd (vp_in (x3 + (1 : Int32)) (ea_q h).1) (gd (vp_in (x3 + (2 : Int32)) (ea_q h).1) (gd (vp_in (x3 + (3 : Int32)) (ea_q h).1) (Option.bind (qX11_road (((ea_q h).2 (Int32.toNatClampNeg (x3 + (1 : Int32)))) : Int32) (((ea_q h).2 (Int32.toNatClampNeg (x3 + (2 : Int32)))) : Int32) (((ea_q h).2 (Int32.toNatClampNeg (x3 + (3 : Int32)))) : Int32) h) fun w294 => (gd (vp_in (x3 + (1 : Int32)) (ea_q w294.2).1) (gd (vp_in (x3 + (2 : Int32)) (ea_q w294.2).1) (gd (vp_in (x3 + (3 : Int32)) (ea_q w294.2).1) (Option.bind (qX12_road (((ea_q w294.2).2 (Int32.toNatClampNeg (x3 + (1 : Int32)))) : Int32) (((ea_q w294.2).2 (Int32.toNatClampNeg (x3 + (2 : Int32)))) : Int32) (((ea_q w294.2).2 (Int32.toNatClampNeg (x3 + (3 : Int32)))) : Int32) w294.2) fun w298 => (if w294.1 = w298.1 then (J18 ((x3 + (7 : Int32)) : Int32) w298.2) else (some ((0 : Int32), w298.2))))))))))) else (if Int32.toInt (((ea_q h).2 (Int32.toNatClampNeg x3)) &&& (63 : Int32)) = 2 then (gd (vp_in (x3 + (1 : Int32)) (ea_q h).1) (gd (vp_in (x3 + (2 : Int32)) (ea_q h).1) (Option.bind (qX11_miles (((ea_q h).2 (Int32.toNatClampNeg (x3 + (1 : Int32)))) : Int32) (((ea_q h).2 (Int32.toNatClampNeg (x3 + (2 : Int32)))) : Int32) h) fun w286 => (gd (vp_in (x3 + (1 : Int32)) (ea_q w286.2).1) (gd (vp_in (x3 + (2 : Int32)) (ea_q w286.2).1) (Option.bind (qX12_miles (((ea_q w286.2).2 (Int32.toNatClampNeg (x3 + (1 : Int32)))) : Int32) (((ea_q w286.2).2 (Int32.toNatClampNeg (x3 + (2 : Int32)))) : Int32) w286.2) fun w289 => (if w286.1 = w289.1 then (J18 ((x3 + (7 : Int32)) : Int32) w289.2) else (some ((0 : Int32), w289.2))))))))) else (if Int32.toInt (((ea_q h).2 (Int32.toNatClampNeg x3)) &&& (63 : Int32)) = 3 then (Option.bind (qX11_train  h) fun w281 => (Option.bind (qX12_train  w281.2) fun w282 => (if w281.1 = w282.1 then (J18 ((x3 + (7 : Int32)) : Int32) w282.2) else (some ((0 : Int32), w282.2))))) else (if Int32.toInt (((ea_q h).2 (Int32.toNatClampNeg x3)) &&& (63 : Int32)) = 4 then (gd (vp_in (x3 + (1 : Int32)) (ea_q h).1) (gd (vp_in (x3 + (2 : Int32)) (ea_q h).1) (gd (vp_in (x3 + (3 : Int32)) (ea_q h).1) (gd (vp_in (x3 + (4 : Int32)) (ea_q h).1) (gd (vp_in (x3 + (5 : Int32)) (ea_q h).1) (if ((ea_q h).2 (Int32.toNatClampNeg (x3 + (5 : Int32)))) = (0 : Int32) then (Option.bind (qX11_stop (((ea_q h).2 (Int32.toNatClampNeg (x3 + (1 : Int32)))) : Int32) (((ea_q h).2 (Int32.toNatClampNeg (x3 + (2 : Int32)))) : Int32) (((ea_q h).2 (Int32.toNatClampNeg (x3 + (3 : Int32)))) : Int32) (((ea_q h).2 (Int32.toNatClampNeg (x3 + (4 : Int32)))) : Int32) (0 : Int32) h) fun w258 => (gd (vp_in (x3 + (1 : Int32)) (ea_q w258.2).1) (gd (vp_in (x3 + (2 : Int32)) (ea_q w258.2).1) (gd (vp_in (x3 + (3 : Int32)) (ea_q w258.2).1) (gd (vp_in (x3 + (4 : Int32)) (ea_q w258.2).1) (gd (vp_in (x3 + (5 : Int32)) (ea_q w258.2).1) (if ((ea_q w258.2).2 (Int32.toNatClampNeg (x3 + (5 : Int32)))) = (0 : Int32) then (Option.bind (qX12_stop (((ea_q w258.2).2 (Int32.toNatClampNeg (x3 + (1 : Int32)))) : Int32) (((ea_q w258.2).2 (Int32.toNatClampNeg (x3 + (2 : Int32)))) : Int32) (((ea_q w258.2).2 (Int32.toNatClampNeg (x3 + (3 : Int32)))) : Int32) (((ea_q w258.2).2 (Int32.toNatClampNeg (x3 + (4 : Int32)))) : Int32) (0 : Int32) w258.2) fun w264 => (if w258.1 = w264.1 then (J18 ((x3 + (7 : Int32)) : Int32) w264.2) else (some ((0 : Int32), w264.2)))) else (Option.bind (qX12_stop (((ea_q w258.2).2 (Int32.toNatClampNeg (x3 + (1 : Int32)))) : Int32) (((ea_q w258.2).2 (Int32.toNatClampNeg (x3 + (2 : Int32)))) : Int32) (((ea_q w258.2).2 (Int32.toNatClampNeg (x3 + (3 : Int32)))) : Int32) (((ea_q w258.2).2 (Int32.toNatClampNeg (x3 + (4 : Int32)))) : Int32) (1 : Int32) w258.2) fun w266 => (if w258.1 = w266.1 then (J18 ((x3 + (7 : Int32)) : Int32) w266.2) else (some ((0 : Int32), w266.2))))))))))) else (Option.bind (qX11_stop (((ea_q h).2 (Int32.toNatClampNeg (x3 + (1 : Int32)))) : Int32) (((ea_q h).2 (Int32.toNatClampNeg (x3 + (2 : Int32)))) : Int32) (((ea_q h).2 (Int32.toNatClampNeg (x3 + (3 : Int32)))) : Int32) (((ea_q h).2 (Int32.toNatClampNeg (x3 + (4 : Int32)))) : Int32) (1 : Int32) h) fun w269 => (gd (vp_in (x3 + (1 : Int32)) (ea_q w269.2).1) (gd (vp_in (x3 + (2 : Int32)) (ea_q w269.2).1) (gd (vp_in (x3 + (3 : Int32)) (ea_q w269.2).1) (gd (vp_in (x3 + (4 : Int32)) (ea_q w269.2).1) (gd (vp_in (x3 + (5 : Int32)) (ea_q w269.2).1) (if ((ea_q w269.2).2 (Int32.toNatClampNeg (x3 + (5 : Int32)))) = (0 : Int32) then (Option.bind (qX12_stop (((ea_q w269.2).2 (Int32.toNatClampNeg (x3 + (1 : Int32)))) : Int32) (((ea_q w269.2).2 (Int32.toNatClampNeg (x3 + (2 : Int32)))) : Int32) (((ea_q w269.2).2 (Int32.toNatClampNeg (x3 + (3 : Int32)))) : Int32) (((ea_q w269.2).2 (Int32.toNatClampNeg (x3 + (4 : Int32)))) : Int32) (0 : Int32) w269.2) fun w275 => (if w269.1 = w275.1 then (J18 ((x3 + (7 : Int32)) : Int32) w275.2) else (some ((0 : Int32), w275.2)))) else (Option.bind (qX12_stop (((ea_q w269.2).2 (Int32.toNatClampNeg (x3 + (1 : Int32)))) : Int32) (((ea_q w269.2).2 (Int32.toNatClampNeg (x3 + (2 : Int32)))) : Int32) (((ea_q w269.2).2 (Int32.toNatClampNeg (x3 + (3 : Int32)))) : Int32) (((ea_q w269.2).2 (Int32.toNatClampNeg (x3 + (4 : Int32)))) : Int32) (1 : Int32) w269.2) fun w277 => (if w269.1 = w277.1 then (J18 ((x3 + (7 : Int32)) : Int32) w277.2) else (some ((0 : Int32), w277.2))))))))))))))))) else (if Int32.toInt (((ea_q h).2 (Int32.toNatClampNeg x3)) &&& (63 : Int32)) = 5 then (gd (vp_in (x3 + (1 : Int32)) (ea_q h).1) (gd (vp_in (x3 + (2 : Int32)) (ea_q h).1) (gd (vp_in (x3 + (3 : Int32)) (ea_q h).1) (Option.bind (qX11_stopOf (((ea_q h).2 (Int32.toNatClampNeg (x3 + (1 : Int32)))) : Int32) (((ea_q h).2 (Int32.toNatClampNeg (x3 + (2 : Int32)))) : Int32) (((ea_q h).2 (Int32.toNatClampNeg (x3 + (3 : Int32)))) : Int32) h) fun w247 => (gd (vp_in (x3 + (1 : Int32)) (ea_q w247.2).1) (gd (vp_in (x3 + (2 : Int32)) (ea_q w247.2).1) (gd (vp_in (x3 + (3 : Int32)) (ea_q w247.2).1) (Option.bind (qX12_stopOf (((ea_q w247.2).2 (Int32.toNatClampNeg (x3 + (1 : Int32)))) : Int32) (((ea_q w247.2).2 (Int32.toNatClampNeg (x3 + (2 : Int32)))) : Int32) (((ea_q w247.2).2 (Int32.toNatClampNeg (x3 + (3 : Int32)))) : Int32) w247.2) fun w251 => (if w247.1 = w251.1 then (J18 ((x3 + (7 : Int32)) : Int32) w251.2) else (some ((0 : Int32), w251.2))))))))))) else (if Int32.toInt (((ea_q h).2 (Int32.toNatClampNeg x3)) &&& (63 : Int32)) = 6 then (gd (vp_in (x3 + (1 : Int32)) (ea_q h).1) (gd (vp_in (x3 + (2 : Int32)) (ea_q h).1) (gd (vp_in (x3 + (3 : Int32)) (ea_q h).1) (Option.bind (qX11_late (((ea_q h).2 (Int32.toNatClampNeg (x3 + (1 : Int32)))) : Int32) (((ea_q h).2 (Int32.toNatClampNeg (x3 + (2 : Int32)))) : Int32) (((ea_q h).2 (Int32.toNatClampNeg (x3 + (3 : Int32)))) : Int32) h) fun w238 => (gd (vp_in (x3 + (1 : Int32)) (ea_q w238.2).1) (gd (vp_in (x3 + (2 : Int32)) (ea_q w238.2).1) (gd (vp_in (x3 + (3 : Int32)) (ea_q w238.2).1) (Option.bind (qX12_late (((ea_q w238.2).2 (Int32.toNatClampNeg (x3 + (1 : Int32)))) : Int32) (((ea_q w238.2).2 (Int32.toNatClampNeg (x3 + (2 : Int32)))) : Int32) (((ea_q w238.2).2 (Int32.toNatClampNeg (x3 + (3 : Int32)))) : Int32) w238.2) fun w242 => (if w238.1 = w242.1 then (J18 ((x3 + (7 : Int32)) : Int32) w242.2) else (some ((0 : Int32), w242.2))))))))))) else (if Int32.toInt (((ea_q h).2 (Int32.toNatClampNeg x3)) &&& (63 : Int32)) = 7 then (gd (vp_in (x3 + (1 : Int32)) (ea_q h).1) (gd (vp_in (x3 + (2 : Int32)) (ea_q h).1) (gd (vp_in (x3 + (3 : Int32)) (ea_q h).1) (Option.bind (qX11_miss (((ea_q h).2 (Int32.toNatClampNeg (x3 + (1 : Int32)))) : Int32) (((ea_q h).2 (Int32.toNatClampNeg (x3 + (2 : Int32)))) : Int32) (((ea_q h).2 (Int32.toNatClampNeg (x3 + (3 : Int32)))) : Int32) h) fun w229 => (gd (vp_in (x3 + (1 : Int32)) (ea_q w229.2).1) (gd (vp_in (x3 + (2 : Int32)) (ea_q w229.2).1) (gd (vp_in (x3 + (3 : Int32)) (ea_q w229.2).1) (Option.bind (qX12_miss (((ea_q w229.2).2 (Int32.toNatClampNeg (x3 + (1 : Int32)))) : Int32) (((ea_q w229.2).2 (Int32.toNatClampNeg (x3 + (2 : Int32)))) : Int32) (((ea_q w229.2).2 (Int32.toNatClampNeg (x3 + (3 : Int32)))) : Int32) w229.2) fun w233 => (if w229.1 = w233.1 then (J18 ((x3 + (7 : Int32)) : Int32) w233.2) else (some ((0 : Int32), w233.2))))))))))) else (if Int32.toInt (((ea_q h).2 (Int32.toNatClampNeg x3)) &&& (63 : Int32)) = 8 then (gd (vp_in (x3 + (1 : Int32)) (ea_q h).1) (Option.bind (qX11_minutes (((ea_q h).2 (Int32.toNatClampNeg (x3 + (1 : Int32)))) : Int32) h) fun w222 => (gd (vp_in (x3 + (1 : Int32)) (ea_q w222.2).1) (Option.bind (qX12_minutes (((ea_q w222.2).2 (Int32.toNatClampNeg (x3 + (1 : Int32)))) : Int32) w222.2) fun w224 => (if w222.1 = w224.1 then (J18 ((x3 + (7 : Int32)) : Int32) w224.2) else (some ((0 : Int32), w224.2))))))) else (if Int32.toInt (((ea_q h).2 (Int32.toNatClampNeg x3)) &&& (63 : Int32)) = 9 then (gd (vp_in (x3 + (1 : Int32)) (ea_q h).1) (Option.bind (qX11_look (((ea_q h).2 (Int32.toNatClampNeg (x3 + (1 : Int32)))) : Int32) h) fun w217 => (gd (vp_in (x3 + (1 : Int32)) (ea_q w217.2).1) (Option.bind (qX12_look (((ea_q w217.2).2 (Int32.toNatClampNeg (x3 + (1 : Int32)))) : Int32) w217.2) fun w219 => (if w217.1 = w219.1 then (J18 ((x3 + (7 : Int32)) : Int32) w219.2) else (some ((0 : Int32), w219.2))))))) else (if Int32.toInt (((ea_q h).2 (Int32.toNatClampNeg x3)) &&& (63 : Int32)) = 10 then (gd (vp_in (x3 + (1 : Int32)) (ea_q h).1) (gd (vp_in (x3 + (2 : Int32)) (ea_q h).1) (gd (vp_in (x3 + (3 : Int32)) (ea_q h).1) (gd (vp_in (x3 + (4 : Int32)) (ea_q h).1) (gd (vp_in (x3 + (5 : Int32)) (ea_q h).1) (Option.bind (qX11_feed (((ea_q h).2 (Int32.toNatClampNeg (x3 + (1 : Int32)))) : Int32) (((ea_q h).2 (Int32.toNatClampNeg (x3 + (2 : Int32)))) : Int32) (((ea_q h).2 (Int32.toNatClampNeg (x3 + (3 : Int32)))) : Int32) (((ea_q h).2 (Int32.toNatClampNeg (x3 + (4 : Int32)))) : Int32) (((ea_q h).2 (Int32.toNatClampNeg (x3 + (5 : Int32)))) : Int32) h) fun w208 => (gd (vp_in (x3 + (1 : Int32)) (ea_q w208.2).1) (gd (vp_in (x3 + (2 : Int32)) (ea_q w208.2).1) (gd (vp_in (x3 + (3 : Int32)) (ea_q w208.2).1) (gd (vp_in (x3 + (4 : Int32)) (ea_q w208.2).1) (gd (vp_in (x3 + (5 : Int32)) (ea_q w208.2).1) (Option.bind (qX12_feed (((ea_q w208.2).2 (Int32.toNatClampNeg (x3 + (1 : Int32)))) : Int32) (((ea_q w208.2).2 (Int32.toNatClampNeg (x3 + (2 : Int32)))) : Int32) (((ea_q w208.2).2 (Int32.toNatClampNeg (x3 + (3 : Int32)))) : Int32) (((ea_q w208.2).2 (Int32.toNatClampNeg (x3 + (4 : Int32)))) : Int32) (((ea_q w208.2).2 (Int32.toNatClampNeg (x3 + (5 : Int32)))) : Int32) w208.2) fun w214 => (if w208.1 = w214.1 then (J18 ((x3 + (7 : Int32)) : Int32) w214.2) else (some ((0 : Int32), w214.2))))))))))))))) else (if Int32.toInt (((ea_q h).2 (Int32.toNatClampNeg x3)) &&& (63 : Int32)) = 11 then (gd (vp_in (x3 + (1 : Int32)) (ea_q h).1) (Option.bind (qX11_end (((ea_q h).2 (Int32.toNatClampNeg (x3 + (1 : Int32)))) : Int32) h) fun w199 => (gd (vp_in (x3 + (1 : Int32)) (ea_q w199.2).1) (Option.bind (qX12_end (((ea_q w199.2).2 (Int32.toNatClampNeg (x3 + (1 : Int32)))) : Int32) w199.2) fun w201 => (if w199.1 = w201.1 then (J18 ((x3 + (7 : Int32)) : Int32) w201.2) else (some ((0 : Int32), w201.2))))))) else (if Int32.toInt (((ea_q h).2 (Int32.toNatClampNeg x3)) &&& (63 : Int32)) = 12 then (gd (vp_in (x3 + (1 : Int32)) (ea_q h).1) (Option.bind (qX11_act (((ea_q h).2 (Int32.toNatClampNeg (x3 + (1 : Int32)))) : Int32) h) fun w194 => (gd (vp_in (x3 + (1 : Int32)) (ea_q w194.2).1) (Option.bind (qX12_act (((ea_q w194.2).2 (Int32.toNatClampNeg (x3 + (1 : Int32)))) : Int32) w194.2) fun w196 => (if w194.1 = w196.1 then (J18 ((x3 + (7 : Int32)) : Int32) w196.2) else (some ((0 : Int32), w196.2))))))) else (if Int32.toInt (((ea_q h).2 (Int32.toNatClampNeg x3)) &&& (63 : Int32)) = 13 then (gd (vp_in (x3 + (1 : Int32)) (ea_q h).1) (Option.bind (qX11_fault (((ea_q h).2 (Int32.toNatClampNeg (x3 + (1 : Int32)))) : Int32) h) fun w189 => (gd (vp_in (x3 + (1 : Int32)) (ea_q w189.2).1) (Option.bind (qX12_fault (((ea_q w189.2).2 (Int32.toNatClampNeg (x3 + (1 : Int32)))) : Int32) w189.2) fun w191 => (if w189.1 = w191.1 then (J18 ((x3 + (7 : Int32)) : Int32) w191.2) else (some ((0 : Int32), w191.2))))))) else (if Int32.toInt (((ea_q h).2 (Int32.toNatClampNeg x3)) &&& (63 : Int32)) = 14 then (gd (vp_in (x3 + (1 : Int32)) (ea_q h).1) (gd (vp_in (x3 + (2 : Int32)) (ea_q h).1) (Option.bind (qX11_inForce (((ea_q h).2 (Int32.toNatClampNeg (x3 + (1 : Int32)))) : Int32) (((ea_q h).2 (Int32.toNatClampNeg (x3 + (2 : Int32)))) : Int32) h) fun w183 => (gd (vp_in (x3 + (1 : Int32)) (ea_q w183.2).1) (gd (vp_in (x3 + (2 : Int32)) (ea_q w183.2).1) (Option.bind (qX12_inForce (((ea_q w183.2).2 (Int32.toNatClampNeg (x3 + (1 : Int32)))) : Int32) (((ea_q w183.2).2 (Int32.toNatClampNeg (x3 + (2 : Int32)))) : Int32) w183.2) fun w186 => (if w183.1 = w186.1 then (J18 ((x3 + (7 : Int32)) : Int32) w186.2) else (some ((0 : Int32), w186.2))))))))) else (if Int32.toInt (((ea_q h).2 (Int32.toNatClampNeg x3)) &&& (63 : Int32)) = 15 then (gd (vp_in (x3 + (1 : Int32)) (ea_q h).1) (gd (vp_in (x3 + (2 : Int32)) (ea_q h).1) (gd (vp_in (x3 + (3 : Int32)) (ea_q h).1) (gd (vp_in (x3 + (4 : Int32)) (ea_q h).1) (gd (vp_in (x3 + (5 : Int32)) (ea_q h).1) (gd (vp_in (x3 + (6 : Int32)) (ea_q h).1) (Option.bind (qX11_post (((ea_q h).2 (Int32.toNatClampNeg (x3 + (1 : Int32)))) : Int32) (((ea_q h).2 (Int32.toNatClampNeg (x3 + (2 : Int32)))) : Int32) (((ea_q h).2 (Int32.toNatClampNeg (x3 + (3 : Int32)))) : Int32) (((ea_q h).2 (Int32.toNatClampNeg (x3 + (4 : Int32)))) : Int32) (((ea_q h).2 (Int32.toNatClampNeg (x3 + (5 : Int32)))) : Int32) (((ea_q h).2 (Int32.toNatClampNeg (x3 + (6 : Int32)))) : Int32) h) fun w172 => (gd (vp_in (x3 + (1 : Int32)) (ea_q w172.2).1) (gd (vp_in (x3 + (2 : Int32)) (ea_q w172.2).1) (gd (vp_in (x3 + (3 : Int32)) (ea_q w172.2).1) (gd (vp_in (x3 + (4 : Int32)) (ea_q w172.2).1) (gd (vp_in (x3 + (5 : Int32)) (ea_q w172.2).1) (gd (vp_in (x3 + (6 : Int32)) (ea_q w172.2).1) (Option.bind (qX12_post (((ea_q w172.2).2 (Int32.toNatClampNeg (x3 + (1 : Int32)))) : Int32) (((ea_q w172.2).2 (Int32.toNatClampNeg (x3 + (2 : Int32)))) : Int32) (((ea_q w172.2).2 (Int32.toNatClampNeg (x3 + (3 : Int32)))) : Int32) (((ea_q w172.2).2 (Int32.toNatClampNeg (x3 + (4 : Int32)))) : Int32) (((ea_q w172.2).2 (Int32.toNatClampNeg (x3 + (5 : Int32)))) : Int32) (((ea_q w172.2).2 (Int32.toNatClampNeg (x3 + (6 : Int32)))) : Int32) w172.2) fun w179 => (if w172.1 = w179.1 then (J18 ((x3 + (7 : Int32)) : Int32) w179.2) else (some ((0 : Int32), w179.2))))))))))))))))) else (if Int32.toInt (((ea_q h).2 (Int32.toNatClampNeg x3)) &&& (63 : Int32)) = 16 then (gd (vp_in (x3 + (1 : Int32)) (ea_q h).1) (gd (vp_in (x3 + (2 : Int32)) (ea_q h).1) (Option.bind (qX11_of (((ea_q h).2 (Int32.toNatClampNeg (x3 + (1 : Int32)))) : Int32) (((ea_q h).2 (Int32.toNatClampNeg (x3 + (2 : Int32)))) : Int32) h) fun w161 => (gd (vp_in (x3 + (1 : Int32)) (ea_q w161.2).1) (gd (vp_in (x3 + (2 : Int32)) (ea_q w161.2).1) (Option.bind (qX12_of (((ea_q w161.2).2 (Int32.toNatClampNeg (x3 + (1 : Int32)))) : Int32) (((ea_q w161.2).2 (Int32.toNatClampNeg (x3 + (2 : Int32)))) : Int32) w161.2) fun w164 => (if w161.1 = w164.1 then (J18 ((x3 + (7 : Int32)) : Int32) w164.2) else (some ((0 : Int32), w164.2))))))))) else (if Int32.toInt (((ea_q h).2 (Int32.toNatClampNeg x3)) &&& (63 : Int32)) = 17 then (gd (vp_in (x3 + (1 : Int32)) (ea_q h).1) (gd (vp_in (x3 + (2 : Int32)) (ea_q h).1) (Option.bind (qX11_charge (((ea_q h).2 (Int32.toNatClampNeg (x3 + (1 : Int32)))) : Int32) (((ea_q h).2 (Int32.toNatClampNeg (x3 + (2 : Int32)))) : Int32) h) fun w154 => (gd (vp_in (x3 + (1 : Int32)) (ea_q w154.2).1) (gd (vp_in (x3 + (2 : Int32)) (ea_q w154.2).1) (Option.bind (qX12_charge (((ea_q w154.2).2 (Int32.toNatClampNeg (x3 + (1 : Int32)))) : Int32) (((ea_q w154.2).2 (Int32.toNatClampNeg (x3 + (2 : Int32)))) : Int32) w154.2) fun w157 => (if w154.1 = w157.1 then (J18 ((x3 + (7 : Int32)) : Int32) w157.2) else (some ((0 : Int32), w157.2))))))))) else (if Int32.toInt (((ea_q h).2 (Int32.toNatClampNeg x3)) &&& (63 : Int32)) = 18 then (gd (vp_in (x3 + (1 : Int32)) (ea_q h).1) (gd (vp_in (x3 + (2 : Int32)) (ea_q h).1) (gd (vp_in (x3 + (3 : Int32)) (ea_q h).1) (gd (vp_in (x3 + (4 : Int32)) (ea_q h).1) (Option.bind (qX11_way (((ea_q h).2 (Int32.toNatClampNeg (x3 + (1 : Int32)))) : Int32) (((ea_q h).2 (Int32.toNatClampNeg (x3 + (2 : Int32)))) : Int32) (((ea_q h).2 (Int32.toNatClampNeg (x3 + (3 : Int32)))) : Int32) (((ea_q h).2 (Int32.toNatClampNeg (x3 + (4 : Int32)))) : Int32) h) fun w145 => (gd (vp_in (x3 + (1 : Int32)) (ea_q w145.2).1) (gd (vp_in (x3 + (2 : Int32)) (ea_q w145.2).1) (gd (vp_in (x3 + (3 : Int32)) (ea_q w145.2).1) (gd (vp_in (x3 + (4 : Int32)) (ea_q w145.2).1) (Option.bind (qX12_way (((ea_q w145.2).2 (Int32.toNatClampNeg (x3 + (1 : Int32)))) : Int32) (((ea_q w145.2).2 (Int32.toNatClampNeg (x3 + (2 : Int32)))) : Int32) (((ea_q w145.2).2 (Int32.toNatClampNeg (x3 + (3 : Int32)))) : Int32) (((ea_q w145.2).2 (Int32.toNatClampNeg (x3 + (4 : Int32)))) : Int32) w145.2) fun w150 => (if w145.1 = w150.1 then (J18 ((x3 + (7 : Int32)) : Int32) w150.2) else (some ((0 : Int32), w150.2))))))))))))) else (if Int32.toInt (((ea_q h).2 (Int32.toNatClampNeg x3)) &&& (63 : Int32)) = 19 then (gd (vp_in (x3 + (1 : Int32)) (ea_q h).1) (gd (vp_in (x3 + (2 : Int32)) (ea_q h).1) (gd (vp_in (x3 + (3 : Int32)) (ea_q h).1) (Option.bind (qX11_lead (((ea_q h).2 (Int32.toNatClampNeg (x3 + (1 : Int32)))) : Int32) (((ea_q h).2 (Int32.toNatClampNeg (x3 + (2 : Int32)))) : Int32) (((ea_q h).2 (Int32.toNatClampNeg (x3 + (3 : Int32)))) : Int32) h) fun w135 => (gd (vp_in (x3 + (1 : Int32)) (ea_q w135.2).1) (gd (vp_in (x3 + (2 : Int32)) (ea_q w135.2).1) (gd (vp_in (x3 + (3 : Int32)) (ea_q w135.2).1) (Option.bind (qX12_lead (((ea_q w135.2).2 (Int32.toNatClampNeg (x3 + (1 : Int32)))) : Int32) (((ea_q w135.2).2 (Int32.toNatClampNeg (x3 + (2 : Int32)))) : Int32) (((ea_q w135.2).2 (Int32.toNatClampNeg (x3 + (3 : Int32)))) : Int32) w135.2) fun w139 => (if w135.1 = w139.1 then (J18 ((x3 + (7 : Int32)) : Int32) w139.2) else (some ((0 : Int32), w139.2))))))))))) else (if Int32.toInt (((ea_q h).2 (Int32.toNatClampNeg x3)) &&& (63 : Int32)) = 20 then (gd (vp_in (x3 + (1 : Int32)) (ea_q h).1) (gd (vp_in (x3 + (2 : Int32)) (ea_q h).1) (gd (vp_in (x3 + (3 : Int32)) (ea_q h).1) (Option.bind (qX11_where (((ea_q h).2 (Int32.toNatClampNeg (x3 + (1 : Int32)))) : Int32) (((ea_q h).2 (Int32.toNatClampNeg (x3 + (2 : Int32)))) : Int32) (((ea_q h).2 (Int32.toNatClampNeg (x3 + (3 : Int32)))) : Int32) h) fun w126 => (gd (vp_in (x3 + (1 : Int32)) (ea_q w126.2).1) (gd (vp_in (x3 + (2 : Int32)) (ea_q w126.2).1) (gd (vp_in (x3 + (3 : Int32)) (ea_q w126.2).1) (Option.bind (qX12_where (((ea_q w126.2).2 (Int32.toNatClampNeg (x3 + (1 : Int32)))) : Int32) (((ea_q w126.2).2 (Int32.toNatClampNeg (x3 + (2 : Int32)))) : Int32) (((ea_q w126.2).2 (Int32.toNatClampNeg (x3 + (3 : Int32)))) : Int32) w126.2) fun w130 => (if w126.1 = w130.1 then (J18 ((x3 + (7 : Int32)) : Int32) w130.2) else (some ((0 : Int32), w130.2))))))))))) else (if Int32.toInt (((ea_q h).2 (Int32.toNatClampNeg x3)) &&& (63 : Int32)) = 21 then (gd (vp_in (x3 + (1 : Int32)) (ea_q h).1) (gd (vp_in (x3 + (2 : Int32)) (ea_q h).1) (Option.bind (qX11_sorter (((ea_q h).2 (Int32.toNatClampNeg (x3 + (1 : Int32)))) : Int32) (((ea_q h).2 (Int32.toNatClampNeg (x3 + (2 : Int32)))) : Int32) h) fun w118 => (gd (vp_in (x3 + (1 : Int32)) (ea_q w118.2).1) (gd (vp_in (x3 + (2 : Int32)) (ea_q w118.2).1) (Option.bind (qX12_sorter (((ea_q w118.2).2 (Int32.toNatClampNeg (x3 + (1 : Int32)))) : Int32) (((ea_q w118.2).2 (Int32.toNatClampNeg (x3 + (2 : Int32)))) : Int32) w118.2) fun w121 => (if w118.1 = w121.1 then (J18 ((x3 + (7 : Int32)) : Int32) w121.2) else (some ((0 : Int32), w121.2))))))))) else (if Int32.toInt (((ea_q h).2 (Int32.toNatClampNeg x3)) &&& (63 : Int32)) = 22 then (gd (vp_in (x3 + (1 : Int32)) (ea_q h).1) (gd (vp_in (x3 + (2 : Int32)) (ea_q h).1) (Option.bind (qX11_seat (((ea_q h).2 (Int32.toNatClampNeg (x3 + (1 : Int32)))) : Int32) (((ea_q h).2 (Int32.toNatClampNeg (x3 + (2 : Int32)))) : Int32) h) fun w111 => (gd (vp_in (x3 + (1 : Int32)) (ea_q w111.2).1) (gd (vp_in (x3 + (2 : Int32)) (ea_q w111.2).1) (Option.bind (qX12_seat (((ea_q w111.2).2 (Int32.toNatClampNeg (x3 + (1 : Int32)))) : Int32) (((ea_q w111.2).2 (Int32.toNatClampNeg (x3 + (2 : Int32)))) : Int32) w111.2) fun w114 => (if w111.1 = w114.1 then (J18 ((x3 + (7 : Int32)) : Int32) w114.2) else (some ((0 : Int32), w114.2))))))))) else (if Int32.toInt (((ea_q h).2 (Int32.toNatClampNeg x3)) &&& (63 : Int32)) = 23 then (gd (vp_in (x3 + (1 : Int32)) (ea_q h).1) (gd (vp_in (x3 + (2 : Int32)) (ea_q h).1) (gd (vp_in (x3 + (3 : Int32)) (ea_q h).1) (Option.bind (qX11_run (((ea_q h).2 (Int32.toNatClampNeg (x3 + (1 : Int32)))) : Int32) (((ea_q h).2 (Int32.toNatClampNeg (x3 + (2 : Int32)))) : Int32) (((ea_q h).2 (Int32.toNatClampNeg (x3 + (3 : Int32)))) : Int32) h) fun w103 => (gd (vp_in (x3 + (1 : Int32)) (ea_q w103.2).1) (gd (vp_in (x3 + (2 : Int32)) (ea_q w103.2).1) (gd (vp_in (x3 + (3 : Int32)) (ea_q w103.2).1) (Option.bind (qX12_run_ (((ea_q w103.2).2 (Int32.toNatClampNeg (x3 + (1 : Int32)))) : Int32) (((ea_q w103.2).2 (Int32.toNatClampNeg (x3 + (2 : Int32)))) : Int32) (((ea_q w103.2).2 (Int32.toNatClampNeg (x3 + (3 : Int32)))) : Int32) w103.2) fun w107 => (if w103.1 = w107.1 then (J18 ((x3 + (7 : Int32)) : Int32) w107.2) else (some ((0 : Int32), w107.2))))))))))) else (if Int32.toInt (((ea_q h).2 (Int32.toNatClampNeg x3)) &&& (63 : Int32)) = 24 then (gd (vp_in (x3 + (1 : Int32)) (ea_q h).1) (gd (vp_in (x3 + (2 : Int32)) (ea_q h).1) (gd (vp_in (x3 + (3 : Int32)) (ea_q h).1) (Option.bind (qX11_account (((ea_q h).2 (Int32.toNatClampNeg (x3 + (1 : Int32)))) : Int32) (((ea_q h).2 (Int32.toNatClampNeg (x3 + (2 : Int32)))) : Int32) (((ea_q h).2 (Int32.toNatClampNeg (x3 + (3 : Int32)))) : Int32) h) fun w94 => (gd (vp_in (x3 + (1 : Int32)) (ea_q w94.2).1) (gd (vp_in (x3 + (2 : Int32)) (ea_q w94.2).1) (gd (vp_in (x3 + (3 : Int32)) (ea_q w94.2).1) (Option.bind (qX12_account (((ea_q w94.2).2 (Int32.toNatClampNeg (x3 + (1 : Int32)))) : Int32) (((ea_q w94.2).2 (Int32.toNatClampNeg (x3 + (2 : Int32)))) : Int32) (((ea_q w94.2).2 (Int32.toNatClampNeg (x3 + (3 : Int32)))) : Int32) w94.2) fun w98 => (if w94.1 = w98.1 then (J18 ((x3 + (7 : Int32)) : Int32) w98.2) else (some ((0 : Int32), w98.2))))))))))) else (if Int32.toInt (((ea_q h).2 (Int32.toNatClampNeg x3)) &&& (63 : Int32)) = 25 then (gd (vp_in (x3 + (1 : Int32)) (ea_q h).1) (Option.bind (qX11_nobody (((ea_q h).2 (Int32.toNatClampNeg (x3 + (1 : Int32)))) : Int32) h) fun w87 => (gd (vp_in (x3 + (1 : Int32)) (ea_q w87.2).1) (Option.bind (qX12_nobody (((ea_q w87.2).2 (Int32.toNatClampNeg (x3 + (1 : Int32)))) : Int32) w87.2) fun w89 => (if w87.1 = w89.1 then (J18 ((x3 + (7 : Int32)) : Int32) w89.2) else (some ((0 : Int32), w89.2))))))) else (if Int32.toInt (((ea_q h).2 (Int32.toNatClampNeg x3)) &&& (63 : Int32)) = 26 then (gd (vp_in (x3 + (1 : Int32)) (ea_q h).1) (gd (vp_in (x3 + (2 : Int32)) (ea_q h).1) (gd (vp_in (x3 + (3 : Int32)) (ea_q h).1) (Option.bind (qX11_place (((ea_q h).2 (Int32.toNatClampNeg (x3 + (1 : Int32)))) : Int32) (((ea_q h).2 (Int32.toNatClampNeg (x3 + (2 : Int32)))) : Int32) (((ea_q h).2 (Int32.toNatClampNeg (x3 + (3 : Int32)))) : Int32) h) fun w80 => (gd (vp_in (x3 + (1 : Int32)) (ea_q w80.2).1) (gd (vp_in (x3 + (2 : Int32)) (ea_q w80.2).1) (gd (vp_in (x3 + (3 : Int32)) (ea_q w80.2).1) (Option.bind (qX12_place (((ea_q w80.2).2 (Int32.toNatClampNeg (x3 + (1 : Int32)))) : Int32) (((ea_q w80.2).2 (Int32.toNatClampNeg (x3 + (2 : Int32)))) : Int32) (((ea_q w80.2).2 (Int32.toNatClampNeg (x3 + (3 : Int32)))) : Int32) w80.2) fun w84 => (if w80.1 = w84.1 then (J18 ((x3 + (7 : Int32)) : Int32) w84.2) else (some ((0 : Int32), w84.2))))))))))) else (if Int32.toInt (((ea_q h).2 (Int32.toNatClampNeg x3)) &&& (63 : Int32)) = 27 then (gd (vp_in (x3 + (1 : Int32)) (ea_q h).1) (gd (vp_in (x3 + (2 : Int32)) (ea_q h).1) (Option.bind (qX11_order (((ea_q h).2 (Int32.toNatClampNeg (x3 + (1 : Int32)))) : Int32) (((ea_q h).2 (Int32.toNatClampNeg (x3 + (2 : Int32)))) : Int32) h) fun w72 => (gd (vp_in (x3 + (1 : Int32)) (ea_q w72.2).1) (gd (vp_in (x3 + (2 : Int32)) (ea_q w72.2).1) (Option.bind (qX12_order (((ea_q w72.2).2 (Int32.toNatClampNeg (x3 + (1 : Int32)))) : Int32) (((ea_q w72.2).2 (Int32.toNatClampNeg (x3 + (2 : Int32)))) : Int32) w72.2) fun w75 => (if (lg_cmp w72.1 w75.1) = (0 : Int32) then (J18 ((x3 + (7 : Int32)) : Int32) w75.2) else (some ((0 : Int32), w75.2))))))))) else (if Int32.toInt (((ea_q h).2 (Int32.toNatClampNeg x3)) &&& (63 : Int32)) = 28 then (gd (vp_in (x3 + (1 : Int32)) (ea_q h).1) (gd (vp_in (x3 + (2 : Int32)) (ea_q h).1) (Option.bind (qX11_found (((ea_q h).2 (Int32.toNatClampNeg (x3 + (1 : Int32)))) : Int32) (((ea_q h).2 (Int32.toNatClampNeg (x3 + (2 : Int32)))) : Int32) h) fun w65 => (gd (vp_in (x3 + (1 : Int32)) (ea_q w65.2).1) (gd (vp_in (x3 + (2 : Int32)) (ea_q w65.2).1) (Option.bind (qX12_found (((ea_q w65.2).2 (Int32.toNatClampNeg (x3 + (1 : Int32)))) : Int32) (((ea_q w65.2).2 (Int32.toNatClampNeg (x3 + (2 : Int32)))) : Int32) w65.2) fun w68 => (if w65.1 = w68.1 then (J18 ((x3 + (7 : Int32)) : Int32) w68.2) else (some ((0 : Int32), w68.2))))))))) else (if Int32.toInt (((ea_q h).2 (Int32.toNatClampNeg x3)) &&& (63 : Int32)) = 29 then (gd (vp_in (x3 + (1 : Int32)) (ea_q h).1) (gd (vp_in (x3 + (2 : Int32)) (ea_q h).1) (Option.bind (qX11_rob (((ea_q h).2 (Int32.toNatClampNeg (x3 + (1 : Int32)))) : Int32) (((ea_q h).2 (Int32.toNatClampNeg (x3 + (2 : Int32)))) : Int32) h) fun w58 => (gd (vp_in (x3 + (1 : Int32)) (ea_q w58.2).1) (gd (vp_in (x3 + (2 : Int32)) (ea_q w58.2).1) (Option.bind (qX12_rob (((ea_q w58.2).2 (Int32.toNatClampNeg (x3 + (1 : Int32)))) : Int32) (((ea_q w58.2).2 (Int32.toNatClampNeg (x3 + (2 : Int32)))) : Int32) w58.2) fun w61 => (if w58.1 = w61.1 then (J18 ((x3 + (7 : Int32)) : Int32) w61.2) else (some ((0 : Int32), w61.2))))))))) else (if Int32.toInt (((ea_q h).2 (Int32.toNatClampNeg x3)) &&& (63 : Int32)) = 30 then (gd (vp_in (x3 + (1 : Int32)) (ea_q h).1) (gd (vp_in (x3 + (2 : Int32)) (ea_q h).1) (Option.bind (qX11_robbery (((ea_q h).2 (Int32.toNatClampNeg (x3 + (1 : Int32)))) : Int32) (((ea_q h).2 (Int32.toNatClampNeg (x3 + (2 : Int32)))) : Int32) h) fun w51 => (gd (vp_in (x3 + (1 : Int32)) (ea_q w51.2).1) (gd (vp_in (x3 + (2 : Int32)) (ea_q w51.2).1) (Option.bind (qX12_robbery (((ea_q w51.2).2 (Int32.toNatClampNeg (x3 + (1 : Int32)))) : Int32) (((ea_q w51.2).2 (Int32.toNatClampNeg (x3 + (2 : Int32)))) : Int32) w51.2) fun w54 => (if w51.1 = w54.1 then (J18 ((x3 + (7 : Int32)) : Int32) w54.2) else (some ((0 : Int32), w54.2))))))))) else (if Int32.toInt (((ea_q h).2 (Int32.toNatClampNeg x3)) &&& (63 : Int32)) = 31 then (gd (vp_in (x3 + (1 : Int32)) (ea_q h).1) (Option.bind (qX11_set (((ea_q h).2 (Int32.toNatClampNeg (x3 + (1 : Int32)))) : Int32) h) fun w45 => (gd (vp_in (x3 + (1 : Int32)) (ea_q w45.2).1) (Option.bind (qX12_set (((ea_q w45.2).2 (Int32.toNatClampNeg (x3 + (1 : Int32)))) : Int32) w45.2) fun w47 => (if w45.1 = w47.1 then (J18 ((x3 + (7 : Int32)) : Int32) w47.2) else (some ((0 : Int32), w47.2))))))) else (if Int32.toInt (((ea_q h).2 (Int32.toNatClampNeg x3)) &&& (63 : Int32)) = 32 then (gd (vp_in (x3 + (1 : Int32)) (ea_q h).1) (gd (vp_in (x3 + (2 : Int32)) (ea_q h).1) (Option.bind (qX11_seen (((ea_q h).2 (Int32.toNatClampNeg (x3 + (1 : Int32)))) : Int32) (((ea_q h).2 (Int32.toNatClampNeg (x3 + (2 : Int32)))) : Int32) h) fun w39 => (gd (vp_in (x3 + (1 : Int32)) (ea_q w39.2).1) (gd (vp_in (x3 + (2 : Int32)) (ea_q w39.2).1) (Option.bind (qX12_seen (((ea_q w39.2).2 (Int32.toNatClampNeg (x3 + (1 : Int32)))) : Int32) (((ea_q w39.2).2 (Int32.toNatClampNeg (x3 + (2 : Int32)))) : Int32) w39.2) fun w42 => (if w39.1 = w42.1 then (J18 ((x3 + (7 : Int32)) : Int32) w42.2) else (some ((0 : Int32), w42.2))))))))) else (if Int32.toInt (((ea_q h).2 (Int32.toNatClampNeg x3)) &&& (63 : Int32)) = 33 then (gd (vp_in (x3 + (1 : Int32)) (ea_q h).1) (gd (vp_in (x3 + (2 : Int32)) (ea_q h).1) (Option.bind (qX11_clock (((ea_q h).2 (Int32.toNatClampNeg (x3 + (1 : Int32)))) : Int32) (((ea_q h).2 (Int32.toNatClampNeg (x3 + (2 : Int32)))) : Int32) h) fun w32 => (gd (vp_in (x3 + (1 : Int32)) (ea_q w32.2).1) (gd (vp_in (x3 + (2 : Int32)) (ea_q w32.2).1) (Option.bind (qX12_clock (((ea_q w32.2).2 (Int32.toNatClampNeg (x3 + (1 : Int32)))) : Int32) (((ea_q w32.2).2 (Int32.toNatClampNeg (x3 + (2 : Int32)))) : Int32) w32.2) fun w35 => (if w32.1 = w35.1 then (J18 ((x3 + (7 : Int32)) : Int32) w35.2) else (some ((0 : Int32), w35.2))))))))) else (if Int32.toInt (((ea_q h).2 (Int32.toNatClampNeg x3)) &&& (63 : Int32)) = 34 then (gd (vp_in (x3 + (1 : Int32)) (ea_q h).1) (gd (vp_in (x3 + (2 : Int32)) (ea_q h).1) (gd (vp_in (x3 + (3 : Int32)) (ea_q h).1) (Option.bind (qX11_trueMinute (((ea_q h).2 (Int32.toNatClampNeg (x3 + (1 : Int32)))) : Int32) (((ea_q h).2 (Int32.toNatClampNeg (x3 + (2 : Int32)))) : Int32) (((ea_q h).2 (Int32.toNatClampNeg (x3 + (3 : Int32)))) : Int32) h) fun w24 => (gd (vp_in (x3 + (1 : Int32)) (ea_q w24.2).1) (gd (vp_in (x3 + (2 : Int32)) (ea_q w24.2).1) (gd (vp_in (x3 + (3 : Int32)) (ea_q w24.2).1) (Option.bind (qX12_trueMinute (((ea_q w24.2).2 (Int32.toNatClampNeg (x3 + (1 : Int32)))) : Int32) (((ea_q w24.2).2 (Int32.toNatClampNeg (x3 + (2 : Int32)))) : Int32) (((ea_q w24.2).2 (Int32.toNatClampNeg (x3 + (3 : Int32)))) : Int32) w24.2) fun w28 => (if w24.1 = w28.1 then (J18 ((x3 + (7 : Int32)) : Int32) w28.2) else (some ((0 : Int32), w28.2))))))))))) else (if Int32.toInt (((ea_q h).2 (Int32.toNatClampNeg x3)) &&& (63 : Int32)) = 35 then (gd (vp_in (x3 + (1 : Int32)) (ea_q h).1) (Option.bind (qX11_tried (((ea_q h).2 (Int32.toNatClampNeg (x3 + (1 : Int32)))) : Int32) h) fun w17 => (gd (vp_in (x3 + (1 : Int32)) (ea_q w17.2).1) (Option.bind (qX12_tried (((ea_q w17.2).2 (Int32.toNatClampNeg (x3 + (1 : Int32)))) : Int32) w17.2) fun w19 => (if (lg_cmp w17.1 w19.1) = (0 : Int32) then (J18 ((x3 + (7 : Int32)) : Int32) w19.2) else (some ((0 : Int32), w19.2))))))) else (if Int32.toInt (((ea_q h).2 (Int32.toNatClampNeg x3)) &&& (63 : Int32)) = 36 then (gd (vp_in (x3 + (1 : Int32)) (ea_q h).1) (gd (vp_in (x3 + (2 : Int32)) (ea_q h).1) (gd (vp_in (x3 + (3 : Int32)) (ea_q h).1) (Option.bind (qX11_whatIf (((ea_q h).2 (Int32.toNatClampNeg (x3 + (1 : Int32)))) : Int32) (((ea_q h).2 (Int32.toNatClampNeg (x3 + (2 : Int32)))) : Int32) (((ea_q h).2 (Int32.toNatClampNeg (x3 + (3 : Int32)))) : Int32) h) fun w10 => (gd (vp_in (x3 + (1 : Int32)) (ea_q w10.2).1) (gd (vp_in (x3 + (2 : Int32)) (ea_q w10.2).1) (gd (vp_in (x3 + (3 : Int32)) (ea_q w10.2).1) (Option.bind (qX12_whatIf (((ea_q w10.2).2 (Int32.toNatClampNeg (x3 + (1 : Int32)))) : Int32) (((ea_q w10.2).2 (Int32.toNatClampNeg (x3 + (2 : Int32)))) : Int32) (((ea_q w10.2).2 (Int32.toNatClampNeg (x3 + (3 : Int32)))) : Int32) w10.2) fun w14 => (if w10.1 = w14.1 then (J18 ((x3 + (7 : Int32)) : Int32) w14.2) else (some ((0 : Int32), w14.2))))))))))) else (if Int32.toInt (((ea_q h).2 (Int32.toNatClampNeg x3)) &&& (63 : Int32)) = 37 then (gd (vp_in (x3 + (1 : Int32)) (ea_q h).1) (Option.bind (qX11_seats (((ea_q h).2 (Int32.toNatClampNeg (x3 + (1 : Int32)))) : Int32) h) fun w3 => (gd (vp_in (x3 + (1 : Int32)) (ea_q w3.2).1) (Option.bind (qX12_seats (((ea_q w3.2).2 (Int32.toNatClampNeg (x3 + (1 : Int32)))) : Int32) w3.2) fun w5 => (if w3.1 = w5.1 then (J18 ((x3 + (7 : Int32)) : Int32) w5.2) else (some ((0 : Int32), w5.2))))))) else (J18 ((x3 + (7 : Int32)) : Int32) h)))))))))))))))))))))))))))))))))))))))))
set_option maxRecDepth 100000 in
set_option maxHeartbeats 0 in
theorem tBL_law_18 {d : Nat} {h0 : ea_H} (hd : 98 ≤ d) {J18 : Int32 → ea_H → Option (Int32 × ea_H)}  (kJ18 : ∀ (x3 : Int32) (h : ea_H) (r : Int32) (h' : ea_H), J18 x3 h = some (r, h') → ShL h → ea_W mL_law d h0 (some (vI r)) h' 18 [(0, vO 0), (1, vR (some 0)), (2, vR (some 326)), (3, vI x3)] [] h) {x3 : Int32} {h : ea_H} {r : Int32} {h' : ea_H} (E : BL_law_18 J18 x3 h = some (r, h')) (hs : ShL h) : ea_W mL_law d h0 (some (vI r)) h' 18 [(0, vO 0), (1, vR (some 0)), (2, vR (some 326)), (3, vI x3)] [] h := by
  unfold BL_law_18 at E
  refine ea_iload_n (pc := 18) dL_law_18 rfl 3 rfl ?_
  refine ea_aload_nO (pc := 19) dL_law_19 rfl 0 rfl ?_
  refine ea_slen (pc := 20) dL_law_20 ?_
  refine ea_bipush (pc := 21) dL_law_21 (v := 7) rfl ?_
  refine ea_isub (pc := 23) dL_law_23 ?_
  refine ea_icmp_gt (pc := 24) (tgt := 1580) dL_law_24 rfl (fun c303 => ?_) (fun c303 => ?_)
  · have E := (if_pos c303).symm.trans E
    refine ea_iconst (pc := 1580) dL_law_1580 (v := 1) rfl ?_
    exact ea_iretO (pc := 1581) dL_law_1581 rfl (ea_bn (Or.inr rfl)) E
  · have E := (if_neg c303).symm.trans E
    obtain ⟨z1, E⟩ := gd_some E
    refine ea_aload_nO (pc := 27) dL_law_27 rfl 0 rfl ?_
    refine ea_iload_n (pc := 28) dL_law_28 rfl 3 rfl ?_
    refine ea_sld (pc := 29) dL_law_29 z1 ?_
    refine ea_bipush (pc := 30) dL_law_30 (v := 63) rfl ?_
    refine ea_iand (pc := 32) dL_law_32 ?_
    by_cases q33_0 : Int32.toInt (((ea_q h).2 (Int32.toNatClampNeg x3)) &&& (63 : Int32)) = 0
    · have E := (if_pos q33_0).symm.trans E
      obtain ⟨w300, Ew300, E⟩ := bd_some E
      have hsw300 : ShL w300.2 := ShL_core ((kpX11_town _) _ Ew300) hs
      refine ea_tswIn (pc := 33) (tgt := 200) dL_law_33 (by rw [q33_0]; decide) (by rw [q33_0]; decide) (by rw [q33_0]; rfl) rfl ?_
      refine ea_aload_n (pc := 200) dL_law_200 rfl 1 rfl ?_
      refine ea_callV (pc := 201) (d' := d - 1) (As := []) (st := []) dL_law_201 kX11_town (sX11_town (d := d - 1) (by omega) (hs).1 Ew300) (by omega) rfl (Nat.le_of_ble_eq_true rfl) ew_672 ew_673 ew_674 (ci := 11) rfl (by decide) (cShL_0 hs).1 (cShL_0 hs).2.1 ?_
      obtain ⟨w301, Ew301, E⟩ := bd_some E
      have hsw301 : ShL w301.2 := ShL_core ((kpX12_town _) _ Ew301) hsw300
      refine ea_aload_n (pc := 204) dL_law_204 rfl 2 rfl ?_
      refine ea_callV (pc := 205) (d' := d - 1) (As := []) (st := [vI w300.1]) dL_law_205 kX12_town (sX12_town (d := d - 1) (by omega) (hsw300).2 Ew301) (by omega) rfl (Nat.le_of_ble_eq_true rfl) ew_1757 ew_1758 ew_1759 (ci := 12) rfl (by decide) (cShL_326 hsw300).1 (cShL_326 hsw300).2.1 ?_
      refine ea_icmp_eq (pc := 208) (tgt := 1574) dL_law_208 rfl (fun c302 => ?_) (fun c302 => ?_)
      · have E := (if_pos c302).symm.trans E
        refine ea_iinc (pc := 1574) (v := 7) (lv' := [(0, vO 0), (1, vR (some 0)), (2, vR (some 326)), (3, vI (x3 + (7 : Int32)))]) dL_law_1574 3 rfl rfl (Nat.le_of_ble_eq_true rfl) [1, 2, 3, 0] rfl ?_
        refine ea_goto (pc := 1577) (tgt := 18) dL_law_1577 rfl ?_
        exact (kJ18 ((x3 + (7 : Int32)) : Int32) w301.2 _ _ E hsw301)
      · have E := (if_neg c302).symm.trans E
        refine ea_iconst (pc := 211) dL_law_211 (v := 0) rfl ?_
        exact ea_iretO (pc := 212) dL_law_212 rfl (ea_bn (Or.inl rfl)) E
    have E := (if_neg q33_0).symm.trans E
    by_cases q33_1 : Int32.toInt (((ea_q h).2 (Int32.toNatClampNeg x3)) &&& (63 : Int32)) = 1
    · have E := (if_pos q33_1).symm.trans E
      obtain ⟨z291, E⟩ := gd_some E
      refine ea_tswIn (pc := 33) (tgt := 213) dL_law_33 (by rw [q33_1]; decide) (by rw [q33_1]; decide) (by rw [q33_1]; rfl) rfl ?_
      refine ea_aload_n (pc := 213) dL_law_213 rfl 1 rfl ?_
      refine ea_aload_nO (pc := 214) dL_law_214 rfl 0 rfl ?_
      refine ea_iload_n (pc := 215) dL_law_215 rfl 3 rfl ?_
      refine ea_iconst (pc := 216) dL_law_216 (v := 1) rfl ?_
      refine ea_iadd (pc := 217) dL_law_217 ?_
      obtain ⟨z292, E⟩ := gd_some E
      refine ea_sld (pc := 218) dL_law_218 z291 ?_
      refine ea_aload_nO (pc := 219) dL_law_219 rfl 0 rfl ?_
      refine ea_iload_n (pc := 220) dL_law_220 rfl 3 rfl ?_
      refine ea_iconst (pc := 221) dL_law_221 (v := 2) rfl ?_
      refine ea_iadd (pc := 222) dL_law_222 ?_
      obtain ⟨z293, E⟩ := gd_some E
      refine ea_sld (pc := 223) dL_law_223 z292 ?_
      refine ea_aload_nO (pc := 224) dL_law_224 rfl 0 rfl ?_
      refine ea_iload_n (pc := 225) dL_law_225 rfl 3 rfl ?_
      refine ea_iconst (pc := 226) dL_law_226 (v := 3) rfl ?_
      refine ea_iadd (pc := 227) dL_law_227 ?_
      obtain ⟨w294, Ew294, E⟩ := bd_some E
      have hsw294 : ShL w294.2 := ShL_core ((kpX11_road _ _ _ _) _ Ew294) hs
      refine ea_sld (pc := 228) dL_law_228 z293 ?_
      refine ea_callV (pc := 229) (d' := d - 1) (As := [vI ((ea_q h).2 (Int32.toNatClampNeg (x3 + (1 : Int32)))), vI ((ea_q h).2 (Int32.toNatClampNeg (x3 + (2 : Int32)))), vI ((ea_q h).2 (Int32.toNatClampNeg (x3 + (3 : Int32))))]) (st := []) dL_law_229 kX11_road (sX11_road (d := d - 1) (by omega) (hs).1 Ew294) (by omega) rfl (Nat.le_of_ble_eq_true rfl) ew_676 ew_677 ew_678 (ci := 11) rfl (by decide) (cShL_0 hs).1 (cShL_0 hs).2.1 ?_
      obtain ⟨z295, E⟩ := gd_some E
      refine ea_aload_n (pc := 232) dL_law_232 rfl 2 rfl ?_
      refine ea_aload_nO (pc := 233) dL_law_233 rfl 0 rfl ?_
      refine ea_iload_n (pc := 234) dL_law_234 rfl 3 rfl ?_
      refine ea_iconst (pc := 235) dL_law_235 (v := 1) rfl ?_
      refine ea_iadd (pc := 236) dL_law_236 ?_
      obtain ⟨z296, E⟩ := gd_some E
      refine ea_sld (pc := 237) dL_law_237 z295 ?_
      refine ea_aload_nO (pc := 238) dL_law_238 rfl 0 rfl ?_
      refine ea_iload_n (pc := 239) dL_law_239 rfl 3 rfl ?_
      refine ea_iconst (pc := 240) dL_law_240 (v := 2) rfl ?_
      refine ea_iadd (pc := 241) dL_law_241 ?_
      obtain ⟨z297, E⟩ := gd_some E
      refine ea_sld (pc := 242) dL_law_242 z296 ?_
      refine ea_aload_nO (pc := 243) dL_law_243 rfl 0 rfl ?_
      refine ea_iload_n (pc := 244) dL_law_244 rfl 3 rfl ?_
      refine ea_iconst (pc := 245) dL_law_245 (v := 3) rfl ?_
      refine ea_iadd (pc := 246) dL_law_246 ?_
      obtain ⟨w298, Ew298, E⟩ := bd_some E
      have hsw298 : ShL w298.2 := ShL_core ((kpX12_road _ _ _ _) _ Ew298) hsw294
      refine ea_sld (pc := 247) dL_law_247 z297 ?_
      refine ea_callV (pc := 248) (d' := d - 1) (As := [vI ((ea_q w294.2).2 (Int32.toNatClampNeg (x3 + (1 : Int32)))), vI ((ea_q w294.2).2 (Int32.toNatClampNeg (x3 + (2 : Int32)))), vI ((ea_q w294.2).2 (Int32.toNatClampNeg (x3 + (3 : Int32))))]) (st := [vI w294.1]) dL_law_248 kX12_road (sX12_road (d := d - 1) (by omega) (hsw294).2 Ew298) (by omega) rfl (Nat.le_of_ble_eq_true rfl) ew_1761 ew_1762 ew_1763 (ci := 12) rfl (by decide) (cShL_326 hsw294).1 (cShL_326 hsw294).2.1 ?_
      refine ea_icmp_eq (pc := 251) (tgt := 1574) dL_law_251 rfl (fun c299 => ?_) (fun c299 => ?_)
      · have E := (if_pos c299).symm.trans E
        refine ea_iinc (pc := 1574) (v := 7) (lv' := [(0, vO 0), (1, vR (some 0)), (2, vR (some 326)), (3, vI (x3 + (7 : Int32)))]) dL_law_1574 3 rfl rfl (Nat.le_of_ble_eq_true rfl) [1, 2, 3, 0] rfl ?_
        refine ea_goto (pc := 1577) (tgt := 18) dL_law_1577 rfl ?_
        exact (kJ18 ((x3 + (7 : Int32)) : Int32) w298.2 _ _ E hsw298)
      · have E := (if_neg c299).symm.trans E
        refine ea_iconst (pc := 254) dL_law_254 (v := 0) rfl ?_
        exact ea_iretO (pc := 255) dL_law_255 rfl (ea_bn (Or.inl rfl)) E
    have E := (if_neg q33_1).symm.trans E
    by_cases q33_2 : Int32.toInt (((ea_q h).2 (Int32.toNatClampNeg x3)) &&& (63 : Int32)) = 2
    · have E := (if_pos q33_2).symm.trans E
      obtain ⟨z284, E⟩ := gd_some E
      refine ea_tswIn (pc := 33) (tgt := 256) dL_law_33 (by rw [q33_2]; decide) (by rw [q33_2]; decide) (by rw [q33_2]; rfl) rfl ?_
      refine ea_aload_n (pc := 256) dL_law_256 rfl 1 rfl ?_
      refine ea_aload_nO (pc := 257) dL_law_257 rfl 0 rfl ?_
      refine ea_iload_n (pc := 258) dL_law_258 rfl 3 rfl ?_
      refine ea_iconst (pc := 259) dL_law_259 (v := 1) rfl ?_
      refine ea_iadd (pc := 260) dL_law_260 ?_
      obtain ⟨z285, E⟩ := gd_some E
      refine ea_sld (pc := 261) dL_law_261 z284 ?_
      refine ea_aload_nO (pc := 262) dL_law_262 rfl 0 rfl ?_
      refine ea_iload_n (pc := 263) dL_law_263 rfl 3 rfl ?_
      refine ea_iconst (pc := 264) dL_law_264 (v := 2) rfl ?_
      refine ea_iadd (pc := 265) dL_law_265 ?_
      obtain ⟨w286, Ew286, E⟩ := bd_some E
      have hsw286 : ShL w286.2 := ShL_core ((kpX11_miles _ _ _) _ Ew286) hs
      refine ea_sld (pc := 266) dL_law_266 z285 ?_
      refine ea_callV (pc := 267) (d' := d - 1) (As := [vI ((ea_q h).2 (Int32.toNatClampNeg (x3 + (1 : Int32)))), vI ((ea_q h).2 (Int32.toNatClampNeg (x3 + (2 : Int32))))]) (st := []) dL_law_267 kX11_miles (sX11_miles (d := d - 1) (by omega) (hs).1 Ew286) (by omega) rfl (Nat.le_of_ble_eq_true rfl) ew_688 ew_689 ew_690 (ci := 11) rfl (by decide) (cShL_0 hs).1 (cShL_0 hs).2.1 ?_
      obtain ⟨z287, E⟩ := gd_some E
      refine ea_aload_n (pc := 270) dL_law_270 rfl 2 rfl ?_
      refine ea_aload_nO (pc := 271) dL_law_271 rfl 0 rfl ?_
      refine ea_iload_n (pc := 272) dL_law_272 rfl 3 rfl ?_
      refine ea_iconst (pc := 273) dL_law_273 (v := 1) rfl ?_
      refine ea_iadd (pc := 274) dL_law_274 ?_
      obtain ⟨z288, E⟩ := gd_some E
      refine ea_sld (pc := 275) dL_law_275 z287 ?_
      refine ea_aload_nO (pc := 276) dL_law_276 rfl 0 rfl ?_
      refine ea_iload_n (pc := 277) dL_law_277 rfl 3 rfl ?_
      refine ea_iconst (pc := 278) dL_law_278 (v := 2) rfl ?_
      refine ea_iadd (pc := 279) dL_law_279 ?_
      obtain ⟨w289, Ew289, E⟩ := bd_some E
      have hsw289 : ShL w289.2 := ShL_core ((kpX12_miles _ _ _) _ Ew289) hsw286
      refine ea_sld (pc := 280) dL_law_280 z288 ?_
      refine ea_callV (pc := 281) (d' := d - 1) (As := [vI ((ea_q w286.2).2 (Int32.toNatClampNeg (x3 + (1 : Int32)))), vI ((ea_q w286.2).2 (Int32.toNatClampNeg (x3 + (2 : Int32))))]) (st := [vI w286.1]) dL_law_281 kX12_miles (sX12_miles (d := d - 1) (by omega) (hsw286).2 Ew289) (by omega) rfl (Nat.le_of_ble_eq_true rfl) ew_1772 ew_1773 ew_1774 (ci := 12) rfl (by decide) (cShL_326 hsw286).1 (cShL_326 hsw286).2.1 ?_
      refine ea_icmp_eq (pc := 284) (tgt := 1574) dL_law_284 rfl (fun c290 => ?_) (fun c290 => ?_)
      · have E := (if_pos c290).symm.trans E
        refine ea_iinc (pc := 1574) (v := 7) (lv' := [(0, vO 0), (1, vR (some 0)), (2, vR (some 326)), (3, vI (x3 + (7 : Int32)))]) dL_law_1574 3 rfl rfl (Nat.le_of_ble_eq_true rfl) [1, 2, 3, 0] rfl ?_
        refine ea_goto (pc := 1577) (tgt := 18) dL_law_1577 rfl ?_
        exact (kJ18 ((x3 + (7 : Int32)) : Int32) w289.2 _ _ E hsw289)
      · have E := (if_neg c290).symm.trans E
        refine ea_iconst (pc := 287) dL_law_287 (v := 0) rfl ?_
        exact ea_iretO (pc := 288) dL_law_288 rfl (ea_bn (Or.inl rfl)) E
    have E := (if_neg q33_2).symm.trans E
    by_cases q33_3 : Int32.toInt (((ea_q h).2 (Int32.toNatClampNeg x3)) &&& (63 : Int32)) = 3
    · have E := (if_pos q33_3).symm.trans E
      obtain ⟨w281, Ew281, E⟩ := bd_some E
      have hsw281 : ShL w281.2 := ShL_core ((kpX11_train _) _ Ew281) hs
      refine ea_tswIn (pc := 33) (tgt := 289) dL_law_33 (by rw [q33_3]; decide) (by rw [q33_3]; decide) (by rw [q33_3]; rfl) rfl ?_
      refine ea_aload_n (pc := 289) dL_law_289 rfl 1 rfl ?_
      refine ea_callV (pc := 290) (d' := d - 1) (As := []) (st := []) dL_law_290 kX11_train (sX11_train (d := d - 1) (by omega) (hs).1 Ew281) (by omega) rfl (Nat.le_of_ble_eq_true rfl) ew_696 ew_697 ew_698 (ci := 11) rfl (by decide) (cShL_0 hs).1 (cShL_0 hs).2.1 ?_
      obtain ⟨w282, Ew282, E⟩ := bd_some E
      have hsw282 : ShL w282.2 := ShL_core ((kpX12_train _) _ Ew282) hsw281
      refine ea_aload_n (pc := 293) dL_law_293 rfl 2 rfl ?_
      refine ea_callV (pc := 294) (d' := d - 1) (As := []) (st := [vI w281.1]) dL_law_294 kX12_train (sX12_train (d := d - 1) (by omega) (hsw281).2 Ew282) (by omega) rfl (Nat.le_of_ble_eq_true rfl) ew_1785 ew_1786 ew_1787 (ci := 12) rfl (by decide) (cShL_326 hsw281).1 (cShL_326 hsw281).2.1 ?_
      refine ea_icmp_eq (pc := 297) (tgt := 1574) dL_law_297 rfl (fun c283 => ?_) (fun c283 => ?_)
      · have E := (if_pos c283).symm.trans E
        refine ea_iinc (pc := 1574) (v := 7) (lv' := [(0, vO 0), (1, vR (some 0)), (2, vR (some 326)), (3, vI (x3 + (7 : Int32)))]) dL_law_1574 3 rfl rfl (Nat.le_of_ble_eq_true rfl) [1, 2, 3, 0] rfl ?_
        refine ea_goto (pc := 1577) (tgt := 18) dL_law_1577 rfl ?_
        exact (kJ18 ((x3 + (7 : Int32)) : Int32) w282.2 _ _ E hsw282)
      · have E := (if_neg c283).symm.trans E
        refine ea_iconst (pc := 300) dL_law_300 (v := 0) rfl ?_
        exact ea_iretO (pc := 301) dL_law_301 rfl (ea_bn (Or.inl rfl)) E
    have E := (if_neg q33_3).symm.trans E
    by_cases q33_4 : Int32.toInt (((ea_q h).2 (Int32.toNatClampNeg x3)) &&& (63 : Int32)) = 4
    · have E := (if_pos q33_4).symm.trans E
      obtain ⟨z253, E⟩ := gd_some E
      refine ea_tswIn (pc := 33) (tgt := 302) dL_law_33 (by rw [q33_4]; decide) (by rw [q33_4]; decide) (by rw [q33_4]; rfl) rfl ?_
      refine ea_aload_n (pc := 302) dL_law_302 rfl 1 rfl ?_
      refine ea_aload_nO (pc := 303) dL_law_303 rfl 0 rfl ?_
      refine ea_iload_n (pc := 304) dL_law_304 rfl 3 rfl ?_
      refine ea_iconst (pc := 305) dL_law_305 (v := 1) rfl ?_
      refine ea_iadd (pc := 306) dL_law_306 ?_
      obtain ⟨z254, E⟩ := gd_some E
      refine ea_sld (pc := 307) dL_law_307 z253 ?_
      refine ea_aload_nO (pc := 308) dL_law_308 rfl 0 rfl ?_
      refine ea_iload_n (pc := 309) dL_law_309 rfl 3 rfl ?_
      refine ea_iconst (pc := 310) dL_law_310 (v := 2) rfl ?_
      refine ea_iadd (pc := 311) dL_law_311 ?_
      obtain ⟨z255, E⟩ := gd_some E
      refine ea_sld (pc := 312) dL_law_312 z254 ?_
      refine ea_aload_nO (pc := 313) dL_law_313 rfl 0 rfl ?_
      refine ea_iload_n (pc := 314) dL_law_314 rfl 3 rfl ?_
      refine ea_iconst (pc := 315) dL_law_315 (v := 3) rfl ?_
      refine ea_iadd (pc := 316) dL_law_316 ?_
      obtain ⟨z256, E⟩ := gd_some E
      refine ea_sld (pc := 317) dL_law_317 z255 ?_
      refine ea_aload_nO (pc := 318) dL_law_318 rfl 0 rfl ?_
      refine ea_iload_n (pc := 319) dL_law_319 rfl 3 rfl ?_
      refine ea_iconst (pc := 320) dL_law_320 (v := 4) rfl ?_
      refine ea_iadd (pc := 321) dL_law_321 ?_
      obtain ⟨z257, E⟩ := gd_some E
      refine ea_sld (pc := 322) dL_law_322 z256 ?_
      refine ea_aload_nO (pc := 323) dL_law_323 rfl 0 rfl ?_
      refine ea_iload_n (pc := 324) dL_law_324 rfl 3 rfl ?_
      refine ea_iconst (pc := 325) dL_law_325 (v := 5) rfl ?_
      refine ea_iadd (pc := 326) dL_law_326 ?_
      refine ea_sld (pc := 327) dL_law_327 z257 ?_
      refine ea_if_eq (pc := 328) (tgt := 335) dL_law_328 rfl (fun c280 => ?_) (fun c280 => ?_)
      · have E := (if_pos c280).symm.trans E
        obtain ⟨w258, Ew258, E⟩ := bd_some E
        have hsw258 : ShL w258.2 := ShL_core ((kpX11_stop _ _ _ _ _ _) _ Ew258) hs
        refine ea_iconst (pc := 335) dL_law_335 (v := 0) rfl ?_
        refine ea_callV (pc := 336) (d' := d - 1) (As := [vI ((ea_q h).2 (Int32.toNatClampNeg (x3 + (1 : Int32)))), vI ((ea_q h).2 (Int32.toNatClampNeg (x3 + (2 : Int32)))), vI ((ea_q h).2 (Int32.toNatClampNeg (x3 + (3 : Int32)))), vI ((ea_q h).2 (Int32.toNatClampNeg (x3 + (4 : Int32)))), vI 0]) (st := []) dL_law_336 kX11_stop (sX11_stop (d := d - 1) (by omega) (hs).1 Ew258) (by omega) rfl (Nat.le_of_ble_eq_true rfl) ew_700 ew_701 ew_702 (ci := 11) rfl (by decide) (cShL_0 hs).1 (cShL_0 hs).2.1 ?_
        obtain ⟨z259, E⟩ := gd_some E
        refine ea_aload_n (pc := 339) dL_law_339 rfl 2 rfl ?_
        refine ea_aload_nO (pc := 340) dL_law_340 rfl 0 rfl ?_
        refine ea_iload_n (pc := 341) dL_law_341 rfl 3 rfl ?_
        refine ea_iconst (pc := 342) dL_law_342 (v := 1) rfl ?_
        refine ea_iadd (pc := 343) dL_law_343 ?_
        obtain ⟨z260, E⟩ := gd_some E
        refine ea_sld (pc := 344) dL_law_344 z259 ?_
        refine ea_aload_nO (pc := 345) dL_law_345 rfl 0 rfl ?_
        refine ea_iload_n (pc := 346) dL_law_346 rfl 3 rfl ?_
        refine ea_iconst (pc := 347) dL_law_347 (v := 2) rfl ?_
        refine ea_iadd (pc := 348) dL_law_348 ?_
        obtain ⟨z261, E⟩ := gd_some E
        refine ea_sld (pc := 349) dL_law_349 z260 ?_
        refine ea_aload_nO (pc := 350) dL_law_350 rfl 0 rfl ?_
        refine ea_iload_n (pc := 351) dL_law_351 rfl 3 rfl ?_
        refine ea_iconst (pc := 352) dL_law_352 (v := 3) rfl ?_
        refine ea_iadd (pc := 353) dL_law_353 ?_
        obtain ⟨z262, E⟩ := gd_some E
        refine ea_sld (pc := 354) dL_law_354 z261 ?_
        refine ea_aload_nO (pc := 355) dL_law_355 rfl 0 rfl ?_
        refine ea_iload_n (pc := 356) dL_law_356 rfl 3 rfl ?_
        refine ea_iconst (pc := 357) dL_law_357 (v := 4) rfl ?_
        refine ea_iadd (pc := 358) dL_law_358 ?_
        obtain ⟨z263, E⟩ := gd_some E
        refine ea_sld (pc := 359) dL_law_359 z262 ?_
        refine ea_aload_nO (pc := 360) dL_law_360 rfl 0 rfl ?_
        refine ea_iload_n (pc := 361) dL_law_361 rfl 3 rfl ?_
        refine ea_iconst (pc := 362) dL_law_362 (v := 5) rfl ?_
        refine ea_iadd (pc := 363) dL_law_363 ?_
        refine ea_sld (pc := 364) dL_law_364 z263 ?_
        refine ea_if_eq (pc := 365) (tgt := 372) dL_law_365 rfl (fun c268 => ?_) (fun c268 => ?_)
        · have E := (if_pos c268).symm.trans E
          obtain ⟨w264, Ew264, E⟩ := bd_some E
          have hsw264 : ShL w264.2 := ShL_core ((kpX12_stop _ _ _ _ _ _) _ Ew264) hsw258
          refine ea_iconst (pc := 372) dL_law_372 (v := 0) rfl ?_
          refine ea_callV (pc := 373) (d' := d - 1) (As := [vI ((ea_q w258.2).2 (Int32.toNatClampNeg (x3 + (1 : Int32)))), vI ((ea_q w258.2).2 (Int32.toNatClampNeg (x3 + (2 : Int32)))), vI ((ea_q w258.2).2 (Int32.toNatClampNeg (x3 + (3 : Int32)))), vI ((ea_q w258.2).2 (Int32.toNatClampNeg (x3 + (4 : Int32)))), vI 0]) (st := [vI w258.1]) dL_law_373 kX12_stop (sX12_stop (d := d - 1) (by omega) (hsw258).2 Ew264) (by omega) rfl (Nat.le_of_ble_eq_true rfl) ew_1789 ew_1790 ew_1791 (ci := 12) rfl (by decide) (cShL_326 hsw258).1 (cShL_326 hsw258).2.1 ?_
          refine ea_icmp_eq (pc := 376) (tgt := 1574) dL_law_376 rfl (fun c265 => ?_) (fun c265 => ?_)
          · have E := (if_pos c265).symm.trans E
            refine ea_iinc (pc := 1574) (v := 7) (lv' := [(0, vO 0), (1, vR (some 0)), (2, vR (some 326)), (3, vI (x3 + (7 : Int32)))]) dL_law_1574 3 rfl rfl (Nat.le_of_ble_eq_true rfl) [1, 2, 3, 0] rfl ?_
            refine ea_goto (pc := 1577) (tgt := 18) dL_law_1577 rfl ?_
            exact (kJ18 ((x3 + (7 : Int32)) : Int32) w264.2 _ _ E hsw264)
          · have E := (if_neg c265).symm.trans E
            refine ea_iconst (pc := 379) dL_law_379 (v := 0) rfl ?_
            exact ea_iretO (pc := 380) dL_law_380 rfl (ea_bn (Or.inl rfl)) E
        · have E := (if_neg c268).symm.trans E
          obtain ⟨w266, Ew266, E⟩ := bd_some E
          have hsw266 : ShL w266.2 := ShL_core ((kpX12_stop _ _ _ _ _ _) _ Ew266) hsw258
          refine ea_iconst (pc := 368) dL_law_368 (v := 1) rfl ?_
          refine ea_goto (pc := 369) (tgt := 373) dL_law_369 rfl ?_
          refine ea_callV (pc := 373) (d' := d - 1) (As := [vI ((ea_q w258.2).2 (Int32.toNatClampNeg (x3 + (1 : Int32)))), vI ((ea_q w258.2).2 (Int32.toNatClampNeg (x3 + (2 : Int32)))), vI ((ea_q w258.2).2 (Int32.toNatClampNeg (x3 + (3 : Int32)))), vI ((ea_q w258.2).2 (Int32.toNatClampNeg (x3 + (4 : Int32)))), vI 1]) (st := [vI w258.1]) dL_law_373 kX12_stop (sX12_stop (d := d - 1) (by omega) (hsw258).2 Ew266) (by omega) rfl (Nat.le_of_ble_eq_true rfl) ew_1789 ew_1790 ew_1791 (ci := 12) rfl (by decide) (cShL_326 hsw258).1 (cShL_326 hsw258).2.1 ?_
          refine ea_icmp_eq (pc := 376) (tgt := 1574) dL_law_376 rfl (fun c267 => ?_) (fun c267 => ?_)
          · have E := (if_pos c267).symm.trans E
            refine ea_iinc (pc := 1574) (v := 7) (lv' := [(0, vO 0), (1, vR (some 0)), (2, vR (some 326)), (3, vI (x3 + (7 : Int32)))]) dL_law_1574 3 rfl rfl (Nat.le_of_ble_eq_true rfl) [1, 2, 3, 0] rfl ?_
            refine ea_goto (pc := 1577) (tgt := 18) dL_law_1577 rfl ?_
            exact (kJ18 ((x3 + (7 : Int32)) : Int32) w266.2 _ _ E hsw266)
          · have E := (if_neg c267).symm.trans E
            refine ea_iconst (pc := 379) dL_law_379 (v := 0) rfl ?_
            exact ea_iretO (pc := 380) dL_law_380 rfl (ea_bn (Or.inl rfl)) E
      · have E := (if_neg c280).symm.trans E
        obtain ⟨w269, Ew269, E⟩ := bd_some E
        have hsw269 : ShL w269.2 := ShL_core ((kpX11_stop _ _ _ _ _ _) _ Ew269) hs
        refine ea_iconst (pc := 331) dL_law_331 (v := 1) rfl ?_
        refine ea_goto (pc := 332) (tgt := 336) dL_law_332 rfl ?_
        refine ea_callV (pc := 336) (d' := d - 1) (As := [vI ((ea_q h).2 (Int32.toNatClampNeg (x3 + (1 : Int32)))), vI ((ea_q h).2 (Int32.toNatClampNeg (x3 + (2 : Int32)))), vI ((ea_q h).2 (Int32.toNatClampNeg (x3 + (3 : Int32)))), vI ((ea_q h).2 (Int32.toNatClampNeg (x3 + (4 : Int32)))), vI 1]) (st := []) dL_law_336 kX11_stop (sX11_stop (d := d - 1) (by omega) (hs).1 Ew269) (by omega) rfl (Nat.le_of_ble_eq_true rfl) ew_700 ew_701 ew_702 (ci := 11) rfl (by decide) (cShL_0 hs).1 (cShL_0 hs).2.1 ?_
        obtain ⟨z270, E⟩ := gd_some E
        refine ea_aload_n (pc := 339) dL_law_339 rfl 2 rfl ?_
        refine ea_aload_nO (pc := 340) dL_law_340 rfl 0 rfl ?_
        refine ea_iload_n (pc := 341) dL_law_341 rfl 3 rfl ?_
        refine ea_iconst (pc := 342) dL_law_342 (v := 1) rfl ?_
        refine ea_iadd (pc := 343) dL_law_343 ?_
        obtain ⟨z271, E⟩ := gd_some E
        refine ea_sld (pc := 344) dL_law_344 z270 ?_
        refine ea_aload_nO (pc := 345) dL_law_345 rfl 0 rfl ?_
        refine ea_iload_n (pc := 346) dL_law_346 rfl 3 rfl ?_
        refine ea_iconst (pc := 347) dL_law_347 (v := 2) rfl ?_
        refine ea_iadd (pc := 348) dL_law_348 ?_
        obtain ⟨z272, E⟩ := gd_some E
        refine ea_sld (pc := 349) dL_law_349 z271 ?_
        refine ea_aload_nO (pc := 350) dL_law_350 rfl 0 rfl ?_
        refine ea_iload_n (pc := 351) dL_law_351 rfl 3 rfl ?_
        refine ea_iconst (pc := 352) dL_law_352 (v := 3) rfl ?_
        refine ea_iadd (pc := 353) dL_law_353 ?_
        obtain ⟨z273, E⟩ := gd_some E
        refine ea_sld (pc := 354) dL_law_354 z272 ?_
        refine ea_aload_nO (pc := 355) dL_law_355 rfl 0 rfl ?_
        refine ea_iload_n (pc := 356) dL_law_356 rfl 3 rfl ?_
        refine ea_iconst (pc := 357) dL_law_357 (v := 4) rfl ?_
        refine ea_iadd (pc := 358) dL_law_358 ?_
        obtain ⟨z274, E⟩ := gd_some E
        refine ea_sld (pc := 359) dL_law_359 z273 ?_
        refine ea_aload_nO (pc := 360) dL_law_360 rfl 0 rfl ?_
        refine ea_iload_n (pc := 361) dL_law_361 rfl 3 rfl ?_
        refine ea_iconst (pc := 362) dL_law_362 (v := 5) rfl ?_
        refine ea_iadd (pc := 363) dL_law_363 ?_
        refine ea_sld (pc := 364) dL_law_364 z274 ?_
        refine ea_if_eq (pc := 365) (tgt := 372) dL_law_365 rfl (fun c279 => ?_) (fun c279 => ?_)
        · have E := (if_pos c279).symm.trans E
          obtain ⟨w275, Ew275, E⟩ := bd_some E
          have hsw275 : ShL w275.2 := ShL_core ((kpX12_stop _ _ _ _ _ _) _ Ew275) hsw269
          refine ea_iconst (pc := 372) dL_law_372 (v := 0) rfl ?_
          refine ea_callV (pc := 373) (d' := d - 1) (As := [vI ((ea_q w269.2).2 (Int32.toNatClampNeg (x3 + (1 : Int32)))), vI ((ea_q w269.2).2 (Int32.toNatClampNeg (x3 + (2 : Int32)))), vI ((ea_q w269.2).2 (Int32.toNatClampNeg (x3 + (3 : Int32)))), vI ((ea_q w269.2).2 (Int32.toNatClampNeg (x3 + (4 : Int32)))), vI 0]) (st := [vI w269.1]) dL_law_373 kX12_stop (sX12_stop (d := d - 1) (by omega) (hsw269).2 Ew275) (by omega) rfl (Nat.le_of_ble_eq_true rfl) ew_1789 ew_1790 ew_1791 (ci := 12) rfl (by decide) (cShL_326 hsw269).1 (cShL_326 hsw269).2.1 ?_
          refine ea_icmp_eq (pc := 376) (tgt := 1574) dL_law_376 rfl (fun c276 => ?_) (fun c276 => ?_)
          · have E := (if_pos c276).symm.trans E
            refine ea_iinc (pc := 1574) (v := 7) (lv' := [(0, vO 0), (1, vR (some 0)), (2, vR (some 326)), (3, vI (x3 + (7 : Int32)))]) dL_law_1574 3 rfl rfl (Nat.le_of_ble_eq_true rfl) [1, 2, 3, 0] rfl ?_
            refine ea_goto (pc := 1577) (tgt := 18) dL_law_1577 rfl ?_
            exact (kJ18 ((x3 + (7 : Int32)) : Int32) w275.2 _ _ E hsw275)
          · have E := (if_neg c276).symm.trans E
            refine ea_iconst (pc := 379) dL_law_379 (v := 0) rfl ?_
            exact ea_iretO (pc := 380) dL_law_380 rfl (ea_bn (Or.inl rfl)) E
        · have E := (if_neg c279).symm.trans E
          obtain ⟨w277, Ew277, E⟩ := bd_some E
          have hsw277 : ShL w277.2 := ShL_core ((kpX12_stop _ _ _ _ _ _) _ Ew277) hsw269
          refine ea_iconst (pc := 368) dL_law_368 (v := 1) rfl ?_
          refine ea_goto (pc := 369) (tgt := 373) dL_law_369 rfl ?_
          refine ea_callV (pc := 373) (d' := d - 1) (As := [vI ((ea_q w269.2).2 (Int32.toNatClampNeg (x3 + (1 : Int32)))), vI ((ea_q w269.2).2 (Int32.toNatClampNeg (x3 + (2 : Int32)))), vI ((ea_q w269.2).2 (Int32.toNatClampNeg (x3 + (3 : Int32)))), vI ((ea_q w269.2).2 (Int32.toNatClampNeg (x3 + (4 : Int32)))), vI 1]) (st := [vI w269.1]) dL_law_373 kX12_stop (sX12_stop (d := d - 1) (by omega) (hsw269).2 Ew277) (by omega) rfl (Nat.le_of_ble_eq_true rfl) ew_1789 ew_1790 ew_1791 (ci := 12) rfl (by decide) (cShL_326 hsw269).1 (cShL_326 hsw269).2.1 ?_
          refine ea_icmp_eq (pc := 376) (tgt := 1574) dL_law_376 rfl (fun c278 => ?_) (fun c278 => ?_)
          · have E := (if_pos c278).symm.trans E
            refine ea_iinc (pc := 1574) (v := 7) (lv' := [(0, vO 0), (1, vR (some 0)), (2, vR (some 326)), (3, vI (x3 + (7 : Int32)))]) dL_law_1574 3 rfl rfl (Nat.le_of_ble_eq_true rfl) [1, 2, 3, 0] rfl ?_
            refine ea_goto (pc := 1577) (tgt := 18) dL_law_1577 rfl ?_
            exact (kJ18 ((x3 + (7 : Int32)) : Int32) w277.2 _ _ E hsw277)
          · have E := (if_neg c278).symm.trans E
            refine ea_iconst (pc := 379) dL_law_379 (v := 0) rfl ?_
            exact ea_iretO (pc := 380) dL_law_380 rfl (ea_bn (Or.inl rfl)) E
    have E := (if_neg q33_4).symm.trans E
    by_cases q33_5 : Int32.toInt (((ea_q h).2 (Int32.toNatClampNeg x3)) &&& (63 : Int32)) = 5
    · have E := (if_pos q33_5).symm.trans E
      obtain ⟨z244, E⟩ := gd_some E
      refine ea_tswIn (pc := 33) (tgt := 381) dL_law_33 (by rw [q33_5]; decide) (by rw [q33_5]; decide) (by rw [q33_5]; rfl) rfl ?_
      refine ea_aload_n (pc := 381) dL_law_381 rfl 1 rfl ?_
      refine ea_aload_nO (pc := 382) dL_law_382 rfl 0 rfl ?_
      refine ea_iload_n (pc := 383) dL_law_383 rfl 3 rfl ?_
      refine ea_iconst (pc := 384) dL_law_384 (v := 1) rfl ?_
      refine ea_iadd (pc := 385) dL_law_385 ?_
      obtain ⟨z245, E⟩ := gd_some E
      refine ea_sld (pc := 386) dL_law_386 z244 ?_
      refine ea_aload_nO (pc := 387) dL_law_387 rfl 0 rfl ?_
      refine ea_iload_n (pc := 388) dL_law_388 rfl 3 rfl ?_
      refine ea_iconst (pc := 389) dL_law_389 (v := 2) rfl ?_
      refine ea_iadd (pc := 390) dL_law_390 ?_
      obtain ⟨z246, E⟩ := gd_some E
      refine ea_sld (pc := 391) dL_law_391 z245 ?_
      refine ea_aload_nO (pc := 392) dL_law_392 rfl 0 rfl ?_
      refine ea_iload_n (pc := 393) dL_law_393 rfl 3 rfl ?_
      refine ea_iconst (pc := 394) dL_law_394 (v := 3) rfl ?_
      refine ea_iadd (pc := 395) dL_law_395 ?_
      obtain ⟨w247, Ew247, E⟩ := bd_some E
      have hsw247 : ShL w247.2 := ShL_core ((kpX11_stopOf _ _ _ _) _ Ew247) hs
      refine ea_sld (pc := 396) dL_law_396 z246 ?_
      refine ea_callV (pc := 397) (d' := d - 1) (As := [vI ((ea_q h).2 (Int32.toNatClampNeg (x3 + (1 : Int32)))), vI ((ea_q h).2 (Int32.toNatClampNeg (x3 + (2 : Int32)))), vI ((ea_q h).2 (Int32.toNatClampNeg (x3 + (3 : Int32))))]) (st := []) dL_law_397 kX11_stopOf (sX11_stopOf (d := d - 1) (by omega) (hs).1 Ew247) (by omega) rfl (Nat.le_of_ble_eq_true rfl) ew_716 ew_717 ew_718 (ci := 11) rfl (by decide) (cShL_0 hs).1 (cShL_0 hs).2.1 ?_
      obtain ⟨z248, E⟩ := gd_some E
      refine ea_aload_n (pc := 400) dL_law_400 rfl 2 rfl ?_
      refine ea_aload_nO (pc := 401) dL_law_401 rfl 0 rfl ?_
      refine ea_iload_n (pc := 402) dL_law_402 rfl 3 rfl ?_
      refine ea_iconst (pc := 403) dL_law_403 (v := 1) rfl ?_
      refine ea_iadd (pc := 404) dL_law_404 ?_
      obtain ⟨z249, E⟩ := gd_some E
      refine ea_sld (pc := 405) dL_law_405 z248 ?_
      refine ea_aload_nO (pc := 406) dL_law_406 rfl 0 rfl ?_
      refine ea_iload_n (pc := 407) dL_law_407 rfl 3 rfl ?_
      refine ea_iconst (pc := 408) dL_law_408 (v := 2) rfl ?_
      refine ea_iadd (pc := 409) dL_law_409 ?_
      obtain ⟨z250, E⟩ := gd_some E
      refine ea_sld (pc := 410) dL_law_410 z249 ?_
      refine ea_aload_nO (pc := 411) dL_law_411 rfl 0 rfl ?_
      refine ea_iload_n (pc := 412) dL_law_412 rfl 3 rfl ?_
      refine ea_iconst (pc := 413) dL_law_413 (v := 3) rfl ?_
      refine ea_iadd (pc := 414) dL_law_414 ?_
      obtain ⟨w251, Ew251, E⟩ := bd_some E
      have hsw251 : ShL w251.2 := ShL_core ((kpX12_stopOf _ _ _ _) _ Ew251) hsw247
      refine ea_sld (pc := 415) dL_law_415 z250 ?_
      refine ea_callV (pc := 416) (d' := d - 1) (As := [vI ((ea_q w247.2).2 (Int32.toNatClampNeg (x3 + (1 : Int32)))), vI ((ea_q w247.2).2 (Int32.toNatClampNeg (x3 + (2 : Int32)))), vI ((ea_q w247.2).2 (Int32.toNatClampNeg (x3 + (3 : Int32))))]) (st := [vI w247.1]) dL_law_416 kX12_stopOf (sX12_stopOf (d := d - 1) (by omega) (hsw247).2 Ew251) (by omega) rfl (Nat.le_of_ble_eq_true rfl) ew_1797 ew_1798 ew_1799 (ci := 12) rfl (by decide) (cShL_326 hsw247).1 (cShL_326 hsw247).2.1 ?_
      refine ea_icmp_eq (pc := 419) (tgt := 1574) dL_law_419 rfl (fun c252 => ?_) (fun c252 => ?_)
      · have E := (if_pos c252).symm.trans E
        refine ea_iinc (pc := 1574) (v := 7) (lv' := [(0, vO 0), (1, vR (some 0)), (2, vR (some 326)), (3, vI (x3 + (7 : Int32)))]) dL_law_1574 3 rfl rfl (Nat.le_of_ble_eq_true rfl) [1, 2, 3, 0] rfl ?_
        refine ea_goto (pc := 1577) (tgt := 18) dL_law_1577 rfl ?_
        exact (kJ18 ((x3 + (7 : Int32)) : Int32) w251.2 _ _ E hsw251)
      · have E := (if_neg c252).symm.trans E
        refine ea_iconst (pc := 422) dL_law_422 (v := 0) rfl ?_
        exact ea_iretO (pc := 423) dL_law_423 rfl (ea_bn (Or.inl rfl)) E
    have E := (if_neg q33_5).symm.trans E
    by_cases q33_6 : Int32.toInt (((ea_q h).2 (Int32.toNatClampNeg x3)) &&& (63 : Int32)) = 6
    · have E := (if_pos q33_6).symm.trans E
      obtain ⟨z235, E⟩ := gd_some E
      refine ea_tswIn (pc := 33) (tgt := 424) dL_law_33 (by rw [q33_6]; decide) (by rw [q33_6]; decide) (by rw [q33_6]; rfl) rfl ?_
      refine ea_aload_n (pc := 424) dL_law_424 rfl 1 rfl ?_
      refine ea_aload_nO (pc := 425) dL_law_425 rfl 0 rfl ?_
      refine ea_iload_n (pc := 426) dL_law_426 rfl 3 rfl ?_
      refine ea_iconst (pc := 427) dL_law_427 (v := 1) rfl ?_
      refine ea_iadd (pc := 428) dL_law_428 ?_
      obtain ⟨z236, E⟩ := gd_some E
      refine ea_sld (pc := 429) dL_law_429 z235 ?_
      refine ea_aload_nO (pc := 430) dL_law_430 rfl 0 rfl ?_
      refine ea_iload_n (pc := 431) dL_law_431 rfl 3 rfl ?_
      refine ea_iconst (pc := 432) dL_law_432 (v := 2) rfl ?_
      refine ea_iadd (pc := 433) dL_law_433 ?_
      obtain ⟨z237, E⟩ := gd_some E
      refine ea_sld (pc := 434) dL_law_434 z236 ?_
      refine ea_aload_nO (pc := 435) dL_law_435 rfl 0 rfl ?_
      refine ea_iload_n (pc := 436) dL_law_436 rfl 3 rfl ?_
      refine ea_iconst (pc := 437) dL_law_437 (v := 3) rfl ?_
      refine ea_iadd (pc := 438) dL_law_438 ?_
      obtain ⟨w238, Ew238, E⟩ := bd_some E
      have hsw238 : ShL w238.2 := ShL_core ((kpX11_late _ _ _ _) _ Ew238) hs
      refine ea_sld (pc := 439) dL_law_439 z237 ?_
      refine ea_callV (pc := 440) (d' := d - 1) (As := [vI ((ea_q h).2 (Int32.toNatClampNeg (x3 + (1 : Int32)))), vI ((ea_q h).2 (Int32.toNatClampNeg (x3 + (2 : Int32)))), vI ((ea_q h).2 (Int32.toNatClampNeg (x3 + (3 : Int32))))]) (st := []) dL_law_440 kX11_late (sX11_late (d := d - 1) (by omega) (hs).1 Ew238) (by omega) rfl (Nat.le_of_ble_eq_true rfl) ew_720 ew_721 ew_722 (ci := 11) rfl (by decide) (cShL_0 hs).1 (cShL_0 hs).2.1 ?_
      obtain ⟨z239, E⟩ := gd_some E
      refine ea_aload_n (pc := 443) dL_law_443 rfl 2 rfl ?_
      refine ea_aload_nO (pc := 444) dL_law_444 rfl 0 rfl ?_
      refine ea_iload_n (pc := 445) dL_law_445 rfl 3 rfl ?_
      refine ea_iconst (pc := 446) dL_law_446 (v := 1) rfl ?_
      refine ea_iadd (pc := 447) dL_law_447 ?_
      obtain ⟨z240, E⟩ := gd_some E
      refine ea_sld (pc := 448) dL_law_448 z239 ?_
      refine ea_aload_nO (pc := 449) dL_law_449 rfl 0 rfl ?_
      refine ea_iload_n (pc := 450) dL_law_450 rfl 3 rfl ?_
      refine ea_iconst (pc := 451) dL_law_451 (v := 2) rfl ?_
      refine ea_iadd (pc := 452) dL_law_452 ?_
      obtain ⟨z241, E⟩ := gd_some E
      refine ea_sld (pc := 453) dL_law_453 z240 ?_
      refine ea_aload_nO (pc := 454) dL_law_454 rfl 0 rfl ?_
      refine ea_iload_n (pc := 455) dL_law_455 rfl 3 rfl ?_
      refine ea_iconst (pc := 456) dL_law_456 (v := 3) rfl ?_
      refine ea_iadd (pc := 457) dL_law_457 ?_
      obtain ⟨w242, Ew242, E⟩ := bd_some E
      have hsw242 : ShL w242.2 := ShL_core ((kpX12_late _ _ _ _) _ Ew242) hsw238
      refine ea_sld (pc := 458) dL_law_458 z241 ?_
      refine ea_callV (pc := 459) (d' := d - 1) (As := [vI ((ea_q w238.2).2 (Int32.toNatClampNeg (x3 + (1 : Int32)))), vI ((ea_q w238.2).2 (Int32.toNatClampNeg (x3 + (2 : Int32)))), vI ((ea_q w238.2).2 (Int32.toNatClampNeg (x3 + (3 : Int32))))]) (st := [vI w238.1]) dL_law_459 kX12_late (sX12_late (d := d - 1) (by omega) (hsw238).2 Ew242) (by omega) rfl (Nat.le_of_ble_eq_true rfl) ew_1801 ew_1802 ew_1803 (ci := 12) rfl (by decide) (cShL_326 hsw238).1 (cShL_326 hsw238).2.1 ?_
      refine ea_icmp_eq (pc := 462) (tgt := 1574) dL_law_462 rfl (fun c243 => ?_) (fun c243 => ?_)
      · have E := (if_pos c243).symm.trans E
        refine ea_iinc (pc := 1574) (v := 7) (lv' := [(0, vO 0), (1, vR (some 0)), (2, vR (some 326)), (3, vI (x3 + (7 : Int32)))]) dL_law_1574 3 rfl rfl (Nat.le_of_ble_eq_true rfl) [1, 2, 3, 0] rfl ?_
        refine ea_goto (pc := 1577) (tgt := 18) dL_law_1577 rfl ?_
        exact (kJ18 ((x3 + (7 : Int32)) : Int32) w242.2 _ _ E hsw242)
      · have E := (if_neg c243).symm.trans E
        refine ea_iconst (pc := 465) dL_law_465 (v := 0) rfl ?_
        exact ea_iretO (pc := 466) dL_law_466 rfl (ea_bn (Or.inl rfl)) E
    have E := (if_neg q33_6).symm.trans E
    by_cases q33_7 : Int32.toInt (((ea_q h).2 (Int32.toNatClampNeg x3)) &&& (63 : Int32)) = 7
    · have E := (if_pos q33_7).symm.trans E
      obtain ⟨z226, E⟩ := gd_some E
      refine ea_tswIn (pc := 33) (tgt := 467) dL_law_33 (by rw [q33_7]; decide) (by rw [q33_7]; decide) (by rw [q33_7]; rfl) rfl ?_
      refine ea_aload_n (pc := 467) dL_law_467 rfl 1 rfl ?_
      refine ea_aload_nO (pc := 468) dL_law_468 rfl 0 rfl ?_
      refine ea_iload_n (pc := 469) dL_law_469 rfl 3 rfl ?_
      refine ea_iconst (pc := 470) dL_law_470 (v := 1) rfl ?_
      refine ea_iadd (pc := 471) dL_law_471 ?_
      obtain ⟨z227, E⟩ := gd_some E
      refine ea_sld (pc := 472) dL_law_472 z226 ?_
      refine ea_aload_nO (pc := 473) dL_law_473 rfl 0 rfl ?_
      refine ea_iload_n (pc := 474) dL_law_474 rfl 3 rfl ?_
      refine ea_iconst (pc := 475) dL_law_475 (v := 2) rfl ?_
      refine ea_iadd (pc := 476) dL_law_476 ?_
      obtain ⟨z228, E⟩ := gd_some E
      refine ea_sld (pc := 477) dL_law_477 z227 ?_
      refine ea_aload_nO (pc := 478) dL_law_478 rfl 0 rfl ?_
      refine ea_iload_n (pc := 479) dL_law_479 rfl 3 rfl ?_
      refine ea_iconst (pc := 480) dL_law_480 (v := 3) rfl ?_
      refine ea_iadd (pc := 481) dL_law_481 ?_
      obtain ⟨w229, Ew229, E⟩ := bd_some E
      have hsw229 : ShL w229.2 := ShL_core ((kpX11_miss _ _ _ _) _ Ew229) hs
      refine ea_sld (pc := 482) dL_law_482 z228 ?_
      refine ea_callV (pc := 483) (d' := d - 1) (As := [vI ((ea_q h).2 (Int32.toNatClampNeg (x3 + (1 : Int32)))), vI ((ea_q h).2 (Int32.toNatClampNeg (x3 + (2 : Int32)))), vI ((ea_q h).2 (Int32.toNatClampNeg (x3 + (3 : Int32))))]) (st := []) dL_law_483 kX11_miss (sX11_miss (d := d - 1) (by omega) (hs).1 Ew229) (by omega) rfl (Nat.le_of_ble_eq_true rfl) ew_733 ew_734 ew_735 (ci := 11) rfl (by decide) (cShL_0 hs).1 (cShL_0 hs).2.1 ?_
      obtain ⟨z230, E⟩ := gd_some E
      refine ea_aload_n (pc := 486) dL_law_486 rfl 2 rfl ?_
      refine ea_aload_nO (pc := 487) dL_law_487 rfl 0 rfl ?_
      refine ea_iload_n (pc := 488) dL_law_488 rfl 3 rfl ?_
      refine ea_iconst (pc := 489) dL_law_489 (v := 1) rfl ?_
      refine ea_iadd (pc := 490) dL_law_490 ?_
      obtain ⟨z231, E⟩ := gd_some E
      refine ea_sld (pc := 491) dL_law_491 z230 ?_
      refine ea_aload_nO (pc := 492) dL_law_492 rfl 0 rfl ?_
      refine ea_iload_n (pc := 493) dL_law_493 rfl 3 rfl ?_
      refine ea_iconst (pc := 494) dL_law_494 (v := 2) rfl ?_
      refine ea_iadd (pc := 495) dL_law_495 ?_
      obtain ⟨z232, E⟩ := gd_some E
      refine ea_sld (pc := 496) dL_law_496 z231 ?_
      refine ea_aload_nO (pc := 497) dL_law_497 rfl 0 rfl ?_
      refine ea_iload_n (pc := 498) dL_law_498 rfl 3 rfl ?_
      refine ea_iconst (pc := 499) dL_law_499 (v := 3) rfl ?_
      refine ea_iadd (pc := 500) dL_law_500 ?_
      obtain ⟨w233, Ew233, E⟩ := bd_some E
      have hsw233 : ShL w233.2 := ShL_core ((kpX12_miss _ _ _ _) _ Ew233) hsw229
      refine ea_sld (pc := 501) dL_law_501 z232 ?_
      refine ea_callV (pc := 502) (d' := d - 1) (As := [vI ((ea_q w229.2).2 (Int32.toNatClampNeg (x3 + (1 : Int32)))), vI ((ea_q w229.2).2 (Int32.toNatClampNeg (x3 + (2 : Int32)))), vI ((ea_q w229.2).2 (Int32.toNatClampNeg (x3 + (3 : Int32))))]) (st := [vI w229.1]) dL_law_502 kX12_miss (sX12_miss (d := d - 1) (by omega) (hsw229).2 Ew233) (by omega) rfl (Nat.le_of_ble_eq_true rfl) ew_1815 ew_1816 ew_1817 (ci := 12) rfl (by decide) (cShL_326 hsw229).1 (cShL_326 hsw229).2.1 ?_
      refine ea_icmp_eq (pc := 505) (tgt := 1574) dL_law_505 rfl (fun c234 => ?_) (fun c234 => ?_)
      · have E := (if_pos c234).symm.trans E
        refine ea_iinc (pc := 1574) (v := 7) (lv' := [(0, vO 0), (1, vR (some 0)), (2, vR (some 326)), (3, vI (x3 + (7 : Int32)))]) dL_law_1574 3 rfl rfl (Nat.le_of_ble_eq_true rfl) [1, 2, 3, 0] rfl ?_
        refine ea_goto (pc := 1577) (tgt := 18) dL_law_1577 rfl ?_
        exact (kJ18 ((x3 + (7 : Int32)) : Int32) w233.2 _ _ E hsw233)
      · have E := (if_neg c234).symm.trans E
        refine ea_iconst (pc := 508) dL_law_508 (v := 0) rfl ?_
        exact ea_iretO (pc := 509) dL_law_509 rfl (ea_bn (Or.inl rfl)) E
    have E := (if_neg q33_7).symm.trans E
    by_cases q33_8 : Int32.toInt (((ea_q h).2 (Int32.toNatClampNeg x3)) &&& (63 : Int32)) = 8
    · have E := (if_pos q33_8).symm.trans E
      obtain ⟨z221, E⟩ := gd_some E
      refine ea_tswIn (pc := 33) (tgt := 510) dL_law_33 (by rw [q33_8]; decide) (by rw [q33_8]; decide) (by rw [q33_8]; rfl) rfl ?_
      refine ea_aload_n (pc := 510) dL_law_510 rfl 1 rfl ?_
      refine ea_aload_nO (pc := 511) dL_law_511 rfl 0 rfl ?_
      refine ea_iload_n (pc := 512) dL_law_512 rfl 3 rfl ?_
      refine ea_iconst (pc := 513) dL_law_513 (v := 1) rfl ?_
      refine ea_iadd (pc := 514) dL_law_514 ?_
      obtain ⟨w222, Ew222, E⟩ := bd_some E
      have hsw222 : ShL w222.2 := ShL_core ((kpX11_minutes _ _) _ Ew222) hs
      refine ea_sld (pc := 515) dL_law_515 z221 ?_
      refine ea_callV (pc := 516) (d' := d - 1) (As := [vI ((ea_q h).2 (Int32.toNatClampNeg (x3 + (1 : Int32))))]) (st := []) dL_law_516 kX11_minutes (sX11_minutes (d := d - 1) (by omega) (hs).1 Ew222) (by omega) rfl (Nat.le_of_ble_eq_true rfl) ew_745 ew_746 ew_747 (ci := 11) rfl (by decide) (cShL_0 hs).1 (cShL_0 hs).2.1 ?_
      obtain ⟨z223, E⟩ := gd_some E
      refine ea_aload_n (pc := 519) dL_law_519 rfl 2 rfl ?_
      refine ea_aload_nO (pc := 520) dL_law_520 rfl 0 rfl ?_
      refine ea_iload_n (pc := 521) dL_law_521 rfl 3 rfl ?_
      refine ea_iconst (pc := 522) dL_law_522 (v := 1) rfl ?_
      refine ea_iadd (pc := 523) dL_law_523 ?_
      obtain ⟨w224, Ew224, E⟩ := bd_some E
      have hsw224 : ShL w224.2 := ShL_core ((kpX12_minutes _ _) _ Ew224) hsw222
      refine ea_sld (pc := 524) dL_law_524 z223 ?_
      refine ea_callV (pc := 525) (d' := d - 1) (As := [vI ((ea_q w222.2).2 (Int32.toNatClampNeg (x3 + (1 : Int32))))]) (st := [vI w222.1]) dL_law_525 kX12_minutes (sX12_minutes (d := d - 1) (by omega) (hsw222).2 Ew224) (by omega) rfl (Nat.le_of_ble_eq_true rfl) ew_2108 ew_2109 ew_2110 (ci := 12) rfl (by decide) (cShL_326 hsw222).1 (cShL_326 hsw222).2.1 ?_
      refine ea_icmp_eq (pc := 528) (tgt := 1574) dL_law_528 rfl (fun c225 => ?_) (fun c225 => ?_)
      · have E := (if_pos c225).symm.trans E
        refine ea_iinc (pc := 1574) (v := 7) (lv' := [(0, vO 0), (1, vR (some 0)), (2, vR (some 326)), (3, vI (x3 + (7 : Int32)))]) dL_law_1574 3 rfl rfl (Nat.le_of_ble_eq_true rfl) [1, 2, 3, 0] rfl ?_
        refine ea_goto (pc := 1577) (tgt := 18) dL_law_1577 rfl ?_
        exact (kJ18 ((x3 + (7 : Int32)) : Int32) w224.2 _ _ E hsw224)
      · have E := (if_neg c225).symm.trans E
        refine ea_iconst (pc := 531) dL_law_531 (v := 0) rfl ?_
        exact ea_iretO (pc := 532) dL_law_532 rfl (ea_bn (Or.inl rfl)) E
    have E := (if_neg q33_8).symm.trans E
    by_cases q33_9 : Int32.toInt (((ea_q h).2 (Int32.toNatClampNeg x3)) &&& (63 : Int32)) = 9
    · have E := (if_pos q33_9).symm.trans E
      obtain ⟨z216, E⟩ := gd_some E
      refine ea_tswIn (pc := 33) (tgt := 533) dL_law_33 (by rw [q33_9]; decide) (by rw [q33_9]; decide) (by rw [q33_9]; rfl) rfl ?_
      refine ea_aload_n (pc := 533) dL_law_533 rfl 1 rfl ?_
      refine ea_aload_nO (pc := 534) dL_law_534 rfl 0 rfl ?_
      refine ea_iload_n (pc := 535) dL_law_535 rfl 3 rfl ?_
      refine ea_iconst (pc := 536) dL_law_536 (v := 1) rfl ?_
      refine ea_iadd (pc := 537) dL_law_537 ?_
      obtain ⟨w217, Ew217, E⟩ := bd_some E
      have hsw217 : ShL w217.2 := ShL_core ((kpX11_look _ _) _ Ew217) hs
      refine ea_sld (pc := 538) dL_law_538 z216 ?_
      refine ea_callV (pc := 539) (d' := d - 1) (As := [vI ((ea_q h).2 (Int32.toNatClampNeg (x3 + (1 : Int32))))]) (st := []) dL_law_539 kX11_look (sX11_look (d := d - 1) (by omega) (hs).1 Ew217) (by omega) rfl (Nat.le_of_ble_eq_true rfl) ew_912 ew_913 ew_914 (ci := 11) rfl (by decide) (cShL_0 hs).1 (cShL_0 hs).2.1 ?_
      obtain ⟨z218, E⟩ := gd_some E
      refine ea_aload_n (pc := 542) dL_law_542 rfl 2 rfl ?_
      refine ea_aload_nO (pc := 543) dL_law_543 rfl 0 rfl ?_
      refine ea_iload_n (pc := 544) dL_law_544 rfl 3 rfl ?_
      refine ea_iconst (pc := 545) dL_law_545 (v := 1) rfl ?_
      refine ea_iadd (pc := 546) dL_law_546 ?_
      obtain ⟨w219, Ew219, E⟩ := bd_some E
      have hsw219 : ShL w219.2 := ShL_core ((kpX12_look _ _) _ Ew219) hsw217
      refine ea_sld (pc := 547) dL_law_547 z218 ?_
      refine ea_callV (pc := 548) (d' := d - 1) (As := [vI ((ea_q w217.2).2 (Int32.toNatClampNeg (x3 + (1 : Int32))))]) (st := [vI w217.1]) dL_law_548 kX12_look (sX12_look (d := d - 1) (by omega) (hsw217).2 Ew219) (by omega) rfl (Nat.le_of_ble_eq_true rfl) ew_2143 ew_2144 ew_2145 (ci := 12) rfl (by decide) (cShL_326 hsw217).1 (cShL_326 hsw217).2.1 ?_
      refine ea_icmp_eq (pc := 551) (tgt := 1574) dL_law_551 rfl (fun c220 => ?_) (fun c220 => ?_)
      · have E := (if_pos c220).symm.trans E
        refine ea_iinc (pc := 1574) (v := 7) (lv' := [(0, vO 0), (1, vR (some 0)), (2, vR (some 326)), (3, vI (x3 + (7 : Int32)))]) dL_law_1574 3 rfl rfl (Nat.le_of_ble_eq_true rfl) [1, 2, 3, 0] rfl ?_
        refine ea_goto (pc := 1577) (tgt := 18) dL_law_1577 rfl ?_
        exact (kJ18 ((x3 + (7 : Int32)) : Int32) w219.2 _ _ E hsw219)
      · have E := (if_neg c220).symm.trans E
        refine ea_iconst (pc := 554) dL_law_554 (v := 0) rfl ?_
        exact ea_iretO (pc := 555) dL_law_555 rfl (ea_bn (Or.inl rfl)) E
    have E := (if_neg q33_9).symm.trans E
    by_cases q33_10 : Int32.toInt (((ea_q h).2 (Int32.toNatClampNeg x3)) &&& (63 : Int32)) = 10
    · have E := (if_pos q33_10).symm.trans E
      obtain ⟨z203, E⟩ := gd_some E
      refine ea_tswIn (pc := 33) (tgt := 556) dL_law_33 (by rw [q33_10]; decide) (by rw [q33_10]; decide) (by rw [q33_10]; rfl) rfl ?_
      refine ea_aload_n (pc := 556) dL_law_556 rfl 1 rfl ?_
      refine ea_aload_nO (pc := 557) dL_law_557 rfl 0 rfl ?_
      refine ea_iload_n (pc := 558) dL_law_558 rfl 3 rfl ?_
      refine ea_iconst (pc := 559) dL_law_559 (v := 1) rfl ?_
      refine ea_iadd (pc := 560) dL_law_560 ?_
      obtain ⟨z204, E⟩ := gd_some E
      refine ea_sld (pc := 561) dL_law_561 z203 ?_
      refine ea_aload_nO (pc := 562) dL_law_562 rfl 0 rfl ?_
      refine ea_iload_n (pc := 563) dL_law_563 rfl 3 rfl ?_
      refine ea_iconst (pc := 564) dL_law_564 (v := 2) rfl ?_
      refine ea_iadd (pc := 565) dL_law_565 ?_
      obtain ⟨z205, E⟩ := gd_some E
      refine ea_sld (pc := 566) dL_law_566 z204 ?_
      refine ea_aload_nO (pc := 567) dL_law_567 rfl 0 rfl ?_
      refine ea_iload_n (pc := 568) dL_law_568 rfl 3 rfl ?_
      refine ea_iconst (pc := 569) dL_law_569 (v := 3) rfl ?_
      refine ea_iadd (pc := 570) dL_law_570 ?_
      obtain ⟨z206, E⟩ := gd_some E
      refine ea_sld (pc := 571) dL_law_571 z205 ?_
      refine ea_aload_nO (pc := 572) dL_law_572 rfl 0 rfl ?_
      refine ea_iload_n (pc := 573) dL_law_573 rfl 3 rfl ?_
      refine ea_iconst (pc := 574) dL_law_574 (v := 4) rfl ?_
      refine ea_iadd (pc := 575) dL_law_575 ?_
      obtain ⟨z207, E⟩ := gd_some E
      refine ea_sld (pc := 576) dL_law_576 z206 ?_
      refine ea_aload_nO (pc := 577) dL_law_577 rfl 0 rfl ?_
      refine ea_iload_n (pc := 578) dL_law_578 rfl 3 rfl ?_
      refine ea_iconst (pc := 579) dL_law_579 (v := 5) rfl ?_
      refine ea_iadd (pc := 580) dL_law_580 ?_
      obtain ⟨w208, Ew208, E⟩ := bd_some E
      have hsw208 : ShL w208.2 := ShL_core ((kpX11_feed _ _ _ _ _ _) _ Ew208) hs
      refine ea_sld (pc := 581) dL_law_581 z207 ?_
      refine ea_callV (pc := 582) (d' := d - 1) (As := [vI ((ea_q h).2 (Int32.toNatClampNeg (x3 + (1 : Int32)))), vI ((ea_q h).2 (Int32.toNatClampNeg (x3 + (2 : Int32)))), vI ((ea_q h).2 (Int32.toNatClampNeg (x3 + (3 : Int32)))), vI ((ea_q h).2 (Int32.toNatClampNeg (x3 + (4 : Int32)))), vI ((ea_q h).2 (Int32.toNatClampNeg (x3 + (5 : Int32))))]) (st := []) dL_law_582 kX11_feed (sX11_feed (d := d - 1) (by omega) (hs).1 Ew208) (by omega) rfl (Nat.le_of_ble_eq_true rfl) ew_920 ew_921 ew_922 (ci := 11) rfl (by decide) (cShL_0 hs).1 (cShL_0 hs).2.1 ?_
      obtain ⟨z209, E⟩ := gd_some E
      refine ea_aload_n (pc := 585) dL_law_585 rfl 2 rfl ?_
      refine ea_aload_nO (pc := 586) dL_law_586 rfl 0 rfl ?_
      refine ea_iload_n (pc := 587) dL_law_587 rfl 3 rfl ?_
      refine ea_iconst (pc := 588) dL_law_588 (v := 1) rfl ?_
      refine ea_iadd (pc := 589) dL_law_589 ?_
      obtain ⟨z210, E⟩ := gd_some E
      refine ea_sld (pc := 590) dL_law_590 z209 ?_
      refine ea_aload_nO (pc := 591) dL_law_591 rfl 0 rfl ?_
      refine ea_iload_n (pc := 592) dL_law_592 rfl 3 rfl ?_
      refine ea_iconst (pc := 593) dL_law_593 (v := 2) rfl ?_
      refine ea_iadd (pc := 594) dL_law_594 ?_
      obtain ⟨z211, E⟩ := gd_some E
      refine ea_sld (pc := 595) dL_law_595 z210 ?_
      refine ea_aload_nO (pc := 596) dL_law_596 rfl 0 rfl ?_
      refine ea_iload_n (pc := 597) dL_law_597 rfl 3 rfl ?_
      refine ea_iconst (pc := 598) dL_law_598 (v := 3) rfl ?_
      refine ea_iadd (pc := 599) dL_law_599 ?_
      obtain ⟨z212, E⟩ := gd_some E
      refine ea_sld (pc := 600) dL_law_600 z211 ?_
      refine ea_aload_nO (pc := 601) dL_law_601 rfl 0 rfl ?_
      refine ea_iload_n (pc := 602) dL_law_602 rfl 3 rfl ?_
      refine ea_iconst (pc := 603) dL_law_603 (v := 4) rfl ?_
      refine ea_iadd (pc := 604) dL_law_604 ?_
      obtain ⟨z213, E⟩ := gd_some E
      refine ea_sld (pc := 605) dL_law_605 z212 ?_
      refine ea_aload_nO (pc := 606) dL_law_606 rfl 0 rfl ?_
      refine ea_iload_n (pc := 607) dL_law_607 rfl 3 rfl ?_
      refine ea_iconst (pc := 608) dL_law_608 (v := 5) rfl ?_
      refine ea_iadd (pc := 609) dL_law_609 ?_
      obtain ⟨w214, Ew214, E⟩ := bd_some E
      have hsw214 : ShL w214.2 := ShL_core ((kpX12_feed _ _ _ _ _ _) _ Ew214) hsw208
      refine ea_sld (pc := 610) dL_law_610 z213 ?_
      refine ea_callV (pc := 611) (d' := d - 1) (As := [vI ((ea_q w208.2).2 (Int32.toNatClampNeg (x3 + (1 : Int32)))), vI ((ea_q w208.2).2 (Int32.toNatClampNeg (x3 + (2 : Int32)))), vI ((ea_q w208.2).2 (Int32.toNatClampNeg (x3 + (3 : Int32)))), vI ((ea_q w208.2).2 (Int32.toNatClampNeg (x3 + (4 : Int32)))), vI ((ea_q w208.2).2 (Int32.toNatClampNeg (x3 + (5 : Int32))))]) (st := [vI w208.1]) dL_law_611 kX12_feed (sX12_feed (d := d - 1) (by omega) (hsw208).2 Ew214) (by omega) rfl (Nat.le_of_ble_eq_true rfl) ew_1867 ew_1868 ew_1869 (ci := 12) rfl (by decide) (cShL_326 hsw208).1 (cShL_326 hsw208).2.1 ?_
      refine ea_icmp_eq (pc := 614) (tgt := 1574) dL_law_614 rfl (fun c215 => ?_) (fun c215 => ?_)
      · have E := (if_pos c215).symm.trans E
        refine ea_iinc (pc := 1574) (v := 7) (lv' := [(0, vO 0), (1, vR (some 0)), (2, vR (some 326)), (3, vI (x3 + (7 : Int32)))]) dL_law_1574 3 rfl rfl (Nat.le_of_ble_eq_true rfl) [1, 2, 3, 0] rfl ?_
        refine ea_goto (pc := 1577) (tgt := 18) dL_law_1577 rfl ?_
        exact (kJ18 ((x3 + (7 : Int32)) : Int32) w214.2 _ _ E hsw214)
      · have E := (if_neg c215).symm.trans E
        refine ea_iconst (pc := 617) dL_law_617 (v := 0) rfl ?_
        exact ea_iretO (pc := 618) dL_law_618 rfl (ea_bn (Or.inl rfl)) E
    have E := (if_neg q33_10).symm.trans E
    by_cases q33_11 : Int32.toInt (((ea_q h).2 (Int32.toNatClampNeg x3)) &&& (63 : Int32)) = 11
    · have E := (if_pos q33_11).symm.trans E
      obtain ⟨z198, E⟩ := gd_some E
      refine ea_tswIn (pc := 33) (tgt := 619) dL_law_33 (by rw [q33_11]; decide) (by rw [q33_11]; decide) (by rw [q33_11]; rfl) rfl ?_
      refine ea_aload_n (pc := 619) dL_law_619 rfl 1 rfl ?_
      refine ea_aload_nO (pc := 620) dL_law_620 rfl 0 rfl ?_
      refine ea_iload_n (pc := 621) dL_law_621 rfl 3 rfl ?_
      refine ea_iconst (pc := 622) dL_law_622 (v := 1) rfl ?_
      refine ea_iadd (pc := 623) dL_law_623 ?_
      obtain ⟨w199, Ew199, E⟩ := bd_some E
      have hsw199 : ShL w199.2 := ShL_core ((kpX11_end _ _) _ Ew199) hs
      refine ea_sld (pc := 624) dL_law_624 z198 ?_
      refine ea_callV (pc := 625) (d' := d - 1) (As := [vI ((ea_q h).2 (Int32.toNatClampNeg (x3 + (1 : Int32))))]) (st := []) dL_law_625 kX11_end (sX11_end (d := d - 1) (by omega) (hs).1 Ew199) (by omega) rfl (Nat.le_of_ble_eq_true rfl) ew_928 ew_929 ew_930 (ci := 11) rfl (by decide) (cShL_0 hs).1 (cShL_0 hs).2.1 ?_
      obtain ⟨z200, E⟩ := gd_some E
      refine ea_aload_n (pc := 628) dL_law_628 rfl 2 rfl ?_
      refine ea_aload_nO (pc := 629) dL_law_629 rfl 0 rfl ?_
      refine ea_iload_n (pc := 630) dL_law_630 rfl 3 rfl ?_
      refine ea_iconst (pc := 631) dL_law_631 (v := 1) rfl ?_
      refine ea_iadd (pc := 632) dL_law_632 ?_
      obtain ⟨w201, Ew201, E⟩ := bd_some E
      have hsw201 : ShL w201.2 := ShL_core ((kpX12_end _ _) _ Ew201) hsw199
      refine ea_sld (pc := 633) dL_law_633 z200 ?_
      refine ea_callV (pc := 634) (d' := d - 1) (As := [vI ((ea_q w199.2).2 (Int32.toNatClampNeg (x3 + (1 : Int32))))]) (st := [vI w199.1]) dL_law_634 kX12_end (sX12_end (d := d - 1) (by omega) (hsw199).2 Ew201) (by omega) rfl (Nat.le_of_ble_eq_true rfl) ew_1871 ew_1872 ew_1873 (ci := 12) rfl (by decide) (cShL_326 hsw199).1 (cShL_326 hsw199).2.1 ?_
      refine ea_icmp_eq (pc := 637) (tgt := 1574) dL_law_637 rfl (fun c202 => ?_) (fun c202 => ?_)
      · have E := (if_pos c202).symm.trans E
        refine ea_iinc (pc := 1574) (v := 7) (lv' := [(0, vO 0), (1, vR (some 0)), (2, vR (some 326)), (3, vI (x3 + (7 : Int32)))]) dL_law_1574 3 rfl rfl (Nat.le_of_ble_eq_true rfl) [1, 2, 3, 0] rfl ?_
        refine ea_goto (pc := 1577) (tgt := 18) dL_law_1577 rfl ?_
        exact (kJ18 ((x3 + (7 : Int32)) : Int32) w201.2 _ _ E hsw201)
      · have E := (if_neg c202).symm.trans E
        refine ea_iconst (pc := 640) dL_law_640 (v := 0) rfl ?_
        exact ea_iretO (pc := 641) dL_law_641 rfl (ea_bn (Or.inl rfl)) E
    have E := (if_neg q33_11).symm.trans E
    by_cases q33_12 : Int32.toInt (((ea_q h).2 (Int32.toNatClampNeg x3)) &&& (63 : Int32)) = 12
    · have E := (if_pos q33_12).symm.trans E
      obtain ⟨z193, E⟩ := gd_some E
      refine ea_tswIn (pc := 33) (tgt := 642) dL_law_33 (by rw [q33_12]; decide) (by rw [q33_12]; decide) (by rw [q33_12]; rfl) rfl ?_
      refine ea_aload_n (pc := 642) dL_law_642 rfl 1 rfl ?_
      refine ea_aload_nO (pc := 643) dL_law_643 rfl 0 rfl ?_
      refine ea_iload_n (pc := 644) dL_law_644 rfl 3 rfl ?_
      refine ea_iconst (pc := 645) dL_law_645 (v := 1) rfl ?_
      refine ea_iadd (pc := 646) dL_law_646 ?_
      obtain ⟨w194, Ew194, E⟩ := bd_some E
      have hsw194 : ShL w194.2 := ShL_core ((kpX11_act _ _) _ Ew194) hs
      refine ea_sld (pc := 647) dL_law_647 z193 ?_
      refine ea_callV (pc := 648) (d' := d - 1) (As := [vI ((ea_q h).2 (Int32.toNatClampNeg (x3 + (1 : Int32))))]) (st := []) dL_law_648 kX11_act (sX11_act (d := d - 1) (by omega) (hs).1 Ew194) (by omega) rfl (Nat.le_of_ble_eq_true rfl) ew_932 ew_933 ew_934 (ci := 11) rfl (by decide) (cShL_0 hs).1 (cShL_0 hs).2.1 ?_
      obtain ⟨z195, E⟩ := gd_some E
      refine ea_aload_n (pc := 651) dL_law_651 rfl 2 rfl ?_
      refine ea_aload_nO (pc := 652) dL_law_652 rfl 0 rfl ?_
      refine ea_iload_n (pc := 653) dL_law_653 rfl 3 rfl ?_
      refine ea_iconst (pc := 654) dL_law_654 (v := 1) rfl ?_
      refine ea_iadd (pc := 655) dL_law_655 ?_
      obtain ⟨w196, Ew196, E⟩ := bd_some E
      have hsw196 : ShL w196.2 := ShL_core ((kpX12_act _ _) _ Ew196) hsw194
      refine ea_sld (pc := 656) dL_law_656 z195 ?_
      refine ea_callV (pc := 657) (d' := d - 1) (As := [vI ((ea_q w194.2).2 (Int32.toNatClampNeg (x3 + (1 : Int32))))]) (st := [vI w194.1]) dL_law_657 kX12_act (sX12_act (d := d - 1) (by omega) (hsw194).2 Ew196) (by omega) rfl (Nat.le_of_ble_eq_true rfl) ew_1875 ew_1876 ew_1877 (ci := 12) rfl (by decide) (cShL_326 hsw194).1 (cShL_326 hsw194).2.1 ?_
      refine ea_icmp_eq (pc := 660) (tgt := 1574) dL_law_660 rfl (fun c197 => ?_) (fun c197 => ?_)
      · have E := (if_pos c197).symm.trans E
        refine ea_iinc (pc := 1574) (v := 7) (lv' := [(0, vO 0), (1, vR (some 0)), (2, vR (some 326)), (3, vI (x3 + (7 : Int32)))]) dL_law_1574 3 rfl rfl (Nat.le_of_ble_eq_true rfl) [1, 2, 3, 0] rfl ?_
        refine ea_goto (pc := 1577) (tgt := 18) dL_law_1577 rfl ?_
        exact (kJ18 ((x3 + (7 : Int32)) : Int32) w196.2 _ _ E hsw196)
      · have E := (if_neg c197).symm.trans E
        refine ea_iconst (pc := 663) dL_law_663 (v := 0) rfl ?_
        exact ea_iretO (pc := 664) dL_law_664 rfl (ea_bn (Or.inl rfl)) E
    have E := (if_neg q33_12).symm.trans E
    by_cases q33_13 : Int32.toInt (((ea_q h).2 (Int32.toNatClampNeg x3)) &&& (63 : Int32)) = 13
    · have E := (if_pos q33_13).symm.trans E
      obtain ⟨z188, E⟩ := gd_some E
      refine ea_tswIn (pc := 33) (tgt := 665) dL_law_33 (by rw [q33_13]; decide) (by rw [q33_13]; decide) (by rw [q33_13]; rfl) rfl ?_
      refine ea_aload_n (pc := 665) dL_law_665 rfl 1 rfl ?_
      refine ea_aload_nO (pc := 666) dL_law_666 rfl 0 rfl ?_
      refine ea_iload_n (pc := 667) dL_law_667 rfl 3 rfl ?_
      refine ea_iconst (pc := 668) dL_law_668 (v := 1) rfl ?_
      refine ea_iadd (pc := 669) dL_law_669 ?_
      obtain ⟨w189, Ew189, E⟩ := bd_some E
      have hsw189 : ShL w189.2 := ShL_core ((kpX11_fault _ _) _ Ew189) hs
      refine ea_sld (pc := 670) dL_law_670 z188 ?_
      refine ea_callV (pc := 671) (d' := d - 1) (As := [vI ((ea_q h).2 (Int32.toNatClampNeg (x3 + (1 : Int32))))]) (st := []) dL_law_671 kX11_fault (sX11_fault (d := d - 1) (by omega) (hs).1 Ew189) (by omega) rfl (Nat.le_of_ble_eq_true rfl) ew_1049 ew_1050 ew_1051 (ci := 11) rfl (by decide) (cShL_0 hs).1 (cShL_0 hs).2.1 ?_
      obtain ⟨z190, E⟩ := gd_some E
      refine ea_aload_n (pc := 674) dL_law_674 rfl 2 rfl ?_
      refine ea_aload_nO (pc := 675) dL_law_675 rfl 0 rfl ?_
      refine ea_iload_n (pc := 676) dL_law_676 rfl 3 rfl ?_
      refine ea_iconst (pc := 677) dL_law_677 (v := 1) rfl ?_
      refine ea_iadd (pc := 678) dL_law_678 ?_
      obtain ⟨w191, Ew191, E⟩ := bd_some E
      have hsw191 : ShL w191.2 := ShL_core ((kpX12_fault _ _) _ Ew191) hsw189
      refine ea_sld (pc := 679) dL_law_679 z190 ?_
      refine ea_callV (pc := 680) (d' := d - 1) (As := [vI ((ea_q w189.2).2 (Int32.toNatClampNeg (x3 + (1 : Int32))))]) (st := [vI w189.1]) dL_law_680 kX12_fault (sX12_fault (d := d - 1) (by omega) (hsw189).2 Ew191) (by omega) rfl (Nat.le_of_ble_eq_true rfl) ew_2024 ew_2025 ew_2026 (ci := 12) rfl (by decide) (cShL_326 hsw189).1 (cShL_326 hsw189).2.1 ?_
      refine ea_icmp_eq (pc := 683) (tgt := 1574) dL_law_683 rfl (fun c192 => ?_) (fun c192 => ?_)
      · have E := (if_pos c192).symm.trans E
        refine ea_iinc (pc := 1574) (v := 7) (lv' := [(0, vO 0), (1, vR (some 0)), (2, vR (some 326)), (3, vI (x3 + (7 : Int32)))]) dL_law_1574 3 rfl rfl (Nat.le_of_ble_eq_true rfl) [1, 2, 3, 0] rfl ?_
        refine ea_goto (pc := 1577) (tgt := 18) dL_law_1577 rfl ?_
        exact (kJ18 ((x3 + (7 : Int32)) : Int32) w191.2 _ _ E hsw191)
      · have E := (if_neg c192).symm.trans E
        refine ea_iconst (pc := 686) dL_law_686 (v := 0) rfl ?_
        exact ea_iretO (pc := 687) dL_law_687 rfl (ea_bn (Or.inl rfl)) E
    have E := (if_neg q33_13).symm.trans E
    by_cases q33_14 : Int32.toInt (((ea_q h).2 (Int32.toNatClampNeg x3)) &&& (63 : Int32)) = 14
    · have E := (if_pos q33_14).symm.trans E
      obtain ⟨z181, E⟩ := gd_some E
      refine ea_tswIn (pc := 33) (tgt := 688) dL_law_33 (by rw [q33_14]; decide) (by rw [q33_14]; decide) (by rw [q33_14]; rfl) rfl ?_
      refine ea_aload_n (pc := 688) dL_law_688 rfl 1 rfl ?_
      refine ea_aload_nO (pc := 689) dL_law_689 rfl 0 rfl ?_
      refine ea_iload_n (pc := 690) dL_law_690 rfl 3 rfl ?_
      refine ea_iconst (pc := 691) dL_law_691 (v := 1) rfl ?_
      refine ea_iadd (pc := 692) dL_law_692 ?_
      obtain ⟨z182, E⟩ := gd_some E
      refine ea_sld (pc := 693) dL_law_693 z181 ?_
      refine ea_aload_nO (pc := 694) dL_law_694 rfl 0 rfl ?_
      refine ea_iload_n (pc := 695) dL_law_695 rfl 3 rfl ?_
      refine ea_iconst (pc := 696) dL_law_696 (v := 2) rfl ?_
      refine ea_iadd (pc := 697) dL_law_697 ?_
      obtain ⟨w183, Ew183, E⟩ := bd_some E
      have hsw183 : ShL w183.2 := ShL_core ((kpX11_inForce _ _ _) _ Ew183) hs
      refine ea_sld (pc := 698) dL_law_698 z182 ?_
      refine ea_callV (pc := 699) (d' := d - 1) (As := [vI ((ea_q h).2 (Int32.toNatClampNeg (x3 + (1 : Int32)))), vI ((ea_q h).2 (Int32.toNatClampNeg (x3 + (2 : Int32))))]) (st := []) dL_law_699 kX11_inForce (sX11_inForce (d := d - 1) (by omega) (hs).1 Ew183) (by omega) rfl (Nat.le_of_ble_eq_true rfl) ew_1053 ew_1054 ew_1055 (ci := 11) rfl (by decide) (cShL_0 hs).1 (cShL_0 hs).2.1 ?_
      obtain ⟨z184, E⟩ := gd_some E
      refine ea_aload_n (pc := 702) dL_law_702 rfl 2 rfl ?_
      refine ea_aload_nO (pc := 703) dL_law_703 rfl 0 rfl ?_
      refine ea_iload_n (pc := 704) dL_law_704 rfl 3 rfl ?_
      refine ea_iconst (pc := 705) dL_law_705 (v := 1) rfl ?_
      refine ea_iadd (pc := 706) dL_law_706 ?_
      obtain ⟨z185, E⟩ := gd_some E
      refine ea_sld (pc := 707) dL_law_707 z184 ?_
      refine ea_aload_nO (pc := 708) dL_law_708 rfl 0 rfl ?_
      refine ea_iload_n (pc := 709) dL_law_709 rfl 3 rfl ?_
      refine ea_iconst (pc := 710) dL_law_710 (v := 2) rfl ?_
      refine ea_iadd (pc := 711) dL_law_711 ?_
      obtain ⟨w186, Ew186, E⟩ := bd_some E
      have hsw186 : ShL w186.2 := ShL_core ((kpX12_inForce _ _ _) _ Ew186) hsw183
      refine ea_sld (pc := 712) dL_law_712 z185 ?_
      refine ea_callV (pc := 713) (d' := d - 1) (As := [vI ((ea_q w183.2).2 (Int32.toNatClampNeg (x3 + (1 : Int32)))), vI ((ea_q w183.2).2 (Int32.toNatClampNeg (x3 + (2 : Int32))))]) (st := [vI w183.1]) dL_law_713 kX12_inForce (sX12_inForce (d := d - 1) (by omega) (hsw183).2 Ew186) (by omega) rfl (Nat.le_of_ble_eq_true rfl) ew_2028 ew_2029 ew_2030 (ci := 12) rfl (by decide) (cShL_326 hsw183).1 (cShL_326 hsw183).2.1 ?_
      refine ea_icmp_eq (pc := 716) (tgt := 1574) dL_law_716 rfl (fun c187 => ?_) (fun c187 => ?_)
      · have E := (if_pos c187).symm.trans E
        refine ea_iinc (pc := 1574) (v := 7) (lv' := [(0, vO 0), (1, vR (some 0)), (2, vR (some 326)), (3, vI (x3 + (7 : Int32)))]) dL_law_1574 3 rfl rfl (Nat.le_of_ble_eq_true rfl) [1, 2, 3, 0] rfl ?_
        refine ea_goto (pc := 1577) (tgt := 18) dL_law_1577 rfl ?_
        exact (kJ18 ((x3 + (7 : Int32)) : Int32) w186.2 _ _ E hsw186)
      · have E := (if_neg c187).symm.trans E
        refine ea_iconst (pc := 719) dL_law_719 (v := 0) rfl ?_
        exact ea_iretO (pc := 720) dL_law_720 rfl (ea_bn (Or.inl rfl)) E
    have E := (if_neg q33_14).symm.trans E
    by_cases q33_15 : Int32.toInt (((ea_q h).2 (Int32.toNatClampNeg x3)) &&& (63 : Int32)) = 15
    · have E := (if_pos q33_15).symm.trans E
      obtain ⟨z166, E⟩ := gd_some E
      refine ea_tswIn (pc := 33) (tgt := 721) dL_law_33 (by rw [q33_15]; decide) (by rw [q33_15]; decide) (by rw [q33_15]; rfl) rfl ?_
      refine ea_aload_n (pc := 721) dL_law_721 rfl 1 rfl ?_
      refine ea_aload_nO (pc := 722) dL_law_722 rfl 0 rfl ?_
      refine ea_iload_n (pc := 723) dL_law_723 rfl 3 rfl ?_
      refine ea_iconst (pc := 724) dL_law_724 (v := 1) rfl ?_
      refine ea_iadd (pc := 725) dL_law_725 ?_
      obtain ⟨z167, E⟩ := gd_some E
      refine ea_sld (pc := 726) dL_law_726 z166 ?_
      refine ea_aload_nO (pc := 727) dL_law_727 rfl 0 rfl ?_
      refine ea_iload_n (pc := 728) dL_law_728 rfl 3 rfl ?_
      refine ea_iconst (pc := 729) dL_law_729 (v := 2) rfl ?_
      refine ea_iadd (pc := 730) dL_law_730 ?_
      obtain ⟨z168, E⟩ := gd_some E
      refine ea_sld (pc := 731) dL_law_731 z167 ?_
      refine ea_aload_nO (pc := 732) dL_law_732 rfl 0 rfl ?_
      refine ea_iload_n (pc := 733) dL_law_733 rfl 3 rfl ?_
      refine ea_iconst (pc := 734) dL_law_734 (v := 3) rfl ?_
      refine ea_iadd (pc := 735) dL_law_735 ?_
      obtain ⟨z169, E⟩ := gd_some E
      refine ea_sld (pc := 736) dL_law_736 z168 ?_
      refine ea_aload_nO (pc := 737) dL_law_737 rfl 0 rfl ?_
      refine ea_iload_n (pc := 738) dL_law_738 rfl 3 rfl ?_
      refine ea_iconst (pc := 739) dL_law_739 (v := 4) rfl ?_
      refine ea_iadd (pc := 740) dL_law_740 ?_
      obtain ⟨z170, E⟩ := gd_some E
      refine ea_sld (pc := 741) dL_law_741 z169 ?_
      refine ea_aload_nO (pc := 742) dL_law_742 rfl 0 rfl ?_
      refine ea_iload_n (pc := 743) dL_law_743 rfl 3 rfl ?_
      refine ea_iconst (pc := 744) dL_law_744 (v := 5) rfl ?_
      refine ea_iadd (pc := 745) dL_law_745 ?_
      obtain ⟨z171, E⟩ := gd_some E
      refine ea_sld (pc := 746) dL_law_746 z170 ?_
      refine ea_aload_nO (pc := 747) dL_law_747 rfl 0 rfl ?_
      refine ea_iload_n (pc := 748) dL_law_748 rfl 3 rfl ?_
      refine ea_bipush (pc := 749) dL_law_749 (v := 6) rfl ?_
      refine ea_iadd (pc := 751) dL_law_751 ?_
      obtain ⟨w172, Ew172, E⟩ := bd_some E
      have hsw172 : ShL w172.2 := ShL_core ((kpX11_post _ _ _ _ _ _ _) _ Ew172) hs
      refine ea_sld (pc := 752) dL_law_752 z171 ?_
      refine ea_callV (pc := 753) (d' := d - 1) (As := [vI ((ea_q h).2 (Int32.toNatClampNeg (x3 + (1 : Int32)))), vI ((ea_q h).2 (Int32.toNatClampNeg (x3 + (2 : Int32)))), vI ((ea_q h).2 (Int32.toNatClampNeg (x3 + (3 : Int32)))), vI ((ea_q h).2 (Int32.toNatClampNeg (x3 + (4 : Int32)))), vI ((ea_q h).2 (Int32.toNatClampNeg (x3 + (5 : Int32)))), vI ((ea_q h).2 (Int32.toNatClampNeg (x3 + (6 : Int32))))]) (st := []) dL_law_753 kX11_post (sX11_post (d := d - 1) (by omega) (hs).1 Ew172) (by omega) rfl (Nat.le_of_ble_eq_true rfl) ew_1065 ew_1066 ew_1067 (ci := 11) rfl (by decide) (cShL_0 hs).1 (cShL_0 hs).2.1 ?_
      obtain ⟨z173, E⟩ := gd_some E
      refine ea_aload_n (pc := 756) dL_law_756 rfl 2 rfl ?_
      refine ea_aload_nO (pc := 757) dL_law_757 rfl 0 rfl ?_
      refine ea_iload_n (pc := 758) dL_law_758 rfl 3 rfl ?_
      refine ea_iconst (pc := 759) dL_law_759 (v := 1) rfl ?_
      refine ea_iadd (pc := 760) dL_law_760 ?_
      obtain ⟨z174, E⟩ := gd_some E
      refine ea_sld (pc := 761) dL_law_761 z173 ?_
      refine ea_aload_nO (pc := 762) dL_law_762 rfl 0 rfl ?_
      refine ea_iload_n (pc := 763) dL_law_763 rfl 3 rfl ?_
      refine ea_iconst (pc := 764) dL_law_764 (v := 2) rfl ?_
      refine ea_iadd (pc := 765) dL_law_765 ?_
      obtain ⟨z175, E⟩ := gd_some E
      refine ea_sld (pc := 766) dL_law_766 z174 ?_
      refine ea_aload_nO (pc := 767) dL_law_767 rfl 0 rfl ?_
      refine ea_iload_n (pc := 768) dL_law_768 rfl 3 rfl ?_
      refine ea_iconst (pc := 769) dL_law_769 (v := 3) rfl ?_
      refine ea_iadd (pc := 770) dL_law_770 ?_
      obtain ⟨z176, E⟩ := gd_some E
      refine ea_sld (pc := 771) dL_law_771 z175 ?_
      refine ea_aload_nO (pc := 772) dL_law_772 rfl 0 rfl ?_
      refine ea_iload_n (pc := 773) dL_law_773 rfl 3 rfl ?_
      refine ea_iconst (pc := 774) dL_law_774 (v := 4) rfl ?_
      refine ea_iadd (pc := 775) dL_law_775 ?_
      obtain ⟨z177, E⟩ := gd_some E
      refine ea_sld (pc := 776) dL_law_776 z176 ?_
      refine ea_aload_nO (pc := 777) dL_law_777 rfl 0 rfl ?_
      refine ea_iload_n (pc := 778) dL_law_778 rfl 3 rfl ?_
      refine ea_iconst (pc := 779) dL_law_779 (v := 5) rfl ?_
      refine ea_iadd (pc := 780) dL_law_780 ?_
      obtain ⟨z178, E⟩ := gd_some E
      refine ea_sld (pc := 781) dL_law_781 z177 ?_
      refine ea_aload_nO (pc := 782) dL_law_782 rfl 0 rfl ?_
      refine ea_iload_n (pc := 783) dL_law_783 rfl 3 rfl ?_
      refine ea_bipush (pc := 784) dL_law_784 (v := 6) rfl ?_
      refine ea_iadd (pc := 786) dL_law_786 ?_
      obtain ⟨w179, Ew179, E⟩ := bd_some E
      have hsw179 : ShL w179.2 := ShL_core ((kpX12_post _ _ _ _ _ _ _) _ Ew179) hsw172
      refine ea_sld (pc := 787) dL_law_787 z178 ?_
      refine ea_callV (pc := 788) (d' := d - 1) (As := [vI ((ea_q w172.2).2 (Int32.toNatClampNeg (x3 + (1 : Int32)))), vI ((ea_q w172.2).2 (Int32.toNatClampNeg (x3 + (2 : Int32)))), vI ((ea_q w172.2).2 (Int32.toNatClampNeg (x3 + (3 : Int32)))), vI ((ea_q w172.2).2 (Int32.toNatClampNeg (x3 + (4 : Int32)))), vI ((ea_q w172.2).2 (Int32.toNatClampNeg (x3 + (5 : Int32)))), vI ((ea_q w172.2).2 (Int32.toNatClampNeg (x3 + (6 : Int32))))]) (st := [vI w172.1]) dL_law_788 kX12_post (sX12_post (d := d - 1) (by omega) (hsw172).2 Ew179) (by omega) rfl (Nat.le_of_ble_eq_true rfl) ew_2036 ew_2037 ew_2038 (ci := 12) rfl (by decide) (cShL_326 hsw172).1 (cShL_326 hsw172).2.1 ?_
      refine ea_icmp_eq (pc := 791) (tgt := 1574) dL_law_791 rfl (fun c180 => ?_) (fun c180 => ?_)
      · have E := (if_pos c180).symm.trans E
        refine ea_iinc (pc := 1574) (v := 7) (lv' := [(0, vO 0), (1, vR (some 0)), (2, vR (some 326)), (3, vI (x3 + (7 : Int32)))]) dL_law_1574 3 rfl rfl (Nat.le_of_ble_eq_true rfl) [1, 2, 3, 0] rfl ?_
        refine ea_goto (pc := 1577) (tgt := 18) dL_law_1577 rfl ?_
        exact (kJ18 ((x3 + (7 : Int32)) : Int32) w179.2 _ _ E hsw179)
      · have E := (if_neg c180).symm.trans E
        refine ea_iconst (pc := 794) dL_law_794 (v := 0) rfl ?_
        exact ea_iretO (pc := 795) dL_law_795 rfl (ea_bn (Or.inl rfl)) E
    have E := (if_neg q33_15).symm.trans E
    by_cases q33_16 : Int32.toInt (((ea_q h).2 (Int32.toNatClampNeg x3)) &&& (63 : Int32)) = 16
    · have E := (if_pos q33_16).symm.trans E
      obtain ⟨z159, E⟩ := gd_some E
      refine ea_tswIn (pc := 33) (tgt := 796) dL_law_33 (by rw [q33_16]; decide) (by rw [q33_16]; decide) (by rw [q33_16]; rfl) rfl ?_
      refine ea_aload_n (pc := 796) dL_law_796 rfl 1 rfl ?_
      refine ea_aload_nO (pc := 797) dL_law_797 rfl 0 rfl ?_
      refine ea_iload_n (pc := 798) dL_law_798 rfl 3 rfl ?_
      refine ea_iconst (pc := 799) dL_law_799 (v := 1) rfl ?_
      refine ea_iadd (pc := 800) dL_law_800 ?_
      obtain ⟨z160, E⟩ := gd_some E
      refine ea_sld (pc := 801) dL_law_801 z159 ?_
      refine ea_aload_nO (pc := 802) dL_law_802 rfl 0 rfl ?_
      refine ea_iload_n (pc := 803) dL_law_803 rfl 3 rfl ?_
      refine ea_iconst (pc := 804) dL_law_804 (v := 2) rfl ?_
      refine ea_iadd (pc := 805) dL_law_805 ?_
      obtain ⟨w161, Ew161, E⟩ := bd_some E
      have hsw161 : ShL w161.2 := ShL_core ((kpX11_of _ _ _) _ Ew161) hs
      refine ea_sld (pc := 806) dL_law_806 z160 ?_
      refine ea_callV (pc := 807) (d' := d - 1) (As := [vI ((ea_q h).2 (Int32.toNatClampNeg (x3 + (1 : Int32)))), vI ((ea_q h).2 (Int32.toNatClampNeg (x3 + (2 : Int32))))]) (st := []) dL_law_807 kX11_of (sX11_of (d := d - 1) (by omega) (hs).1 Ew161) (by omega) rfl (Nat.le_of_ble_eq_true rfl) ew_1126 ew_1127 ew_1128 (ci := 11) rfl (by decide) (cShL_0 hs).1 (cShL_0 hs).2.1 ?_
      obtain ⟨z162, E⟩ := gd_some E
      refine ea_aload_n (pc := 810) dL_law_810 rfl 2 rfl ?_
      refine ea_aload_nO (pc := 811) dL_law_811 rfl 0 rfl ?_
      refine ea_iload_n (pc := 812) dL_law_812 rfl 3 rfl ?_
      refine ea_iconst (pc := 813) dL_law_813 (v := 1) rfl ?_
      refine ea_iadd (pc := 814) dL_law_814 ?_
      obtain ⟨z163, E⟩ := gd_some E
      refine ea_sld (pc := 815) dL_law_815 z162 ?_
      refine ea_aload_nO (pc := 816) dL_law_816 rfl 0 rfl ?_
      refine ea_iload_n (pc := 817) dL_law_817 rfl 3 rfl ?_
      refine ea_iconst (pc := 818) dL_law_818 (v := 2) rfl ?_
      refine ea_iadd (pc := 819) dL_law_819 ?_
      obtain ⟨w164, Ew164, E⟩ := bd_some E
      have hsw164 : ShL w164.2 := ShL_core ((kpX12_of _ _ _) _ Ew164) hsw161
      refine ea_sld (pc := 820) dL_law_820 z163 ?_
      refine ea_callV (pc := 821) (d' := d - 1) (As := [vI ((ea_q w161.2).2 (Int32.toNatClampNeg (x3 + (1 : Int32)))), vI ((ea_q w161.2).2 (Int32.toNatClampNeg (x3 + (2 : Int32))))]) (st := [vI w161.1]) dL_law_821 kX12_of (sX12_of (d := d - 1) (by omega) (hsw161).2 Ew164) (by omega) rfl (Nat.le_of_ble_eq_true rfl) ew_2072 ew_2073 ew_2074 (ci := 12) rfl (by decide) (cShL_326 hsw161).1 (cShL_326 hsw161).2.1 ?_
      refine ea_icmp_eq (pc := 824) (tgt := 1574) dL_law_824 rfl (fun c165 => ?_) (fun c165 => ?_)
      · have E := (if_pos c165).symm.trans E
        refine ea_iinc (pc := 1574) (v := 7) (lv' := [(0, vO 0), (1, vR (some 0)), (2, vR (some 326)), (3, vI (x3 + (7 : Int32)))]) dL_law_1574 3 rfl rfl (Nat.le_of_ble_eq_true rfl) [1, 2, 3, 0] rfl ?_
        refine ea_goto (pc := 1577) (tgt := 18) dL_law_1577 rfl ?_
        exact (kJ18 ((x3 + (7 : Int32)) : Int32) w164.2 _ _ E hsw164)
      · have E := (if_neg c165).symm.trans E
        refine ea_iconst (pc := 827) dL_law_827 (v := 0) rfl ?_
        exact ea_iretO (pc := 828) dL_law_828 rfl (ea_bn (Or.inl rfl)) E
    have E := (if_neg q33_16).symm.trans E
    by_cases q33_17 : Int32.toInt (((ea_q h).2 (Int32.toNatClampNeg x3)) &&& (63 : Int32)) = 17
    · have E := (if_pos q33_17).symm.trans E
      obtain ⟨z152, E⟩ := gd_some E
      refine ea_tswIn (pc := 33) (tgt := 829) dL_law_33 (by rw [q33_17]; decide) (by rw [q33_17]; decide) (by rw [q33_17]; rfl) rfl ?_
      refine ea_aload_n (pc := 829) dL_law_829 rfl 1 rfl ?_
      refine ea_aload_nO (pc := 830) dL_law_830 rfl 0 rfl ?_
      refine ea_iload_n (pc := 831) dL_law_831 rfl 3 rfl ?_
      refine ea_iconst (pc := 832) dL_law_832 (v := 1) rfl ?_
      refine ea_iadd (pc := 833) dL_law_833 ?_
      obtain ⟨z153, E⟩ := gd_some E
      refine ea_sld (pc := 834) dL_law_834 z152 ?_
      refine ea_aload_nO (pc := 835) dL_law_835 rfl 0 rfl ?_
      refine ea_iload_n (pc := 836) dL_law_836 rfl 3 rfl ?_
      refine ea_iconst (pc := 837) dL_law_837 (v := 2) rfl ?_
      refine ea_iadd (pc := 838) dL_law_838 ?_
      obtain ⟨w154, Ew154, E⟩ := bd_some E
      have hsw154 : ShL w154.2 := ShL_core ((kpX11_charge _ _ _) _ Ew154) hs
      refine ea_sld (pc := 839) dL_law_839 z153 ?_
      refine ea_callV (pc := 840) (d' := d - 1) (As := [vI ((ea_q h).2 (Int32.toNatClampNeg (x3 + (1 : Int32)))), vI ((ea_q h).2 (Int32.toNatClampNeg (x3 + (2 : Int32))))]) (st := []) dL_law_840 kX11_charge (sX11_charge (d := d - 1) (by omega) (hs).1 Ew154) (by omega) rfl (Nat.le_of_ble_eq_true rfl) ew_1134 ew_1135 ew_1136 (ci := 11) rfl (by decide) (cShL_0 hs).1 (cShL_0 hs).2.1 ?_
      obtain ⟨z155, E⟩ := gd_some E
      refine ea_aload_n (pc := 843) dL_law_843 rfl 2 rfl ?_
      refine ea_aload_nO (pc := 844) dL_law_844 rfl 0 rfl ?_
      refine ea_iload_n (pc := 845) dL_law_845 rfl 3 rfl ?_
      refine ea_iconst (pc := 846) dL_law_846 (v := 1) rfl ?_
      refine ea_iadd (pc := 847) dL_law_847 ?_
      obtain ⟨z156, E⟩ := gd_some E
      refine ea_sld (pc := 848) dL_law_848 z155 ?_
      refine ea_aload_nO (pc := 849) dL_law_849 rfl 0 rfl ?_
      refine ea_iload_n (pc := 850) dL_law_850 rfl 3 rfl ?_
      refine ea_iconst (pc := 851) dL_law_851 (v := 2) rfl ?_
      refine ea_iadd (pc := 852) dL_law_852 ?_
      obtain ⟨w157, Ew157, E⟩ := bd_some E
      have hsw157 : ShL w157.2 := ShL_core ((kpX12_charge _ _ _) _ Ew157) hsw154
      refine ea_sld (pc := 853) dL_law_853 z156 ?_
      refine ea_callV (pc := 854) (d' := d - 1) (As := [vI ((ea_q w154.2).2 (Int32.toNatClampNeg (x3 + (1 : Int32)))), vI ((ea_q w154.2).2 (Int32.toNatClampNeg (x3 + (2 : Int32))))]) (st := [vI w154.1]) dL_law_854 kX12_charge (sX12_charge (d := d - 1) (by omega) (hsw154).2 Ew157) (by omega) rfl (Nat.le_of_ble_eq_true rfl) ew_2080 ew_2081 ew_2082 (ci := 12) rfl (by decide) (cShL_326 hsw154).1 (cShL_326 hsw154).2.1 ?_
      refine ea_icmp_eq (pc := 857) (tgt := 1574) dL_law_857 rfl (fun c158 => ?_) (fun c158 => ?_)
      · have E := (if_pos c158).symm.trans E
        refine ea_iinc (pc := 1574) (v := 7) (lv' := [(0, vO 0), (1, vR (some 0)), (2, vR (some 326)), (3, vI (x3 + (7 : Int32)))]) dL_law_1574 3 rfl rfl (Nat.le_of_ble_eq_true rfl) [1, 2, 3, 0] rfl ?_
        refine ea_goto (pc := 1577) (tgt := 18) dL_law_1577 rfl ?_
        exact (kJ18 ((x3 + (7 : Int32)) : Int32) w157.2 _ _ E hsw157)
      · have E := (if_neg c158).symm.trans E
        refine ea_iconst (pc := 860) dL_law_860 (v := 0) rfl ?_
        exact ea_iretO (pc := 861) dL_law_861 rfl (ea_bn (Or.inl rfl)) E
    have E := (if_neg q33_17).symm.trans E
    by_cases q33_18 : Int32.toInt (((ea_q h).2 (Int32.toNatClampNeg x3)) &&& (63 : Int32)) = 18
    · have E := (if_pos q33_18).symm.trans E
      obtain ⟨z141, E⟩ := gd_some E
      refine ea_tswIn (pc := 33) (tgt := 862) dL_law_33 (by rw [q33_18]; decide) (by rw [q33_18]; decide) (by rw [q33_18]; rfl) rfl ?_
      refine ea_aload_n (pc := 862) dL_law_862 rfl 1 rfl ?_
      refine ea_aload_nO (pc := 863) dL_law_863 rfl 0 rfl ?_
      refine ea_iload_n (pc := 864) dL_law_864 rfl 3 rfl ?_
      refine ea_iconst (pc := 865) dL_law_865 (v := 1) rfl ?_
      refine ea_iadd (pc := 866) dL_law_866 ?_
      obtain ⟨z142, E⟩ := gd_some E
      refine ea_sld (pc := 867) dL_law_867 z141 ?_
      refine ea_aload_nO (pc := 868) dL_law_868 rfl 0 rfl ?_
      refine ea_iload_n (pc := 869) dL_law_869 rfl 3 rfl ?_
      refine ea_iconst (pc := 870) dL_law_870 (v := 2) rfl ?_
      refine ea_iadd (pc := 871) dL_law_871 ?_
      obtain ⟨z143, E⟩ := gd_some E
      refine ea_sld (pc := 872) dL_law_872 z142 ?_
      refine ea_aload_nO (pc := 873) dL_law_873 rfl 0 rfl ?_
      refine ea_iload_n (pc := 874) dL_law_874 rfl 3 rfl ?_
      refine ea_iconst (pc := 875) dL_law_875 (v := 3) rfl ?_
      refine ea_iadd (pc := 876) dL_law_876 ?_
      obtain ⟨z144, E⟩ := gd_some E
      refine ea_sld (pc := 877) dL_law_877 z143 ?_
      refine ea_aload_nO (pc := 878) dL_law_878 rfl 0 rfl ?_
      refine ea_iload_n (pc := 879) dL_law_879 rfl 3 rfl ?_
      refine ea_iconst (pc := 880) dL_law_880 (v := 4) rfl ?_
      refine ea_iadd (pc := 881) dL_law_881 ?_
      obtain ⟨w145, Ew145, E⟩ := bd_some E
      have hsw145 : ShL w145.2 := ShL_core ((kpX11_way _ _ _ _ _) _ Ew145) hs
      refine ea_sld (pc := 882) dL_law_882 z144 ?_
      refine ea_callV (pc := 883) (d' := d - 1) (As := [vI ((ea_q h).2 (Int32.toNatClampNeg (x3 + (1 : Int32)))), vI ((ea_q h).2 (Int32.toNatClampNeg (x3 + (2 : Int32)))), vI ((ea_q h).2 (Int32.toNatClampNeg (x3 + (3 : Int32)))), vI ((ea_q h).2 (Int32.toNatClampNeg (x3 + (4 : Int32))))]) (st := []) dL_law_883 kX11_way (sX11_way (d := d - 1) (by omega) (hs).1 Ew145) (by omega) rfl (Nat.le_of_ble_eq_true rfl) ew_1142 ew_1143 ew_1144 (ci := 11) rfl (by decide) (cShL_0 hs).1 (cShL_0 hs).2.1 ?_
      obtain ⟨z146, E⟩ := gd_some E
      refine ea_aload_n (pc := 886) dL_law_886 rfl 2 rfl ?_
      refine ea_aload_nO (pc := 887) dL_law_887 rfl 0 rfl ?_
      refine ea_iload_n (pc := 888) dL_law_888 rfl 3 rfl ?_
      refine ea_iconst (pc := 889) dL_law_889 (v := 1) rfl ?_
      refine ea_iadd (pc := 890) dL_law_890 ?_
      obtain ⟨z147, E⟩ := gd_some E
      refine ea_sld (pc := 891) dL_law_891 z146 ?_
      refine ea_aload_nO (pc := 892) dL_law_892 rfl 0 rfl ?_
      refine ea_iload_n (pc := 893) dL_law_893 rfl 3 rfl ?_
      refine ea_iconst (pc := 894) dL_law_894 (v := 2) rfl ?_
      refine ea_iadd (pc := 895) dL_law_895 ?_
      obtain ⟨z148, E⟩ := gd_some E
      refine ea_sld (pc := 896) dL_law_896 z147 ?_
      refine ea_aload_nO (pc := 897) dL_law_897 rfl 0 rfl ?_
      refine ea_iload_n (pc := 898) dL_law_898 rfl 3 rfl ?_
      refine ea_iconst (pc := 899) dL_law_899 (v := 3) rfl ?_
      refine ea_iadd (pc := 900) dL_law_900 ?_
      obtain ⟨z149, E⟩ := gd_some E
      refine ea_sld (pc := 901) dL_law_901 z148 ?_
      refine ea_aload_nO (pc := 902) dL_law_902 rfl 0 rfl ?_
      refine ea_iload_n (pc := 903) dL_law_903 rfl 3 rfl ?_
      refine ea_iconst (pc := 904) dL_law_904 (v := 4) rfl ?_
      refine ea_iadd (pc := 905) dL_law_905 ?_
      obtain ⟨w150, Ew150, E⟩ := bd_some E
      have hsw150 : ShL w150.2 := ShL_core ((kpX12_way _ _ _ _ _) _ Ew150) hsw145
      refine ea_sld (pc := 906) dL_law_906 z149 ?_
      refine ea_callV (pc := 907) (d' := d - 1) (As := [vI ((ea_q w145.2).2 (Int32.toNatClampNeg (x3 + (1 : Int32)))), vI ((ea_q w145.2).2 (Int32.toNatClampNeg (x3 + (2 : Int32)))), vI ((ea_q w145.2).2 (Int32.toNatClampNeg (x3 + (3 : Int32)))), vI ((ea_q w145.2).2 (Int32.toNatClampNeg (x3 + (4 : Int32))))]) (st := [vI w145.1]) dL_law_907 kX12_way (sX12_way (d := d - 1) (by omega) (hsw145).2 Ew150) (by omega) rfl (Nat.le_of_ble_eq_true rfl) ew_1823 ew_1824 ew_1825 (ci := 12) rfl (by decide) (cShL_326 hsw145).1 (cShL_326 hsw145).2.1 ?_
      refine ea_icmp_eq (pc := 910) (tgt := 1574) dL_law_910 rfl (fun c151 => ?_) (fun c151 => ?_)
      · have E := (if_pos c151).symm.trans E
        refine ea_iinc (pc := 1574) (v := 7) (lv' := [(0, vO 0), (1, vR (some 0)), (2, vR (some 326)), (3, vI (x3 + (7 : Int32)))]) dL_law_1574 3 rfl rfl (Nat.le_of_ble_eq_true rfl) [1, 2, 3, 0] rfl ?_
        refine ea_goto (pc := 1577) (tgt := 18) dL_law_1577 rfl ?_
        exact (kJ18 ((x3 + (7 : Int32)) : Int32) w150.2 _ _ E hsw150)
      · have E := (if_neg c151).symm.trans E
        refine ea_iconst (pc := 913) dL_law_913 (v := 0) rfl ?_
        exact ea_iretO (pc := 914) dL_law_914 rfl (ea_bn (Or.inl rfl)) E
    have E := (if_neg q33_18).symm.trans E
    by_cases q33_19 : Int32.toInt (((ea_q h).2 (Int32.toNatClampNeg x3)) &&& (63 : Int32)) = 19
    · have E := (if_pos q33_19).symm.trans E
      obtain ⟨z132, E⟩ := gd_some E
      refine ea_tswIn (pc := 33) (tgt := 915) dL_law_33 (by rw [q33_19]; decide) (by rw [q33_19]; decide) (by rw [q33_19]; rfl) rfl ?_
      refine ea_aload_n (pc := 915) dL_law_915 rfl 1 rfl ?_
      refine ea_aload_nO (pc := 916) dL_law_916 rfl 0 rfl ?_
      refine ea_iload_n (pc := 917) dL_law_917 rfl 3 rfl ?_
      refine ea_iconst (pc := 918) dL_law_918 (v := 1) rfl ?_
      refine ea_iadd (pc := 919) dL_law_919 ?_
      obtain ⟨z133, E⟩ := gd_some E
      refine ea_sld (pc := 920) dL_law_920 z132 ?_
      refine ea_aload_nO (pc := 921) dL_law_921 rfl 0 rfl ?_
      refine ea_iload_n (pc := 922) dL_law_922 rfl 3 rfl ?_
      refine ea_iconst (pc := 923) dL_law_923 (v := 2) rfl ?_
      refine ea_iadd (pc := 924) dL_law_924 ?_
      obtain ⟨z134, E⟩ := gd_some E
      refine ea_sld (pc := 925) dL_law_925 z133 ?_
      refine ea_aload_nO (pc := 926) dL_law_926 rfl 0 rfl ?_
      refine ea_iload_n (pc := 927) dL_law_927 rfl 3 rfl ?_
      refine ea_iconst (pc := 928) dL_law_928 (v := 3) rfl ?_
      refine ea_iadd (pc := 929) dL_law_929 ?_
      obtain ⟨w135, Ew135, E⟩ := bd_some E
      have hsw135 : ShL w135.2 := ShL_core ((kpX11_lead _ _ _ _) _ Ew135) hs
      refine ea_sld (pc := 930) dL_law_930 z134 ?_
      refine ea_callV (pc := 931) (d' := d - 1) (As := [vI ((ea_q h).2 (Int32.toNatClampNeg (x3 + (1 : Int32)))), vI ((ea_q h).2 (Int32.toNatClampNeg (x3 + (2 : Int32)))), vI ((ea_q h).2 (Int32.toNatClampNeg (x3 + (3 : Int32))))]) (st := []) dL_law_931 kX11_lead (sX11_lead (d := d - 1) (by omega) (hs).1 Ew135) (by omega) rfl (Nat.le_of_ble_eq_true rfl) ew_1169 ew_1170 ew_1171 (ci := 11) rfl (by decide) (cShL_0 hs).1 (cShL_0 hs).2.1 ?_
      obtain ⟨z136, E⟩ := gd_some E
      refine ea_aload_n (pc := 934) dL_law_934 rfl 2 rfl ?_
      refine ea_aload_nO (pc := 935) dL_law_935 rfl 0 rfl ?_
      refine ea_iload_n (pc := 936) dL_law_936 rfl 3 rfl ?_
      refine ea_iconst (pc := 937) dL_law_937 (v := 1) rfl ?_
      refine ea_iadd (pc := 938) dL_law_938 ?_
      obtain ⟨z137, E⟩ := gd_some E
      refine ea_sld (pc := 939) dL_law_939 z136 ?_
      refine ea_aload_nO (pc := 940) dL_law_940 rfl 0 rfl ?_
      refine ea_iload_n (pc := 941) dL_law_941 rfl 3 rfl ?_
      refine ea_iconst (pc := 942) dL_law_942 (v := 2) rfl ?_
      refine ea_iadd (pc := 943) dL_law_943 ?_
      obtain ⟨z138, E⟩ := gd_some E
      refine ea_sld (pc := 944) dL_law_944 z137 ?_
      refine ea_aload_nO (pc := 945) dL_law_945 rfl 0 rfl ?_
      refine ea_iload_n (pc := 946) dL_law_946 rfl 3 rfl ?_
      refine ea_iconst (pc := 947) dL_law_947 (v := 3) rfl ?_
      refine ea_iadd (pc := 948) dL_law_948 ?_
      obtain ⟨w139, Ew139, E⟩ := bd_some E
      have hsw139 : ShL w139.2 := ShL_core ((kpX12_lead _ _ _ _) _ Ew139) hsw135
      refine ea_sld (pc := 949) dL_law_949 z138 ?_
      refine ea_callV (pc := 950) (d' := d - 1) (As := [vI ((ea_q w135.2).2 (Int32.toNatClampNeg (x3 + (1 : Int32)))), vI ((ea_q w135.2).2 (Int32.toNatClampNeg (x3 + (2 : Int32)))), vI ((ea_q w135.2).2 (Int32.toNatClampNeg (x3 + (3 : Int32))))]) (st := [vI w135.1]) dL_law_950 kX12_lead (sX12_lead (d := d - 1) (by omega) (hsw135).2 Ew139) (by omega) rfl (Nat.le_of_ble_eq_true rfl) ew_2092 ew_2093 ew_2094 (ci := 12) rfl (by decide) (cShL_326 hsw135).1 (cShL_326 hsw135).2.1 ?_
      refine ea_icmp_eq (pc := 953) (tgt := 1574) dL_law_953 rfl (fun c140 => ?_) (fun c140 => ?_)
      · have E := (if_pos c140).symm.trans E
        refine ea_iinc (pc := 1574) (v := 7) (lv' := [(0, vO 0), (1, vR (some 0)), (2, vR (some 326)), (3, vI (x3 + (7 : Int32)))]) dL_law_1574 3 rfl rfl (Nat.le_of_ble_eq_true rfl) [1, 2, 3, 0] rfl ?_
        refine ea_goto (pc := 1577) (tgt := 18) dL_law_1577 rfl ?_
        exact (kJ18 ((x3 + (7 : Int32)) : Int32) w139.2 _ _ E hsw139)
      · have E := (if_neg c140).symm.trans E
        refine ea_iconst (pc := 956) dL_law_956 (v := 0) rfl ?_
        exact ea_iretO (pc := 957) dL_law_957 rfl (ea_bn (Or.inl rfl)) E
    have E := (if_neg q33_19).symm.trans E
    by_cases q33_20 : Int32.toInt (((ea_q h).2 (Int32.toNatClampNeg x3)) &&& (63 : Int32)) = 20
    · have E := (if_pos q33_20).symm.trans E
      obtain ⟨z123, E⟩ := gd_some E
      refine ea_tswIn (pc := 33) (tgt := 958) dL_law_33 (by rw [q33_20]; decide) (by rw [q33_20]; decide) (by rw [q33_20]; rfl) rfl ?_
      refine ea_aload_n (pc := 958) dL_law_958 rfl 1 rfl ?_
      refine ea_aload_nO (pc := 959) dL_law_959 rfl 0 rfl ?_
      refine ea_iload_n (pc := 960) dL_law_960 rfl 3 rfl ?_
      refine ea_iconst (pc := 961) dL_law_961 (v := 1) rfl ?_
      refine ea_iadd (pc := 962) dL_law_962 ?_
      obtain ⟨z124, E⟩ := gd_some E
      refine ea_sld (pc := 963) dL_law_963 z123 ?_
      refine ea_aload_nO (pc := 964) dL_law_964 rfl 0 rfl ?_
      refine ea_iload_n (pc := 965) dL_law_965 rfl 3 rfl ?_
      refine ea_iconst (pc := 966) dL_law_966 (v := 2) rfl ?_
      refine ea_iadd (pc := 967) dL_law_967 ?_
      obtain ⟨z125, E⟩ := gd_some E
      refine ea_sld (pc := 968) dL_law_968 z124 ?_
      refine ea_aload_nO (pc := 969) dL_law_969 rfl 0 rfl ?_
      refine ea_iload_n (pc := 970) dL_law_970 rfl 3 rfl ?_
      refine ea_iconst (pc := 971) dL_law_971 (v := 3) rfl ?_
      refine ea_iadd (pc := 972) dL_law_972 ?_
      obtain ⟨w126, Ew126, E⟩ := bd_some E
      have hsw126 : ShL w126.2 := ShL_core ((kpX11_where _ _ _ _) _ Ew126) hs
      refine ea_sld (pc := 973) dL_law_973 z125 ?_
      refine ea_callV (pc := 974) (d' := d - 1) (As := [vI ((ea_q h).2 (Int32.toNatClampNeg (x3 + (1 : Int32)))), vI ((ea_q h).2 (Int32.toNatClampNeg (x3 + (2 : Int32)))), vI ((ea_q h).2 (Int32.toNatClampNeg (x3 + (3 : Int32))))]) (st := []) dL_law_974 kX11_where (sX11_where (d := d - 1) (by omega) (hs).1 Ew126) (by omega) rfl (Nat.le_of_ble_eq_true rfl) ew_1204 ew_1205 ew_1206 (ci := 11) rfl (by decide) (cShL_0 hs).1 (cShL_0 hs).2.1 ?_
      obtain ⟨z127, E⟩ := gd_some E
      refine ea_aload_n (pc := 977) dL_law_977 rfl 2 rfl ?_
      refine ea_aload_nO (pc := 978) dL_law_978 rfl 0 rfl ?_
      refine ea_iload_n (pc := 979) dL_law_979 rfl 3 rfl ?_
      refine ea_iconst (pc := 980) dL_law_980 (v := 1) rfl ?_
      refine ea_iadd (pc := 981) dL_law_981 ?_
      obtain ⟨z128, E⟩ := gd_some E
      refine ea_sld (pc := 982) dL_law_982 z127 ?_
      refine ea_aload_nO (pc := 983) dL_law_983 rfl 0 rfl ?_
      refine ea_iload_n (pc := 984) dL_law_984 rfl 3 rfl ?_
      refine ea_iconst (pc := 985) dL_law_985 (v := 2) rfl ?_
      refine ea_iadd (pc := 986) dL_law_986 ?_
      obtain ⟨z129, E⟩ := gd_some E
      refine ea_sld (pc := 987) dL_law_987 z128 ?_
      refine ea_aload_nO (pc := 988) dL_law_988 rfl 0 rfl ?_
      refine ea_iload_n (pc := 989) dL_law_989 rfl 3 rfl ?_
      refine ea_iconst (pc := 990) dL_law_990 (v := 3) rfl ?_
      refine ea_iadd (pc := 991) dL_law_991 ?_
      obtain ⟨w130, Ew130, E⟩ := bd_some E
      have hsw130 : ShL w130.2 := ShL_core ((kpX12_where _ _ _ _) _ Ew130) hsw126
      refine ea_sld (pc := 992) dL_law_992 z129 ?_
      refine ea_callV (pc := 993) (d' := d - 1) (As := [vI ((ea_q w126.2).2 (Int32.toNatClampNeg (x3 + (1 : Int32)))), vI ((ea_q w126.2).2 (Int32.toNatClampNeg (x3 + (2 : Int32)))), vI ((ea_q w126.2).2 (Int32.toNatClampNeg (x3 + (3 : Int32))))]) (st := [vI w126.1]) dL_law_993 kX12_where (sX12_where (d := d - 1) (by omega) (hsw126).2 Ew130) (by omega) rfl (Nat.le_of_ble_eq_true rfl) ew_2096 ew_2097 ew_2098 (ci := 12) rfl (by decide) (cShL_326 hsw126).1 (cShL_326 hsw126).2.1 ?_
      refine ea_icmp_eq (pc := 996) (tgt := 1574) dL_law_996 rfl (fun c131 => ?_) (fun c131 => ?_)
      · have E := (if_pos c131).symm.trans E
        refine ea_iinc (pc := 1574) (v := 7) (lv' := [(0, vO 0), (1, vR (some 0)), (2, vR (some 326)), (3, vI (x3 + (7 : Int32)))]) dL_law_1574 3 rfl rfl (Nat.le_of_ble_eq_true rfl) [1, 2, 3, 0] rfl ?_
        refine ea_goto (pc := 1577) (tgt := 18) dL_law_1577 rfl ?_
        exact (kJ18 ((x3 + (7 : Int32)) : Int32) w130.2 _ _ E hsw130)
      · have E := (if_neg c131).symm.trans E
        refine ea_iconst (pc := 999) dL_law_999 (v := 0) rfl ?_
        exact ea_iretO (pc := 1000) dL_law_1000 rfl (ea_bn (Or.inl rfl)) E
    have E := (if_neg q33_20).symm.trans E
    by_cases q33_21 : Int32.toInt (((ea_q h).2 (Int32.toNatClampNeg x3)) &&& (63 : Int32)) = 21
    · have E := (if_pos q33_21).symm.trans E
      obtain ⟨z116, E⟩ := gd_some E
      refine ea_tswIn (pc := 33) (tgt := 1001) dL_law_33 (by rw [q33_21]; decide) (by rw [q33_21]; decide) (by rw [q33_21]; rfl) rfl ?_
      refine ea_aload_n (pc := 1001) dL_law_1001 rfl 1 rfl ?_
      refine ea_aload_nO (pc := 1002) dL_law_1002 rfl 0 rfl ?_
      refine ea_iload_n (pc := 1003) dL_law_1003 rfl 3 rfl ?_
      refine ea_iconst (pc := 1004) dL_law_1004 (v := 1) rfl ?_
      refine ea_iadd (pc := 1005) dL_law_1005 ?_
      obtain ⟨z117, E⟩ := gd_some E
      refine ea_sld (pc := 1006) dL_law_1006 z116 ?_
      refine ea_aload_nO (pc := 1007) dL_law_1007 rfl 0 rfl ?_
      refine ea_iload_n (pc := 1008) dL_law_1008 rfl 3 rfl ?_
      refine ea_iconst (pc := 1009) dL_law_1009 (v := 2) rfl ?_
      refine ea_iadd (pc := 1010) dL_law_1010 ?_
      obtain ⟨w118, Ew118, E⟩ := bd_some E
      have hsw118 : ShL w118.2 := ShL_core ((kpX11_sorter _ _ _) _ Ew118) hs
      refine ea_sld (pc := 1011) dL_law_1011 z117 ?_
      refine ea_callV (pc := 1012) (d' := d - 1) (As := [vI ((ea_q h).2 (Int32.toNatClampNeg (x3 + (1 : Int32)))), vI ((ea_q h).2 (Int32.toNatClampNeg (x3 + (2 : Int32))))]) (st := []) dL_law_1012 kX11_sorter (sX11_sorter (d := d - 1) (by omega) (hs).1 Ew118) (by omega) rfl (Nat.le_of_ble_eq_true rfl) ew_1208 ew_1209 ew_1210 (ci := 11) rfl (by decide) (cShL_0 hs).1 (cShL_0 hs).2.1 ?_
      obtain ⟨z119, E⟩ := gd_some E
      refine ea_aload_n (pc := 1015) dL_law_1015 rfl 2 rfl ?_
      refine ea_aload_nO (pc := 1016) dL_law_1016 rfl 0 rfl ?_
      refine ea_iload_n (pc := 1017) dL_law_1017 rfl 3 rfl ?_
      refine ea_iconst (pc := 1018) dL_law_1018 (v := 1) rfl ?_
      refine ea_iadd (pc := 1019) dL_law_1019 ?_
      obtain ⟨z120, E⟩ := gd_some E
      refine ea_sld (pc := 1020) dL_law_1020 z119 ?_
      refine ea_aload_nO (pc := 1021) dL_law_1021 rfl 0 rfl ?_
      refine ea_iload_n (pc := 1022) dL_law_1022 rfl 3 rfl ?_
      refine ea_iconst (pc := 1023) dL_law_1023 (v := 2) rfl ?_
      refine ea_iadd (pc := 1024) dL_law_1024 ?_
      obtain ⟨w121, Ew121, E⟩ := bd_some E
      have hsw121 : ShL w121.2 := ShL_core ((kpX12_sorter _ _ _) _ Ew121) hsw118
      refine ea_sld (pc := 1025) dL_law_1025 z120 ?_
      refine ea_callV (pc := 1026) (d' := d - 1) (As := [vI ((ea_q w118.2).2 (Int32.toNatClampNeg (x3 + (1 : Int32)))), vI ((ea_q w118.2).2 (Int32.toNatClampNeg (x3 + (2 : Int32))))]) (st := [vI w118.1]) dL_law_1026 kX12_sorter (sX12_sorter (d := d - 1) (by omega) (hsw118).2 Ew121) (by omega) rfl (Nat.le_of_ble_eq_true rfl) ew_2100 ew_2101 ew_2102 (ci := 12) rfl (by decide) (cShL_326 hsw118).1 (cShL_326 hsw118).2.1 ?_
      refine ea_icmp_eq (pc := 1029) (tgt := 1574) dL_law_1029 rfl (fun c122 => ?_) (fun c122 => ?_)
      · have E := (if_pos c122).symm.trans E
        refine ea_iinc (pc := 1574) (v := 7) (lv' := [(0, vO 0), (1, vR (some 0)), (2, vR (some 326)), (3, vI (x3 + (7 : Int32)))]) dL_law_1574 3 rfl rfl (Nat.le_of_ble_eq_true rfl) [1, 2, 3, 0] rfl ?_
        refine ea_goto (pc := 1577) (tgt := 18) dL_law_1577 rfl ?_
        exact (kJ18 ((x3 + (7 : Int32)) : Int32) w121.2 _ _ E hsw121)
      · have E := (if_neg c122).symm.trans E
        refine ea_iconst (pc := 1032) dL_law_1032 (v := 0) rfl ?_
        exact ea_iretO (pc := 1033) dL_law_1033 rfl (ea_bn (Or.inl rfl)) E
    have E := (if_neg q33_21).symm.trans E
    by_cases q33_22 : Int32.toInt (((ea_q h).2 (Int32.toNatClampNeg x3)) &&& (63 : Int32)) = 22
    · have E := (if_pos q33_22).symm.trans E
      obtain ⟨z109, E⟩ := gd_some E
      refine ea_tswIn (pc := 33) (tgt := 1034) dL_law_33 (by rw [q33_22]; decide) (by rw [q33_22]; decide) (by rw [q33_22]; rfl) rfl ?_
      refine ea_aload_n (pc := 1034) dL_law_1034 rfl 1 rfl ?_
      refine ea_aload_nO (pc := 1035) dL_law_1035 rfl 0 rfl ?_
      refine ea_iload_n (pc := 1036) dL_law_1036 rfl 3 rfl ?_
      refine ea_iconst (pc := 1037) dL_law_1037 (v := 1) rfl ?_
      refine ea_iadd (pc := 1038) dL_law_1038 ?_
      obtain ⟨z110, E⟩ := gd_some E
      refine ea_sld (pc := 1039) dL_law_1039 z109 ?_
      refine ea_aload_nO (pc := 1040) dL_law_1040 rfl 0 rfl ?_
      refine ea_iload_n (pc := 1041) dL_law_1041 rfl 3 rfl ?_
      refine ea_iconst (pc := 1042) dL_law_1042 (v := 2) rfl ?_
      refine ea_iadd (pc := 1043) dL_law_1043 ?_
      obtain ⟨w111, Ew111, E⟩ := bd_some E
      have hsw111 : ShL w111.2 := ShL_core ((kpX11_seat _ _ _) _ Ew111) hs
      refine ea_sld (pc := 1044) dL_law_1044 z110 ?_
      refine ea_callV (pc := 1045) (d' := d - 1) (As := [vI ((ea_q h).2 (Int32.toNatClampNeg (x3 + (1 : Int32)))), vI ((ea_q h).2 (Int32.toNatClampNeg (x3 + (2 : Int32))))]) (st := []) dL_law_1045 kX11_seat (sX11_seat (d := d - 1) (by omega) (hs).1 Ew111) (by omega) rfl (Nat.le_of_ble_eq_true rfl) ew_1216 ew_1217 ew_1218 (ci := 11) rfl (by decide) (cShL_0 hs).1 (cShL_0 hs).2.1 ?_
      obtain ⟨z112, E⟩ := gd_some E
      refine ea_aload_n (pc := 1048) dL_law_1048 rfl 2 rfl ?_
      refine ea_aload_nO (pc := 1049) dL_law_1049 rfl 0 rfl ?_
      refine ea_iload_n (pc := 1050) dL_law_1050 rfl 3 rfl ?_
      refine ea_iconst (pc := 1051) dL_law_1051 (v := 1) rfl ?_
      refine ea_iadd (pc := 1052) dL_law_1052 ?_
      obtain ⟨z113, E⟩ := gd_some E
      refine ea_sld (pc := 1053) dL_law_1053 z112 ?_
      refine ea_aload_nO (pc := 1054) dL_law_1054 rfl 0 rfl ?_
      refine ea_iload_n (pc := 1055) dL_law_1055 rfl 3 rfl ?_
      refine ea_iconst (pc := 1056) dL_law_1056 (v := 2) rfl ?_
      refine ea_iadd (pc := 1057) dL_law_1057 ?_
      obtain ⟨w114, Ew114, E⟩ := bd_some E
      have hsw114 : ShL w114.2 := ShL_core ((kpX12_seat _ _ _) _ Ew114) hsw111
      refine ea_sld (pc := 1058) dL_law_1058 z113 ?_
      refine ea_callV (pc := 1059) (d' := d - 1) (As := [vI ((ea_q w111.2).2 (Int32.toNatClampNeg (x3 + (1 : Int32)))), vI ((ea_q w111.2).2 (Int32.toNatClampNeg (x3 + (2 : Int32))))]) (st := [vI w111.1]) dL_law_1059 kX12_seat (sX12_seat (d := d - 1) (by omega) (hsw111).2 Ew114) (by omega) rfl (Nat.le_of_ble_eq_true rfl) ew_2104 ew_2105 ew_2106 (ci := 12) rfl (by decide) (cShL_326 hsw111).1 (cShL_326 hsw111).2.1 ?_
      refine ea_icmp_eq (pc := 1062) (tgt := 1574) dL_law_1062 rfl (fun c115 => ?_) (fun c115 => ?_)
      · have E := (if_pos c115).symm.trans E
        refine ea_iinc (pc := 1574) (v := 7) (lv' := [(0, vO 0), (1, vR (some 0)), (2, vR (some 326)), (3, vI (x3 + (7 : Int32)))]) dL_law_1574 3 rfl rfl (Nat.le_of_ble_eq_true rfl) [1, 2, 3, 0] rfl ?_
        refine ea_goto (pc := 1577) (tgt := 18) dL_law_1577 rfl ?_
        exact (kJ18 ((x3 + (7 : Int32)) : Int32) w114.2 _ _ E hsw114)
      · have E := (if_neg c115).symm.trans E
        refine ea_iconst (pc := 1065) dL_law_1065 (v := 0) rfl ?_
        exact ea_iretO (pc := 1066) dL_law_1066 rfl (ea_bn (Or.inl rfl)) E
    have E := (if_neg q33_22).symm.trans E
    by_cases q33_23 : Int32.toInt (((ea_q h).2 (Int32.toNatClampNeg x3)) &&& (63 : Int32)) = 23
    · have E := (if_pos q33_23).symm.trans E
      obtain ⟨z100, E⟩ := gd_some E
      refine ea_tswIn (pc := 33) (tgt := 1067) dL_law_33 (by rw [q33_23]; decide) (by rw [q33_23]; decide) (by rw [q33_23]; rfl) rfl ?_
      refine ea_aload_n (pc := 1067) dL_law_1067 rfl 1 rfl ?_
      refine ea_aload_nO (pc := 1068) dL_law_1068 rfl 0 rfl ?_
      refine ea_iload_n (pc := 1069) dL_law_1069 rfl 3 rfl ?_
      refine ea_iconst (pc := 1070) dL_law_1070 (v := 1) rfl ?_
      refine ea_iadd (pc := 1071) dL_law_1071 ?_
      obtain ⟨z101, E⟩ := gd_some E
      refine ea_sld (pc := 1072) dL_law_1072 z100 ?_
      refine ea_aload_nO (pc := 1073) dL_law_1073 rfl 0 rfl ?_
      refine ea_iload_n (pc := 1074) dL_law_1074 rfl 3 rfl ?_
      refine ea_iconst (pc := 1075) dL_law_1075 (v := 2) rfl ?_
      refine ea_iadd (pc := 1076) dL_law_1076 ?_
      obtain ⟨z102, E⟩ := gd_some E
      refine ea_sld (pc := 1077) dL_law_1077 z101 ?_
      refine ea_aload_nO (pc := 1078) dL_law_1078 rfl 0 rfl ?_
      refine ea_iload_n (pc := 1079) dL_law_1079 rfl 3 rfl ?_
      refine ea_iconst (pc := 1080) dL_law_1080 (v := 3) rfl ?_
      refine ea_iadd (pc := 1081) dL_law_1081 ?_
      obtain ⟨w103, Ew103, E⟩ := bd_some E
      have hsw103 : ShL w103.2 := ShL_core ((kpX11_run _ _ _ _) _ Ew103) hs
      refine ea_sld (pc := 1082) dL_law_1082 z102 ?_
      refine ea_callV (pc := 1083) (d' := d - 1) (As := [vI ((ea_q h).2 (Int32.toNatClampNeg (x3 + (1 : Int32)))), vI ((ea_q h).2 (Int32.toNatClampNeg (x3 + (2 : Int32)))), vI ((ea_q h).2 (Int32.toNatClampNeg (x3 + (3 : Int32))))]) (st := []) dL_law_1083 kX11_run (sX11_run (d := d - 1) (by omega) (hs).1 Ew103) (by omega) rfl (Nat.le_of_ble_eq_true rfl) ew_1220 ew_1221 ew_1222 (ci := 11) rfl (by decide) (cShL_0 hs).1 (cShL_0 hs).2.1 ?_
      obtain ⟨z104, E⟩ := gd_some E
      refine ea_aload_n (pc := 1086) dL_law_1086 rfl 2 rfl ?_
      refine ea_aload_nO (pc := 1087) dL_law_1087 rfl 0 rfl ?_
      refine ea_iload_n (pc := 1088) dL_law_1088 rfl 3 rfl ?_
      refine ea_iconst (pc := 1089) dL_law_1089 (v := 1) rfl ?_
      refine ea_iadd (pc := 1090) dL_law_1090 ?_
      obtain ⟨z105, E⟩ := gd_some E
      refine ea_sld (pc := 1091) dL_law_1091 z104 ?_
      refine ea_aload_nO (pc := 1092) dL_law_1092 rfl 0 rfl ?_
      refine ea_iload_n (pc := 1093) dL_law_1093 rfl 3 rfl ?_
      refine ea_iconst (pc := 1094) dL_law_1094 (v := 2) rfl ?_
      refine ea_iadd (pc := 1095) dL_law_1095 ?_
      obtain ⟨z106, E⟩ := gd_some E
      refine ea_sld (pc := 1096) dL_law_1096 z105 ?_
      refine ea_aload_nO (pc := 1097) dL_law_1097 rfl 0 rfl ?_
      refine ea_iload_n (pc := 1098) dL_law_1098 rfl 3 rfl ?_
      refine ea_iconst (pc := 1099) dL_law_1099 (v := 3) rfl ?_
      refine ea_iadd (pc := 1100) dL_law_1100 ?_
      obtain ⟨w107, Ew107, E⟩ := bd_some E
      have hsw107 : ShL w107.2 := ShL_core ((kpX12_run_ _ _ _ _) _ Ew107) hsw103
      refine ea_sld (pc := 1101) dL_law_1101 z106 ?_
      refine ea_callV (pc := 1102) (d' := d - 1) (As := [vI ((ea_q w103.2).2 (Int32.toNatClampNeg (x3 + (1 : Int32)))), vI ((ea_q w103.2).2 (Int32.toNatClampNeg (x3 + (2 : Int32)))), vI ((ea_q w103.2).2 (Int32.toNatClampNeg (x3 + (3 : Int32))))]) (st := [vI w103.1]) dL_law_1102 kX12_run_ (sX12_run_ (d := d - 1) (by omega) (hsw103).2 Ew107) (by omega) rfl (Nat.le_of_ble_eq_true rfl) ew_2147 ew_2148 ew_2149 (ci := 12) rfl (by decide) (cShL_326 hsw103).1 (cShL_326 hsw103).2.1 ?_
      refine ea_icmp_eq (pc := 1105) (tgt := 1574) dL_law_1105 rfl (fun c108 => ?_) (fun c108 => ?_)
      · have E := (if_pos c108).symm.trans E
        refine ea_iinc (pc := 1574) (v := 7) (lv' := [(0, vO 0), (1, vR (some 0)), (2, vR (some 326)), (3, vI (x3 + (7 : Int32)))]) dL_law_1574 3 rfl rfl (Nat.le_of_ble_eq_true rfl) [1, 2, 3, 0] rfl ?_
        refine ea_goto (pc := 1577) (tgt := 18) dL_law_1577 rfl ?_
        exact (kJ18 ((x3 + (7 : Int32)) : Int32) w107.2 _ _ E hsw107)
      · have E := (if_neg c108).symm.trans E
        refine ea_iconst (pc := 1108) dL_law_1108 (v := 0) rfl ?_
        exact ea_iretO (pc := 1109) dL_law_1109 rfl (ea_bn (Or.inl rfl)) E
    have E := (if_neg q33_23).symm.trans E
    by_cases q33_24 : Int32.toInt (((ea_q h).2 (Int32.toNatClampNeg x3)) &&& (63 : Int32)) = 24
    · have E := (if_pos q33_24).symm.trans E
      obtain ⟨z91, E⟩ := gd_some E
      refine ea_tswIn (pc := 33) (tgt := 1110) dL_law_33 (by rw [q33_24]; decide) (by rw [q33_24]; decide) (by rw [q33_24]; rfl) rfl ?_
      refine ea_aload_n (pc := 1110) dL_law_1110 rfl 1 rfl ?_
      refine ea_aload_nO (pc := 1111) dL_law_1111 rfl 0 rfl ?_
      refine ea_iload_n (pc := 1112) dL_law_1112 rfl 3 rfl ?_
      refine ea_iconst (pc := 1113) dL_law_1113 (v := 1) rfl ?_
      refine ea_iadd (pc := 1114) dL_law_1114 ?_
      obtain ⟨z92, E⟩ := gd_some E
      refine ea_sld (pc := 1115) dL_law_1115 z91 ?_
      refine ea_aload_nO (pc := 1116) dL_law_1116 rfl 0 rfl ?_
      refine ea_iload_n (pc := 1117) dL_law_1117 rfl 3 rfl ?_
      refine ea_iconst (pc := 1118) dL_law_1118 (v := 2) rfl ?_
      refine ea_iadd (pc := 1119) dL_law_1119 ?_
      obtain ⟨z93, E⟩ := gd_some E
      refine ea_sld (pc := 1120) dL_law_1120 z92 ?_
      refine ea_aload_nO (pc := 1121) dL_law_1121 rfl 0 rfl ?_
      refine ea_iload_n (pc := 1122) dL_law_1122 rfl 3 rfl ?_
      refine ea_iconst (pc := 1123) dL_law_1123 (v := 3) rfl ?_
      refine ea_iadd (pc := 1124) dL_law_1124 ?_
      obtain ⟨w94, Ew94, E⟩ := bd_some E
      have hsw94 : ShL w94.2 := ShL_core ((kpX11_account _ _ _ _) _ Ew94) hs
      refine ea_sld (pc := 1125) dL_law_1125 z93 ?_
      refine ea_callV (pc := 1126) (d' := d - 1) (As := [vI ((ea_q h).2 (Int32.toNatClampNeg (x3 + (1 : Int32)))), vI ((ea_q h).2 (Int32.toNatClampNeg (x3 + (2 : Int32)))), vI ((ea_q h).2 (Int32.toNatClampNeg (x3 + (3 : Int32))))]) (st := []) dL_law_1126 kX11_account (sX11_account (d := d - 1) (by omega) (hs).1 Ew94) (by omega) rfl (Nat.le_of_ble_eq_true rfl) ew_1233 ew_1234 ew_1235 (ci := 11) rfl (by decide) (cShL_0 hs).1 (cShL_0 hs).2.1 ?_
      obtain ⟨z95, E⟩ := gd_some E
      refine ea_aload_n (pc := 1129) dL_law_1129 rfl 2 rfl ?_
      refine ea_aload_nO (pc := 1130) dL_law_1130 rfl 0 rfl ?_
      refine ea_iload_n (pc := 1131) dL_law_1131 rfl 3 rfl ?_
      refine ea_iconst (pc := 1132) dL_law_1132 (v := 1) rfl ?_
      refine ea_iadd (pc := 1133) dL_law_1133 ?_
      obtain ⟨z96, E⟩ := gd_some E
      refine ea_sld (pc := 1134) dL_law_1134 z95 ?_
      refine ea_aload_nO (pc := 1135) dL_law_1135 rfl 0 rfl ?_
      refine ea_iload_n (pc := 1136) dL_law_1136 rfl 3 rfl ?_
      refine ea_iconst (pc := 1137) dL_law_1137 (v := 2) rfl ?_
      refine ea_iadd (pc := 1138) dL_law_1138 ?_
      obtain ⟨z97, E⟩ := gd_some E
      refine ea_sld (pc := 1139) dL_law_1139 z96 ?_
      refine ea_aload_nO (pc := 1140) dL_law_1140 rfl 0 rfl ?_
      refine ea_iload_n (pc := 1141) dL_law_1141 rfl 3 rfl ?_
      refine ea_iconst (pc := 1142) dL_law_1142 (v := 3) rfl ?_
      refine ea_iadd (pc := 1143) dL_law_1143 ?_
      obtain ⟨w98, Ew98, E⟩ := bd_some E
      have hsw98 : ShL w98.2 := ShL_core ((kpX12_account _ _ _ _) _ Ew98) hsw94
      refine ea_sld (pc := 1144) dL_law_1144 z97 ?_
      refine ea_callV (pc := 1145) (d' := d - 1) (As := [vI ((ea_q w94.2).2 (Int32.toNatClampNeg (x3 + (1 : Int32)))), vI ((ea_q w94.2).2 (Int32.toNatClampNeg (x3 + (2 : Int32)))), vI ((ea_q w94.2).2 (Int32.toNatClampNeg (x3 + (3 : Int32))))]) (st := [vI w94.1]) dL_law_1145 kX12_account (sX12_account (d := d - 1) (by omega) (hsw94).2 Ew98) (by omega) rfl (Nat.le_of_ble_eq_true rfl) ew_2155 ew_2156 ew_2157 (ci := 12) rfl (by decide) (cShL_326 hsw94).1 (cShL_326 hsw94).2.1 ?_
      refine ea_icmp_eq (pc := 1148) (tgt := 1574) dL_law_1148 rfl (fun c99 => ?_) (fun c99 => ?_)
      · have E := (if_pos c99).symm.trans E
        refine ea_iinc (pc := 1574) (v := 7) (lv' := [(0, vO 0), (1, vR (some 0)), (2, vR (some 326)), (3, vI (x3 + (7 : Int32)))]) dL_law_1574 3 rfl rfl (Nat.le_of_ble_eq_true rfl) [1, 2, 3, 0] rfl ?_
        refine ea_goto (pc := 1577) (tgt := 18) dL_law_1577 rfl ?_
        exact (kJ18 ((x3 + (7 : Int32)) : Int32) w98.2 _ _ E hsw98)
      · have E := (if_neg c99).symm.trans E
        refine ea_iconst (pc := 1151) dL_law_1151 (v := 0) rfl ?_
        exact ea_iretO (pc := 1152) dL_law_1152 rfl (ea_bn (Or.inl rfl)) E
    have E := (if_neg q33_24).symm.trans E
    by_cases q33_25 : Int32.toInt (((ea_q h).2 (Int32.toNatClampNeg x3)) &&& (63 : Int32)) = 25
    · have E := (if_pos q33_25).symm.trans E
      obtain ⟨z86, E⟩ := gd_some E
      refine ea_tswIn (pc := 33) (tgt := 1153) dL_law_33 (by rw [q33_25]; decide) (by rw [q33_25]; decide) (by rw [q33_25]; rfl) rfl ?_
      refine ea_aload_n (pc := 1153) dL_law_1153 rfl 1 rfl ?_
      refine ea_aload_nO (pc := 1154) dL_law_1154 rfl 0 rfl ?_
      refine ea_iload_n (pc := 1155) dL_law_1155 rfl 3 rfl ?_
      refine ea_iconst (pc := 1156) dL_law_1156 (v := 1) rfl ?_
      refine ea_iadd (pc := 1157) dL_law_1157 ?_
      obtain ⟨w87, Ew87, E⟩ := bd_some E
      have hsw87 : ShL w87.2 := ShL_core ((kpX11_nobody _ _) _ Ew87) hs
      refine ea_sld (pc := 1158) dL_law_1158 z86 ?_
      refine ea_callV (pc := 1159) (d' := d - 1) (As := [vI ((ea_q h).2 (Int32.toNatClampNeg (x3 + (1 : Int32))))]) (st := []) dL_law_1159 kX11_nobody (sX11_nobody (d := d - 1) (by omega) (hs).1 Ew87) (by omega) rfl (Nat.le_of_ble_eq_true rfl) ew_1257 ew_1258 ew_1259 (ci := 11) rfl (by decide) (cShL_0 hs).1 (cShL_0 hs).2.1 ?_
      obtain ⟨z88, E⟩ := gd_some E
      refine ea_aload_n (pc := 1162) dL_law_1162 rfl 2 rfl ?_
      refine ea_aload_nO (pc := 1163) dL_law_1163 rfl 0 rfl ?_
      refine ea_iload_n (pc := 1164) dL_law_1164 rfl 3 rfl ?_
      refine ea_iconst (pc := 1165) dL_law_1165 (v := 1) rfl ?_
      refine ea_iadd (pc := 1166) dL_law_1166 ?_
      obtain ⟨w89, Ew89, E⟩ := bd_some E
      have hsw89 : ShL w89.2 := ShL_core ((kpX12_nobody _ _) _ Ew89) hsw87
      refine ea_sld (pc := 1167) dL_law_1167 z88 ?_
      refine ea_callV (pc := 1168) (d' := d - 1) (As := [vI ((ea_q w87.2).2 (Int32.toNatClampNeg (x3 + (1 : Int32))))]) (st := [vI w87.1]) dL_law_1168 kX12_nobody (sX12_nobody (d := d - 1) (by omega) (hsw87).2 Ew89) (by omega) rfl (Nat.le_of_ble_eq_true rfl) ew_2163 ew_2164 ew_2165 (ci := 12) rfl (by decide) (cShL_326 hsw87).1 (cShL_326 hsw87).2.1 ?_
      refine ea_icmp_eq (pc := 1171) (tgt := 1574) dL_law_1171 rfl (fun c90 => ?_) (fun c90 => ?_)
      · have E := (if_pos c90).symm.trans E
        refine ea_iinc (pc := 1574) (v := 7) (lv' := [(0, vO 0), (1, vR (some 0)), (2, vR (some 326)), (3, vI (x3 + (7 : Int32)))]) dL_law_1574 3 rfl rfl (Nat.le_of_ble_eq_true rfl) [1, 2, 3, 0] rfl ?_
        refine ea_goto (pc := 1577) (tgt := 18) dL_law_1577 rfl ?_
        exact (kJ18 ((x3 + (7 : Int32)) : Int32) w89.2 _ _ E hsw89)
      · have E := (if_neg c90).symm.trans E
        refine ea_iconst (pc := 1174) dL_law_1174 (v := 0) rfl ?_
        exact ea_iretO (pc := 1175) dL_law_1175 rfl (ea_bn (Or.inl rfl)) E
    have E := (if_neg q33_25).symm.trans E
    by_cases q33_26 : Int32.toInt (((ea_q h).2 (Int32.toNatClampNeg x3)) &&& (63 : Int32)) = 26
    · have E := (if_pos q33_26).symm.trans E
      obtain ⟨z77, E⟩ := gd_some E
      refine ea_tswIn (pc := 33) (tgt := 1176) dL_law_33 (by rw [q33_26]; decide) (by rw [q33_26]; decide) (by rw [q33_26]; rfl) rfl ?_
      refine ea_aload_n (pc := 1176) dL_law_1176 rfl 1 rfl ?_
      refine ea_aload_nO (pc := 1177) dL_law_1177 rfl 0 rfl ?_
      refine ea_iload_n (pc := 1178) dL_law_1178 rfl 3 rfl ?_
      refine ea_iconst (pc := 1179) dL_law_1179 (v := 1) rfl ?_
      refine ea_iadd (pc := 1180) dL_law_1180 ?_
      obtain ⟨z78, E⟩ := gd_some E
      refine ea_sld (pc := 1181) dL_law_1181 z77 ?_
      refine ea_aload_nO (pc := 1182) dL_law_1182 rfl 0 rfl ?_
      refine ea_iload_n (pc := 1183) dL_law_1183 rfl 3 rfl ?_
      refine ea_iconst (pc := 1184) dL_law_1184 (v := 2) rfl ?_
      refine ea_iadd (pc := 1185) dL_law_1185 ?_
      obtain ⟨z79, E⟩ := gd_some E
      refine ea_sld (pc := 1186) dL_law_1186 z78 ?_
      refine ea_aload_nO (pc := 1187) dL_law_1187 rfl 0 rfl ?_
      refine ea_iload_n (pc := 1188) dL_law_1188 rfl 3 rfl ?_
      refine ea_iconst (pc := 1189) dL_law_1189 (v := 3) rfl ?_
      refine ea_iadd (pc := 1190) dL_law_1190 ?_
      obtain ⟨w80, Ew80, E⟩ := bd_some E
      have hsw80 : ShL w80.2 := ShL_core ((kpX11_place _ _ _ _) _ Ew80) hs
      refine ea_sld (pc := 1191) dL_law_1191 z79 ?_
      refine ea_callV (pc := 1192) (d' := d - 1) (As := [vI ((ea_q h).2 (Int32.toNatClampNeg (x3 + (1 : Int32)))), vI ((ea_q h).2 (Int32.toNatClampNeg (x3 + (2 : Int32)))), vI ((ea_q h).2 (Int32.toNatClampNeg (x3 + (3 : Int32))))]) (st := []) dL_law_1192 kX11_place (sX11_place (d := d - 1) (by omega) (hs).1 Ew80) (by omega) rfl (Nat.le_of_ble_eq_true rfl) ew_1261 ew_1262 ew_1263 (ci := 11) rfl (by decide) (cShL_0 hs).1 (cShL_0 hs).2.1 ?_
      obtain ⟨z81, E⟩ := gd_some E
      refine ea_aload_n (pc := 1195) dL_law_1195 rfl 2 rfl ?_
      refine ea_aload_nO (pc := 1196) dL_law_1196 rfl 0 rfl ?_
      refine ea_iload_n (pc := 1197) dL_law_1197 rfl 3 rfl ?_
      refine ea_iconst (pc := 1198) dL_law_1198 (v := 1) rfl ?_
      refine ea_iadd (pc := 1199) dL_law_1199 ?_
      obtain ⟨z82, E⟩ := gd_some E
      refine ea_sld (pc := 1200) dL_law_1200 z81 ?_
      refine ea_aload_nO (pc := 1201) dL_law_1201 rfl 0 rfl ?_
      refine ea_iload_n (pc := 1202) dL_law_1202 rfl 3 rfl ?_
      refine ea_iconst (pc := 1203) dL_law_1203 (v := 2) rfl ?_
      refine ea_iadd (pc := 1204) dL_law_1204 ?_
      obtain ⟨z83, E⟩ := gd_some E
      refine ea_sld (pc := 1205) dL_law_1205 z82 ?_
      refine ea_aload_nO (pc := 1206) dL_law_1206 rfl 0 rfl ?_
      refine ea_iload_n (pc := 1207) dL_law_1207 rfl 3 rfl ?_
      refine ea_iconst (pc := 1208) dL_law_1208 (v := 3) rfl ?_
      refine ea_iadd (pc := 1209) dL_law_1209 ?_
      obtain ⟨w84, Ew84, E⟩ := bd_some E
      have hsw84 : ShL w84.2 := ShL_core ((kpX12_place _ _ _ _) _ Ew84) hsw80
      refine ea_sld (pc := 1210) dL_law_1210 z83 ?_
      refine ea_callV (pc := 1211) (d' := d - 1) (As := [vI ((ea_q w80.2).2 (Int32.toNatClampNeg (x3 + (1 : Int32)))), vI ((ea_q w80.2).2 (Int32.toNatClampNeg (x3 + (2 : Int32)))), vI ((ea_q w80.2).2 (Int32.toNatClampNeg (x3 + (3 : Int32))))]) (st := [vI w80.1]) dL_law_1211 kX12_place (sX12_place (d := d - 1) (by omega) (hsw80).2 Ew84) (by omega) rfl (Nat.le_of_ble_eq_true rfl) ew_2167 ew_2168 ew_2169 (ci := 12) rfl (by decide) (cShL_326 hsw80).1 (cShL_326 hsw80).2.1 ?_
      refine ea_icmp_eq (pc := 1214) (tgt := 1574) dL_law_1214 rfl (fun c85 => ?_) (fun c85 => ?_)
      · have E := (if_pos c85).symm.trans E
        refine ea_iinc (pc := 1574) (v := 7) (lv' := [(0, vO 0), (1, vR (some 0)), (2, vR (some 326)), (3, vI (x3 + (7 : Int32)))]) dL_law_1574 3 rfl rfl (Nat.le_of_ble_eq_true rfl) [1, 2, 3, 0] rfl ?_
        refine ea_goto (pc := 1577) (tgt := 18) dL_law_1577 rfl ?_
        exact (kJ18 ((x3 + (7 : Int32)) : Int32) w84.2 _ _ E hsw84)
      · have E := (if_neg c85).symm.trans E
        refine ea_iconst (pc := 1217) dL_law_1217 (v := 0) rfl ?_
        exact ea_iretO (pc := 1218) dL_law_1218 rfl (ea_bn (Or.inl rfl)) E
    have E := (if_neg q33_26).symm.trans E
    by_cases q33_27 : Int32.toInt (((ea_q h).2 (Int32.toNatClampNeg x3)) &&& (63 : Int32)) = 27
    · have E := (if_pos q33_27).symm.trans E
      obtain ⟨z70, E⟩ := gd_some E
      refine ea_tswIn (pc := 33) (tgt := 1219) dL_law_33 (by rw [q33_27]; decide) (by rw [q33_27]; decide) (by rw [q33_27]; rfl) rfl ?_
      refine ea_aload_n (pc := 1219) dL_law_1219 rfl 1 rfl ?_
      refine ea_aload_nO (pc := 1220) dL_law_1220 rfl 0 rfl ?_
      refine ea_iload_n (pc := 1221) dL_law_1221 rfl 3 rfl ?_
      refine ea_iconst (pc := 1222) dL_law_1222 (v := 1) rfl ?_
      refine ea_iadd (pc := 1223) dL_law_1223 ?_
      obtain ⟨z71, E⟩ := gd_some E
      refine ea_sld (pc := 1224) dL_law_1224 z70 ?_
      refine ea_aload_nO (pc := 1225) dL_law_1225 rfl 0 rfl ?_
      refine ea_iload_n (pc := 1226) dL_law_1226 rfl 3 rfl ?_
      refine ea_iconst (pc := 1227) dL_law_1227 (v := 2) rfl ?_
      refine ea_iadd (pc := 1228) dL_law_1228 ?_
      obtain ⟨w72, Ew72, E⟩ := bd_some E
      have hsw72 : ShL w72.2 := ShL_core ((kpX11_order _ _ _) _ Ew72) hs
      refine ea_sld (pc := 1229) dL_law_1229 z71 ?_
      refine ea_callV (pc := 1230) (d' := d - 1) (As := [vI ((ea_q h).2 (Int32.toNatClampNeg (x3 + (1 : Int32)))), vI ((ea_q h).2 (Int32.toNatClampNeg (x3 + (2 : Int32))))]) (st := []) dL_law_1230 kX11_order (sX11_order (d := d - 1) (by omega) (hs).1 Ew72) (by omega) rfl (Nat.le_of_ble_eq_true rfl) ew_1277 ew_1278 ew_1279 (ci := 11) rfl (by decide) (cShL_0 hs).1 (cShL_0 hs).2.1 ?_
      obtain ⟨z73, E⟩ := gd_some E
      refine ea_aload_n (pc := 1233) dL_law_1233 rfl 2 rfl ?_
      refine ea_aload_nO (pc := 1234) dL_law_1234 rfl 0 rfl ?_
      refine ea_iload_n (pc := 1235) dL_law_1235 rfl 3 rfl ?_
      refine ea_iconst (pc := 1236) dL_law_1236 (v := 1) rfl ?_
      refine ea_iadd (pc := 1237) dL_law_1237 ?_
      obtain ⟨z74, E⟩ := gd_some E
      refine ea_sld (pc := 1238) dL_law_1238 z73 ?_
      refine ea_aload_nO (pc := 1239) dL_law_1239 rfl 0 rfl ?_
      refine ea_iload_n (pc := 1240) dL_law_1240 rfl 3 rfl ?_
      refine ea_iconst (pc := 1241) dL_law_1241 (v := 2) rfl ?_
      refine ea_iadd (pc := 1242) dL_law_1242 ?_
      obtain ⟨w75, Ew75, E⟩ := bd_some E
      have hsw75 : ShL w75.2 := ShL_core ((kpX12_order _ _ _) _ Ew75) hsw72
      refine ea_sld (pc := 1243) dL_law_1243 z74 ?_
      refine ea_callV (pc := 1244) (d' := d - 1) (As := [vI ((ea_q w72.2).2 (Int32.toNatClampNeg (x3 + (1 : Int32)))), vI ((ea_q w72.2).2 (Int32.toNatClampNeg (x3 + (2 : Int32))))]) (st := [vJ w72.1]) dL_law_1244 kX12_order (sX12_order (d := d - 1) (by omega) (hsw72).2 Ew75) (by omega) rfl (Nat.le_of_ble_eq_true rfl) ew_2171 ew_2172 ew_2173 (ci := 12) rfl (by decide) (cShL_326 hsw72).1 (cShL_326 hsw72).2.1 ?_
      refine ea_lcmp (pc := 1247) dL_law_1247 ?_
      refine ea_if_eq (pc := 1248) (tgt := 1574) dL_law_1248 rfl (fun c76 => ?_) (fun c76 => ?_)
      · have E := (if_pos c76).symm.trans E
        refine ea_iinc (pc := 1574) (v := 7) (lv' := [(0, vO 0), (1, vR (some 0)), (2, vR (some 326)), (3, vI (x3 + (7 : Int32)))]) dL_law_1574 3 rfl rfl (Nat.le_of_ble_eq_true rfl) [1, 2, 3, 0] rfl ?_
        refine ea_goto (pc := 1577) (tgt := 18) dL_law_1577 rfl ?_
        exact (kJ18 ((x3 + (7 : Int32)) : Int32) w75.2 _ _ E hsw75)
      · have E := (if_neg c76).symm.trans E
        refine ea_iconst (pc := 1251) dL_law_1251 (v := 0) rfl ?_
        exact ea_iretO (pc := 1252) dL_law_1252 rfl (ea_bn (Or.inl rfl)) E
    have E := (if_neg q33_27).symm.trans E
    by_cases q33_28 : Int32.toInt (((ea_q h).2 (Int32.toNatClampNeg x3)) &&& (63 : Int32)) = 28
    · have E := (if_pos q33_28).symm.trans E
      obtain ⟨z63, E⟩ := gd_some E
      refine ea_tswIn (pc := 33) (tgt := 1253) dL_law_33 (by rw [q33_28]; decide) (by rw [q33_28]; decide) (by rw [q33_28]; rfl) rfl ?_
      refine ea_aload_n (pc := 1253) dL_law_1253 rfl 1 rfl ?_
      refine ea_aload_nO (pc := 1254) dL_law_1254 rfl 0 rfl ?_
      refine ea_iload_n (pc := 1255) dL_law_1255 rfl 3 rfl ?_
      refine ea_iconst (pc := 1256) dL_law_1256 (v := 1) rfl ?_
      refine ea_iadd (pc := 1257) dL_law_1257 ?_
      obtain ⟨z64, E⟩ := gd_some E
      refine ea_sld (pc := 1258) dL_law_1258 z63 ?_
      refine ea_aload_nO (pc := 1259) dL_law_1259 rfl 0 rfl ?_
      refine ea_iload_n (pc := 1260) dL_law_1260 rfl 3 rfl ?_
      refine ea_iconst (pc := 1261) dL_law_1261 (v := 2) rfl ?_
      refine ea_iadd (pc := 1262) dL_law_1262 ?_
      obtain ⟨w65, Ew65, E⟩ := bd_some E
      have hsw65 : ShL w65.2 := ShL_core ((kpX11_found _ _ _) _ Ew65) hs
      refine ea_sld (pc := 1263) dL_law_1263 z64 ?_
      refine ea_callV (pc := 1264) (d' := d - 1) (As := [vI ((ea_q h).2 (Int32.toNatClampNeg (x3 + (1 : Int32)))), vI ((ea_q h).2 (Int32.toNatClampNeg (x3 + (2 : Int32))))]) (st := []) dL_law_1264 kX11_found (sX11_found (d := d - 1) (by omega) (hs).1 Ew65) (by omega) rfl (Nat.le_of_ble_eq_true rfl) ew_1294 ew_1295 ew_1296 (ci := 11) rfl (by decide) (cShL_0 hs).1 (cShL_0 hs).2.1 ?_
      obtain ⟨z66, E⟩ := gd_some E
      refine ea_aload_n (pc := 1267) dL_law_1267 rfl 2 rfl ?_
      refine ea_aload_nO (pc := 1268) dL_law_1268 rfl 0 rfl ?_
      refine ea_iload_n (pc := 1269) dL_law_1269 rfl 3 rfl ?_
      refine ea_iconst (pc := 1270) dL_law_1270 (v := 1) rfl ?_
      refine ea_iadd (pc := 1271) dL_law_1271 ?_
      obtain ⟨z67, E⟩ := gd_some E
      refine ea_sld (pc := 1272) dL_law_1272 z66 ?_
      refine ea_aload_nO (pc := 1273) dL_law_1273 rfl 0 rfl ?_
      refine ea_iload_n (pc := 1274) dL_law_1274 rfl 3 rfl ?_
      refine ea_iconst (pc := 1275) dL_law_1275 (v := 2) rfl ?_
      refine ea_iadd (pc := 1276) dL_law_1276 ?_
      obtain ⟨w68, Ew68, E⟩ := bd_some E
      have hsw68 : ShL w68.2 := ShL_core ((kpX12_found _ _ _) _ Ew68) hsw65
      refine ea_sld (pc := 1277) dL_law_1277 z67 ?_
      refine ea_callV (pc := 1278) (d' := d - 1) (As := [vI ((ea_q w65.2).2 (Int32.toNatClampNeg (x3 + (1 : Int32)))), vI ((ea_q w65.2).2 (Int32.toNatClampNeg (x3 + (2 : Int32))))]) (st := [vI w65.1]) dL_law_1278 kX12_found (sX12_found (d := d - 1) (by omega) (hsw65).2 Ew68) (by omega) rfl (Nat.le_of_ble_eq_true rfl) ew_2184 ew_2185 ew_2186 (ci := 12) rfl (by decide) (cShL_326 hsw65).1 (cShL_326 hsw65).2.1 ?_
      refine ea_icmp_eq (pc := 1281) (tgt := 1574) dL_law_1281 rfl (fun c69 => ?_) (fun c69 => ?_)
      · have E := (if_pos c69).symm.trans E
        refine ea_iinc (pc := 1574) (v := 7) (lv' := [(0, vO 0), (1, vR (some 0)), (2, vR (some 326)), (3, vI (x3 + (7 : Int32)))]) dL_law_1574 3 rfl rfl (Nat.le_of_ble_eq_true rfl) [1, 2, 3, 0] rfl ?_
        refine ea_goto (pc := 1577) (tgt := 18) dL_law_1577 rfl ?_
        exact (kJ18 ((x3 + (7 : Int32)) : Int32) w68.2 _ _ E hsw68)
      · have E := (if_neg c69).symm.trans E
        refine ea_iconst (pc := 1284) dL_law_1284 (v := 0) rfl ?_
        exact ea_iretO (pc := 1285) dL_law_1285 rfl (ea_bn (Or.inl rfl)) E
    have E := (if_neg q33_28).symm.trans E
    by_cases q33_29 : Int32.toInt (((ea_q h).2 (Int32.toNatClampNeg x3)) &&& (63 : Int32)) = 29
    · have E := (if_pos q33_29).symm.trans E
      obtain ⟨z56, E⟩ := gd_some E
      refine ea_tswIn (pc := 33) (tgt := 1286) dL_law_33 (by rw [q33_29]; decide) (by rw [q33_29]; decide) (by rw [q33_29]; rfl) rfl ?_
      refine ea_aload_n (pc := 1286) dL_law_1286 rfl 1 rfl ?_
      refine ea_aload_nO (pc := 1287) dL_law_1287 rfl 0 rfl ?_
      refine ea_iload_n (pc := 1288) dL_law_1288 rfl 3 rfl ?_
      refine ea_iconst (pc := 1289) dL_law_1289 (v := 1) rfl ?_
      refine ea_iadd (pc := 1290) dL_law_1290 ?_
      obtain ⟨z57, E⟩ := gd_some E
      refine ea_sld (pc := 1291) dL_law_1291 z56 ?_
      refine ea_aload_nO (pc := 1292) dL_law_1292 rfl 0 rfl ?_
      refine ea_iload_n (pc := 1293) dL_law_1293 rfl 3 rfl ?_
      refine ea_iconst (pc := 1294) dL_law_1294 (v := 2) rfl ?_
      refine ea_iadd (pc := 1295) dL_law_1295 ?_
      obtain ⟨w58, Ew58, E⟩ := bd_some E
      have hsw58 : ShL w58.2 := ShL_core ((kpX11_rob _ _ _) _ Ew58) hs
      refine ea_sld (pc := 1296) dL_law_1296 z57 ?_
      refine ea_callV (pc := 1297) (d' := d - 1) (As := [vI ((ea_q h).2 (Int32.toNatClampNeg (x3 + (1 : Int32)))), vI ((ea_q h).2 (Int32.toNatClampNeg (x3 + (2 : Int32))))]) (st := []) dL_law_1297 kX11_rob (sX11_rob (d := d - 1) (by omega) (hs).1 Ew58) (by omega) rfl (Nat.le_of_ble_eq_true rfl) ew_1300 ew_1301 ew_1302 (ci := 11) rfl (by decide) (cShL_0 hs).1 (cShL_0 hs).2.1 ?_
      obtain ⟨z59, E⟩ := gd_some E
      refine ea_aload_n (pc := 1300) dL_law_1300 rfl 2 rfl ?_
      refine ea_aload_nO (pc := 1301) dL_law_1301 rfl 0 rfl ?_
      refine ea_iload_n (pc := 1302) dL_law_1302 rfl 3 rfl ?_
      refine ea_iconst (pc := 1303) dL_law_1303 (v := 1) rfl ?_
      refine ea_iadd (pc := 1304) dL_law_1304 ?_
      obtain ⟨z60, E⟩ := gd_some E
      refine ea_sld (pc := 1305) dL_law_1305 z59 ?_
      refine ea_aload_nO (pc := 1306) dL_law_1306 rfl 0 rfl ?_
      refine ea_iload_n (pc := 1307) dL_law_1307 rfl 3 rfl ?_
      refine ea_iconst (pc := 1308) dL_law_1308 (v := 2) rfl ?_
      refine ea_iadd (pc := 1309) dL_law_1309 ?_
      obtain ⟨w61, Ew61, E⟩ := bd_some E
      have hsw61 : ShL w61.2 := ShL_core ((kpX12_rob _ _ _) _ Ew61) hsw58
      refine ea_sld (pc := 1310) dL_law_1310 z60 ?_
      refine ea_callV (pc := 1311) (d' := d - 1) (As := [vI ((ea_q w58.2).2 (Int32.toNatClampNeg (x3 + (1 : Int32)))), vI ((ea_q w58.2).2 (Int32.toNatClampNeg (x3 + (2 : Int32))))]) (st := [vI w58.1]) dL_law_1311 kX12_rob (sX12_rob (d := d - 1) (by omega) (hsw58).2 Ew61) (by omega) rfl (Nat.le_of_ble_eq_true rfl) ew_2188 ew_2189 ew_2190 (ci := 12) rfl (by decide) (cShL_326 hsw58).1 (cShL_326 hsw58).2.1 ?_
      refine ea_icmp_eq (pc := 1314) (tgt := 1574) dL_law_1314 rfl (fun c62 => ?_) (fun c62 => ?_)
      · have E := (if_pos c62).symm.trans E
        refine ea_iinc (pc := 1574) (v := 7) (lv' := [(0, vO 0), (1, vR (some 0)), (2, vR (some 326)), (3, vI (x3 + (7 : Int32)))]) dL_law_1574 3 rfl rfl (Nat.le_of_ble_eq_true rfl) [1, 2, 3, 0] rfl ?_
        refine ea_goto (pc := 1577) (tgt := 18) dL_law_1577 rfl ?_
        exact (kJ18 ((x3 + (7 : Int32)) : Int32) w61.2 _ _ E hsw61)
      · have E := (if_neg c62).symm.trans E
        refine ea_iconst (pc := 1317) dL_law_1317 (v := 0) rfl ?_
        exact ea_iretO (pc := 1318) dL_law_1318 rfl (ea_bn (Or.inl rfl)) E
    have E := (if_neg q33_29).symm.trans E
    by_cases q33_30 : Int32.toInt (((ea_q h).2 (Int32.toNatClampNeg x3)) &&& (63 : Int32)) = 30
    · have E := (if_pos q33_30).symm.trans E
      obtain ⟨z49, E⟩ := gd_some E
      refine ea_tswIn (pc := 33) (tgt := 1319) dL_law_33 (by rw [q33_30]; decide) (by rw [q33_30]; decide) (by rw [q33_30]; rfl) rfl ?_
      refine ea_aload_n (pc := 1319) dL_law_1319 rfl 1 rfl ?_
      refine ea_aload_nO (pc := 1320) dL_law_1320 rfl 0 rfl ?_
      refine ea_iload_n (pc := 1321) dL_law_1321 rfl 3 rfl ?_
      refine ea_iconst (pc := 1322) dL_law_1322 (v := 1) rfl ?_
      refine ea_iadd (pc := 1323) dL_law_1323 ?_
      obtain ⟨z50, E⟩ := gd_some E
      refine ea_sld (pc := 1324) dL_law_1324 z49 ?_
      refine ea_aload_nO (pc := 1325) dL_law_1325 rfl 0 rfl ?_
      refine ea_iload_n (pc := 1326) dL_law_1326 rfl 3 rfl ?_
      refine ea_iconst (pc := 1327) dL_law_1327 (v := 2) rfl ?_
      refine ea_iadd (pc := 1328) dL_law_1328 ?_
      obtain ⟨w51, Ew51, E⟩ := bd_some E
      have hsw51 : ShL w51.2 := ShL_core ((kpX11_robbery _ _ _) _ Ew51) hs
      refine ea_sld (pc := 1329) dL_law_1329 z50 ?_
      refine ea_callV (pc := 1330) (d' := d - 1) (As := [vI ((ea_q h).2 (Int32.toNatClampNeg (x3 + (1 : Int32)))), vI ((ea_q h).2 (Int32.toNatClampNeg (x3 + (2 : Int32))))]) (st := []) dL_law_1330 kX11_robbery (sX11_robbery (d := d - 1) (by omega) (hs).1 Ew51) (by omega) rfl (Nat.le_of_ble_eq_true rfl) ew_1309 ew_1310 ew_1311 (ci := 11) rfl (by decide) (cShL_0 hs).1 (cShL_0 hs).2.1 ?_
      obtain ⟨z52, E⟩ := gd_some E
      refine ea_aload_n (pc := 1333) dL_law_1333 rfl 2 rfl ?_
      refine ea_aload_nO (pc := 1334) dL_law_1334 rfl 0 rfl ?_
      refine ea_iload_n (pc := 1335) dL_law_1335 rfl 3 rfl ?_
      refine ea_iconst (pc := 1336) dL_law_1336 (v := 1) rfl ?_
      refine ea_iadd (pc := 1337) dL_law_1337 ?_
      obtain ⟨z53, E⟩ := gd_some E
      refine ea_sld (pc := 1338) dL_law_1338 z52 ?_
      refine ea_aload_nO (pc := 1339) dL_law_1339 rfl 0 rfl ?_
      refine ea_iload_n (pc := 1340) dL_law_1340 rfl 3 rfl ?_
      refine ea_iconst (pc := 1341) dL_law_1341 (v := 2) rfl ?_
      refine ea_iadd (pc := 1342) dL_law_1342 ?_
      obtain ⟨w54, Ew54, E⟩ := bd_some E
      have hsw54 : ShL w54.2 := ShL_core ((kpX12_robbery _ _ _) _ Ew54) hsw51
      refine ea_sld (pc := 1343) dL_law_1343 z53 ?_
      refine ea_callV (pc := 1344) (d' := d - 1) (As := [vI ((ea_q w51.2).2 (Int32.toNatClampNeg (x3 + (1 : Int32)))), vI ((ea_q w51.2).2 (Int32.toNatClampNeg (x3 + (2 : Int32))))]) (st := [vI w51.1]) dL_law_1344 kX12_robbery (sX12_robbery (d := d - 1) (by omega) (hsw51).2 Ew54) (by omega) rfl (Nat.le_of_ble_eq_true rfl) ew_2192 ew_2193 ew_2194 (ci := 12) rfl (by decide) (cShL_326 hsw51).1 (cShL_326 hsw51).2.1 ?_
      refine ea_icmp_eq (pc := 1347) (tgt := 1574) dL_law_1347 rfl (fun c55 => ?_) (fun c55 => ?_)
      · have E := (if_pos c55).symm.trans E
        refine ea_iinc (pc := 1574) (v := 7) (lv' := [(0, vO 0), (1, vR (some 0)), (2, vR (some 326)), (3, vI (x3 + (7 : Int32)))]) dL_law_1574 3 rfl rfl (Nat.le_of_ble_eq_true rfl) [1, 2, 3, 0] rfl ?_
        refine ea_goto (pc := 1577) (tgt := 18) dL_law_1577 rfl ?_
        exact (kJ18 ((x3 + (7 : Int32)) : Int32) w54.2 _ _ E hsw54)
      · have E := (if_neg c55).symm.trans E
        refine ea_iconst (pc := 1350) dL_law_1350 (v := 0) rfl ?_
        exact ea_iretO (pc := 1351) dL_law_1351 rfl (ea_bn (Or.inl rfl)) E
    have E := (if_neg q33_30).symm.trans E
    by_cases q33_31 : Int32.toInt (((ea_q h).2 (Int32.toNatClampNeg x3)) &&& (63 : Int32)) = 31
    · have E := (if_pos q33_31).symm.trans E
      obtain ⟨z44, E⟩ := gd_some E
      refine ea_tswIn (pc := 33) (tgt := 1352) dL_law_33 (by rw [q33_31]; decide) (by rw [q33_31]; decide) (by rw [q33_31]; rfl) rfl ?_
      refine ea_aload_n (pc := 1352) dL_law_1352 rfl 1 rfl ?_
      refine ea_aload_nO (pc := 1353) dL_law_1353 rfl 0 rfl ?_
      refine ea_iload_n (pc := 1354) dL_law_1354 rfl 3 rfl ?_
      refine ea_iconst (pc := 1355) dL_law_1355 (v := 1) rfl ?_
      refine ea_iadd (pc := 1356) dL_law_1356 ?_
      obtain ⟨w45, Ew45, E⟩ := bd_some E
      have hsw45 : ShL w45.2 := ShL_core ((kpX11_set _ _) _ Ew45) hs
      refine ea_sld (pc := 1357) dL_law_1357 z44 ?_
      refine ea_callV (pc := 1358) (d' := d - 1) (As := [vI ((ea_q h).2 (Int32.toNatClampNeg (x3 + (1 : Int32))))]) (st := []) dL_law_1358 kX11_set (sX11_set (d := d - 1) (by omega) (hs).1 Ew45) (by omega) rfl (Nat.le_of_ble_eq_true rfl) ew_1329 ew_1330 ew_1331 (ci := 11) rfl (by decide) (cShL_0 hs).1 (cShL_0 hs).2.1 ?_
      obtain ⟨z46, E⟩ := gd_some E
      refine ea_aload_n (pc := 1361) dL_law_1361 rfl 2 rfl ?_
      refine ea_aload_nO (pc := 1362) dL_law_1362 rfl 0 rfl ?_
      refine ea_iload_n (pc := 1363) dL_law_1363 rfl 3 rfl ?_
      refine ea_iconst (pc := 1364) dL_law_1364 (v := 1) rfl ?_
      refine ea_iadd (pc := 1365) dL_law_1365 ?_
      obtain ⟨w47, Ew47, E⟩ := bd_some E
      have hsw47 : ShL w47.2 := ShL_core ((kpX12_set _ _) _ Ew47) hsw45
      refine ea_sld (pc := 1366) dL_law_1366 z46 ?_
      refine ea_callV (pc := 1367) (d' := d - 1) (As := [vI ((ea_q w45.2).2 (Int32.toNatClampNeg (x3 + (1 : Int32))))]) (st := [vI w45.1]) dL_law_1367 kX12_set (sX12_set (d := d - 1) (by omega) (hsw45).2 Ew47) (by omega) rfl (Nat.le_of_ble_eq_true rfl) ew_2196 ew_2197 ew_2198 (ci := 12) rfl (by decide) (cShL_326 hsw45).1 (cShL_326 hsw45).2.1 ?_
      refine ea_icmp_eq (pc := 1370) (tgt := 1574) dL_law_1370 rfl (fun c48 => ?_) (fun c48 => ?_)
      · have E := (if_pos c48).symm.trans E
        refine ea_iinc (pc := 1574) (v := 7) (lv' := [(0, vO 0), (1, vR (some 0)), (2, vR (some 326)), (3, vI (x3 + (7 : Int32)))]) dL_law_1574 3 rfl rfl (Nat.le_of_ble_eq_true rfl) [1, 2, 3, 0] rfl ?_
        refine ea_goto (pc := 1577) (tgt := 18) dL_law_1577 rfl ?_
        exact (kJ18 ((x3 + (7 : Int32)) : Int32) w47.2 _ _ E hsw47)
      · have E := (if_neg c48).symm.trans E
        refine ea_iconst (pc := 1373) dL_law_1373 (v := 0) rfl ?_
        exact ea_iretO (pc := 1374) dL_law_1374 rfl (ea_bn (Or.inl rfl)) E
    have E := (if_neg q33_31).symm.trans E
    by_cases q33_32 : Int32.toInt (((ea_q h).2 (Int32.toNatClampNeg x3)) &&& (63 : Int32)) = 32
    · have E := (if_pos q33_32).symm.trans E
      obtain ⟨z37, E⟩ := gd_some E
      refine ea_tswIn (pc := 33) (tgt := 1375) dL_law_33 (by rw [q33_32]; decide) (by rw [q33_32]; decide) (by rw [q33_32]; rfl) rfl ?_
      refine ea_aload_n (pc := 1375) dL_law_1375 rfl 1 rfl ?_
      refine ea_aload_nO (pc := 1376) dL_law_1376 rfl 0 rfl ?_
      refine ea_iload_n (pc := 1377) dL_law_1377 rfl 3 rfl ?_
      refine ea_iconst (pc := 1378) dL_law_1378 (v := 1) rfl ?_
      refine ea_iadd (pc := 1379) dL_law_1379 ?_
      obtain ⟨z38, E⟩ := gd_some E
      refine ea_sld (pc := 1380) dL_law_1380 z37 ?_
      refine ea_aload_nO (pc := 1381) dL_law_1381 rfl 0 rfl ?_
      refine ea_iload_n (pc := 1382) dL_law_1382 rfl 3 rfl ?_
      refine ea_iconst (pc := 1383) dL_law_1383 (v := 2) rfl ?_
      refine ea_iadd (pc := 1384) dL_law_1384 ?_
      obtain ⟨w39, Ew39, E⟩ := bd_some E
      have hsw39 : ShL w39.2 := ShL_core ((kpX11_seen _ _ _) _ Ew39) hs
      refine ea_sld (pc := 1385) dL_law_1385 z38 ?_
      refine ea_callV (pc := 1386) (d' := d - 1) (As := [vI ((ea_q h).2 (Int32.toNatClampNeg (x3 + (1 : Int32)))), vI ((ea_q h).2 (Int32.toNatClampNeg (x3 + (2 : Int32))))]) (st := []) dL_law_1386 kX11_seen (sX11_seen (d := d - 1) (by omega) (hs).1 Ew39) (by omega) rfl (Nat.le_of_ble_eq_true rfl) ew_1333 ew_1334 ew_1335 (ci := 11) rfl (by decide) (cShL_0 hs).1 (cShL_0 hs).2.1 ?_
      obtain ⟨z40, E⟩ := gd_some E
      refine ea_aload_n (pc := 1389) dL_law_1389 rfl 2 rfl ?_
      refine ea_aload_nO (pc := 1390) dL_law_1390 rfl 0 rfl ?_
      refine ea_iload_n (pc := 1391) dL_law_1391 rfl 3 rfl ?_
      refine ea_iconst (pc := 1392) dL_law_1392 (v := 1) rfl ?_
      refine ea_iadd (pc := 1393) dL_law_1393 ?_
      obtain ⟨z41, E⟩ := gd_some E
      refine ea_sld (pc := 1394) dL_law_1394 z40 ?_
      refine ea_aload_nO (pc := 1395) dL_law_1395 rfl 0 rfl ?_
      refine ea_iload_n (pc := 1396) dL_law_1396 rfl 3 rfl ?_
      refine ea_iconst (pc := 1397) dL_law_1397 (v := 2) rfl ?_
      refine ea_iadd (pc := 1398) dL_law_1398 ?_
      obtain ⟨w42, Ew42, E⟩ := bd_some E
      have hsw42 : ShL w42.2 := ShL_core ((kpX12_seen _ _ _) _ Ew42) hsw39
      refine ea_sld (pc := 1399) dL_law_1399 z41 ?_
      refine ea_callV (pc := 1400) (d' := d - 1) (As := [vI ((ea_q w39.2).2 (Int32.toNatClampNeg (x3 + (1 : Int32)))), vI ((ea_q w39.2).2 (Int32.toNatClampNeg (x3 + (2 : Int32))))]) (st := [vI w39.1]) dL_law_1400 kX12_seen (sX12_seen (d := d - 1) (by omega) (hsw39).2 Ew42) (by omega) rfl (Nat.le_of_ble_eq_true rfl) ew_2200 ew_2201 ew_2202 (ci := 12) rfl (by decide) (cShL_326 hsw39).1 (cShL_326 hsw39).2.1 ?_
      refine ea_icmp_eq (pc := 1403) (tgt := 1574) dL_law_1403 rfl (fun c43 => ?_) (fun c43 => ?_)
      · have E := (if_pos c43).symm.trans E
        refine ea_iinc (pc := 1574) (v := 7) (lv' := [(0, vO 0), (1, vR (some 0)), (2, vR (some 326)), (3, vI (x3 + (7 : Int32)))]) dL_law_1574 3 rfl rfl (Nat.le_of_ble_eq_true rfl) [1, 2, 3, 0] rfl ?_
        refine ea_goto (pc := 1577) (tgt := 18) dL_law_1577 rfl ?_
        exact (kJ18 ((x3 + (7 : Int32)) : Int32) w42.2 _ _ E hsw42)
      · have E := (if_neg c43).symm.trans E
        refine ea_iconst (pc := 1406) dL_law_1406 (v := 0) rfl ?_
        exact ea_iretO (pc := 1407) dL_law_1407 rfl (ea_bn (Or.inl rfl)) E
    have E := (if_neg q33_32).symm.trans E
    by_cases q33_33 : Int32.toInt (((ea_q h).2 (Int32.toNatClampNeg x3)) &&& (63 : Int32)) = 33
    · have E := (if_pos q33_33).symm.trans E
      obtain ⟨z30, E⟩ := gd_some E
      refine ea_tswIn (pc := 33) (tgt := 1408) dL_law_33 (by rw [q33_33]; decide) (by rw [q33_33]; decide) (by rw [q33_33]; rfl) rfl ?_
      refine ea_aload_n (pc := 1408) dL_law_1408 rfl 1 rfl ?_
      refine ea_aload_nO (pc := 1409) dL_law_1409 rfl 0 rfl ?_
      refine ea_iload_n (pc := 1410) dL_law_1410 rfl 3 rfl ?_
      refine ea_iconst (pc := 1411) dL_law_1411 (v := 1) rfl ?_
      refine ea_iadd (pc := 1412) dL_law_1412 ?_
      obtain ⟨z31, E⟩ := gd_some E
      refine ea_sld (pc := 1413) dL_law_1413 z30 ?_
      refine ea_aload_nO (pc := 1414) dL_law_1414 rfl 0 rfl ?_
      refine ea_iload_n (pc := 1415) dL_law_1415 rfl 3 rfl ?_
      refine ea_iconst (pc := 1416) dL_law_1416 (v := 2) rfl ?_
      refine ea_iadd (pc := 1417) dL_law_1417 ?_
      obtain ⟨w32, Ew32, E⟩ := bd_some E
      have hsw32 : ShL w32.2 := ShL_core ((kpX11_clock _ _ _) _ Ew32) hs
      refine ea_sld (pc := 1418) dL_law_1418 z31 ?_
      refine ea_callV (pc := 1419) (d' := d - 1) (As := [vI ((ea_q h).2 (Int32.toNatClampNeg (x3 + (1 : Int32)))), vI ((ea_q h).2 (Int32.toNatClampNeg (x3 + (2 : Int32))))]) (st := []) dL_law_1419 kX11_clock (sX11_clock (d := d - 1) (by omega) (hs).1 Ew32) (by omega) rfl (Nat.le_of_ble_eq_true rfl) ew_1344 ew_1345 ew_1346 (ci := 11) rfl (by decide) (cShL_0 hs).1 (cShL_0 hs).2.1 ?_
      obtain ⟨z33, E⟩ := gd_some E
      refine ea_aload_n (pc := 1422) dL_law_1422 rfl 2 rfl ?_
      refine ea_aload_nO (pc := 1423) dL_law_1423 rfl 0 rfl ?_
      refine ea_iload_n (pc := 1424) dL_law_1424 rfl 3 rfl ?_
      refine ea_iconst (pc := 1425) dL_law_1425 (v := 1) rfl ?_
      refine ea_iadd (pc := 1426) dL_law_1426 ?_
      obtain ⟨z34, E⟩ := gd_some E
      refine ea_sld (pc := 1427) dL_law_1427 z33 ?_
      refine ea_aload_nO (pc := 1428) dL_law_1428 rfl 0 rfl ?_
      refine ea_iload_n (pc := 1429) dL_law_1429 rfl 3 rfl ?_
      refine ea_iconst (pc := 1430) dL_law_1430 (v := 2) rfl ?_
      refine ea_iadd (pc := 1431) dL_law_1431 ?_
      obtain ⟨w35, Ew35, E⟩ := bd_some E
      have hsw35 : ShL w35.2 := ShL_core ((kpX12_clock _ _ _) _ Ew35) hsw32
      refine ea_sld (pc := 1432) dL_law_1432 z34 ?_
      refine ea_callV (pc := 1433) (d' := d - 1) (As := [vI ((ea_q w32.2).2 (Int32.toNatClampNeg (x3 + (1 : Int32)))), vI ((ea_q w32.2).2 (Int32.toNatClampNeg (x3 + (2 : Int32))))]) (st := [vI w32.1]) dL_law_1433 kX12_clock (sX12_clock (d := d - 1) (by omega) (hsw32).2 Ew35) (by omega) rfl (Nat.le_of_ble_eq_true rfl) ew_2212 ew_2213 ew_2214 (ci := 12) rfl (by decide) (cShL_326 hsw32).1 (cShL_326 hsw32).2.1 ?_
      refine ea_icmp_eq (pc := 1436) (tgt := 1574) dL_law_1436 rfl (fun c36 => ?_) (fun c36 => ?_)
      · have E := (if_pos c36).symm.trans E
        refine ea_iinc (pc := 1574) (v := 7) (lv' := [(0, vO 0), (1, vR (some 0)), (2, vR (some 326)), (3, vI (x3 + (7 : Int32)))]) dL_law_1574 3 rfl rfl (Nat.le_of_ble_eq_true rfl) [1, 2, 3, 0] rfl ?_
        refine ea_goto (pc := 1577) (tgt := 18) dL_law_1577 rfl ?_
        exact (kJ18 ((x3 + (7 : Int32)) : Int32) w35.2 _ _ E hsw35)
      · have E := (if_neg c36).symm.trans E
        refine ea_iconst (pc := 1439) dL_law_1439 (v := 0) rfl ?_
        exact ea_iretO (pc := 1440) dL_law_1440 rfl (ea_bn (Or.inl rfl)) E
    have E := (if_neg q33_33).symm.trans E
    by_cases q33_34 : Int32.toInt (((ea_q h).2 (Int32.toNatClampNeg x3)) &&& (63 : Int32)) = 34
    · have E := (if_pos q33_34).symm.trans E
      obtain ⟨z21, E⟩ := gd_some E
      refine ea_tswIn (pc := 33) (tgt := 1441) dL_law_33 (by rw [q33_34]; decide) (by rw [q33_34]; decide) (by rw [q33_34]; rfl) rfl ?_
      refine ea_aload_n (pc := 1441) dL_law_1441 rfl 1 rfl ?_
      refine ea_aload_nO (pc := 1442) dL_law_1442 rfl 0 rfl ?_
      refine ea_iload_n (pc := 1443) dL_law_1443 rfl 3 rfl ?_
      refine ea_iconst (pc := 1444) dL_law_1444 (v := 1) rfl ?_
      refine ea_iadd (pc := 1445) dL_law_1445 ?_
      obtain ⟨z22, E⟩ := gd_some E
      refine ea_sld (pc := 1446) dL_law_1446 z21 ?_
      refine ea_aload_nO (pc := 1447) dL_law_1447 rfl 0 rfl ?_
      refine ea_iload_n (pc := 1448) dL_law_1448 rfl 3 rfl ?_
      refine ea_iconst (pc := 1449) dL_law_1449 (v := 2) rfl ?_
      refine ea_iadd (pc := 1450) dL_law_1450 ?_
      obtain ⟨z23, E⟩ := gd_some E
      refine ea_sld (pc := 1451) dL_law_1451 z22 ?_
      refine ea_aload_nO (pc := 1452) dL_law_1452 rfl 0 rfl ?_
      refine ea_iload_n (pc := 1453) dL_law_1453 rfl 3 rfl ?_
      refine ea_iconst (pc := 1454) dL_law_1454 (v := 3) rfl ?_
      refine ea_iadd (pc := 1455) dL_law_1455 ?_
      obtain ⟨w24, Ew24, E⟩ := bd_some E
      have hsw24 : ShL w24.2 := ShL_core ((kpX11_trueMinute _ _ _ _) _ Ew24) hs
      refine ea_sld (pc := 1456) dL_law_1456 z23 ?_
      refine ea_callV (pc := 1457) (d' := d - 1) (As := [vI ((ea_q h).2 (Int32.toNatClampNeg (x3 + (1 : Int32)))), vI ((ea_q h).2 (Int32.toNatClampNeg (x3 + (2 : Int32)))), vI ((ea_q h).2 (Int32.toNatClampNeg (x3 + (3 : Int32))))]) (st := []) dL_law_1457 kX11_trueMinute (sX11_trueMinute (d := d - 1) (by omega) (hs).1 Ew24) (by omega) rfl (Nat.le_of_ble_eq_true rfl) ew_1348 ew_1349 ew_1350 (ci := 11) rfl (by decide) (cShL_0 hs).1 (cShL_0 hs).2.1 ?_
      obtain ⟨z25, E⟩ := gd_some E
      refine ea_aload_n (pc := 1460) dL_law_1460 rfl 2 rfl ?_
      refine ea_aload_nO (pc := 1461) dL_law_1461 rfl 0 rfl ?_
      refine ea_iload_n (pc := 1462) dL_law_1462 rfl 3 rfl ?_
      refine ea_iconst (pc := 1463) dL_law_1463 (v := 1) rfl ?_
      refine ea_iadd (pc := 1464) dL_law_1464 ?_
      obtain ⟨z26, E⟩ := gd_some E
      refine ea_sld (pc := 1465) dL_law_1465 z25 ?_
      refine ea_aload_nO (pc := 1466) dL_law_1466 rfl 0 rfl ?_
      refine ea_iload_n (pc := 1467) dL_law_1467 rfl 3 rfl ?_
      refine ea_iconst (pc := 1468) dL_law_1468 (v := 2) rfl ?_
      refine ea_iadd (pc := 1469) dL_law_1469 ?_
      obtain ⟨z27, E⟩ := gd_some E
      refine ea_sld (pc := 1470) dL_law_1470 z26 ?_
      refine ea_aload_nO (pc := 1471) dL_law_1471 rfl 0 rfl ?_
      refine ea_iload_n (pc := 1472) dL_law_1472 rfl 3 rfl ?_
      refine ea_iconst (pc := 1473) dL_law_1473 (v := 3) rfl ?_
      refine ea_iadd (pc := 1474) dL_law_1474 ?_
      obtain ⟨w28, Ew28, E⟩ := bd_some E
      have hsw28 : ShL w28.2 := ShL_core ((kpX12_trueMinute _ _ _ _) _ Ew28) hsw24
      refine ea_sld (pc := 1475) dL_law_1475 z27 ?_
      refine ea_callV (pc := 1476) (d' := d - 1) (As := [vI ((ea_q w24.2).2 (Int32.toNatClampNeg (x3 + (1 : Int32)))), vI ((ea_q w24.2).2 (Int32.toNatClampNeg (x3 + (2 : Int32)))), vI ((ea_q w24.2).2 (Int32.toNatClampNeg (x3 + (3 : Int32))))]) (st := [vI w24.1]) dL_law_1476 kX12_trueMinute (sX12_trueMinute (d := d - 1) (by omega) (hsw24).2 Ew28) (by omega) rfl (Nat.le_of_ble_eq_true rfl) ew_2216 ew_2217 ew_2218 (ci := 12) rfl (by decide) (cShL_326 hsw24).1 (cShL_326 hsw24).2.1 ?_
      refine ea_icmp_eq (pc := 1479) (tgt := 1574) dL_law_1479 rfl (fun c29 => ?_) (fun c29 => ?_)
      · have E := (if_pos c29).symm.trans E
        refine ea_iinc (pc := 1574) (v := 7) (lv' := [(0, vO 0), (1, vR (some 0)), (2, vR (some 326)), (3, vI (x3 + (7 : Int32)))]) dL_law_1574 3 rfl rfl (Nat.le_of_ble_eq_true rfl) [1, 2, 3, 0] rfl ?_
        refine ea_goto (pc := 1577) (tgt := 18) dL_law_1577 rfl ?_
        exact (kJ18 ((x3 + (7 : Int32)) : Int32) w28.2 _ _ E hsw28)
      · have E := (if_neg c29).symm.trans E
        refine ea_iconst (pc := 1482) dL_law_1482 (v := 0) rfl ?_
        exact ea_iretO (pc := 1483) dL_law_1483 rfl (ea_bn (Or.inl rfl)) E
    have E := (if_neg q33_34).symm.trans E
    by_cases q33_35 : Int32.toInt (((ea_q h).2 (Int32.toNatClampNeg x3)) &&& (63 : Int32)) = 35
    · have E := (if_pos q33_35).symm.trans E
      obtain ⟨z16, E⟩ := gd_some E
      refine ea_tswIn (pc := 33) (tgt := 1484) dL_law_33 (by rw [q33_35]; decide) (by rw [q33_35]; decide) (by rw [q33_35]; rfl) rfl ?_
      refine ea_aload_n (pc := 1484) dL_law_1484 rfl 1 rfl ?_
      refine ea_aload_nO (pc := 1485) dL_law_1485 rfl 0 rfl ?_
      refine ea_iload_n (pc := 1486) dL_law_1486 rfl 3 rfl ?_
      refine ea_iconst (pc := 1487) dL_law_1487 (v := 1) rfl ?_
      refine ea_iadd (pc := 1488) dL_law_1488 ?_
      obtain ⟨w17, Ew17, E⟩ := bd_some E
      have hsw17 : ShL w17.2 := ShL_core ((kpX11_tried _ _) _ Ew17) hs
      refine ea_sld (pc := 1489) dL_law_1489 z16 ?_
      refine ea_callV (pc := 1490) (d' := d - 1) (As := [vI ((ea_q h).2 (Int32.toNatClampNeg (x3 + (1 : Int32))))]) (st := []) dL_law_1490 kX11_tried (sX11_tried (d := d - 1) (by omega) (hs).1 Ew17) (by omega) rfl (Nat.le_of_ble_eq_true rfl) ew_1364 ew_1365 ew_1366 (ci := 11) rfl (by decide) (cShL_0 hs).1 (cShL_0 hs).2.1 ?_
      obtain ⟨z18, E⟩ := gd_some E
      refine ea_aload_n (pc := 1493) dL_law_1493 rfl 2 rfl ?_
      refine ea_aload_nO (pc := 1494) dL_law_1494 rfl 0 rfl ?_
      refine ea_iload_n (pc := 1495) dL_law_1495 rfl 3 rfl ?_
      refine ea_iconst (pc := 1496) dL_law_1496 (v := 1) rfl ?_
      refine ea_iadd (pc := 1497) dL_law_1497 ?_
      obtain ⟨w19, Ew19, E⟩ := bd_some E
      have hsw19 : ShL w19.2 := ShL_core ((kpX12_tried _ _) _ Ew19) hsw17
      refine ea_sld (pc := 1498) dL_law_1498 z18 ?_
      refine ea_callV (pc := 1499) (d' := d - 1) (As := [vI ((ea_q w17.2).2 (Int32.toNatClampNeg (x3 + (1 : Int32))))]) (st := [vJ w17.1]) dL_law_1499 kX12_tried (sX12_tried (d := d - 1) (by omega) (hsw17).2 Ew19) (by omega) rfl (Nat.le_of_ble_eq_true rfl) ew_2224 ew_2225 ew_2226 (ci := 12) rfl (by decide) (cShL_326 hsw17).1 (cShL_326 hsw17).2.1 ?_
      refine ea_lcmp (pc := 1502) dL_law_1502 ?_
      refine ea_if_eq (pc := 1503) (tgt := 1574) dL_law_1503 rfl (fun c20 => ?_) (fun c20 => ?_)
      · have E := (if_pos c20).symm.trans E
        refine ea_iinc (pc := 1574) (v := 7) (lv' := [(0, vO 0), (1, vR (some 0)), (2, vR (some 326)), (3, vI (x3 + (7 : Int32)))]) dL_law_1574 3 rfl rfl (Nat.le_of_ble_eq_true rfl) [1, 2, 3, 0] rfl ?_
        refine ea_goto (pc := 1577) (tgt := 18) dL_law_1577 rfl ?_
        exact (kJ18 ((x3 + (7 : Int32)) : Int32) w19.2 _ _ E hsw19)
      · have E := (if_neg c20).symm.trans E
        refine ea_iconst (pc := 1506) dL_law_1506 (v := 0) rfl ?_
        exact ea_iretO (pc := 1507) dL_law_1507 rfl (ea_bn (Or.inl rfl)) E
    have E := (if_neg q33_35).symm.trans E
    by_cases q33_36 : Int32.toInt (((ea_q h).2 (Int32.toNatClampNeg x3)) &&& (63 : Int32)) = 36
    · have E := (if_pos q33_36).symm.trans E
      obtain ⟨z7, E⟩ := gd_some E
      refine ea_tswIn (pc := 33) (tgt := 1508) dL_law_33 (by rw [q33_36]; decide) (by rw [q33_36]; decide) (by rw [q33_36]; rfl) rfl ?_
      refine ea_aload_n (pc := 1508) dL_law_1508 rfl 1 rfl ?_
      refine ea_aload_nO (pc := 1509) dL_law_1509 rfl 0 rfl ?_
      refine ea_iload_n (pc := 1510) dL_law_1510 rfl 3 rfl ?_
      refine ea_iconst (pc := 1511) dL_law_1511 (v := 1) rfl ?_
      refine ea_iadd (pc := 1512) dL_law_1512 ?_
      obtain ⟨z8, E⟩ := gd_some E
      refine ea_sld (pc := 1513) dL_law_1513 z7 ?_
      refine ea_aload_nO (pc := 1514) dL_law_1514 rfl 0 rfl ?_
      refine ea_iload_n (pc := 1515) dL_law_1515 rfl 3 rfl ?_
      refine ea_iconst (pc := 1516) dL_law_1516 (v := 2) rfl ?_
      refine ea_iadd (pc := 1517) dL_law_1517 ?_
      obtain ⟨z9, E⟩ := gd_some E
      refine ea_sld (pc := 1518) dL_law_1518 z8 ?_
      refine ea_aload_nO (pc := 1519) dL_law_1519 rfl 0 rfl ?_
      refine ea_iload_n (pc := 1520) dL_law_1520 rfl 3 rfl ?_
      refine ea_iconst (pc := 1521) dL_law_1521 (v := 3) rfl ?_
      refine ea_iadd (pc := 1522) dL_law_1522 ?_
      obtain ⟨w10, Ew10, E⟩ := bd_some E
      have hsw10 : ShL w10.2 := ShL_core ((kpX11_whatIf _ _ _ _) _ Ew10) hs
      refine ea_sld (pc := 1523) dL_law_1523 z9 ?_
      refine ea_callV (pc := 1524) (d' := d - 1) (As := [vI ((ea_q h).2 (Int32.toNatClampNeg (x3 + (1 : Int32)))), vI ((ea_q h).2 (Int32.toNatClampNeg (x3 + (2 : Int32)))), vI ((ea_q h).2 (Int32.toNatClampNeg (x3 + (3 : Int32))))]) (st := []) dL_law_1524 kX11_whatIf (sX11_whatIf (d := d - 1) (by omega) (hs).1 Ew10) (by omega) rfl (Nat.le_of_ble_eq_true rfl) ew_1369 ew_1370 ew_1371 (ci := 11) rfl (by decide) (cShL_0 hs).1 (cShL_0 hs).2.1 ?_
      obtain ⟨z11, E⟩ := gd_some E
      refine ea_aload_n (pc := 1527) dL_law_1527 rfl 2 rfl ?_
      refine ea_aload_nO (pc := 1528) dL_law_1528 rfl 0 rfl ?_
      refine ea_iload_n (pc := 1529) dL_law_1529 rfl 3 rfl ?_
      refine ea_iconst (pc := 1530) dL_law_1530 (v := 1) rfl ?_
      refine ea_iadd (pc := 1531) dL_law_1531 ?_
      obtain ⟨z12, E⟩ := gd_some E
      refine ea_sld (pc := 1532) dL_law_1532 z11 ?_
      refine ea_aload_nO (pc := 1533) dL_law_1533 rfl 0 rfl ?_
      refine ea_iload_n (pc := 1534) dL_law_1534 rfl 3 rfl ?_
      refine ea_iconst (pc := 1535) dL_law_1535 (v := 2) rfl ?_
      refine ea_iadd (pc := 1536) dL_law_1536 ?_
      obtain ⟨z13, E⟩ := gd_some E
      refine ea_sld (pc := 1537) dL_law_1537 z12 ?_
      refine ea_aload_nO (pc := 1538) dL_law_1538 rfl 0 rfl ?_
      refine ea_iload_n (pc := 1539) dL_law_1539 rfl 3 rfl ?_
      refine ea_iconst (pc := 1540) dL_law_1540 (v := 3) rfl ?_
      refine ea_iadd (pc := 1541) dL_law_1541 ?_
      obtain ⟨w14, Ew14, E⟩ := bd_some E
      have hsw14 : ShL w14.2 := ShL_core ((kpX12_whatIf _ _ _ _) _ Ew14) hsw10
      refine ea_sld (pc := 1542) dL_law_1542 z13 ?_
      refine ea_callV (pc := 1543) (d' := d - 1) (As := [vI ((ea_q w10.2).2 (Int32.toNatClampNeg (x3 + (1 : Int32)))), vI ((ea_q w10.2).2 (Int32.toNatClampNeg (x3 + (2 : Int32)))), vI ((ea_q w10.2).2 (Int32.toNatClampNeg (x3 + (3 : Int32))))]) (st := [vI w10.1]) dL_law_1543 kX12_whatIf (sX12_whatIf (d := d - 1) (by omega) (hsw10).2 Ew14) (by omega) rfl (Nat.le_of_ble_eq_true rfl) ew_2228 ew_2229 ew_2230 (ci := 12) rfl (by decide) (cShL_326 hsw10).1 (cShL_326 hsw10).2.1 ?_
      refine ea_icmp_eq (pc := 1546) (tgt := 1574) dL_law_1546 rfl (fun c15 => ?_) (fun c15 => ?_)
      · have E := (if_pos c15).symm.trans E
        refine ea_iinc (pc := 1574) (v := 7) (lv' := [(0, vO 0), (1, vR (some 0)), (2, vR (some 326)), (3, vI (x3 + (7 : Int32)))]) dL_law_1574 3 rfl rfl (Nat.le_of_ble_eq_true rfl) [1, 2, 3, 0] rfl ?_
        refine ea_goto (pc := 1577) (tgt := 18) dL_law_1577 rfl ?_
        exact (kJ18 ((x3 + (7 : Int32)) : Int32) w14.2 _ _ E hsw14)
      · have E := (if_neg c15).symm.trans E
        refine ea_iconst (pc := 1549) dL_law_1549 (v := 0) rfl ?_
        exact ea_iretO (pc := 1550) dL_law_1550 rfl (ea_bn (Or.inl rfl)) E
    have E := (if_neg q33_36).symm.trans E
    by_cases q33_37 : Int32.toInt (((ea_q h).2 (Int32.toNatClampNeg x3)) &&& (63 : Int32)) = 37
    · have E := (if_pos q33_37).symm.trans E
      obtain ⟨z2, E⟩ := gd_some E
      refine ea_tswIn (pc := 33) (tgt := 1551) dL_law_33 (by rw [q33_37]; decide) (by rw [q33_37]; decide) (by rw [q33_37]; rfl) rfl ?_
      refine ea_aload_n (pc := 1551) dL_law_1551 rfl 1 rfl ?_
      refine ea_aload_nO (pc := 1552) dL_law_1552 rfl 0 rfl ?_
      refine ea_iload_n (pc := 1553) dL_law_1553 rfl 3 rfl ?_
      refine ea_iconst (pc := 1554) dL_law_1554 (v := 1) rfl ?_
      refine ea_iadd (pc := 1555) dL_law_1555 ?_
      obtain ⟨w3, Ew3, E⟩ := bd_some E
      have hsw3 : ShL w3.2 := ShL_core ((kpX11_seats _ _) _ Ew3) hs
      refine ea_sld (pc := 1556) dL_law_1556 z2 ?_
      refine ea_callV (pc := 1557) (d' := d - 1) (As := [vI ((ea_q h).2 (Int32.toNatClampNeg (x3 + (1 : Int32))))]) (st := []) dL_law_1557 kX11_seats (sX11_seats (d := d - 1) (by omega) (hs).1 Ew3) (by omega) rfl (Nat.le_of_ble_eq_true rfl) ew_1386 ew_1387 ew_1388 (ci := 11) rfl (by decide) (cShL_0 hs).1 (cShL_0 hs).2.1 ?_
      obtain ⟨z4, E⟩ := gd_some E
      refine ea_aload_n (pc := 1560) dL_law_1560 rfl 2 rfl ?_
      refine ea_aload_nO (pc := 1561) dL_law_1561 rfl 0 rfl ?_
      refine ea_iload_n (pc := 1562) dL_law_1562 rfl 3 rfl ?_
      refine ea_iconst (pc := 1563) dL_law_1563 (v := 1) rfl ?_
      refine ea_iadd (pc := 1564) dL_law_1564 ?_
      obtain ⟨w5, Ew5, E⟩ := bd_some E
      have hsw5 : ShL w5.2 := ShL_core ((kpX12_seats _ _) _ Ew5) hsw3
      refine ea_sld (pc := 1565) dL_law_1565 z4 ?_
      refine ea_callV (pc := 1566) (d' := d - 1) (As := [vI ((ea_q w3.2).2 (Int32.toNatClampNeg (x3 + (1 : Int32))))]) (st := [vI w3.1]) dL_law_1566 kX12_seats (sX12_seats (d := d - 1) (by omega) (hsw3).2 Ew5) (by omega) rfl (Nat.le_of_ble_eq_true rfl) ew_2244 ew_2245 ew_2246 (ci := 12) rfl (by decide) (cShL_326 hsw3).1 (cShL_326 hsw3).2.1 ?_
      refine ea_icmp_eq (pc := 1569) (tgt := 1574) dL_law_1569 rfl (fun c6 => ?_) (fun c6 => ?_)
      · have E := (if_pos c6).symm.trans E
        refine ea_iinc (pc := 1574) (v := 7) (lv' := [(0, vO 0), (1, vR (some 0)), (2, vR (some 326)), (3, vI (x3 + (7 : Int32)))]) dL_law_1574 3 rfl rfl (Nat.le_of_ble_eq_true rfl) [1, 2, 3, 0] rfl ?_
        refine ea_goto (pc := 1577) (tgt := 18) dL_law_1577 rfl ?_
        exact (kJ18 ((x3 + (7 : Int32)) : Int32) w5.2 _ _ E hsw5)
      · have E := (if_neg c6).symm.trans E
        refine ea_iconst (pc := 1572) dL_law_1572 (v := 0) rfl ?_
        exact ea_iretO (pc := 1573) dL_law_1573 rfl (ea_bn (Or.inl rfl)) E
    have E := (if_neg q33_37).symm.trans E
    refine ea_tswOut (pc := 33) (tgt := 1574) dL_law_33 (ea_sw_0_37 q33_0 q33_1 q33_2 q33_3 q33_4 q33_5 q33_6 q33_7 q33_8 q33_9 q33_10 q33_11 q33_12 q33_13 q33_14 q33_15 q33_16 q33_17 q33_18 q33_19 q33_20 q33_21 q33_22 q33_23 q33_24 q33_25 q33_26 q33_27 q33_28 q33_29 q33_30 q33_31 q33_32 q33_33 q33_34 q33_35 q33_36 q33_37) rfl ?_
    refine ea_iinc (pc := 1574) (v := 7) (lv' := [(0, vO 0), (1, vR (some 0)), (2, vR (some 326)), (3, vI (x3 + (7 : Int32)))]) dL_law_1574 3 rfl rfl (Nat.le_of_ble_eq_true rfl) [1, 2, 3, 0] rfl ?_
    refine ea_goto (pc := 1577) (tgt := 18) dL_law_1577 rfl ?_
    exact (kJ18 ((x3 + (7 : Int32)) : Int32) h _ _ E hs)
set_option maxRecDepth 100000 in
set_option maxHeartbeats 0 in
theorem kBL_law_18 {J18 : Int32 → ea_H → Option (Int32 × ea_H)}  (cJ18 : ∀ (x3 : Int32) (h : ea_H), kp (ea_core h) (J18 x3 h)) {x3 : Int32} {h : ea_H} : kp (ea_core h) (BL_law_18 J18 x3 h) :=
  (kp_ite (kp_ret rfl) (kp_gd (kp_ite (kp_bind (kp_tw (kpX11_town _) rfl) fun w300 hcw300 => (kp_bind (kp_tw (kpX12_town _) hcw300) fun w301 hcw301 => (kp_ite (kp_tw (cJ18 _ _) hcw301) (kp_ret hcw301)))) (kp_ite (kp_gd (kp_gd (kp_gd (kp_bind (kp_tw (kpX11_road _ _ _ _) rfl) fun w294 hcw294 => (kp_gd (kp_gd (kp_gd (kp_bind (kp_tw (kpX12_road _ _ _ _) hcw294) fun w298 hcw298 => (kp_ite (kp_tw (cJ18 _ _) hcw298) (kp_ret hcw298)))))))))) (kp_ite (kp_gd (kp_gd (kp_bind (kp_tw (kpX11_miles _ _ _) rfl) fun w286 hcw286 => (kp_gd (kp_gd (kp_bind (kp_tw (kpX12_miles _ _ _) hcw286) fun w289 hcw289 => (kp_ite (kp_tw (cJ18 _ _) hcw289) (kp_ret hcw289)))))))) (kp_ite (kp_bind (kp_tw (kpX11_train _) rfl) fun w281 hcw281 => (kp_bind (kp_tw (kpX12_train _) hcw281) fun w282 hcw282 => (kp_ite (kp_tw (cJ18 _ _) hcw282) (kp_ret hcw282)))) (kp_ite (kp_gd (kp_gd (kp_gd (kp_gd (kp_gd (kp_ite (kp_bind (kp_tw (kpX11_stop _ _ _ _ _ _) rfl) fun w258 hcw258 => (kp_gd (kp_gd (kp_gd (kp_gd (kp_gd (kp_ite (kp_bind (kp_tw (kpX12_stop _ _ _ _ _ _) hcw258) fun w264 hcw264 => (kp_ite (kp_tw (cJ18 _ _) hcw264) (kp_ret hcw264))) (kp_bind (kp_tw (kpX12_stop _ _ _ _ _ _) hcw258) fun w266 hcw266 => (kp_ite (kp_tw (cJ18 _ _) hcw266) (kp_ret hcw266)))))))))) (kp_bind (kp_tw (kpX11_stop _ _ _ _ _ _) rfl) fun w269 hcw269 => (kp_gd (kp_gd (kp_gd (kp_gd (kp_gd (kp_ite (kp_bind (kp_tw (kpX12_stop _ _ _ _ _ _) hcw269) fun w275 hcw275 => (kp_ite (kp_tw (cJ18 _ _) hcw275) (kp_ret hcw275))) (kp_bind (kp_tw (kpX12_stop _ _ _ _ _ _) hcw269) fun w277 hcw277 => (kp_ite (kp_tw (cJ18 _ _) hcw277) (kp_ret hcw277)))))))))))))))) (kp_ite (kp_gd (kp_gd (kp_gd (kp_bind (kp_tw (kpX11_stopOf _ _ _ _) rfl) fun w247 hcw247 => (kp_gd (kp_gd (kp_gd (kp_bind (kp_tw (kpX12_stopOf _ _ _ _) hcw247) fun w251 hcw251 => (kp_ite (kp_tw (cJ18 _ _) hcw251) (kp_ret hcw251)))))))))) (kp_ite (kp_gd (kp_gd (kp_gd (kp_bind (kp_tw (kpX11_late _ _ _ _) rfl) fun w238 hcw238 => (kp_gd (kp_gd (kp_gd (kp_bind (kp_tw (kpX12_late _ _ _ _) hcw238) fun w242 hcw242 => (kp_ite (kp_tw (cJ18 _ _) hcw242) (kp_ret hcw242)))))))))) (kp_ite (kp_gd (kp_gd (kp_gd (kp_bind (kp_tw (kpX11_miss _ _ _ _) rfl) fun w229 hcw229 => (kp_gd (kp_gd (kp_gd (kp_bind (kp_tw (kpX12_miss _ _ _ _) hcw229) fun w233 hcw233 => (kp_ite (kp_tw (cJ18 _ _) hcw233) (kp_ret hcw233)))))))))) (kp_ite (kp_gd (kp_bind (kp_tw (kpX11_minutes _ _) rfl) fun w222 hcw222 => (kp_gd (kp_bind (kp_tw (kpX12_minutes _ _) hcw222) fun w224 hcw224 => (kp_ite (kp_tw (cJ18 _ _) hcw224) (kp_ret hcw224)))))) (kp_ite (kp_gd (kp_bind (kp_tw (kpX11_look _ _) rfl) fun w217 hcw217 => (kp_gd (kp_bind (kp_tw (kpX12_look _ _) hcw217) fun w219 hcw219 => (kp_ite (kp_tw (cJ18 _ _) hcw219) (kp_ret hcw219)))))) (kp_ite (kp_gd (kp_gd (kp_gd (kp_gd (kp_gd (kp_bind (kp_tw (kpX11_feed _ _ _ _ _ _) rfl) fun w208 hcw208 => (kp_gd (kp_gd (kp_gd (kp_gd (kp_gd (kp_bind (kp_tw (kpX12_feed _ _ _ _ _ _) hcw208) fun w214 hcw214 => (kp_ite (kp_tw (cJ18 _ _) hcw214) (kp_ret hcw214)))))))))))))) (kp_ite (kp_gd (kp_bind (kp_tw (kpX11_end _ _) rfl) fun w199 hcw199 => (kp_gd (kp_bind (kp_tw (kpX12_end _ _) hcw199) fun w201 hcw201 => (kp_ite (kp_tw (cJ18 _ _) hcw201) (kp_ret hcw201)))))) (kp_ite (kp_gd (kp_bind (kp_tw (kpX11_act _ _) rfl) fun w194 hcw194 => (kp_gd (kp_bind (kp_tw (kpX12_act _ _) hcw194) fun w196 hcw196 => (kp_ite (kp_tw (cJ18 _ _) hcw196) (kp_ret hcw196)))))) (kp_ite (kp_gd (kp_bind (kp_tw (kpX11_fault _ _) rfl) fun w189 hcw189 => (kp_gd (kp_bind (kp_tw (kpX12_fault _ _) hcw189) fun w191 hcw191 => (kp_ite (kp_tw (cJ18 _ _) hcw191) (kp_ret hcw191)))))) (kp_ite (kp_gd (kp_gd (kp_bind (kp_tw (kpX11_inForce _ _ _) rfl) fun w183 hcw183 => (kp_gd (kp_gd (kp_bind (kp_tw (kpX12_inForce _ _ _) hcw183) fun w186 hcw186 => (kp_ite (kp_tw (cJ18 _ _) hcw186) (kp_ret hcw186)))))))) (kp_ite (kp_gd (kp_gd (kp_gd (kp_gd (kp_gd (kp_gd (kp_bind (kp_tw (kpX11_post _ _ _ _ _ _ _) rfl) fun w172 hcw172 => (kp_gd (kp_gd (kp_gd (kp_gd (kp_gd (kp_gd (kp_bind (kp_tw (kpX12_post _ _ _ _ _ _ _) hcw172) fun w179 hcw179 => (kp_ite (kp_tw (cJ18 _ _) hcw179) (kp_ret hcw179)))))))))))))))) (kp_ite (kp_gd (kp_gd (kp_bind (kp_tw (kpX11_of _ _ _) rfl) fun w161 hcw161 => (kp_gd (kp_gd (kp_bind (kp_tw (kpX12_of _ _ _) hcw161) fun w164 hcw164 => (kp_ite (kp_tw (cJ18 _ _) hcw164) (kp_ret hcw164)))))))) (kp_ite (kp_gd (kp_gd (kp_bind (kp_tw (kpX11_charge _ _ _) rfl) fun w154 hcw154 => (kp_gd (kp_gd (kp_bind (kp_tw (kpX12_charge _ _ _) hcw154) fun w157 hcw157 => (kp_ite (kp_tw (cJ18 _ _) hcw157) (kp_ret hcw157)))))))) (kp_ite (kp_gd (kp_gd (kp_gd (kp_gd (kp_bind (kp_tw (kpX11_way _ _ _ _ _) rfl) fun w145 hcw145 => (kp_gd (kp_gd (kp_gd (kp_gd (kp_bind (kp_tw (kpX12_way _ _ _ _ _) hcw145) fun w150 hcw150 => (kp_ite (kp_tw (cJ18 _ _) hcw150) (kp_ret hcw150)))))))))))) (kp_ite (kp_gd (kp_gd (kp_gd (kp_bind (kp_tw (kpX11_lead _ _ _ _) rfl) fun w135 hcw135 => (kp_gd (kp_gd (kp_gd (kp_bind (kp_tw (kpX12_lead _ _ _ _) hcw135) fun w139 hcw139 => (kp_ite (kp_tw (cJ18 _ _) hcw139) (kp_ret hcw139)))))))))) (kp_ite (kp_gd (kp_gd (kp_gd (kp_bind (kp_tw (kpX11_where _ _ _ _) rfl) fun w126 hcw126 => (kp_gd (kp_gd (kp_gd (kp_bind (kp_tw (kpX12_where _ _ _ _) hcw126) fun w130 hcw130 => (kp_ite (kp_tw (cJ18 _ _) hcw130) (kp_ret hcw130)))))))))) (kp_ite (kp_gd (kp_gd (kp_bind (kp_tw (kpX11_sorter _ _ _) rfl) fun w118 hcw118 => (kp_gd (kp_gd (kp_bind (kp_tw (kpX12_sorter _ _ _) hcw118) fun w121 hcw121 => (kp_ite (kp_tw (cJ18 _ _) hcw121) (kp_ret hcw121)))))))) (kp_ite (kp_gd (kp_gd (kp_bind (kp_tw (kpX11_seat _ _ _) rfl) fun w111 hcw111 => (kp_gd (kp_gd (kp_bind (kp_tw (kpX12_seat _ _ _) hcw111) fun w114 hcw114 => (kp_ite (kp_tw (cJ18 _ _) hcw114) (kp_ret hcw114)))))))) (kp_ite (kp_gd (kp_gd (kp_gd (kp_bind (kp_tw (kpX11_run _ _ _ _) rfl) fun w103 hcw103 => (kp_gd (kp_gd (kp_gd (kp_bind (kp_tw (kpX12_run_ _ _ _ _) hcw103) fun w107 hcw107 => (kp_ite (kp_tw (cJ18 _ _) hcw107) (kp_ret hcw107)))))))))) (kp_ite (kp_gd (kp_gd (kp_gd (kp_bind (kp_tw (kpX11_account _ _ _ _) rfl) fun w94 hcw94 => (kp_gd (kp_gd (kp_gd (kp_bind (kp_tw (kpX12_account _ _ _ _) hcw94) fun w98 hcw98 => (kp_ite (kp_tw (cJ18 _ _) hcw98) (kp_ret hcw98)))))))))) (kp_ite (kp_gd (kp_bind (kp_tw (kpX11_nobody _ _) rfl) fun w87 hcw87 => (kp_gd (kp_bind (kp_tw (kpX12_nobody _ _) hcw87) fun w89 hcw89 => (kp_ite (kp_tw (cJ18 _ _) hcw89) (kp_ret hcw89)))))) (kp_ite (kp_gd (kp_gd (kp_gd (kp_bind (kp_tw (kpX11_place _ _ _ _) rfl) fun w80 hcw80 => (kp_gd (kp_gd (kp_gd (kp_bind (kp_tw (kpX12_place _ _ _ _) hcw80) fun w84 hcw84 => (kp_ite (kp_tw (cJ18 _ _) hcw84) (kp_ret hcw84)))))))))) (kp_ite (kp_gd (kp_gd (kp_bind (kp_tw (kpX11_order _ _ _) rfl) fun w72 hcw72 => (kp_gd (kp_gd (kp_bind (kp_tw (kpX12_order _ _ _) hcw72) fun w75 hcw75 => (kp_ite (kp_tw (cJ18 _ _) hcw75) (kp_ret hcw75)))))))) (kp_ite (kp_gd (kp_gd (kp_bind (kp_tw (kpX11_found _ _ _) rfl) fun w65 hcw65 => (kp_gd (kp_gd (kp_bind (kp_tw (kpX12_found _ _ _) hcw65) fun w68 hcw68 => (kp_ite (kp_tw (cJ18 _ _) hcw68) (kp_ret hcw68)))))))) (kp_ite (kp_gd (kp_gd (kp_bind (kp_tw (kpX11_rob _ _ _) rfl) fun w58 hcw58 => (kp_gd (kp_gd (kp_bind (kp_tw (kpX12_rob _ _ _) hcw58) fun w61 hcw61 => (kp_ite (kp_tw (cJ18 _ _) hcw61) (kp_ret hcw61)))))))) (kp_ite (kp_gd (kp_gd (kp_bind (kp_tw (kpX11_robbery _ _ _) rfl) fun w51 hcw51 => (kp_gd (kp_gd (kp_bind (kp_tw (kpX12_robbery _ _ _) hcw51) fun w54 hcw54 => (kp_ite (kp_tw (cJ18 _ _) hcw54) (kp_ret hcw54)))))))) (kp_ite (kp_gd (kp_bind (kp_tw (kpX11_set _ _) rfl) fun w45 hcw45 => (kp_gd (kp_bind (kp_tw (kpX12_set _ _) hcw45) fun w47 hcw47 => (kp_ite (kp_tw (cJ18 _ _) hcw47) (kp_ret hcw47)))))) (kp_ite (kp_gd (kp_gd (kp_bind (kp_tw (kpX11_seen _ _ _) rfl) fun w39 hcw39 => (kp_gd (kp_gd (kp_bind (kp_tw (kpX12_seen _ _ _) hcw39) fun w42 hcw42 => (kp_ite (kp_tw (cJ18 _ _) hcw42) (kp_ret hcw42)))))))) (kp_ite (kp_gd (kp_gd (kp_bind (kp_tw (kpX11_clock _ _ _) rfl) fun w32 hcw32 => (kp_gd (kp_gd (kp_bind (kp_tw (kpX12_clock _ _ _) hcw32) fun w35 hcw35 => (kp_ite (kp_tw (cJ18 _ _) hcw35) (kp_ret hcw35)))))))) (kp_ite (kp_gd (kp_gd (kp_gd (kp_bind (kp_tw (kpX11_trueMinute _ _ _ _) rfl) fun w24 hcw24 => (kp_gd (kp_gd (kp_gd (kp_bind (kp_tw (kpX12_trueMinute _ _ _ _) hcw24) fun w28 hcw28 => (kp_ite (kp_tw (cJ18 _ _) hcw28) (kp_ret hcw28)))))))))) (kp_ite (kp_gd (kp_bind (kp_tw (kpX11_tried _ _) rfl) fun w17 hcw17 => (kp_gd (kp_bind (kp_tw (kpX12_tried _ _) hcw17) fun w19 hcw19 => (kp_ite (kp_tw (cJ18 _ _) hcw19) (kp_ret hcw19)))))) (kp_ite (kp_gd (kp_gd (kp_gd (kp_bind (kp_tw (kpX11_whatIf _ _ _ _) rfl) fun w10 hcw10 => (kp_gd (kp_gd (kp_gd (kp_bind (kp_tw (kpX12_whatIf _ _ _ _) hcw10) fun w14 hcw14 => (kp_ite (kp_tw (cJ18 _ _) hcw14) (kp_ret hcw14)))))))))) (kp_ite (kp_gd (kp_bind (kp_tw (kpX11_seats _ _) rfl) fun w3 hcw3 => (kp_gd (kp_bind (kp_tw (kpX12_seats _ _) hcw3) fun w5 hcw5 => (kp_ite (kp_tw (cJ18 _ _) hcw5) (kp_ret hcw5)))))) (kp_tw (cJ18 _ _) rfl)))))))))))))))))))))))))))))))))))))))))
set_option maxRecDepth 100000 in
set_option maxHeartbeats 0 in
theorem lBL_law_18 {J18 : Int32 → ea_H → Option (Int32 × ea_H)} {J18_ : Int32 → ea_H → Option (Int32 × ea_H)}  (mJ18 : ∀ (x3 : Int32) (h : ea_H), fle (J18 x3 h) (J18_ x3 h)) {x3 : Int32} {h : ea_H} : fle (BL_law_18 J18 x3 h) (BL_law_18 J18_ x3 h) :=
  (fle_ite (fle_rfl _) (fle_gd (fle_ite (fle_bind (fle_rfl _) fun _ => (fle_bind (fle_rfl _) fun _ => (fle_ite (mJ18 _ _) (fle_rfl _)))) (fle_ite (fle_gd (fle_gd (fle_gd (fle_bind (fle_rfl _) fun _ => (fle_gd (fle_gd (fle_gd (fle_bind (fle_rfl _) fun _ => (fle_ite (mJ18 _ _) (fle_rfl _)))))))))) (fle_ite (fle_gd (fle_gd (fle_bind (fle_rfl _) fun _ => (fle_gd (fle_gd (fle_bind (fle_rfl _) fun _ => (fle_ite (mJ18 _ _) (fle_rfl _)))))))) (fle_ite (fle_bind (fle_rfl _) fun _ => (fle_bind (fle_rfl _) fun _ => (fle_ite (mJ18 _ _) (fle_rfl _)))) (fle_ite (fle_gd (fle_gd (fle_gd (fle_gd (fle_gd (fle_ite (fle_bind (fle_rfl _) fun _ => (fle_gd (fle_gd (fle_gd (fle_gd (fle_gd (fle_ite (fle_bind (fle_rfl _) fun _ => (fle_ite (mJ18 _ _) (fle_rfl _))) (fle_bind (fle_rfl _) fun _ => (fle_ite (mJ18 _ _) (fle_rfl _)))))))))) (fle_bind (fle_rfl _) fun _ => (fle_gd (fle_gd (fle_gd (fle_gd (fle_gd (fle_ite (fle_bind (fle_rfl _) fun _ => (fle_ite (mJ18 _ _) (fle_rfl _))) (fle_bind (fle_rfl _) fun _ => (fle_ite (mJ18 _ _) (fle_rfl _)))))))))))))))) (fle_ite (fle_gd (fle_gd (fle_gd (fle_bind (fle_rfl _) fun _ => (fle_gd (fle_gd (fle_gd (fle_bind (fle_rfl _) fun _ => (fle_ite (mJ18 _ _) (fle_rfl _)))))))))) (fle_ite (fle_gd (fle_gd (fle_gd (fle_bind (fle_rfl _) fun _ => (fle_gd (fle_gd (fle_gd (fle_bind (fle_rfl _) fun _ => (fle_ite (mJ18 _ _) (fle_rfl _)))))))))) (fle_ite (fle_gd (fle_gd (fle_gd (fle_bind (fle_rfl _) fun _ => (fle_gd (fle_gd (fle_gd (fle_bind (fle_rfl _) fun _ => (fle_ite (mJ18 _ _) (fle_rfl _)))))))))) (fle_ite (fle_gd (fle_bind (fle_rfl _) fun _ => (fle_gd (fle_bind (fle_rfl _) fun _ => (fle_ite (mJ18 _ _) (fle_rfl _)))))) (fle_ite (fle_gd (fle_bind (fle_rfl _) fun _ => (fle_gd (fle_bind (fle_rfl _) fun _ => (fle_ite (mJ18 _ _) (fle_rfl _)))))) (fle_ite (fle_gd (fle_gd (fle_gd (fle_gd (fle_gd (fle_bind (fle_rfl _) fun _ => (fle_gd (fle_gd (fle_gd (fle_gd (fle_gd (fle_bind (fle_rfl _) fun _ => (fle_ite (mJ18 _ _) (fle_rfl _)))))))))))))) (fle_ite (fle_gd (fle_bind (fle_rfl _) fun _ => (fle_gd (fle_bind (fle_rfl _) fun _ => (fle_ite (mJ18 _ _) (fle_rfl _)))))) (fle_ite (fle_gd (fle_bind (fle_rfl _) fun _ => (fle_gd (fle_bind (fle_rfl _) fun _ => (fle_ite (mJ18 _ _) (fle_rfl _)))))) (fle_ite (fle_gd (fle_bind (fle_rfl _) fun _ => (fle_gd (fle_bind (fle_rfl _) fun _ => (fle_ite (mJ18 _ _) (fle_rfl _)))))) (fle_ite (fle_gd (fle_gd (fle_bind (fle_rfl _) fun _ => (fle_gd (fle_gd (fle_bind (fle_rfl _) fun _ => (fle_ite (mJ18 _ _) (fle_rfl _)))))))) (fle_ite (fle_gd (fle_gd (fle_gd (fle_gd (fle_gd (fle_gd (fle_bind (fle_rfl _) fun _ => (fle_gd (fle_gd (fle_gd (fle_gd (fle_gd (fle_gd (fle_bind (fle_rfl _) fun _ => (fle_ite (mJ18 _ _) (fle_rfl _)))))))))))))))) (fle_ite (fle_gd (fle_gd (fle_bind (fle_rfl _) fun _ => (fle_gd (fle_gd (fle_bind (fle_rfl _) fun _ => (fle_ite (mJ18 _ _) (fle_rfl _)))))))) (fle_ite (fle_gd (fle_gd (fle_bind (fle_rfl _) fun _ => (fle_gd (fle_gd (fle_bind (fle_rfl _) fun _ => (fle_ite (mJ18 _ _) (fle_rfl _)))))))) (fle_ite (fle_gd (fle_gd (fle_gd (fle_gd (fle_bind (fle_rfl _) fun _ => (fle_gd (fle_gd (fle_gd (fle_gd (fle_bind (fle_rfl _) fun _ => (fle_ite (mJ18 _ _) (fle_rfl _)))))))))))) (fle_ite (fle_gd (fle_gd (fle_gd (fle_bind (fle_rfl _) fun _ => (fle_gd (fle_gd (fle_gd (fle_bind (fle_rfl _) fun _ => (fle_ite (mJ18 _ _) (fle_rfl _)))))))))) (fle_ite (fle_gd (fle_gd (fle_gd (fle_bind (fle_rfl _) fun _ => (fle_gd (fle_gd (fle_gd (fle_bind (fle_rfl _) fun _ => (fle_ite (mJ18 _ _) (fle_rfl _)))))))))) (fle_ite (fle_gd (fle_gd (fle_bind (fle_rfl _) fun _ => (fle_gd (fle_gd (fle_bind (fle_rfl _) fun _ => (fle_ite (mJ18 _ _) (fle_rfl _)))))))) (fle_ite (fle_gd (fle_gd (fle_bind (fle_rfl _) fun _ => (fle_gd (fle_gd (fle_bind (fle_rfl _) fun _ => (fle_ite (mJ18 _ _) (fle_rfl _)))))))) (fle_ite (fle_gd (fle_gd (fle_gd (fle_bind (fle_rfl _) fun _ => (fle_gd (fle_gd (fle_gd (fle_bind (fle_rfl _) fun _ => (fle_ite (mJ18 _ _) (fle_rfl _)))))))))) (fle_ite (fle_gd (fle_gd (fle_gd (fle_bind (fle_rfl _) fun _ => (fle_gd (fle_gd (fle_gd (fle_bind (fle_rfl _) fun _ => (fle_ite (mJ18 _ _) (fle_rfl _)))))))))) (fle_ite (fle_gd (fle_bind (fle_rfl _) fun _ => (fle_gd (fle_bind (fle_rfl _) fun _ => (fle_ite (mJ18 _ _) (fle_rfl _)))))) (fle_ite (fle_gd (fle_gd (fle_gd (fle_bind (fle_rfl _) fun _ => (fle_gd (fle_gd (fle_gd (fle_bind (fle_rfl _) fun _ => (fle_ite (mJ18 _ _) (fle_rfl _)))))))))) (fle_ite (fle_gd (fle_gd (fle_bind (fle_rfl _) fun _ => (fle_gd (fle_gd (fle_bind (fle_rfl _) fun _ => (fle_ite (mJ18 _ _) (fle_rfl _)))))))) (fle_ite (fle_gd (fle_gd (fle_bind (fle_rfl _) fun _ => (fle_gd (fle_gd (fle_bind (fle_rfl _) fun _ => (fle_ite (mJ18 _ _) (fle_rfl _)))))))) (fle_ite (fle_gd (fle_gd (fle_bind (fle_rfl _) fun _ => (fle_gd (fle_gd (fle_bind (fle_rfl _) fun _ => (fle_ite (mJ18 _ _) (fle_rfl _)))))))) (fle_ite (fle_gd (fle_gd (fle_bind (fle_rfl _) fun _ => (fle_gd (fle_gd (fle_bind (fle_rfl _) fun _ => (fle_ite (mJ18 _ _) (fle_rfl _)))))))) (fle_ite (fle_gd (fle_bind (fle_rfl _) fun _ => (fle_gd (fle_bind (fle_rfl _) fun _ => (fle_ite (mJ18 _ _) (fle_rfl _)))))) (fle_ite (fle_gd (fle_gd (fle_bind (fle_rfl _) fun _ => (fle_gd (fle_gd (fle_bind (fle_rfl _) fun _ => (fle_ite (mJ18 _ _) (fle_rfl _)))))))) (fle_ite (fle_gd (fle_gd (fle_bind (fle_rfl _) fun _ => (fle_gd (fle_gd (fle_bind (fle_rfl _) fun _ => (fle_ite (mJ18 _ _) (fle_rfl _)))))))) (fle_ite (fle_gd (fle_gd (fle_gd (fle_bind (fle_rfl _) fun _ => (fle_gd (fle_gd (fle_gd (fle_bind (fle_rfl _) fun _ => (fle_ite (mJ18 _ _) (fle_rfl _)))))))))) (fle_ite (fle_gd (fle_bind (fle_rfl _) fun _ => (fle_gd (fle_bind (fle_rfl _) fun _ => (fle_ite (mJ18 _ _) (fle_rfl _)))))) (fle_ite (fle_gd (fle_gd (fle_gd (fle_bind (fle_rfl _) fun _ => (fle_gd (fle_gd (fle_gd (fle_bind (fle_rfl _) fun _ => (fle_ite (mJ18 _ _) (fle_rfl _)))))))))) (fle_ite (fle_gd (fle_bind (fle_rfl _) fun _ => (fle_gd (fle_bind (fle_rfl _) fun _ => (fle_ite (mJ18 _ _) (fle_rfl _)))))) (mJ18 _ _)))))))))))))))))))))))))))))))))))))))))
set_option maxRecDepth 100000 in
set_option maxHeartbeats 0 in
theorem nBL_law_18 {J18 : Int32 → ea_H → Option (Int32 × ea_H)} {J18_ : Nat → (Int32 → ea_H → Option (Int32 × ea_H))}  (mJ18 : ∀ (x3 : Int32) (h : ea_H), fct (J18 x3 h) (fun f => J18_ f x3 h)) {x3 : Int32} {h : ea_H} : fct (BL_law_18 J18 x3 h) (fun f => BL_law_18 (J18_ f) x3 h) :=
  (fct_ite (fct_rfl _) (fct_gd (fct_ite (fct_bind (fct_rfl _) fun _ => (fct_bind (fct_rfl _) fun _ => (fct_ite (mJ18 _ _) (fct_rfl _)))) (fct_ite (fct_gd (fct_gd (fct_gd (fct_bind (fct_rfl _) fun _ => (fct_gd (fct_gd (fct_gd (fct_bind (fct_rfl _) fun _ => (fct_ite (mJ18 _ _) (fct_rfl _)))))))))) (fct_ite (fct_gd (fct_gd (fct_bind (fct_rfl _) fun _ => (fct_gd (fct_gd (fct_bind (fct_rfl _) fun _ => (fct_ite (mJ18 _ _) (fct_rfl _)))))))) (fct_ite (fct_bind (fct_rfl _) fun _ => (fct_bind (fct_rfl _) fun _ => (fct_ite (mJ18 _ _) (fct_rfl _)))) (fct_ite (fct_gd (fct_gd (fct_gd (fct_gd (fct_gd (fct_ite (fct_bind (fct_rfl _) fun _ => (fct_gd (fct_gd (fct_gd (fct_gd (fct_gd (fct_ite (fct_bind (fct_rfl _) fun _ => (fct_ite (mJ18 _ _) (fct_rfl _))) (fct_bind (fct_rfl _) fun _ => (fct_ite (mJ18 _ _) (fct_rfl _)))))))))) (fct_bind (fct_rfl _) fun _ => (fct_gd (fct_gd (fct_gd (fct_gd (fct_gd (fct_ite (fct_bind (fct_rfl _) fun _ => (fct_ite (mJ18 _ _) (fct_rfl _))) (fct_bind (fct_rfl _) fun _ => (fct_ite (mJ18 _ _) (fct_rfl _)))))))))))))))) (fct_ite (fct_gd (fct_gd (fct_gd (fct_bind (fct_rfl _) fun _ => (fct_gd (fct_gd (fct_gd (fct_bind (fct_rfl _) fun _ => (fct_ite (mJ18 _ _) (fct_rfl _)))))))))) (fct_ite (fct_gd (fct_gd (fct_gd (fct_bind (fct_rfl _) fun _ => (fct_gd (fct_gd (fct_gd (fct_bind (fct_rfl _) fun _ => (fct_ite (mJ18 _ _) (fct_rfl _)))))))))) (fct_ite (fct_gd (fct_gd (fct_gd (fct_bind (fct_rfl _) fun _ => (fct_gd (fct_gd (fct_gd (fct_bind (fct_rfl _) fun _ => (fct_ite (mJ18 _ _) (fct_rfl _)))))))))) (fct_ite (fct_gd (fct_bind (fct_rfl _) fun _ => (fct_gd (fct_bind (fct_rfl _) fun _ => (fct_ite (mJ18 _ _) (fct_rfl _)))))) (fct_ite (fct_gd (fct_bind (fct_rfl _) fun _ => (fct_gd (fct_bind (fct_rfl _) fun _ => (fct_ite (mJ18 _ _) (fct_rfl _)))))) (fct_ite (fct_gd (fct_gd (fct_gd (fct_gd (fct_gd (fct_bind (fct_rfl _) fun _ => (fct_gd (fct_gd (fct_gd (fct_gd (fct_gd (fct_bind (fct_rfl _) fun _ => (fct_ite (mJ18 _ _) (fct_rfl _)))))))))))))) (fct_ite (fct_gd (fct_bind (fct_rfl _) fun _ => (fct_gd (fct_bind (fct_rfl _) fun _ => (fct_ite (mJ18 _ _) (fct_rfl _)))))) (fct_ite (fct_gd (fct_bind (fct_rfl _) fun _ => (fct_gd (fct_bind (fct_rfl _) fun _ => (fct_ite (mJ18 _ _) (fct_rfl _)))))) (fct_ite (fct_gd (fct_bind (fct_rfl _) fun _ => (fct_gd (fct_bind (fct_rfl _) fun _ => (fct_ite (mJ18 _ _) (fct_rfl _)))))) (fct_ite (fct_gd (fct_gd (fct_bind (fct_rfl _) fun _ => (fct_gd (fct_gd (fct_bind (fct_rfl _) fun _ => (fct_ite (mJ18 _ _) (fct_rfl _)))))))) (fct_ite (fct_gd (fct_gd (fct_gd (fct_gd (fct_gd (fct_gd (fct_bind (fct_rfl _) fun _ => (fct_gd (fct_gd (fct_gd (fct_gd (fct_gd (fct_gd (fct_bind (fct_rfl _) fun _ => (fct_ite (mJ18 _ _) (fct_rfl _)))))))))))))))) (fct_ite (fct_gd (fct_gd (fct_bind (fct_rfl _) fun _ => (fct_gd (fct_gd (fct_bind (fct_rfl _) fun _ => (fct_ite (mJ18 _ _) (fct_rfl _)))))))) (fct_ite (fct_gd (fct_gd (fct_bind (fct_rfl _) fun _ => (fct_gd (fct_gd (fct_bind (fct_rfl _) fun _ => (fct_ite (mJ18 _ _) (fct_rfl _)))))))) (fct_ite (fct_gd (fct_gd (fct_gd (fct_gd (fct_bind (fct_rfl _) fun _ => (fct_gd (fct_gd (fct_gd (fct_gd (fct_bind (fct_rfl _) fun _ => (fct_ite (mJ18 _ _) (fct_rfl _)))))))))))) (fct_ite (fct_gd (fct_gd (fct_gd (fct_bind (fct_rfl _) fun _ => (fct_gd (fct_gd (fct_gd (fct_bind (fct_rfl _) fun _ => (fct_ite (mJ18 _ _) (fct_rfl _)))))))))) (fct_ite (fct_gd (fct_gd (fct_gd (fct_bind (fct_rfl _) fun _ => (fct_gd (fct_gd (fct_gd (fct_bind (fct_rfl _) fun _ => (fct_ite (mJ18 _ _) (fct_rfl _)))))))))) (fct_ite (fct_gd (fct_gd (fct_bind (fct_rfl _) fun _ => (fct_gd (fct_gd (fct_bind (fct_rfl _) fun _ => (fct_ite (mJ18 _ _) (fct_rfl _)))))))) (fct_ite (fct_gd (fct_gd (fct_bind (fct_rfl _) fun _ => (fct_gd (fct_gd (fct_bind (fct_rfl _) fun _ => (fct_ite (mJ18 _ _) (fct_rfl _)))))))) (fct_ite (fct_gd (fct_gd (fct_gd (fct_bind (fct_rfl _) fun _ => (fct_gd (fct_gd (fct_gd (fct_bind (fct_rfl _) fun _ => (fct_ite (mJ18 _ _) (fct_rfl _)))))))))) (fct_ite (fct_gd (fct_gd (fct_gd (fct_bind (fct_rfl _) fun _ => (fct_gd (fct_gd (fct_gd (fct_bind (fct_rfl _) fun _ => (fct_ite (mJ18 _ _) (fct_rfl _)))))))))) (fct_ite (fct_gd (fct_bind (fct_rfl _) fun _ => (fct_gd (fct_bind (fct_rfl _) fun _ => (fct_ite (mJ18 _ _) (fct_rfl _)))))) (fct_ite (fct_gd (fct_gd (fct_gd (fct_bind (fct_rfl _) fun _ => (fct_gd (fct_gd (fct_gd (fct_bind (fct_rfl _) fun _ => (fct_ite (mJ18 _ _) (fct_rfl _)))))))))) (fct_ite (fct_gd (fct_gd (fct_bind (fct_rfl _) fun _ => (fct_gd (fct_gd (fct_bind (fct_rfl _) fun _ => (fct_ite (mJ18 _ _) (fct_rfl _)))))))) (fct_ite (fct_gd (fct_gd (fct_bind (fct_rfl _) fun _ => (fct_gd (fct_gd (fct_bind (fct_rfl _) fun _ => (fct_ite (mJ18 _ _) (fct_rfl _)))))))) (fct_ite (fct_gd (fct_gd (fct_bind (fct_rfl _) fun _ => (fct_gd (fct_gd (fct_bind (fct_rfl _) fun _ => (fct_ite (mJ18 _ _) (fct_rfl _)))))))) (fct_ite (fct_gd (fct_gd (fct_bind (fct_rfl _) fun _ => (fct_gd (fct_gd (fct_bind (fct_rfl _) fun _ => (fct_ite (mJ18 _ _) (fct_rfl _)))))))) (fct_ite (fct_gd (fct_bind (fct_rfl _) fun _ => (fct_gd (fct_bind (fct_rfl _) fun _ => (fct_ite (mJ18 _ _) (fct_rfl _)))))) (fct_ite (fct_gd (fct_gd (fct_bind (fct_rfl _) fun _ => (fct_gd (fct_gd (fct_bind (fct_rfl _) fun _ => (fct_ite (mJ18 _ _) (fct_rfl _)))))))) (fct_ite (fct_gd (fct_gd (fct_bind (fct_rfl _) fun _ => (fct_gd (fct_gd (fct_bind (fct_rfl _) fun _ => (fct_ite (mJ18 _ _) (fct_rfl _)))))))) (fct_ite (fct_gd (fct_gd (fct_gd (fct_bind (fct_rfl _) fun _ => (fct_gd (fct_gd (fct_gd (fct_bind (fct_rfl _) fun _ => (fct_ite (mJ18 _ _) (fct_rfl _)))))))))) (fct_ite (fct_gd (fct_bind (fct_rfl _) fun _ => (fct_gd (fct_bind (fct_rfl _) fun _ => (fct_ite (mJ18 _ _) (fct_rfl _)))))) (fct_ite (fct_gd (fct_gd (fct_gd (fct_bind (fct_rfl _) fun _ => (fct_gd (fct_gd (fct_gd (fct_bind (fct_rfl _) fun _ => (fct_ite (mJ18 _ _) (fct_rfl _)))))))))) (fct_ite (fct_gd (fct_bind (fct_rfl _) fun _ => (fct_gd (fct_bind (fct_rfl _) fun _ => (fct_ite (mJ18 _ _) (fct_rfl _)))))) (mJ18 _ _)))))))))))))))))))))))))))))))))))))))))
noncomputable def gL_law : Nat → (Int32 → ea_H → Option (Int32 × ea_H))
  | 0 => fun _ _ => none
  | f + 1 => BL_law_18 (gL_law f)
theorem mgL_law : ∀ f : Nat, (∀ (x3 : Int32) (h : ea_H), fle ((gL_law f) x3 h) ((gL_law (f + 1)) x3 h)) := by
  intro f
  induction f with
  | zero => exact fun _ _ => fle_none _
  | succ f ih => exact fun _ _ => lBL_law_18 ih
noncomputable def qL_law_18 (x3 : Int32) (h : ea_H) : Option (Int32 × ea_H) := flim fun f => (gL_law f) x3 h
theorem fqL_law_18 (x3 : Int32) (h : ea_H) : fct (qL_law_18 x3 h) fun f => (gL_law f) x3 h := flim_ct fun f => (mgL_law f) x3 h
/-- how a block opens -/
theorem uqL_law_18 {x3 : Int32} {h : ea_H} {P : Int32 × ea_H → Prop} (H : sat (BL_law_18 qL_law_18 x3 h) P) : sat (qL_law_18 x3 h) P := by
  obtain ⟨x, e, hp⟩ := H
  obtain ⟨n, hn⟩ := nBL_law_18 fqL_law_18 x e
  exact ⟨x, flim_at (fun f => (mgL_law f) x3 h) (f := n + 1) (hn n (Nat.le_refl _)), hp⟩
theorem kgL_law : ∀ f : Nat, (∀ (x3 : Int32) (h : ea_H), kp (ea_core h) ((gL_law f) x3 h)) := by
  intro f
  induction f with
  | zero => exact fun _ _ => kp_none _
  | succ f ih => exact fun _ _ => kBL_law_18 ih
theorem tgL_law {d : Nat} {h0 : ea_H} (hd : 98 ≤ d) : ∀ f : Nat, (∀ (x3 : Int32) (h : ea_H) (r : Int32) (h' : ea_H), (gL_law f) x3 h = some (r, h') → ShL h → ea_W mL_law d h0 (some (vI r)) h' 18 [(0, vO 0), (1, vR (some 0)), (2, vR (some 326)), (3, vI x3)] [] h) := by
  intro f
  induction f with
  | zero => exact fun _ _ _ _ E => no_some E
  | succ f ih => exact fun _ _ _ _ E hs => tBL_law_18 hd ih E hs
