/-! the reference, 1 -/
noncomputable def BX12_isBetter_0 (x1 : Int32) (x2 : Int32) (x3 : Int32) (h : ea_H) : Option (Int32 × ea_H) :=
  (ea_let (((12 : Int32) * x1) + x3) fun (v1 : Int32) => (ea_let (((12 : Int32) * x2) + x3) fun (v2 : Int32) => (gd (vp_in v1 12000) (gd (vp_in v2 12000) (if (ea_i h 341 (Int32.toNatClampNeg v1)) = (ea_i h 341 (Int32.toNatClampNeg v2)) then (gd (vp_in v1 12000) (gd (vp_in v2 12000) (if (ea_i h 342 (Int32.toNatClampNeg v1)) = (ea_i h 342 (Int32.toNatClampNeg v2)) then (gd (vp_in x1 1000) (gd (vp_in x2 1000) (if (ea_i h 338 (Int32.toNatClampNeg x1)) = (ea_i h 338 (Int32.toNatClampNeg x2)) then (gd (vp_in x1 1000) (gd (vp_in x2 1000) (if (ea_i h 339 (Int32.toNatClampNeg x2)) ≤ (ea_i h 339 (Int32.toNatClampNeg x1)) then (some ((0 : Int32), h)) else (some ((1 : Int32), h))))) else (gd (vp_in x1 1000) (gd (vp_in x2 1000) (if (ea_i h 338 (Int32.toNatClampNeg x2)) ≤ (ea_i h 338 (Int32.toNatClampNeg x1)) then (some ((0 : Int32), h)) else (some ((1 : Int32), h)))))))) else (gd (vp_in v1 12000) (gd (vp_in v2 12000) (if (ea_i h 342 (Int32.toNatClampNeg v2)) ≤ (ea_i h 342 (Int32.toNatClampNeg v1)) then (some ((0 : Int32), h)) else (some ((1 : Int32), h)))))))) else (gd (vp_in v1 12000) (gd (vp_in v2 12000) (if (ea_i h 341 (Int32.toNatClampNeg v2)) ≤ (ea_i h 341 (Int32.toNatClampNeg v1)) then (some ((0 : Int32), h)) else (some ((1 : Int32), h))))))))))
theorem tBX12_isBetter_0 {d : Nat} {h0 : ea_H} (hd : 1 ≤ d)  {x1 : Int32} {x2 : Int32} {x3 : Int32} {h : ea_H} {r : Int32} {h' : ea_H} (E : BX12_isBetter_0 x1 x2 x3 h = some (r, h')) (hs : ShM h) : ea_W mX12_isBetter d h0 (some (vI r)) h' 0 [(0, vR (some 326)), (1, vI x1), (2, vI x2), (3, vI x3)] [] h := by
  unfold BX12_isBetter_0 at E
  obtain ⟨v1, ev1, E⟩ := let_some E
  refine ea_bipush (pc := 0) dX12_isBetter_0 (v := 12) rfl ?_
  refine ea_iload_n (pc := 2) dX12_isBetter_2 rfl 1 rfl ?_
  refine ea_imul (pc := 3) dX12_isBetter_3 ?_
  refine ea_iload_n (pc := 4) dX12_isBetter_4 rfl 3 rfl ?_
  refine ea_iadd (pc := 5) dX12_isBetter_5 ?_
  obtain ⟨v2, ev2, E⟩ := let_some E
  refine ea_istore (pc := 6) (lv' := [(0, vR (some 326)), (1, vI x1), (2, vI x2), (3, vI x3), (4, vI v1)]) dX12_isBetter_6 (Nat.le_of_ble_eq_true rfl) [1, 2, 3, 4, 0] (by rw [ev1]; rfl) ?_
  refine ea_bipush (pc := 8) dX12_isBetter_8 (v := 12) rfl ?_
  refine ea_iload_n (pc := 10) dX12_isBetter_10 rfl 2 rfl ?_
  refine ea_imul (pc := 11) dX12_isBetter_11 ?_
  refine ea_iload_n (pc := 12) dX12_isBetter_12 rfl 3 rfl ?_
  refine ea_iadd (pc := 13) dX12_isBetter_13 ?_
  obtain ⟨z3, E⟩ := gd_some E
  refine ea_istore (pc := 14) (lv' := [(0, vR (some 326)), (1, vI x1), (2, vI x2), (4, vI v1), (5, vI v2)]) dX12_isBetter_14 (Nat.le_of_ble_eq_true rfl) [1, 2, 3, 5, 0] (by rw [ev2]; rfl) ?_
  refine ea_aload_n (pc := 16) dX12_isBetter_16 rfl 0 rfl ?_
  refine ea_getR (pc := 17) dX12_isBetter_17 ec_12 (k := 19) (Nat.le_of_ble_eq_true rfl) rfl (Or.inl ew_1421) (cShM_326 hs).1 (cShM_326 hs).2.1 (rShM_326_19 hs) ?_
  refine ea_iload (pc := 20) dX12_isBetter_20 3 rfl ?_
  obtain ⟨z4, E⟩ := gd_some E
  refine ea_iald (pc := 22) dX12_isBetter_22 (cShM_341 hs).1 (cShM_341 hs).2.1 (ea_vpl (cShM_341 hs).2.2 z3) ?_
  refine ea_aload_n (pc := 23) dX12_isBetter_23 rfl 0 rfl ?_
  refine ea_getR (pc := 24) dX12_isBetter_24 ec_12 (k := 19) (Nat.le_of_ble_eq_true rfl) rfl (Or.inl ew_1421) (cShM_326 hs).1 (cShM_326 hs).2.1 (rShM_326_19 hs) ?_
  refine ea_iload (pc := 27) dX12_isBetter_27 4 rfl ?_
  refine ea_iald (pc := 29) dX12_isBetter_29 (cShM_341 hs).1 (cShM_341 hs).2.1 (ea_vpl (cShM_341 hs).2.2 z4) ?_
  refine ea_icmp_eq (pc := 30) (tgt := 56) dX12_isBetter_30 rfl (fun c23 => ?_) (fun c23 => ?_)
  · have E := (if_pos c23).symm.trans E
    obtain ⟨z5, E⟩ := gd_some E
    refine ea_aload_n (pc := 56) dX12_isBetter_56 rfl 0 rfl ?_
    refine ea_getR (pc := 57) dX12_isBetter_57 ec_12 (k := 20) (Nat.le_of_ble_eq_true rfl) rfl (Or.inl ew_1422) (cShM_326 hs).1 (cShM_326 hs).2.1 (rShM_326_20 hs) ?_
    refine ea_iload (pc := 60) dX12_isBetter_60 3 rfl ?_
    obtain ⟨z6, E⟩ := gd_some E
    refine ea_iald (pc := 62) dX12_isBetter_62 (cShM_342 hs).1 (cShM_342 hs).2.1 (ea_vpl (cShM_342 hs).2.2 z5) ?_
    refine ea_aload_n (pc := 63) dX12_isBetter_63 rfl 0 rfl ?_
    refine ea_getR (pc := 64) dX12_isBetter_64 ec_12 (k := 20) (Nat.le_of_ble_eq_true rfl) rfl (Or.inl ew_1422) (cShM_326 hs).1 (cShM_326 hs).2.1 (rShM_326_20 hs) ?_
    refine ea_iload (pc := 67) dX12_isBetter_67 4 rfl ?_
    refine ea_iald (pc := 69) dX12_isBetter_69 (cShM_342 hs).1 (cShM_342 hs).2.1 (ea_vpl (cShM_342 hs).2.2 z6) ?_
    refine ea_icmp_eq (pc := 70) (tgt := 96) dX12_isBetter_70 rfl (fun c19 => ?_) (fun c19 => ?_)
    · have E := (if_pos c19).symm.trans E
      obtain ⟨z7, E⟩ := gd_some E
      refine ea_aload_n (pc := 96) dX12_isBetter_96 rfl 0 rfl ?_
      refine ea_getR (pc := 97) dX12_isBetter_97 ec_12 (k := 16) (Nat.le_of_ble_eq_true rfl) rfl (Or.inl ew_1418) (cShM_326 hs).1 (cShM_326 hs).2.1 (rShM_326_16 hs) ?_
      refine ea_iload_n (pc := 100) dX12_isBetter_100 rfl 1 rfl ?_
      obtain ⟨z8, E⟩ := gd_some E
      refine ea_iald (pc := 101) dX12_isBetter_101 (cShM_338 hs).1 (cShM_338 hs).2.1 (ea_vpl (cShM_338 hs).2.2 z7) ?_
      refine ea_aload_n (pc := 102) dX12_isBetter_102 rfl 0 rfl ?_
      refine ea_getR (pc := 103) dX12_isBetter_103 ec_12 (k := 16) (Nat.le_of_ble_eq_true rfl) rfl (Or.inl ew_1418) (cShM_326 hs).1 (cShM_326 hs).2.1 (rShM_326_16 hs) ?_
      refine ea_iload_n (pc := 106) dX12_isBetter_106 rfl 2 rfl ?_
      refine ea_iald (pc := 107) dX12_isBetter_107 (cShM_338 hs).1 (cShM_338 hs).2.1 (ea_vpl (cShM_338 hs).2.2 z8) ?_
      refine ea_icmp_eq (pc := 108) (tgt := 132) dX12_isBetter_108 rfl (fun c15 => ?_) (fun c15 => ?_)
      · have E := (if_pos c15).symm.trans E
        obtain ⟨z9, E⟩ := gd_some E
        refine ea_aload_n (pc := 132) dX12_isBetter_132 rfl 0 rfl ?_
        refine ea_getR (pc := 133) dX12_isBetter_133 ec_12 (k := 17) (Nat.le_of_ble_eq_true rfl) rfl (Or.inl ew_1419) (cShM_326 hs).1 (cShM_326 hs).2.1 (rShM_326_17 hs) ?_
        refine ea_iload_n (pc := 136) dX12_isBetter_136 rfl 1 rfl ?_
        obtain ⟨z10, E⟩ := gd_some E
        refine ea_iald (pc := 137) dX12_isBetter_137 (cShM_339 hs).1 (cShM_339 hs).2.1 (ea_vpl (cShM_339 hs).2.2 z9) ?_
        refine ea_aload_n (pc := 138) dX12_isBetter_138 rfl 0 rfl ?_
        refine ea_getR (pc := 139) dX12_isBetter_139 ec_12 (k := 17) (Nat.le_of_ble_eq_true rfl) rfl (Or.inl ew_1419) (cShM_326 hs).1 (cShM_326 hs).2.1 (rShM_326_17 hs) ?_
        refine ea_iload_n (pc := 142) dX12_isBetter_142 rfl 2 rfl ?_
        refine ea_iald (pc := 143) dX12_isBetter_143 (cShM_339 hs).1 (cShM_339 hs).2.1 (ea_vpl (cShM_339 hs).2.2 z10) ?_
        refine ea_icmp_ge (pc := 144) (tgt := 151) dX12_isBetter_144 rfl (fun c11 => ?_) (fun c11 => ?_)
        · have E := (if_pos c11).symm.trans E
          refine ea_iconst (pc := 151) dX12_isBetter_151 (v := 0) rfl ?_
          exact ea_iretO (pc := 152) dX12_isBetter_152 rfl (ea_bn (Or.inl rfl)) E
        · have E := (if_neg c11).symm.trans E
          refine ea_iconst (pc := 147) dX12_isBetter_147 (v := 1) rfl ?_
          refine ea_goto (pc := 148) (tgt := 152) dX12_isBetter_148 rfl ?_
          exact ea_iretO (pc := 152) dX12_isBetter_152 rfl (ea_bn (Or.inr rfl)) E
      · have E := (if_neg c15).symm.trans E
        obtain ⟨z12, E⟩ := gd_some E
        refine ea_aload_n (pc := 111) dX12_isBetter_111 rfl 0 rfl ?_
        refine ea_getR (pc := 112) dX12_isBetter_112 ec_12 (k := 16) (Nat.le_of_ble_eq_true rfl) rfl (Or.inl ew_1418) (cShM_326 hs).1 (cShM_326 hs).2.1 (rShM_326_16 hs) ?_
        refine ea_iload_n (pc := 115) dX12_isBetter_115 rfl 1 rfl ?_
        obtain ⟨z13, E⟩ := gd_some E
        refine ea_iald (pc := 116) dX12_isBetter_116 (cShM_338 hs).1 (cShM_338 hs).2.1 (ea_vpl (cShM_338 hs).2.2 z12) ?_
        refine ea_aload_n (pc := 117) dX12_isBetter_117 rfl 0 rfl ?_
        refine ea_getR (pc := 118) dX12_isBetter_118 ec_12 (k := 16) (Nat.le_of_ble_eq_true rfl) rfl (Or.inl ew_1418) (cShM_326 hs).1 (cShM_326 hs).2.1 (rShM_326_16 hs) ?_
        refine ea_iload_n (pc := 121) dX12_isBetter_121 rfl 2 rfl ?_
        refine ea_iald (pc := 122) dX12_isBetter_122 (cShM_338 hs).1 (cShM_338 hs).2.1 (ea_vpl (cShM_338 hs).2.2 z13) ?_
        refine ea_icmp_ge (pc := 123) (tgt := 130) dX12_isBetter_123 rfl (fun c14 => ?_) (fun c14 => ?_)
        · have E := (if_pos c14).symm.trans E
          refine ea_iconst (pc := 130) dX12_isBetter_130 (v := 0) rfl ?_
          exact ea_iretO (pc := 131) dX12_isBetter_131 rfl (ea_bn (Or.inl rfl)) E
        · have E := (if_neg c14).symm.trans E
          refine ea_iconst (pc := 126) dX12_isBetter_126 (v := 1) rfl ?_
          refine ea_goto (pc := 127) (tgt := 131) dX12_isBetter_127 rfl ?_
          exact ea_iretO (pc := 131) dX12_isBetter_131 rfl (ea_bn (Or.inr rfl)) E
    · have E := (if_neg c19).symm.trans E
      obtain ⟨z16, E⟩ := gd_some E
      refine ea_aload_n (pc := 73) dX12_isBetter_73 rfl 0 rfl ?_
      refine ea_getR (pc := 74) dX12_isBetter_74 ec_12 (k := 20) (Nat.le_of_ble_eq_true rfl) rfl (Or.inl ew_1422) (cShM_326 hs).1 (cShM_326 hs).2.1 (rShM_326_20 hs) ?_
      refine ea_iload (pc := 77) dX12_isBetter_77 3 rfl ?_
      obtain ⟨z17, E⟩ := gd_some E
      refine ea_iald (pc := 79) dX12_isBetter_79 (cShM_342 hs).1 (cShM_342 hs).2.1 (ea_vpl (cShM_342 hs).2.2 z16) ?_
      refine ea_aload_n (pc := 80) dX12_isBetter_80 rfl 0 rfl ?_
      refine ea_getR (pc := 81) dX12_isBetter_81 ec_12 (k := 20) (Nat.le_of_ble_eq_true rfl) rfl (Or.inl ew_1422) (cShM_326 hs).1 (cShM_326 hs).2.1 (rShM_326_20 hs) ?_
      refine ea_iload (pc := 84) dX12_isBetter_84 4 rfl ?_
      refine ea_iald (pc := 86) dX12_isBetter_86 (cShM_342 hs).1 (cShM_342 hs).2.1 (ea_vpl (cShM_342 hs).2.2 z17) ?_
      refine ea_icmp_ge (pc := 87) (tgt := 94) dX12_isBetter_87 rfl (fun c18 => ?_) (fun c18 => ?_)
      · have E := (if_pos c18).symm.trans E
        refine ea_iconst (pc := 94) dX12_isBetter_94 (v := 0) rfl ?_
        exact ea_iretO (pc := 95) dX12_isBetter_95 rfl (ea_bn (Or.inl rfl)) E
      · have E := (if_neg c18).symm.trans E
        refine ea_iconst (pc := 90) dX12_isBetter_90 (v := 1) rfl ?_
        refine ea_goto (pc := 91) (tgt := 95) dX12_isBetter_91 rfl ?_
        exact ea_iretO (pc := 95) dX12_isBetter_95 rfl (ea_bn (Or.inr rfl)) E
  · have E := (if_neg c23).symm.trans E
    obtain ⟨z20, E⟩ := gd_some E
    refine ea_aload_n (pc := 33) dX12_isBetter_33 rfl 0 rfl ?_
    refine ea_getR (pc := 34) dX12_isBetter_34 ec_12 (k := 19) (Nat.le_of_ble_eq_true rfl) rfl (Or.inl ew_1421) (cShM_326 hs).1 (cShM_326 hs).2.1 (rShM_326_19 hs) ?_
    refine ea_iload (pc := 37) dX12_isBetter_37 3 rfl ?_
    obtain ⟨z21, E⟩ := gd_some E
    refine ea_iald (pc := 39) dX12_isBetter_39 (cShM_341 hs).1 (cShM_341 hs).2.1 (ea_vpl (cShM_341 hs).2.2 z20) ?_
    refine ea_aload_n (pc := 40) dX12_isBetter_40 rfl 0 rfl ?_
    refine ea_getR (pc := 41) dX12_isBetter_41 ec_12 (k := 19) (Nat.le_of_ble_eq_true rfl) rfl (Or.inl ew_1421) (cShM_326 hs).1 (cShM_326 hs).2.1 (rShM_326_19 hs) ?_
    refine ea_iload (pc := 44) dX12_isBetter_44 4 rfl ?_
    refine ea_iald (pc := 46) dX12_isBetter_46 (cShM_341 hs).1 (cShM_341 hs).2.1 (ea_vpl (cShM_341 hs).2.2 z21) ?_
    refine ea_icmp_ge (pc := 47) (tgt := 54) dX12_isBetter_47 rfl (fun c22 => ?_) (fun c22 => ?_)
    · have E := (if_pos c22).symm.trans E
      refine ea_iconst (pc := 54) dX12_isBetter_54 (v := 0) rfl ?_
      exact ea_iretO (pc := 55) dX12_isBetter_55 rfl (ea_bn (Or.inl rfl)) E
    · have E := (if_neg c22).symm.trans E
      refine ea_iconst (pc := 50) dX12_isBetter_50 (v := 1) rfl ?_
      refine ea_goto (pc := 51) (tgt := 55) dX12_isBetter_51 rfl ?_
      exact ea_iretO (pc := 55) dX12_isBetter_55 rfl (ea_bn (Or.inr rfl)) E
theorem kBX12_isBetter_0  {x1 : Int32} {x2 : Int32} {x3 : Int32} {h : ea_H} : kp (ea_core h) (BX12_isBetter_0 x1 x2 x3 h) :=
  (kp_let (kp_let (kp_gd (kp_gd (kp_ite (kp_gd (kp_gd (kp_ite (kp_gd (kp_gd (kp_ite (kp_gd (kp_gd (kp_ite (kp_ret rfl) (kp_ret rfl)))) (kp_gd (kp_gd (kp_ite (kp_ret rfl) (kp_ret rfl))))))) (kp_gd (kp_gd (kp_ite (kp_ret rfl) (kp_ret rfl))))))) (kp_gd (kp_gd (kp_ite (kp_ret rfl) (kp_ret rfl)))))))))
noncomputable def qX12_isBetter (x1 : Int32) (x2 : Int32) (x3 : Int32) (h : ea_H) : Option (Int32 × ea_H) := BX12_isBetter_0 x1 x2 x3 h
theorem sX12_isBetter {d : Nat} {x1 : Int32} {x2 : Int32} {x3 : Int32} {h : ea_H} {r : Int32} {h' : ea_H} (hd : 1 ≤ d) (hs : ShM h) (K : qX12_isBetter x1 x2 x3 h = some (r, h')) : ea_Met mX12_isBetter d [vR (some 326), vI x1, vI x2, vI x3] h (some (vI r)) h' := by
  unfold qX12_isBetter at K
  have W := tBX12_isBetter_0 hd (h0 := h) K hs
  exact ea_enter rfl (Nat.le_of_ble_eq_true rfl) W
theorem kpX12_isBetter (x1 : Int32) (x2 : Int32) (x3 : Int32) (h : ea_H) : kp (ea_core h) (qX12_isBetter x1 x2 x3 h) := kBX12_isBetter_0
noncomputable def BX12_feed_0 (J18 : Int32 → Int32 → Int32 → Int32 → Int32 → Int32 → ea_H → Option (Int32 × ea_H)) (x1 : Int32) (x2 : Int32) (x3 : Int32) (x4 : Int32) (x5 : Int32) (h : ea_H) : Option (Int32 × ea_H) :=
  (if ((ea_i h 326 52) + (20 : Int32)) ≤ (600 : Int32) then (J18 (x1 : Int32) (x2 : Int32) (x3 : Int32) (x4 : Int32) (x5 : Int32) (0 : Int32) h) else (some (((-1) : Int32), h)))
theorem tBX12_feed_0 {d : Nat} {h0 : ea_H} (hd : 1 ≤ d) {J18 : Int32 → Int32 → Int32 → Int32 → Int32 → Int32 → ea_H → Option (Int32 × ea_H)}  (kJ18 : ∀ (x1 : Int32) (x2 : Int32) (x3 : Int32) (x4 : Int32) (x5 : Int32) (x6 : Int32) (h : ea_H) (r : Int32) (h' : ea_H), J18 x1 x2 x3 x4 x5 x6 h = some (r, h') → ShM h → ea_W mX12_feed d h0 (some (vI r)) h' 18 [(0, vR (some 326)), (1, vI x1), (2, vI x2), (3, vI x3), (4, vI x4), (5, vI x5), (6, vI x6)] [] h) {x1 : Int32} {x2 : Int32} {x3 : Int32} {x4 : Int32} {x5 : Int32} {h : ea_H} {r : Int32} {h' : ea_H} (E : BX12_feed_0 J18 x1 x2 x3 x4 x5 h = some (r, h')) (hs : ShM h) : ea_W mX12_feed d h0 (some (vI r)) h' 0 [(0, vR (some 326)), (1, vI x1), (2, vI x2), (3, vI x3), (4, vI x4), (5, vI x5)] [] h := by
  unfold BX12_feed_0 at E
  refine ea_aload_n (pc := 0) dX12_feed_0 rfl 0 rfl ?_
  refine ea_getI (pc := 1) dX12_feed_1 ec_12 (k := 52) (Nat.le_of_ble_eq_true rfl) rfl (Or.inl ew_1454) (cShM_326 hs).1 (cShM_326 hs).2.1 ?_
  refine ea_bipush (pc := 4) dX12_feed_4 (v := 20) rfl ?_
  refine ea_iadd (pc := 6) dX12_feed_6 ?_
  refine ea_sipush (pc := 7) dX12_feed_7 (v := 600) rfl ?_
  refine ea_icmp_le (pc := 10) (tgt := 15) dX12_feed_10 rfl (fun c1 => ?_) (fun c1 => ?_)
  · have E := (if_pos c1).symm.trans E
    refine ea_iconst (pc := 15) dX12_feed_15 (v := 0) rfl ?_
    refine ea_istore (pc := 16) (lv' := [(0, vR (some 326)), (1, vI x1), (2, vI x2), (3, vI x3), (4, vI x4), (5, vI x5), (6, vI 0)]) dX12_feed_16 (Nat.le_of_ble_eq_true rfl) [1, 2, 3, 4, 5, 6, 0] rfl ?_
    exact (kJ18 (x1 : Int32) (x2 : Int32) (x3 : Int32) (x4 : Int32) (x5 : Int32) (0 : Int32) h _ _ E hs)
  · have E := (if_neg c1).symm.trans E
    refine ea_iconst (pc := 13) dX12_feed_13 (v := (-1)) rfl ?_
    exact ea_iretO (pc := 14) dX12_feed_14 rfl rfl E
theorem kBX12_feed_0 {J18 : Int32 → Int32 → Int32 → Int32 → Int32 → Int32 → ea_H → Option (Int32 × ea_H)}  (cJ18 : ∀ (x1 : Int32) (x2 : Int32) (x3 : Int32) (x4 : Int32) (x5 : Int32) (x6 : Int32) (h : ea_H), kp (ea_core h) (J18 x1 x2 x3 x4 x5 x6 h)) {x1 : Int32} {x2 : Int32} {x3 : Int32} {x4 : Int32} {x5 : Int32} {h : ea_H} : kp (ea_core h) (BX12_feed_0 J18 x1 x2 x3 x4 x5 h) :=
  (kp_ite (kp_tw (cJ18 _ _ _ _ _ _ _) rfl) (kp_ret rfl))
theorem lBX12_feed_0 {J18 : Int32 → Int32 → Int32 → Int32 → Int32 → Int32 → ea_H → Option (Int32 × ea_H)} {J18_ : Int32 → Int32 → Int32 → Int32 → Int32 → Int32 → ea_H → Option (Int32 × ea_H)}  (mJ18 : ∀ (x1 : Int32) (x2 : Int32) (x3 : Int32) (x4 : Int32) (x5 : Int32) (x6 : Int32) (h : ea_H), fle (J18 x1 x2 x3 x4 x5 x6 h) (J18_ x1 x2 x3 x4 x5 x6 h)) {x1 : Int32} {x2 : Int32} {x3 : Int32} {x4 : Int32} {x5 : Int32} {h : ea_H} : fle (BX12_feed_0 J18 x1 x2 x3 x4 x5 h) (BX12_feed_0 J18_ x1 x2 x3 x4 x5 h) :=
  (fle_ite (mJ18 _ _ _ _ _ _ _) (fle_rfl _))
theorem nBX12_feed_0 {J18 : Int32 → Int32 → Int32 → Int32 → Int32 → Int32 → ea_H → Option (Int32 × ea_H)} {J18_ : Nat → (Int32 → Int32 → Int32 → Int32 → Int32 → Int32 → ea_H → Option (Int32 × ea_H))}  (mJ18 : ∀ (x1 : Int32) (x2 : Int32) (x3 : Int32) (x4 : Int32) (x5 : Int32) (x6 : Int32) (h : ea_H), fct (J18 x1 x2 x3 x4 x5 x6 h) (fun f => J18_ f x1 x2 x3 x4 x5 x6 h)) {x1 : Int32} {x2 : Int32} {x3 : Int32} {x4 : Int32} {x5 : Int32} {h : ea_H} : fct (BX12_feed_0 J18 x1 x2 x3 x4 x5 h) (fun f => BX12_feed_0 (J18_ f) x1 x2 x3 x4 x5 h) :=
  (fct_ite (mJ18 _ _ _ _ _ _ _) (fct_rfl _))
noncomputable def BX12_feed_18 (J71 : Int32 → Int32 → Int32 → Int32 → Int32 → Int32 → Int32 → ea_H → Option (Int32 × ea_H)) (x1 : Int32) (x2 : Int32) (x3 : Int32) (x4 : Int32) (x5 : Int32) (x6 : Int32) (h : ea_H) : Option (Int32 × ea_H) :=
  (if (20 : Int32) ≤ x6 then (some ((ea_i h 326 52), h)) else (if (4 : Int32) ≤ x6 then (if (8 : Int32) ≤ x6 then (if (12 : Int32) ≤ x6 then (if (16 : Int32) ≤ x6 then (J71 (x1 : Int32) (x2 : Int32) (x3 : Int32) (x4 : Int32) (x5 : Int32) (x6 : Int32) (x5 : Int32) h) else (J71 (x1 : Int32) (x2 : Int32) (x3 : Int32) (x4 : Int32) (x5 : Int32) (x6 : Int32) (x4 : Int32) h)) else (J71 (x1 : Int32) (x2 : Int32) (x3 : Int32) (x4 : Int32) (x5 : Int32) (x6 : Int32) (x3 : Int32) h)) else (J71 (x1 : Int32) (x2 : Int32) (x3 : Int32) (x4 : Int32) (x5 : Int32) (x6 : Int32) (x2 : Int32) h)) else (J71 (x1 : Int32) (x2 : Int32) (x3 : Int32) (x4 : Int32) (x5 : Int32) (x6 : Int32) (x1 : Int32) h)))
theorem tBX12_feed_18 {d : Nat} {h0 : ea_H} (hd : 1 ≤ d) {J71 : Int32 → Int32 → Int32 → Int32 → Int32 → Int32 → Int32 → ea_H → Option (Int32 × ea_H)}  (kJ71 : ∀ (x1 : Int32) (x2 : Int32) (x3 : Int32) (x4 : Int32) (x5 : Int32) (x6 : Int32) (sx0 : Int32) (h : ea_H) (r : Int32) (h' : ea_H), J71 x1 x2 x3 x4 x5 x6 sx0 h = some (r, h') → ShM h → ea_W mX12_feed d h0 (some (vI r)) h' 71 [(0, vR (some 326)), (1, vI x1), (2, vI x2), (3, vI x3), (4, vI x4), (5, vI x5), (6, vI x6)] [vI sx0] h) {x1 : Int32} {x2 : Int32} {x3 : Int32} {x4 : Int32} {x5 : Int32} {x6 : Int32} {h : ea_H} {r : Int32} {h' : ea_H} (E : BX12_feed_18 J71 x1 x2 x3 x4 x5 x6 h = some (r, h')) (hs : ShM h) : ea_W mX12_feed d h0 (some (vI r)) h' 18 [(0, vR (some 326)), (1, vI x1), (2, vI x2), (3, vI x3), (4, vI x4), (5, vI x5), (6, vI x6)] [] h := by
  unfold BX12_feed_18 at E
  refine ea_iload (pc := 18) dX12_feed_18 6 rfl ?_
  refine ea_bipush (pc := 20) dX12_feed_20 (v := 20) rfl ?_
  refine ea_icmp_ge (pc := 22) (tgt := 115) dX12_feed_22 rfl (fun c6 => ?_) (fun c6 => ?_)
  · have E := (if_pos c6).symm.trans E
    refine ea_aload_n (pc := 115) dX12_feed_115 rfl 0 rfl ?_
    refine ea_getI (pc := 116) dX12_feed_116 ec_12 (k := 52) (Nat.le_of_ble_eq_true rfl) rfl (Or.inl ew_1454) (cShM_326 hs).1 (cShM_326 hs).2.1 ?_
    exact ea_iretO (pc := 119) dX12_feed_119 rfl rfl E
  · have E := (if_neg c6).symm.trans E
    refine ea_iload (pc := 25) dX12_feed_25 6 rfl ?_
    refine ea_iconst (pc := 27) dX12_feed_27 (v := 4) rfl ?_
    refine ea_icmp_ge (pc := 28) (tgt := 35) dX12_feed_28 rfl (fun c5 => ?_) (fun c5 => ?_)
    · have E := (if_pos c5).symm.trans E
      refine ea_iload (pc := 35) dX12_feed_35 6 rfl ?_
      refine ea_bipush (pc := 37) dX12_feed_37 (v := 8) rfl ?_
      refine ea_icmp_ge (pc := 39) (tgt := 46) dX12_feed_39 rfl (fun c4 => ?_) (fun c4 => ?_)
      · have E := (if_pos c4).symm.trans E
        refine ea_iload (pc := 46) dX12_feed_46 6 rfl ?_
        refine ea_bipush (pc := 48) dX12_feed_48 (v := 12) rfl ?_
        refine ea_icmp_ge (pc := 50) (tgt := 57) dX12_feed_50 rfl (fun c3 => ?_) (fun c3 => ?_)
        · have E := (if_pos c3).symm.trans E
          refine ea_iload (pc := 57) dX12_feed_57 6 rfl ?_
          refine ea_bipush (pc := 59) dX12_feed_59 (v := 16) rfl ?_
          refine ea_icmp_ge (pc := 61) (tgt := 69) dX12_feed_61 rfl (fun c2 => ?_) (fun c2 => ?_)
          · have E := (if_pos c2).symm.trans E
            refine ea_iload (pc := 69) dX12_feed_69 5 rfl ?_
            exact (kJ71 (x1 : Int32) (x2 : Int32) (x3 : Int32) (x4 : Int32) (x5 : Int32) (x6 : Int32) (x5 : Int32) h _ _ E hs)
          · have E := (if_neg c2).symm.trans E
            refine ea_iload (pc := 64) dX12_feed_64 4 rfl ?_
            refine ea_goto (pc := 66) (tgt := 71) dX12_feed_66 rfl ?_
            exact (kJ71 (x1 : Int32) (x2 : Int32) (x3 : Int32) (x4 : Int32) (x5 : Int32) (x6 : Int32) (x4 : Int32) h _ _ E hs)
        · have E := (if_neg c3).symm.trans E
          refine ea_iload_n (pc := 53) dX12_feed_53 rfl 3 rfl ?_
          refine ea_goto (pc := 54) (tgt := 71) dX12_feed_54 rfl ?_
          exact (kJ71 (x1 : Int32) (x2 : Int32) (x3 : Int32) (x4 : Int32) (x5 : Int32) (x6 : Int32) (x3 : Int32) h _ _ E hs)
      · have E := (if_neg c4).symm.trans E
        refine ea_iload_n (pc := 42) dX12_feed_42 rfl 2 rfl ?_
        refine ea_goto (pc := 43) (tgt := 71) dX12_feed_43 rfl ?_
        exact (kJ71 (x1 : Int32) (x2 : Int32) (x3 : Int32) (x4 : Int32) (x5 : Int32) (x6 : Int32) (x2 : Int32) h _ _ E hs)
    · have E := (if_neg c5).symm.trans E
      refine ea_iload_n (pc := 31) dX12_feed_31 rfl 1 rfl ?_
      refine ea_goto (pc := 32) (tgt := 71) dX12_feed_32 rfl ?_
      exact (kJ71 (x1 : Int32) (x2 : Int32) (x3 : Int32) (x4 : Int32) (x5 : Int32) (x6 : Int32) (x1 : Int32) h _ _ E hs)
theorem kBX12_feed_18 {J71 : Int32 → Int32 → Int32 → Int32 → Int32 → Int32 → Int32 → ea_H → Option (Int32 × ea_H)}  (cJ71 : ∀ (x1 : Int32) (x2 : Int32) (x3 : Int32) (x4 : Int32) (x5 : Int32) (x6 : Int32) (sx0 : Int32) (h : ea_H), kp (ea_core h) (J71 x1 x2 x3 x4 x5 x6 sx0 h)) {x1 : Int32} {x2 : Int32} {x3 : Int32} {x4 : Int32} {x5 : Int32} {x6 : Int32} {h : ea_H} : kp (ea_core h) (BX12_feed_18 J71 x1 x2 x3 x4 x5 x6 h) :=
  (kp_ite (kp_ret rfl) (kp_ite (kp_ite (kp_ite (kp_ite (kp_tw (cJ71 _ _ _ _ _ _ _ _) rfl) (kp_tw (cJ71 _ _ _ _ _ _ _ _) rfl)) (kp_tw (cJ71 _ _ _ _ _ _ _ _) rfl)) (kp_tw (cJ71 _ _ _ _ _ _ _ _) rfl)) (kp_tw (cJ71 _ _ _ _ _ _ _ _) rfl)))
theorem lBX12_feed_18 {J71 : Int32 → Int32 → Int32 → Int32 → Int32 → Int32 → Int32 → ea_H → Option (Int32 × ea_H)} {J71_ : Int32 → Int32 → Int32 → Int32 → Int32 → Int32 → Int32 → ea_H → Option (Int32 × ea_H)}  (mJ71 : ∀ (x1 : Int32) (x2 : Int32) (x3 : Int32) (x4 : Int32) (x5 : Int32) (x6 : Int32) (sx0 : Int32) (h : ea_H), fle (J71 x1 x2 x3 x4 x5 x6 sx0 h) (J71_ x1 x2 x3 x4 x5 x6 sx0 h)) {x1 : Int32} {x2 : Int32} {x3 : Int32} {x4 : Int32} {x5 : Int32} {x6 : Int32} {h : ea_H} : fle (BX12_feed_18 J71 x1 x2 x3 x4 x5 x6 h) (BX12_feed_18 J71_ x1 x2 x3 x4 x5 x6 h) :=
  (fle_ite (fle_rfl _) (fle_ite (fle_ite (fle_ite (fle_ite (mJ71 _ _ _ _ _ _ _ _) (mJ71 _ _ _ _ _ _ _ _)) (mJ71 _ _ _ _ _ _ _ _)) (mJ71 _ _ _ _ _ _ _ _)) (mJ71 _ _ _ _ _ _ _ _)))
theorem nBX12_feed_18 {J71 : Int32 → Int32 → Int32 → Int32 → Int32 → Int32 → Int32 → ea_H → Option (Int32 × ea_H)} {J71_ : Nat → (Int32 → Int32 → Int32 → Int32 → Int32 → Int32 → Int32 → ea_H → Option (Int32 × ea_H))}  (mJ71 : ∀ (x1 : Int32) (x2 : Int32) (x3 : Int32) (x4 : Int32) (x5 : Int32) (x6 : Int32) (sx0 : Int32) (h : ea_H), fct (J71 x1 x2 x3 x4 x5 x6 sx0 h) (fun f => J71_ f x1 x2 x3 x4 x5 x6 sx0 h)) {x1 : Int32} {x2 : Int32} {x3 : Int32} {x4 : Int32} {x5 : Int32} {x6 : Int32} {h : ea_H} : fct (BX12_feed_18 J71 x1 x2 x3 x4 x5 x6 h) (fun f => BX12_feed_18 (J71_ f) x1 x2 x3 x4 x5 x6 h) :=
  (fct_ite (fct_rfl _) (fct_ite (fct_ite (fct_ite (fct_ite (mJ71 _ _ _ _ _ _ _ _) (mJ71 _ _ _ _ _ _ _ _)) (mJ71 _ _ _ _ _ _ _ _)) (mJ71 _ _ _ _ _ _ _ _)) (mJ71 _ _ _ _ _ _ _ _)))
noncomputable def BX12_feed_71 (J18 : Int32 → Int32 → Int32 → Int32 → Int32 → Int32 → ea_H → Option (Int32 × ea_H)) (x1 : Int32) (x2 : Int32) (x3 : Int32) (x4 : Int32) (x5 : Int32) (x6 : Int32) (sx0 : Int32) (h : ea_H) : Option (Int32 × ea_H) :=
  (gd (vp_in (ea_i h 326 52) 600) (ea_let (ea_wi h 362 (Int32.toNatClampNeg (ea_i h 326 52)) ((sx0 >>> (((24 : Int32) - ((8 : Int32) * (x6 - x6 / (4 : Int32) * (4 : Int32)))) &&& 31)) &&& (255 : Int32))) fun H8 => (ea_let (ea_wi H8 326 52 ((ea_i H8 326 52) + (1 : Int32))) fun H9 => (J18 (x1 : Int32) (x2 : Int32) (x3 : Int32) (x4 : Int32) (x5 : Int32) ((x6 + (1 : Int32)) : Int32) H9))))
theorem tBX12_feed_71 {d : Nat} {h0 : ea_H} (hd : 1 ≤ d) {J18 : Int32 → Int32 → Int32 → Int32 → Int32 → Int32 → ea_H → Option (Int32 × ea_H)}  (kJ18 : ∀ (x1 : Int32) (x2 : Int32) (x3 : Int32) (x4 : Int32) (x5 : Int32) (x6 : Int32) (h : ea_H) (r : Int32) (h' : ea_H), J18 x1 x2 x3 x4 x5 x6 h = some (r, h') → ShM h → ea_W mX12_feed d h0 (some (vI r)) h' 18 [(0, vR (some 326)), (1, vI x1), (2, vI x2), (3, vI x3), (4, vI x4), (5, vI x5), (6, vI x6)] [] h) {x1 : Int32} {x2 : Int32} {x3 : Int32} {x4 : Int32} {x5 : Int32} {x6 : Int32} {sx0 : Int32} {h : ea_H} {r : Int32} {h' : ea_H} (E : BX12_feed_71 J18 x1 x2 x3 x4 x5 x6 sx0 h = some (r, h')) (hs : ShM h) : ea_W mX12_feed d h0 (some (vI r)) h' 71 [(0, vR (some 326)), (1, vI x1), (2, vI x2), (3, vI x3), (4, vI x4), (5, vI x5), (6, vI x6)] [vI sx0] h := by
  unfold BX12_feed_71 at E
  obtain ⟨z7, E⟩ := gd_some E
  refine ea_istore (pc := 71) (lv' := [(0, vR (some 326)), (1, vI x1), (2, vI x2), (3, vI x3), (4, vI x4), (5, vI x5), (6, vI x6), (7, vI sx0)]) dX12_feed_71 (Nat.le_of_ble_eq_true rfl) [1, 2, 3, 4, 5, 6, 7, 0] rfl ?_
  refine ea_aload_n (pc := 73) dX12_feed_73 rfl 0 rfl ?_
  refine ea_getR (pc := 74) dX12_feed_74 ec_12 (k := 41) (Nat.le_of_ble_eq_true rfl) rfl (Or.inl ew_1443) (cShM_326 hs).1 (cShM_326 hs).2.1 (rShM_326_41 hs) ?_
  refine ea_aload_n (pc := 77) dX12_feed_77 rfl 0 rfl ?_
  refine ea_getI (pc := 78) dX12_feed_78 ec_12 (k := 52) (Nat.le_of_ble_eq_true rfl) rfl (Or.inl ew_1454) (cShM_326 hs).1 (cShM_326 hs).2.1 ?_
  refine ea_iload (pc := 81) dX12_feed_81 7 rfl ?_
  refine ea_bipush (pc := 83) dX12_feed_83 (v := 24) rfl ?_
  refine ea_bipush (pc := 85) dX12_feed_85 (v := 8) rfl ?_
  refine ea_iload (pc := 87) dX12_feed_87 6 rfl ?_
  refine ea_iconst (pc := 89) dX12_feed_89 (v := 4) rfl ?_
  refine ea_irem (pc := 90) dX12_feed_90 (by decide) ?_
  refine ea_imul (pc := 91) dX12_feed_91 ?_
  refine ea_isub (pc := 92) dX12_feed_92 ?_
  refine ea_ishr (pc := 93) dX12_feed_93 ?_
  refine ea_sipush (pc := 94) dX12_feed_94 (v := 255) rfl ?_
  refine ea_iand (pc := 97) dX12_feed_97 ?_
  obtain ⟨H8, eH8, E⟩ := let_some E
  refine ea_iast (pc := 98) dX12_feed_98 (cShM_362 hs).1 (cShM_362 hs).2.1 (ea_vpl (cShM_362 hs).2.2 z7) ?_
  refine ea_nm eH8 ?_
  have hsH8 : ShM H8 := by rw [eH8]; exact hs
  obtain ⟨H9, eH9, E⟩ := let_some E
  refine ea_aload_n (pc := 99) dX12_feed_99 rfl 0 rfl ?_
  refine ea_dup (pc := 100) dX12_feed_100 rfl ?_
  refine ea_getI (pc := 101) dX12_feed_101 ec_12 (k := 52) (Nat.le_of_ble_eq_true rfl) rfl (Or.inl ew_1454) (cShM_326 hsH8).1 (cShM_326 hsH8).2.1 ?_
  refine ea_iconst (pc := 104) dX12_feed_104 (v := 1) rfl ?_
  refine ea_iadd (pc := 105) dX12_feed_105 ?_
  refine ea_putI (pc := 106) dX12_feed_106 ec_12 (k := 52) (Nat.le_of_ble_eq_true rfl) rfl (Or.inl ⟨rfl, Or.inl ew_1454⟩) rfl rfl (cShM_326 hsH8).1 (cShM_326 hsH8).2.1 ?_
  refine ea_nm eH9 ?_
  have hsH9 : ShM H9 := by rw [eH9]; exact hsH8
  refine ea_iinc (pc := 109) (v := 1) (lv' := [(0, vR (some 326)), (1, vI x1), (2, vI x2), (3, vI x3), (4, vI x4), (5, vI x5), (6, vI (x6 + (1 : Int32)))]) dX12_feed_109 6 rfl rfl (Nat.le_of_ble_eq_true rfl) [1, 2, 3, 4, 5, 6, 0] rfl ?_
  refine ea_goto (pc := 112) (tgt := 18) dX12_feed_112 rfl ?_
  exact (kJ18 (x1 : Int32) (x2 : Int32) (x3 : Int32) (x4 : Int32) (x5 : Int32) ((x6 + (1 : Int32)) : Int32) H9 _ _ E hsH9)
theorem kBX12_feed_71 {J18 : Int32 → Int32 → Int32 → Int32 → Int32 → Int32 → ea_H → Option (Int32 × ea_H)}  (cJ18 : ∀ (x1 : Int32) (x2 : Int32) (x3 : Int32) (x4 : Int32) (x5 : Int32) (x6 : Int32) (h : ea_H), kp (ea_core h) (J18 x1 x2 x3 x4 x5 x6 h)) {x1 : Int32} {x2 : Int32} {x3 : Int32} {x4 : Int32} {x5 : Int32} {x6 : Int32} {sx0 : Int32} {h : ea_H} : kp (ea_core h) (BX12_feed_71 J18 x1 x2 x3 x4 x5 x6 sx0 h) :=
  (kp_gd (kp_let (kp_let (kp_tw (cJ18 _ _ _ _ _ _ _) rfl))))
theorem lBX12_feed_71 {J18 : Int32 → Int32 → Int32 → Int32 → Int32 → Int32 → ea_H → Option (Int32 × ea_H)} {J18_ : Int32 → Int32 → Int32 → Int32 → Int32 → Int32 → ea_H → Option (Int32 × ea_H)}  (mJ18 : ∀ (x1 : Int32) (x2 : Int32) (x3 : Int32) (x4 : Int32) (x5 : Int32) (x6 : Int32) (h : ea_H), fle (J18 x1 x2 x3 x4 x5 x6 h) (J18_ x1 x2 x3 x4 x5 x6 h)) {x1 : Int32} {x2 : Int32} {x3 : Int32} {x4 : Int32} {x5 : Int32} {x6 : Int32} {sx0 : Int32} {h : ea_H} : fle (BX12_feed_71 J18 x1 x2 x3 x4 x5 x6 sx0 h) (BX12_feed_71 J18_ x1 x2 x3 x4 x5 x6 sx0 h) :=
  (fle_gd (fle_let fun _ => (fle_let fun _ => (mJ18 _ _ _ _ _ _ _))))
theorem nBX12_feed_71 {J18 : Int32 → Int32 → Int32 → Int32 → Int32 → Int32 → ea_H → Option (Int32 × ea_H)} {J18_ : Nat → (Int32 → Int32 → Int32 → Int32 → Int32 → Int32 → ea_H → Option (Int32 × ea_H))}  (mJ18 : ∀ (x1 : Int32) (x2 : Int32) (x3 : Int32) (x4 : Int32) (x5 : Int32) (x6 : Int32) (h : ea_H), fct (J18 x1 x2 x3 x4 x5 x6 h) (fun f => J18_ f x1 x2 x3 x4 x5 x6 h)) {x1 : Int32} {x2 : Int32} {x3 : Int32} {x4 : Int32} {x5 : Int32} {x6 : Int32} {sx0 : Int32} {h : ea_H} : fct (BX12_feed_71 J18 x1 x2 x3 x4 x5 x6 sx0 h) (fun f => BX12_feed_71 (J18_ f) x1 x2 x3 x4 x5 x6 sx0 h) :=
  (fct_gd (fct_let fun _ => (fct_let fun _ => (mJ18 _ _ _ _ _ _ _))))
noncomputable def gX12_feed : Nat → (Int32 → Int32 → Int32 → Int32 → Int32 → ea_H → Option (Int32 × ea_H)) × (Int32 → Int32 → Int32 → Int32 → Int32 → Int32 → ea_H → Option (Int32 × ea_H)) × (Int32 → Int32 → Int32 → Int32 → Int32 → Int32 → Int32 → ea_H → Option (Int32 × ea_H))
  | 0 => (fun _ _ _ _ _ _ => none, fun _ _ _ _ _ _ _ => none, fun _ _ _ _ _ _ _ _ => none)
  | f + 1 => (BX12_feed_0 (gX12_feed f).2.1, BX12_feed_18 (gX12_feed f).2.2, BX12_feed_71 (gX12_feed f).2.1)
theorem mgX12_feed : ∀ f : Nat, (∀ (x1 : Int32) (x2 : Int32) (x3 : Int32) (x4 : Int32) (x5 : Int32) (h : ea_H), fle ((gX12_feed f).1 x1 x2 x3 x4 x5 h) ((gX12_feed (f + 1)).1 x1 x2 x3 x4 x5 h)) ∧ (∀ (x1 : Int32) (x2 : Int32) (x3 : Int32) (x4 : Int32) (x5 : Int32) (x6 : Int32) (h : ea_H), fle ((gX12_feed f).2.1 x1 x2 x3 x4 x5 x6 h) ((gX12_feed (f + 1)).2.1 x1 x2 x3 x4 x5 x6 h)) ∧ (∀ (x1 : Int32) (x2 : Int32) (x3 : Int32) (x4 : Int32) (x5 : Int32) (x6 : Int32) (sx0 : Int32) (h : ea_H), fle ((gX12_feed f).2.2 x1 x2 x3 x4 x5 x6 sx0 h) ((gX12_feed (f + 1)).2.2 x1 x2 x3 x4 x5 x6 sx0 h)) := by
  intro f
  induction f with
  | zero => exact ⟨fun _ _ _ _ _ _ => fle_none _, fun _ _ _ _ _ _ _ => fle_none _, fun _ _ _ _ _ _ _ _ => fle_none _⟩
  | succ f ih => exact ⟨fun _ _ _ _ _ _ => lBX12_feed_0 ih.2.1, fun _ _ _ _ _ _ _ => lBX12_feed_18 ih.2.2, fun _ _ _ _ _ _ _ _ => lBX12_feed_71 ih.2.1⟩
noncomputable def qX12_feed_0 (x1 : Int32) (x2 : Int32) (x3 : Int32) (x4 : Int32) (x5 : Int32) (h : ea_H) : Option (Int32 × ea_H) := flim fun f => (gX12_feed f).1 x1 x2 x3 x4 x5 h
noncomputable def qX12_feed_18 (x1 : Int32) (x2 : Int32) (x3 : Int32) (x4 : Int32) (x5 : Int32) (x6 : Int32) (h : ea_H) : Option (Int32 × ea_H) := flim fun f => (gX12_feed f).2.1 x1 x2 x3 x4 x5 x6 h
noncomputable def qX12_feed_71 (x1 : Int32) (x2 : Int32) (x3 : Int32) (x4 : Int32) (x5 : Int32) (x6 : Int32) (sx0 : Int32) (h : ea_H) : Option (Int32 × ea_H) := flim fun f => (gX12_feed f).2.2 x1 x2 x3 x4 x5 x6 sx0 h
theorem fqX12_feed_0 (x1 : Int32) (x2 : Int32) (x3 : Int32) (x4 : Int32) (x5 : Int32) (h : ea_H) : fct (qX12_feed_0 x1 x2 x3 x4 x5 h) fun f => (gX12_feed f).1 x1 x2 x3 x4 x5 h := flim_ct fun f => (mgX12_feed f).1 x1 x2 x3 x4 x5 h
theorem fqX12_feed_18 (x1 : Int32) (x2 : Int32) (x3 : Int32) (x4 : Int32) (x5 : Int32) (x6 : Int32) (h : ea_H) : fct (qX12_feed_18 x1 x2 x3 x4 x5 x6 h) fun f => (gX12_feed f).2.1 x1 x2 x3 x4 x5 x6 h := flim_ct fun f => (mgX12_feed f).2.1 x1 x2 x3 x4 x5 x6 h
theorem fqX12_feed_71 (x1 : Int32) (x2 : Int32) (x3 : Int32) (x4 : Int32) (x5 : Int32) (x6 : Int32) (sx0 : Int32) (h : ea_H) : fct (qX12_feed_71 x1 x2 x3 x4 x5 x6 sx0 h) fun f => (gX12_feed f).2.2 x1 x2 x3 x4 x5 x6 sx0 h := flim_ct fun f => (mgX12_feed f).2.2 x1 x2 x3 x4 x5 x6 sx0 h
/-- how a block opens -/
theorem uqX12_feed_0 {x1 : Int32} {x2 : Int32} {x3 : Int32} {x4 : Int32} {x5 : Int32} {h : ea_H} {P : Int32 × ea_H → Prop} (H : sat (BX12_feed_0 qX12_feed_18 x1 x2 x3 x4 x5 h) P) : sat (qX12_feed_0 x1 x2 x3 x4 x5 h) P := by
  obtain ⟨x, e, hp⟩ := H
  obtain ⟨n, hn⟩ := nBX12_feed_0 fqX12_feed_18 x e
  exact ⟨x, flim_at (fun f => (mgX12_feed f).1 x1 x2 x3 x4 x5 h) (f := n + 1) (hn n (Nat.le_refl _)), hp⟩
/-- how a block opens -/
theorem uqX12_feed_18 {x1 : Int32} {x2 : Int32} {x3 : Int32} {x4 : Int32} {x5 : Int32} {x6 : Int32} {h : ea_H} {P : Int32 × ea_H → Prop} (H : sat (BX12_feed_18 qX12_feed_71 x1 x2 x3 x4 x5 x6 h) P) : sat (qX12_feed_18 x1 x2 x3 x4 x5 x6 h) P := by
  obtain ⟨x, e, hp⟩ := H
  obtain ⟨n, hn⟩ := nBX12_feed_18 fqX12_feed_71 x e
  exact ⟨x, flim_at (fun f => (mgX12_feed f).2.1 x1 x2 x3 x4 x5 x6 h) (f := n + 1) (hn n (Nat.le_refl _)), hp⟩
/-- how a block opens -/
theorem uqX12_feed_71 {x1 : Int32} {x2 : Int32} {x3 : Int32} {x4 : Int32} {x5 : Int32} {x6 : Int32} {sx0 : Int32} {h : ea_H} {P : Int32 × ea_H → Prop} (H : sat (BX12_feed_71 qX12_feed_18 x1 x2 x3 x4 x5 x6 sx0 h) P) : sat (qX12_feed_71 x1 x2 x3 x4 x5 x6 sx0 h) P := by
  obtain ⟨x, e, hp⟩ := H
  obtain ⟨n, hn⟩ := nBX12_feed_71 fqX12_feed_18 x e
  exact ⟨x, flim_at (fun f => (mgX12_feed f).2.2 x1 x2 x3 x4 x5 x6 sx0 h) (f := n + 1) (hn n (Nat.le_refl _)), hp⟩
theorem kgX12_feed : ∀ f : Nat, (∀ (x1 : Int32) (x2 : Int32) (x3 : Int32) (x4 : Int32) (x5 : Int32) (h : ea_H), kp (ea_core h) ((gX12_feed f).1 x1 x2 x3 x4 x5 h)) ∧ (∀ (x1 : Int32) (x2 : Int32) (x3 : Int32) (x4 : Int32) (x5 : Int32) (x6 : Int32) (h : ea_H), kp (ea_core h) ((gX12_feed f).2.1 x1 x2 x3 x4 x5 x6 h)) ∧ (∀ (x1 : Int32) (x2 : Int32) (x3 : Int32) (x4 : Int32) (x5 : Int32) (x6 : Int32) (sx0 : Int32) (h : ea_H), kp (ea_core h) ((gX12_feed f).2.2 x1 x2 x3 x4 x5 x6 sx0 h)) := by
  intro f
  induction f with
  | zero => exact ⟨fun _ _ _ _ _ _ => kp_none _, fun _ _ _ _ _ _ _ => kp_none _, fun _ _ _ _ _ _ _ _ => kp_none _⟩
  | succ f ih => exact ⟨fun _ _ _ _ _ _ => kBX12_feed_0 ih.2.1, fun _ _ _ _ _ _ _ => kBX12_feed_18 ih.2.2, fun _ _ _ _ _ _ _ _ => kBX12_feed_71 ih.2.1⟩
theorem tgX12_feed {d : Nat} {h0 : ea_H} (hd : 1 ≤ d) : ∀ f : Nat, (∀ (x1 : Int32) (x2 : Int32) (x3 : Int32) (x4 : Int32) (x5 : Int32) (h : ea_H) (r : Int32) (h' : ea_H), (gX12_feed f).1 x1 x2 x3 x4 x5 h = some (r, h') → ShM h → ea_W mX12_feed d h0 (some (vI r)) h' 0 [(0, vR (some 326)), (1, vI x1), (2, vI x2), (3, vI x3), (4, vI x4), (5, vI x5)] [] h) ∧ (∀ (x1 : Int32) (x2 : Int32) (x3 : Int32) (x4 : Int32) (x5 : Int32) (x6 : Int32) (h : ea_H) (r : Int32) (h' : ea_H), (gX12_feed f).2.1 x1 x2 x3 x4 x5 x6 h = some (r, h') → ShM h → ea_W mX12_feed d h0 (some (vI r)) h' 18 [(0, vR (some 326)), (1, vI x1), (2, vI x2), (3, vI x3), (4, vI x4), (5, vI x5), (6, vI x6)] [] h) ∧ (∀ (x1 : Int32) (x2 : Int32) (x3 : Int32) (x4 : Int32) (x5 : Int32) (x6 : Int32) (sx0 : Int32) (h : ea_H) (r : Int32) (h' : ea_H), (gX12_feed f).2.2 x1 x2 x3 x4 x5 x6 sx0 h = some (r, h') → ShM h → ea_W mX12_feed d h0 (some (vI r)) h' 71 [(0, vR (some 326)), (1, vI x1), (2, vI x2), (3, vI x3), (4, vI x4), (5, vI x5), (6, vI x6)] [vI sx0] h) := by
  intro f
  induction f with
  | zero => exact ⟨fun _ _ _ _ _ _ _ _ E => no_some E, fun _ _ _ _ _ _ _ _ _ E => no_some E, fun _ _ _ _ _ _ _ _ _ _ E => no_some E⟩
  | succ f ih => exact ⟨fun _ _ _ _ _ _ _ _ E hs => tBX12_feed_0 hd ih.2.1 E hs, fun _ _ _ _ _ _ _ _ _ E hs => tBX12_feed_18 hd ih.2.2 E hs, fun _ _ _ _ _ _ _ _ _ _ E hs => tBX12_feed_71 hd ih.2.1 E hs⟩
noncomputable def qX12_feed (x1 : Int32) (x2 : Int32) (x3 : Int32) (x4 : Int32) (x5 : Int32) (h : ea_H) : Option (Int32 × ea_H) := qX12_feed_0 x1 x2 x3 x4 x5 h
theorem sX12_feed {d : Nat} {x1 : Int32} {x2 : Int32} {x3 : Int32} {x4 : Int32} {x5 : Int32} {h : ea_H} {r : Int32} {h' : ea_H} (hd : 1 ≤ d) (hs : ShM h) (K : qX12_feed x1 x2 x3 x4 x5 h = some (r, h')) : ea_Met mX12_feed d [vR (some 326), vI x1, vI x2, vI x3, vI x4, vI x5] h (some (vI r)) h' := by
  unfold qX12_feed at K
  obtain ⟨n, hn⟩ := fqX12_feed_0 x1 x2 x3 x4 x5 h _ K
  have W := (tgX12_feed (d := d) (h0 := h) hd n).1 x1 x2 x3 x4 x5 h _ _ (hn n (Nat.le_refl _)) hs
  exact ea_enter rfl (Nat.le_of_ble_eq_true rfl) W
theorem kpX12_feed (x1 : Int32) (x2 : Int32) (x3 : Int32) (x4 : Int32) (x5 : Int32) (h : ea_H) : kp (ea_core h) (qX12_feed x1 x2 x3 x4 x5 h) := fun x e => by
  obtain ⟨n, hn⟩ := fqX12_feed_0 x1 x2 x3 x4 x5 h x e
  exact (kgX12_feed n).1 x1 x2 x3 x4 x5 h x (hn n (Nat.le_refl _))
noncomputable def BX12_end_0 (x1 : Int32) (h : ea_H) : Option (Int32 × ea_H) :=
  (Option.bind (qX12_isIn (x1 : Int32) (0 : Int32) ((ea_i h 326 52) : Int32) h) fun w1 => (if w1.1 = (0 : Int32) then (some ((0 : Int32), w1.2)) else (ea_let (ea_wi w1.2 326 52 x1) fun H2 => (some ((1 : Int32), H2)))))
theorem tBX12_end_0 {d : Nat} {h0 : ea_H} (hd : 2 ≤ d)  {x1 : Int32} {h : ea_H} {r : Int32} {h' : ea_H} (E : BX12_end_0 x1 h = some (r, h')) (hs : ShM h) : ea_W mX12_end d h0 (some (vI r)) h' 0 [(0, vR (some 326)), (1, vI x1)] [] h := by
  unfold BX12_end_0 at E
  obtain ⟨w1, Ew1, E⟩ := bd_some E
  have hsw1 : ShM w1.2 := ShM_core ((kpX12_isIn _ _ _ _) _ Ew1) hs
  refine ea_iload_n (pc := 0) dX12_end_0 rfl 1 rfl ?_
  refine ea_iconst (pc := 1) dX12_end_1 (v := 0) rfl ?_
  refine ea_aload_n (pc := 2) dX12_end_2 rfl 0 rfl ?_
  refine ea_getI (pc := 3) dX12_end_3 ec_12 (k := 52) (Nat.le_of_ble_eq_true rfl) rfl (Or.inl ew_1454) (cShM_326 hs).1 (cShM_326 hs).2.1 ?_
  refine ea_callS (pc := 6) (d' := d - 1) (As := [vI x1, vI 0, vI (ea_i h 326 52)]) (st := []) dX12_end_6 kX12_isIn (sX12_isIn (d := d - 1) (by omega) Ew1) (by omega) rfl (Nat.le_of_ble_eq_true rfl) ew_1769 ew_1770 ?_
  refine ea_if_ne (pc := 9) (tgt := 14) dX12_end_9 rfl (fun c3 => ?_) (fun c3 => ?_)
  · have E := (if_neg c3).symm.trans E
    obtain ⟨H2, eH2, E⟩ := let_some E
    refine ea_aload_n (pc := 14) dX12_end_14 rfl 0 rfl ?_
    refine ea_iload_n (pc := 15) dX12_end_15 rfl 1 rfl ?_
    refine ea_putI (pc := 16) dX12_end_16 ec_12 (k := 52) (Nat.le_of_ble_eq_true rfl) rfl (Or.inl ⟨rfl, Or.inl ew_1454⟩) rfl rfl (cShM_326 hsw1).1 (cShM_326 hsw1).2.1 ?_
    refine ea_nm eH2 ?_
    have hsH2 : ShM H2 := by rw [eH2]; exact hsw1
    refine ea_iconst (pc := 19) dX12_end_19 (v := 1) rfl ?_
    exact ea_iretO (pc := 20) dX12_end_20 rfl (ea_bn (Or.inr rfl)) E
  · have E := (if_pos c3).symm.trans E
    refine ea_iconst (pc := 12) dX12_end_12 (v := 0) rfl ?_
    exact ea_iretO (pc := 13) dX12_end_13 rfl (ea_bn (Or.inl rfl)) E
theorem kBX12_end_0  {x1 : Int32} {h : ea_H} : kp (ea_core h) (BX12_end_0 x1 h) :=
  (kp_bind (kp_tw (kpX12_isIn _ _ _ _) rfl) fun w1 hcw1 => (kp_ite (kp_ret hcw1) (kp_let (kp_ret hcw1))))
noncomputable def qX12_end (x1 : Int32) (h : ea_H) : Option (Int32 × ea_H) := BX12_end_0 x1 h
theorem sX12_end {d : Nat} {x1 : Int32} {h : ea_H} {r : Int32} {h' : ea_H} (hd : 2 ≤ d) (hs : ShM h) (K : qX12_end x1 h = some (r, h')) : ea_Met mX12_end d [vR (some 326), vI x1] h (some (vI r)) h' := by
  unfold qX12_end at K
  have W := tBX12_end_0 hd (h0 := h) K hs
  exact ea_enter rfl (Nat.le_of_ble_eq_true rfl) W
theorem kpX12_end (x1 : Int32) (h : ea_H) : kp (ea_core h) (qX12_end x1 h) := kBX12_end_0
noncomputable def BX12_see_0 (x1 : Int32) (h : ea_H) : Option (Int32 × ea_H) :=
  (if (ea_i h 326 52) ≤ x1 then (some (((-1) : Int32), h)) else (gd (vp_in x1 600) (some ((ea_i h 362 (Int32.toNatClampNeg x1)), h))))
theorem tBX12_see_0 {d : Nat} {h0 : ea_H} (hd : 1 ≤ d)  {x1 : Int32} {h : ea_H} {r : Int32} {h' : ea_H} (E : BX12_see_0 x1 h = some (r, h')) (hs : ShM h) : ea_W mX12_see d h0 (some (vI r)) h' 0 [(0, vR (some 326)), (1, vI x1)] [] h := by
  unfold BX12_see_0 at E
  refine ea_iload_n (pc := 0) dX12_see_0 rfl 1 rfl ?_
  refine ea_aload_n (pc := 1) dX12_see_1 rfl 0 rfl ?_
  refine ea_getI (pc := 2) dX12_see_2 ec_12 (k := 52) (Nat.le_of_ble_eq_true rfl) rfl (Or.inl ew_1454) (cShM_326 hs).1 (cShM_326 hs).2.1 ?_
  refine ea_icmp_ge (pc := 5) (tgt := 17) dX12_see_5 rfl (fun c2 => ?_) (fun c2 => ?_)
  · have E := (if_pos c2).symm.trans E
    refine ea_iconst (pc := 17) dX12_see_17 (v := (-1)) rfl ?_
    exact ea_iretO (pc := 18) dX12_see_18 rfl rfl E
  · have E := (if_neg c2).symm.trans E
    obtain ⟨z1, E⟩ := gd_some E
    refine ea_aload_n (pc := 8) dX12_see_8 rfl 0 rfl ?_
    refine ea_getR (pc := 9) dX12_see_9 ec_12 (k := 41) (Nat.le_of_ble_eq_true rfl) rfl (Or.inl ew_1443) (cShM_326 hs).1 (cShM_326 hs).2.1 (rShM_326_41 hs) ?_
    refine ea_iload_n (pc := 12) dX12_see_12 rfl 1 rfl ?_
    refine ea_iald (pc := 13) dX12_see_13 (cShM_362 hs).1 (cShM_362 hs).2.1 (ea_vpl (cShM_362 hs).2.2 z1) ?_
    refine ea_goto (pc := 14) (tgt := 18) dX12_see_14 rfl ?_
    exact ea_iretO (pc := 18) dX12_see_18 rfl rfl E
theorem kBX12_see_0  {x1 : Int32} {h : ea_H} : kp (ea_core h) (BX12_see_0 x1 h) :=
  (kp_ite (kp_ret rfl) (kp_gd (kp_ret rfl)))
noncomputable def qX12_see (x1 : Int32) (h : ea_H) : Option (Int32 × ea_H) := BX12_see_0 x1 h
theorem sX12_see {d : Nat} {x1 : Int32} {h : ea_H} {r : Int32} {h' : ea_H} (hd : 1 ≤ d) (hs : ShM h) (K : qX12_see x1 h = some (r, h')) : ea_Met mX12_see d [vR (some 326), vI x1] h (some (vI r)) h' := by
  unfold qX12_see at K
  have W := tBX12_see_0 hd (h0 := h) K hs
  exact ea_enter rfl (Nat.le_of_ble_eq_true rfl) W
theorem kpX12_see (x1 : Int32) (h : ea_H) : kp (ea_core h) (qX12_see x1 h) := kBX12_see_0
noncomputable def BX12_isLetter_0 (x0 : Int32) (h : ea_H) : Option (Int32 × ea_H) :=
  (Option.bind (qX12_isIn (x0 : Int32) (97 : Int32) (122 : Int32) h) fun w1 => (if w1.1 = (0 : Int32) then (Option.bind (qX12_isIn (x0 : Int32) (65 : Int32) (90 : Int32) w1.2) fun w2 => (if w2.1 = (0 : Int32) then (some ((0 : Int32), w2.2)) else (some ((1 : Int32), w2.2)))) else (some ((1 : Int32), w1.2))))
theorem tBX12_isLetter_0 {d : Nat} {h0 : ea_H} (hd : 2 ≤ d)  {x0 : Int32} {h : ea_H} {r : Int32} {h' : ea_H} (E : BX12_isLetter_0 x0 h = some (r, h')) : ea_W mX12_isLetter d h0 (some (vI r)) h' 0 [(0, vI x0)] [] h := by
  unfold BX12_isLetter_0 at E
  obtain ⟨w1, Ew1, E⟩ := bd_some E
  refine ea_iload_n (pc := 0) dX12_isLetter_0 rfl 0 rfl ?_
  refine ea_bipush (pc := 1) dX12_isLetter_1 (v := 97) rfl ?_
  refine ea_bipush (pc := 3) dX12_isLetter_3 (v := 122) rfl ?_
  refine ea_callS (pc := 5) (d' := d - 1) (As := [vI x0, vI 97, vI 122]) (st := []) dX12_isLetter_5 kX12_isIn (sX12_isIn (d := d - 1) (by omega) Ew1) (by omega) rfl (Nat.le_of_ble_eq_true rfl) ew_1769 ew_1770 ?_
  refine ea_if_ne (pc := 8) (tgt := 22) dX12_isLetter_8 rfl (fun c4 => ?_) (fun c4 => ?_)
  · have E := (if_neg c4).symm.trans E
    refine ea_iconst (pc := 22) dX12_isLetter_22 (v := 1) rfl ?_
    refine ea_goto (pc := 23) (tgt := 27) dX12_isLetter_23 rfl ?_
    exact ea_iretO (pc := 27) dX12_isLetter_27 rfl (ea_bn (Or.inr rfl)) E
  · have E := (if_pos c4).symm.trans E
    obtain ⟨w2, Ew2, E⟩ := bd_some E
    refine ea_iload_n (pc := 11) dX12_isLetter_11 rfl 0 rfl ?_
    refine ea_bipush (pc := 12) dX12_isLetter_12 (v := 65) rfl ?_
    refine ea_bipush (pc := 14) dX12_isLetter_14 (v := 90) rfl ?_
    refine ea_callS (pc := 16) (d' := d - 1) (As := [vI x0, vI 65, vI 90]) (st := []) dX12_isLetter_16 kX12_isIn (sX12_isIn (d := d - 1) (by omega) Ew2) (by omega) rfl (Nat.le_of_ble_eq_true rfl) ew_1769 ew_1770 ?_
    refine ea_if_eq (pc := 19) (tgt := 26) dX12_isLetter_19 rfl (fun c3 => ?_) (fun c3 => ?_)
    · have E := (if_pos c3).symm.trans E
      refine ea_iconst (pc := 26) dX12_isLetter_26 (v := 0) rfl ?_
      exact ea_iretO (pc := 27) dX12_isLetter_27 rfl (ea_bn (Or.inl rfl)) E
    · have E := (if_neg c3).symm.trans E
      refine ea_iconst (pc := 22) dX12_isLetter_22 (v := 1) rfl ?_
      refine ea_goto (pc := 23) (tgt := 27) dX12_isLetter_23 rfl ?_
      exact ea_iretO (pc := 27) dX12_isLetter_27 rfl (ea_bn (Or.inr rfl)) E
theorem kBX12_isLetter_0  {x0 : Int32} {h : ea_H} : kp (ea_core h) (BX12_isLetter_0 x0 h) :=
  (kp_bind (kp_tw (kpX12_isIn _ _ _ _) rfl) fun w1 hcw1 => (kp_ite (kp_bind (kp_tw (kpX12_isIn _ _ _ _) hcw1) fun w2 hcw2 => (kp_ite (kp_ret hcw2) (kp_ret hcw2))) (kp_ret hcw1)))
noncomputable def qX12_isLetter (x0 : Int32) (h : ea_H) : Option (Int32 × ea_H) := BX12_isLetter_0 x0 h
theorem sX12_isLetter {d : Nat} {x0 : Int32} {h : ea_H} {r : Int32} {h' : ea_H} (hd : 2 ≤ d) (K : qX12_isLetter x0 h = some (r, h')) : ea_Met mX12_isLetter d [vI x0] h (some (vI r)) h' := by
  unfold qX12_isLetter at K
  have W := tBX12_isLetter_0 hd (h0 := h) K
  exact ea_enter rfl (Nat.le_of_ble_eq_true rfl) W
theorem kpX12_isLetter (x0 : Int32) (h : ea_H) : kp (ea_core h) (qX12_isLetter x0 h) := kBX12_isLetter_0
noncomputable def BX12_isDigit_0 (x0 : Int32) (h : ea_H) : Option (Int32 × ea_H) :=
  (Option.bind (qX12_isIn (x0 : Int32) (48 : Int32) (57 : Int32) h) fun w1 => (gd ((w1.1 = 0 ∨ w1.1 = 1)) (some (w1.1, w1.2))))
theorem tBX12_isDigit_0 {d : Nat} {h0 : ea_H} (hd : 2 ≤ d)  {x0 : Int32} {h : ea_H} {r : Int32} {h' : ea_H} (E : BX12_isDigit_0 x0 h = some (r, h')) : ea_W mX12_isDigit d h0 (some (vI r)) h' 0 [(0, vI x0)] [] h := by
  unfold BX12_isDigit_0 at E
  obtain ⟨w1, Ew1, E⟩ := bd_some E
  refine ea_iload_n (pc := 0) dX12_isDigit_0 rfl 0 rfl ?_
  refine ea_bipush (pc := 1) dX12_isDigit_1 (v := 48) rfl ?_
  refine ea_bipush (pc := 3) dX12_isDigit_3 (v := 57) rfl ?_
  refine ea_callS (pc := 5) (d' := d - 1) (As := [vI x0, vI 48, vI 57]) (st := []) dX12_isDigit_5 kX12_isIn (sX12_isIn (d := d - 1) (by omega) Ew1) (by omega) rfl (Nat.le_of_ble_eq_true rfl) ew_1769 ew_1770 ?_
  obtain ⟨z2, E⟩ := gd_some E
  exact ea_iretO (pc := 8) dX12_isDigit_8 rfl (ea_bn z2) E
theorem kBX12_isDigit_0  {x0 : Int32} {h : ea_H} : kp (ea_core h) (BX12_isDigit_0 x0 h) :=
  (kp_bind (kp_tw (kpX12_isIn _ _ _ _) rfl) fun w1 hcw1 => (kp_gd (kp_ret hcw1)))
noncomputable def qX12_isDigit (x0 : Int32) (h : ea_H) : Option (Int32 × ea_H) := BX12_isDigit_0 x0 h
theorem sX12_isDigit {d : Nat} {x0 : Int32} {h : ea_H} {r : Int32} {h' : ea_H} (hd : 2 ≤ d) (K : qX12_isDigit x0 h = some (r, h')) : ea_Met mX12_isDigit d [vI x0] h (some (vI r)) h' := by
  unfold qX12_isDigit at K
  have W := tBX12_isDigit_0 hd (h0 := h) K
  exact ea_enter rfl (Nat.le_of_ble_eq_true rfl) W
theorem kpX12_isDigit (x0 : Int32) (h : ea_H) : kp (ea_core h) (qX12_isDigit x0 h) := kBX12_isDigit_0
noncomputable def BX12_is_0 (J24 : Nat → Int32 → Int32 → ea_H → Option (Int32 × ea_H)) (o1 : Nat) (h : ea_H) : Option (Int32 × ea_H) :=
  (gd ((o1 < 18)) (Option.bind (qS_length o1 h) fun w1 => (if ((ea_i h 326 53) - (ea_i h 326 55)) = w1.1 then (J24 (o1 : Nat) (1 : Int32) (0 : Int32) w1.2) else (J24 (o1 : Nat) (0 : Int32) (0 : Int32) w1.2))))
theorem tBX12_is_0 {d : Nat} {h0 : ea_H} (hd : 6 ≤ d) {J24 : Nat → Int32 → Int32 → ea_H → Option (Int32 × ea_H)}  (kJ24 : ∀ (o1 : Nat) (x2 : Int32) (x3 : Int32) (h : ea_H) (r : Int32) (h' : ea_H), J24 o1 x2 x3 h = some (r, h') → ShM h → ea_W mX12_is d h0 (some (vI r)) h' 24 [(0, vR (some 326)), (1, vO (1 + o1)), (2, vI x2), (3, vI x3)] [] h) {o1 : Nat} {h : ea_H} {r : Int32} {h' : ea_H} (E : BX12_is_0 J24 o1 h = some (r, h')) (hs : ShM h) : ea_W mX12_is d h0 (some (vI r)) h' 0 [(0, vR (some 326)), (1, vO (1 + o1))] [] h := by
  unfold BX12_is_0 at E
  obtain ⟨z2, E⟩ := gd_some E
  refine ea_aload_n (pc := 0) dX12_is_0 rfl 0 rfl ?_
  refine ea_getI (pc := 1) dX12_is_1 ec_12 (k := 53) (Nat.le_of_ble_eq_true rfl) rfl (Or.inl ew_1455) (cShM_326 hs).1 (cShM_326 hs).2.1 ?_
  refine ea_aload_n (pc := 4) dX12_is_4 rfl 0 rfl ?_
  refine ea_getI (pc := 5) dX12_is_5 ec_12 (k := 55) (Nat.le_of_ble_eq_true rfl) rfl (Or.inl ew_1457) (cShM_326 hs).1 (cShM_326 hs).2.1 ?_
  refine ea_isub (pc := 8) dX12_is_8 ?_
  refine ea_aload_nO (pc := 9) dX12_is_9 rfl 1 rfl ?_
  obtain ⟨w1, Ew1, E⟩ := bd_some E
  have hsw1 : ShM w1.2 := ShM_core ((kpS_length _ _) _ Ew1) hs
  refine ea_callVS (pc := 10) (d' := d - 1) (As := []) (st := [vI ((ea_i h 326 53) - (ea_i h 326 55))]) dX12_is_10 z2 kJ0_length_8abf5 (sS_length (d := d - 1) (by omega) z2 Ew1) (by omega) rfl (Nat.le_of_ble_eq_true rfl) ew_1899 ew_1900 ew_1901 rfl ?_
  refine ea_icmp_ne (pc := 13) (tgt := 20) dX12_is_13 rfl (fun c3 => ?_) (fun c3 => ?_)
  · have E := (if_neg c3).symm.trans E
    refine ea_iconst (pc := 20) dX12_is_20 (v := 0) rfl ?_
    refine ea_istore_n (pc := 21) (lv' := [(0, vR (some 326)), (1, vO (1 + o1)), (2, vI 0)]) dX12_is_21 rfl (Nat.le_of_ble_eq_true rfl) [1, 2, 0] rfl ?_
    refine ea_iconst (pc := 22) dX12_is_22 (v := 0) rfl ?_
    refine ea_istore_n (pc := 23) (lv' := [(0, vR (some 326)), (1, vO (1 + o1)), (2, vI 0), (3, vI 0)]) dX12_is_23 rfl (Nat.le_of_ble_eq_true rfl) [1, 2, 3, 0] rfl ?_
    exact (kJ24 (o1 : Nat) (0 : Int32) (0 : Int32) w1.2 _ _ E hsw1)
  · have E := (if_pos c3).symm.trans E
    refine ea_iconst (pc := 16) dX12_is_16 (v := 1) rfl ?_
    refine ea_goto (pc := 17) (tgt := 21) dX12_is_17 rfl ?_
    refine ea_istore_n (pc := 21) (lv' := [(0, vR (some 326)), (1, vO (1 + o1)), (2, vI 1)]) dX12_is_21 rfl (Nat.le_of_ble_eq_true rfl) [1, 2, 0] rfl ?_
    refine ea_iconst (pc := 22) dX12_is_22 (v := 0) rfl ?_
    refine ea_istore_n (pc := 23) (lv' := [(0, vR (some 326)), (1, vO (1 + o1)), (2, vI 1), (3, vI 0)]) dX12_is_23 rfl (Nat.le_of_ble_eq_true rfl) [1, 2, 3, 0] rfl ?_
    exact (kJ24 (o1 : Nat) (1 : Int32) (0 : Int32) w1.2 _ _ E hsw1)
theorem kBX12_is_0 {J24 : Nat → Int32 → Int32 → ea_H → Option (Int32 × ea_H)}  (cJ24 : ∀ (o1 : Nat) (x2 : Int32) (x3 : Int32) (h : ea_H), kp (ea_core h) (J24 o1 x2 x3 h)) {o1 : Nat} {h : ea_H} : kp (ea_core h) (BX12_is_0 J24 o1 h) :=
  (kp_gd (kp_bind (kp_tw (kpS_length _ _) rfl) fun w1 hcw1 => (kp_ite (kp_tw (cJ24 _ _ _ _) hcw1) (kp_tw (cJ24 _ _ _ _) hcw1))))
theorem lBX12_is_0 {J24 : Nat → Int32 → Int32 → ea_H → Option (Int32 × ea_H)} {J24_ : Nat → Int32 → Int32 → ea_H → Option (Int32 × ea_H)}  (mJ24 : ∀ (o1 : Nat) (x2 : Int32) (x3 : Int32) (h : ea_H), fle (J24 o1 x2 x3 h) (J24_ o1 x2 x3 h)) {o1 : Nat} {h : ea_H} : fle (BX12_is_0 J24 o1 h) (BX12_is_0 J24_ o1 h) :=
  (fle_gd (fle_bind (fle_rfl _) fun _ => (fle_ite (mJ24 _ _ _ _) (mJ24 _ _ _ _))))
theorem nBX12_is_0 {J24 : Nat → Int32 → Int32 → ea_H → Option (Int32 × ea_H)} {J24_ : Nat → (Nat → Int32 → Int32 → ea_H → Option (Int32 × ea_H))}  (mJ24 : ∀ (o1 : Nat) (x2 : Int32) (x3 : Int32) (h : ea_H), fct (J24 o1 x2 x3 h) (fun f => J24_ f o1 x2 x3 h)) {o1 : Nat} {h : ea_H} : fct (BX12_is_0 J24 o1 h) (fun f => BX12_is_0 (J24_ f) o1 h) :=
  (fct_gd (fct_bind (fct_rfl _) fun _ => (fct_ite (mJ24 _ _ _ _) (mJ24 _ _ _ _))))
noncomputable def BX12_is_24 (J24 : Nat → Int32 → Int32 → ea_H → Option (Int32 × ea_H)) (o1 : Nat) (x2 : Int32) (x3 : Int32) (h : ea_H) : Option (Int32 × ea_H) :=
  (gd ((o1 < 18)) (Option.bind (qS_length o1 h) fun w4 => (if w4.1 ≤ x3 then (gd ((x2 = 0 ∨ x2 = 1)) (some (x2, w4.2))) else (if x2 = (0 : Int32) then (gd ((x2 = 0 ∨ x2 = 1)) (some (x2, w4.2))) else (gd (vp_in ((ea_i w4.2 326 55) + x3) 600) (gd ((o1 < 18)) (Option.bind (qS_charAt o1 (x3 : Int32) w4.2) fun w9 => (if (ea_i w4.2 362 (Int32.toNatClampNeg ((ea_i w4.2 326 55) + x3))) = w9.1 then (J24 (o1 : Nat) (1 : Int32) ((x3 + (1 : Int32)) : Int32) w9.2) else (J24 (o1 : Nat) (0 : Int32) ((x3 + (1 : Int32)) : Int32) w9.2)))))))))
theorem tBX12_is_24 {d : Nat} {h0 : ea_H} (hd : 6 ≤ d) {J24 : Nat → Int32 → Int32 → ea_H → Option (Int32 × ea_H)}  (kJ24 : ∀ (o1 : Nat) (x2 : Int32) (x3 : Int32) (h : ea_H) (r : Int32) (h' : ea_H), J24 o1 x2 x3 h = some (r, h') → ShM h → ea_W mX12_is d h0 (some (vI r)) h' 24 [(0, vR (some 326)), (1, vO (1 + o1)), (2, vI x2), (3, vI x3)] [] h) {o1 : Nat} {x2 : Int32} {x3 : Int32} {h : ea_H} {r : Int32} {h' : ea_H} (E : BX12_is_24 J24 o1 x2 x3 h = some (r, h')) (hs : ShM h) : ea_W mX12_is d h0 (some (vI r)) h' 24 [(0, vR (some 326)), (1, vO (1 + o1)), (2, vI x2), (3, vI x3)] [] h := by
  unfold BX12_is_24 at E
  obtain ⟨z5, E⟩ := gd_some E
  refine ea_iload_n (pc := 24) dX12_is_24 rfl 3 rfl ?_
  refine ea_aload_nO (pc := 25) dX12_is_25 rfl 1 rfl ?_
  obtain ⟨w4, Ew4, E⟩ := bd_some E
  have hsw4 : ShM w4.2 := ShM_core ((kpS_length _ _) _ Ew4) hs
  refine ea_callVS (pc := 26) (d' := d - 1) (As := []) (st := [vI x3]) dX12_is_26 z5 kJ0_length_8abf5 (sS_length (d := d - 1) (by omega) z5 Ew4) (by omega) rfl (Nat.le_of_ble_eq_true rfl) ew_1899 ew_1900 ew_1901 rfl ?_
  refine ea_icmp_ge (pc := 29) (tgt := 67) dX12_is_29 rfl (fun c13 => ?_) (fun c13 => ?_)
  · have E := (if_pos c13).symm.trans E
    obtain ⟨z6, E⟩ := gd_some E
    refine ea_iload_n (pc := 67) dX12_is_67 rfl 2 rfl ?_
    exact ea_iretO (pc := 68) dX12_is_68 rfl (ea_bn z6) E
  · have E := (if_neg c13).symm.trans E
    refine ea_iload_n (pc := 32) dX12_is_32 rfl 2 rfl ?_
    refine ea_if_eq (pc := 33) (tgt := 67) dX12_is_33 rfl (fun c12 => ?_) (fun c12 => ?_)
    · have E := (if_pos c12).symm.trans E
      obtain ⟨z7, E⟩ := gd_some E
      refine ea_iload_n (pc := 67) dX12_is_67 rfl 2 rfl ?_
      exact ea_iretO (pc := 68) dX12_is_68 rfl (ea_bn z7) E
    · have E := (if_neg c12).symm.trans E
      obtain ⟨z8, E⟩ := gd_some E
      refine ea_aload_n (pc := 36) dX12_is_36 rfl 0 rfl ?_
      refine ea_getR (pc := 37) dX12_is_37 ec_12 (k := 41) (Nat.le_of_ble_eq_true rfl) rfl (Or.inl ew_1443) (cShM_326 hsw4).1 (cShM_326 hsw4).2.1 (rShM_326_41 hsw4) ?_
      refine ea_aload_n (pc := 40) dX12_is_40 rfl 0 rfl ?_
      refine ea_getI (pc := 41) dX12_is_41 ec_12 (k := 55) (Nat.le_of_ble_eq_true rfl) rfl (Or.inl ew_1457) (cShM_326 hsw4).1 (cShM_326 hsw4).2.1 ?_
      refine ea_iload_n (pc := 44) dX12_is_44 rfl 3 rfl ?_
      refine ea_iadd (pc := 45) dX12_is_45 ?_
      obtain ⟨z10, E⟩ := gd_some E
      refine ea_iald (pc := 46) dX12_is_46 (cShM_362 hsw4).1 (cShM_362 hsw4).2.1 (ea_vpl (cShM_362 hsw4).2.2 z8) ?_
      refine ea_aload_nO (pc := 47) dX12_is_47 rfl 1 rfl ?_
      refine ea_iload_n (pc := 48) dX12_is_48 rfl 3 rfl ?_
      obtain ⟨w9, Ew9, E⟩ := bd_some E
      have hsw9 : ShM w9.2 := ShM_core ((kpS_charAt _ _ _) _ Ew9) hsw4
      refine ea_callVS (pc := 49) (d' := d - 1) (As := [vI x3]) (st := [vI (ea_i w4.2 362 (Int32.toNatClampNeg ((ea_i w4.2 326 55) + x3)))]) dX12_is_49 z10 kJ0_charAt_5068e (sS_charAt (d := d - 1) (by omega) z10 Ew9) (by omega) rfl (Nat.le_of_ble_eq_true rfl) ew_1909 ew_1910 ew_1911 rfl ?_
      refine ea_icmp_ne (pc := 52) (tgt := 59) dX12_is_52 rfl (fun c11 => ?_) (fun c11 => ?_)
      · have E := (if_neg c11).symm.trans E
        refine ea_iconst (pc := 59) dX12_is_59 (v := 0) rfl ?_
        refine ea_istore_n (pc := 60) (lv' := [(0, vR (some 326)), (1, vO (1 + o1)), (2, vI 0), (3, vI x3)]) dX12_is_60 rfl (Nat.le_of_ble_eq_true rfl) [1, 2, 0, 3] rfl ?_
        refine ea_iinc (pc := 61) (v := 1) (lv' := [(0, vR (some 326)), (1, vO (1 + o1)), (2, vI 0), (3, vI (x3 + (1 : Int32)))]) dX12_is_61 3 rfl rfl (Nat.le_of_ble_eq_true rfl) [1, 2, 3, 0] rfl ?_
        refine ea_goto (pc := 64) (tgt := 24) dX12_is_64 rfl ?_
        exact (kJ24 (o1 : Nat) (0 : Int32) ((x3 + (1 : Int32)) : Int32) w9.2 _ _ E hsw9)
      · have E := (if_pos c11).symm.trans E
        refine ea_iconst (pc := 55) dX12_is_55 (v := 1) rfl ?_
        refine ea_goto (pc := 56) (tgt := 60) dX12_is_56 rfl ?_
        refine ea_istore_n (pc := 60) (lv' := [(0, vR (some 326)), (1, vO (1 + o1)), (2, vI 1), (3, vI x3)]) dX12_is_60 rfl (Nat.le_of_ble_eq_true rfl) [1, 2, 0, 3] rfl ?_
        refine ea_iinc (pc := 61) (v := 1) (lv' := [(0, vR (some 326)), (1, vO (1 + o1)), (2, vI 1), (3, vI (x3 + (1 : Int32)))]) dX12_is_61 3 rfl rfl (Nat.le_of_ble_eq_true rfl) [1, 2, 3, 0] rfl ?_
        refine ea_goto (pc := 64) (tgt := 24) dX12_is_64 rfl ?_
        exact (kJ24 (o1 : Nat) (1 : Int32) ((x3 + (1 : Int32)) : Int32) w9.2 _ _ E hsw9)
theorem kBX12_is_24 {J24 : Nat → Int32 → Int32 → ea_H → Option (Int32 × ea_H)}  (cJ24 : ∀ (o1 : Nat) (x2 : Int32) (x3 : Int32) (h : ea_H), kp (ea_core h) (J24 o1 x2 x3 h)) {o1 : Nat} {x2 : Int32} {x3 : Int32} {h : ea_H} : kp (ea_core h) (BX12_is_24 J24 o1 x2 x3 h) :=
  (kp_gd (kp_bind (kp_tw (kpS_length _ _) rfl) fun w4 hcw4 => (kp_ite (kp_gd (kp_ret hcw4)) (kp_ite (kp_gd (kp_ret hcw4)) (kp_gd (kp_gd (kp_bind (kp_tw (kpS_charAt _ _ _) hcw4) fun w9 hcw9 => (kp_ite (kp_tw (cJ24 _ _ _ _) hcw9) (kp_tw (cJ24 _ _ _ _) hcw9)))))))))
theorem lBX12_is_24 {J24 : Nat → Int32 → Int32 → ea_H → Option (Int32 × ea_H)} {J24_ : Nat → Int32 → Int32 → ea_H → Option (Int32 × ea_H)}  (mJ24 : ∀ (o1 : Nat) (x2 : Int32) (x3 : Int32) (h : ea_H), fle (J24 o1 x2 x3 h) (J24_ o1 x2 x3 h)) {o1 : Nat} {x2 : Int32} {x3 : Int32} {h : ea_H} : fle (BX12_is_24 J24 o1 x2 x3 h) (BX12_is_24 J24_ o1 x2 x3 h) :=
  (fle_gd (fle_bind (fle_rfl _) fun _ => (fle_ite (fle_rfl _) (fle_ite (fle_rfl _) (fle_gd (fle_gd (fle_bind (fle_rfl _) fun _ => (fle_ite (mJ24 _ _ _ _) (mJ24 _ _ _ _)))))))))
theorem nBX12_is_24 {J24 : Nat → Int32 → Int32 → ea_H → Option (Int32 × ea_H)} {J24_ : Nat → (Nat → Int32 → Int32 → ea_H → Option (Int32 × ea_H))}  (mJ24 : ∀ (o1 : Nat) (x2 : Int32) (x3 : Int32) (h : ea_H), fct (J24 o1 x2 x3 h) (fun f => J24_ f o1 x2 x3 h)) {o1 : Nat} {x2 : Int32} {x3 : Int32} {h : ea_H} : fct (BX12_is_24 J24 o1 x2 x3 h) (fun f => BX12_is_24 (J24_ f) o1 x2 x3 h) :=
  (fct_gd (fct_bind (fct_rfl _) fun _ => (fct_ite (fct_rfl _) (fct_ite (fct_rfl _) (fct_gd (fct_gd (fct_bind (fct_rfl _) fun _ => (fct_ite (mJ24 _ _ _ _) (mJ24 _ _ _ _)))))))))
noncomputable def gX12_is : Nat → (Nat → ea_H → Option (Int32 × ea_H)) × (Nat → Int32 → Int32 → ea_H → Option (Int32 × ea_H))
  | 0 => (fun _ _ => none, fun _ _ _ _ => none)
  | f + 1 => (BX12_is_0 (gX12_is f).2, BX12_is_24 (gX12_is f).2)
theorem mgX12_is : ∀ f : Nat, (∀ (o1 : Nat) (h : ea_H), fle ((gX12_is f).1 o1 h) ((gX12_is (f + 1)).1 o1 h)) ∧ (∀ (o1 : Nat) (x2 : Int32) (x3 : Int32) (h : ea_H), fle ((gX12_is f).2 o1 x2 x3 h) ((gX12_is (f + 1)).2 o1 x2 x3 h)) := by
  intro f
  induction f with
  | zero => exact ⟨fun _ _ => fle_none _, fun _ _ _ _ => fle_none _⟩
  | succ f ih => exact ⟨fun _ _ => lBX12_is_0 ih.2, fun _ _ _ _ => lBX12_is_24 ih.2⟩
noncomputable def qX12_is_0 (o1 : Nat) (h : ea_H) : Option (Int32 × ea_H) := flim fun f => (gX12_is f).1 o1 h
noncomputable def qX12_is_24 (o1 : Nat) (x2 : Int32) (x3 : Int32) (h : ea_H) : Option (Int32 × ea_H) := flim fun f => (gX12_is f).2 o1 x2 x3 h
theorem fqX12_is_0 (o1 : Nat) (h : ea_H) : fct (qX12_is_0 o1 h) fun f => (gX12_is f).1 o1 h := flim_ct fun f => (mgX12_is f).1 o1 h
theorem fqX12_is_24 (o1 : Nat) (x2 : Int32) (x3 : Int32) (h : ea_H) : fct (qX12_is_24 o1 x2 x3 h) fun f => (gX12_is f).2 o1 x2 x3 h := flim_ct fun f => (mgX12_is f).2 o1 x2 x3 h
/-- how a block opens -/
theorem uqX12_is_0 {o1 : Nat} {h : ea_H} {P : Int32 × ea_H → Prop} (H : sat (BX12_is_0 qX12_is_24 o1 h) P) : sat (qX12_is_0 o1 h) P := by
  obtain ⟨x, e, hp⟩ := H
  obtain ⟨n, hn⟩ := nBX12_is_0 fqX12_is_24 x e
  exact ⟨x, flim_at (fun f => (mgX12_is f).1 o1 h) (f := n + 1) (hn n (Nat.le_refl _)), hp⟩
/-- how a block opens -/
theorem uqX12_is_24 {o1 : Nat} {x2 : Int32} {x3 : Int32} {h : ea_H} {P : Int32 × ea_H → Prop} (H : sat (BX12_is_24 qX12_is_24 o1 x2 x3 h) P) : sat (qX12_is_24 o1 x2 x3 h) P := by
  obtain ⟨x, e, hp⟩ := H
  obtain ⟨n, hn⟩ := nBX12_is_24 fqX12_is_24 x e
  exact ⟨x, flim_at (fun f => (mgX12_is f).2 o1 x2 x3 h) (f := n + 1) (hn n (Nat.le_refl _)), hp⟩
theorem kgX12_is : ∀ f : Nat, (∀ (o1 : Nat) (h : ea_H), kp (ea_core h) ((gX12_is f).1 o1 h)) ∧ (∀ (o1 : Nat) (x2 : Int32) (x3 : Int32) (h : ea_H), kp (ea_core h) ((gX12_is f).2 o1 x2 x3 h)) := by
  intro f
  induction f with
  | zero => exact ⟨fun _ _ => kp_none _, fun _ _ _ _ => kp_none _⟩
  | succ f ih => exact ⟨fun _ _ => kBX12_is_0 ih.2, fun _ _ _ _ => kBX12_is_24 ih.2⟩
theorem tgX12_is {d : Nat} {h0 : ea_H} (hd : 6 ≤ d) : ∀ f : Nat, (∀ (o1 : Nat) (h : ea_H) (r : Int32) (h' : ea_H), (gX12_is f).1 o1 h = some (r, h') → ShM h → ea_W mX12_is d h0 (some (vI r)) h' 0 [(0, vR (some 326)), (1, vO (1 + o1))] [] h) ∧ (∀ (o1 : Nat) (x2 : Int32) (x3 : Int32) (h : ea_H) (r : Int32) (h' : ea_H), (gX12_is f).2 o1 x2 x3 h = some (r, h') → ShM h → ea_W mX12_is d h0 (some (vI r)) h' 24 [(0, vR (some 326)), (1, vO (1 + o1)), (2, vI x2), (3, vI x3)] [] h) := by
  intro f
  induction f with
  | zero => exact ⟨fun _ _ _ _ E => no_some E, fun _ _ _ _ _ _ E => no_some E⟩
  | succ f ih => exact ⟨fun _ _ _ _ E hs => tBX12_is_0 hd ih.2 E hs, fun _ _ _ _ _ _ E hs => tBX12_is_24 hd ih.2 E hs⟩
noncomputable def qX12_is (o1 : Nat) (h : ea_H) : Option (Int32 × ea_H) := qX12_is_0 o1 h
theorem sX12_is {d : Nat} {o1 : Nat} {h : ea_H} {r : Int32} {h' : ea_H} (hd : 6 ≤ d) (hs : ShM h) (K : qX12_is o1 h = some (r, h')) : ea_Met mX12_is d [vR (some 326), vO (1 + o1)] h (some (vI r)) h' := by
  unfold qX12_is at K
  obtain ⟨n, hn⟩ := fqX12_is_0 o1 h _ K
  have W := (tgX12_is (d := d) (h0 := h) hd n).1 o1 h _ _ (hn n (Nat.le_refl _)) hs
  exact ea_enter rfl (Nat.le_of_ble_eq_true rfl) W
theorem kpX12_is (o1 : Nat) (h : ea_H) : kp (ea_core h) (qX12_is o1 h) := fun x e => by
  obtain ⟨n, hn⟩ := fqX12_is_0 o1 h x e
  exact (kgX12_is n).1 o1 h x (hn n (Nat.le_refl _))
noncomputable def BX12_word_0 (h : ea_H) : Option (Int32 × ea_H) :=
  (Option.bind (qX12_is (0 : Nat) h) fun w1 => (if w1.1 = (0 : Int32) then (Option.bind (qX12_is (1 : Nat) w1.2) fun w2 => (if w2.1 = (0 : Int32) then (Option.bind (qX12_is (2 : Nat) w2.2) fun w3 => (if w3.1 = (0 : Int32) then (Option.bind (qX12_is (3 : Nat) w3.2) fun w4 => (if w4.1 = (0 : Int32) then (Option.bind (qX12_is (4 : Nat) w4.2) fun w5 => (if w5.1 = (0 : Int32) then (Option.bind (qX12_is (5 : Nat) w5.2) fun w6 => (if w6.1 = (0 : Int32) then (Option.bind (qX12_is (6 : Nat) w6.2) fun w7 => (if w7.1 = (0 : Int32) then (Option.bind (qX12_is (7 : Nat) w7.2) fun w8 => (if w8.1 = (0 : Int32) then (Option.bind (qX12_is (8 : Nat) w8.2) fun w9 => (if w9.1 = (0 : Int32) then (Option.bind (qX12_is (9 : Nat) w9.2) fun w10 => (if w10.1 = (0 : Int32) then (Option.bind (qX12_is (10 : Nat) w10.2) fun w11 => (if w11.1 = (0 : Int32) then (Option.bind (qX12_is (11 : Nat) w11.2) fun w12 => (if w12.1 = (0 : Int32) then (Option.bind (qX12_is (12 : Nat) w12.2) fun w13 => (if w13.1 = (0 : Int32) then (Option.bind (qX12_is (13 : Nat) w13.2) fun w14 => (if w14.1 = (0 : Int32) then (Option.bind (qX12_is (14 : Nat) w14.2) fun w15 => (if w15.1 = (0 : Int32) then (Option.bind (qX12_is (15 : Nat) w15.2) fun w16 => (if w16.1 = (0 : Int32) then (Option.bind (qX12_is (16 : Nat) w16.2) fun w17 => (if w17.1 = (0 : Int32) then (Option.bind (qX12_is (17 : Nat) w17.2) fun w18 => (if w18.1 = (0 : Int32) then (some ((1 : Int32), w18.2)) else (some ((207 : Int32), w18.2)))) else (some ((206 : Int32), w17.2)))) else (some ((205 : Int32), w16.2)))) else (some ((204 : Int32), w15.2)))) else (some ((203 : Int32), w14.2)))) else (some ((202 : Int32), w13.2)))) else (some ((201 : Int32), w12.2)))) else (some ((13 : Int32), w11.2)))) else (some ((12 : Int32), w10.2)))) else (some ((11 : Int32), w9.2)))) else (some ((10 : Int32), w8.2)))) else (some ((9 : Int32), w7.2)))) else (some ((8 : Int32), w6.2)))) else (some ((7 : Int32), w5.2)))) else (some ((6 : Int32), w4.2)))) else (some ((5 : Int32), w3.2)))) else (some ((4 : Int32), w2.2)))) else (some ((3 : Int32), w1.2))))
theorem tBX12_word_0 {d : Nat} {h0 : ea_H} (hd : 7 ≤ d)  {h : ea_H} {r : Int32} {h' : ea_H} (E : BX12_word_0 h = some (r, h')) (hs : ShM h) : ea_W mX12_word d h0 (some (vI r)) h' 0 [(0, vR (some 326))] [] h := by
  unfold BX12_word_0 at E
  obtain ⟨w1, Ew1, E⟩ := bd_some E
  have hsw1 : ShM w1.2 := ShM_core ((kpX12_is _ _) _ Ew1) hs
  refine ea_aload_n (pc := 0) dX12_word_0 rfl 0 rfl ?_
  refine ea_ldcS (pc := 1) 0 (by decide) rfl rfl dX12_word_1 ?_
  refine ea_callV (pc := 4) (d' := d - 1) (As := [vO (1 + 0)]) (st := []) dX12_word_4 kX12_is (sX12_is (d := d - 1) (by omega) hs Ew1) (by omega) rfl (Nat.le_of_ble_eq_true rfl) ew_1895 ew_1897 ew_73 (ci := 12) rfl (by decide) (cShM_326 hs).1 (cShM_326 hs).2.1 ?_
  refine ea_if_eq (pc := 7) (tgt := 12) dX12_word_7 rfl (fun c36 => ?_) (fun c36 => ?_)
  · have E := (if_pos c36).symm.trans E
    obtain ⟨w2, Ew2, E⟩ := bd_some E
    have hsw2 : ShM w2.2 := ShM_core ((kpX12_is _ _) _ Ew2) hsw1
    refine ea_aload_n (pc := 12) dX12_word_12 rfl 0 rfl ?_
    refine ea_ldcS (pc := 13) 1 (by decide) rfl rfl dX12_word_13 ?_
    refine ea_callV (pc := 16) (d' := d - 1) (As := [vO (1 + 1)]) (st := []) dX12_word_16 kX12_is (sX12_is (d := d - 1) (by omega) hsw1 Ew2) (by omega) rfl (Nat.le_of_ble_eq_true rfl) ew_1895 ew_1897 ew_73 (ci := 12) rfl (by decide) (cShM_326 hsw1).1 (cShM_326 hsw1).2.1 ?_
    refine ea_if_eq (pc := 19) (tgt := 24) dX12_word_19 rfl (fun c35 => ?_) (fun c35 => ?_)
    · have E := (if_pos c35).symm.trans E
      obtain ⟨w3, Ew3, E⟩ := bd_some E
      have hsw3 : ShM w3.2 := ShM_core ((kpX12_is _ _) _ Ew3) hsw2
      refine ea_aload_n (pc := 24) dX12_word_24 rfl 0 rfl ?_
      refine ea_ldcS (pc := 25) 2 (by decide) rfl rfl dX12_word_25 ?_
      refine ea_callV (pc := 28) (d' := d - 1) (As := [vO (1 + 2)]) (st := []) dX12_word_28 kX12_is (sX12_is (d := d - 1) (by omega) hsw2 Ew3) (by omega) rfl (Nat.le_of_ble_eq_true rfl) ew_1895 ew_1897 ew_73 (ci := 12) rfl (by decide) (cShM_326 hsw2).1 (cShM_326 hsw2).2.1 ?_
      refine ea_if_eq (pc := 31) (tgt := 36) dX12_word_31 rfl (fun c34 => ?_) (fun c34 => ?_)
      · have E := (if_pos c34).symm.trans E
        obtain ⟨w4, Ew4, E⟩ := bd_some E
        have hsw4 : ShM w4.2 := ShM_core ((kpX12_is _ _) _ Ew4) hsw3
        refine ea_aload_n (pc := 36) dX12_word_36 rfl 0 rfl ?_
        refine ea_ldcS (pc := 37) 3 (by decide) rfl rfl dX12_word_37 ?_
        refine ea_callV (pc := 40) (d' := d - 1) (As := [vO (1 + 3)]) (st := []) dX12_word_40 kX12_is (sX12_is (d := d - 1) (by omega) hsw3 Ew4) (by omega) rfl (Nat.le_of_ble_eq_true rfl) ew_1895 ew_1897 ew_73 (ci := 12) rfl (by decide) (cShM_326 hsw3).1 (cShM_326 hsw3).2.1 ?_
        refine ea_if_eq (pc := 43) (tgt := 49) dX12_word_43 rfl (fun c33 => ?_) (fun c33 => ?_)
        · have E := (if_pos c33).symm.trans E
          obtain ⟨w5, Ew5, E⟩ := bd_some E
          have hsw5 : ShM w5.2 := ShM_core ((kpX12_is _ _) _ Ew5) hsw4
          refine ea_aload_n (pc := 49) dX12_word_49 rfl 0 rfl ?_
          refine ea_ldcS (pc := 50) 4 (by decide) rfl rfl dX12_word_50 ?_
          refine ea_callV (pc := 53) (d' := d - 1) (As := [vO (1 + 4)]) (st := []) dX12_word_53 kX12_is (sX12_is (d := d - 1) (by omega) hsw4 Ew5) (by omega) rfl (Nat.le_of_ble_eq_true rfl) ew_1895 ew_1897 ew_73 (ci := 12) rfl (by decide) (cShM_326 hsw4).1 (cShM_326 hsw4).2.1 ?_
          refine ea_if_eq (pc := 56) (tgt := 62) dX12_word_56 rfl (fun c32 => ?_) (fun c32 => ?_)
          · have E := (if_pos c32).symm.trans E
            obtain ⟨w6, Ew6, E⟩ := bd_some E
            have hsw6 : ShM w6.2 := ShM_core ((kpX12_is _ _) _ Ew6) hsw5
            refine ea_aload_n (pc := 62) dX12_word_62 rfl 0 rfl ?_
            refine ea_ldcS (pc := 63) 5 (by decide) rfl rfl dX12_word_63 ?_
            refine ea_callV (pc := 66) (d' := d - 1) (As := [vO (1 + 5)]) (st := []) dX12_word_66 kX12_is (sX12_is (d := d - 1) (by omega) hsw5 Ew6) (by omega) rfl (Nat.le_of_ble_eq_true rfl) ew_1895 ew_1897 ew_73 (ci := 12) rfl (by decide) (cShM_326 hsw5).1 (cShM_326 hsw5).2.1 ?_
            refine ea_if_eq (pc := 69) (tgt := 75) dX12_word_69 rfl (fun c31 => ?_) (fun c31 => ?_)
            · have E := (if_pos c31).symm.trans E
              obtain ⟨w7, Ew7, E⟩ := bd_some E
              have hsw7 : ShM w7.2 := ShM_core ((kpX12_is _ _) _ Ew7) hsw6
              refine ea_aload_n (pc := 75) dX12_word_75 rfl 0 rfl ?_
              refine ea_ldcS (pc := 76) 6 (by decide) rfl rfl dX12_word_76 ?_
              refine ea_callV (pc := 79) (d' := d - 1) (As := [vO (1 + 6)]) (st := []) dX12_word_79 kX12_is (sX12_is (d := d - 1) (by omega) hsw6 Ew7) (by omega) rfl (Nat.le_of_ble_eq_true rfl) ew_1895 ew_1897 ew_73 (ci := 12) rfl (by decide) (cShM_326 hsw6).1 (cShM_326 hsw6).2.1 ?_
              refine ea_if_eq (pc := 82) (tgt := 88) dX12_word_82 rfl (fun c30 => ?_) (fun c30 => ?_)
              · have E := (if_pos c30).symm.trans E
                obtain ⟨w8, Ew8, E⟩ := bd_some E
                have hsw8 : ShM w8.2 := ShM_core ((kpX12_is _ _) _ Ew8) hsw7
                refine ea_aload_n (pc := 88) dX12_word_88 rfl 0 rfl ?_
                refine ea_ldcS (pc := 89) 7 (by decide) rfl rfl dX12_word_89 ?_
                refine ea_callV (pc := 92) (d' := d - 1) (As := [vO (1 + 7)]) (st := []) dX12_word_92 kX12_is (sX12_is (d := d - 1) (by omega) hsw7 Ew8) (by omega) rfl (Nat.le_of_ble_eq_true rfl) ew_1895 ew_1897 ew_73 (ci := 12) rfl (by decide) (cShM_326 hsw7).1 (cShM_326 hsw7).2.1 ?_
                refine ea_if_eq (pc := 95) (tgt := 101) dX12_word_95 rfl (fun c29 => ?_) (fun c29 => ?_)
                · have E := (if_pos c29).symm.trans E
                  obtain ⟨w9, Ew9, E⟩ := bd_some E
                  have hsw9 : ShM w9.2 := ShM_core ((kpX12_is _ _) _ Ew9) hsw8
                  refine ea_aload_n (pc := 101) dX12_word_101 rfl 0 rfl ?_
                  refine ea_ldcS (pc := 102) 8 (by decide) rfl rfl dX12_word_102 ?_
                  refine ea_callV (pc := 105) (d' := d - 1) (As := [vO (1 + 8)]) (st := []) dX12_word_105 kX12_is (sX12_is (d := d - 1) (by omega) hsw8 Ew9) (by omega) rfl (Nat.le_of_ble_eq_true rfl) ew_1895 ew_1897 ew_73 (ci := 12) rfl (by decide) (cShM_326 hsw8).1 (cShM_326 hsw8).2.1 ?_
                  refine ea_if_eq (pc := 108) (tgt := 114) dX12_word_108 rfl (fun c28 => ?_) (fun c28 => ?_)
                  · have E := (if_pos c28).symm.trans E
                    obtain ⟨w10, Ew10, E⟩ := bd_some E
                    have hsw10 : ShM w10.2 := ShM_core ((kpX12_is _ _) _ Ew10) hsw9
                    refine ea_aload_n (pc := 114) dX12_word_114 rfl 0 rfl ?_
                    refine ea_ldcS (pc := 115) 9 (by decide) rfl rfl dX12_word_115 ?_
                    refine ea_callV (pc := 118) (d' := d - 1) (As := [vO (1 + 9)]) (st := []) dX12_word_118 kX12_is (sX12_is (d := d - 1) (by omega) hsw9 Ew10) (by omega) rfl (Nat.le_of_ble_eq_true rfl) ew_1895 ew_1897 ew_73 (ci := 12) rfl (by decide) (cShM_326 hsw9).1 (cShM_326 hsw9).2.1 ?_
                    refine ea_if_eq (pc := 121) (tgt := 127) dX12_word_121 rfl (fun c27 => ?_) (fun c27 => ?_)
                    · have E := (if_pos c27).symm.trans E
                      obtain ⟨w11, Ew11, E⟩ := bd_some E
                      have hsw11 : ShM w11.2 := ShM_core ((kpX12_is _ _) _ Ew11) hsw10
                      refine ea_aload_n (pc := 127) dX12_word_127 rfl 0 rfl ?_
                      refine ea_ldcS (pc := 128) 10 (by decide) rfl rfl dX12_word_128 ?_
                      refine ea_callV (pc := 131) (d' := d - 1) (As := [vO (1 + 10)]) (st := []) dX12_word_131 kX12_is (sX12_is (d := d - 1) (by omega) hsw10 Ew11) (by omega) rfl (Nat.le_of_ble_eq_true rfl) ew_1895 ew_1897 ew_73 (ci := 12) rfl (by decide) (cShM_326 hsw10).1 (cShM_326 hsw10).2.1 ?_
                      refine ea_if_eq (pc := 134) (tgt := 140) dX12_word_134 rfl (fun c26 => ?_) (fun c26 => ?_)
                      · have E := (if_pos c26).symm.trans E
                        obtain ⟨w12, Ew12, E⟩ := bd_some E
                        have hsw12 : ShM w12.2 := ShM_core ((kpX12_is _ _) _ Ew12) hsw11
                        refine ea_aload_n (pc := 140) dX12_word_140 rfl 0 rfl ?_
                        refine ea_ldcS (pc := 141) 11 (by decide) rfl rfl dX12_word_141 ?_
                        refine ea_callV (pc := 144) (d' := d - 1) (As := [vO (1 + 11)]) (st := []) dX12_word_144 kX12_is (sX12_is (d := d - 1) (by omega) hsw11 Ew12) (by omega) rfl (Nat.le_of_ble_eq_true rfl) ew_1895 ew_1897 ew_73 (ci := 12) rfl (by decide) (cShM_326 hsw11).1 (cShM_326 hsw11).2.1 ?_
                        refine ea_if_eq (pc := 147) (tgt := 154) dX12_word_147 rfl (fun c25 => ?_) (fun c25 => ?_)
                        · have E := (if_pos c25).symm.trans E
                          obtain ⟨w13, Ew13, E⟩ := bd_some E
                          have hsw13 : ShM w13.2 := ShM_core ((kpX12_is _ _) _ Ew13) hsw12
                          refine ea_aload_n (pc := 154) dX12_word_154 rfl 0 rfl ?_
                          refine ea_ldcS (pc := 155) 12 (by decide) rfl rfl dX12_word_155 ?_
                          refine ea_callV (pc := 158) (d' := d - 1) (As := [vO (1 + 12)]) (st := []) dX12_word_158 kX12_is (sX12_is (d := d - 1) (by omega) hsw12 Ew13) (by omega) rfl (Nat.le_of_ble_eq_true rfl) ew_1895 ew_1897 ew_73 (ci := 12) rfl (by decide) (cShM_326 hsw12).1 (cShM_326 hsw12).2.1 ?_
                          refine ea_if_eq (pc := 161) (tgt := 168) dX12_word_161 rfl (fun c24 => ?_) (fun c24 => ?_)
                          · have E := (if_pos c24).symm.trans E
                            obtain ⟨w14, Ew14, E⟩ := bd_some E
                            have hsw14 : ShM w14.2 := ShM_core ((kpX12_is _ _) _ Ew14) hsw13
                            refine ea_aload_n (pc := 168) dX12_word_168 rfl 0 rfl ?_
                            refine ea_ldcS (pc := 169) 13 (by decide) rfl rfl dX12_word_169 ?_
                            refine ea_callV (pc := 172) (d' := d - 1) (As := [vO (1 + 13)]) (st := []) dX12_word_172 kX12_is (sX12_is (d := d - 1) (by omega) hsw13 Ew14) (by omega) rfl (Nat.le_of_ble_eq_true rfl) ew_1895 ew_1897 ew_73 (ci := 12) rfl (by decide) (cShM_326 hsw13).1 (cShM_326 hsw13).2.1 ?_
                            refine ea_if_eq (pc := 175) (tgt := 182) dX12_word_175 rfl (fun c23 => ?_) (fun c23 => ?_)
                            · have E := (if_pos c23).symm.trans E
                              obtain ⟨w15, Ew15, E⟩ := bd_some E
                              have hsw15 : ShM w15.2 := ShM_core ((kpX12_is _ _) _ Ew15) hsw14
                              refine ea_aload_n (pc := 182) dX12_word_182 rfl 0 rfl ?_
                              refine ea_ldcS (pc := 183) 14 (by decide) rfl rfl dX12_word_183 ?_
                              refine ea_callV (pc := 186) (d' := d - 1) (As := [vO (1 + 14)]) (st := []) dX12_word_186 kX12_is (sX12_is (d := d - 1) (by omega) hsw14 Ew15) (by omega) rfl (Nat.le_of_ble_eq_true rfl) ew_1895 ew_1897 ew_73 (ci := 12) rfl (by decide) (cShM_326 hsw14).1 (cShM_326 hsw14).2.1 ?_
                              refine ea_if_eq (pc := 189) (tgt := 196) dX12_word_189 rfl (fun c22 => ?_) (fun c22 => ?_)
                              · have E := (if_pos c22).symm.trans E
                                obtain ⟨w16, Ew16, E⟩ := bd_some E
                                have hsw16 : ShM w16.2 := ShM_core ((kpX12_is _ _) _ Ew16) hsw15
                                refine ea_aload_n (pc := 196) dX12_word_196 rfl 0 rfl ?_
                                refine ea_ldcS (pc := 197) 15 (by decide) rfl rfl dX12_word_197 ?_
                                refine ea_callV (pc := 200) (d' := d - 1) (As := [vO (1 + 15)]) (st := []) dX12_word_200 kX12_is (sX12_is (d := d - 1) (by omega) hsw15 Ew16) (by omega) rfl (Nat.le_of_ble_eq_true rfl) ew_1895 ew_1897 ew_73 (ci := 12) rfl (by decide) (cShM_326 hsw15).1 (cShM_326 hsw15).2.1 ?_
                                refine ea_if_eq (pc := 203) (tgt := 210) dX12_word_203 rfl (fun c21 => ?_) (fun c21 => ?_)
                                · have E := (if_pos c21).symm.trans E
                                  obtain ⟨w17, Ew17, E⟩ := bd_some E
                                  have hsw17 : ShM w17.2 := ShM_core ((kpX12_is _ _) _ Ew17) hsw16
                                  refine ea_aload_n (pc := 210) dX12_word_210 rfl 0 rfl ?_
                                  refine ea_ldcS (pc := 211) 16 (by decide) rfl rfl dX12_word_211 ?_
                                  refine ea_callV (pc := 214) (d' := d - 1) (As := [vO (1 + 16)]) (st := []) dX12_word_214 kX12_is (sX12_is (d := d - 1) (by omega) hsw16 Ew17) (by omega) rfl (Nat.le_of_ble_eq_true rfl) ew_1895 ew_1897 ew_73 (ci := 12) rfl (by decide) (cShM_326 hsw16).1 (cShM_326 hsw16).2.1 ?_
                                  refine ea_if_eq (pc := 217) (tgt := 224) dX12_word_217 rfl (fun c20 => ?_) (fun c20 => ?_)
                                  · have E := (if_pos c20).symm.trans E
                                    obtain ⟨w18, Ew18, E⟩ := bd_some E
                                    have hsw18 : ShM w18.2 := ShM_core ((kpX12_is _ _) _ Ew18) hsw17
                                    refine ea_aload_n (pc := 224) dX12_word_224 rfl 0 rfl ?_
                                    refine ea_ldcS (pc := 225) 17 (by decide) rfl rfl dX12_word_225 ?_
                                    refine ea_callV (pc := 228) (d' := d - 1) (As := [vO (1 + 17)]) (st := []) dX12_word_228 kX12_is (sX12_is (d := d - 1) (by omega) hsw17 Ew18) (by omega) rfl (Nat.le_of_ble_eq_true rfl) ew_1895 ew_1897 ew_73 (ci := 12) rfl (by decide) (cShM_326 hsw17).1 (cShM_326 hsw17).2.1 ?_
                                    refine ea_if_eq (pc := 231) (tgt := 240) dX12_word_231 rfl (fun c19 => ?_) (fun c19 => ?_)
                                    · have E := (if_pos c19).symm.trans E
                                      refine ea_iconst (pc := 240) dX12_word_240 (v := 1) rfl ?_
                                      exact ea_iretO (pc := 241) dX12_word_241 rfl rfl E
                                    · have E := (if_neg c19).symm.trans E
                                      refine ea_sipush (pc := 234) dX12_word_234 (v := 207) rfl ?_
                                      refine ea_goto (pc := 237) (tgt := 241) dX12_word_237 rfl ?_
                                      exact ea_iretO (pc := 241) dX12_word_241 rfl rfl E
                                  · have E := (if_neg c20).symm.trans E
                                    refine ea_sipush (pc := 220) dX12_word_220 (v := 206) rfl ?_
                                    exact ea_iretO (pc := 223) dX12_word_223 rfl rfl E
                                · have E := (if_neg c21).symm.trans E
                                  refine ea_sipush (pc := 206) dX12_word_206 (v := 205) rfl ?_
                                  exact ea_iretO (pc := 209) dX12_word_209 rfl rfl E
                              · have E := (if_neg c22).symm.trans E
                                refine ea_sipush (pc := 192) dX12_word_192 (v := 204) rfl ?_
                                exact ea_iretO (pc := 195) dX12_word_195 rfl rfl E
                            · have E := (if_neg c23).symm.trans E
                              refine ea_sipush (pc := 178) dX12_word_178 (v := 203) rfl ?_
                              exact ea_iretO (pc := 181) dX12_word_181 rfl rfl E
                          · have E := (if_neg c24).symm.trans E
                            refine ea_sipush (pc := 164) dX12_word_164 (v := 202) rfl ?_
                            exact ea_iretO (pc := 167) dX12_word_167 rfl rfl E
                        · have E := (if_neg c25).symm.trans E
                          refine ea_sipush (pc := 150) dX12_word_150 (v := 201) rfl ?_
                          exact ea_iretO (pc := 153) dX12_word_153 rfl rfl E
                      · have E := (if_neg c26).symm.trans E
                        refine ea_bipush (pc := 137) dX12_word_137 (v := 13) rfl ?_
                        exact ea_iretO (pc := 139) dX12_word_139 rfl rfl E
                    · have E := (if_neg c27).symm.trans E
                      refine ea_bipush (pc := 124) dX12_word_124 (v := 12) rfl ?_
                      exact ea_iretO (pc := 126) dX12_word_126 rfl rfl E
                  · have E := (if_neg c28).symm.trans E
                    refine ea_bipush (pc := 111) dX12_word_111 (v := 11) rfl ?_
                    exact ea_iretO (pc := 113) dX12_word_113 rfl rfl E
                · have E := (if_neg c29).symm.trans E
                  refine ea_bipush (pc := 98) dX12_word_98 (v := 10) rfl ?_
                  exact ea_iretO (pc := 100) dX12_word_100 rfl rfl E
              · have E := (if_neg c30).symm.trans E
                refine ea_bipush (pc := 85) dX12_word_85 (v := 9) rfl ?_
                exact ea_iretO (pc := 87) dX12_word_87 rfl rfl E
            · have E := (if_neg c31).symm.trans E
              refine ea_bipush (pc := 72) dX12_word_72 (v := 8) rfl ?_
              exact ea_iretO (pc := 74) dX12_word_74 rfl rfl E
          · have E := (if_neg c32).symm.trans E
            refine ea_bipush (pc := 59) dX12_word_59 (v := 7) rfl ?_
            exact ea_iretO (pc := 61) dX12_word_61 rfl rfl E
        · have E := (if_neg c33).symm.trans E
          refine ea_bipush (pc := 46) dX12_word_46 (v := 6) rfl ?_
          exact ea_iretO (pc := 48) dX12_word_48 rfl rfl E
      · have E := (if_neg c34).symm.trans E
        refine ea_iconst (pc := 34) dX12_word_34 (v := 5) rfl ?_
        exact ea_iretO (pc := 35) dX12_word_35 rfl rfl E
    · have E := (if_neg c35).symm.trans E
      refine ea_iconst (pc := 22) dX12_word_22 (v := 4) rfl ?_
      exact ea_iretO (pc := 23) dX12_word_23 rfl rfl E
  · have E := (if_neg c36).symm.trans E
    refine ea_iconst (pc := 10) dX12_word_10 (v := 3) rfl ?_
    exact ea_iretO (pc := 11) dX12_word_11 rfl rfl E
theorem kBX12_word_0  {h : ea_H} : kp (ea_core h) (BX12_word_0 h) :=
  (kp_bind (kp_tw (kpX12_is _ _) rfl) fun w1 hcw1 => (kp_ite (kp_bind (kp_tw (kpX12_is _ _) hcw1) fun w2 hcw2 => (kp_ite (kp_bind (kp_tw (kpX12_is _ _) hcw2) fun w3 hcw3 => (kp_ite (kp_bind (kp_tw (kpX12_is _ _) hcw3) fun w4 hcw4 => (kp_ite (kp_bind (kp_tw (kpX12_is _ _) hcw4) fun w5 hcw5 => (kp_ite (kp_bind (kp_tw (kpX12_is _ _) hcw5) fun w6 hcw6 => (kp_ite (kp_bind (kp_tw (kpX12_is _ _) hcw6) fun w7 hcw7 => (kp_ite (kp_bind (kp_tw (kpX12_is _ _) hcw7) fun w8 hcw8 => (kp_ite (kp_bind (kp_tw (kpX12_is _ _) hcw8) fun w9 hcw9 => (kp_ite (kp_bind (kp_tw (kpX12_is _ _) hcw9) fun w10 hcw10 => (kp_ite (kp_bind (kp_tw (kpX12_is _ _) hcw10) fun w11 hcw11 => (kp_ite (kp_bind (kp_tw (kpX12_is _ _) hcw11) fun w12 hcw12 => (kp_ite (kp_bind (kp_tw (kpX12_is _ _) hcw12) fun w13 hcw13 => (kp_ite (kp_bind (kp_tw (kpX12_is _ _) hcw13) fun w14 hcw14 => (kp_ite (kp_bind (kp_tw (kpX12_is _ _) hcw14) fun w15 hcw15 => (kp_ite (kp_bind (kp_tw (kpX12_is _ _) hcw15) fun w16 hcw16 => (kp_ite (kp_bind (kp_tw (kpX12_is _ _) hcw16) fun w17 hcw17 => (kp_ite (kp_bind (kp_tw (kpX12_is _ _) hcw17) fun w18 hcw18 => (kp_ite (kp_ret hcw18) (kp_ret hcw18))) (kp_ret hcw17))) (kp_ret hcw16))) (kp_ret hcw15))) (kp_ret hcw14))) (kp_ret hcw13))) (kp_ret hcw12))) (kp_ret hcw11))) (kp_ret hcw10))) (kp_ret hcw9))) (kp_ret hcw8))) (kp_ret hcw7))) (kp_ret hcw6))) (kp_ret hcw5))) (kp_ret hcw4))) (kp_ret hcw3))) (kp_ret hcw2))) (kp_ret hcw1)))
noncomputable def qX12_word (h : ea_H) : Option (Int32 × ea_H) := BX12_word_0 h
theorem sX12_word {d : Nat} {h : ea_H} {r : Int32} {h' : ea_H} (hd : 7 ≤ d) (hs : ShM h) (K : qX12_word h = some (r, h')) : ea_Met mX12_word d [vR (some 326)] h (some (vI r)) h' := by
  unfold qX12_word at K
  have W := tBX12_word_0 hd (h0 := h) K hs
  exact ea_enter rfl (Nat.le_of_ble_eq_true rfl) W
theorem kpX12_word (h : ea_H) : kp (ea_core h) (qX12_word h) := kBX12_word_0
noncomputable def BX12_next0_0 (J0 : ea_H → Option (Unit × ea_H)) (J76 : ea_H → Option (Unit × ea_H)) (J126 : ea_H → Option (Unit × ea_H)) (J289 : Int32 → Int32 → ea_H → Option (Unit × ea_H)) (h : ea_H) : Option (Unit × ea_H) :=
  (Option.bind (qX12_see ((ea_i h 326 53) : Int32) h) fun w1 => (if w1.1 = (32 : Int32) then (ea_let (ea_wi w1.2 326 53 ((ea_i w1.2 326 53) + (1 : Int32))) fun H2 => (J0 H2)) else (Option.bind (qX12_see ((ea_i w1.2 326 53) : Int32) w1.2) fun w3 => (if w3.1 = (10 : Int32) then (ea_let (ea_wi w3.2 326 53 ((ea_i w3.2 326 53) + (1 : Int32))) fun H24 => (J0 H24)) else (ea_let (ea_wi w3.2 326 55 (ea_i w3.2 326 53)) fun H4 => (Option.bind (qX12_see ((ea_i H4 326 53) : Int32) H4) fun w5 => (if w5.1 = ((-1) : Int32) then (ea_let (ea_wi w5.2 326 54 0) fun H22 => (some ((), H22))) else (Option.bind (qX12_isLetter (w5.1 : Int32) w5.2) fun w6 => (if w6.1 = (0 : Int32) then (Option.bind (qX12_isDigit (w5.1 : Int32) w6.2) fun w7 => (if w7.1 = (0 : Int32) then (ea_let (ea_wi w7.2 326 53 ((ea_i w7.2 326 53) + (1 : Int32))) fun H8 => (if w5.1 = (59 : Int32) then (J289 (w5.1 : Int32) (1 : Int32) H8) else (if w5.1 = (43 : Int32) then (J289 (w5.1 : Int32) (1 : Int32) H8) else (if w5.1 = (45 : Int32) then (J289 (w5.1 : Int32) (1 : Int32) H8) else (if w5.1 = (42 : Int32) then (J289 (w5.1 : Int32) (1 : Int32) H8) else (if w5.1 = (47 : Int32) then (J289 (w5.1 : Int32) (1 : Int32) H8) else (if w5.1 = (40 : Int32) then (J289 (w5.1 : Int32) (1 : Int32) H8) else (if w5.1 = (41 : Int32) then (J289 (w5.1 : Int32) (1 : Int32) H8) else (if w5.1 = (60 : Int32) then (J289 (w5.1 : Int32) (1 : Int32) H8) else (if w5.1 = (61 : Int32) then (J289 (w5.1 : Int32) (1 : Int32) H8) else (if w5.1 = (62 : Int32) then (J289 (w5.1 : Int32) (1 : Int32) H8) else (J289 (w5.1 : Int32) (0 : Int32) H8)))))))))))) else (ea_let (ea_wi w7.2 326 56 0) fun H19 => (J126 H19)))) else (J76 w6.2))))))))))
set_option maxRecDepth 100000 in
set_option maxHeartbeats 0 in
theorem tBX12_next0_0 {d : Nat} {h0 : ea_H} (hd : 8 ≤ d) {J0 : ea_H → Option (Unit × ea_H)} {J76 : ea_H → Option (Unit × ea_H)} {J126 : ea_H → Option (Unit × ea_H)} {J289 : Int32 → Int32 → ea_H → Option (Unit × ea_H)}  (kJ0 : ∀ (h : ea_H) (r : Unit) (h' : ea_H), J0 h = some (r, h') → ShM h → ea_W mX12_next0 d h0 none h' 0 [(0, vR (some 326))] [] h) (kJ76 : ∀ (h : ea_H) (r : Unit) (h' : ea_H), J76 h = some (r, h') → ShM h → ea_W mX12_next0 d h0 none h' 76 [(0, vR (some 326))] [] h) (kJ126 : ∀ (h : ea_H) (r : Unit) (h' : ea_H), J126 h = some (r, h') → ShM h → ea_W mX12_next0 d h0 none h' 126 [(0, vR (some 326))] [] h) (kJ289 : ∀ (x1 : Int32) (sx0 : Int32) (h : ea_H) (r : Unit) (h' : ea_H), J289 x1 sx0 h = some (r, h') → ShM h → ea_W mX12_next0 d h0 none h' 289 [(0, vR (some 326)), (1, vI x1)] [vI sx0] h) {h : ea_H} {r : Unit} {h' : ea_H} (E : BX12_next0_0 J0 J76 J126 J289 h = some (r, h')) (hs : ShM h) : ea_W mX12_next0 d h0 none h' 0 [(0, vR (some 326))] [] h := by
  unfold BX12_next0_0 at E
  obtain ⟨w1, Ew1, E⟩ := bd_some E
  have hsw1 : ShM w1.2 := ShM_core ((kpX12_see _ _) _ Ew1) hs
  refine ea_aload_n (pc := 0) dX12_next0_0 rfl 0 rfl ?_
  refine ea_aload_n (pc := 1) dX12_next0_1 rfl 0 rfl ?_
  refine ea_getI (pc := 2) dX12_next0_2 ec_12 (k := 53) (Nat.le_of_ble_eq_true rfl) rfl (Or.inl ew_1455) (cShM_326 hs).1 (cShM_326 hs).2.1 ?_
  refine ea_callV (pc := 5) (d' := d - 1) (As := [vI (ea_i h 326 53)]) (st := []) dX12_next0_5 kX12_see (sX12_see (d := d - 1) (by omega) hs Ew1) (by omega) rfl (Nat.le_of_ble_eq_true rfl) ew_1883 ew_1885 ew_71 (ci := 12) rfl (by decide) (cShM_326 hs).1 (cShM_326 hs).2.1 ?_
  refine ea_bipush (pc := 8) dX12_next0_8 (v := 32) rfl ?_
  refine ea_icmp_eq (pc := 10) (tgt := 26) dX12_next0_10 rfl (fun c26 => ?_) (fun c26 => ?_)
  · have E := (if_pos c26).symm.trans E
    obtain ⟨H2, eH2, E⟩ := let_some E
    refine ea_aload_n (pc := 26) dX12_next0_26 rfl 0 rfl ?_
    refine ea_dup (pc := 27) dX12_next0_27 rfl ?_
    refine ea_getI (pc := 28) dX12_next0_28 ec_12 (k := 53) (Nat.le_of_ble_eq_true rfl) rfl (Or.inl ew_1455) (cShM_326 hsw1).1 (cShM_326 hsw1).2.1 ?_
    refine ea_iconst (pc := 31) dX12_next0_31 (v := 1) rfl ?_
    refine ea_iadd (pc := 32) dX12_next0_32 ?_
    refine ea_putI (pc := 33) dX12_next0_33 ec_12 (k := 53) (Nat.le_of_ble_eq_true rfl) rfl (Or.inl ⟨rfl, Or.inl ew_1455⟩) rfl rfl (cShM_326 hsw1).1 (cShM_326 hsw1).2.1 ?_
    refine ea_nm eH2 ?_
    have hsH2 : ShM H2 := by rw [eH2]; exact hsw1
    refine ea_goto (pc := 36) (tgt := 0) dX12_next0_36 rfl ?_
    exact (kJ0 H2 _ _ E hsH2)
  · have E := (if_neg c26).symm.trans E
    obtain ⟨w3, Ew3, E⟩ := bd_some E
    have hsw3 : ShM w3.2 := ShM_core ((kpX12_see _ _) _ Ew3) hsw1
    refine ea_aload_n (pc := 13) dX12_next0_13 rfl 0 rfl ?_
    refine ea_aload_n (pc := 14) dX12_next0_14 rfl 0 rfl ?_
    refine ea_getI (pc := 15) dX12_next0_15 ec_12 (k := 53) (Nat.le_of_ble_eq_true rfl) rfl (Or.inl ew_1455) (cShM_326 hsw1).1 (cShM_326 hsw1).2.1 ?_
    refine ea_callV (pc := 18) (d' := d - 1) (As := [vI (ea_i w1.2 326 53)]) (st := []) dX12_next0_18 kX12_see (sX12_see (d := d - 1) (by omega) hsw1 Ew3) (by omega) rfl (Nat.le_of_ble_eq_true rfl) ew_1883 ew_1885 ew_71 (ci := 12) rfl (by decide) (cShM_326 hsw1).1 (cShM_326 hsw1).2.1 ?_
    refine ea_bipush (pc := 21) dX12_next0_21 (v := 10) rfl ?_
    refine ea_icmp_ne (pc := 23) (tgt := 39) dX12_next0_23 rfl (fun c25 => ?_) (fun c25 => ?_)
    · have E := (if_neg c25).symm.trans E
      obtain ⟨H4, eH4, E⟩ := let_some E
      refine ea_aload_n (pc := 39) dX12_next0_39 rfl 0 rfl ?_
      refine ea_aload_n (pc := 40) dX12_next0_40 rfl 0 rfl ?_
      refine ea_getI (pc := 41) dX12_next0_41 ec_12 (k := 53) (Nat.le_of_ble_eq_true rfl) rfl (Or.inl ew_1455) (cShM_326 hsw3).1 (cShM_326 hsw3).2.1 ?_
      refine ea_putI (pc := 44) dX12_next0_44 ec_12 (k := 55) (Nat.le_of_ble_eq_true rfl) rfl (Or.inl ⟨rfl, Or.inl ew_1457⟩) rfl rfl (cShM_326 hsw3).1 (cShM_326 hsw3).2.1 ?_
      refine ea_nm eH4 ?_
      have hsH4 : ShM H4 := by rw [eH4]; exact hsw3
      obtain ⟨w5, Ew5, E⟩ := bd_some E
      have hsw5 : ShM w5.2 := ShM_core ((kpX12_see _ _) _ Ew5) hsH4
      refine ea_aload_n (pc := 47) dX12_next0_47 rfl 0 rfl ?_
      refine ea_aload_n (pc := 48) dX12_next0_48 rfl 0 rfl ?_
      refine ea_getI (pc := 49) dX12_next0_49 ec_12 (k := 53) (Nat.le_of_ble_eq_true rfl) rfl (Or.inl ew_1455) (cShM_326 hsH4).1 (cShM_326 hsH4).2.1 ?_
      refine ea_callV (pc := 52) (d' := d - 1) (As := [vI (ea_i H4 326 53)]) (st := []) dX12_next0_52 kX12_see (sX12_see (d := d - 1) (by omega) hsH4 Ew5) (by omega) rfl (Nat.le_of_ble_eq_true rfl) ew_1883 ew_1885 ew_71 (ci := 12) rfl (by decide) (cShM_326 hsH4).1 (cShM_326 hsH4).2.1 ?_
      refine ea_istore_n (pc := 55) (lv' := [(0, vR (some 326)), (1, vI w5.1)]) dX12_next0_55 rfl (Nat.le_of_ble_eq_true rfl) [1, 0] rfl ?_
      refine ea_iload_n (pc := 56) dX12_next0_56 rfl 1 rfl ?_
      refine ea_iconst (pc := 57) dX12_next0_57 (v := (-1)) rfl ?_
      refine ea_icmp_ne (pc := 58) (tgt := 69) dX12_next0_58 rfl (fun c23 => ?_) (fun c23 => ?_)
      · have E := (if_neg c23).symm.trans E
        obtain ⟨w6, Ew6, E⟩ := bd_some E
        have hsw6 : ShM w6.2 := ShM_core ((kpX12_isLetter _ _) _ Ew6) hsw5
        refine ea_iload_n (pc := 69) dX12_next0_69 rfl 1 rfl ?_
        refine ea_callS (pc := 70) (d' := d - 1) (As := [vI w5.1]) (st := []) dX12_next0_70 kX12_isLetter (sX12_isLetter (d := d - 1) (by omega) Ew6) (by omega) rfl (Nat.le_of_ble_eq_true rfl) ew_1887 ew_1888 ?_
        refine ea_if_eq (pc := 73) (tgt := 114) dX12_next0_73 rfl (fun c21 => ?_) (fun c21 => ?_)
        · have E := (if_pos c21).symm.trans E
          obtain ⟨w7, Ew7, E⟩ := bd_some E
          have hsw7 : ShM w7.2 := ShM_core ((kpX12_isDigit _ _) _ Ew7) hsw6
          refine ea_iload_n (pc := 114) dX12_next0_114 rfl 1 rfl ?_
          refine ea_callS (pc := 115) (d' := d - 1) (As := [vI w5.1]) (st := []) dX12_next0_115 kX12_isDigit (sX12_isDigit (d := d - 1) (by omega) Ew7) (by omega) rfl (Nat.le_of_ble_eq_true rfl) ew_1964 ew_1965 ?_
          refine ea_if_eq (pc := 118) (tgt := 214) dX12_next0_118 rfl (fun c20 => ?_) (fun c20 => ?_)
          · have E := (if_pos c20).symm.trans E
            obtain ⟨H8, eH8, E⟩ := let_some E
            refine ea_aload_n (pc := 214) dX12_next0_214 rfl 0 rfl ?_
            refine ea_dup (pc := 215) dX12_next0_215 rfl ?_
            refine ea_getI (pc := 216) dX12_next0_216 ec_12 (k := 53) (Nat.le_of_ble_eq_true rfl) rfl (Or.inl ew_1455) (cShM_326 hsw7).1 (cShM_326 hsw7).2.1 ?_
            refine ea_iconst (pc := 219) dX12_next0_219 (v := 1) rfl ?_
            refine ea_iadd (pc := 220) dX12_next0_220 ?_
            refine ea_putI (pc := 221) dX12_next0_221 ec_12 (k := 53) (Nat.le_of_ble_eq_true rfl) rfl (Or.inl ⟨rfl, Or.inl ew_1455⟩) rfl rfl (cShM_326 hsw7).1 (cShM_326 hsw7).2.1 ?_
            refine ea_nm eH8 ?_
            have hsH8 : ShM H8 := by rw [eH8]; exact hsw7
            refine ea_iload_n (pc := 224) dX12_next0_224 rfl 1 rfl ?_
            refine ea_bipush (pc := 225) dX12_next0_225 (v := 59) rfl ?_
            refine ea_icmp_eq (pc := 227) (tgt := 284) dX12_next0_227 rfl (fun c18 => ?_) (fun c18 => ?_)
            · have E := (if_pos c18).symm.trans E
              refine ea_iconst (pc := 284) dX12_next0_284 (v := 1) rfl ?_
              refine ea_goto (pc := 285) (tgt := 289) dX12_next0_285 rfl ?_
              exact (kJ289 (w5.1 : Int32) (1 : Int32) H8 _ _ E hsH8)
            · have E := (if_neg c18).symm.trans E
              refine ea_iload_n (pc := 230) dX12_next0_230 rfl 1 rfl ?_
              refine ea_bipush (pc := 231) dX12_next0_231 (v := 43) rfl ?_
              refine ea_icmp_eq (pc := 233) (tgt := 284) dX12_next0_233 rfl (fun c17 => ?_) (fun c17 => ?_)
              · have E := (if_pos c17).symm.trans E
                refine ea_iconst (pc := 284) dX12_next0_284 (v := 1) rfl ?_
                refine ea_goto (pc := 285) (tgt := 289) dX12_next0_285 rfl ?_
                exact (kJ289 (w5.1 : Int32) (1 : Int32) H8 _ _ E hsH8)
              · have E := (if_neg c17).symm.trans E
                refine ea_iload_n (pc := 236) dX12_next0_236 rfl 1 rfl ?_
                refine ea_bipush (pc := 237) dX12_next0_237 (v := 45) rfl ?_
                refine ea_icmp_eq (pc := 239) (tgt := 284) dX12_next0_239 rfl (fun c16 => ?_) (fun c16 => ?_)
                · have E := (if_pos c16).symm.trans E
                  refine ea_iconst (pc := 284) dX12_next0_284 (v := 1) rfl ?_
                  refine ea_goto (pc := 285) (tgt := 289) dX12_next0_285 rfl ?_
                  exact (kJ289 (w5.1 : Int32) (1 : Int32) H8 _ _ E hsH8)
                · have E := (if_neg c16).symm.trans E
                  refine ea_iload_n (pc := 242) dX12_next0_242 rfl 1 rfl ?_
                  refine ea_bipush (pc := 243) dX12_next0_243 (v := 42) rfl ?_
                  refine ea_icmp_eq (pc := 245) (tgt := 284) dX12_next0_245 rfl (fun c15 => ?_) (fun c15 => ?_)
                  · have E := (if_pos c15).symm.trans E
                    refine ea_iconst (pc := 284) dX12_next0_284 (v := 1) rfl ?_
                    refine ea_goto (pc := 285) (tgt := 289) dX12_next0_285 rfl ?_
                    exact (kJ289 (w5.1 : Int32) (1 : Int32) H8 _ _ E hsH8)
                  · have E := (if_neg c15).symm.trans E
                    refine ea_iload_n (pc := 248) dX12_next0_248 rfl 1 rfl ?_
                    refine ea_bipush (pc := 249) dX12_next0_249 (v := 47) rfl ?_
                    refine ea_icmp_eq (pc := 251) (tgt := 284) dX12_next0_251 rfl (fun c14 => ?_) (fun c14 => ?_)
                    · have E := (if_pos c14).symm.trans E
                      refine ea_iconst (pc := 284) dX12_next0_284 (v := 1) rfl ?_
                      refine ea_goto (pc := 285) (tgt := 289) dX12_next0_285 rfl ?_
                      exact (kJ289 (w5.1 : Int32) (1 : Int32) H8 _ _ E hsH8)
                    · have E := (if_neg c14).symm.trans E
                      refine ea_iload_n (pc := 254) dX12_next0_254 rfl 1 rfl ?_
                      refine ea_bipush (pc := 255) dX12_next0_255 (v := 40) rfl ?_
                      refine ea_icmp_eq (pc := 257) (tgt := 284) dX12_next0_257 rfl (fun c13 => ?_) (fun c13 => ?_)
                      · have E := (if_pos c13).symm.trans E
                        refine ea_iconst (pc := 284) dX12_next0_284 (v := 1) rfl ?_
                        refine ea_goto (pc := 285) (tgt := 289) dX12_next0_285 rfl ?_
                        exact (kJ289 (w5.1 : Int32) (1 : Int32) H8 _ _ E hsH8)
                      · have E := (if_neg c13).symm.trans E
                        refine ea_iload_n (pc := 260) dX12_next0_260 rfl 1 rfl ?_
                        refine ea_bipush (pc := 261) dX12_next0_261 (v := 41) rfl ?_
                        refine ea_icmp_eq (pc := 263) (tgt := 284) dX12_next0_263 rfl (fun c12 => ?_) (fun c12 => ?_)
                        · have E := (if_pos c12).symm.trans E
                          refine ea_iconst (pc := 284) dX12_next0_284 (v := 1) rfl ?_
                          refine ea_goto (pc := 285) (tgt := 289) dX12_next0_285 rfl ?_
                          exact (kJ289 (w5.1 : Int32) (1 : Int32) H8 _ _ E hsH8)
                        · have E := (if_neg c12).symm.trans E
                          refine ea_iload_n (pc := 266) dX12_next0_266 rfl 1 rfl ?_
                          refine ea_bipush (pc := 267) dX12_next0_267 (v := 60) rfl ?_
                          refine ea_icmp_eq (pc := 269) (tgt := 284) dX12_next0_269 rfl (fun c11 => ?_) (fun c11 => ?_)
                          · have E := (if_pos c11).symm.trans E
                            refine ea_iconst (pc := 284) dX12_next0_284 (v := 1) rfl ?_
                            refine ea_goto (pc := 285) (tgt := 289) dX12_next0_285 rfl ?_
                            exact (kJ289 (w5.1 : Int32) (1 : Int32) H8 _ _ E hsH8)
                          · have E := (if_neg c11).symm.trans E
                            refine ea_iload_n (pc := 272) dX12_next0_272 rfl 1 rfl ?_
                            refine ea_bipush (pc := 273) dX12_next0_273 (v := 61) rfl ?_
                            refine ea_icmp_eq (pc := 275) (tgt := 284) dX12_next0_275 rfl (fun c10 => ?_) (fun c10 => ?_)
                            · have E := (if_pos c10).symm.trans E
                              refine ea_iconst (pc := 284) dX12_next0_284 (v := 1) rfl ?_
                              refine ea_goto (pc := 285) (tgt := 289) dX12_next0_285 rfl ?_
                              exact (kJ289 (w5.1 : Int32) (1 : Int32) H8 _ _ E hsH8)
                            · have E := (if_neg c10).symm.trans E
                              refine ea_iload_n (pc := 278) dX12_next0_278 rfl 1 rfl ?_
                              refine ea_bipush (pc := 279) dX12_next0_279 (v := 62) rfl ?_
                              refine ea_icmp_ne (pc := 281) (tgt := 288) dX12_next0_281 rfl (fun c9 => ?_) (fun c9 => ?_)
                              · have E := (if_neg c9).symm.trans E
                                refine ea_iconst (pc := 288) dX12_next0_288 (v := 0) rfl ?_
                                exact (kJ289 (w5.1 : Int32) (0 : Int32) H8 _ _ E hsH8)
                              · have E := (if_pos c9).symm.trans E
                                refine ea_iconst (pc := 284) dX12_next0_284 (v := 1) rfl ?_
                                refine ea_goto (pc := 285) (tgt := 289) dX12_next0_285 rfl ?_
                                exact (kJ289 (w5.1 : Int32) (1 : Int32) H8 _ _ E hsH8)
          · have E := (if_neg c20).symm.trans E
            obtain ⟨H19, eH19, E⟩ := let_some E
            refine ea_aload_n (pc := 121) dX12_next0_121 rfl 0 rfl ?_
            refine ea_iconst (pc := 122) dX12_next0_122 (v := 0) rfl ?_
            refine ea_putI (pc := 123) dX12_next0_123 ec_12 (k := 56) (Nat.le_of_ble_eq_true rfl) rfl (Or.inl ⟨rfl, Or.inl ew_1458⟩) rfl rfl (cShM_326 hsw7).1 (cShM_326 hsw7).2.1 ?_
            refine ea_nm eH19 ?_
            have hsH19 : ShM H19 := by rw [eH19]; exact hsw7
            exact ea_fewer [0] rfl (kJ126 H19 _ _ E hsH19)
        · have E := (if_neg c21).symm.trans E
          exact ea_fewer [0] rfl (kJ76 w6.2 _ _ E hsw6)
      · have E := (if_pos c23).symm.trans E
        obtain ⟨H22, eH22, E⟩ := let_some E
        refine ea_aload_n (pc := 61) dX12_next0_61 rfl 0 rfl ?_
        refine ea_iconst (pc := 62) dX12_next0_62 (v := 0) rfl ?_
        refine ea_putI (pc := 63) dX12_next0_63 ec_12 (k := 54) (Nat.le_of_ble_eq_true rfl) rfl (Or.inl ⟨rfl, Or.inl ew_1456⟩) rfl rfl (cShM_326 hsw5).1 (cShM_326 hsw5).2.1 ?_
        refine ea_nm eH22 ?_
        have hsH22 : ShM H22 := by rw [eH22]; exact hsw5
        refine ea_goto (pc := 66) (tgt := 303) dX12_next0_66 rfl ?_
        exact ea_vretO (pc := 303) dX12_next0_303 rfl E
    · have E := (if_pos c25).symm.trans E
      obtain ⟨H24, eH24, E⟩ := let_some E
      refine ea_aload_n (pc := 26) dX12_next0_26 rfl 0 rfl ?_
      refine ea_dup (pc := 27) dX12_next0_27 rfl ?_
      refine ea_getI (pc := 28) dX12_next0_28 ec_12 (k := 53) (Nat.le_of_ble_eq_true rfl) rfl (Or.inl ew_1455) (cShM_326 hsw3).1 (cShM_326 hsw3).2.1 ?_
      refine ea_iconst (pc := 31) dX12_next0_31 (v := 1) rfl ?_
      refine ea_iadd (pc := 32) dX12_next0_32 ?_
      refine ea_putI (pc := 33) dX12_next0_33 ec_12 (k := 53) (Nat.le_of_ble_eq_true rfl) rfl (Or.inl ⟨rfl, Or.inl ew_1455⟩) rfl rfl (cShM_326 hsw3).1 (cShM_326 hsw3).2.1 ?_
      refine ea_nm eH24 ?_
      have hsH24 : ShM H24 := by rw [eH24]; exact hsw3
      refine ea_goto (pc := 36) (tgt := 0) dX12_next0_36 rfl ?_
      exact (kJ0 H24 _ _ E hsH24)
set_option maxRecDepth 100000 in
set_option maxHeartbeats 0 in
theorem kBX12_next0_0 {J0 : ea_H → Option (Unit × ea_H)} {J76 : ea_H → Option (Unit × ea_H)} {J126 : ea_H → Option (Unit × ea_H)} {J289 : Int32 → Int32 → ea_H → Option (Unit × ea_H)}  (cJ0 : ∀ (h : ea_H), kp (ea_core h) (J0 h)) (cJ76 : ∀ (h : ea_H), kp (ea_core h) (J76 h)) (cJ126 : ∀ (h : ea_H), kp (ea_core h) (J126 h)) (cJ289 : ∀ (x1 : Int32) (sx0 : Int32) (h : ea_H), kp (ea_core h) (J289 x1 sx0 h)) {h : ea_H} : kp (ea_core h) (BX12_next0_0 J0 J76 J126 J289 h) :=
  (kp_bind (kp_tw (kpX12_see _ _) rfl) fun w1 hcw1 => (kp_ite (kp_let (kp_tw (cJ0 _) hcw1)) (kp_bind (kp_tw (kpX12_see _ _) hcw1) fun w3 hcw3 => (kp_ite (kp_let (kp_tw (cJ0 _) hcw3)) (kp_let (kp_bind (kp_tw (kpX12_see _ _) hcw3) fun w5 hcw5 => (kp_ite (kp_let (kp_ret hcw5)) (kp_bind (kp_tw (kpX12_isLetter _ _) hcw5) fun w6 hcw6 => (kp_ite (kp_bind (kp_tw (kpX12_isDigit _ _) hcw6) fun w7 hcw7 => (kp_ite (kp_let (kp_ite (kp_tw (cJ289 _ _ _) hcw7) (kp_ite (kp_tw (cJ289 _ _ _) hcw7) (kp_ite (kp_tw (cJ289 _ _ _) hcw7) (kp_ite (kp_tw (cJ289 _ _ _) hcw7) (kp_ite (kp_tw (cJ289 _ _ _) hcw7) (kp_ite (kp_tw (cJ289 _ _ _) hcw7) (kp_ite (kp_tw (cJ289 _ _ _) hcw7) (kp_ite (kp_tw (cJ289 _ _ _) hcw7) (kp_ite (kp_tw (cJ289 _ _ _) hcw7) (kp_ite (kp_tw (cJ289 _ _ _) hcw7) (kp_tw (cJ289 _ _ _) hcw7)))))))))))) (kp_let (kp_tw (cJ126 _) hcw7)))) (kp_tw (cJ76 _) hcw6))))))))))
set_option maxRecDepth 100000 in
set_option maxHeartbeats 0 in
theorem lBX12_next0_0 {J0 : ea_H → Option (Unit × ea_H)} {J76 : ea_H → Option (Unit × ea_H)} {J126 : ea_H → Option (Unit × ea_H)} {J289 : Int32 → Int32 → ea_H → Option (Unit × ea_H)} {J0_ : ea_H → Option (Unit × ea_H)} {J76_ : ea_H → Option (Unit × ea_H)} {J126_ : ea_H → Option (Unit × ea_H)} {J289_ : Int32 → Int32 → ea_H → Option (Unit × ea_H)}  (mJ0 : ∀ (h : ea_H), fle (J0 h) (J0_ h)) (mJ76 : ∀ (h : ea_H), fle (J76 h) (J76_ h)) (mJ126 : ∀ (h : ea_H), fle (J126 h) (J126_ h)) (mJ289 : ∀ (x1 : Int32) (sx0 : Int32) (h : ea_H), fle (J289 x1 sx0 h) (J289_ x1 sx0 h)) {h : ea_H} : fle (BX12_next0_0 J0 J76 J126 J289 h) (BX12_next0_0 J0_ J76_ J126_ J289_ h) :=
  (fle_bind (fle_rfl _) fun _ => (fle_ite (fle_let fun _ => (mJ0 _)) (fle_bind (fle_rfl _) fun _ => (fle_ite (fle_let fun _ => (mJ0 _)) (fle_let fun _ => (fle_bind (fle_rfl _) fun _ => (fle_ite (fle_rfl _) (fle_bind (fle_rfl _) fun _ => (fle_ite (fle_bind (fle_rfl _) fun _ => (fle_ite (fle_let fun _ => (fle_ite (mJ289 _ _ _) (fle_ite (mJ289 _ _ _) (fle_ite (mJ289 _ _ _) (fle_ite (mJ289 _ _ _) (fle_ite (mJ289 _ _ _) (fle_ite (mJ289 _ _ _) (fle_ite (mJ289 _ _ _) (fle_ite (mJ289 _ _ _) (fle_ite (mJ289 _ _ _) (fle_ite (mJ289 _ _ _) (mJ289 _ _ _)))))))))))) (fle_let fun _ => (mJ126 _)))) (mJ76 _))))))))))
set_option maxRecDepth 100000 in
set_option maxHeartbeats 0 in
theorem nBX12_next0_0 {J0 : ea_H → Option (Unit × ea_H)} {J76 : ea_H → Option (Unit × ea_H)} {J126 : ea_H → Option (Unit × ea_H)} {J289 : Int32 → Int32 → ea_H → Option (Unit × ea_H)} {J0_ : Nat → (ea_H → Option (Unit × ea_H))} {J76_ : Nat → (ea_H → Option (Unit × ea_H))} {J126_ : Nat → (ea_H → Option (Unit × ea_H))} {J289_ : Nat → (Int32 → Int32 → ea_H → Option (Unit × ea_H))}  (mJ0 : ∀ (h : ea_H), fct (J0 h) (fun f => J0_ f h)) (mJ76 : ∀ (h : ea_H), fct (J76 h) (fun f => J76_ f h)) (mJ126 : ∀ (h : ea_H), fct (J126 h) (fun f => J126_ f h)) (mJ289 : ∀ (x1 : Int32) (sx0 : Int32) (h : ea_H), fct (J289 x1 sx0 h) (fun f => J289_ f x1 sx0 h)) {h : ea_H} : fct (BX12_next0_0 J0 J76 J126 J289 h) (fun f => BX12_next0_0 (J0_ f) (J76_ f) (J126_ f) (J289_ f) h) :=
  (fct_bind (fct_rfl _) fun _ => (fct_ite (fct_let fun _ => (mJ0 _)) (fct_bind (fct_rfl _) fun _ => (fct_ite (fct_let fun _ => (mJ0 _)) (fct_let fun _ => (fct_bind (fct_rfl _) fun _ => (fct_ite (fct_rfl _) (fct_bind (fct_rfl _) fun _ => (fct_ite (fct_bind (fct_rfl _) fun _ => (fct_ite (fct_let fun _ => (fct_ite (mJ289 _ _ _) (fct_ite (mJ289 _ _ _) (fct_ite (mJ289 _ _ _) (fct_ite (mJ289 _ _ _) (fct_ite (mJ289 _ _ _) (fct_ite (mJ289 _ _ _) (fct_ite (mJ289 _ _ _) (fct_ite (mJ289 _ _ _) (fct_ite (mJ289 _ _ _) (fct_ite (mJ289 _ _ _) (mJ289 _ _ _)))))))))))) (fct_let fun _ => (mJ126 _)))) (mJ76 _))))))))))
noncomputable def BX12_next0_76 (J76 : ea_H → Option (Unit × ea_H)) (h : ea_H) : Option (Unit × ea_H) :=
  (Option.bind (qX12_see ((ea_i h 326 53) : Int32) h) fun w27 => (Option.bind (qX12_isLetter (w27.1 : Int32) w27.2) fun w28 => (if w28.1 = (0 : Int32) then (Option.bind (qX12_word  w28.2) fun w29 => (ea_let (ea_wi w29.2 326 54 w29.1) fun H30 => (some ((), H30)))) else (ea_let (ea_wi w28.2 326 53 ((ea_i w28.2 326 53) + (1 : Int32))) fun H31 => (J76 H31)))))
set_option maxRecDepth 100000 in
set_option maxHeartbeats 0 in
theorem tBX12_next0_76 {d : Nat} {h0 : ea_H} (hd : 8 ≤ d) {J76 : ea_H → Option (Unit × ea_H)}  (kJ76 : ∀ (h : ea_H) (r : Unit) (h' : ea_H), J76 h = some (r, h') → ShM h → ea_W mX12_next0 d h0 none h' 76 [(0, vR (some 326))] [] h) {h : ea_H} {r : Unit} {h' : ea_H} (E : BX12_next0_76 J76 h = some (r, h')) (hs : ShM h) : ea_W mX12_next0 d h0 none h' 76 [(0, vR (some 326))] [] h := by
  unfold BX12_next0_76 at E
  obtain ⟨w27, Ew27, E⟩ := bd_some E
  have hsw27 : ShM w27.2 := ShM_core ((kpX12_see _ _) _ Ew27) hs
  refine ea_aload_n (pc := 76) dX12_next0_76 rfl 0 rfl ?_
  refine ea_aload_n (pc := 77) dX12_next0_77 rfl 0 rfl ?_
  refine ea_getI (pc := 78) dX12_next0_78 ec_12 (k := 53) (Nat.le_of_ble_eq_true rfl) rfl (Or.inl ew_1455) (cShM_326 hs).1 (cShM_326 hs).2.1 ?_
  refine ea_callV (pc := 81) (d' := d - 1) (As := [vI (ea_i h 326 53)]) (st := []) dX12_next0_81 kX12_see (sX12_see (d := d - 1) (by omega) hs Ew27) (by omega) rfl (Nat.le_of_ble_eq_true rfl) ew_1883 ew_1885 ew_71 (ci := 12) rfl (by decide) (cShM_326 hs).1 (cShM_326 hs).2.1 ?_
  obtain ⟨w28, Ew28, E⟩ := bd_some E
  have hsw28 : ShM w28.2 := ShM_core ((kpX12_isLetter _ _) _ Ew28) hsw27
  refine ea_callS (pc := 84) (d' := d - 1) (As := [vI w27.1]) (st := []) dX12_next0_84 kX12_isLetter (sX12_isLetter (d := d - 1) (by omega) Ew28) (by omega) rfl (Nat.le_of_ble_eq_true rfl) ew_1887 ew_1888 ?_
  refine ea_if_eq (pc := 87) (tgt := 103) dX12_next0_87 rfl (fun c32 => ?_) (fun c32 => ?_)
  · have E := (if_pos c32).symm.trans E
    obtain ⟨w29, Ew29, E⟩ := bd_some E
    have hsw29 : ShM w29.2 := ShM_core ((kpX12_word _) _ Ew29) hsw28
    refine ea_aload_n (pc := 103) dX12_next0_103 rfl 0 rfl ?_
    refine ea_aload_n (pc := 104) dX12_next0_104 rfl 0 rfl ?_
    refine ea_callV (pc := 105) (d' := d - 1) (As := []) (st := [vR (some 326)]) dX12_next0_105 kX12_word (sX12_word (d := d - 1) (by omega) hsw28 Ew29) (by omega) rfl (Nat.le_of_ble_eq_true rfl) ew_1890 ew_1892 ew_72 (ci := 12) rfl (by decide) (cShM_326 hsw28).1 (cShM_326 hsw28).2.1 ?_
    obtain ⟨H30, eH30, E⟩ := let_some E
    refine ea_putI (pc := 108) dX12_next0_108 ec_12 (k := 54) (Nat.le_of_ble_eq_true rfl) rfl (Or.inl ⟨rfl, Or.inl ew_1456⟩) rfl rfl (cShM_326 hsw29).1 (cShM_326 hsw29).2.1 ?_
    refine ea_nm eH30 ?_
    have hsH30 : ShM H30 := by rw [eH30]; exact hsw29
    refine ea_goto (pc := 111) (tgt := 303) dX12_next0_111 rfl ?_
    exact ea_vretO (pc := 303) dX12_next0_303 rfl E
  · have E := (if_neg c32).symm.trans E
    obtain ⟨H31, eH31, E⟩ := let_some E
    refine ea_aload_n (pc := 90) dX12_next0_90 rfl 0 rfl ?_
    refine ea_dup (pc := 91) dX12_next0_91 rfl ?_
    refine ea_getI (pc := 92) dX12_next0_92 ec_12 (k := 53) (Nat.le_of_ble_eq_true rfl) rfl (Or.inl ew_1455) (cShM_326 hsw28).1 (cShM_326 hsw28).2.1 ?_
    refine ea_iconst (pc := 95) dX12_next0_95 (v := 1) rfl ?_
    refine ea_iadd (pc := 96) dX12_next0_96 ?_
    refine ea_putI (pc := 97) dX12_next0_97 ec_12 (k := 53) (Nat.le_of_ble_eq_true rfl) rfl (Or.inl ⟨rfl, Or.inl ew_1455⟩) rfl rfl (cShM_326 hsw28).1 (cShM_326 hsw28).2.1 ?_
    refine ea_nm eH31 ?_
    have hsH31 : ShM H31 := by rw [eH31]; exact hsw28
    refine ea_goto (pc := 100) (tgt := 76) dX12_next0_100 rfl ?_
    exact (kJ76 H31 _ _ E hsH31)
set_option maxRecDepth 100000 in
set_option maxHeartbeats 0 in
theorem kBX12_next0_76 {J76 : ea_H → Option (Unit × ea_H)}  (cJ76 : ∀ (h : ea_H), kp (ea_core h) (J76 h)) {h : ea_H} : kp (ea_core h) (BX12_next0_76 J76 h) :=
  (kp_bind (kp_tw (kpX12_see _ _) rfl) fun w27 hcw27 => (kp_bind (kp_tw (kpX12_isLetter _ _) hcw27) fun w28 hcw28 => (kp_ite (kp_bind (kp_tw (kpX12_word _) hcw28) fun w29 hcw29 => (kp_let (kp_ret hcw29))) (kp_let (kp_tw (cJ76 _) hcw28)))))
set_option maxRecDepth 100000 in
set_option maxHeartbeats 0 in
theorem lBX12_next0_76 {J76 : ea_H → Option (Unit × ea_H)} {J76_ : ea_H → Option (Unit × ea_H)}  (mJ76 : ∀ (h : ea_H), fle (J76 h) (J76_ h)) {h : ea_H} : fle (BX12_next0_76 J76 h) (BX12_next0_76 J76_ h) :=
  (fle_bind (fle_rfl _) fun _ => (fle_bind (fle_rfl _) fun _ => (fle_ite (fle_rfl _) (fle_let fun _ => (mJ76 _)))))
set_option maxRecDepth 100000 in
set_option maxHeartbeats 0 in
theorem nBX12_next0_76 {J76 : ea_H → Option (Unit × ea_H)} {J76_ : Nat → (ea_H → Option (Unit × ea_H))}  (mJ76 : ∀ (h : ea_H), fct (J76 h) (fun f => J76_ f h)) {h : ea_H} : fct (BX12_next0_76 J76 h) (fun f => BX12_next0_76 (J76_ f) h) :=
  (fct_bind (fct_rfl _) fun _ => (fct_bind (fct_rfl _) fun _ => (fct_ite (fct_rfl _) (fct_let fun _ => (mJ76 _)))))
noncomputable def BX12_next0_126 (J126 : ea_H → Option (Unit × ea_H)) (h : ea_H) : Option (Unit × ea_H) :=
  (Option.bind (qX12_see ((ea_i h 326 53) : Int32) h) fun w33 => (Option.bind (qX12_isDigit (w33.1 : Int32) w33.2) fun w34 => (if w34.1 = (0 : Int32) then (if (5 : Int32) ≤ ((ea_i w34.2 326 53) - (ea_i w34.2 326 55)) then (ea_let (ea_wi w34.2 326 54 1) fun H35 => (some ((), H35))) else (ea_let (ea_wi w34.2 326 54 2) fun H36 => (some ((), H36)))) else (if ((ea_i w34.2 326 55) + (4 : Int32)) ≤ (ea_i w34.2 326 53) then (ea_let (ea_wi w34.2 326 53 ((ea_i w34.2 326 53) + (1 : Int32))) fun H38 => (J126 H38)) else (Option.bind (qX12_see ((ea_i w34.2 326 53) : Int32) w34.2) fun w39 => (ea_let (ea_wi w39.2 326 56 ((((10 : Int32) * (ea_i w34.2 326 56)) + w39.1) - (48 : Int32))) fun H40 => (ea_let (ea_wi H40 326 53 ((ea_i H40 326 53) + (1 : Int32))) fun H41 => (J126 H41))))))))
set_option maxRecDepth 100000 in
set_option maxHeartbeats 0 in
theorem tBX12_next0_126 {d : Nat} {h0 : ea_H} (hd : 8 ≤ d) {J126 : ea_H → Option (Unit × ea_H)}  (kJ126 : ∀ (h : ea_H) (r : Unit) (h' : ea_H), J126 h = some (r, h') → ShM h → ea_W mX12_next0 d h0 none h' 126 [(0, vR (some 326))] [] h) {h : ea_H} {r : Unit} {h' : ea_H} (E : BX12_next0_126 J126 h = some (r, h')) (hs : ShM h) : ea_W mX12_next0 d h0 none h' 126 [(0, vR (some 326))] [] h := by
  unfold BX12_next0_126 at E
  obtain ⟨w33, Ew33, E⟩ := bd_some E
  have hsw33 : ShM w33.2 := ShM_core ((kpX12_see _ _) _ Ew33) hs
  refine ea_aload_n (pc := 126) dX12_next0_126 rfl 0 rfl ?_
  refine ea_aload_n (pc := 127) dX12_next0_127 rfl 0 rfl ?_
  refine ea_getI (pc := 128) dX12_next0_128 ec_12 (k := 53) (Nat.le_of_ble_eq_true rfl) rfl (Or.inl ew_1455) (cShM_326 hs).1 (cShM_326 hs).2.1 ?_
  refine ea_callV (pc := 131) (d' := d - 1) (As := [vI (ea_i h 326 53)]) (st := []) dX12_next0_131 kX12_see (sX12_see (d := d - 1) (by omega) hs Ew33) (by omega) rfl (Nat.le_of_ble_eq_true rfl) ew_1883 ew_1885 ew_71 (ci := 12) rfl (by decide) (cShM_326 hs).1 (cShM_326 hs).2.1 ?_
  obtain ⟨w34, Ew34, E⟩ := bd_some E
  have hsw34 : ShM w34.2 := ShM_core ((kpX12_isDigit _ _) _ Ew34) hsw33
  refine ea_callS (pc := 134) (d' := d - 1) (As := [vI w33.1]) (st := []) dX12_next0_134 kX12_isDigit (sX12_isDigit (d := d - 1) (by omega) Ew34) (by omega) rfl (Nat.le_of_ble_eq_true rfl) ew_1964 ew_1965 ?_
  refine ea_if_eq (pc := 137) (tgt := 189) dX12_next0_137 rfl (fun c43 => ?_) (fun c43 => ?_)
  · have E := (if_pos c43).symm.trans E
    refine ea_aload_n (pc := 189) dX12_next0_189 rfl 0 rfl ?_
    refine ea_aload_n (pc := 190) dX12_next0_190 rfl 0 rfl ?_
    refine ea_getI (pc := 191) dX12_next0_191 ec_12 (k := 53) (Nat.le_of_ble_eq_true rfl) rfl (Or.inl ew_1455) (cShM_326 hsw34).1 (cShM_326 hsw34).2.1 ?_
    refine ea_aload_n (pc := 194) dX12_next0_194 rfl 0 rfl ?_
    refine ea_getI (pc := 195) dX12_next0_195 ec_12 (k := 55) (Nat.le_of_ble_eq_true rfl) rfl (Or.inl ew_1457) (cShM_326 hsw34).1 (cShM_326 hsw34).2.1 ?_
    refine ea_isub (pc := 198) dX12_next0_198 ?_
    refine ea_iconst (pc := 199) dX12_next0_199 (v := 5) rfl ?_
    refine ea_icmp_ge (pc := 200) (tgt := 207) dX12_next0_200 rfl (fun c37 => ?_) (fun c37 => ?_)
    · have E := (if_pos c37).symm.trans E
      obtain ⟨H35, eH35, E⟩ := let_some E
      refine ea_iconst (pc := 207) dX12_next0_207 (v := 1) rfl ?_
      refine ea_putI (pc := 208) dX12_next0_208 ec_12 (k := 54) (Nat.le_of_ble_eq_true rfl) rfl (Or.inl ⟨rfl, Or.inl ew_1456⟩) rfl rfl (cShM_326 hsw34).1 (cShM_326 hsw34).2.1 ?_
      refine ea_nm eH35 ?_
      have hsH35 : ShM H35 := by rw [eH35]; exact hsw34
      refine ea_goto (pc := 211) (tgt := 303) dX12_next0_211 rfl ?_
      exact ea_vretO (pc := 303) dX12_next0_303 rfl E
    · have E := (if_neg c37).symm.trans E
      obtain ⟨H36, eH36, E⟩ := let_some E
      refine ea_iconst (pc := 203) dX12_next0_203 (v := 2) rfl ?_
      refine ea_goto (pc := 204) (tgt := 208) dX12_next0_204 rfl ?_
      refine ea_putI (pc := 208) dX12_next0_208 ec_12 (k := 54) (Nat.le_of_ble_eq_true rfl) rfl (Or.inl ⟨rfl, Or.inl ew_1456⟩) rfl rfl (cShM_326 hsw34).1 (cShM_326 hsw34).2.1 ?_
      refine ea_nm eH36 ?_
      have hsH36 : ShM H36 := by rw [eH36]; exact hsw34
      refine ea_goto (pc := 211) (tgt := 303) dX12_next0_211 rfl ?_
      exact ea_vretO (pc := 303) dX12_next0_303 rfl E
  · have E := (if_neg c43).symm.trans E
    refine ea_aload_n (pc := 140) dX12_next0_140 rfl 0 rfl ?_
    refine ea_getI (pc := 141) dX12_next0_141 ec_12 (k := 53) (Nat.le_of_ble_eq_true rfl) rfl (Or.inl ew_1455) (cShM_326 hsw34).1 (cShM_326 hsw34).2.1 ?_
    refine ea_aload_n (pc := 144) dX12_next0_144 rfl 0 rfl ?_
    refine ea_getI (pc := 145) dX12_next0_145 ec_12 (k := 55) (Nat.le_of_ble_eq_true rfl) rfl (Or.inl ew_1457) (cShM_326 hsw34).1 (cShM_326 hsw34).2.1 ?_
    refine ea_iconst (pc := 148) dX12_next0_148 (v := 4) rfl ?_
    refine ea_iadd (pc := 149) dX12_next0_149 ?_
    refine ea_icmp_ge (pc := 150) (tgt := 176) dX12_next0_150 rfl (fun c42 => ?_) (fun c42 => ?_)
    · have E := (if_pos c42).symm.trans E
      obtain ⟨H38, eH38, E⟩ := let_some E
      refine ea_aload_n (pc := 176) dX12_next0_176 rfl 0 rfl ?_
      refine ea_dup (pc := 177) dX12_next0_177 rfl ?_
      refine ea_getI (pc := 178) dX12_next0_178 ec_12 (k := 53) (Nat.le_of_ble_eq_true rfl) rfl (Or.inl ew_1455) (cShM_326 hsw34).1 (cShM_326 hsw34).2.1 ?_
      refine ea_iconst (pc := 181) dX12_next0_181 (v := 1) rfl ?_
      refine ea_iadd (pc := 182) dX12_next0_182 ?_
      refine ea_putI (pc := 183) dX12_next0_183 ec_12 (k := 53) (Nat.le_of_ble_eq_true rfl) rfl (Or.inl ⟨rfl, Or.inl ew_1455⟩) rfl rfl (cShM_326 hsw34).1 (cShM_326 hsw34).2.1 ?_
      refine ea_nm eH38 ?_
      have hsH38 : ShM H38 := by rw [eH38]; exact hsw34
      refine ea_goto (pc := 186) (tgt := 126) dX12_next0_186 rfl ?_
      exact (kJ126 H38 _ _ E hsH38)
    · have E := (if_neg c42).symm.trans E
      obtain ⟨w39, Ew39, E⟩ := bd_some E
      have hsw39 : ShM w39.2 := ShM_core ((kpX12_see _ _) _ Ew39) hsw34
      refine ea_aload_n (pc := 153) dX12_next0_153 rfl 0 rfl ?_
      refine ea_bipush (pc := 154) dX12_next0_154 (v := 10) rfl ?_
      refine ea_aload_n (pc := 156) dX12_next0_156 rfl 0 rfl ?_
      refine ea_getI (pc := 157) dX12_next0_157 ec_12 (k := 56) (Nat.le_of_ble_eq_true rfl) rfl (Or.inl ew_1458) (cShM_326 hsw34).1 (cShM_326 hsw34).2.1 ?_
      refine ea_imul (pc := 160) dX12_next0_160 ?_
      refine ea_aload_n (pc := 161) dX12_next0_161 rfl 0 rfl ?_
      refine ea_aload_n (pc := 162) dX12_next0_162 rfl 0 rfl ?_
      refine ea_getI (pc := 163) dX12_next0_163 ec_12 (k := 53) (Nat.le_of_ble_eq_true rfl) rfl (Or.inl ew_1455) (cShM_326 hsw34).1 (cShM_326 hsw34).2.1 ?_
      refine ea_callV (pc := 166) (d' := d - 1) (As := [vI (ea_i w34.2 326 53)]) (st := [vI ((10 : Int32) * (ea_i w34.2 326 56)), vR (some 326)]) dX12_next0_166 kX12_see (sX12_see (d := d - 1) (by omega) hsw34 Ew39) (by omega) rfl (Nat.le_of_ble_eq_true rfl) ew_1883 ew_1885 ew_71 (ci := 12) rfl (by decide) (cShM_326 hsw34).1 (cShM_326 hsw34).2.1 ?_
      obtain ⟨H40, eH40, E⟩ := let_some E
      refine ea_iadd (pc := 169) dX12_next0_169 ?_
      refine ea_bipush (pc := 170) dX12_next0_170 (v := 48) rfl ?_
      refine ea_isub (pc := 172) dX12_next0_172 ?_
      refine ea_putI (pc := 173) dX12_next0_173 ec_12 (k := 56) (Nat.le_of_ble_eq_true rfl) rfl (Or.inl ⟨rfl, Or.inl ew_1458⟩) rfl rfl (cShM_326 hsw39).1 (cShM_326 hsw39).2.1 ?_
      refine ea_nm eH40 ?_
      have hsH40 : ShM H40 := by rw [eH40]; exact hsw39
      obtain ⟨H41, eH41, E⟩ := let_some E
      refine ea_aload_n (pc := 176) dX12_next0_176 rfl 0 rfl ?_
      refine ea_dup (pc := 177) dX12_next0_177 rfl ?_
      refine ea_getI (pc := 178) dX12_next0_178 ec_12 (k := 53) (Nat.le_of_ble_eq_true rfl) rfl (Or.inl ew_1455) (cShM_326 hsH40).1 (cShM_326 hsH40).2.1 ?_
      refine ea_iconst (pc := 181) dX12_next0_181 (v := 1) rfl ?_
      refine ea_iadd (pc := 182) dX12_next0_182 ?_
      refine ea_putI (pc := 183) dX12_next0_183 ec_12 (k := 53) (Nat.le_of_ble_eq_true rfl) rfl (Or.inl ⟨rfl, Or.inl ew_1455⟩) rfl rfl (cShM_326 hsH40).1 (cShM_326 hsH40).2.1 ?_
      refine ea_nm eH41 ?_
      have hsH41 : ShM H41 := by rw [eH41]; exact hsH40
      refine ea_goto (pc := 186) (tgt := 126) dX12_next0_186 rfl ?_
      exact (kJ126 H41 _ _ E hsH41)
set_option maxRecDepth 100000 in
set_option maxHeartbeats 0 in
theorem kBX12_next0_126 {J126 : ea_H → Option (Unit × ea_H)}  (cJ126 : ∀ (h : ea_H), kp (ea_core h) (J126 h)) {h : ea_H} : kp (ea_core h) (BX12_next0_126 J126 h) :=
  (kp_bind (kp_tw (kpX12_see _ _) rfl) fun w33 hcw33 => (kp_bind (kp_tw (kpX12_isDigit _ _) hcw33) fun w34 hcw34 => (kp_ite (kp_ite (kp_let (kp_ret hcw34)) (kp_let (kp_ret hcw34))) (kp_ite (kp_let (kp_tw (cJ126 _) hcw34)) (kp_bind (kp_tw (kpX12_see _ _) hcw34) fun w39 hcw39 => (kp_let (kp_let (kp_tw (cJ126 _) hcw39))))))))
set_option maxRecDepth 100000 in
set_option maxHeartbeats 0 in
theorem lBX12_next0_126 {J126 : ea_H → Option (Unit × ea_H)} {J126_ : ea_H → Option (Unit × ea_H)}  (mJ126 : ∀ (h : ea_H), fle (J126 h) (J126_ h)) {h : ea_H} : fle (BX12_next0_126 J126 h) (BX12_next0_126 J126_ h) :=
  (fle_bind (fle_rfl _) fun _ => (fle_bind (fle_rfl _) fun _ => (fle_ite (fle_rfl _) (fle_ite (fle_let fun _ => (mJ126 _)) (fle_bind (fle_rfl _) fun _ => (fle_let fun _ => (fle_let fun _ => (mJ126 _))))))))
set_option maxRecDepth 100000 in
set_option maxHeartbeats 0 in
theorem nBX12_next0_126 {J126 : ea_H → Option (Unit × ea_H)} {J126_ : Nat → (ea_H → Option (Unit × ea_H))}  (mJ126 : ∀ (h : ea_H), fct (J126 h) (fun f => J126_ f h)) {h : ea_H} : fct (BX12_next0_126 J126 h) (fun f => BX12_next0_126 (J126_ f) h) :=
  (fct_bind (fct_rfl _) fun _ => (fct_bind (fct_rfl _) fun _ => (fct_ite (fct_rfl _) (fct_ite (fct_let fun _ => (mJ126 _)) (fct_bind (fct_rfl _) fun _ => (fct_let fun _ => (fct_let fun _ => (mJ126 _))))))))
noncomputable def BX12_next0_289 (x1 : Int32) (sx0 : Int32) (h : ea_H) : Option (Unit × ea_H) :=
  (if sx0 = (0 : Int32) then (ea_let (ea_wi h 326 54 1) fun H44 => (some ((), H44))) else (ea_let (ea_wi h 326 54 x1) fun H45 => (some ((), H45))))
set_option maxRecDepth 100000 in
set_option maxHeartbeats 0 in
theorem tBX12_next0_289 {d : Nat} {h0 : ea_H} (hd : 8 ≤ d)  {x1 : Int32} {sx0 : Int32} {h : ea_H} {r : Unit} {h' : ea_H} (E : BX12_next0_289 x1 sx0 h = some (r, h')) (hs : ShM h) : ea_W mX12_next0 d h0 none h' 289 [(0, vR (some 326)), (1, vI x1)] [vI sx0] h := by
  unfold BX12_next0_289 at E
  refine ea_istore_n (pc := 289) (lv' := [(0, vR (some 326)), (1, vI x1), (2, vI sx0)]) dX12_next0_289 rfl (Nat.le_of_ble_eq_true rfl) [1, 2, 0] rfl ?_
  refine ea_aload_n (pc := 290) dX12_next0_290 rfl 0 rfl ?_
  refine ea_iload_n (pc := 291) dX12_next0_291 rfl 2 rfl ?_
  refine ea_if_eq (pc := 292) (tgt := 299) dX12_next0_292 rfl (fun c46 => ?_) (fun c46 => ?_)
  · have E := (if_pos c46).symm.trans E
    obtain ⟨H44, eH44, E⟩ := let_some E
    refine ea_iconst (pc := 299) dX12_next0_299 (v := 1) rfl ?_
    refine ea_putI (pc := 300) dX12_next0_300 ec_12 (k := 54) (Nat.le_of_ble_eq_true rfl) rfl (Or.inl ⟨rfl, Or.inl ew_1456⟩) rfl rfl (cShM_326 hs).1 (cShM_326 hs).2.1 ?_
    refine ea_nm eH44 ?_
    have hsH44 : ShM H44 := by rw [eH44]; exact hs
    exact ea_vretO (pc := 303) dX12_next0_303 rfl E
  · have E := (if_neg c46).symm.trans E
    obtain ⟨H45, eH45, E⟩ := let_some E
    refine ea_iload_n (pc := 295) dX12_next0_295 rfl 1 rfl ?_
    refine ea_goto (pc := 296) (tgt := 300) dX12_next0_296 rfl ?_
    refine ea_putI (pc := 300) dX12_next0_300 ec_12 (k := 54) (Nat.le_of_ble_eq_true rfl) rfl (Or.inl ⟨rfl, Or.inl ew_1456⟩) rfl rfl (cShM_326 hs).1 (cShM_326 hs).2.1 ?_
    refine ea_nm eH45 ?_
    have hsH45 : ShM H45 := by rw [eH45]; exact hs
    exact ea_vretO (pc := 303) dX12_next0_303 rfl E
set_option maxRecDepth 100000 in
set_option maxHeartbeats 0 in
theorem kBX12_next0_289  {x1 : Int32} {sx0 : Int32} {h : ea_H} : kp (ea_core h) (BX12_next0_289 x1 sx0 h) :=
  (kp_ite (kp_let (kp_ret rfl)) (kp_let (kp_ret rfl)))
set_option maxRecDepth 100000 in
set_option maxHeartbeats 0 in
theorem lBX12_next0_289  {x1 : Int32} {sx0 : Int32} {h : ea_H} : fle (BX12_next0_289 x1 sx0 h) (BX12_next0_289 x1 sx0 h) :=
  (fle_rfl _)
set_option maxRecDepth 100000 in
set_option maxHeartbeats 0 in
theorem nBX12_next0_289  {x1 : Int32} {sx0 : Int32} {h : ea_H} : fct (BX12_next0_289 x1 sx0 h) (fun f => BX12_next0_289 x1 sx0 h) :=
  (fct_rfl _)
noncomputable def gX12_next0 : Nat → (ea_H → Option (Unit × ea_H)) × (ea_H → Option (Unit × ea_H)) × (ea_H → Option (Unit × ea_H)) × (Int32 → Int32 → ea_H → Option (Unit × ea_H))
  | 0 => (fun _ => none, fun _ => none, fun _ => none, fun _ _ _ => none)
  | f + 1 => (BX12_next0_0 (gX12_next0 f).1 (gX12_next0 f).2.1 (gX12_next0 f).2.2.1 (gX12_next0 f).2.2.2, BX12_next0_76 (gX12_next0 f).2.1, BX12_next0_126 (gX12_next0 f).2.2.1, BX12_next0_289)
theorem mgX12_next0 : ∀ f : Nat, (∀ (h : ea_H), fle ((gX12_next0 f).1 h) ((gX12_next0 (f + 1)).1 h)) ∧ (∀ (h : ea_H), fle ((gX12_next0 f).2.1 h) ((gX12_next0 (f + 1)).2.1 h)) ∧ (∀ (h : ea_H), fle ((gX12_next0 f).2.2.1 h) ((gX12_next0 (f + 1)).2.2.1 h)) ∧ (∀ (x1 : Int32) (sx0 : Int32) (h : ea_H), fle ((gX12_next0 f).2.2.2 x1 sx0 h) ((gX12_next0 (f + 1)).2.2.2 x1 sx0 h)) := by
  intro f
  induction f with
  | zero => exact ⟨fun _ => fle_none _, fun _ => fle_none _, fun _ => fle_none _, fun _ _ _ => fle_none _⟩
  | succ f ih => exact ⟨fun _ => lBX12_next0_0 ih.1 ih.2.1 ih.2.2.1 ih.2.2.2, fun _ => lBX12_next0_76 ih.2.1, fun _ => lBX12_next0_126 ih.2.2.1, fun _ _ _ => lBX12_next0_289⟩
noncomputable def qX12_next0_0 (h : ea_H) : Option (Unit × ea_H) := flim fun f => (gX12_next0 f).1 h
noncomputable def qX12_next0_76 (h : ea_H) : Option (Unit × ea_H) := flim fun f => (gX12_next0 f).2.1 h
noncomputable def qX12_next0_126 (h : ea_H) : Option (Unit × ea_H) := flim fun f => (gX12_next0 f).2.2.1 h
noncomputable def qX12_next0_289 (x1 : Int32) (sx0 : Int32) (h : ea_H) : Option (Unit × ea_H) := flim fun f => (gX12_next0 f).2.2.2 x1 sx0 h
theorem fqX12_next0_0 (h : ea_H) : fct (qX12_next0_0 h) fun f => (gX12_next0 f).1 h := flim_ct fun f => (mgX12_next0 f).1 h
theorem fqX12_next0_76 (h : ea_H) : fct (qX12_next0_76 h) fun f => (gX12_next0 f).2.1 h := flim_ct fun f => (mgX12_next0 f).2.1 h
theorem fqX12_next0_126 (h : ea_H) : fct (qX12_next0_126 h) fun f => (gX12_next0 f).2.2.1 h := flim_ct fun f => (mgX12_next0 f).2.2.1 h
theorem fqX12_next0_289 (x1 : Int32) (sx0 : Int32) (h : ea_H) : fct (qX12_next0_289 x1 sx0 h) fun f => (gX12_next0 f).2.2.2 x1 sx0 h := flim_ct fun f => (mgX12_next0 f).2.2.2 x1 sx0 h
/-- how a block opens -/
theorem uqX12_next0_0 {h : ea_H} {P : Unit × ea_H → Prop} (H : sat (BX12_next0_0 qX12_next0_0 qX12_next0_76 qX12_next0_126 qX12_next0_289 h) P) : sat (qX12_next0_0 h) P := by
  obtain ⟨x, e, hp⟩ := H
  obtain ⟨n, hn⟩ := nBX12_next0_0 fqX12_next0_0 fqX12_next0_76 fqX12_next0_126 fqX12_next0_289 x e
  exact ⟨x, flim_at (fun f => (mgX12_next0 f).1 h) (f := n + 1) (hn n (Nat.le_refl _)), hp⟩
/-- how a block opens -/
theorem uqX12_next0_76 {h : ea_H} {P : Unit × ea_H → Prop} (H : sat (BX12_next0_76 qX12_next0_76 h) P) : sat (qX12_next0_76 h) P := by
  obtain ⟨x, e, hp⟩ := H
  obtain ⟨n, hn⟩ := nBX12_next0_76 fqX12_next0_76 x e
  exact ⟨x, flim_at (fun f => (mgX12_next0 f).2.1 h) (f := n + 1) (hn n (Nat.le_refl _)), hp⟩
/-- how a block opens -/
theorem uqX12_next0_126 {h : ea_H} {P : Unit × ea_H → Prop} (H : sat (BX12_next0_126 qX12_next0_126 h) P) : sat (qX12_next0_126 h) P := by
  obtain ⟨x, e, hp⟩ := H
  obtain ⟨n, hn⟩ := nBX12_next0_126 fqX12_next0_126 x e
  exact ⟨x, flim_at (fun f => (mgX12_next0 f).2.2.1 h) (f := n + 1) (hn n (Nat.le_refl _)), hp⟩
/-- how a block opens -/
theorem uqX12_next0_289 {x1 : Int32} {sx0 : Int32} {h : ea_H} {P : Unit × ea_H → Prop} (H : sat (BX12_next0_289 x1 sx0 h) P) : sat (qX12_next0_289 x1 sx0 h) P := by
  obtain ⟨x, e, hp⟩ := H
  obtain ⟨n, hn⟩ := nBX12_next0_289 x e
  exact ⟨x, flim_at (fun f => (mgX12_next0 f).2.2.2 x1 sx0 h) (f := n + 1) (hn n (Nat.le_refl _)), hp⟩
theorem kgX12_next0 : ∀ f : Nat, (∀ (h : ea_H), kp (ea_core h) ((gX12_next0 f).1 h)) ∧ (∀ (h : ea_H), kp (ea_core h) ((gX12_next0 f).2.1 h)) ∧ (∀ (h : ea_H), kp (ea_core h) ((gX12_next0 f).2.2.1 h)) ∧ (∀ (x1 : Int32) (sx0 : Int32) (h : ea_H), kp (ea_core h) ((gX12_next0 f).2.2.2 x1 sx0 h)) := by
  intro f
  induction f with
  | zero => exact ⟨fun _ => kp_none _, fun _ => kp_none _, fun _ => kp_none _, fun _ _ _ => kp_none _⟩
  | succ f ih => exact ⟨fun _ => kBX12_next0_0 ih.1 ih.2.1 ih.2.2.1 ih.2.2.2, fun _ => kBX12_next0_76 ih.2.1, fun _ => kBX12_next0_126 ih.2.2.1, fun _ _ _ => kBX12_next0_289⟩
theorem tgX12_next0 {d : Nat} {h0 : ea_H} (hd : 8 ≤ d) : ∀ f : Nat, (∀ (h : ea_H) (r : Unit) (h' : ea_H), (gX12_next0 f).1 h = some (r, h') → ShM h → ea_W mX12_next0 d h0 none h' 0 [(0, vR (some 326))] [] h) ∧ (∀ (h : ea_H) (r : Unit) (h' : ea_H), (gX12_next0 f).2.1 h = some (r, h') → ShM h → ea_W mX12_next0 d h0 none h' 76 [(0, vR (some 326))] [] h) ∧ (∀ (h : ea_H) (r : Unit) (h' : ea_H), (gX12_next0 f).2.2.1 h = some (r, h') → ShM h → ea_W mX12_next0 d h0 none h' 126 [(0, vR (some 326))] [] h) ∧ (∀ (x1 : Int32) (sx0 : Int32) (h : ea_H) (r : Unit) (h' : ea_H), (gX12_next0 f).2.2.2 x1 sx0 h = some (r, h') → ShM h → ea_W mX12_next0 d h0 none h' 289 [(0, vR (some 326)), (1, vI x1)] [vI sx0] h) := by
  intro f
  induction f with
  | zero => exact ⟨fun _ _ _ E => no_some E, fun _ _ _ E => no_some E, fun _ _ _ E => no_some E, fun _ _ _ _ _ E => no_some E⟩
  | succ f ih => exact ⟨fun _ _ _ E hs => tBX12_next0_0 hd ih.1 ih.2.1 ih.2.2.1 ih.2.2.2 E hs, fun _ _ _ E hs => tBX12_next0_76 hd ih.2.1 E hs, fun _ _ _ E hs => tBX12_next0_126 hd ih.2.2.1 E hs, fun _ _ _ _ _ E hs => tBX12_next0_289 hd E hs⟩
noncomputable def qX12_next0 (h : ea_H) : Option (Unit × ea_H) := qX12_next0_0  h
theorem sX12_next0 {d : Nat} {h : ea_H} {r : Unit} {h' : ea_H} (hd : 8 ≤ d) (hs : ShM h) (K : qX12_next0 h = some (r, h')) : ea_Met mX12_next0 d [vR (some 326)] h none h' := by
  unfold qX12_next0 at K
  obtain ⟨n, hn⟩ := fqX12_next0_0  h _ K
  have W := (tgX12_next0 (d := d) (h0 := h) hd n).1  h _ _ (hn n (Nat.le_refl _)) hs
  exact ea_enter rfl (Nat.le_of_ble_eq_true rfl) W
theorem kpX12_next0 (h : ea_H) : kp (ea_core h) (qX12_next0 h) := fun x e => by
  obtain ⟨n, hn⟩ := fqX12_next0_0  h x e
  exact (kgX12_next0 n).1  h x (hn n (Nat.le_refl _))
noncomputable def BX12_bad_0 (x1 : Int32) (h : ea_H) : Option (Int32 × ea_H) :=
  (ea_let (ea_wi h 326 57 x1) fun H1 => (ea_let (ea_wi H1 326 58 (ea_i H1 326 55)) fun H2 => (some ((0 : Int32), H2))))
theorem tBX12_bad_0 {d : Nat} {h0 : ea_H} (hd : 1 ≤ d)  {x1 : Int32} {h : ea_H} {r : Int32} {h' : ea_H} (E : BX12_bad_0 x1 h = some (r, h')) (hs : ShM h) : ea_W mX12_bad d h0 (some (vI r)) h' 0 [(0, vR (some 326)), (1, vI x1)] [] h := by
  unfold BX12_bad_0 at E
  obtain ⟨H1, eH1, E⟩ := let_some E
  refine ea_aload_n (pc := 0) dX12_bad_0 rfl 0 rfl ?_
  refine ea_iload_n (pc := 1) dX12_bad_1 rfl 1 rfl ?_
  refine ea_putI (pc := 2) dX12_bad_2 ec_12 (k := 57) (Nat.le_of_ble_eq_true rfl) rfl (Or.inl ⟨rfl, Or.inl ew_1459⟩) rfl rfl (cShM_326 hs).1 (cShM_326 hs).2.1 ?_
  refine ea_nm eH1 ?_
  have hsH1 : ShM H1 := by rw [eH1]; exact hs
  obtain ⟨H2, eH2, E⟩ := let_some E
  refine ea_aload_n (pc := 5) dX12_bad_5 rfl 0 rfl ?_
  refine ea_aload_n (pc := 6) dX12_bad_6 rfl 0 rfl ?_
  refine ea_getI (pc := 7) dX12_bad_7 ec_12 (k := 55) (Nat.le_of_ble_eq_true rfl) rfl (Or.inl ew_1457) (cShM_326 hsH1).1 (cShM_326 hsH1).2.1 ?_
  refine ea_putI (pc := 10) dX12_bad_10 ec_12 (k := 58) (Nat.le_of_ble_eq_true rfl) rfl (Or.inl ⟨rfl, Or.inl ew_1460⟩) rfl rfl (cShM_326 hsH1).1 (cShM_326 hsH1).2.1 ?_
  refine ea_nm eH2 ?_
  have hsH2 : ShM H2 := by rw [eH2]; exact hsH1
  refine ea_iconst (pc := 13) dX12_bad_13 (v := 0) rfl ?_
  exact ea_iretO (pc := 14) dX12_bad_14 rfl (ea_bn (Or.inl rfl)) E
theorem kBX12_bad_0  {x1 : Int32} {h : ea_H} : kp (ea_core h) (BX12_bad_0 x1 h) :=
  (kp_let (kp_let (kp_ret rfl)))
noncomputable def qX12_bad (x1 : Int32) (h : ea_H) : Option (Int32 × ea_H) := BX12_bad_0 x1 h
theorem sX12_bad {d : Nat} {x1 : Int32} {h : ea_H} {r : Int32} {h' : ea_H} (hd : 1 ≤ d) (hs : ShM h) (K : qX12_bad x1 h = some (r, h')) : ea_Met mX12_bad d [vR (some 326), vI x1] h (some (vI r)) h' := by
  unfold qX12_bad at K
  have W := tBX12_bad_0 hd (h0 := h) K hs
  exact ea_enter rfl (Nat.le_of_ble_eq_true rfl) W
theorem kpX12_bad (x1 : Int32) (h : ea_H) : kp (ea_core h) (qX12_bad x1 h) := kBX12_bad_0
noncomputable def BX12_need_0 (x1 : Int32) (h : ea_H) : Option (Int32 × ea_H) :=
  (if (ea_i h 326 54) = x1 then (Option.bind (qX12_next0  h) fun w1 => (some ((1 : Int32), w1.2))) else (Option.bind (qX12_bad (1 : Int32) h) fun w2 => (gd ((w2.1 = 0 ∨ w2.1 = 1)) (some (w2.1, w2.2)))))
theorem tBX12_need_0 {d : Nat} {h0 : ea_H} (hd : 9 ≤ d)  {x1 : Int32} {h : ea_H} {r : Int32} {h' : ea_H} (E : BX12_need_0 x1 h = some (r, h')) (hs : ShM h) : ea_W mX12_need d h0 (some (vI r)) h' 0 [(0, vR (some 326)), (1, vI x1)] [] h := by
  unfold BX12_need_0 at E
  refine ea_aload_n (pc := 0) dX12_need_0 rfl 0 rfl ?_
  refine ea_getI (pc := 1) dX12_need_1 ec_12 (k := 54) (Nat.le_of_ble_eq_true rfl) rfl (Or.inl ew_1456) (cShM_326 hs).1 (cShM_326 hs).2.1 ?_
  refine ea_iload_n (pc := 4) dX12_need_4 rfl 1 rfl ?_
  refine ea_icmp_eq (pc := 5) (tgt := 14) dX12_need_5 rfl (fun c4 => ?_) (fun c4 => ?_)
  · have E := (if_pos c4).symm.trans E
    obtain ⟨w1, Ew1, E⟩ := bd_some E
    have hsw1 : ShM w1.2 := ShM_core ((kpX12_next0 _) _ Ew1) hs
    refine ea_aload_n (pc := 14) dX12_need_14 rfl 0 rfl ?_
    refine ea_callV (pc := 15) (d' := d - 1) (As := []) (st := []) dX12_need_15 kX12_next0 (sX12_next0 (d := d - 1) (by omega) hs Ew1) (by omega) rfl (Nat.le_of_ble_eq_true rfl) ew_1879 ew_1881 ew_70 (ci := 12) rfl (by decide) (cShM_326 hs).1 (cShM_326 hs).2.1 ?_
    refine ea_iconst (pc := 18) dX12_need_18 (v := 1) rfl ?_
    exact ea_iretO (pc := 19) dX12_need_19 rfl (ea_bn (Or.inr rfl)) E
  · have E := (if_neg c4).symm.trans E
    obtain ⟨w2, Ew2, E⟩ := bd_some E
    have hsw2 : ShM w2.2 := ShM_core ((kpX12_bad _ _) _ Ew2) hs
    refine ea_aload_n (pc := 8) dX12_need_8 rfl 0 rfl ?_
    refine ea_iconst (pc := 9) dX12_need_9 (v := 1) rfl ?_
    refine ea_callV (pc := 10) (d' := d - 1) (As := [vI 1]) (st := []) dX12_need_10 kX12_bad (sX12_bad (d := d - 1) (by omega) hs Ew2) (by omega) rfl (Nat.le_of_ble_eq_true rfl) ew_1971 ew_1973 ew_75 (ci := 12) rfl (by decide) (cShM_326 hs).1 (cShM_326 hs).2.1 ?_
    obtain ⟨z3, E⟩ := gd_some E
    exact ea_iretO (pc := 13) dX12_need_13 rfl (ea_bn z3) E
theorem kBX12_need_0  {x1 : Int32} {h : ea_H} : kp (ea_core h) (BX12_need_0 x1 h) :=
  (kp_ite (kp_bind (kp_tw (kpX12_next0 _) rfl) fun w1 hcw1 => (kp_ret hcw1)) (kp_bind (kp_tw (kpX12_bad _ _) rfl) fun w2 hcw2 => (kp_gd (kp_ret hcw2))))
noncomputable def qX12_need (x1 : Int32) (h : ea_H) : Option (Int32 × ea_H) := BX12_need_0 x1 h
theorem sX12_need {d : Nat} {x1 : Int32} {h : ea_H} {r : Int32} {h' : ea_H} (hd : 9 ≤ d) (hs : ShM h) (K : qX12_need x1 h = some (r, h')) : ea_Met mX12_need d [vR (some 326), vI x1] h (some (vI r)) h' := by
  unfold qX12_need at K
  have W := tBX12_need_0 hd (h0 := h) K hs
  exact ea_enter rfl (Nat.le_of_ble_eq_true rfl) W
theorem kpX12_need (x1 : Int32) (h : ea_H) : kp (ea_core h) (qX12_need x1 h) := kBX12_need_0
noncomputable def BX12_aNumber_0 (x1 : Int32) (h : ea_H) : Option (Int32 × ea_H) :=
  (if (ea_i h 326 54) = (2 : Int32) then (if (ea_i h 326 56) ≤ x1 then (ea_let (ea_wi h 326 61 (ea_i h 326 56)) fun H1 => (Option.bind (qX12_next0  H1) fun w2 => (some ((1 : Int32), w2.2)))) else (Option.bind (qX12_bad (2 : Int32) h) fun w3 => (gd ((w3.1 = 0 ∨ w3.1 = 1)) (some (w3.1, w3.2))))) else (Option.bind (qX12_bad (1 : Int32) h) fun w6 => (gd ((w6.1 = 0 ∨ w6.1 = 1)) (some (w6.1, w6.2)))))
theorem tBX12_aNumber_0 {d : Nat} {h0 : ea_H} (hd : 9 ≤ d)  {x1 : Int32} {h : ea_H} {r : Int32} {h' : ea_H} (E : BX12_aNumber_0 x1 h = some (r, h')) (hs : ShM h) : ea_W mX12_aNumber d h0 (some (vI r)) h' 0 [(0, vR (some 326)), (1, vI x1)] [] h := by
  unfold BX12_aNumber_0 at E
  refine ea_aload_n (pc := 0) dX12_aNumber_0 rfl 0 rfl ?_
  refine ea_getI (pc := 1) dX12_aNumber_1 ec_12 (k := 54) (Nat.le_of_ble_eq_true rfl) rfl (Or.inl ew_1456) (cShM_326 hs).1 (cShM_326 hs).2.1 ?_
  refine ea_iconst (pc := 4) dX12_aNumber_4 (v := 2) rfl ?_
  refine ea_icmp_eq (pc := 5) (tgt := 14) dX12_aNumber_5 rfl (fun c8 => ?_) (fun c8 => ?_)
  · have E := (if_pos c8).symm.trans E
    refine ea_aload_n (pc := 14) dX12_aNumber_14 rfl 0 rfl ?_
    refine ea_getI (pc := 15) dX12_aNumber_15 ec_12 (k := 56) (Nat.le_of_ble_eq_true rfl) rfl (Or.inl ew_1458) (cShM_326 hs).1 (cShM_326 hs).2.1 ?_
    refine ea_iload_n (pc := 18) dX12_aNumber_18 rfl 1 rfl ?_
    refine ea_icmp_le (pc := 19) (tgt := 28) dX12_aNumber_19 rfl (fun c5 => ?_) (fun c5 => ?_)
    · have E := (if_pos c5).symm.trans E
      obtain ⟨H1, eH1, E⟩ := let_some E
      refine ea_aload_n (pc := 28) dX12_aNumber_28 rfl 0 rfl ?_
      refine ea_aload_n (pc := 29) dX12_aNumber_29 rfl 0 rfl ?_
      refine ea_getI (pc := 30) dX12_aNumber_30 ec_12 (k := 56) (Nat.le_of_ble_eq_true rfl) rfl (Or.inl ew_1458) (cShM_326 hs).1 (cShM_326 hs).2.1 ?_
      refine ea_putI (pc := 33) dX12_aNumber_33 ec_12 (k := 61) (Nat.le_of_ble_eq_true rfl) rfl (Or.inl ⟨rfl, Or.inl ew_1463⟩) rfl rfl (cShM_326 hs).1 (cShM_326 hs).2.1 ?_
      refine ea_nm eH1 ?_
      have hsH1 : ShM H1 := by rw [eH1]; exact hs
      obtain ⟨w2, Ew2, E⟩ := bd_some E
      have hsw2 : ShM w2.2 := ShM_core ((kpX12_next0 _) _ Ew2) hsH1
      refine ea_aload_n (pc := 36) dX12_aNumber_36 rfl 0 rfl ?_
      refine ea_callV (pc := 37) (d' := d - 1) (As := []) (st := []) dX12_aNumber_37 kX12_next0 (sX12_next0 (d := d - 1) (by omega) hsH1 Ew2) (by omega) rfl (Nat.le_of_ble_eq_true rfl) ew_1879 ew_1881 ew_70 (ci := 12) rfl (by decide) (cShM_326 hsH1).1 (cShM_326 hsH1).2.1 ?_
      refine ea_iconst (pc := 40) dX12_aNumber_40 (v := 1) rfl ?_
      exact ea_iretO (pc := 41) dX12_aNumber_41 rfl (ea_bn (Or.inr rfl)) E
    · have E := (if_neg c5).symm.trans E
      obtain ⟨w3, Ew3, E⟩ := bd_some E
      have hsw3 : ShM w3.2 := ShM_core ((kpX12_bad _ _) _ Ew3) hs
      refine ea_aload_n (pc := 22) dX12_aNumber_22 rfl 0 rfl ?_
      refine ea_iconst (pc := 23) dX12_aNumber_23 (v := 2) rfl ?_
      refine ea_callV (pc := 24) (d' := d - 1) (As := [vI 2]) (st := []) dX12_aNumber_24 kX12_bad (sX12_bad (d := d - 1) (by omega) hs Ew3) (by omega) rfl (Nat.le_of_ble_eq_true rfl) ew_1971 ew_1973 ew_75 (ci := 12) rfl (by decide) (cShM_326 hs).1 (cShM_326 hs).2.1 ?_
      obtain ⟨z4, E⟩ := gd_some E
      exact ea_iretO (pc := 27) dX12_aNumber_27 rfl (ea_bn z4) E
  · have E := (if_neg c8).symm.trans E
    obtain ⟨w6, Ew6, E⟩ := bd_some E
    have hsw6 : ShM w6.2 := ShM_core ((kpX12_bad _ _) _ Ew6) hs
    refine ea_aload_n (pc := 8) dX12_aNumber_8 rfl 0 rfl ?_
    refine ea_iconst (pc := 9) dX12_aNumber_9 (v := 1) rfl ?_
    refine ea_callV (pc := 10) (d' := d - 1) (As := [vI 1]) (st := []) dX12_aNumber_10 kX12_bad (sX12_bad (d := d - 1) (by omega) hs Ew6) (by omega) rfl (Nat.le_of_ble_eq_true rfl) ew_1971 ew_1973 ew_75 (ci := 12) rfl (by decide) (cShM_326 hs).1 (cShM_326 hs).2.1 ?_
    obtain ⟨z7, E⟩ := gd_some E
    exact ea_iretO (pc := 13) dX12_aNumber_13 rfl (ea_bn z7) E
theorem kBX12_aNumber_0  {x1 : Int32} {h : ea_H} : kp (ea_core h) (BX12_aNumber_0 x1 h) :=
  (kp_ite (kp_ite (kp_let (kp_bind (kp_tw (kpX12_next0 _) rfl) fun w2 hcw2 => (kp_ret hcw2))) (kp_bind (kp_tw (kpX12_bad _ _) rfl) fun w3 hcw3 => (kp_gd (kp_ret hcw3)))) (kp_bind (kp_tw (kpX12_bad _ _) rfl) fun w6 hcw6 => (kp_gd (kp_ret hcw6))))
noncomputable def qX12_aNumber (x1 : Int32) (h : ea_H) : Option (Int32 × ea_H) := BX12_aNumber_0 x1 h
theorem sX12_aNumber {d : Nat} {x1 : Int32} {h : ea_H} {r : Int32} {h' : ea_H} (hd : 9 ≤ d) (hs : ShM h) (K : qX12_aNumber x1 h = some (r, h')) : ea_Met mX12_aNumber d [vR (some 326), vI x1] h (some (vI r)) h' := by
  unfold qX12_aNumber at K
  have W := tBX12_aNumber_0 hd (h0 := h) K hs
  exact ea_enter rfl (Nat.le_of_ble_eq_true rfl) W
theorem kpX12_aNumber (x1 : Int32) (h : ea_H) : kp (ea_core h) (qX12_aNumber x1 h) := kBX12_aNumber_0
noncomputable def BX12_lay_0 (x1 : Int32) (x2 : Int32) (h : ea_H) : Option (Unit × ea_H) :=
  (gd (vp_in ((2 : Int32) * (ea_i h 326 45)) 1220) (ea_let (ea_wi h 361 (Int32.toNatClampNeg ((2 : Int32) * (ea_i h 326 45))) x1) fun H2 => (gd (vp_in (((2 : Int32) * (ea_i H2 326 45)) + (1 : Int32)) 1220) (ea_let (ea_wi H2 361 (Int32.toNatClampNeg (((2 : Int32) * (ea_i H2 326 45)) + (1 : Int32))) x2) fun H4 => (ea_let (ea_wi H4 326 45 ((ea_i H4 326 45) + (1 : Int32))) fun H5 => (some ((), H5)))))))
theorem tBX12_lay_0 {d : Nat} {h0 : ea_H} (hd : 1 ≤ d)  {x1 : Int32} {x2 : Int32} {h : ea_H} {r : Unit} {h' : ea_H} (E : BX12_lay_0 x1 x2 h = some (r, h')) (hs : ShM h) : ea_W mX12_lay d h0 none h' 0 [(0, vR (some 326)), (1, vI x1), (2, vI x2)] [] h := by
  unfold BX12_lay_0 at E
  obtain ⟨z1, E⟩ := gd_some E
  refine ea_aload_n (pc := 0) dX12_lay_0 rfl 0 rfl ?_
  refine ea_getR (pc := 1) dX12_lay_1 ec_12 (k := 40) (Nat.le_of_ble_eq_true rfl) rfl (Or.inl ew_1442) (cShM_326 hs).1 (cShM_326 hs).2.1 (rShM_326_40 hs) ?_
  refine ea_iconst (pc := 4) dX12_lay_4 (v := 2) rfl ?_
  refine ea_aload_n (pc := 5) dX12_lay_5 rfl 0 rfl ?_
  refine ea_getI (pc := 6) dX12_lay_6 ec_12 (k := 45) (Nat.le_of_ble_eq_true rfl) rfl (Or.inl ew_1447) (cShM_326 hs).1 (cShM_326 hs).2.1 ?_
  refine ea_imul (pc := 9) dX12_lay_9 ?_
  refine ea_iload_n (pc := 10) dX12_lay_10 rfl 1 rfl ?_
  obtain ⟨H2, eH2, E⟩ := let_some E
  refine ea_iast (pc := 11) dX12_lay_11 (cShM_361 hs).1 (cShM_361 hs).2.1 (ea_vpl (cShM_361 hs).2.2 z1) ?_
  refine ea_nm eH2 ?_
  have hsH2 : ShM H2 := by rw [eH2]; exact hs
  obtain ⟨z3, E⟩ := gd_some E
  refine ea_aload_n (pc := 12) dX12_lay_12 rfl 0 rfl ?_
  refine ea_getR (pc := 13) dX12_lay_13 ec_12 (k := 40) (Nat.le_of_ble_eq_true rfl) rfl (Or.inl ew_1442) (cShM_326 hsH2).1 (cShM_326 hsH2).2.1 (rShM_326_40 hsH2) ?_
  refine ea_iconst (pc := 16) dX12_lay_16 (v := 2) rfl ?_
  refine ea_aload_n (pc := 17) dX12_lay_17 rfl 0 rfl ?_
  refine ea_getI (pc := 18) dX12_lay_18 ec_12 (k := 45) (Nat.le_of_ble_eq_true rfl) rfl (Or.inl ew_1447) (cShM_326 hsH2).1 (cShM_326 hsH2).2.1 ?_
  refine ea_imul (pc := 21) dX12_lay_21 ?_
  refine ea_iconst (pc := 22) dX12_lay_22 (v := 1) rfl ?_
  refine ea_iadd (pc := 23) dX12_lay_23 ?_
  refine ea_iload_n (pc := 24) dX12_lay_24 rfl 2 rfl ?_
  obtain ⟨H4, eH4, E⟩ := let_some E
  refine ea_iast (pc := 25) dX12_lay_25 (cShM_361 hsH2).1 (cShM_361 hsH2).2.1 (ea_vpl (cShM_361 hsH2).2.2 z3) ?_
  refine ea_nm eH4 ?_
  have hsH4 : ShM H4 := by rw [eH4]; exact hsH2
  obtain ⟨H5, eH5, E⟩ := let_some E
  refine ea_aload_n (pc := 26) dX12_lay_26 rfl 0 rfl ?_
  refine ea_dup (pc := 27) dX12_lay_27 rfl ?_
  refine ea_getI (pc := 28) dX12_lay_28 ec_12 (k := 45) (Nat.le_of_ble_eq_true rfl) rfl (Or.inl ew_1447) (cShM_326 hsH4).1 (cShM_326 hsH4).2.1 ?_
  refine ea_iconst (pc := 31) dX12_lay_31 (v := 1) rfl ?_
  refine ea_iadd (pc := 32) dX12_lay_32 ?_
  refine ea_putI (pc := 33) dX12_lay_33 ec_12 (k := 45) (Nat.le_of_ble_eq_true rfl) rfl (Or.inl ⟨rfl, Or.inl ew_1447⟩) rfl rfl (cShM_326 hsH4).1 (cShM_326 hsH4).2.1 ?_
  refine ea_nm eH5 ?_
  have hsH5 : ShM H5 := by rw [eH5]; exact hsH4
  exact ea_vretO (pc := 36) dX12_lay_36 rfl E
theorem kBX12_lay_0  {x1 : Int32} {x2 : Int32} {h : ea_H} : kp (ea_core h) (BX12_lay_0 x1 x2 h) :=
  (kp_gd (kp_let (kp_gd (kp_let (kp_let (kp_ret rfl))))))
noncomputable def qX12_lay (x1 : Int32) (x2 : Int32) (h : ea_H) : Option (Unit × ea_H) := BX12_lay_0 x1 x2 h
theorem sX12_lay {d : Nat} {x1 : Int32} {x2 : Int32} {h : ea_H} {r : Unit} {h' : ea_H} (hd : 1 ≤ d) (hs : ShM h) (K : qX12_lay x1 x2 h = some (r, h')) : ea_Met mX12_lay d [vR (some 326), vI x1, vI x2] h none h' := by
  unfold qX12_lay at K
  have W := tBX12_lay_0 hd (h0 := h) K hs
  exact ea_enter rfl (Nat.le_of_ble_eq_true rfl) W
theorem kpX12_lay (x1 : Int32) (x2 : Int32) (h : ea_H) : kp (ea_core h) (qX12_lay x1 x2 h) := kBX12_lay_0
noncomputable def BX12_opens_0 (h : ea_H) : Option (Int32 × ea_H) :=
  (if (ea_i h 326 60) = (8 : Int32) then (Option.bind (qX12_bad (3 : Int32) h) fun w3 => (gd ((w3.1 = 0 ∨ w3.1 = 1)) (some (w3.1, w3.2)))) else (ea_let (ea_wi h 326 60 ((ea_i h 326 60) + (1 : Int32))) fun H1 => (Option.bind (qX12_next0  H1) fun w2 => (some ((1 : Int32), w2.2)))))
theorem tBX12_opens_0 {d : Nat} {h0 : ea_H} (hd : 9 ≤ d)  {h : ea_H} {r : Int32} {h' : ea_H} (E : BX12_opens_0 h = some (r, h')) (hs : ShM h) : ea_W mX12_opens d h0 (some (vI r)) h' 0 [(0, vR (some 326))] [] h := by
  unfold BX12_opens_0 at E
  refine ea_aload_n (pc := 0) dX12_opens_0 rfl 0 rfl ?_
  refine ea_getI (pc := 1) dX12_opens_1 ec_12 (k := 60) (Nat.le_of_ble_eq_true rfl) rfl (Or.inl ew_1462) (cShM_326 hs).1 (cShM_326 hs).2.1 ?_
  refine ea_bipush (pc := 4) dX12_opens_4 (v := 8) rfl ?_
  refine ea_icmp_ne (pc := 6) (tgt := 15) dX12_opens_6 rfl (fun c5 => ?_) (fun c5 => ?_)
  · have E := (if_neg c5).symm.trans E
    obtain ⟨H1, eH1, E⟩ := let_some E
    refine ea_aload_n (pc := 15) dX12_opens_15 rfl 0 rfl ?_
    refine ea_dup (pc := 16) dX12_opens_16 rfl ?_
    refine ea_getI (pc := 17) dX12_opens_17 ec_12 (k := 60) (Nat.le_of_ble_eq_true rfl) rfl (Or.inl ew_1462) (cShM_326 hs).1 (cShM_326 hs).2.1 ?_
    refine ea_iconst (pc := 20) dX12_opens_20 (v := 1) rfl ?_
    refine ea_iadd (pc := 21) dX12_opens_21 ?_
    refine ea_putI (pc := 22) dX12_opens_22 ec_12 (k := 60) (Nat.le_of_ble_eq_true rfl) rfl (Or.inl ⟨rfl, Or.inl ew_1462⟩) rfl rfl (cShM_326 hs).1 (cShM_326 hs).2.1 ?_
    refine ea_nm eH1 ?_
    have hsH1 : ShM H1 := by rw [eH1]; exact hs
    obtain ⟨w2, Ew2, E⟩ := bd_some E
    have hsw2 : ShM w2.2 := ShM_core ((kpX12_next0 _) _ Ew2) hsH1
    refine ea_aload_n (pc := 25) dX12_opens_25 rfl 0 rfl ?_
    refine ea_callV (pc := 26) (d' := d - 1) (As := []) (st := []) dX12_opens_26 kX12_next0 (sX12_next0 (d := d - 1) (by omega) hsH1 Ew2) (by omega) rfl (Nat.le_of_ble_eq_true rfl) ew_1879 ew_1881 ew_70 (ci := 12) rfl (by decide) (cShM_326 hsH1).1 (cShM_326 hsH1).2.1 ?_
    refine ea_iconst (pc := 29) dX12_opens_29 (v := 1) rfl ?_
    exact ea_iretO (pc := 30) dX12_opens_30 rfl (ea_bn (Or.inr rfl)) E
  · have E := (if_pos c5).symm.trans E
    obtain ⟨w3, Ew3, E⟩ := bd_some E
    have hsw3 : ShM w3.2 := ShM_core ((kpX12_bad _ _) _ Ew3) hs
    refine ea_aload_n (pc := 9) dX12_opens_9 rfl 0 rfl ?_
    refine ea_iconst (pc := 10) dX12_opens_10 (v := 3) rfl ?_
    refine ea_callV (pc := 11) (d' := d - 1) (As := [vI 3]) (st := []) dX12_opens_11 kX12_bad (sX12_bad (d := d - 1) (by omega) hs Ew3) (by omega) rfl (Nat.le_of_ble_eq_true rfl) ew_1971 ew_1973 ew_75 (ci := 12) rfl (by decide) (cShM_326 hs).1 (cShM_326 hs).2.1 ?_
    obtain ⟨z4, E⟩ := gd_some E
    exact ea_iretO (pc := 14) dX12_opens_14 rfl (ea_bn z4) E
theorem kBX12_opens_0  {h : ea_H} : kp (ea_core h) (BX12_opens_0 h) :=
  (kp_ite (kp_bind (kp_tw (kpX12_bad _ _) rfl) fun w3 hcw3 => (kp_gd (kp_ret hcw3))) (kp_let (kp_bind (kp_tw (kpX12_next0 _) rfl) fun w2 hcw2 => (kp_ret hcw2))))
noncomputable def qX12_opens (h : ea_H) : Option (Int32 × ea_H) := BX12_opens_0 h
theorem sX12_opens {d : Nat} {h : ea_H} {r : Int32} {h' : ea_H} (hd : 9 ≤ d) (hs : ShM h) (K : qX12_opens h = some (r, h')) : ea_Met mX12_opens d [vR (some 326)] h (some (vI r)) h' := by
  unfold qX12_opens at K
  have W := tBX12_opens_0 hd (h0 := h) K hs
  exact ea_enter rfl (Nat.le_of_ble_eq_true rfl) W
theorem kpX12_opens (h : ea_H) : kp (ea_core h) (qX12_opens h) := kBX12_opens_0
noncomputable def BX12_fault_0 (x1 : Int32) (h : ea_H) : Option (Int32 × ea_H) :=
  (if x1 = (0 : Int32) then (some ((ea_i h 326 59), h)) else (if x1 = (1 : Int32) then (some ((ea_i h 326 62), h)) else (some (((-1) : Int32), h))))
theorem tBX12_fault_0 {d : Nat} {h0 : ea_H} (hd : 1 ≤ d)  {x1 : Int32} {h : ea_H} {r : Int32} {h' : ea_H} (E : BX12_fault_0 x1 h = some (r, h')) (hs : ShM h) : ea_W mX12_fault d h0 (some (vI r)) h' 0 [(0, vR (some 326)), (1, vI x1)] [] h := by
  unfold BX12_fault_0 at E
  refine ea_iload_n (pc := 0) dX12_fault_0 rfl 1 rfl ?_
  refine ea_if_ne (pc := 1) (tgt := 11) dX12_fault_1 rfl (fun c2 => ?_) (fun c2 => ?_)
  · have E := (if_neg c2).symm.trans E
    refine ea_iload_n (pc := 11) dX12_fault_11 rfl 1 rfl ?_
    refine ea_iconst (pc := 12) dX12_fault_12 (v := 1) rfl ?_
    refine ea_icmp_ne (pc := 13) (tgt := 23) dX12_fault_13 rfl (fun c1 => ?_) (fun c1 => ?_)
    · have E := (if_neg c1).symm.trans E
      refine ea_iconst (pc := 23) dX12_fault_23 (v := (-1)) rfl ?_
      exact ea_iretO (pc := 24) dX12_fault_24 rfl rfl E
    · have E := (if_pos c1).symm.trans E
      refine ea_aload_n (pc := 16) dX12_fault_16 rfl 0 rfl ?_
      refine ea_getI (pc := 17) dX12_fault_17 ec_12 (k := 62) (Nat.le_of_ble_eq_true rfl) rfl (Or.inl ew_1464) (cShM_326 hs).1 (cShM_326 hs).2.1 ?_
      refine ea_goto (pc := 20) (tgt := 24) dX12_fault_20 rfl ?_
      exact ea_iretO (pc := 24) dX12_fault_24 rfl rfl E
  · have E := (if_pos c2).symm.trans E
    refine ea_aload_n (pc := 4) dX12_fault_4 rfl 0 rfl ?_
    refine ea_getI (pc := 5) dX12_fault_5 ec_12 (k := 59) (Nat.le_of_ble_eq_true rfl) rfl (Or.inl ew_1461) (cShM_326 hs).1 (cShM_326 hs).2.1 ?_
    refine ea_goto (pc := 8) (tgt := 24) dX12_fault_8 rfl ?_
    exact ea_iretO (pc := 24) dX12_fault_24 rfl rfl E
theorem kBX12_fault_0  {x1 : Int32} {h : ea_H} : kp (ea_core h) (BX12_fault_0 x1 h) :=
  (kp_ite (kp_ret rfl) (kp_ite (kp_ret rfl) (kp_ret rfl)))
noncomputable def qX12_fault (x1 : Int32) (h : ea_H) : Option (Int32 × ea_H) := BX12_fault_0 x1 h
theorem sX12_fault {d : Nat} {x1 : Int32} {h : ea_H} {r : Int32} {h' : ea_H} (hd : 1 ≤ d) (hs : ShM h) (K : qX12_fault x1 h = some (r, h')) : ea_Met mX12_fault d [vR (some 326), vI x1] h (some (vI r)) h' := by
  unfold qX12_fault at K
  have W := tBX12_fault_0 hd (h0 := h) K hs
  exact ea_enter rfl (Nat.le_of_ble_eq_true rfl) W
theorem kpX12_fault (x1 : Int32) (h : ea_H) : kp (ea_core h) (qX12_fault x1 h) := kBX12_fault_0
noncomputable def BX12_actOn_0 (J7 : Int32 → Int32 → ea_H → Option (Int32 × ea_H)) (x1 : Int32) (h : ea_H) : Option (Int32 × ea_H) :=
  (ea_let ((ea_i h 326 25) - (1 : Int32)) fun (v1 : Int32) => (J7 (x1 : Int32) (v1 : Int32) h))
theorem tBX12_actOn_0 {d : Nat} {h0 : ea_H} (hd : 1 ≤ d) {J7 : Int32 → Int32 → ea_H → Option (Int32 × ea_H)}  (kJ7 : ∀ (x1 : Int32) (x2 : Int32) (h : ea_H) (r : Int32) (h' : ea_H), J7 x1 x2 h = some (r, h') → ShM h → ea_W mX12_actOn d h0 (some (vI r)) h' 7 [(0, vR (some 326)), (1, vI x1), (2, vI x2)] [] h) {x1 : Int32} {h : ea_H} {r : Int32} {h' : ea_H} (E : BX12_actOn_0 J7 x1 h = some (r, h')) (hs : ShM h) : ea_W mX12_actOn d h0 (some (vI r)) h' 0 [(0, vR (some 326)), (1, vI x1)] [] h := by
  unfold BX12_actOn_0 at E
  obtain ⟨v1, ev1, E⟩ := let_some E
  refine ea_aload_n (pc := 0) dX12_actOn_0 rfl 0 rfl ?_
  refine ea_getI (pc := 1) dX12_actOn_1 ec_12 (k := 25) (Nat.le_of_ble_eq_true rfl) rfl (Or.inl ew_1427) (cShM_326 hs).1 (cShM_326 hs).2.1 ?_
  refine ea_iconst (pc := 4) dX12_actOn_4 (v := 1) rfl ?_
  refine ea_isub (pc := 5) dX12_actOn_5 ?_
  refine ea_istore_n (pc := 6) (lv' := [(0, vR (some 326)), (1, vI x1), (2, vI v1)]) dX12_actOn_6 rfl (Nat.le_of_ble_eq_true rfl) [1, 2, 0] (by rw [ev1]; rfl) ?_
  exact (kJ7 (x1 : Int32) (v1 : Int32) h _ _ E hs)
theorem kBX12_actOn_0 {J7 : Int32 → Int32 → ea_H → Option (Int32 × ea_H)}  (cJ7 : ∀ (x1 : Int32) (x2 : Int32) (h : ea_H), kp (ea_core h) (J7 x1 x2 h)) {x1 : Int32} {h : ea_H} : kp (ea_core h) (BX12_actOn_0 J7 x1 h) :=
  (kp_let (kp_tw (cJ7 _ _ _) rfl))
theorem lBX12_actOn_0 {J7 : Int32 → Int32 → ea_H → Option (Int32 × ea_H)} {J7_ : Int32 → Int32 → ea_H → Option (Int32 × ea_H)}  (mJ7 : ∀ (x1 : Int32) (x2 : Int32) (h : ea_H), fle (J7 x1 x2 h) (J7_ x1 x2 h)) {x1 : Int32} {h : ea_H} : fle (BX12_actOn_0 J7 x1 h) (BX12_actOn_0 J7_ x1 h) :=
  (fle_let fun _ => (mJ7 _ _ _))
theorem nBX12_actOn_0 {J7 : Int32 → Int32 → ea_H → Option (Int32 × ea_H)} {J7_ : Nat → (Int32 → Int32 → ea_H → Option (Int32 × ea_H))}  (mJ7 : ∀ (x1 : Int32) (x2 : Int32) (h : ea_H), fct (J7 x1 x2 h) (fun f => J7_ f x1 x2 h)) {x1 : Int32} {h : ea_H} : fct (BX12_actOn_0 J7 x1 h) (fun f => BX12_actOn_0 (J7_ f) x1 h) :=
  (fct_let fun _ => (mJ7 _ _ _))
noncomputable def BX12_actOn_7 (J7 : Int32 → Int32 → ea_H → Option (Int32 × ea_H)) (x1 : Int32) (x2 : Int32) (h : ea_H) : Option (Int32 × ea_H) :=
  (if x2 < (0 : Int32) then (some (x2, h)) else (gd (vp_in x2 6) (if (ea_i h 347 (Int32.toNatClampNeg x2)) ≤ x1 then (some (x2, h)) else (J7 (x1 : Int32) ((x2 + ((-1) : Int32)) : Int32) h))))
theorem tBX12_actOn_7 {d : Nat} {h0 : ea_H} (hd : 1 ≤ d) {J7 : Int32 → Int32 → ea_H → Option (Int32 × ea_H)}  (kJ7 : ∀ (x1 : Int32) (x2 : Int32) (h : ea_H) (r : Int32) (h' : ea_H), J7 x1 x2 h = some (r, h') → ShM h → ea_W mX12_actOn d h0 (some (vI r)) h' 7 [(0, vR (some 326)), (1, vI x1), (2, vI x2)] [] h) {x1 : Int32} {x2 : Int32} {h : ea_H} {r : Int32} {h' : ea_H} (E : BX12_actOn_7 J7 x1 x2 h = some (r, h')) (hs : ShM h) : ea_W mX12_actOn d h0 (some (vI r)) h' 7 [(0, vR (some 326)), (1, vI x1), (2, vI x2)] [] h := by
  unfold BX12_actOn_7 at E
  refine ea_iload_n (pc := 7) dX12_actOn_7 rfl 2 rfl ?_
  refine ea_if_lt (pc := 8) (tgt := 27) dX12_actOn_8 rfl (fun c4 => ?_) (fun c4 => ?_)
  · have E := (if_pos c4).symm.trans E
    refine ea_iload_n (pc := 27) dX12_actOn_27 rfl 2 rfl ?_
    exact ea_iretO (pc := 28) dX12_actOn_28 rfl rfl E
  · have E := (if_neg c4).symm.trans E
    obtain ⟨z2, E⟩ := gd_some E
    refine ea_aload_n (pc := 11) dX12_actOn_11 rfl 0 rfl ?_
    refine ea_getR (pc := 12) dX12_actOn_12 ec_12 (k := 26) (Nat.le_of_ble_eq_true rfl) rfl (Or.inl ew_1428) (cShM_326 hs).1 (cShM_326 hs).2.1 (rShM_326_26 hs) ?_
    refine ea_iload_n (pc := 15) dX12_actOn_15 rfl 2 rfl ?_
    refine ea_iald (pc := 16) dX12_actOn_16 (cShM_347 hs).1 (cShM_347 hs).2.1 (ea_vpl (cShM_347 hs).2.2 z2) ?_
    refine ea_iload_n (pc := 17) dX12_actOn_17 rfl 1 rfl ?_
    refine ea_icmp_le (pc := 18) (tgt := 27) dX12_actOn_18 rfl (fun c3 => ?_) (fun c3 => ?_)
    · have E := (if_pos c3).symm.trans E
      refine ea_iload_n (pc := 27) dX12_actOn_27 rfl 2 rfl ?_
      exact ea_iretO (pc := 28) dX12_actOn_28 rfl rfl E
    · have E := (if_neg c3).symm.trans E
      refine ea_iinc (pc := 21) (v := (-1)) (lv' := [(0, vR (some 326)), (1, vI x1), (2, vI (x2 + ((-1) : Int32)))]) dX12_actOn_21 2 rfl rfl (Nat.le_of_ble_eq_true rfl) [1, 2, 0] rfl ?_
      refine ea_goto (pc := 24) (tgt := 7) dX12_actOn_24 rfl ?_
      exact (kJ7 (x1 : Int32) ((x2 + ((-1) : Int32)) : Int32) h _ _ E hs)
theorem kBX12_actOn_7 {J7 : Int32 → Int32 → ea_H → Option (Int32 × ea_H)}  (cJ7 : ∀ (x1 : Int32) (x2 : Int32) (h : ea_H), kp (ea_core h) (J7 x1 x2 h)) {x1 : Int32} {x2 : Int32} {h : ea_H} : kp (ea_core h) (BX12_actOn_7 J7 x1 x2 h) :=
  (kp_ite (kp_ret rfl) (kp_gd (kp_ite (kp_ret rfl) (kp_tw (cJ7 _ _ _) rfl))))
theorem lBX12_actOn_7 {J7 : Int32 → Int32 → ea_H → Option (Int32 × ea_H)} {J7_ : Int32 → Int32 → ea_H → Option (Int32 × ea_H)}  (mJ7 : ∀ (x1 : Int32) (x2 : Int32) (h : ea_H), fle (J7 x1 x2 h) (J7_ x1 x2 h)) {x1 : Int32} {x2 : Int32} {h : ea_H} : fle (BX12_actOn_7 J7 x1 x2 h) (BX12_actOn_7 J7_ x1 x2 h) :=
  (fle_ite (fle_rfl _) (fle_gd (fle_ite (fle_rfl _) (mJ7 _ _ _))))
theorem nBX12_actOn_7 {J7 : Int32 → Int32 → ea_H → Option (Int32 × ea_H)} {J7_ : Nat → (Int32 → Int32 → ea_H → Option (Int32 × ea_H))}  (mJ7 : ∀ (x1 : Int32) (x2 : Int32) (h : ea_H), fct (J7 x1 x2 h) (fun f => J7_ f x1 x2 h)) {x1 : Int32} {x2 : Int32} {h : ea_H} : fct (BX12_actOn_7 J7 x1 x2 h) (fun f => BX12_actOn_7 (J7_ f) x1 x2 h) :=
  (fct_ite (fct_rfl _) (fct_gd (fct_ite (fct_rfl _) (mJ7 _ _ _))))
noncomputable def gX12_actOn : Nat → (Int32 → ea_H → Option (Int32 × ea_H)) × (Int32 → Int32 → ea_H → Option (Int32 × ea_H))
  | 0 => (fun _ _ => none, fun _ _ _ => none)
  | f + 1 => (BX12_actOn_0 (gX12_actOn f).2, BX12_actOn_7 (gX12_actOn f).2)
theorem mgX12_actOn : ∀ f : Nat, (∀ (x1 : Int32) (h : ea_H), fle ((gX12_actOn f).1 x1 h) ((gX12_actOn (f + 1)).1 x1 h)) ∧ (∀ (x1 : Int32) (x2 : Int32) (h : ea_H), fle ((gX12_actOn f).2 x1 x2 h) ((gX12_actOn (f + 1)).2 x1 x2 h)) := by
  intro f
  induction f with
  | zero => exact ⟨fun _ _ => fle_none _, fun _ _ _ => fle_none _⟩
  | succ f ih => exact ⟨fun _ _ => lBX12_actOn_0 ih.2, fun _ _ _ => lBX12_actOn_7 ih.2⟩
noncomputable def qX12_actOn_0 (x1 : Int32) (h : ea_H) : Option (Int32 × ea_H) := flim fun f => (gX12_actOn f).1 x1 h
noncomputable def qX12_actOn_7 (x1 : Int32) (x2 : Int32) (h : ea_H) : Option (Int32 × ea_H) := flim fun f => (gX12_actOn f).2 x1 x2 h
theorem fqX12_actOn_0 (x1 : Int32) (h : ea_H) : fct (qX12_actOn_0 x1 h) fun f => (gX12_actOn f).1 x1 h := flim_ct fun f => (mgX12_actOn f).1 x1 h
theorem fqX12_actOn_7 (x1 : Int32) (x2 : Int32) (h : ea_H) : fct (qX12_actOn_7 x1 x2 h) fun f => (gX12_actOn f).2 x1 x2 h := flim_ct fun f => (mgX12_actOn f).2 x1 x2 h
/-- how a block opens -/
theorem uqX12_actOn_0 {x1 : Int32} {h : ea_H} {P : Int32 × ea_H → Prop} (H : sat (BX12_actOn_0 qX12_actOn_7 x1 h) P) : sat (qX12_actOn_0 x1 h) P := by
  obtain ⟨x, e, hp⟩ := H
  obtain ⟨n, hn⟩ := nBX12_actOn_0 fqX12_actOn_7 x e
  exact ⟨x, flim_at (fun f => (mgX12_actOn f).1 x1 h) (f := n + 1) (hn n (Nat.le_refl _)), hp⟩
/-- how a block opens -/
theorem uqX12_actOn_7 {x1 : Int32} {x2 : Int32} {h : ea_H} {P : Int32 × ea_H → Prop} (H : sat (BX12_actOn_7 qX12_actOn_7 x1 x2 h) P) : sat (qX12_actOn_7 x1 x2 h) P := by
  obtain ⟨x, e, hp⟩ := H
  obtain ⟨n, hn⟩ := nBX12_actOn_7 fqX12_actOn_7 x e
  exact ⟨x, flim_at (fun f => (mgX12_actOn f).2 x1 x2 h) (f := n + 1) (hn n (Nat.le_refl _)), hp⟩
theorem kgX12_actOn : ∀ f : Nat, (∀ (x1 : Int32) (h : ea_H), kp (ea_core h) ((gX12_actOn f).1 x1 h)) ∧ (∀ (x1 : Int32) (x2 : Int32) (h : ea_H), kp (ea_core h) ((gX12_actOn f).2 x1 x2 h)) := by
  intro f
  induction f with
  | zero => exact ⟨fun _ _ => kp_none _, fun _ _ _ => kp_none _⟩
  | succ f ih => exact ⟨fun _ _ => kBX12_actOn_0 ih.2, fun _ _ _ => kBX12_actOn_7 ih.2⟩
theorem tgX12_actOn {d : Nat} {h0 : ea_H} (hd : 1 ≤ d) : ∀ f : Nat, (∀ (x1 : Int32) (h : ea_H) (r : Int32) (h' : ea_H), (gX12_actOn f).1 x1 h = some (r, h') → ShM h → ea_W mX12_actOn d h0 (some (vI r)) h' 0 [(0, vR (some 326)), (1, vI x1)] [] h) ∧ (∀ (x1 : Int32) (x2 : Int32) (h : ea_H) (r : Int32) (h' : ea_H), (gX12_actOn f).2 x1 x2 h = some (r, h') → ShM h → ea_W mX12_actOn d h0 (some (vI r)) h' 7 [(0, vR (some 326)), (1, vI x1), (2, vI x2)] [] h) := by
  intro f
  induction f with
  | zero => exact ⟨fun _ _ _ _ E => no_some E, fun _ _ _ _ _ E => no_some E⟩
  | succ f ih => exact ⟨fun _ _ _ _ E hs => tBX12_actOn_0 hd ih.2 E hs, fun _ _ _ _ _ E hs => tBX12_actOn_7 hd ih.2 E hs⟩
noncomputable def qX12_actOn (x1 : Int32) (h : ea_H) : Option (Int32 × ea_H) := qX12_actOn_0 x1 h
theorem sX12_actOn {d : Nat} {x1 : Int32} {h : ea_H} {r : Int32} {h' : ea_H} (hd : 1 ≤ d) (hs : ShM h) (K : qX12_actOn x1 h = some (r, h')) : ea_Met mX12_actOn d [vR (some 326), vI x1] h (some (vI r)) h' := by
  unfold qX12_actOn at K
  obtain ⟨n, hn⟩ := fqX12_actOn_0 x1 h _ K
  have W := (tgX12_actOn (d := d) (h0 := h) hd n).1 x1 h _ _ (hn n (Nat.le_refl _)) hs
  exact ea_enter rfl (Nat.le_of_ble_eq_true rfl) W
theorem kpX12_actOn (x1 : Int32) (h : ea_H) : kp (ea_core h) (qX12_actOn x1 h) := fun x e => by
  obtain ⟨n, hn⟩ := fqX12_actOn_0 x1 h x e
  exact (kgX12_actOn n).1 x1 h x (hn n (Nat.le_refl _))
noncomputable def BX12_inForce_0 (J16 : Int32 → Int32 → ea_H → Option (Int32 × ea_H)) (x1 : Int32) (x2 : Int32) (h : ea_H) : Option (Int32 × ea_H) :=
  (Option.bind (qX12_isDay (x1 : Int32) h) fun w1 => (if w1.1 = (0 : Int32) then (J16 (x2 : Int32) ((-1) : Int32) w1.2) else (Option.bind (qX12_actOn (x1 : Int32) w1.2) fun w2 => (J16 (x2 : Int32) (w2.1 : Int32) w2.2))))
theorem tBX12_inForce_0 {d : Nat} {h0 : ea_H} (hd : 3 ≤ d) {J16 : Int32 → Int32 → ea_H → Option (Int32 × ea_H)}  (kJ16 : ∀ (x2 : Int32) (sx0 : Int32) (h : ea_H) (r : Int32) (h' : ea_H), J16 x2 sx0 h = some (r, h') → ShM h → ea_W mX12_inForce d h0 (some (vI r)) h' 16 [(0, vR (some 326)), (2, vI x2)] [vI sx0] h) {x1 : Int32} {x2 : Int32} {h : ea_H} {r : Int32} {h' : ea_H} (E : BX12_inForce_0 J16 x1 x2 h = some (r, h')) (hs : ShM h) : ea_W mX12_inForce d h0 (some (vI r)) h' 0 [(0, vR (some 326)), (1, vI x1), (2, vI x2)] [] h := by
  unfold BX12_inForce_0 at E
  obtain ⟨w1, Ew1, E⟩ := bd_some E
  have hsw1 : ShM w1.2 := ShM_core ((kpX12_isDay _ _) _ Ew1) hs
  refine ea_iload_n (pc := 0) dX12_inForce_0 rfl 1 rfl ?_
  refine ea_callS (pc := 1) (d' := d - 1) (As := [vI x1]) (st := []) dX12_inForce_1 kX12_isDay (sX12_isDay (d := d - 1) (by omega) Ew1) (by omega) rfl (Nat.le_of_ble_eq_true rfl) ew_1809 ew_1810 ?_
  refine ea_if_eq (pc := 4) (tgt := 15) dX12_inForce_4 rfl (fun c3 => ?_) (fun c3 => ?_)
  · have E := (if_pos c3).symm.trans E
    refine ea_iconst (pc := 15) dX12_inForce_15 (v := (-1)) rfl ?_
    exact ea_fewer [0, 2] rfl (kJ16 (x2 : Int32) ((-1) : Int32) w1.2 _ _ E hsw1)
  · have E := (if_neg c3).symm.trans E
    obtain ⟨w2, Ew2, E⟩ := bd_some E
    have hsw2 : ShM w2.2 := ShM_core ((kpX12_actOn _ _) _ Ew2) hsw1
    refine ea_aload_n (pc := 7) dX12_inForce_7 rfl 0 rfl ?_
    refine ea_iload_n (pc := 8) dX12_inForce_8 rfl 1 rfl ?_
    refine ea_callV (pc := 9) (d' := d - 1) (As := [vI x1]) (st := []) dX12_inForce_9 kX12_actOn (sX12_actOn (d := d - 1) (by omega) hsw1 Ew2) (by omega) rfl (Nat.le_of_ble_eq_true rfl) ew_2032 ew_2034 ew_88 (ci := 12) rfl (by decide) (cShM_326 hsw1).1 (cShM_326 hsw1).2.1 ?_
    refine ea_goto (pc := 12) (tgt := 16) dX12_inForce_12 rfl ?_
    exact ea_fewer [0, 2] rfl (kJ16 (x2 : Int32) (w2.1 : Int32) w2.2 _ _ E hsw2)
theorem kBX12_inForce_0 {J16 : Int32 → Int32 → ea_H → Option (Int32 × ea_H)}  (cJ16 : ∀ (x2 : Int32) (sx0 : Int32) (h : ea_H), kp (ea_core h) (J16 x2 sx0 h)) {x1 : Int32} {x2 : Int32} {h : ea_H} : kp (ea_core h) (BX12_inForce_0 J16 x1 x2 h) :=
  (kp_bind (kp_tw (kpX12_isDay _ _) rfl) fun w1 hcw1 => (kp_ite (kp_tw (cJ16 _ _ _) hcw1) (kp_bind (kp_tw (kpX12_actOn _ _) hcw1) fun w2 hcw2 => (kp_tw (cJ16 _ _ _) hcw2))))
theorem lBX12_inForce_0 {J16 : Int32 → Int32 → ea_H → Option (Int32 × ea_H)} {J16_ : Int32 → Int32 → ea_H → Option (Int32 × ea_H)}  (mJ16 : ∀ (x2 : Int32) (sx0 : Int32) (h : ea_H), fle (J16 x2 sx0 h) (J16_ x2 sx0 h)) {x1 : Int32} {x2 : Int32} {h : ea_H} : fle (BX12_inForce_0 J16 x1 x2 h) (BX12_inForce_0 J16_ x1 x2 h) :=
  (fle_bind (fle_rfl _) fun _ => (fle_ite (mJ16 _ _ _) (fle_bind (fle_rfl _) fun _ => (mJ16 _ _ _))))
theorem nBX12_inForce_0 {J16 : Int32 → Int32 → ea_H → Option (Int32 × ea_H)} {J16_ : Nat → (Int32 → Int32 → ea_H → Option (Int32 × ea_H))}  (mJ16 : ∀ (x2 : Int32) (sx0 : Int32) (h : ea_H), fct (J16 x2 sx0 h) (fun f => J16_ f x2 sx0 h)) {x1 : Int32} {x2 : Int32} {h : ea_H} : fct (BX12_inForce_0 J16 x1 x2 h) (fun f => BX12_inForce_0 (J16_ f) x1 x2 h) :=
  (fct_bind (fct_rfl _) fun _ => (fct_ite (mJ16 _ _ _) (fct_bind (fct_rfl _) fun _ => (mJ16 _ _ _))))
noncomputable def BX12_inForce_16 (x2 : Int32) (sx0 : Int32) (h : ea_H) : Option (Int32 × ea_H) :=
  (if sx0 = ((-1) : Int32) then (some (((-1) : Int32), h)) else (if Int32.toInt x2 = 0 then (some (sx0, h)) else (if Int32.toInt x2 = 1 then (gd (vp_in sx0 6) (some ((ea_i h 348 (Int32.toNatClampNeg sx0)), h))) else (if Int32.toInt x2 = 2 then (gd (vp_in sx0 6) (some ((ea_i h 349 (Int32.toNatClampNeg sx0)), h))) else (if Int32.toInt x2 = 3 then (gd (vp_in sx0 6) (some ((ea_i h 350 (Int32.toNatClampNeg sx0)), h))) else (if Int32.toInt x2 = 4 then (gd (vp_in sx0 6) (some ((ea_i h 351 (Int32.toNatClampNeg sx0)), h))) else (if Int32.toInt x2 = 5 then (gd (vp_in sx0 6) (some ((ea_i h 352 (Int32.toNatClampNeg sx0)), h))) else (if Int32.toInt x2 = 6 then (gd (vp_in sx0 6) (some ((ea_i h 353 (Int32.toNatClampNeg sx0)), h))) else (if Int32.toInt x2 = 7 then (gd (vp_in sx0 6) (some ((ea_i h 354 (Int32.toNatClampNeg sx0)), h))) else (some (((-1) : Int32), h)))))))))))
theorem tBX12_inForce_16 {d : Nat} {h0 : ea_H} (hd : 3 ≤ d)  {x2 : Int32} {sx0 : Int32} {h : ea_H} {r : Int32} {h' : ea_H} (E : BX12_inForce_16 x2 sx0 h = some (r, h')) (hs : ShM h) : ea_W mX12_inForce d h0 (some (vI r)) h' 16 [(0, vR (some 326)), (2, vI x2)] [vI sx0] h := by
  unfold BX12_inForce_16 at E
  refine ea_istore_n (pc := 16) (lv' := [(0, vR (some 326)), (2, vI x2), (3, vI sx0)]) dX12_inForce_16 rfl (Nat.le_of_ble_eq_true rfl) [1, 2, 0] rfl ?_
  refine ea_iload_n (pc := 17) dX12_inForce_17 rfl 2 rfl ?_
  refine ea_iconst (pc := 18) dX12_inForce_18 (v := (-1)) rfl ?_
  refine ea_icmp_ne (pc := 19) (tgt := 24) dX12_inForce_19 rfl (fun c11 => ?_) (fun c11 => ?_)
  · have E := (if_neg c11).symm.trans E
    refine ea_iload_n (pc := 24) dX12_inForce_24 rfl 1 rfl ?_
    by_cases q25_0 : Int32.toInt x2 = 0
    · have E := (if_pos q25_0).symm.trans E
      refine ea_tswIn (pc := 25) (tgt := 72) dX12_inForce_25 (by rw [q25_0]; decide) (by rw [q25_0]; decide) (by rw [q25_0]; rfl) rfl ?_
      refine ea_iload_n (pc := 72) dX12_inForce_72 rfl 2 rfl ?_
      exact ea_iretO (pc := 73) dX12_inForce_73 rfl rfl E
    have E := (if_neg q25_0).symm.trans E
    by_cases q25_1 : Int32.toInt x2 = 1
    · have E := (if_pos q25_1).symm.trans E
      obtain ⟨z10, E⟩ := gd_some E
      refine ea_tswIn (pc := 25) (tgt := 74) dX12_inForce_25 (by rw [q25_1]; decide) (by rw [q25_1]; decide) (by rw [q25_1]; rfl) rfl ?_
      refine ea_aload_n (pc := 74) dX12_inForce_74 rfl 0 rfl ?_
      refine ea_getR (pc := 75) dX12_inForce_75 ec_12 (k := 27) (Nat.le_of_ble_eq_true rfl) rfl (Or.inl ew_1429) (cShM_326 hs).1 (cShM_326 hs).2.1 (rShM_326_27 hs) ?_
      refine ea_iload_n (pc := 78) dX12_inForce_78 rfl 2 rfl ?_
      refine ea_iald (pc := 79) dX12_inForce_79 (cShM_348 hs).1 (cShM_348 hs).2.1 (ea_vpl (cShM_348 hs).2.2 z10) ?_
      exact ea_iretO (pc := 80) dX12_inForce_80 rfl rfl E
    have E := (if_neg q25_1).symm.trans E
    by_cases q25_2 : Int32.toInt x2 = 2
    · have E := (if_pos q25_2).symm.trans E
      obtain ⟨z9, E⟩ := gd_some E
      refine ea_tswIn (pc := 25) (tgt := 81) dX12_inForce_25 (by rw [q25_2]; decide) (by rw [q25_2]; decide) (by rw [q25_2]; rfl) rfl ?_
      refine ea_aload_n (pc := 81) dX12_inForce_81 rfl 0 rfl ?_
      refine ea_getR (pc := 82) dX12_inForce_82 ec_12 (k := 28) (Nat.le_of_ble_eq_true rfl) rfl (Or.inl ew_1430) (cShM_326 hs).1 (cShM_326 hs).2.1 (rShM_326_28 hs) ?_
      refine ea_iload_n (pc := 85) dX12_inForce_85 rfl 2 rfl ?_
      refine ea_iald (pc := 86) dX12_inForce_86 (cShM_349 hs).1 (cShM_349 hs).2.1 (ea_vpl (cShM_349 hs).2.2 z9) ?_
      exact ea_iretO (pc := 87) dX12_inForce_87 rfl rfl E
    have E := (if_neg q25_2).symm.trans E
    by_cases q25_3 : Int32.toInt x2 = 3
    · have E := (if_pos q25_3).symm.trans E
      obtain ⟨z8, E⟩ := gd_some E
      refine ea_tswIn (pc := 25) (tgt := 88) dX12_inForce_25 (by rw [q25_3]; decide) (by rw [q25_3]; decide) (by rw [q25_3]; rfl) rfl ?_
      refine ea_aload_n (pc := 88) dX12_inForce_88 rfl 0 rfl ?_
      refine ea_getR (pc := 89) dX12_inForce_89 ec_12 (k := 29) (Nat.le_of_ble_eq_true rfl) rfl (Or.inl ew_1431) (cShM_326 hs).1 (cShM_326 hs).2.1 (rShM_326_29 hs) ?_
      refine ea_iload_n (pc := 92) dX12_inForce_92 rfl 2 rfl ?_
      refine ea_iald (pc := 93) dX12_inForce_93 (cShM_350 hs).1 (cShM_350 hs).2.1 (ea_vpl (cShM_350 hs).2.2 z8) ?_
      exact ea_iretO (pc := 94) dX12_inForce_94 rfl rfl E
    have E := (if_neg q25_3).symm.trans E
    by_cases q25_4 : Int32.toInt x2 = 4
    · have E := (if_pos q25_4).symm.trans E
      obtain ⟨z7, E⟩ := gd_some E
      refine ea_tswIn (pc := 25) (tgt := 95) dX12_inForce_25 (by rw [q25_4]; decide) (by rw [q25_4]; decide) (by rw [q25_4]; rfl) rfl ?_
      refine ea_aload_n (pc := 95) dX12_inForce_95 rfl 0 rfl ?_
      refine ea_getR (pc := 96) dX12_inForce_96 ec_12 (k := 30) (Nat.le_of_ble_eq_true rfl) rfl (Or.inl ew_1432) (cShM_326 hs).1 (cShM_326 hs).2.1 (rShM_326_30 hs) ?_
      refine ea_iload_n (pc := 99) dX12_inForce_99 rfl 2 rfl ?_
      refine ea_iald (pc := 100) dX12_inForce_100 (cShM_351 hs).1 (cShM_351 hs).2.1 (ea_vpl (cShM_351 hs).2.2 z7) ?_
      exact ea_iretO (pc := 101) dX12_inForce_101 rfl rfl E
    have E := (if_neg q25_4).symm.trans E
    by_cases q25_5 : Int32.toInt x2 = 5
    · have E := (if_pos q25_5).symm.trans E
      obtain ⟨z6, E⟩ := gd_some E
      refine ea_tswIn (pc := 25) (tgt := 102) dX12_inForce_25 (by rw [q25_5]; decide) (by rw [q25_5]; decide) (by rw [q25_5]; rfl) rfl ?_
      refine ea_aload_n (pc := 102) dX12_inForce_102 rfl 0 rfl ?_
      refine ea_getR (pc := 103) dX12_inForce_103 ec_12 (k := 31) (Nat.le_of_ble_eq_true rfl) rfl (Or.inl ew_1433) (cShM_326 hs).1 (cShM_326 hs).2.1 (rShM_326_31 hs) ?_
      refine ea_iload_n (pc := 106) dX12_inForce_106 rfl 2 rfl ?_
      refine ea_iald (pc := 107) dX12_inForce_107 (cShM_352 hs).1 (cShM_352 hs).2.1 (ea_vpl (cShM_352 hs).2.2 z6) ?_
      exact ea_iretO (pc := 108) dX12_inForce_108 rfl rfl E
    have E := (if_neg q25_5).symm.trans E
    by_cases q25_6 : Int32.toInt x2 = 6
    · have E := (if_pos q25_6).symm.trans E
      obtain ⟨z5, E⟩ := gd_some E
      refine ea_tswIn (pc := 25) (tgt := 109) dX12_inForce_25 (by rw [q25_6]; decide) (by rw [q25_6]; decide) (by rw [q25_6]; rfl) rfl ?_
      refine ea_aload_n (pc := 109) dX12_inForce_109 rfl 0 rfl ?_
      refine ea_getR (pc := 110) dX12_inForce_110 ec_12 (k := 32) (Nat.le_of_ble_eq_true rfl) rfl (Or.inl ew_1434) (cShM_326 hs).1 (cShM_326 hs).2.1 (rShM_326_32 hs) ?_
      refine ea_iload_n (pc := 113) dX12_inForce_113 rfl 2 rfl ?_
      refine ea_iald (pc := 114) dX12_inForce_114 (cShM_353 hs).1 (cShM_353 hs).2.1 (ea_vpl (cShM_353 hs).2.2 z5) ?_
      exact ea_iretO (pc := 115) dX12_inForce_115 rfl rfl E
    have E := (if_neg q25_6).symm.trans E
    by_cases q25_7 : Int32.toInt x2 = 7
    · have E := (if_pos q25_7).symm.trans E
      obtain ⟨z4, E⟩ := gd_some E
      refine ea_tswIn (pc := 25) (tgt := 116) dX12_inForce_25 (by rw [q25_7]; decide) (by rw [q25_7]; decide) (by rw [q25_7]; rfl) rfl ?_
      refine ea_aload_n (pc := 116) dX12_inForce_116 rfl 0 rfl ?_
      refine ea_getR (pc := 117) dX12_inForce_117 ec_12 (k := 33) (Nat.le_of_ble_eq_true rfl) rfl (Or.inl ew_1435) (cShM_326 hs).1 (cShM_326 hs).2.1 (rShM_326_33 hs) ?_
      refine ea_iload_n (pc := 120) dX12_inForce_120 rfl 2 rfl ?_
      refine ea_iald (pc := 121) dX12_inForce_121 (cShM_354 hs).1 (cShM_354 hs).2.1 (ea_vpl (cShM_354 hs).2.2 z4) ?_
      exact ea_iretO (pc := 122) dX12_inForce_122 rfl rfl E
    have E := (if_neg q25_7).symm.trans E
    refine ea_tswOut (pc := 25) (tgt := 123) dX12_inForce_25 (ea_sw_0_7 q25_0 q25_1 q25_2 q25_3 q25_4 q25_5 q25_6 q25_7) rfl ?_
    refine ea_iconst (pc := 123) dX12_inForce_123 (v := (-1)) rfl ?_
    exact ea_iretO (pc := 124) dX12_inForce_124 rfl rfl E
  · have E := (if_pos c11).symm.trans E
    refine ea_iconst (pc := 22) dX12_inForce_22 (v := (-1)) rfl ?_
    exact ea_iretO (pc := 23) dX12_inForce_23 rfl rfl E
theorem kBX12_inForce_16  {x2 : Int32} {sx0 : Int32} {h : ea_H} : kp (ea_core h) (BX12_inForce_16 x2 sx0 h) :=
  (kp_ite (kp_ret rfl) (kp_ite (kp_ret rfl) (kp_ite (kp_gd (kp_ret rfl)) (kp_ite (kp_gd (kp_ret rfl)) (kp_ite (kp_gd (kp_ret rfl)) (kp_ite (kp_gd (kp_ret rfl)) (kp_ite (kp_gd (kp_ret rfl)) (kp_ite (kp_gd (kp_ret rfl)) (kp_ite (kp_gd (kp_ret rfl)) (kp_ret rfl))))))))))
theorem lBX12_inForce_16  {x2 : Int32} {sx0 : Int32} {h : ea_H} : fle (BX12_inForce_16 x2 sx0 h) (BX12_inForce_16 x2 sx0 h) :=
  (fle_rfl _)
theorem nBX12_inForce_16  {x2 : Int32} {sx0 : Int32} {h : ea_H} : fct (BX12_inForce_16 x2 sx0 h) (fun f => BX12_inForce_16 x2 sx0 h) :=
  (fct_rfl _)
noncomputable def gX12_inForce : Nat → (Int32 → Int32 → ea_H → Option (Int32 × ea_H)) × (Int32 → Int32 → ea_H → Option (Int32 × ea_H))
  | 0 => (fun _ _ _ => none, fun _ _ _ => none)
  | f + 1 => (BX12_inForce_0 (gX12_inForce f).2, BX12_inForce_16)
theorem mgX12_inForce : ∀ f : Nat, (∀ (x1 : Int32) (x2 : Int32) (h : ea_H), fle ((gX12_inForce f).1 x1 x2 h) ((gX12_inForce (f + 1)).1 x1 x2 h)) ∧ (∀ (x2 : Int32) (sx0 : Int32) (h : ea_H), fle ((gX12_inForce f).2 x2 sx0 h) ((gX12_inForce (f + 1)).2 x2 sx0 h)) := by
  intro f
  induction f with
  | zero => exact ⟨fun _ _ _ => fle_none _, fun _ _ _ => fle_none _⟩
  | succ f ih => exact ⟨fun _ _ _ => lBX12_inForce_0 ih.2, fun _ _ _ => lBX12_inForce_16⟩
noncomputable def qX12_inForce_0 (x1 : Int32) (x2 : Int32) (h : ea_H) : Option (Int32 × ea_H) := flim fun f => (gX12_inForce f).1 x1 x2 h
noncomputable def qX12_inForce_16 (x2 : Int32) (sx0 : Int32) (h : ea_H) : Option (Int32 × ea_H) := flim fun f => (gX12_inForce f).2 x2 sx0 h
theorem fqX12_inForce_0 (x1 : Int32) (x2 : Int32) (h : ea_H) : fct (qX12_inForce_0 x1 x2 h) fun f => (gX12_inForce f).1 x1 x2 h := flim_ct fun f => (mgX12_inForce f).1 x1 x2 h
theorem fqX12_inForce_16 (x2 : Int32) (sx0 : Int32) (h : ea_H) : fct (qX12_inForce_16 x2 sx0 h) fun f => (gX12_inForce f).2 x2 sx0 h := flim_ct fun f => (mgX12_inForce f).2 x2 sx0 h
/-- how a block opens -/
theorem uqX12_inForce_0 {x1 : Int32} {x2 : Int32} {h : ea_H} {P : Int32 × ea_H → Prop} (H : sat (BX12_inForce_0 qX12_inForce_16 x1 x2 h) P) : sat (qX12_inForce_0 x1 x2 h) P := by
  obtain ⟨x, e, hp⟩ := H
  obtain ⟨n, hn⟩ := nBX12_inForce_0 fqX12_inForce_16 x e
  exact ⟨x, flim_at (fun f => (mgX12_inForce f).1 x1 x2 h) (f := n + 1) (hn n (Nat.le_refl _)), hp⟩
/-- how a block opens -/
theorem uqX12_inForce_16 {x2 : Int32} {sx0 : Int32} {h : ea_H} {P : Int32 × ea_H → Prop} (H : sat (BX12_inForce_16 x2 sx0 h) P) : sat (qX12_inForce_16 x2 sx0 h) P := by
  obtain ⟨x, e, hp⟩ := H
  obtain ⟨n, hn⟩ := nBX12_inForce_16 x e
  exact ⟨x, flim_at (fun f => (mgX12_inForce f).2 x2 sx0 h) (f := n + 1) (hn n (Nat.le_refl _)), hp⟩
theorem kgX12_inForce : ∀ f : Nat, (∀ (x1 : Int32) (x2 : Int32) (h : ea_H), kp (ea_core h) ((gX12_inForce f).1 x1 x2 h)) ∧ (∀ (x2 : Int32) (sx0 : Int32) (h : ea_H), kp (ea_core h) ((gX12_inForce f).2 x2 sx0 h)) := by
  intro f
  induction f with
  | zero => exact ⟨fun _ _ _ => kp_none _, fun _ _ _ => kp_none _⟩
  | succ f ih => exact ⟨fun _ _ _ => kBX12_inForce_0 ih.2, fun _ _ _ => kBX12_inForce_16⟩
theorem tgX12_inForce {d : Nat} {h0 : ea_H} (hd : 3 ≤ d) : ∀ f : Nat, (∀ (x1 : Int32) (x2 : Int32) (h : ea_H) (r : Int32) (h' : ea_H), (gX12_inForce f).1 x1 x2 h = some (r, h') → ShM h → ea_W mX12_inForce d h0 (some (vI r)) h' 0 [(0, vR (some 326)), (1, vI x1), (2, vI x2)] [] h) ∧ (∀ (x2 : Int32) (sx0 : Int32) (h : ea_H) (r : Int32) (h' : ea_H), (gX12_inForce f).2 x2 sx0 h = some (r, h') → ShM h → ea_W mX12_inForce d h0 (some (vI r)) h' 16 [(0, vR (some 326)), (2, vI x2)] [vI sx0] h) := by
  intro f
  induction f with
  | zero => exact ⟨fun _ _ _ _ _ E => no_some E, fun _ _ _ _ _ E => no_some E⟩
  | succ f ih => exact ⟨fun _ _ _ _ _ E hs => tBX12_inForce_0 hd ih.2 E hs, fun _ _ _ _ _ E hs => tBX12_inForce_16 hd E hs⟩
noncomputable def qX12_inForce (x1 : Int32) (x2 : Int32) (h : ea_H) : Option (Int32 × ea_H) := qX12_inForce_0 x1 x2 h
theorem sX12_inForce {d : Nat} {x1 : Int32} {x2 : Int32} {h : ea_H} {r : Int32} {h' : ea_H} (hd : 3 ≤ d) (hs : ShM h) (K : qX12_inForce x1 x2 h = some (r, h')) : ea_Met mX12_inForce d [vR (some 326), vI x1, vI x2] h (some (vI r)) h' := by
  unfold qX12_inForce at K
  obtain ⟨n, hn⟩ := fqX12_inForce_0 x1 x2 h _ K
  have W := (tgX12_inForce (d := d) (h0 := h) hd n).1 x1 x2 h _ _ (hn n (Nat.le_refl _)) hs
  exact ea_enter rfl (Nat.le_of_ble_eq_true rfl) W
theorem kpX12_inForce (x1 : Int32) (x2 : Int32) (h : ea_H) : kp (ea_core h) (qX12_inForce x1 x2 h) := fun x e => by
  obtain ⟨n, hn⟩ := fqX12_inForce_0 x1 x2 h x e
  exact (kgX12_inForce n).1 x1 x2 h x (hn n (Nat.le_refl _))
noncomputable def BX12_isLetterOf_0 (x1 : Int32) (h : ea_H) : Option (Int32 × ea_H) :=
  (Option.bind (qX12_isIn (x1 : Int32) (0 : Int32) (((ea_i h 326 63) - (1 : Int32)) : Int32) h) fun w1 => (gd ((w1.1 = 0 ∨ w1.1 = 1)) (some (w1.1, w1.2))))
theorem tBX12_isLetterOf_0 {d : Nat} {h0 : ea_H} (hd : 2 ≤ d)  {x1 : Int32} {h : ea_H} {r : Int32} {h' : ea_H} (E : BX12_isLetterOf_0 x1 h = some (r, h')) (hs : ShM h) : ea_W mX12_isLetterOf d h0 (some (vI r)) h' 0 [(0, vR (some 326)), (1, vI x1)] [] h := by
  unfold BX12_isLetterOf_0 at E
  obtain ⟨w1, Ew1, E⟩ := bd_some E
  have hsw1 : ShM w1.2 := ShM_core ((kpX12_isIn _ _ _ _) _ Ew1) hs
  refine ea_iload_n (pc := 0) dX12_isLetterOf_0 rfl 1 rfl ?_
  refine ea_iconst (pc := 1) dX12_isLetterOf_1 (v := 0) rfl ?_
  refine ea_aload_n (pc := 2) dX12_isLetterOf_2 rfl 0 rfl ?_
  refine ea_getI (pc := 3) dX12_isLetterOf_3 ec_12 (k := 63) (Nat.le_of_ble_eq_true rfl) rfl (Or.inl ew_1465) (cShM_326 hs).1 (cShM_326 hs).2.1 ?_
  refine ea_iconst (pc := 6) dX12_isLetterOf_6 (v := 1) rfl ?_
  refine ea_isub (pc := 7) dX12_isLetterOf_7 ?_
  refine ea_callS (pc := 8) (d' := d - 1) (As := [vI x1, vI 0, vI ((ea_i h 326 63) - (1 : Int32))]) (st := []) dX12_isLetterOf_8 kX12_isIn (sX12_isIn (d := d - 1) (by omega) Ew1) (by omega) rfl (Nat.le_of_ble_eq_true rfl) ew_1769 ew_1770 ?_
  obtain ⟨z2, E⟩ := gd_some E
  exact ea_iretO (pc := 11) dX12_isLetterOf_11 rfl (ea_bn z2) E
theorem kBX12_isLetterOf_0  {x1 : Int32} {h : ea_H} : kp (ea_core h) (BX12_isLetterOf_0 x1 h) :=
  (kp_bind (kp_tw (kpX12_isIn _ _ _ _) rfl) fun w1 hcw1 => (kp_gd (kp_ret hcw1)))
noncomputable def qX12_isLetterOf (x1 : Int32) (h : ea_H) : Option (Int32 × ea_H) := BX12_isLetterOf_0 x1 h
theorem sX12_isLetterOf {d : Nat} {x1 : Int32} {h : ea_H} {r : Int32} {h' : ea_H} (hd : 2 ≤ d) (hs : ShM h) (K : qX12_isLetterOf x1 h = some (r, h')) : ea_Met mX12_isLetterOf d [vR (some 326), vI x1] h (some (vI r)) h' := by
  unfold qX12_isLetterOf at K
  have W := tBX12_isLetterOf_0 hd (h0 := h) K hs
  exact ea_enter rfl (Nat.le_of_ble_eq_true rfl) W
theorem kpX12_isLetterOf (x1 : Int32) (h : ea_H) : kp (ea_core h) (qX12_isLetterOf x1 h) := kBX12_isLetterOf_0
noncomputable def BX12_isCross_0 (x1 : Int32) (x2 : Int32) (h : ea_H) : Option (Int32 × ea_H) :=
  (if x1 = (0 : Int32) then (some ((0 : Int32), h)) else (if x2 = (0 : Int32) then (some ((0 : Int32), h)) else (Option.bind (qX12_milesOf (x1 : Int32) (x2 : Int32) (0 : Int32) h) fun w1 => (if w1.1 = (1000000 : Int32) then (some ((0 : Int32), w1.2)) else (Option.bind (qX12_milesOf (x1 : Int32) (x2 : Int32) (1 : Int32) w1.2) fun w2 => (if w2.1 = w1.1 then (some ((1 : Int32), w2.2)) else (some ((0 : Int32), w2.2))))))))
theorem tBX12_isCross_0 {d : Nat} {h0 : ea_H} (hd : 3 ≤ d)  {x1 : Int32} {x2 : Int32} {h : ea_H} {r : Int32} {h' : ea_H} (E : BX12_isCross_0 x1 x2 h = some (r, h')) (hs : ShM h) : ea_W mX12_isCross d h0 (some (vI r)) h' 0 [(0, vR (some 326)), (1, vI x1), (2, vI x2)] [] h := by
  unfold BX12_isCross_0 at E
  refine ea_iload_n (pc := 0) dX12_isCross_0 rfl 1 rfl ?_
  refine ea_if_eq (pc := 1) (tgt := 8) dX12_isCross_1 rfl (fun c6 => ?_) (fun c6 => ?_)
  · have E := (if_pos c6).symm.trans E
    refine ea_iconst (pc := 8) dX12_isCross_8 (v := 0) rfl ?_
    exact ea_iretO (pc := 9) dX12_isCross_9 rfl (ea_bn (Or.inl rfl)) E
  · have E := (if_neg c6).symm.trans E
    refine ea_iload_n (pc := 4) dX12_isCross_4 rfl 2 rfl ?_
    refine ea_if_ne (pc := 5) (tgt := 10) dX12_isCross_5 rfl (fun c5 => ?_) (fun c5 => ?_)
    · have E := (if_neg c5).symm.trans E
      obtain ⟨w1, Ew1, E⟩ := bd_some E
      have hsw1 : ShM w1.2 := ShM_core ((kpX12_milesOf _ _ _ _) _ Ew1) hs
      refine ea_aload_n (pc := 10) dX12_isCross_10 rfl 0 rfl ?_
      refine ea_iload_n (pc := 11) dX12_isCross_11 rfl 1 rfl ?_
      refine ea_iload_n (pc := 12) dX12_isCross_12 rfl 2 rfl ?_
      refine ea_iconst (pc := 13) dX12_isCross_13 (v := 0) rfl ?_
      refine ea_callV (pc := 14) (d' := d - 1) (As := [vI x1, vI x2, vI 0]) (st := []) dX12_isCross_14 kX12_milesOf (sX12_milesOf (d := d - 1) (by omega) hs Ew1) (by omega) rfl (Nat.le_of_ble_eq_true rfl) ew_1776 ew_1778 ew_55 (ci := 12) rfl (by decide) (cShM_326 hs).1 (cShM_326 hs).2.1 ?_
      refine ea_istore_n (pc := 17) (lv' := [(0, vR (some 326)), (1, vI x1), (2, vI x2), (3, vI w1.1)]) dX12_isCross_17 rfl (Nat.le_of_ble_eq_true rfl) [1, 2, 3, 0] rfl ?_
      refine ea_iload_n (pc := 18) dX12_isCross_18 rfl 3 rfl ?_
      refine ea_ldcw (pc := 19) dX12_isCross_19 ew_1784 ?_
      refine ea_icmp_eq (pc := 22) (tgt := 40) dX12_isCross_22 rfl (fun c4 => ?_) (fun c4 => ?_)
      · have E := (if_pos c4).symm.trans E
        refine ea_iconst (pc := 40) dX12_isCross_40 (v := 0) rfl ?_
        exact ea_iretO (pc := 41) dX12_isCross_41 rfl (ea_bn (Or.inl rfl)) E
      · have E := (if_neg c4).symm.trans E
        obtain ⟨w2, Ew2, E⟩ := bd_some E
        have hsw2 : ShM w2.2 := ShM_core ((kpX12_milesOf _ _ _ _) _ Ew2) hsw1
        refine ea_aload_n (pc := 25) dX12_isCross_25 rfl 0 rfl ?_
        refine ea_iload_n (pc := 26) dX12_isCross_26 rfl 1 rfl ?_
        refine ea_iload_n (pc := 27) dX12_isCross_27 rfl 2 rfl ?_
        refine ea_iconst (pc := 28) dX12_isCross_28 (v := 1) rfl ?_
        refine ea_callV (pc := 29) (d' := d - 1) (As := [vI x1, vI x2, vI 1]) (st := []) dX12_isCross_29 kX12_milesOf (sX12_milesOf (d := d - 1) (by omega) hsw1 Ew2) (by omega) rfl (Nat.le_of_ble_eq_true rfl) ew_1776 ew_1778 ew_55 (ci := 12) rfl (by decide) (cShM_326 hsw1).1 (cShM_326 hsw1).2.1 ?_
        refine ea_iload_n (pc := 32) dX12_isCross_32 rfl 3 rfl ?_
        refine ea_icmp_ne (pc := 33) (tgt := 40) dX12_isCross_33 rfl (fun c3 => ?_) (fun c3 => ?_)
        · have E := (if_neg c3).symm.trans E
          refine ea_iconst (pc := 40) dX12_isCross_40 (v := 0) rfl ?_
          exact ea_iretO (pc := 41) dX12_isCross_41 rfl (ea_bn (Or.inl rfl)) E
        · have E := (if_pos c3).symm.trans E
          refine ea_iconst (pc := 36) dX12_isCross_36 (v := 1) rfl ?_
          refine ea_goto (pc := 37) (tgt := 41) dX12_isCross_37 rfl ?_
          exact ea_iretO (pc := 41) dX12_isCross_41 rfl (ea_bn (Or.inr rfl)) E
    · have E := (if_pos c5).symm.trans E
      refine ea_iconst (pc := 8) dX12_isCross_8 (v := 0) rfl ?_
      exact ea_iretO (pc := 9) dX12_isCross_9 rfl (ea_bn (Or.inl rfl)) E
theorem kBX12_isCross_0  {x1 : Int32} {x2 : Int32} {h : ea_H} : kp (ea_core h) (BX12_isCross_0 x1 x2 h) :=
  (kp_ite (kp_ret rfl) (kp_ite (kp_ret rfl) (kp_bind (kp_tw (kpX12_milesOf _ _ _ _) rfl) fun w1 hcw1 => (kp_ite (kp_ret hcw1) (kp_bind (kp_tw (kpX12_milesOf _ _ _ _) hcw1) fun w2 hcw2 => (kp_ite (kp_ret hcw2) (kp_ret hcw2)))))))
noncomputable def qX12_isCross (x1 : Int32) (x2 : Int32) (h : ea_H) : Option (Int32 × ea_H) := BX12_isCross_0 x1 x2 h
theorem sX12_isCross {d : Nat} {x1 : Int32} {x2 : Int32} {h : ea_H} {r : Int32} {h' : ea_H} (hd : 3 ≤ d) (hs : ShM h) (K : qX12_isCross x1 x2 h = some (r, h')) : ea_Met mX12_isCross d [vR (some 326), vI x1, vI x2] h (some (vI r)) h' := by
  unfold qX12_isCross at K
  have W := tBX12_isCross_0 hd (h0 := h) K hs
  exact ea_enter rfl (Nat.le_of_ble_eq_true rfl) W
theorem kpX12_isCross (x1 : Int32) (x2 : Int32) (h : ea_H) : kp (ea_core h) (qX12_isCross x1 x2 h) := kBX12_isCross_0
noncomputable def BX12_turns_0 (x1 : Int32) (x2 : Int32) (x3 : Int32) (x4 : Int32) (h : ea_H) : Option (Unit × ea_H) :=
  (gd (vp_in x1 120) (ea_let (ea_wi h 381 (Int32.toNatClampNeg x1) x3) fun H2 => (gd (vp_in x1 120) (ea_let (ea_wi H2 382 (Int32.toNatClampNeg x1) x4) fun H4 => (gd (vp_in x1 120) (ea_let (ea_wi H4 385 (Int32.toNatClampNeg x1) x2) fun H6 => (gd (vp_in x1 120) (ea_let (((1000 : Int32) * x1) + (ea_i H6 376 (Int32.toNatClampNeg x1))) fun (v8 : Int32) => (gd (vp_in v8 120000) (ea_let (ea_wi H6 388 (Int32.toNatClampNeg v8) x2) fun H10 => (gd (vp_in v8 120000) (ea_let (ea_wi H10 389 (Int32.toNatClampNeg v8) x3) fun H12 => (gd (vp_in v8 120000) (ea_let (ea_wi H12 390 (Int32.toNatClampNeg v8) x4) fun H14 => (gd (vp_in x1 120) (gd (vp_in x1 120) (ea_let (ea_wi H14 376 (Int32.toNatClampNeg x1) ((ea_i H14 376 (Int32.toNatClampNeg x1)) + (1 : Int32))) fun H17 => (some ((), H17)))))))))))))))))))
theorem tBX12_turns_0 {d : Nat} {h0 : ea_H} (hd : 1 ≤ d)  {x1 : Int32} {x2 : Int32} {x3 : Int32} {x4 : Int32} {h : ea_H} {r : Unit} {h' : ea_H} (E : BX12_turns_0 x1 x2 x3 x4 h = some (r, h')) (hs : ShM h) : ea_W mX12_turns d h0 none h' 0 [(0, vR (some 326)), (1, vI x1), (2, vI x2), (3, vI x3), (4, vI x4)] [] h := by
  unfold BX12_turns_0 at E
  obtain ⟨z1, E⟩ := gd_some E
  refine ea_aload_n (pc := 0) dX12_turns_0 rfl 0 rfl ?_
  refine ea_getR (pc := 1) dX12_turns_1 ec_12 (k := 81) (Nat.le_of_ble_eq_true rfl) rfl (Or.inl ew_1483) (cShM_326 hs).1 (cShM_326 hs).2.1 (rShM_326_81 hs) ?_
  refine ea_iload_n (pc := 4) dX12_turns_4 rfl 1 rfl ?_
  refine ea_iload_n (pc := 5) dX12_turns_5 rfl 3 rfl ?_
  obtain ⟨H2, eH2, E⟩ := let_some E
  refine ea_iast (pc := 6) dX12_turns_6 (cShM_381 hs).1 (cShM_381 hs).2.1 (ea_vpl (cShM_381 hs).2.2 z1) ?_
  refine ea_nm eH2 ?_
  have hsH2 : ShM H2 := by rw [eH2]; exact hs
  obtain ⟨z3, E⟩ := gd_some E
  refine ea_aload_n (pc := 7) dX12_turns_7 rfl 0 rfl ?_
  refine ea_getR (pc := 8) dX12_turns_8 ec_12 (k := 82) (Nat.le_of_ble_eq_true rfl) rfl (Or.inl ew_1484) (cShM_326 hsH2).1 (cShM_326 hsH2).2.1 (rShM_326_82 hsH2) ?_
  refine ea_iload_n (pc := 11) dX12_turns_11 rfl 1 rfl ?_
  refine ea_iload (pc := 12) dX12_turns_12 4 rfl ?_
  obtain ⟨H4, eH4, E⟩ := let_some E
  refine ea_iast (pc := 14) dX12_turns_14 (cShM_382 hsH2).1 (cShM_382 hsH2).2.1 (ea_vpl (cShM_382 hsH2).2.2 z3) ?_
  refine ea_nm eH4 ?_
  have hsH4 : ShM H4 := by rw [eH4]; exact hsH2
  obtain ⟨z5, E⟩ := gd_some E
  refine ea_aload_n (pc := 15) dX12_turns_15 rfl 0 rfl ?_
  refine ea_getR (pc := 16) dX12_turns_16 ec_12 (k := 85) (Nat.le_of_ble_eq_true rfl) rfl (Or.inl ew_1487) (cShM_326 hsH4).1 (cShM_326 hsH4).2.1 (rShM_326_85 hsH4) ?_
  refine ea_iload_n (pc := 19) dX12_turns_19 rfl 1 rfl ?_
  refine ea_iload_n (pc := 20) dX12_turns_20 rfl 2 rfl ?_
  obtain ⟨H6, eH6, E⟩ := let_some E
  refine ea_iast (pc := 21) dX12_turns_21 (cShM_385 hsH4).1 (cShM_385 hsH4).2.1 (ea_vpl (cShM_385 hsH4).2.2 z5) ?_
  refine ea_nm eH6 ?_
  have hsH6 : ShM H6 := by rw [eH6]; exact hsH4
  obtain ⟨z7, E⟩ := gd_some E
  refine ea_sipush (pc := 22) dX12_turns_22 (v := 1000) rfl ?_
  refine ea_iload_n (pc := 25) dX12_turns_25 rfl 1 rfl ?_
  refine ea_imul (pc := 26) dX12_turns_26 ?_
  refine ea_aload_n (pc := 27) dX12_turns_27 rfl 0 rfl ?_
  refine ea_getR (pc := 28) dX12_turns_28 ec_12 (k := 76) (Nat.le_of_ble_eq_true rfl) rfl (Or.inl ew_1478) (cShM_326 hsH6).1 (cShM_326 hsH6).2.1 (rShM_326_76 hsH6) ?_
  refine ea_iload_n (pc := 31) dX12_turns_31 rfl 1 rfl ?_
  obtain ⟨v8, ev8, E⟩ := let_some E
  refine ea_iald (pc := 32) dX12_turns_32 (cShM_376 hsH6).1 (cShM_376 hsH6).2.1 (ea_vpl (cShM_376 hsH6).2.2 z7) ?_
  refine ea_iadd (pc := 33) dX12_turns_33 ?_
  obtain ⟨z9, E⟩ := gd_some E
  refine ea_istore (pc := 34) (lv' := [(0, vR (some 326)), (1, vI x1), (2, vI x2), (3, vI x3), (4, vI x4), (5, vI v8)]) dX12_turns_34 (Nat.le_of_ble_eq_true rfl) [1, 2, 3, 4, 5, 0] (by rw [ev8]; rfl) ?_
  refine ea_aload_n (pc := 36) dX12_turns_36 rfl 0 rfl ?_
  refine ea_getR (pc := 37) dX12_turns_37 ec_12 (k := 88) (Nat.le_of_ble_eq_true rfl) rfl (Or.inl ew_1490) (cShM_326 hsH6).1 (cShM_326 hsH6).2.1 (rShM_326_88 hsH6) ?_
  refine ea_iload (pc := 40) dX12_turns_40 5 rfl ?_
  refine ea_iload_n (pc := 42) dX12_turns_42 rfl 2 rfl ?_
  obtain ⟨H10, eH10, E⟩ := let_some E
  refine ea_iast (pc := 43) dX12_turns_43 (cShM_388 hsH6).1 (cShM_388 hsH6).2.1 (ea_vpl (cShM_388 hsH6).2.2 z9) ?_
  refine ea_nm eH10 ?_
  have hsH10 : ShM H10 := by rw [eH10]; exact hsH6
  obtain ⟨z11, E⟩ := gd_some E
  refine ea_aload_n (pc := 44) dX12_turns_44 rfl 0 rfl ?_
  refine ea_getR (pc := 45) dX12_turns_45 ec_12 (k := 89) (Nat.le_of_ble_eq_true rfl) rfl (Or.inl ew_1491) (cShM_326 hsH10).1 (cShM_326 hsH10).2.1 (rShM_326_89 hsH10) ?_
  refine ea_iload (pc := 48) dX12_turns_48 5 rfl ?_
  refine ea_iload_n (pc := 50) dX12_turns_50 rfl 3 rfl ?_
  obtain ⟨H12, eH12, E⟩ := let_some E
  refine ea_iast (pc := 51) dX12_turns_51 (cShM_389 hsH10).1 (cShM_389 hsH10).2.1 (ea_vpl (cShM_389 hsH10).2.2 z11) ?_
  refine ea_nm eH12 ?_
  have hsH12 : ShM H12 := by rw [eH12]; exact hsH10
  obtain ⟨z13, E⟩ := gd_some E
  refine ea_aload_n (pc := 52) dX12_turns_52 rfl 0 rfl ?_
  refine ea_getR (pc := 53) dX12_turns_53 ec_12 (k := 90) (Nat.le_of_ble_eq_true rfl) rfl (Or.inl ew_1492) (cShM_326 hsH12).1 (cShM_326 hsH12).2.1 (rShM_326_90 hsH12) ?_
  refine ea_iload (pc := 56) dX12_turns_56 5 rfl ?_
  refine ea_iload (pc := 58) dX12_turns_58 4 rfl ?_
  obtain ⟨H14, eH14, E⟩ := let_some E
  refine ea_iast (pc := 60) dX12_turns_60 (cShM_390 hsH12).1 (cShM_390 hsH12).2.1 (ea_vpl (cShM_390 hsH12).2.2 z13) ?_
  refine ea_nm eH14 ?_
  have hsH14 : ShM H14 := by rw [eH14]; exact hsH12
  obtain ⟨z15, E⟩ := gd_some E
  refine ea_aload_n (pc := 61) dX12_turns_61 rfl 0 rfl ?_
  refine ea_getR (pc := 62) dX12_turns_62 ec_12 (k := 76) (Nat.le_of_ble_eq_true rfl) rfl (Or.inl ew_1478) (cShM_326 hsH14).1 (cShM_326 hsH14).2.1 (rShM_326_76 hsH14) ?_
  refine ea_iload_n (pc := 65) dX12_turns_65 rfl 1 rfl ?_
  refine ea_dup2 (pc := 66) dX12_turns_66 rfl rfl ?_
  obtain ⟨z16, E⟩ := gd_some E
  refine ea_iald (pc := 67) dX12_turns_67 (cShM_376 hsH14).1 (cShM_376 hsH14).2.1 (ea_vpl (cShM_376 hsH14).2.2 z15) ?_
  refine ea_iconst (pc := 68) dX12_turns_68 (v := 1) rfl ?_
  refine ea_iadd (pc := 69) dX12_turns_69 ?_
  obtain ⟨H17, eH17, E⟩ := let_some E
  refine ea_iast (pc := 70) dX12_turns_70 (cShM_376 hsH14).1 (cShM_376 hsH14).2.1 (ea_vpl (cShM_376 hsH14).2.2 z16) ?_
  refine ea_nm eH17 ?_
  have hsH17 : ShM H17 := by rw [eH17]; exact hsH14
  exact ea_vretO (pc := 71) dX12_turns_71 rfl E
theorem kBX12_turns_0  {x1 : Int32} {x2 : Int32} {x3 : Int32} {x4 : Int32} {h : ea_H} : kp (ea_core h) (BX12_turns_0 x1 x2 x3 x4 h) :=
  (kp_gd (kp_let (kp_gd (kp_let (kp_gd (kp_let (kp_gd (kp_let (kp_gd (kp_let (kp_gd (kp_let (kp_gd (kp_let (kp_gd (kp_gd (kp_let (kp_ret rfl))))))))))))))))))
noncomputable def qX12_turns (x1 : Int32) (x2 : Int32) (x3 : Int32) (x4 : Int32) (h : ea_H) : Option (Unit × ea_H) := BX12_turns_0 x1 x2 x3 x4 h
theorem sX12_turns {d : Nat} {x1 : Int32} {x2 : Int32} {x3 : Int32} {x4 : Int32} {h : ea_H} {r : Unit} {h' : ea_H} (hd : 1 ≤ d) (hs : ShM h) (K : qX12_turns x1 x2 x3 x4 h = some (r, h')) : ea_Met mX12_turns d [vR (some 326), vI x1, vI x2, vI x3, vI x4] h none h' := by
  unfold qX12_turns at K
  have W := tBX12_turns_0 hd (h0 := h) K hs
  exact ea_enter rfl (Nat.le_of_ble_eq_true rfl) W
theorem kpX12_turns (x1 : Int32) (x2 : Int32) (x3 : Int32) (x4 : Int32) (h : ea_H) : kp (ea_core h) (qX12_turns x1 x2 x3 x4 h) := kBX12_turns_0
noncomputable def BX12_gathers_0 (J27 : Int32 → Int32 → Int32 → ea_H → Option (Unit × ea_H)) (x1 : Int32) (h : ea_H) : Option (Unit × ea_H) :=
  (gd (vp_in x1 120) (if (ea_i h 371 (Int32.toNatClampNeg x1)) = (1000000 : Int32) then (J27 (x1 : Int32) (0 : Int32) (1 : Int32) h) else (gd (vp_in x1 120) (J27 (x1 : Int32) ((ea_i h 371 (Int32.toNatClampNeg x1)) : Int32) (1 : Int32) h))))
theorem tBX12_gathers_0 {d : Nat} {h0 : ea_H} (hd : 1 ≤ d) {J27 : Int32 → Int32 → Int32 → ea_H → Option (Unit × ea_H)}  (kJ27 : ∀ (x1 : Int32) (sx0 : Int32) (sx1 : Int32) (h : ea_H) (r : Unit) (h' : ea_H), J27 x1 sx0 sx1 h = some (r, h') → ShM h → ea_W mX12_gathers d h0 none h' 27 [(0, vR (some 326)), (1, vI x1)] [vI sx0, vI sx1, vR (some 391)] h) {x1 : Int32} {h : ea_H} {r : Unit} {h' : ea_H} (E : BX12_gathers_0 J27 x1 h = some (r, h')) (hs : ShM h) : ea_W mX12_gathers d h0 none h' 0 [(0, vR (some 326)), (1, vI x1)] [] h := by
  unfold BX12_gathers_0 at E
  obtain ⟨z1, E⟩ := gd_some E
  refine ea_aload_n (pc := 0) dX12_gathers_0 rfl 0 rfl ?_
  refine ea_getR (pc := 1) dX12_gathers_1 ec_12 (k := 91) (Nat.le_of_ble_eq_true rfl) rfl (Or.inl ew_1493) (cShM_326 hs).1 (cShM_326 hs).2.1 (rShM_326_91 hs) ?_
  refine ea_iconst (pc := 4) dX12_gathers_4 (v := 1) rfl ?_
  refine ea_aload_n (pc := 5) dX12_gathers_5 rfl 0 rfl ?_
  refine ea_getR (pc := 6) dX12_gathers_6 ec_12 (k := 71) (Nat.le_of_ble_eq_true rfl) rfl (Or.inl ew_1473) (cShM_326 hs).1 (cShM_326 hs).2.1 (rShM_326_71 hs) ?_
  refine ea_iload_n (pc := 9) dX12_gathers_9 rfl 1 rfl ?_
  refine ea_iald (pc := 10) dX12_gathers_10 (cShM_371 hs).1 (cShM_371 hs).2.1 (ea_vpl (cShM_371 hs).2.2 z1) ?_
  refine ea_ldcw (pc := 11) dX12_gathers_11 ew_1784 ?_
  refine ea_icmp_ne (pc := 14) (tgt := 21) dX12_gathers_14 rfl (fun c3 => ?_) (fun c3 => ?_)
  · have E := (if_neg c3).symm.trans E
    obtain ⟨z2, E⟩ := gd_some E
    refine ea_aload_n (pc := 21) dX12_gathers_21 rfl 0 rfl ?_
    refine ea_getR (pc := 22) dX12_gathers_22 ec_12 (k := 71) (Nat.le_of_ble_eq_true rfl) rfl (Or.inl ew_1473) (cShM_326 hs).1 (cShM_326 hs).2.1 (rShM_326_71 hs) ?_
    refine ea_iload_n (pc := 25) dX12_gathers_25 rfl 1 rfl ?_
    refine ea_iald (pc := 26) dX12_gathers_26 (cShM_371 hs).1 (cShM_371 hs).2.1 (ea_vpl (cShM_371 hs).2.2 z2) ?_
    exact (kJ27 (x1 : Int32) ((ea_i h 371 (Int32.toNatClampNeg x1)) : Int32) (1 : Int32) h _ _ E hs)
  · have E := (if_pos c3).symm.trans E
    refine ea_iconst (pc := 17) dX12_gathers_17 (v := 0) rfl ?_
    refine ea_goto (pc := 18) (tgt := 27) dX12_gathers_18 rfl ?_
    exact (kJ27 (x1 : Int32) (0 : Int32) (1 : Int32) h _ _ E hs)
theorem kBX12_gathers_0 {J27 : Int32 → Int32 → Int32 → ea_H → Option (Unit × ea_H)}  (cJ27 : ∀ (x1 : Int32) (sx0 : Int32) (sx1 : Int32) (h : ea_H), kp (ea_core h) (J27 x1 sx0 sx1 h)) {x1 : Int32} {h : ea_H} : kp (ea_core h) (BX12_gathers_0 J27 x1 h) :=
  (kp_gd (kp_ite (kp_tw (cJ27 _ _ _ _) rfl) (kp_gd (kp_tw (cJ27 _ _ _ _) rfl))))
theorem lBX12_gathers_0 {J27 : Int32 → Int32 → Int32 → ea_H → Option (Unit × ea_H)} {J27_ : Int32 → Int32 → Int32 → ea_H → Option (Unit × ea_H)}  (mJ27 : ∀ (x1 : Int32) (sx0 : Int32) (sx1 : Int32) (h : ea_H), fle (J27 x1 sx0 sx1 h) (J27_ x1 sx0 sx1 h)) {x1 : Int32} {h : ea_H} : fle (BX12_gathers_0 J27 x1 h) (BX12_gathers_0 J27_ x1 h) :=
  (fle_gd (fle_ite (mJ27 _ _ _ _) (fle_gd (mJ27 _ _ _ _))))
theorem nBX12_gathers_0 {J27 : Int32 → Int32 → Int32 → ea_H → Option (Unit × ea_H)} {J27_ : Nat → (Int32 → Int32 → Int32 → ea_H → Option (Unit × ea_H))}  (mJ27 : ∀ (x1 : Int32) (sx0 : Int32) (sx1 : Int32) (h : ea_H), fct (J27 x1 sx0 sx1 h) (fun f => J27_ f x1 sx0 sx1 h)) {x1 : Int32} {h : ea_H} : fct (BX12_gathers_0 J27 x1 h) (fun f => BX12_gathers_0 (J27_ f) x1 h) :=
  (fct_gd (fct_ite (mJ27 _ _ _ _) (fct_gd (mJ27 _ _ _ _))))
noncomputable def BX12_gathers_27 (x1 : Int32) (sx0 : Int32) (sx1 : Int32) (h : ea_H) : Option (Unit × ea_H) :=
  (gd (vp_in sx1 8) (ea_let (ea_wi h 391 (Int32.toNatClampNeg sx1) sx0) fun H5 => (gd (vp_in x1 120) (gd (vp_in 2 8) (ea_let (ea_wi H5 391 (Int32.toNatClampNeg 2) (ea_i H5 367 (Int32.toNatClampNeg x1))) fun H8 => (gd (vp_in x1 120) (gd (vp_in 3 8) (ea_let (ea_wi H8 391 (Int32.toNatClampNeg 3) (ea_i H8 368 (Int32.toNatClampNeg x1))) fun H11 => (gd (vp_in x1 120) (gd (vp_in 4 8) (ea_let (ea_wi H11 391 (Int32.toNatClampNeg 4) (((ea_i H11 370 (Int32.toNatClampNeg x1)) - (ea_i H11 370 (Int32.toNatClampNeg x1)) / (1440 : Int32) * (1440 : Int32)) / (60 : Int32))) fun H14 => (gd (vp_in x1 120) (gd (vp_in 5 8) (ea_let (ea_wi H14 391 (Int32.toNatClampNeg 5) ((ea_i H14 370 (Int32.toNatClampNeg x1)) / (1440 : Int32))) fun H17 => (gd (vp_in x1 120) (gd (vp_in 6 8) (ea_let (ea_wi H17 391 (Int32.toNatClampNeg 6) (ea_i H17 364 (Int32.toNatClampNeg x1))) fun H20 => (gd (vp_in x1 120) (if (ea_i H20 378 (Int32.toNatClampNeg x1)) = (0 : Int32) then (gd (vp_in 7 8) (ea_let (ea_wi H20 391 (Int32.toNatClampNeg 7) 0) fun H23 => (some ((), H23)))) else (gd (vp_in 7 8) (ea_let (ea_wi H20 391 (Int32.toNatClampNeg 7) 1) fun H25 => (some ((), H25)))))))))))))))))))))))
theorem tBX12_gathers_27 {d : Nat} {h0 : ea_H} (hd : 1 ≤ d)  {x1 : Int32} {sx0 : Int32} {sx1 : Int32} {h : ea_H} {r : Unit} {h' : ea_H} (E : BX12_gathers_27 x1 sx0 sx1 h = some (r, h')) (hs : ShM h) : ea_W mX12_gathers d h0 none h' 27 [(0, vR (some 326)), (1, vI x1)] [vI sx0, vI sx1, vR (some 391)] h := by
  unfold BX12_gathers_27 at E
  obtain ⟨z4, E⟩ := gd_some E
  obtain ⟨H5, eH5, E⟩ := let_some E
  refine ea_iast (pc := 27) dX12_gathers_27 (cShM_391 hs).1 (cShM_391 hs).2.1 (ea_vpl (cShM_391 hs).2.2 z4) ?_
  refine ea_nm eH5 ?_
  have hsH5 : ShM H5 := by rw [eH5]; exact hs
  obtain ⟨z6, E⟩ := gd_some E
  refine ea_aload_n (pc := 28) dX12_gathers_28 rfl 0 rfl ?_
  refine ea_getR (pc := 29) dX12_gathers_29 ec_12 (k := 91) (Nat.le_of_ble_eq_true rfl) rfl (Or.inl ew_1493) (cShM_326 hsH5).1 (cShM_326 hsH5).2.1 (rShM_326_91 hsH5) ?_
  refine ea_iconst (pc := 32) dX12_gathers_32 (v := 2) rfl ?_
  refine ea_aload_n (pc := 33) dX12_gathers_33 rfl 0 rfl ?_
  refine ea_getR (pc := 34) dX12_gathers_34 ec_12 (k := 67) (Nat.le_of_ble_eq_true rfl) rfl (Or.inl ew_1469) (cShM_326 hsH5).1 (cShM_326 hsH5).2.1 (rShM_326_67 hsH5) ?_
  refine ea_iload_n (pc := 37) dX12_gathers_37 rfl 1 rfl ?_
  obtain ⟨z7, E⟩ := gd_some E
  refine ea_iald (pc := 38) dX12_gathers_38 (cShM_367 hsH5).1 (cShM_367 hsH5).2.1 (ea_vpl (cShM_367 hsH5).2.2 z6) ?_
  obtain ⟨H8, eH8, E⟩ := let_some E
  refine ea_iast (pc := 39) dX12_gathers_39 (cShM_391 hsH5).1 (cShM_391 hsH5).2.1 (ea_vpl (cShM_391 hsH5).2.2 z7) ?_
  refine ea_nm eH8 ?_
  have hsH8 : ShM H8 := by rw [eH8]; exact hsH5
  obtain ⟨z9, E⟩ := gd_some E
  refine ea_aload_n (pc := 40) dX12_gathers_40 rfl 0 rfl ?_
  refine ea_getR (pc := 41) dX12_gathers_41 ec_12 (k := 91) (Nat.le_of_ble_eq_true rfl) rfl (Or.inl ew_1493) (cShM_326 hsH8).1 (cShM_326 hsH8).2.1 (rShM_326_91 hsH8) ?_
  refine ea_iconst (pc := 44) dX12_gathers_44 (v := 3) rfl ?_
  refine ea_aload_n (pc := 45) dX12_gathers_45 rfl 0 rfl ?_
  refine ea_getR (pc := 46) dX12_gathers_46 ec_12 (k := 68) (Nat.le_of_ble_eq_true rfl) rfl (Or.inl ew_1470) (cShM_326 hsH8).1 (cShM_326 hsH8).2.1 (rShM_326_68 hsH8) ?_
  refine ea_iload_n (pc := 49) dX12_gathers_49 rfl 1 rfl ?_
  obtain ⟨z10, E⟩ := gd_some E
  refine ea_iald (pc := 50) dX12_gathers_50 (cShM_368 hsH8).1 (cShM_368 hsH8).2.1 (ea_vpl (cShM_368 hsH8).2.2 z9) ?_
  obtain ⟨H11, eH11, E⟩ := let_some E
  refine ea_iast (pc := 51) dX12_gathers_51 (cShM_391 hsH8).1 (cShM_391 hsH8).2.1 (ea_vpl (cShM_391 hsH8).2.2 z10) ?_
  refine ea_nm eH11 ?_
  have hsH11 : ShM H11 := by rw [eH11]; exact hsH8
  obtain ⟨z12, E⟩ := gd_some E
  refine ea_aload_n (pc := 52) dX12_gathers_52 rfl 0 rfl ?_
  refine ea_getR (pc := 53) dX12_gathers_53 ec_12 (k := 91) (Nat.le_of_ble_eq_true rfl) rfl (Or.inl ew_1493) (cShM_326 hsH11).1 (cShM_326 hsH11).2.1 (rShM_326_91 hsH11) ?_
  refine ea_iconst (pc := 56) dX12_gathers_56 (v := 4) rfl ?_
  refine ea_aload_n (pc := 57) dX12_gathers_57 rfl 0 rfl ?_
  refine ea_getR (pc := 58) dX12_gathers_58 ec_12 (k := 70) (Nat.le_of_ble_eq_true rfl) rfl (Or.inl ew_1472) (cShM_326 hsH11).1 (cShM_326 hsH11).2.1 (rShM_326_70 hsH11) ?_
  refine ea_iload_n (pc := 61) dX12_gathers_61 rfl 1 rfl ?_
  obtain ⟨z13, E⟩ := gd_some E
  refine ea_iald (pc := 62) dX12_gathers_62 (cShM_370 hsH11).1 (cShM_370 hsH11).2.1 (ea_vpl (cShM_370 hsH11).2.2 z12) ?_
  refine ea_sipush (pc := 63) dX12_gathers_63 (v := 1440) rfl ?_
  refine ea_irem (pc := 66) dX12_gathers_66 (by decide) ?_
  refine ea_bipush (pc := 67) dX12_gathers_67 (v := 60) rfl ?_
  refine ea_idiv (pc := 69) dX12_gathers_69 (by decide) ?_
  obtain ⟨H14, eH14, E⟩ := let_some E
  refine ea_iast (pc := 70) dX12_gathers_70 (cShM_391 hsH11).1 (cShM_391 hsH11).2.1 (ea_vpl (cShM_391 hsH11).2.2 z13) ?_
  refine ea_nm eH14 ?_
  have hsH14 : ShM H14 := by rw [eH14]; exact hsH11
  obtain ⟨z15, E⟩ := gd_some E
  refine ea_aload_n (pc := 71) dX12_gathers_71 rfl 0 rfl ?_
  refine ea_getR (pc := 72) dX12_gathers_72 ec_12 (k := 91) (Nat.le_of_ble_eq_true rfl) rfl (Or.inl ew_1493) (cShM_326 hsH14).1 (cShM_326 hsH14).2.1 (rShM_326_91 hsH14) ?_
  refine ea_iconst (pc := 75) dX12_gathers_75 (v := 5) rfl ?_
  refine ea_aload_n (pc := 76) dX12_gathers_76 rfl 0 rfl ?_
  refine ea_getR (pc := 77) dX12_gathers_77 ec_12 (k := 70) (Nat.le_of_ble_eq_true rfl) rfl (Or.inl ew_1472) (cShM_326 hsH14).1 (cShM_326 hsH14).2.1 (rShM_326_70 hsH14) ?_
  refine ea_iload_n (pc := 80) dX12_gathers_80 rfl 1 rfl ?_
  obtain ⟨z16, E⟩ := gd_some E
  refine ea_iald (pc := 81) dX12_gathers_81 (cShM_370 hsH14).1 (cShM_370 hsH14).2.1 (ea_vpl (cShM_370 hsH14).2.2 z15) ?_
  refine ea_sipush (pc := 82) dX12_gathers_82 (v := 1440) rfl ?_
  refine ea_idiv (pc := 85) dX12_gathers_85 (by decide) ?_
  obtain ⟨H17, eH17, E⟩ := let_some E
  refine ea_iast (pc := 86) dX12_gathers_86 (cShM_391 hsH14).1 (cShM_391 hsH14).2.1 (ea_vpl (cShM_391 hsH14).2.2 z16) ?_
  refine ea_nm eH17 ?_
  have hsH17 : ShM H17 := by rw [eH17]; exact hsH14
  obtain ⟨z18, E⟩ := gd_some E
  refine ea_aload_n (pc := 87) dX12_gathers_87 rfl 0 rfl ?_
  refine ea_getR (pc := 88) dX12_gathers_88 ec_12 (k := 91) (Nat.le_of_ble_eq_true rfl) rfl (Or.inl ew_1493) (cShM_326 hsH17).1 (cShM_326 hsH17).2.1 (rShM_326_91 hsH17) ?_
  refine ea_bipush (pc := 91) dX12_gathers_91 (v := 6) rfl ?_
  refine ea_aload_n (pc := 93) dX12_gathers_93 rfl 0 rfl ?_
  refine ea_getR (pc := 94) dX12_gathers_94 ec_12 (k := 64) (Nat.le_of_ble_eq_true rfl) rfl (Or.inl ew_1466) (cShM_326 hsH17).1 (cShM_326 hsH17).2.1 (rShM_326_64 hsH17) ?_
  refine ea_iload_n (pc := 97) dX12_gathers_97 rfl 1 rfl ?_
  obtain ⟨z19, E⟩ := gd_some E
  refine ea_iald (pc := 98) dX12_gathers_98 (cShM_364 hsH17).1 (cShM_364 hsH17).2.1 (ea_vpl (cShM_364 hsH17).2.2 z18) ?_
  obtain ⟨H20, eH20, E⟩ := let_some E
  refine ea_iast (pc := 99) dX12_gathers_99 (cShM_391 hsH17).1 (cShM_391 hsH17).2.1 (ea_vpl (cShM_391 hsH17).2.2 z19) ?_
  refine ea_nm eH20 ?_
  have hsH20 : ShM H20 := by rw [eH20]; exact hsH17
  obtain ⟨z21, E⟩ := gd_some E
  refine ea_aload_n (pc := 100) dX12_gathers_100 rfl 0 rfl ?_
  refine ea_getR (pc := 101) dX12_gathers_101 ec_12 (k := 91) (Nat.le_of_ble_eq_true rfl) rfl (Or.inl ew_1493) (cShM_326 hsH20).1 (cShM_326 hsH20).2.1 (rShM_326_91 hsH20) ?_
  refine ea_bipush (pc := 104) dX12_gathers_104 (v := 7) rfl ?_
  refine ea_aload_n (pc := 106) dX12_gathers_106 rfl 0 rfl ?_
  refine ea_getR (pc := 107) dX12_gathers_107 ec_12 (k := 78) (Nat.le_of_ble_eq_true rfl) rfl (Or.inl ew_1480) (cShM_326 hsH20).1 (cShM_326 hsH20).2.1 (rShM_326_78 hsH20) ?_
  refine ea_iload_n (pc := 110) dX12_gathers_110 rfl 1 rfl ?_
  refine ea_zald (pc := 111) dX12_gathers_111 (cShM_378 hsH20).1 (cShM_378 hsH20).2.1 (ea_vpl (cShM_378 hsH20).2.2 z21) ?_
  refine ea_if_eq (pc := 112) (tgt := 119) dX12_gathers_112 rfl (fun c26 => ?_) (fun c26 => ?_)
  · have E := (if_pos c26).symm.trans E
    obtain ⟨z22, E⟩ := gd_some E
    refine ea_iconst (pc := 119) dX12_gathers_119 (v := 0) rfl ?_
    obtain ⟨H23, eH23, E⟩ := let_some E
    refine ea_iast (pc := 120) dX12_gathers_120 (cShM_391 hsH20).1 (cShM_391 hsH20).2.1 (ea_vpl (cShM_391 hsH20).2.2 z22) ?_
    refine ea_nm eH23 ?_
    have hsH23 : ShM H23 := by rw [eH23]; exact hsH20
    exact ea_vretO (pc := 121) dX12_gathers_121 rfl E
  · have E := (if_neg c26).symm.trans E
    obtain ⟨z24, E⟩ := gd_some E
    refine ea_iconst (pc := 115) dX12_gathers_115 (v := 1) rfl ?_
    refine ea_goto (pc := 116) (tgt := 120) dX12_gathers_116 rfl ?_
    obtain ⟨H25, eH25, E⟩ := let_some E
    refine ea_iast (pc := 120) dX12_gathers_120 (cShM_391 hsH20).1 (cShM_391 hsH20).2.1 (ea_vpl (cShM_391 hsH20).2.2 z24) ?_
    refine ea_nm eH25 ?_
    have hsH25 : ShM H25 := by rw [eH25]; exact hsH20
    exact ea_vretO (pc := 121) dX12_gathers_121 rfl E
theorem kBX12_gathers_27  {x1 : Int32} {sx0 : Int32} {sx1 : Int32} {h : ea_H} : kp (ea_core h) (BX12_gathers_27 x1 sx0 sx1 h) :=
  (kp_gd (kp_let (kp_gd (kp_gd (kp_let (kp_gd (kp_gd (kp_let (kp_gd (kp_gd (kp_let (kp_gd (kp_gd (kp_let (kp_gd (kp_gd (kp_let (kp_gd (kp_ite (kp_gd (kp_let (kp_ret rfl))) (kp_gd (kp_let (kp_ret rfl))))))))))))))))))))))
theorem lBX12_gathers_27  {x1 : Int32} {sx0 : Int32} {sx1 : Int32} {h : ea_H} : fle (BX12_gathers_27 x1 sx0 sx1 h) (BX12_gathers_27 x1 sx0 sx1 h) :=
  (fle_rfl _)
theorem nBX12_gathers_27  {x1 : Int32} {sx0 : Int32} {sx1 : Int32} {h : ea_H} : fct (BX12_gathers_27 x1 sx0 sx1 h) (fun f => BX12_gathers_27 x1 sx0 sx1 h) :=
  (fct_rfl _)
noncomputable def gX12_gathers : Nat → (Int32 → ea_H → Option (Unit × ea_H)) × (Int32 → Int32 → Int32 → ea_H → Option (Unit × ea_H))
  | 0 => (fun _ _ => none, fun _ _ _ _ => none)
  | f + 1 => (BX12_gathers_0 (gX12_gathers f).2, BX12_gathers_27)
theorem mgX12_gathers : ∀ f : Nat, (∀ (x1 : Int32) (h : ea_H), fle ((gX12_gathers f).1 x1 h) ((gX12_gathers (f + 1)).1 x1 h)) ∧ (∀ (x1 : Int32) (sx0 : Int32) (sx1 : Int32) (h : ea_H), fle ((gX12_gathers f).2 x1 sx0 sx1 h) ((gX12_gathers (f + 1)).2 x1 sx0 sx1 h)) := by
  intro f
  induction f with
  | zero => exact ⟨fun _ _ => fle_none _, fun _ _ _ _ => fle_none _⟩
  | succ f ih => exact ⟨fun _ _ => lBX12_gathers_0 ih.2, fun _ _ _ _ => lBX12_gathers_27⟩
noncomputable def qX12_gathers_0 (x1 : Int32) (h : ea_H) : Option (Unit × ea_H) := flim fun f => (gX12_gathers f).1 x1 h
noncomputable def qX12_gathers_27 (x1 : Int32) (sx0 : Int32) (sx1 : Int32) (h : ea_H) : Option (Unit × ea_H) := flim fun f => (gX12_gathers f).2 x1 sx0 sx1 h
theorem fqX12_gathers_0 (x1 : Int32) (h : ea_H) : fct (qX12_gathers_0 x1 h) fun f => (gX12_gathers f).1 x1 h := flim_ct fun f => (mgX12_gathers f).1 x1 h
theorem fqX12_gathers_27 (x1 : Int32) (sx0 : Int32) (sx1 : Int32) (h : ea_H) : fct (qX12_gathers_27 x1 sx0 sx1 h) fun f => (gX12_gathers f).2 x1 sx0 sx1 h := flim_ct fun f => (mgX12_gathers f).2 x1 sx0 sx1 h
/-- how a block opens -/
theorem uqX12_gathers_0 {x1 : Int32} {h : ea_H} {P : Unit × ea_H → Prop} (H : sat (BX12_gathers_0 qX12_gathers_27 x1 h) P) : sat (qX12_gathers_0 x1 h) P := by
  obtain ⟨x, e, hp⟩ := H
  obtain ⟨n, hn⟩ := nBX12_gathers_0 fqX12_gathers_27 x e
  exact ⟨x, flim_at (fun f => (mgX12_gathers f).1 x1 h) (f := n + 1) (hn n (Nat.le_refl _)), hp⟩
/-- how a block opens -/
theorem uqX12_gathers_27 {x1 : Int32} {sx0 : Int32} {sx1 : Int32} {h : ea_H} {P : Unit × ea_H → Prop} (H : sat (BX12_gathers_27 x1 sx0 sx1 h) P) : sat (qX12_gathers_27 x1 sx0 sx1 h) P := by
  obtain ⟨x, e, hp⟩ := H
  obtain ⟨n, hn⟩ := nBX12_gathers_27 x e
  exact ⟨x, flim_at (fun f => (mgX12_gathers f).2 x1 sx0 sx1 h) (f := n + 1) (hn n (Nat.le_refl _)), hp⟩
theorem kgX12_gathers : ∀ f : Nat, (∀ (x1 : Int32) (h : ea_H), kp (ea_core h) ((gX12_gathers f).1 x1 h)) ∧ (∀ (x1 : Int32) (sx0 : Int32) (sx1 : Int32) (h : ea_H), kp (ea_core h) ((gX12_gathers f).2 x1 sx0 sx1 h)) := by
  intro f
  induction f with
  | zero => exact ⟨fun _ _ => kp_none _, fun _ _ _ _ => kp_none _⟩
  | succ f ih => exact ⟨fun _ _ => kBX12_gathers_0 ih.2, fun _ _ _ _ => kBX12_gathers_27⟩
theorem tgX12_gathers {d : Nat} {h0 : ea_H} (hd : 1 ≤ d) : ∀ f : Nat, (∀ (x1 : Int32) (h : ea_H) (r : Unit) (h' : ea_H), (gX12_gathers f).1 x1 h = some (r, h') → ShM h → ea_W mX12_gathers d h0 none h' 0 [(0, vR (some 326)), (1, vI x1)] [] h) ∧ (∀ (x1 : Int32) (sx0 : Int32) (sx1 : Int32) (h : ea_H) (r : Unit) (h' : ea_H), (gX12_gathers f).2 x1 sx0 sx1 h = some (r, h') → ShM h → ea_W mX12_gathers d h0 none h' 27 [(0, vR (some 326)), (1, vI x1)] [vI sx0, vI sx1, vR (some 391)] h) := by
  intro f
  induction f with
  | zero => exact ⟨fun _ _ _ _ E => no_some E, fun _ _ _ _ _ _ E => no_some E⟩
  | succ f ih => exact ⟨fun _ _ _ _ E hs => tBX12_gathers_0 hd ih.2 E hs, fun _ _ _ _ _ _ E hs => tBX12_gathers_27 hd E hs⟩
noncomputable def qX12_gathers (x1 : Int32) (h : ea_H) : Option (Unit × ea_H) := qX12_gathers_0 x1 h
theorem sX12_gathers {d : Nat} {x1 : Int32} {h : ea_H} {r : Unit} {h' : ea_H} (hd : 1 ≤ d) (hs : ShM h) (K : qX12_gathers x1 h = some (r, h')) : ea_Met mX12_gathers d [vR (some 326), vI x1] h none h' := by
  unfold qX12_gathers at K
  obtain ⟨n, hn⟩ := fqX12_gathers_0 x1 h _ K
  have W := (tgX12_gathers (d := d) (h0 := h) hd n).1 x1 h _ _ (hn n (Nat.le_refl _)) hs
  exact ea_enter rfl (Nat.le_of_ble_eq_true rfl) W
theorem kpX12_gathers (x1 : Int32) (h : ea_H) : kp (ea_core h) (qX12_gathers x1 h) := fun x e => by
  obtain ⟨n, hn⟩ := fqX12_gathers_0 x1 h x e
  exact (kgX12_gathers n).1 x1 h x (hn n (Nat.le_refl _))
noncomputable def BX12_both_0 (x0 : Int32) (x1 : Int32) (x2 : Int32) (h : ea_H) : Option (Int32 × ea_H) :=
  (if Int32.toInt x0 = 8 then (some ((x1 + x2), h)) else (if Int32.toInt x0 = 9 then (some ((x1 - x2), h)) else (if Int32.toInt x0 = 10 then (some ((x1 * x2), h)) else (if Int32.toInt x0 = 11 then (some ((x1 ||| x2), h)) else (if Int32.toInt x0 = 12 then (if x2 ≤ x1 then (some ((0 : Int32), h)) else (some ((1 : Int32), h))) else (if Int32.toInt x0 = 13 then (if x1 = x2 then (some ((1 : Int32), h)) else (some ((0 : Int32), h))) else (if Int32.toInt x0 = 14 then (if x1 ≤ x2 then (some ((0 : Int32), h)) else (some ((1 : Int32), h))) else (if Int32.toInt x0 = 15 then (some ((x1 ||| x2), h)) else (if Int32.toInt x0 = 16 then (some ((x1 &&& x2), h)) else (some ((x1 ||| x2), h)))))))))))
theorem tBX12_both_0 {d : Nat} {h0 : ea_H} (hd : 1 ≤ d)  {x0 : Int32} {x1 : Int32} {x2 : Int32} {h : ea_H} {r : Int32} {h' : ea_H} (E : BX12_both_0 x0 x1 x2 h = some (r, h')) : ea_W mX12_both d h0 (some (vI r)) h' 0 [(0, vI x0), (1, vI x1), (2, vI x2)] [] h := by
  unfold BX12_both_0 at E
  refine ea_iload_n (pc := 0) dX12_both_0 rfl 0 rfl ?_
  by_cases q1_0 : Int32.toInt x0 = 8
  · have E := (if_pos q1_0).symm.trans E
    refine ea_tswIn (pc := 1) (tgt := 52) dX12_both_1 (by rw [q1_0]; decide) (by rw [q1_0]; decide) (by rw [q1_0]; rfl) rfl ?_
    refine ea_iload_n (pc := 52) dX12_both_52 rfl 1 rfl ?_
    refine ea_iload_n (pc := 53) dX12_both_53 rfl 2 rfl ?_
    refine ea_iadd (pc := 54) dX12_both_54 ?_
    exact ea_iretO (pc := 55) dX12_both_55 rfl rfl E
  have E := (if_neg q1_0).symm.trans E
  by_cases q1_1 : Int32.toInt x0 = 9
  · have E := (if_pos q1_1).symm.trans E
    refine ea_tswIn (pc := 1) (tgt := 56) dX12_both_1 (by rw [q1_1]; decide) (by rw [q1_1]; decide) (by rw [q1_1]; rfl) rfl ?_
    refine ea_iload_n (pc := 56) dX12_both_56 rfl 1 rfl ?_
    refine ea_iload_n (pc := 57) dX12_both_57 rfl 2 rfl ?_
    refine ea_isub (pc := 58) dX12_both_58 ?_
    exact ea_iretO (pc := 59) dX12_both_59 rfl rfl E
  have E := (if_neg q1_1).symm.trans E
  by_cases q1_2 : Int32.toInt x0 = 10
  · have E := (if_pos q1_2).symm.trans E
    refine ea_tswIn (pc := 1) (tgt := 60) dX12_both_1 (by rw [q1_2]; decide) (by rw [q1_2]; decide) (by rw [q1_2]; rfl) rfl ?_
    refine ea_iload_n (pc := 60) dX12_both_60 rfl 1 rfl ?_
    refine ea_iload_n (pc := 61) dX12_both_61 rfl 2 rfl ?_
    refine ea_imul (pc := 62) dX12_both_62 ?_
    exact ea_iretO (pc := 63) dX12_both_63 rfl rfl E
  have E := (if_neg q1_2).symm.trans E
  by_cases q1_3 : Int32.toInt x0 = 11
  · have E := (if_pos q1_3).symm.trans E
    refine ea_tswIn (pc := 1) (tgt := 101) dX12_both_1 (by rw [q1_3]; decide) (by rw [q1_3]; decide) (by rw [q1_3]; rfl) rfl ?_
    refine ea_iload_n (pc := 101) dX12_both_101 rfl 1 rfl ?_
    refine ea_iload_n (pc := 102) dX12_both_102 rfl 2 rfl ?_
    refine ea_ior (pc := 103) dX12_both_103 ?_
    exact ea_iretO (pc := 104) dX12_both_104 rfl rfl E
  have E := (if_neg q1_3).symm.trans E
  by_cases q1_4 : Int32.toInt x0 = 12
  · have E := (if_pos q1_4).symm.trans E
    refine ea_tswIn (pc := 1) (tgt := 64) dX12_both_1 (by rw [q1_4]; decide) (by rw [q1_4]; decide) (by rw [q1_4]; rfl) rfl ?_
    refine ea_iload_n (pc := 64) dX12_both_64 rfl 1 rfl ?_
    refine ea_iload_n (pc := 65) dX12_both_65 rfl 2 rfl ?_
    refine ea_icmp_ge (pc := 66) (tgt := 73) dX12_both_66 rfl (fun c3 => ?_) (fun c3 => ?_)
    · have E := (if_pos c3).symm.trans E
      refine ea_iconst (pc := 73) dX12_both_73 (v := 0) rfl ?_
      exact ea_iretO (pc := 74) dX12_both_74 rfl rfl E
    · have E := (if_neg c3).symm.trans E
      refine ea_iconst (pc := 69) dX12_both_69 (v := 1) rfl ?_
      refine ea_goto (pc := 70) (tgt := 74) dX12_both_70 rfl ?_
      exact ea_iretO (pc := 74) dX12_both_74 rfl rfl E
  have E := (if_neg q1_4).symm.trans E
  by_cases q1_5 : Int32.toInt x0 = 13
  · have E := (if_pos q1_5).symm.trans E
    refine ea_tswIn (pc := 1) (tgt := 75) dX12_both_1 (by rw [q1_5]; decide) (by rw [q1_5]; decide) (by rw [q1_5]; rfl) rfl ?_
    refine ea_iload_n (pc := 75) dX12_both_75 rfl 1 rfl ?_
    refine ea_iload_n (pc := 76) dX12_both_76 rfl 2 rfl ?_
    refine ea_icmp_ne (pc := 77) (tgt := 84) dX12_both_77 rfl (fun c2 => ?_) (fun c2 => ?_)
    · have E := (if_neg c2).symm.trans E
      refine ea_iconst (pc := 84) dX12_both_84 (v := 0) rfl ?_
      exact ea_iretO (pc := 85) dX12_both_85 rfl rfl E
    · have E := (if_pos c2).symm.trans E
      refine ea_iconst (pc := 80) dX12_both_80 (v := 1) rfl ?_
      refine ea_goto (pc := 81) (tgt := 85) dX12_both_81 rfl ?_
      exact ea_iretO (pc := 85) dX12_both_85 rfl rfl E
  have E := (if_neg q1_5).symm.trans E
  by_cases q1_6 : Int32.toInt x0 = 14
  · have E := (if_pos q1_6).symm.trans E
    refine ea_tswIn (pc := 1) (tgt := 86) dX12_both_1 (by rw [q1_6]; decide) (by rw [q1_6]; decide) (by rw [q1_6]; rfl) rfl ?_
    refine ea_iload_n (pc := 86) dX12_both_86 rfl 1 rfl ?_
    refine ea_iload_n (pc := 87) dX12_both_87 rfl 2 rfl ?_
    refine ea_icmp_le (pc := 88) (tgt := 95) dX12_both_88 rfl (fun c1 => ?_) (fun c1 => ?_)
    · have E := (if_pos c1).symm.trans E
      refine ea_iconst (pc := 95) dX12_both_95 (v := 0) rfl ?_
      exact ea_iretO (pc := 96) dX12_both_96 rfl rfl E
    · have E := (if_neg c1).symm.trans E
      refine ea_iconst (pc := 91) dX12_both_91 (v := 1) rfl ?_
      refine ea_goto (pc := 92) (tgt := 96) dX12_both_92 rfl ?_
      exact ea_iretO (pc := 96) dX12_both_96 rfl rfl E
  have E := (if_neg q1_6).symm.trans E
  by_cases q1_7 : Int32.toInt x0 = 15
  · have E := (if_pos q1_7).symm.trans E
    refine ea_tswIn (pc := 1) (tgt := 101) dX12_both_1 (by rw [q1_7]; decide) (by rw [q1_7]; decide) (by rw [q1_7]; rfl) rfl ?_
    refine ea_iload_n (pc := 101) dX12_both_101 rfl 1 rfl ?_
    refine ea_iload_n (pc := 102) dX12_both_102 rfl 2 rfl ?_
    refine ea_ior (pc := 103) dX12_both_103 ?_
    exact ea_iretO (pc := 104) dX12_both_104 rfl rfl E
  have E := (if_neg q1_7).symm.trans E
  by_cases q1_8 : Int32.toInt x0 = 16
  · have E := (if_pos q1_8).symm.trans E
    refine ea_tswIn (pc := 1) (tgt := 97) dX12_both_1 (by rw [q1_8]; decide) (by rw [q1_8]; decide) (by rw [q1_8]; rfl) rfl ?_
    refine ea_iload_n (pc := 97) dX12_both_97 rfl 1 rfl ?_
    refine ea_iload_n (pc := 98) dX12_both_98 rfl 2 rfl ?_
    refine ea_iand (pc := 99) dX12_both_99 ?_
    exact ea_iretO (pc := 100) dX12_both_100 rfl rfl E
  have E := (if_neg q1_8).symm.trans E
  refine ea_tswOut (pc := 1) (tgt := 101) dX12_both_1 (ea_sw_8_16 q1_0 q1_1 q1_2 q1_3 q1_4 q1_5 q1_6 q1_7 q1_8) rfl ?_
  refine ea_iload_n (pc := 101) dX12_both_101 rfl 1 rfl ?_
  refine ea_iload_n (pc := 102) dX12_both_102 rfl 2 rfl ?_
  refine ea_ior (pc := 103) dX12_both_103 ?_
  exact ea_iretO (pc := 104) dX12_both_104 rfl rfl E
theorem kBX12_both_0  {x0 : Int32} {x1 : Int32} {x2 : Int32} {h : ea_H} : kp (ea_core h) (BX12_both_0 x0 x1 x2 h) :=
  (kp_ite (kp_ret rfl) (kp_ite (kp_ret rfl) (kp_ite (kp_ret rfl) (kp_ite (kp_ret rfl) (kp_ite (kp_ite (kp_ret rfl) (kp_ret rfl)) (kp_ite (kp_ite (kp_ret rfl) (kp_ret rfl)) (kp_ite (kp_ite (kp_ret rfl) (kp_ret rfl)) (kp_ite (kp_ret rfl) (kp_ite (kp_ret rfl) (kp_ret rfl))))))))))
noncomputable def qX12_both (x0 : Int32) (x1 : Int32) (x2 : Int32) (h : ea_H) : Option (Int32 × ea_H) := BX12_both_0 x0 x1 x2 h
theorem sX12_both {d : Nat} {x0 : Int32} {x1 : Int32} {x2 : Int32} {h : ea_H} {r : Int32} {h' : ea_H} (hd : 1 ≤ d) (K : qX12_both x0 x1 x2 h = some (r, h')) : ea_Met mX12_both d [vI x0, vI x1, vI x2] h (some (vI r)) h' := by
  unfold qX12_both at K
  have W := tBX12_both_0 hd (h0 := h) K
  exact ea_enter rfl (Nat.le_of_ble_eq_true rfl) W
theorem kpX12_both (x0 : Int32) (x1 : Int32) (x2 : Int32) (h : ea_H) : kp (ea_core h) (qX12_both x0 x1 x2 h) := kBX12_both_0
noncomputable def BX12_comesTo_0 (J6 : Int32 → Int32 → Int32 → Int32 → ea_H → Option (Int32 × ea_H)) (x1 : Int32) (x2 : Int32) (x3 : Int32) (h : ea_H) : Option (Int32 × ea_H) :=
  (J6 (x1 : Int32) (x3 : Int32) (0 : Int32) (x2 : Int32) h)
theorem tBX12_comesTo_0 {d : Nat} {h0 : ea_H} (hd : 2 ≤ d) {J6 : Int32 → Int32 → Int32 → Int32 → ea_H → Option (Int32 × ea_H)}  (kJ6 : ∀ (x1 : Int32) (x3 : Int32) (x4 : Int32) (x5 : Int32) (h : ea_H) (r : Int32) (h' : ea_H), J6 x1 x3 x4 x5 h = some (r, h') → ShM h → ea_W mX12_comesTo d h0 (some (vI r)) h' 6 [(0, vR (some 326)), (1, vI x1), (3, vI x3), (4, vI x4), (5, vI x5)] [] h) {x1 : Int32} {x2 : Int32} {x3 : Int32} {h : ea_H} {r : Int32} {h' : ea_H} (E : BX12_comesTo_0 J6 x1 x2 x3 h = some (r, h')) (hs : ShM h) : ea_W mX12_comesTo d h0 (some (vI r)) h' 0 [(0, vR (some 326)), (1, vI x1), (2, vI x2), (3, vI x3)] [] h := by
  unfold BX12_comesTo_0 at E
  refine ea_iconst (pc := 0) dX12_comesTo_0 (v := 0) rfl ?_
  refine ea_istore (pc := 1) (lv' := [(0, vR (some 326)), (1, vI x1), (2, vI x2), (3, vI x3), (4, vI 0)]) dX12_comesTo_1 (Nat.le_of_ble_eq_true rfl) [1, 2, 3, 4, 0] rfl ?_
  refine ea_iload_n (pc := 3) dX12_comesTo_3 rfl 2 rfl ?_
  refine ea_istore (pc := 4) (lv' := [(0, vR (some 326)), (1, vI x1), (3, vI x3), (4, vI 0), (5, vI x2)]) dX12_comesTo_4 (Nat.le_of_ble_eq_true rfl) [1, 2, 4, 5, 0] rfl ?_
  exact (kJ6 (x1 : Int32) (x3 : Int32) (0 : Int32) (x2 : Int32) h _ _ E hs)
theorem kBX12_comesTo_0 {J6 : Int32 → Int32 → Int32 → Int32 → ea_H → Option (Int32 × ea_H)}  (cJ6 : ∀ (x1 : Int32) (x3 : Int32) (x4 : Int32) (x5 : Int32) (h : ea_H), kp (ea_core h) (J6 x1 x3 x4 x5 h)) {x1 : Int32} {x2 : Int32} {x3 : Int32} {h : ea_H} : kp (ea_core h) (BX12_comesTo_0 J6 x1 x2 x3 h) :=
  (kp_tw (cJ6 _ _ _ _ _) rfl)
theorem lBX12_comesTo_0 {J6 : Int32 → Int32 → Int32 → Int32 → ea_H → Option (Int32 × ea_H)} {J6_ : Int32 → Int32 → Int32 → Int32 → ea_H → Option (Int32 × ea_H)}  (mJ6 : ∀ (x1 : Int32) (x3 : Int32) (x4 : Int32) (x5 : Int32) (h : ea_H), fle (J6 x1 x3 x4 x5 h) (J6_ x1 x3 x4 x5 h)) {x1 : Int32} {x2 : Int32} {x3 : Int32} {h : ea_H} : fle (BX12_comesTo_0 J6 x1 x2 x3 h) (BX12_comesTo_0 J6_ x1 x2 x3 h) :=
  (mJ6 _ _ _ _ _)
theorem nBX12_comesTo_0 {J6 : Int32 → Int32 → Int32 → Int32 → ea_H → Option (Int32 × ea_H)} {J6_ : Nat → (Int32 → Int32 → Int32 → Int32 → ea_H → Option (Int32 × ea_H))}  (mJ6 : ∀ (x1 : Int32) (x3 : Int32) (x4 : Int32) (x5 : Int32) (h : ea_H), fct (J6 x1 x3 x4 x5 h) (fun f => J6_ f x1 x3 x4 x5 h)) {x1 : Int32} {x2 : Int32} {x3 : Int32} {h : ea_H} : fct (BX12_comesTo_0 J6 x1 x2 x3 h) (fun f => BX12_comesTo_0 (J6_ f) x1 x2 x3 h) :=
  (mJ6 _ _ _ _ _)
noncomputable def BX12_comesTo_6 (J6 : Int32 → Int32 → Int32 → Int32 → ea_H → Option (Int32 × ea_H)) (x1 : Int32) (x3 : Int32) (x4 : Int32) (x5 : Int32) (h : ea_H) : Option (Int32 × ea_H) :=
  (if x3 ≤ x5 then (some ((ea_i h 363 0), h)) else (gd (vp_in (((1220 : Int32) * x1) + ((2 : Int32) * x5)) 7320) (ea_let (ea_i h 358 (Int32.toNatClampNeg (((1220 : Int32) * x1) + ((2 : Int32) * x5)))) fun (v2 : Int32) => (gd (vp_in ((((1220 : Int32) * x1) + ((2 : Int32) * x5)) + (1 : Int32)) 7320) (ea_let (ea_i h 358 (Int32.toNatClampNeg ((((1220 : Int32) * x1) + ((2 : Int32) * x5)) + (1 : Int32)))) fun (v4 : Int32) => (if (8 : Int32) ≤ v2 then (if v2 = (11 : Int32) then (gd (vp_in (x4 - (1 : Int32)) 620) (gd ((¬ v4 = 0)) (gd (vp_in (x4 - (1 : Int32)) 620) (ea_let (ea_wi h 363 (Int32.toNatClampNeg (x4 - (1 : Int32))) ((ea_i h 363 (Int32.toNatClampNeg (x4 - (1 : Int32)))) / v4)) fun H17 => (J6 (x1 : Int32) (x3 : Int32) (x4 : Int32) ((x5 + (1 : Int32)) : Int32) H17))))) else (if v2 = (15 : Int32) then (gd (vp_in (x4 - (1 : Int32)) 620) (gd (vp_in (x4 - (1 : Int32)) 620) (ea_let (ea_wi h 363 (Int32.toNatClampNeg (x4 - (1 : Int32))) ((1 : Int32) - (ea_i h 363 (Int32.toNatClampNeg (x4 - (1 : Int32)))))) fun H12 => (J6 (x1 : Int32) (x3 : Int32) (x4 : Int32) ((x5 + (1 : Int32)) : Int32) H12)))) else (gd (vp_in ((x4 + ((-1) : Int32)) - (1 : Int32)) 620) (gd (vp_in (x4 + ((-1) : Int32)) 620) (Option.bind (qX12_both (v2 : Int32) ((ea_i h 363 (Int32.toNatClampNeg ((x4 + ((-1) : Int32)) - (1 : Int32)))) : Int32) ((ea_i h 363 (Int32.toNatClampNeg (x4 + ((-1) : Int32)))) : Int32) h) fun w7 => (gd (vp_in ((x4 + ((-1) : Int32)) - (1 : Int32)) 620) (ea_let (ea_wi w7.2 363 (Int32.toNatClampNeg ((x4 + ((-1) : Int32)) - (1 : Int32))) w7.1) fun H9 => (J6 (x1 : Int32) (x3 : Int32) ((x4 + ((-1) : Int32)) : Int32) ((x5 + (1 : Int32)) : Int32) H9)))))))) else (if v2 = (0 : Int32) then (gd (vp_in x4 620) (ea_let (ea_wi h 363 (Int32.toNatClampNeg x4) v4) fun H23 => (J6 (x1 : Int32) (x3 : Int32) ((x4 + (1 : Int32)) : Int32) ((x5 + (1 : Int32)) : Int32) H23))) else (gd (vp_in v2 8) (gd (vp_in x4 620) (ea_let (ea_wi h 363 (Int32.toNatClampNeg x4) (ea_i h 391 (Int32.toNatClampNeg v2))) fun H21 => (J6 (x1 : Int32) (x3 : Int32) ((x4 + (1 : Int32)) : Int32) ((x5 + (1 : Int32)) : Int32) H21)))))))))))
theorem tBX12_comesTo_6 {d : Nat} {h0 : ea_H} (hd : 2 ≤ d) {J6 : Int32 → Int32 → Int32 → Int32 → ea_H → Option (Int32 × ea_H)}  (kJ6 : ∀ (x1 : Int32) (x3 : Int32) (x4 : Int32) (x5 : Int32) (h : ea_H) (r : Int32) (h' : ea_H), J6 x1 x3 x4 x5 h = some (r, h') → ShM h → ea_W mX12_comesTo d h0 (some (vI r)) h' 6 [(0, vR (some 326)), (1, vI x1), (3, vI x3), (4, vI x4), (5, vI x5)] [] h) {x1 : Int32} {x3 : Int32} {x4 : Int32} {x5 : Int32} {h : ea_H} {r : Int32} {h' : ea_H} (E : BX12_comesTo_6 J6 x1 x3 x4 x5 h = some (r, h')) (hs : ShM h) : ea_W mX12_comesTo d h0 (some (vI r)) h' 6 [(0, vR (some 326)), (1, vI x1), (3, vI x3), (4, vI x4), (5, vI x5)] [] h := by
  unfold BX12_comesTo_6 at E
  refine ea_iload (pc := 6) dX12_comesTo_6 4 rfl ?_
  refine ea_iload_n (pc := 8) dX12_comesTo_8 rfl 2 rfl ?_
  refine ea_icmp_ge (pc := 9) (tgt := 178) dX12_comesTo_9 rfl (fun c26 => ?_) (fun c26 => ?_)
  · have E := (if_pos c26).symm.trans E
    refine ea_aload_n (pc := 178) dX12_comesTo_178 rfl 0 rfl ?_
    refine ea_getR (pc := 179) dX12_comesTo_179 ec_12 (k := 42) (Nat.le_of_ble_eq_true rfl) rfl (Or.inl ew_1444) (cShM_326 hs).1 (cShM_326 hs).2.1 (rShM_326_42 hs) ?_
    refine ea_iconst (pc := 182) dX12_comesTo_182 (v := 0) rfl ?_
    refine ea_iald (pc := 183) dX12_comesTo_183 (cShM_363 hs).1 (cShM_363 hs).2.1 (ea_vpl (n := 620) (cShM_363 hs).2.2 (by unfold vp_in; decide)) ?_
    exact ea_iretO (pc := 184) dX12_comesTo_184 rfl rfl E
  · have E := (if_neg c26).symm.trans E
    obtain ⟨z1, E⟩ := gd_some E
    refine ea_aload_n (pc := 12) dX12_comesTo_12 rfl 0 rfl ?_
    refine ea_getR (pc := 13) dX12_comesTo_13 ec_12 (k := 37) (Nat.le_of_ble_eq_true rfl) rfl (Or.inl ew_1439) (cShM_326 hs).1 (cShM_326 hs).2.1 (rShM_326_37 hs) ?_
    refine ea_sipush (pc := 16) dX12_comesTo_16 (v := 1220) rfl ?_
    refine ea_iload_n (pc := 19) dX12_comesTo_19 rfl 1 rfl ?_
    refine ea_imul (pc := 20) dX12_comesTo_20 ?_
    refine ea_iconst (pc := 21) dX12_comesTo_21 (v := 2) rfl ?_
    refine ea_iload (pc := 22) dX12_comesTo_22 4 rfl ?_
    refine ea_imul (pc := 24) dX12_comesTo_24 ?_
    refine ea_iadd (pc := 25) dX12_comesTo_25 ?_
    obtain ⟨v2, ev2, E⟩ := let_some E
    refine ea_iald (pc := 26) dX12_comesTo_26 (cShM_358 hs).1 (cShM_358 hs).2.1 (ea_vpl (cShM_358 hs).2.2 z1) ?_
    obtain ⟨z3, E⟩ := gd_some E
    refine ea_istore (pc := 27) (lv' := [(0, vR (some 326)), (1, vI x1), (3, vI x3), (4, vI x4), (5, vI x5), (6, vI v2)]) dX12_comesTo_27 (Nat.le_of_ble_eq_true rfl) [1, 2, 3, 4, 5, 0] (by rw [ev2]; rfl) ?_
    refine ea_aload_n (pc := 29) dX12_comesTo_29 rfl 0 rfl ?_
    refine ea_getR (pc := 30) dX12_comesTo_30 ec_12 (k := 37) (Nat.le_of_ble_eq_true rfl) rfl (Or.inl ew_1439) (cShM_326 hs).1 (cShM_326 hs).2.1 (rShM_326_37 hs) ?_
    refine ea_sipush (pc := 33) dX12_comesTo_33 (v := 1220) rfl ?_
    refine ea_iload_n (pc := 36) dX12_comesTo_36 rfl 1 rfl ?_
    refine ea_imul (pc := 37) dX12_comesTo_37 ?_
    refine ea_iconst (pc := 38) dX12_comesTo_38 (v := 2) rfl ?_
    refine ea_iload (pc := 39) dX12_comesTo_39 4 rfl ?_
    refine ea_imul (pc := 41) dX12_comesTo_41 ?_
    refine ea_iadd (pc := 42) dX12_comesTo_42 ?_
    refine ea_iconst (pc := 43) dX12_comesTo_43 (v := 1) rfl ?_
    refine ea_iadd (pc := 44) dX12_comesTo_44 ?_
    obtain ⟨v4, ev4, E⟩ := let_some E
    refine ea_iald (pc := 45) dX12_comesTo_45 (cShM_358 hs).1 (cShM_358 hs).2.1 (ea_vpl (cShM_358 hs).2.2 z3) ?_
    refine ea_istore (pc := 46) (lv' := [(0, vR (some 326)), (1, vI x1), (3, vI x3), (4, vI x4), (5, vI x5), (6, vI v2), (7, vI v4)]) dX12_comesTo_46 (Nat.le_of_ble_eq_true rfl) [1, 2, 3, 4, 5, 6, 0] (by rw [ev4]; rfl) ?_
    refine ea_iload (pc := 48) dX12_comesTo_48 5 rfl ?_
    refine ea_bipush (pc := 50) dX12_comesTo_50 (v := 8) rfl ?_
    refine ea_icmp_ge (pc := 52) (tgt := 85) dX12_comesTo_52 rfl (fun c25 => ?_) (fun c25 => ?_)
    · have E := (if_pos c25).symm.trans E
      refine ea_iload (pc := 85) dX12_comesTo_85 5 rfl ?_
      refine ea_bipush (pc := 87) dX12_comesTo_87 (v := 11) rfl ?_
      refine ea_icmp_ne (pc := 89) (tgt := 109) dX12_comesTo_89 rfl (fun c18 => ?_) (fun c18 => ?_)
      · have E := (if_neg c18).symm.trans E
        refine ea_iload (pc := 109) dX12_comesTo_109 5 rfl ?_
        refine ea_bipush (pc := 111) dX12_comesTo_111 (v := 15) rfl ?_
        refine ea_icmp_ne (pc := 113) (tgt := 139) dX12_comesTo_113 rfl (fun c13 => ?_) (fun c13 => ?_)
        · have E := (if_neg c13).symm.trans E
          obtain ⟨z5, E⟩ := gd_some E
          refine ea_iinc (pc := 139) (v := (-1)) (lv' := [(0, vR (some 326)), (1, vI x1), (3, vI x3), (4, vI (x4 + ((-1) : Int32))), (5, vI x5), (6, vI v2)]) dX12_comesTo_139 3 rfl rfl (Nat.le_of_ble_eq_true rfl) [1, 2, 3, 0, 4, 5] rfl ?_
          refine ea_aload_n (pc := 142) dX12_comesTo_142 rfl 0 rfl ?_
          refine ea_getR (pc := 143) dX12_comesTo_143 ec_12 (k := 42) (Nat.le_of_ble_eq_true rfl) rfl (Or.inl ew_1444) (cShM_326 hs).1 (cShM_326 hs).2.1 (rShM_326_42 hs) ?_
          refine ea_iload (pc := 146) dX12_comesTo_146 3 rfl ?_
          refine ea_iconst (pc := 148) dX12_comesTo_148 (v := 1) rfl ?_
          refine ea_isub (pc := 149) dX12_comesTo_149 ?_
          refine ea_iload (pc := 150) dX12_comesTo_150 5 rfl ?_
          refine ea_aload_n (pc := 152) dX12_comesTo_152 rfl 0 rfl ?_
          refine ea_getR (pc := 153) dX12_comesTo_153 ec_12 (k := 42) (Nat.le_of_ble_eq_true rfl) rfl (Or.inl ew_1444) (cShM_326 hs).1 (cShM_326 hs).2.1 (rShM_326_42 hs) ?_
          refine ea_iload (pc := 156) dX12_comesTo_156 3 rfl ?_
          refine ea_iconst (pc := 158) dX12_comesTo_158 (v := 1) rfl ?_
          refine ea_isub (pc := 159) dX12_comesTo_159 ?_
          obtain ⟨z6, E⟩ := gd_some E
          refine ea_iald (pc := 160) dX12_comesTo_160 (cShM_363 hs).1 (cShM_363 hs).2.1 (ea_vpl (cShM_363 hs).2.2 z5) ?_
          refine ea_aload_n (pc := 161) dX12_comesTo_161 rfl 0 rfl ?_
          refine ea_getR (pc := 162) dX12_comesTo_162 ec_12 (k := 42) (Nat.le_of_ble_eq_true rfl) rfl (Or.inl ew_1444) (cShM_326 hs).1 (cShM_326 hs).2.1 (rShM_326_42 hs) ?_
          refine ea_iload (pc := 165) dX12_comesTo_165 3 rfl ?_
          obtain ⟨w7, Ew7, E⟩ := bd_some E
          have hsw7 : ShM w7.2 := ShM_core ((kpX12_both _ _ _ _) _ Ew7) hs
          refine ea_iald (pc := 167) dX12_comesTo_167 (cShM_363 hs).1 (cShM_363 hs).2.1 (ea_vpl (cShM_363 hs).2.2 z6) ?_
          refine ea_callS (pc := 168) (d' := d - 1) (As := [vI v2, vI (ea_i h 363 (Int32.toNatClampNeg ((x4 + ((-1) : Int32)) - (1 : Int32)))), vI (ea_i h 363 (Int32.toNatClampNeg (x4 + ((-1) : Int32))))]) (st := [vI ((x4 + ((-1) : Int32)) - (1 : Int32)), vR (some 363)]) dX12_comesTo_168 kX12_both (sX12_both (d := d - 1) (by omega) Ew7) (by omega) rfl (Nat.le_of_ble_eq_true rfl) ew_2064 ew_2065 ?_
          obtain ⟨z8, E⟩ := gd_some E
          obtain ⟨H9, eH9, E⟩ := let_some E
          refine ea_iast (pc := 171) dX12_comesTo_171 (cShM_363 hsw7).1 (cShM_363 hsw7).2.1 (ea_vpl (cShM_363 hsw7).2.2 z8) ?_
          refine ea_nm eH9 ?_
          have hsH9 : ShM H9 := by rw [eH9]; exact hsw7
          refine ea_iinc (pc := 172) (v := 1) (lv' := [(0, vR (some 326)), (1, vI x1), (3, vI x3), (4, vI (x4 + ((-1) : Int32))), (5, vI (x5 + (1 : Int32)))]) dX12_comesTo_172 4 rfl rfl (Nat.le_of_ble_eq_true rfl) [1, 2, 3, 4, 0] rfl ?_
          refine ea_goto (pc := 175) (tgt := 6) dX12_comesTo_175 rfl ?_
          exact (kJ6 (x1 : Int32) (x3 : Int32) ((x4 + ((-1) : Int32)) : Int32) ((x5 + (1 : Int32)) : Int32) H9 _ _ E hsH9)
        · have E := (if_pos c13).symm.trans E
          obtain ⟨z10, E⟩ := gd_some E
          refine ea_aload_n (pc := 116) dX12_comesTo_116 rfl 0 rfl ?_
          refine ea_getR (pc := 117) dX12_comesTo_117 ec_12 (k := 42) (Nat.le_of_ble_eq_true rfl) rfl (Or.inl ew_1444) (cShM_326 hs).1 (cShM_326 hs).2.1 (rShM_326_42 hs) ?_
          refine ea_iload (pc := 120) dX12_comesTo_120 3 rfl ?_
          refine ea_iconst (pc := 122) dX12_comesTo_122 (v := 1) rfl ?_
          refine ea_isub (pc := 123) dX12_comesTo_123 ?_
          refine ea_iconst (pc := 124) dX12_comesTo_124 (v := 1) rfl ?_
          refine ea_aload_n (pc := 125) dX12_comesTo_125 rfl 0 rfl ?_
          refine ea_getR (pc := 126) dX12_comesTo_126 ec_12 (k := 42) (Nat.le_of_ble_eq_true rfl) rfl (Or.inl ew_1444) (cShM_326 hs).1 (cShM_326 hs).2.1 (rShM_326_42 hs) ?_
          refine ea_iload (pc := 129) dX12_comesTo_129 3 rfl ?_
          refine ea_iconst (pc := 131) dX12_comesTo_131 (v := 1) rfl ?_
          refine ea_isub (pc := 132) dX12_comesTo_132 ?_
          obtain ⟨z11, E⟩ := gd_some E
          refine ea_iald (pc := 133) dX12_comesTo_133 (cShM_363 hs).1 (cShM_363 hs).2.1 (ea_vpl (cShM_363 hs).2.2 z10) ?_
          refine ea_isub (pc := 134) dX12_comesTo_134 ?_
          obtain ⟨H12, eH12, E⟩ := let_some E
          refine ea_iast (pc := 135) dX12_comesTo_135 (cShM_363 hs).1 (cShM_363 hs).2.1 (ea_vpl (cShM_363 hs).2.2 z11) ?_
          refine ea_nm eH12 ?_
          have hsH12 : ShM H12 := by rw [eH12]; exact hs
          refine ea_goto (pc := 136) (tgt := 172) dX12_comesTo_136 rfl ?_
          refine ea_iinc (pc := 172) (v := 1) (lv' := [(0, vR (some 326)), (1, vI x1), (3, vI x3), (4, vI x4), (5, vI (x5 + (1 : Int32)))]) dX12_comesTo_172 4 rfl rfl (Nat.le_of_ble_eq_true rfl) [1, 2, 3, 4, 0] rfl ?_
          refine ea_goto (pc := 175) (tgt := 6) dX12_comesTo_175 rfl ?_
          exact (kJ6 (x1 : Int32) (x3 : Int32) (x4 : Int32) ((x5 + (1 : Int32)) : Int32) H12 _ _ E hsH12)
      · have E := (if_pos c18).symm.trans E
        obtain ⟨z14, E⟩ := gd_some E
        refine ea_aload_n (pc := 92) dX12_comesTo_92 rfl 0 rfl ?_
        refine ea_getR (pc := 93) dX12_comesTo_93 ec_12 (k := 42) (Nat.le_of_ble_eq_true rfl) rfl (Or.inl ew_1444) (cShM_326 hs).1 (cShM_326 hs).2.1 (rShM_326_42 hs) ?_
        refine ea_iload (pc := 96) dX12_comesTo_96 3 rfl ?_
        refine ea_iconst (pc := 98) dX12_comesTo_98 (v := 1) rfl ?_
        refine ea_isub (pc := 99) dX12_comesTo_99 ?_
        refine ea_dup2 (pc := 100) dX12_comesTo_100 rfl rfl ?_
        obtain ⟨z15, E⟩ := gd_some E
        refine ea_iald (pc := 101) dX12_comesTo_101 (cShM_363 hs).1 (cShM_363 hs).2.1 (ea_vpl (cShM_363 hs).2.2 z14) ?_
        refine ea_iload (pc := 102) dX12_comesTo_102 6 rfl ?_
        obtain ⟨z16, E⟩ := gd_some E
        refine ea_idiv (pc := 104) dX12_comesTo_104 z15 ?_
        obtain ⟨H17, eH17, E⟩ := let_some E
        refine ea_iast (pc := 105) dX12_comesTo_105 (cShM_363 hs).1 (cShM_363 hs).2.1 (ea_vpl (cShM_363 hs).2.2 z16) ?_
        refine ea_nm eH17 ?_
        have hsH17 : ShM H17 := by rw [eH17]; exact hs
        refine ea_goto (pc := 106) (tgt := 172) dX12_comesTo_106 rfl ?_
        refine ea_iinc (pc := 172) (v := 1) (lv' := [(0, vR (some 326)), (1, vI x1), (3, vI x3), (4, vI x4), (5, vI (x5 + (1 : Int32)))]) dX12_comesTo_172 4 rfl rfl (Nat.le_of_ble_eq_true rfl) [1, 2, 3, 4, 0] rfl ?_
        refine ea_goto (pc := 175) (tgt := 6) dX12_comesTo_175 rfl ?_
        exact (kJ6 (x1 : Int32) (x3 : Int32) (x4 : Int32) ((x5 + (1 : Int32)) : Int32) H17 _ _ E hsH17)
    · have E := (if_neg c25).symm.trans E
      refine ea_aload_n (pc := 55) dX12_comesTo_55 rfl 0 rfl ?_
      refine ea_getR (pc := 56) dX12_comesTo_56 ec_12 (k := 42) (Nat.le_of_ble_eq_true rfl) rfl (Or.inl ew_1444) (cShM_326 hs).1 (cShM_326 hs).2.1 (rShM_326_42 hs) ?_
      refine ea_iload (pc := 59) dX12_comesTo_59 3 rfl ?_
      refine ea_iload (pc := 61) dX12_comesTo_61 5 rfl ?_
      refine ea_if_ne (pc := 63) (tgt := 71) dX12_comesTo_63 rfl (fun c24 => ?_) (fun c24 => ?_)
      · have E := (if_neg c24).symm.trans E
        obtain ⟨z19, E⟩ := gd_some E
        refine ea_aload_n (pc := 71) dX12_comesTo_71 rfl 0 rfl ?_
        refine ea_getR (pc := 72) dX12_comesTo_72 ec_12 (k := 91) (Nat.le_of_ble_eq_true rfl) rfl (Or.inl ew_1493) (cShM_326 hs).1 (cShM_326 hs).2.1 (rShM_326_91 hs) ?_
        refine ea_iload (pc := 75) dX12_comesTo_75 5 rfl ?_
        obtain ⟨z20, E⟩ := gd_some E
        refine ea_iald (pc := 77) dX12_comesTo_77 (cShM_391 hs).1 (cShM_391 hs).2.1 (ea_vpl (cShM_391 hs).2.2 z19) ?_
        obtain ⟨H21, eH21, E⟩ := let_some E
        refine ea_iast (pc := 78) dX12_comesTo_78 (cShM_363 hs).1 (cShM_363 hs).2.1 (ea_vpl (cShM_363 hs).2.2 z20) ?_
        refine ea_nm eH21 ?_
        have hsH21 : ShM H21 := by rw [eH21]; exact hs
        refine ea_iinc (pc := 79) (v := 1) (lv' := [(0, vR (some 326)), (1, vI x1), (3, vI x3), (4, vI (x4 + (1 : Int32))), (5, vI x5)]) dX12_comesTo_79 3 rfl rfl (Nat.le_of_ble_eq_true rfl) [1, 2, 3, 0, 4] rfl ?_
        refine ea_goto (pc := 82) (tgt := 172) dX12_comesTo_82 rfl ?_
        refine ea_iinc (pc := 172) (v := 1) (lv' := [(0, vR (some 326)), (1, vI x1), (3, vI x3), (4, vI (x4 + (1 : Int32))), (5, vI (x5 + (1 : Int32)))]) dX12_comesTo_172 4 rfl rfl (Nat.le_of_ble_eq_true rfl) [1, 2, 3, 4, 0] rfl ?_
        refine ea_goto (pc := 175) (tgt := 6) dX12_comesTo_175 rfl ?_
        exact (kJ6 (x1 : Int32) (x3 : Int32) ((x4 + (1 : Int32)) : Int32) ((x5 + (1 : Int32)) : Int32) H21 _ _ E hsH21)
      · have E := (if_pos c24).symm.trans E
        obtain ⟨z22, E⟩ := gd_some E
        refine ea_iload (pc := 66) dX12_comesTo_66 6 rfl ?_
        refine ea_goto (pc := 68) (tgt := 78) dX12_comesTo_68 rfl ?_
        obtain ⟨H23, eH23, E⟩ := let_some E
        refine ea_iast (pc := 78) dX12_comesTo_78 (cShM_363 hs).1 (cShM_363 hs).2.1 (ea_vpl (cShM_363 hs).2.2 z22) ?_
        refine ea_nm eH23 ?_
        have hsH23 : ShM H23 := by rw [eH23]; exact hs
        refine ea_iinc (pc := 79) (v := 1) (lv' := [(0, vR (some 326)), (1, vI x1), (3, vI x3), (4, vI (x4 + (1 : Int32))), (5, vI x5)]) dX12_comesTo_79 3 rfl rfl (Nat.le_of_ble_eq_true rfl) [1, 2, 3, 0, 4] rfl ?_
        refine ea_goto (pc := 82) (tgt := 172) dX12_comesTo_82 rfl ?_
        refine ea_iinc (pc := 172) (v := 1) (lv' := [(0, vR (some 326)), (1, vI x1), (3, vI x3), (4, vI (x4 + (1 : Int32))), (5, vI (x5 + (1 : Int32)))]) dX12_comesTo_172 4 rfl rfl (Nat.le_of_ble_eq_true rfl) [1, 2, 3, 4, 0] rfl ?_
        refine ea_goto (pc := 175) (tgt := 6) dX12_comesTo_175 rfl ?_
        exact (kJ6 (x1 : Int32) (x3 : Int32) ((x4 + (1 : Int32)) : Int32) ((x5 + (1 : Int32)) : Int32) H23 _ _ E hsH23)
theorem kBX12_comesTo_6 {J6 : Int32 → Int32 → Int32 → Int32 → ea_H → Option (Int32 × ea_H)}  (cJ6 : ∀ (x1 : Int32) (x3 : Int32) (x4 : Int32) (x5 : Int32) (h : ea_H), kp (ea_core h) (J6 x1 x3 x4 x5 h)) {x1 : Int32} {x3 : Int32} {x4 : Int32} {x5 : Int32} {h : ea_H} : kp (ea_core h) (BX12_comesTo_6 J6 x1 x3 x4 x5 h) :=
  (kp_ite (kp_ret rfl) (kp_gd (kp_let (kp_gd (kp_let (kp_ite (kp_ite (kp_gd (kp_gd (kp_gd (kp_let (kp_tw (cJ6 _ _ _ _ _) rfl))))) (kp_ite (kp_gd (kp_gd (kp_let (kp_tw (cJ6 _ _ _ _ _) rfl)))) (kp_gd (kp_gd (kp_bind (kp_tw (kpX12_both _ _ _ _) rfl) fun w7 hcw7 => (kp_gd (kp_let (kp_tw (cJ6 _ _ _ _ _) hcw7)))))))) (kp_ite (kp_gd (kp_let (kp_tw (cJ6 _ _ _ _ _) rfl))) (kp_gd (kp_gd (kp_let (kp_tw (cJ6 _ _ _ _ _) rfl)))))))))))
theorem lBX12_comesTo_6 {J6 : Int32 → Int32 → Int32 → Int32 → ea_H → Option (Int32 × ea_H)} {J6_ : Int32 → Int32 → Int32 → Int32 → ea_H → Option (Int32 × ea_H)}  (mJ6 : ∀ (x1 : Int32) (x3 : Int32) (x4 : Int32) (x5 : Int32) (h : ea_H), fle (J6 x1 x3 x4 x5 h) (J6_ x1 x3 x4 x5 h)) {x1 : Int32} {x3 : Int32} {x4 : Int32} {x5 : Int32} {h : ea_H} : fle (BX12_comesTo_6 J6 x1 x3 x4 x5 h) (BX12_comesTo_6 J6_ x1 x3 x4 x5 h) :=
  (fle_ite (fle_rfl _) (fle_gd (fle_let fun _ => (fle_gd (fle_let fun _ => (fle_ite (fle_ite (fle_gd (fle_gd (fle_gd (fle_let fun _ => (mJ6 _ _ _ _ _))))) (fle_ite (fle_gd (fle_gd (fle_let fun _ => (mJ6 _ _ _ _ _)))) (fle_gd (fle_gd (fle_bind (fle_rfl _) fun _ => (fle_gd (fle_let fun _ => (mJ6 _ _ _ _ _)))))))) (fle_ite (fle_gd (fle_let fun _ => (mJ6 _ _ _ _ _))) (fle_gd (fle_gd (fle_let fun _ => (mJ6 _ _ _ _ _)))))))))))
theorem nBX12_comesTo_6 {J6 : Int32 → Int32 → Int32 → Int32 → ea_H → Option (Int32 × ea_H)} {J6_ : Nat → (Int32 → Int32 → Int32 → Int32 → ea_H → Option (Int32 × ea_H))}  (mJ6 : ∀ (x1 : Int32) (x3 : Int32) (x4 : Int32) (x5 : Int32) (h : ea_H), fct (J6 x1 x3 x4 x5 h) (fun f => J6_ f x1 x3 x4 x5 h)) {x1 : Int32} {x3 : Int32} {x4 : Int32} {x5 : Int32} {h : ea_H} : fct (BX12_comesTo_6 J6 x1 x3 x4 x5 h) (fun f => BX12_comesTo_6 (J6_ f) x1 x3 x4 x5 h) :=
  (fct_ite (fct_rfl _) (fct_gd (fct_let fun _ => (fct_gd (fct_let fun _ => (fct_ite (fct_ite (fct_gd (fct_gd (fct_gd (fct_let fun _ => (mJ6 _ _ _ _ _))))) (fct_ite (fct_gd (fct_gd (fct_let fun _ => (mJ6 _ _ _ _ _)))) (fct_gd (fct_gd (fct_bind (fct_rfl _) fun _ => (fct_gd (fct_let fun _ => (mJ6 _ _ _ _ _)))))))) (fct_ite (fct_gd (fct_let fun _ => (mJ6 _ _ _ _ _))) (fct_gd (fct_gd (fct_let fun _ => (mJ6 _ _ _ _ _)))))))))))
noncomputable def gX12_comesTo : Nat → (Int32 → Int32 → Int32 → ea_H → Option (Int32 × ea_H)) × (Int32 → Int32 → Int32 → Int32 → ea_H → Option (Int32 × ea_H))
  | 0 => (fun _ _ _ _ => none, fun _ _ _ _ _ => none)
  | f + 1 => (BX12_comesTo_0 (gX12_comesTo f).2, BX12_comesTo_6 (gX12_comesTo f).2)
theorem mgX12_comesTo : ∀ f : Nat, (∀ (x1 : Int32) (x2 : Int32) (x3 : Int32) (h : ea_H), fle ((gX12_comesTo f).1 x1 x2 x3 h) ((gX12_comesTo (f + 1)).1 x1 x2 x3 h)) ∧ (∀ (x1 : Int32) (x3 : Int32) (x4 : Int32) (x5 : Int32) (h : ea_H), fle ((gX12_comesTo f).2 x1 x3 x4 x5 h) ((gX12_comesTo (f + 1)).2 x1 x3 x4 x5 h)) := by
  intro f
  induction f with
  | zero => exact ⟨fun _ _ _ _ => fle_none _, fun _ _ _ _ _ => fle_none _⟩
  | succ f ih => exact ⟨fun _ _ _ _ => lBX12_comesTo_0 ih.2, fun _ _ _ _ _ => lBX12_comesTo_6 ih.2⟩
noncomputable def qX12_comesTo_0 (x1 : Int32) (x2 : Int32) (x3 : Int32) (h : ea_H) : Option (Int32 × ea_H) := flim fun f => (gX12_comesTo f).1 x1 x2 x3 h
noncomputable def qX12_comesTo_6 (x1 : Int32) (x3 : Int32) (x4 : Int32) (x5 : Int32) (h : ea_H) : Option (Int32 × ea_H) := flim fun f => (gX12_comesTo f).2 x1 x3 x4 x5 h
theorem fqX12_comesTo_0 (x1 : Int32) (x2 : Int32) (x3 : Int32) (h : ea_H) : fct (qX12_comesTo_0 x1 x2 x3 h) fun f => (gX12_comesTo f).1 x1 x2 x3 h := flim_ct fun f => (mgX12_comesTo f).1 x1 x2 x3 h
theorem fqX12_comesTo_6 (x1 : Int32) (x3 : Int32) (x4 : Int32) (x5 : Int32) (h : ea_H) : fct (qX12_comesTo_6 x1 x3 x4 x5 h) fun f => (gX12_comesTo f).2 x1 x3 x4 x5 h := flim_ct fun f => (mgX12_comesTo f).2 x1 x3 x4 x5 h
/-- how a block opens -/
theorem uqX12_comesTo_0 {x1 : Int32} {x2 : Int32} {x3 : Int32} {h : ea_H} {P : Int32 × ea_H → Prop} (H : sat (BX12_comesTo_0 qX12_comesTo_6 x1 x2 x3 h) P) : sat (qX12_comesTo_0 x1 x2 x3 h) P := by
  obtain ⟨x, e, hp⟩ := H
  obtain ⟨n, hn⟩ := nBX12_comesTo_0 fqX12_comesTo_6 x e
  exact ⟨x, flim_at (fun f => (mgX12_comesTo f).1 x1 x2 x3 h) (f := n + 1) (hn n (Nat.le_refl _)), hp⟩
/-- how a block opens -/
theorem uqX12_comesTo_6 {x1 : Int32} {x3 : Int32} {x4 : Int32} {x5 : Int32} {h : ea_H} {P : Int32 × ea_H → Prop} (H : sat (BX12_comesTo_6 qX12_comesTo_6 x1 x3 x4 x5 h) P) : sat (qX12_comesTo_6 x1 x3 x4 x5 h) P := by
  obtain ⟨x, e, hp⟩ := H
  obtain ⟨n, hn⟩ := nBX12_comesTo_6 fqX12_comesTo_6 x e
  exact ⟨x, flim_at (fun f => (mgX12_comesTo f).2 x1 x3 x4 x5 h) (f := n + 1) (hn n (Nat.le_refl _)), hp⟩
theorem kgX12_comesTo : ∀ f : Nat, (∀ (x1 : Int32) (x2 : Int32) (x3 : Int32) (h : ea_H), kp (ea_core h) ((gX12_comesTo f).1 x1 x2 x3 h)) ∧ (∀ (x1 : Int32) (x3 : Int32) (x4 : Int32) (x5 : Int32) (h : ea_H), kp (ea_core h) ((gX12_comesTo f).2 x1 x3 x4 x5 h)) := by
  intro f
  induction f with
  | zero => exact ⟨fun _ _ _ _ => kp_none _, fun _ _ _ _ _ => kp_none _⟩
  | succ f ih => exact ⟨fun _ _ _ _ => kBX12_comesTo_0 ih.2, fun _ _ _ _ _ => kBX12_comesTo_6 ih.2⟩
theorem tgX12_comesTo {d : Nat} {h0 : ea_H} (hd : 2 ≤ d) : ∀ f : Nat, (∀ (x1 : Int32) (x2 : Int32) (x3 : Int32) (h : ea_H) (r : Int32) (h' : ea_H), (gX12_comesTo f).1 x1 x2 x3 h = some (r, h') → ShM h → ea_W mX12_comesTo d h0 (some (vI r)) h' 0 [(0, vR (some 326)), (1, vI x1), (2, vI x2), (3, vI x3)] [] h) ∧ (∀ (x1 : Int32) (x3 : Int32) (x4 : Int32) (x5 : Int32) (h : ea_H) (r : Int32) (h' : ea_H), (gX12_comesTo f).2 x1 x3 x4 x5 h = some (r, h') → ShM h → ea_W mX12_comesTo d h0 (some (vI r)) h' 6 [(0, vR (some 326)), (1, vI x1), (3, vI x3), (4, vI x4), (5, vI x5)] [] h) := by
  intro f
  induction f with
  | zero => exact ⟨fun _ _ _ _ _ _ E => no_some E, fun _ _ _ _ _ _ _ E => no_some E⟩
  | succ f ih => exact ⟨fun _ _ _ _ _ _ E hs => tBX12_comesTo_0 hd ih.2 E hs, fun _ _ _ _ _ _ _ E hs => tBX12_comesTo_6 hd ih.2 E hs⟩
noncomputable def qX12_comesTo (x1 : Int32) (x2 : Int32) (x3 : Int32) (h : ea_H) : Option (Int32 × ea_H) := qX12_comesTo_0 x1 x2 x3 h
theorem sX12_comesTo {d : Nat} {x1 : Int32} {x2 : Int32} {x3 : Int32} {h : ea_H} {r : Int32} {h' : ea_H} (hd : 2 ≤ d) (hs : ShM h) (K : qX12_comesTo x1 x2 x3 h = some (r, h')) : ea_Met mX12_comesTo d [vR (some 326), vI x1, vI x2, vI x3] h (some (vI r)) h' := by
  unfold qX12_comesTo at K
  obtain ⟨n, hn⟩ := fqX12_comesTo_0 x1 x2 x3 h _ K
  have W := (tgX12_comesTo (d := d) (h0 := h) hd n).1 x1 x2 x3 h _ _ (hn n (Nat.le_refl _)) hs
  exact ea_enter rfl (Nat.le_of_ble_eq_true rfl) W
theorem kpX12_comesTo (x1 : Int32) (x2 : Int32) (x3 : Int32) (h : ea_H) : kp (ea_core h) (qX12_comesTo x1 x2 x3 h) := fun x e => by
  obtain ⟨n, hn⟩ := fqX12_comesTo_0 x1 x2 x3 h x e
  exact (kgX12_comesTo n).1 x1 x2 x3 h x (hn n (Nat.le_refl _))
noncomputable def BX12_isFree_0 (x1 : Int32) (x2 : Int32) (h : ea_H) : Option (Int32 × ea_H) :=
  (gd (vp_in x1 120) (if (ea_i h 364 (Int32.toNatClampNeg x1)) = (2 : Int32) then (gd (vp_in x1 120) (gd (vp_in x2 6) (if (ea_i h 351 (Int32.toNatClampNeg x2)) < (ea_i h 372 (Int32.toNatClampNeg x1)) then (some ((0 : Int32), h)) else (some ((1 : Int32), h))))) else (some ((0 : Int32), h))))
theorem tBX12_isFree_0 {d : Nat} {h0 : ea_H} (hd : 1 ≤ d)  {x1 : Int32} {x2 : Int32} {h : ea_H} {r : Int32} {h' : ea_H} (E : BX12_isFree_0 x1 x2 h = some (r, h')) (hs : ShM h) : ea_W mX12_isFree d h0 (some (vI r)) h' 0 [(0, vR (some 326)), (1, vI x1), (2, vI x2)] [] h := by
  unfold BX12_isFree_0 at E
  obtain ⟨z1, E⟩ := gd_some E
  refine ea_aload_n (pc := 0) dX12_isFree_0 rfl 0 rfl ?_
  refine ea_getR (pc := 1) dX12_isFree_1 ec_12 (k := 64) (Nat.le_of_ble_eq_true rfl) rfl (Or.inl ew_1466) (cShM_326 hs).1 (cShM_326 hs).2.1 (rShM_326_64 hs) ?_
  refine ea_iload_n (pc := 4) dX12_isFree_4 rfl 1 rfl ?_
  refine ea_iald (pc := 5) dX12_isFree_5 (cShM_364 hs).1 (cShM_364 hs).2.1 (ea_vpl (cShM_364 hs).2.2 z1) ?_
  refine ea_iconst (pc := 6) dX12_isFree_6 (v := 2) rfl ?_
  refine ea_icmp_ne (pc := 7) (tgt := 29) dX12_isFree_7 rfl (fun c5 => ?_) (fun c5 => ?_)
  · have E := (if_neg c5).symm.trans E
    refine ea_iconst (pc := 29) dX12_isFree_29 (v := 0) rfl ?_
    exact ea_iretO (pc := 30) dX12_isFree_30 rfl (ea_bn (Or.inl rfl)) E
  · have E := (if_pos c5).symm.trans E
    obtain ⟨z2, E⟩ := gd_some E
    refine ea_aload_n (pc := 10) dX12_isFree_10 rfl 0 rfl ?_
    refine ea_getR (pc := 11) dX12_isFree_11 ec_12 (k := 72) (Nat.le_of_ble_eq_true rfl) rfl (Or.inl ew_1474) (cShM_326 hs).1 (cShM_326 hs).2.1 (rShM_326_72 hs) ?_
    refine ea_iload_n (pc := 14) dX12_isFree_14 rfl 1 rfl ?_
    obtain ⟨z3, E⟩ := gd_some E
    refine ea_iald (pc := 15) dX12_isFree_15 (cShM_372 hs).1 (cShM_372 hs).2.1 (ea_vpl (cShM_372 hs).2.2 z2) ?_
    refine ea_aload_n (pc := 16) dX12_isFree_16 rfl 0 rfl ?_
    refine ea_getR (pc := 17) dX12_isFree_17 ec_12 (k := 30) (Nat.le_of_ble_eq_true rfl) rfl (Or.inl ew_1432) (cShM_326 hs).1 (cShM_326 hs).2.1 (rShM_326_30 hs) ?_
    refine ea_iload_n (pc := 20) dX12_isFree_20 rfl 2 rfl ?_
    refine ea_iald (pc := 21) dX12_isFree_21 (cShM_351 hs).1 (cShM_351 hs).2.1 (ea_vpl (cShM_351 hs).2.2 z3) ?_
    refine ea_icmp_gt (pc := 22) (tgt := 29) dX12_isFree_22 rfl (fun c4 => ?_) (fun c4 => ?_)
    · have E := (if_pos c4).symm.trans E
      refine ea_iconst (pc := 29) dX12_isFree_29 (v := 0) rfl ?_
      exact ea_iretO (pc := 30) dX12_isFree_30 rfl (ea_bn (Or.inl rfl)) E
    · have E := (if_neg c4).symm.trans E
      refine ea_iconst (pc := 25) dX12_isFree_25 (v := 1) rfl ?_
      refine ea_goto (pc := 26) (tgt := 30) dX12_isFree_26 rfl ?_
      exact ea_iretO (pc := 30) dX12_isFree_30 rfl (ea_bn (Or.inr rfl)) E
theorem kBX12_isFree_0  {x1 : Int32} {x2 : Int32} {h : ea_H} : kp (ea_core h) (BX12_isFree_0 x1 x2 h) :=
  (kp_gd (kp_ite (kp_gd (kp_gd (kp_ite (kp_ret rfl) (kp_ret rfl)))) (kp_ret rfl)))
noncomputable def qX12_isFree (x1 : Int32) (x2 : Int32) (h : ea_H) : Option (Int32 × ea_H) := BX12_isFree_0 x1 x2 h
theorem sX12_isFree {d : Nat} {x1 : Int32} {x2 : Int32} {h : ea_H} {r : Int32} {h' : ea_H} (hd : 1 ≤ d) (hs : ShM h) (K : qX12_isFree x1 x2 h = some (r, h')) : ea_Met mX12_isFree d [vR (some 326), vI x1, vI x2] h (some (vI r)) h' := by
  unfold qX12_isFree at K
  have W := tBX12_isFree_0 hd (h0 := h) K hs
  exact ea_enter rfl (Nat.le_of_ble_eq_true rfl) W
theorem kpX12_isFree (x1 : Int32) (x2 : Int32) (h : ea_H) : kp (ea_core h) (qX12_isFree x1 x2 h) := kBX12_isFree_0
noncomputable def BX12_lineOf_0 (J7 : Int32 → Int32 → ea_H → Option (Int32 × ea_H)) (x1 : Int32) (x2 : Int32) (h : ea_H) : Option (Int32 × ea_H) :=
  (Option.bind (qX12_gathers (x1 : Int32) h) fun w1 => (J7 (x2 : Int32) (0 : Int32) w1.2))
theorem tBX12_lineOf_0 {d : Nat} {h0 : ea_H} (hd : 3 ≤ d) {J7 : Int32 → Int32 → ea_H → Option (Int32 × ea_H)}  (kJ7 : ∀ (x2 : Int32) (x3 : Int32) (h : ea_H) (r : Int32) (h' : ea_H), J7 x2 x3 h = some (r, h') → ShM h → ea_W mX12_lineOf d h0 (some (vI r)) h' 7 [(0, vR (some 326)), (2, vI x2), (3, vI x3)] [] h) {x1 : Int32} {x2 : Int32} {h : ea_H} {r : Int32} {h' : ea_H} (E : BX12_lineOf_0 J7 x1 x2 h = some (r, h')) (hs : ShM h) : ea_W mX12_lineOf d h0 (some (vI r)) h' 0 [(0, vR (some 326)), (1, vI x1), (2, vI x2)] [] h := by
  unfold BX12_lineOf_0 at E
  obtain ⟨w1, Ew1, E⟩ := bd_some E
  have hsw1 : ShM w1.2 := ShM_core ((kpX12_gathers _ _) _ Ew1) hs
  refine ea_aload_n (pc := 0) dX12_lineOf_0 rfl 0 rfl ?_
  refine ea_iload_n (pc := 1) dX12_lineOf_1 rfl 1 rfl ?_
  refine ea_callV (pc := 2) (d' := d - 1) (As := [vI x1]) (st := []) dX12_lineOf_2 kX12_gathers (sX12_gathers (d := d - 1) (by omega) hs Ew1) (by omega) rfl (Nat.le_of_ble_eq_true rfl) ew_2056 ew_2058 ew_93 (ci := 12) rfl (by decide) (cShM_326 hs).1 (cShM_326 hs).2.1 ?_
  refine ea_iconst (pc := 5) dX12_lineOf_5 (v := 0) rfl ?_
  refine ea_istore_n (pc := 6) (lv' := [(0, vR (some 326)), (2, vI x2), (3, vI 0)]) dX12_lineOf_6 rfl (Nat.le_of_ble_eq_true rfl) [1, 3, 0] rfl ?_
  exact (kJ7 (x2 : Int32) (0 : Int32) w1.2 _ _ E hsw1)
theorem kBX12_lineOf_0 {J7 : Int32 → Int32 → ea_H → Option (Int32 × ea_H)}  (cJ7 : ∀ (x2 : Int32) (x3 : Int32) (h : ea_H), kp (ea_core h) (J7 x2 x3 h)) {x1 : Int32} {x2 : Int32} {h : ea_H} : kp (ea_core h) (BX12_lineOf_0 J7 x1 x2 h) :=
  (kp_bind (kp_tw (kpX12_gathers _ _) rfl) fun w1 hcw1 => (kp_tw (cJ7 _ _ _) hcw1))
theorem lBX12_lineOf_0 {J7 : Int32 → Int32 → ea_H → Option (Int32 × ea_H)} {J7_ : Int32 → Int32 → ea_H → Option (Int32 × ea_H)}  (mJ7 : ∀ (x2 : Int32) (x3 : Int32) (h : ea_H), fle (J7 x2 x3 h) (J7_ x2 x3 h)) {x1 : Int32} {x2 : Int32} {h : ea_H} : fle (BX12_lineOf_0 J7 x1 x2 h) (BX12_lineOf_0 J7_ x1 x2 h) :=
  (fle_bind (fle_rfl _) fun _ => (mJ7 _ _ _))
theorem nBX12_lineOf_0 {J7 : Int32 → Int32 → ea_H → Option (Int32 × ea_H)} {J7_ : Nat → (Int32 → Int32 → ea_H → Option (Int32 × ea_H))}  (mJ7 : ∀ (x2 : Int32) (x3 : Int32) (h : ea_H), fct (J7 x2 x3 h) (fun f => J7_ f x2 x3 h)) {x1 : Int32} {x2 : Int32} {h : ea_H} : fct (BX12_lineOf_0 J7 x1 x2 h) (fun f => BX12_lineOf_0 (J7_ f) x1 x2 h) :=
  (fct_bind (fct_rfl _) fun _ => (mJ7 _ _ _))
noncomputable def BX12_lineOf_7 (J7 : Int32 → Int32 → ea_H → Option (Int32 × ea_H)) (x2 : Int32) (x3 : Int32) (h : ea_H) : Option (Int32 × ea_H) :=
  (gd (vp_in x2 6) (if (ea_i h 355 (Int32.toNatClampNeg x2)) ≤ x3 then (some (((-1) : Int32), h)) else (gd (vp_in (((24 : Int32) * x2) + x3) 144) (ea_let (ea_i h 357 (Int32.toNatClampNeg (((24 : Int32) * x2) + x3))) fun (v4 : Int32) => (gd (vp_in ((((25 : Int32) * x2) + x3) + (1 : Int32)) 150) (ea_let (ea_i h 356 (Int32.toNatClampNeg ((((25 : Int32) * x2) + x3) + (1 : Int32)))) fun (v6 : Int32) => (if v4 = v6 then (some (x3, h)) else (Option.bind (qX12_comesTo (x2 : Int32) (v4 : Int32) (v6 : Int32) h) fun w7 => (if w7.1 = (1 : Int32) then (some (x3, w7.2)) else (J7 (x2 : Int32) ((x3 + (1 : Int32)) : Int32) w7.2))))))))))
theorem tBX12_lineOf_7 {d : Nat} {h0 : ea_H} (hd : 3 ≤ d) {J7 : Int32 → Int32 → ea_H → Option (Int32 × ea_H)}  (kJ7 : ∀ (x2 : Int32) (x3 : Int32) (h : ea_H) (r : Int32) (h' : ea_H), J7 x2 x3 h = some (r, h') → ShM h → ea_W mX12_lineOf d h0 (some (vI r)) h' 7 [(0, vR (some 326)), (2, vI x2), (3, vI x3)] [] h) {x2 : Int32} {x3 : Int32} {h : ea_H} {r : Int32} {h' : ea_H} (E : BX12_lineOf_7 J7 x2 x3 h = some (r, h')) (hs : ShM h) : ea_W mX12_lineOf d h0 (some (vI r)) h' 7 [(0, vR (some 326)), (2, vI x2), (3, vI x3)] [] h := by
  unfold BX12_lineOf_7 at E
  obtain ⟨z2, E⟩ := gd_some E
  refine ea_iload_n (pc := 7) dX12_lineOf_7 rfl 2 rfl ?_
  refine ea_aload_n (pc := 8) dX12_lineOf_8 rfl 0 rfl ?_
  refine ea_getR (pc := 9) dX12_lineOf_9 ec_12 (k := 34) (Nat.le_of_ble_eq_true rfl) rfl (Or.inl ew_1436) (cShM_326 hs).1 (cShM_326 hs).2.1 (rShM_326_34 hs) ?_
  refine ea_iload_n (pc := 12) dX12_lineOf_12 rfl 1 rfl ?_
  refine ea_iald (pc := 13) dX12_lineOf_13 (cShM_355 hs).1 (cShM_355 hs).2.1 (ea_vpl (cShM_355 hs).2.2 z2) ?_
  refine ea_icmp_ge (pc := 14) (tgt := 73) dX12_lineOf_14 rfl (fun c10 => ?_) (fun c10 => ?_)
  · have E := (if_pos c10).symm.trans E
    refine ea_iconst (pc := 73) dX12_lineOf_73 (v := (-1)) rfl ?_
    exact ea_iretO (pc := 74) dX12_lineOf_74 rfl rfl E
  · have E := (if_neg c10).symm.trans E
    obtain ⟨z3, E⟩ := gd_some E
    refine ea_aload_n (pc := 17) dX12_lineOf_17 rfl 0 rfl ?_
    refine ea_getR (pc := 18) dX12_lineOf_18 ec_12 (k := 36) (Nat.le_of_ble_eq_true rfl) rfl (Or.inl ew_1438) (cShM_326 hs).1 (cShM_326 hs).2.1 (rShM_326_36 hs) ?_
    refine ea_bipush (pc := 21) dX12_lineOf_21 (v := 24) rfl ?_
    refine ea_iload_n (pc := 23) dX12_lineOf_23 rfl 1 rfl ?_
    refine ea_imul (pc := 24) dX12_lineOf_24 ?_
    refine ea_iload_n (pc := 25) dX12_lineOf_25 rfl 2 rfl ?_
    refine ea_iadd (pc := 26) dX12_lineOf_26 ?_
    obtain ⟨v4, ev4, E⟩ := let_some E
    refine ea_iald (pc := 27) dX12_lineOf_27 (cShM_357 hs).1 (cShM_357 hs).2.1 (ea_vpl (cShM_357 hs).2.2 z3) ?_
    obtain ⟨z5, E⟩ := gd_some E
    refine ea_istore (pc := 28) (lv' := [(0, vR (some 326)), (2, vI x2), (3, vI x3), (4, vI v4)]) dX12_lineOf_28 (Nat.le_of_ble_eq_true rfl) [1, 2, 3, 0] (by rw [ev4]; rfl) ?_
    refine ea_aload_n (pc := 30) dX12_lineOf_30 rfl 0 rfl ?_
    refine ea_getR (pc := 31) dX12_lineOf_31 ec_12 (k := 35) (Nat.le_of_ble_eq_true rfl) rfl (Or.inl ew_1437) (cShM_326 hs).1 (cShM_326 hs).2.1 (rShM_326_35 hs) ?_
    refine ea_bipush (pc := 34) dX12_lineOf_34 (v := 25) rfl ?_
    refine ea_iload_n (pc := 36) dX12_lineOf_36 rfl 1 rfl ?_
    refine ea_imul (pc := 37) dX12_lineOf_37 ?_
    refine ea_iload_n (pc := 38) dX12_lineOf_38 rfl 2 rfl ?_
    refine ea_iadd (pc := 39) dX12_lineOf_39 ?_
    refine ea_iconst (pc := 40) dX12_lineOf_40 (v := 1) rfl ?_
    refine ea_iadd (pc := 41) dX12_lineOf_41 ?_
    obtain ⟨v6, ev6, E⟩ := let_some E
    refine ea_iald (pc := 42) dX12_lineOf_42 (cShM_356 hs).1 (cShM_356 hs).2.1 (ea_vpl (cShM_356 hs).2.2 z5) ?_
    refine ea_istore (pc := 43) (lv' := [(0, vR (some 326)), (2, vI x2), (3, vI x3), (4, vI v4), (5, vI v6)]) dX12_lineOf_43 (Nat.le_of_ble_eq_true rfl) [1, 2, 3, 4, 0] (by rw [ev6]; rfl) ?_
    refine ea_iload (pc := 45) dX12_lineOf_45 3 rfl ?_
    refine ea_iload (pc := 47) dX12_lineOf_47 4 rfl ?_
    refine ea_icmp_eq (pc := 49) (tgt := 65) dX12_lineOf_49 rfl (fun c9 => ?_) (fun c9 => ?_)
    · have E := (if_pos c9).symm.trans E
      refine ea_iload_n (pc := 65) dX12_lineOf_65 rfl 2 rfl ?_
      exact ea_iretO (pc := 66) dX12_lineOf_66 rfl rfl E
    · have E := (if_neg c9).symm.trans E
      obtain ⟨w7, Ew7, E⟩ := bd_some E
      have hsw7 : ShM w7.2 := ShM_core ((kpX12_comesTo _ _ _ _) _ Ew7) hs
      refine ea_aload_n (pc := 52) dX12_lineOf_52 rfl 0 rfl ?_
      refine ea_iload_n (pc := 53) dX12_lineOf_53 rfl 1 rfl ?_
      refine ea_iload (pc := 54) dX12_lineOf_54 3 rfl ?_
      refine ea_iload (pc := 56) dX12_lineOf_56 4 rfl ?_
      refine ea_callV (pc := 58) (d' := d - 1) (As := [vI x2, vI v4, vI v6]) (st := []) dX12_lineOf_58 kX12_comesTo (sX12_comesTo (d := d - 1) (by omega) hs Ew7) (by omega) rfl (Nat.le_of_ble_eq_true rfl) ew_2060 ew_2062 ew_94 (ci := 12) rfl (by decide) (cShM_326 hs).1 (cShM_326 hs).2.1 ?_
      refine ea_iconst (pc := 61) dX12_lineOf_61 (v := 1) rfl ?_
      refine ea_icmp_ne (pc := 62) (tgt := 67) dX12_lineOf_62 rfl (fun c8 => ?_) (fun c8 => ?_)
      · have E := (if_neg c8).symm.trans E
        refine ea_iinc (pc := 67) (v := 1) (lv' := [(0, vR (some 326)), (2, vI x2), (3, vI (x3 + (1 : Int32)))]) dX12_lineOf_67 2 rfl rfl (Nat.le_of_ble_eq_true rfl) [1, 2, 0] rfl ?_
        refine ea_goto (pc := 70) (tgt := 7) dX12_lineOf_70 rfl ?_
        exact (kJ7 (x2 : Int32) ((x3 + (1 : Int32)) : Int32) w7.2 _ _ E hsw7)
      · have E := (if_pos c8).symm.trans E
        refine ea_iload_n (pc := 65) dX12_lineOf_65 rfl 2 rfl ?_
        exact ea_iretO (pc := 66) dX12_lineOf_66 rfl rfl E
theorem kBX12_lineOf_7 {J7 : Int32 → Int32 → ea_H → Option (Int32 × ea_H)}  (cJ7 : ∀ (x2 : Int32) (x3 : Int32) (h : ea_H), kp (ea_core h) (J7 x2 x3 h)) {x2 : Int32} {x3 : Int32} {h : ea_H} : kp (ea_core h) (BX12_lineOf_7 J7 x2 x3 h) :=
  (kp_gd (kp_ite (kp_ret rfl) (kp_gd (kp_let (kp_gd (kp_let (kp_ite (kp_ret rfl) (kp_bind (kp_tw (kpX12_comesTo _ _ _ _) rfl) fun w7 hcw7 => (kp_ite (kp_ret hcw7) (kp_tw (cJ7 _ _ _) hcw7))))))))))
theorem lBX12_lineOf_7 {J7 : Int32 → Int32 → ea_H → Option (Int32 × ea_H)} {J7_ : Int32 → Int32 → ea_H → Option (Int32 × ea_H)}  (mJ7 : ∀ (x2 : Int32) (x3 : Int32) (h : ea_H), fle (J7 x2 x3 h) (J7_ x2 x3 h)) {x2 : Int32} {x3 : Int32} {h : ea_H} : fle (BX12_lineOf_7 J7 x2 x3 h) (BX12_lineOf_7 J7_ x2 x3 h) :=
  (fle_gd (fle_ite (fle_rfl _) (fle_gd (fle_let fun _ => (fle_gd (fle_let fun _ => (fle_ite (fle_rfl _) (fle_bind (fle_rfl _) fun _ => (fle_ite (fle_rfl _) (mJ7 _ _ _))))))))))
theorem nBX12_lineOf_7 {J7 : Int32 → Int32 → ea_H → Option (Int32 × ea_H)} {J7_ : Nat → (Int32 → Int32 → ea_H → Option (Int32 × ea_H))}  (mJ7 : ∀ (x2 : Int32) (x3 : Int32) (h : ea_H), fct (J7 x2 x3 h) (fun f => J7_ f x2 x3 h)) {x2 : Int32} {x3 : Int32} {h : ea_H} : fct (BX12_lineOf_7 J7 x2 x3 h) (fun f => BX12_lineOf_7 (J7_ f) x2 x3 h) :=
  (fct_gd (fct_ite (fct_rfl _) (fct_gd (fct_let fun _ => (fct_gd (fct_let fun _ => (fct_ite (fct_rfl _) (fct_bind (fct_rfl _) fun _ => (fct_ite (fct_rfl _) (mJ7 _ _ _))))))))))
noncomputable def gX12_lineOf : Nat → (Int32 → Int32 → ea_H → Option (Int32 × ea_H)) × (Int32 → Int32 → ea_H → Option (Int32 × ea_H))
  | 0 => (fun _ _ _ => none, fun _ _ _ => none)
  | f + 1 => (BX12_lineOf_0 (gX12_lineOf f).2, BX12_lineOf_7 (gX12_lineOf f).2)
theorem mgX12_lineOf : ∀ f : Nat, (∀ (x1 : Int32) (x2 : Int32) (h : ea_H), fle ((gX12_lineOf f).1 x1 x2 h) ((gX12_lineOf (f + 1)).1 x1 x2 h)) ∧ (∀ (x2 : Int32) (x3 : Int32) (h : ea_H), fle ((gX12_lineOf f).2 x2 x3 h) ((gX12_lineOf (f + 1)).2 x2 x3 h)) := by
  intro f
  induction f with
  | zero => exact ⟨fun _ _ _ => fle_none _, fun _ _ _ => fle_none _⟩
  | succ f ih => exact ⟨fun _ _ _ => lBX12_lineOf_0 ih.2, fun _ _ _ => lBX12_lineOf_7 ih.2⟩
noncomputable def qX12_lineOf_0 (x1 : Int32) (x2 : Int32) (h : ea_H) : Option (Int32 × ea_H) := flim fun f => (gX12_lineOf f).1 x1 x2 h
noncomputable def qX12_lineOf_7 (x2 : Int32) (x3 : Int32) (h : ea_H) : Option (Int32 × ea_H) := flim fun f => (gX12_lineOf f).2 x2 x3 h
theorem fqX12_lineOf_0 (x1 : Int32) (x2 : Int32) (h : ea_H) : fct (qX12_lineOf_0 x1 x2 h) fun f => (gX12_lineOf f).1 x1 x2 h := flim_ct fun f => (mgX12_lineOf f).1 x1 x2 h
theorem fqX12_lineOf_7 (x2 : Int32) (x3 : Int32) (h : ea_H) : fct (qX12_lineOf_7 x2 x3 h) fun f => (gX12_lineOf f).2 x2 x3 h := flim_ct fun f => (mgX12_lineOf f).2 x2 x3 h
/-- how a block opens -/
theorem uqX12_lineOf_0 {x1 : Int32} {x2 : Int32} {h : ea_H} {P : Int32 × ea_H → Prop} (H : sat (BX12_lineOf_0 qX12_lineOf_7 x1 x2 h) P) : sat (qX12_lineOf_0 x1 x2 h) P := by
  obtain ⟨x, e, hp⟩ := H
  obtain ⟨n, hn⟩ := nBX12_lineOf_0 fqX12_lineOf_7 x e
  exact ⟨x, flim_at (fun f => (mgX12_lineOf f).1 x1 x2 h) (f := n + 1) (hn n (Nat.le_refl _)), hp⟩
/-- how a block opens -/
theorem uqX12_lineOf_7 {x2 : Int32} {x3 : Int32} {h : ea_H} {P : Int32 × ea_H → Prop} (H : sat (BX12_lineOf_7 qX12_lineOf_7 x2 x3 h) P) : sat (qX12_lineOf_7 x2 x3 h) P := by
  obtain ⟨x, e, hp⟩ := H
  obtain ⟨n, hn⟩ := nBX12_lineOf_7 fqX12_lineOf_7 x e
  exact ⟨x, flim_at (fun f => (mgX12_lineOf f).2 x2 x3 h) (f := n + 1) (hn n (Nat.le_refl _)), hp⟩
theorem kgX12_lineOf : ∀ f : Nat, (∀ (x1 : Int32) (x2 : Int32) (h : ea_H), kp (ea_core h) ((gX12_lineOf f).1 x1 x2 h)) ∧ (∀ (x2 : Int32) (x3 : Int32) (h : ea_H), kp (ea_core h) ((gX12_lineOf f).2 x2 x3 h)) := by
  intro f
  induction f with
  | zero => exact ⟨fun _ _ _ => kp_none _, fun _ _ _ => kp_none _⟩
  | succ f ih => exact ⟨fun _ _ _ => kBX12_lineOf_0 ih.2, fun _ _ _ => kBX12_lineOf_7 ih.2⟩
theorem tgX12_lineOf {d : Nat} {h0 : ea_H} (hd : 3 ≤ d) : ∀ f : Nat, (∀ (x1 : Int32) (x2 : Int32) (h : ea_H) (r : Int32) (h' : ea_H), (gX12_lineOf f).1 x1 x2 h = some (r, h') → ShM h → ea_W mX12_lineOf d h0 (some (vI r)) h' 0 [(0, vR (some 326)), (1, vI x1), (2, vI x2)] [] h) ∧ (∀ (x2 : Int32) (x3 : Int32) (h : ea_H) (r : Int32) (h' : ea_H), (gX12_lineOf f).2 x2 x3 h = some (r, h') → ShM h → ea_W mX12_lineOf d h0 (some (vI r)) h' 7 [(0, vR (some 326)), (2, vI x2), (3, vI x3)] [] h) := by
  intro f
  induction f with
  | zero => exact ⟨fun _ _ _ _ _ E => no_some E, fun _ _ _ _ _ E => no_some E⟩
  | succ f ih => exact ⟨fun _ _ _ _ _ E hs => tBX12_lineOf_0 hd ih.2 E hs, fun _ _ _ _ _ E hs => tBX12_lineOf_7 hd ih.2 E hs⟩
noncomputable def qX12_lineOf (x1 : Int32) (x2 : Int32) (h : ea_H) : Option (Int32 × ea_H) := qX12_lineOf_0 x1 x2 h
theorem sX12_lineOf {d : Nat} {x1 : Int32} {x2 : Int32} {h : ea_H} {r : Int32} {h' : ea_H} (hd : 3 ≤ d) (hs : ShM h) (K : qX12_lineOf x1 x2 h = some (r, h')) : ea_Met mX12_lineOf d [vR (some 326), vI x1, vI x2] h (some (vI r)) h' := by
  unfold qX12_lineOf at K
  obtain ⟨n, hn⟩ := fqX12_lineOf_0 x1 x2 h _ K
  have W := (tgX12_lineOf (d := d) (h0 := h) hd n).1 x1 x2 h _ _ (hn n (Nat.le_refl _)) hs
  exact ea_enter rfl (Nat.le_of_ble_eq_true rfl) W
theorem kpX12_lineOf (x1 : Int32) (x2 : Int32) (h : ea_H) : kp (ea_core h) (qX12_lineOf x1 x2 h) := fun x e => by
  obtain ⟨n, hn⟩ := fqX12_lineOf_0 x1 x2 h x e
  exact (kgX12_lineOf n).1 x1 x2 h x (hn n (Nat.le_refl _))
noncomputable def BX12_chargeBy_0 (J54 : Int32 → Int32 → Int32 → ea_H → Option (Int32 × ea_H)) (x1 : Int32) (x2 : Int32) (h : ea_H) : Option (Int32 × ea_H) :=
  (Option.bind (qX12_isFree (x1 : Int32) (x2 : Int32) h) fun w1 => (if w1.1 = (0 : Int32) then (Option.bind (qX12_lineOf (x1 : Int32) (x2 : Int32) w1.2) fun w2 => (if w2.1 = ((-1) : Int32) then (J54 (x1 : Int32) (x2 : Int32) (0 : Int32) w2.2) else (gd (vp_in (((25 : Int32) * x2) + w2.1) 150) (gd (vp_in (((24 : Int32) * x2) + w2.1) 144) (Option.bind (qX12_comesTo (x2 : Int32) ((ea_i w2.2 356 (Int32.toNatClampNeg (((25 : Int32) * x2) + w2.1))) : Int32) ((ea_i w2.2 357 (Int32.toNatClampNeg (((24 : Int32) * x2) + w2.1))) : Int32) w2.2) fun w5 => (J54 (x1 : Int32) (x2 : Int32) (w5.1 : Int32) w5.2)))))) else (some ((0 : Int32), w1.2))))
theorem tBX12_chargeBy_0 {d : Nat} {h0 : ea_H} (hd : 4 ≤ d) {J54 : Int32 → Int32 → Int32 → ea_H → Option (Int32 × ea_H)}  (kJ54 : ∀ (x1 : Int32) (x2 : Int32) (sx0 : Int32) (h : ea_H) (r : Int32) (h' : ea_H), J54 x1 x2 sx0 h = some (r, h') → ShM h → ea_W mX12_chargeBy d h0 (some (vI r)) h' 54 [(0, vR (some 326)), (1, vI x1), (2, vI x2)] [vI sx0] h) {x1 : Int32} {x2 : Int32} {h : ea_H} {r : Int32} {h' : ea_H} (E : BX12_chargeBy_0 J54 x1 x2 h = some (r, h')) (hs : ShM h) : ea_W mX12_chargeBy d h0 (some (vI r)) h' 0 [(0, vR (some 326)), (1, vI x1), (2, vI x2)] [] h := by
  unfold BX12_chargeBy_0 at E
  obtain ⟨w1, Ew1, E⟩ := bd_some E
  have hsw1 : ShM w1.2 := ShM_core ((kpX12_isFree _ _ _) _ Ew1) hs
  refine ea_aload_n (pc := 0) dX12_chargeBy_0 rfl 0 rfl ?_
  refine ea_iload_n (pc := 1) dX12_chargeBy_1 rfl 1 rfl ?_
  refine ea_iload_n (pc := 2) dX12_chargeBy_2 rfl 2 rfl ?_
  refine ea_callV (pc := 3) (d' := d - 1) (As := [vI x1, vI x2]) (st := []) dX12_chargeBy_3 kX12_isFree (sX12_isFree (d := d - 1) (by omega) hs Ew1) (by omega) rfl (Nat.le_of_ble_eq_true rfl) ew_2044 ew_2046 ew_90 (ci := 12) rfl (by decide) (cShM_326 hs).1 (cShM_326 hs).2.1 ?_
  refine ea_if_eq (pc := 6) (tgt := 11) dX12_chargeBy_6 rfl (fun c7 => ?_) (fun c7 => ?_)
  · have E := (if_pos c7).symm.trans E
    obtain ⟨w2, Ew2, E⟩ := bd_some E
    have hsw2 : ShM w2.2 := ShM_core ((kpX12_lineOf _ _ _) _ Ew2) hsw1
    refine ea_aload_n (pc := 11) dX12_chargeBy_11 rfl 0 rfl ?_
    refine ea_iload_n (pc := 12) dX12_chargeBy_12 rfl 1 rfl ?_
    refine ea_iload_n (pc := 13) dX12_chargeBy_13 rfl 2 rfl ?_
    refine ea_callV (pc := 14) (d' := d - 1) (As := [vI x1, vI x2]) (st := []) dX12_chargeBy_14 kX12_lineOf (sX12_lineOf (d := d - 1) (by omega) hsw1 Ew2) (by omega) rfl (Nat.le_of_ble_eq_true rfl) ew_2052 ew_2054 ew_92 (ci := 12) rfl (by decide) (cShM_326 hsw1).1 (cShM_326 hsw1).2.1 ?_
    refine ea_istore_n (pc := 17) (lv' := [(0, vR (some 326)), (1, vI x1), (2, vI x2), (3, vI w2.1)]) dX12_chargeBy_17 rfl (Nat.le_of_ble_eq_true rfl) [1, 2, 3, 0] rfl ?_
    refine ea_iload_n (pc := 18) dX12_chargeBy_18 rfl 3 rfl ?_
    refine ea_iconst (pc := 19) dX12_chargeBy_19 (v := (-1)) rfl ?_
    refine ea_icmp_ne (pc := 20) (tgt := 27) dX12_chargeBy_20 rfl (fun c6 => ?_) (fun c6 => ?_)
    · have E := (if_neg c6).symm.trans E
      obtain ⟨z3, E⟩ := gd_some E
      refine ea_aload_n (pc := 27) dX12_chargeBy_27 rfl 0 rfl ?_
      refine ea_iload_n (pc := 28) dX12_chargeBy_28 rfl 2 rfl ?_
      refine ea_aload_n (pc := 29) dX12_chargeBy_29 rfl 0 rfl ?_
      refine ea_getR (pc := 30) dX12_chargeBy_30 ec_12 (k := 35) (Nat.le_of_ble_eq_true rfl) rfl (Or.inl ew_1437) (cShM_326 hsw2).1 (cShM_326 hsw2).2.1 (rShM_326_35 hsw2) ?_
      refine ea_bipush (pc := 33) dX12_chargeBy_33 (v := 25) rfl ?_
      refine ea_iload_n (pc := 35) dX12_chargeBy_35 rfl 2 rfl ?_
      refine ea_imul (pc := 36) dX12_chargeBy_36 ?_
      refine ea_iload_n (pc := 37) dX12_chargeBy_37 rfl 3 rfl ?_
      refine ea_iadd (pc := 38) dX12_chargeBy_38 ?_
      obtain ⟨z4, E⟩ := gd_some E
      refine ea_iald (pc := 39) dX12_chargeBy_39 (cShM_356 hsw2).1 (cShM_356 hsw2).2.1 (ea_vpl (cShM_356 hsw2).2.2 z3) ?_
      refine ea_aload_n (pc := 40) dX12_chargeBy_40 rfl 0 rfl ?_
      refine ea_getR (pc := 41) dX12_chargeBy_41 ec_12 (k := 36) (Nat.le_of_ble_eq_true rfl) rfl (Or.inl ew_1438) (cShM_326 hsw2).1 (cShM_326 hsw2).2.1 (rShM_326_36 hsw2) ?_
      refine ea_bipush (pc := 44) dX12_chargeBy_44 (v := 24) rfl ?_
      refine ea_iload_n (pc := 46) dX12_chargeBy_46 rfl 2 rfl ?_
      refine ea_imul (pc := 47) dX12_chargeBy_47 ?_
      refine ea_iload_n (pc := 48) dX12_chargeBy_48 rfl 3 rfl ?_
      refine ea_iadd (pc := 49) dX12_chargeBy_49 ?_
      obtain ⟨w5, Ew5, E⟩ := bd_some E
      have hsw5 : ShM w5.2 := ShM_core ((kpX12_comesTo _ _ _ _) _ Ew5) hsw2
      refine ea_iald (pc := 50) dX12_chargeBy_50 (cShM_357 hsw2).1 (cShM_357 hsw2).2.1 (ea_vpl (cShM_357 hsw2).2.2 z4) ?_
      refine ea_callV (pc := 51) (d' := d - 1) (As := [vI x2, vI (ea_i w2.2 356 (Int32.toNatClampNeg (((25 : Int32) * x2) + w2.1))), vI (ea_i w2.2 357 (Int32.toNatClampNeg (((24 : Int32) * x2) + w2.1)))]) (st := []) dX12_chargeBy_51 kX12_comesTo (sX12_comesTo (d := d - 1) (by omega) hsw2 Ew5) (by omega) rfl (Nat.le_of_ble_eq_true rfl) ew_2060 ew_2062 ew_94 (ci := 12) rfl (by decide) (cShM_326 hsw2).1 (cShM_326 hsw2).2.1 ?_
      exact ea_fewer [0, 1, 2] rfl (kJ54 (x1 : Int32) (x2 : Int32) (w5.1 : Int32) w5.2 _ _ E hsw5)
    · have E := (if_pos c6).symm.trans E
      refine ea_iconst (pc := 23) dX12_chargeBy_23 (v := 0) rfl ?_
      refine ea_goto (pc := 24) (tgt := 54) dX12_chargeBy_24 rfl ?_
      exact ea_fewer [0, 1, 2] rfl (kJ54 (x1 : Int32) (x2 : Int32) (0 : Int32) w2.2 _ _ E hsw2)
  · have E := (if_neg c7).symm.trans E
    refine ea_iconst (pc := 9) dX12_chargeBy_9 (v := 0) rfl ?_
    exact ea_iretO (pc := 10) dX12_chargeBy_10 rfl rfl E
theorem kBX12_chargeBy_0 {J54 : Int32 → Int32 → Int32 → ea_H → Option (Int32 × ea_H)}  (cJ54 : ∀ (x1 : Int32) (x2 : Int32) (sx0 : Int32) (h : ea_H), kp (ea_core h) (J54 x1 x2 sx0 h)) {x1 : Int32} {x2 : Int32} {h : ea_H} : kp (ea_core h) (BX12_chargeBy_0 J54 x1 x2 h) :=
  (kp_bind (kp_tw (kpX12_isFree _ _ _) rfl) fun w1 hcw1 => (kp_ite (kp_bind (kp_tw (kpX12_lineOf _ _ _) hcw1) fun w2 hcw2 => (kp_ite (kp_tw (cJ54 _ _ _ _) hcw2) (kp_gd (kp_gd (kp_bind (kp_tw (kpX12_comesTo _ _ _ _) hcw2) fun w5 hcw5 => (kp_tw (cJ54 _ _ _ _) hcw5)))))) (kp_ret hcw1)))
theorem lBX12_chargeBy_0 {J54 : Int32 → Int32 → Int32 → ea_H → Option (Int32 × ea_H)} {J54_ : Int32 → Int32 → Int32 → ea_H → Option (Int32 × ea_H)}  (mJ54 : ∀ (x1 : Int32) (x2 : Int32) (sx0 : Int32) (h : ea_H), fle (J54 x1 x2 sx0 h) (J54_ x1 x2 sx0 h)) {x1 : Int32} {x2 : Int32} {h : ea_H} : fle (BX12_chargeBy_0 J54 x1 x2 h) (BX12_chargeBy_0 J54_ x1 x2 h) :=
  (fle_bind (fle_rfl _) fun _ => (fle_ite (fle_bind (fle_rfl _) fun _ => (fle_ite (mJ54 _ _ _ _) (fle_gd (fle_gd (fle_bind (fle_rfl _) fun _ => (mJ54 _ _ _ _)))))) (fle_rfl _)))
theorem nBX12_chargeBy_0 {J54 : Int32 → Int32 → Int32 → ea_H → Option (Int32 × ea_H)} {J54_ : Nat → (Int32 → Int32 → Int32 → ea_H → Option (Int32 × ea_H))}  (mJ54 : ∀ (x1 : Int32) (x2 : Int32) (sx0 : Int32) (h : ea_H), fct (J54 x1 x2 sx0 h) (fun f => J54_ f x1 x2 sx0 h)) {x1 : Int32} {x2 : Int32} {h : ea_H} : fct (BX12_chargeBy_0 J54 x1 x2 h) (fun f => BX12_chargeBy_0 (J54_ f) x1 x2 h) :=
  (fct_bind (fct_rfl _) fun _ => (fct_ite (fct_bind (fct_rfl _) fun _ => (fct_ite (mJ54 _ _ _ _) (fct_gd (fct_gd (fct_bind (fct_rfl _) fun _ => (mJ54 _ _ _ _)))))) (fct_rfl _)))
noncomputable def BX12_chargeBy_54 (J81 : Int32 → Int32 → Int32 → ea_H → Option (Int32 × ea_H)) (x1 : Int32) (x2 : Int32) (sx0 : Int32) (h : ea_H) : Option (Int32 × ea_H) :=
  (if (0 : Int32) ≤ sx0 then (if sx0 ≤ (99999 : Int32) then (J81 (x1 : Int32) (x2 : Int32) (sx0 : Int32) h) else (J81 (x1 : Int32) (x2 : Int32) (99999 : Int32) h)) else (J81 (x1 : Int32) (x2 : Int32) (0 : Int32) h))
theorem tBX12_chargeBy_54 {d : Nat} {h0 : ea_H} (hd : 4 ≤ d) {J81 : Int32 → Int32 → Int32 → ea_H → Option (Int32 × ea_H)}  (kJ81 : ∀ (x1 : Int32) (x2 : Int32) (sx0 : Int32) (h : ea_H) (r : Int32) (h' : ea_H), J81 x1 x2 sx0 h = some (r, h') → ShM h → ea_W mX12_chargeBy d h0 (some (vI r)) h' 81 [(0, vR (some 326)), (1, vI x1), (2, vI x2)] [vI sx0] h) {x1 : Int32} {x2 : Int32} {sx0 : Int32} {h : ea_H} {r : Int32} {h' : ea_H} (E : BX12_chargeBy_54 J81 x1 x2 sx0 h = some (r, h')) (hs : ShM h) : ea_W mX12_chargeBy d h0 (some (vI r)) h' 54 [(0, vR (some 326)), (1, vI x1), (2, vI x2)] [vI sx0] h := by
  unfold BX12_chargeBy_54 at E
  refine ea_istore (pc := 54) (lv' := [(0, vR (some 326)), (1, vI x1), (2, vI x2), (4, vI sx0)]) dX12_chargeBy_54 (Nat.le_of_ble_eq_true rfl) [1, 2, 3, 0] rfl ?_
  refine ea_iload (pc := 56) dX12_chargeBy_56 3 rfl ?_
  refine ea_if_ge (pc := 58) (tgt := 65) dX12_chargeBy_58 rfl (fun c9 => ?_) (fun c9 => ?_)
  · have E := (if_pos c9).symm.trans E
    refine ea_iload (pc := 65) dX12_chargeBy_65 3 rfl ?_
    refine ea_ldcw (pc := 67) dX12_chargeBy_67 ew_2067 ?_
    refine ea_icmp_le (pc := 70) (tgt := 79) dX12_chargeBy_70 rfl (fun c8 => ?_) (fun c8 => ?_)
    · have E := (if_pos c8).symm.trans E
      refine ea_iload (pc := 79) dX12_chargeBy_79 3 rfl ?_
      exact ea_fewer [0, 1, 2] rfl (kJ81 (x1 : Int32) (x2 : Int32) (sx0 : Int32) h _ _ E hs)
    · have E := (if_neg c8).symm.trans E
      refine ea_ldcw (pc := 73) dX12_chargeBy_73 ew_2067 ?_
      refine ea_goto (pc := 76) (tgt := 81) dX12_chargeBy_76 rfl ?_
      exact ea_fewer [0, 1, 2] rfl (kJ81 (x1 : Int32) (x2 : Int32) (99999 : Int32) h _ _ E hs)
  · have E := (if_neg c9).symm.trans E
    refine ea_iconst (pc := 61) dX12_chargeBy_61 (v := 0) rfl ?_
    refine ea_goto (pc := 62) (tgt := 81) dX12_chargeBy_62 rfl ?_
    exact ea_fewer [0, 1, 2] rfl (kJ81 (x1 : Int32) (x2 : Int32) (0 : Int32) h _ _ E hs)
theorem kBX12_chargeBy_54 {J81 : Int32 → Int32 → Int32 → ea_H → Option (Int32 × ea_H)}  (cJ81 : ∀ (x1 : Int32) (x2 : Int32) (sx0 : Int32) (h : ea_H), kp (ea_core h) (J81 x1 x2 sx0 h)) {x1 : Int32} {x2 : Int32} {sx0 : Int32} {h : ea_H} : kp (ea_core h) (BX12_chargeBy_54 J81 x1 x2 sx0 h) :=
  (kp_ite (kp_ite (kp_tw (cJ81 _ _ _ _) rfl) (kp_tw (cJ81 _ _ _ _) rfl)) (kp_tw (cJ81 _ _ _ _) rfl))
theorem lBX12_chargeBy_54 {J81 : Int32 → Int32 → Int32 → ea_H → Option (Int32 × ea_H)} {J81_ : Int32 → Int32 → Int32 → ea_H → Option (Int32 × ea_H)}  (mJ81 : ∀ (x1 : Int32) (x2 : Int32) (sx0 : Int32) (h : ea_H), fle (J81 x1 x2 sx0 h) (J81_ x1 x2 sx0 h)) {x1 : Int32} {x2 : Int32} {sx0 : Int32} {h : ea_H} : fle (BX12_chargeBy_54 J81 x1 x2 sx0 h) (BX12_chargeBy_54 J81_ x1 x2 sx0 h) :=
  (fle_ite (fle_ite (mJ81 _ _ _ _) (mJ81 _ _ _ _)) (mJ81 _ _ _ _))
theorem nBX12_chargeBy_54 {J81 : Int32 → Int32 → Int32 → ea_H → Option (Int32 × ea_H)} {J81_ : Nat → (Int32 → Int32 → Int32 → ea_H → Option (Int32 × ea_H))}  (mJ81 : ∀ (x1 : Int32) (x2 : Int32) (sx0 : Int32) (h : ea_H), fct (J81 x1 x2 sx0 h) (fun f => J81_ f x1 x2 sx0 h)) {x1 : Int32} {x2 : Int32} {sx0 : Int32} {h : ea_H} : fct (BX12_chargeBy_54 J81 x1 x2 sx0 h) (fun f => BX12_chargeBy_54 (J81_ f) x1 x2 sx0 h) :=
  (fct_ite (fct_ite (mJ81 _ _ _ _) (mJ81 _ _ _ _)) (mJ81 _ _ _ _))
noncomputable def BX12_chargeBy_81 (J113 : Int32 → Int32 → Int32 → ea_H → Option (Int32 × ea_H)) (x1 : Int32) (x2 : Int32) (sx0 : Int32) (h : ea_H) : Option (Int32 × ea_H) :=
  (gd (vp_in x1 120) (gd (vp_in x2 6) (if ((ea_i h 370 (Int32.toNatClampNeg x1)) - (ea_i h 370 (Int32.toNatClampNeg x1)) / (1440 : Int32) * (1440 : Int32)) ≤ (ea_i h 350 (Int32.toNatClampNeg x2)) then (J113 (x1 : Int32) (x2 : Int32) (sx0 : Int32) h) else (gd (vp_in x2 6) (ea_let (sx0 + (ea_i h 349 (Int32.toNatClampNeg x2))) fun (v13 : Int32) => (J113 (x1 : Int32) (x2 : Int32) (v13 : Int32) h))))))
theorem tBX12_chargeBy_81 {d : Nat} {h0 : ea_H} (hd : 4 ≤ d) {J113 : Int32 → Int32 → Int32 → ea_H → Option (Int32 × ea_H)}  (kJ113 : ∀ (x1 : Int32) (x2 : Int32) (x4 : Int32) (h : ea_H) (r : Int32) (h' : ea_H), J113 x1 x2 x4 h = some (r, h') → ShM h → ea_W mX12_chargeBy d h0 (some (vI r)) h' 113 [(0, vR (some 326)), (1, vI x1), (2, vI x2), (4, vI x4)] [] h) {x1 : Int32} {x2 : Int32} {sx0 : Int32} {h : ea_H} {r : Int32} {h' : ea_H} (E : BX12_chargeBy_81 J113 x1 x2 sx0 h = some (r, h')) (hs : ShM h) : ea_W mX12_chargeBy d h0 (some (vI r)) h' 81 [(0, vR (some 326)), (1, vI x1), (2, vI x2)] [vI sx0] h := by
  unfold BX12_chargeBy_81 at E
  obtain ⟨z10, E⟩ := gd_some E
  refine ea_istore (pc := 81) (lv' := [(0, vR (some 326)), (1, vI x1), (2, vI x2), (4, vI sx0)]) dX12_chargeBy_81 (Nat.le_of_ble_eq_true rfl) [1, 2, 3, 0] rfl ?_
  refine ea_aload_n (pc := 83) dX12_chargeBy_83 rfl 0 rfl ?_
  refine ea_getR (pc := 84) dX12_chargeBy_84 ec_12 (k := 70) (Nat.le_of_ble_eq_true rfl) rfl (Or.inl ew_1472) (cShM_326 hs).1 (cShM_326 hs).2.1 (rShM_326_70 hs) ?_
  refine ea_iload_n (pc := 87) dX12_chargeBy_87 rfl 1 rfl ?_
  obtain ⟨z11, E⟩ := gd_some E
  refine ea_iald (pc := 88) dX12_chargeBy_88 (cShM_370 hs).1 (cShM_370 hs).2.1 (ea_vpl (cShM_370 hs).2.2 z10) ?_
  refine ea_sipush (pc := 89) dX12_chargeBy_89 (v := 1440) rfl ?_
  refine ea_irem (pc := 92) dX12_chargeBy_92 (by decide) ?_
  refine ea_aload_n (pc := 93) dX12_chargeBy_93 rfl 0 rfl ?_
  refine ea_getR (pc := 94) dX12_chargeBy_94 ec_12 (k := 29) (Nat.le_of_ble_eq_true rfl) rfl (Or.inl ew_1431) (cShM_326 hs).1 (cShM_326 hs).2.1 (rShM_326_29 hs) ?_
  refine ea_iload_n (pc := 97) dX12_chargeBy_97 rfl 2 rfl ?_
  refine ea_iald (pc := 98) dX12_chargeBy_98 (cShM_350 hs).1 (cShM_350 hs).2.1 (ea_vpl (cShM_350 hs).2.2 z11) ?_
  refine ea_icmp_le (pc := 99) (tgt := 113) dX12_chargeBy_99 rfl (fun c14 => ?_) (fun c14 => ?_)
  · have E := (if_pos c14).symm.trans E
    exact (kJ113 (x1 : Int32) (x2 : Int32) (sx0 : Int32) h _ _ E hs)
  · have E := (if_neg c14).symm.trans E
    obtain ⟨z12, E⟩ := gd_some E
    refine ea_iload (pc := 102) dX12_chargeBy_102 3 rfl ?_
    refine ea_aload_n (pc := 104) dX12_chargeBy_104 rfl 0 rfl ?_
    refine ea_getR (pc := 105) dX12_chargeBy_105 ec_12 (k := 28) (Nat.le_of_ble_eq_true rfl) rfl (Or.inl ew_1430) (cShM_326 hs).1 (cShM_326 hs).2.1 (rShM_326_28 hs) ?_
    refine ea_iload_n (pc := 108) dX12_chargeBy_108 rfl 2 rfl ?_
    obtain ⟨v13, ev13, E⟩ := let_some E
    refine ea_iald (pc := 109) dX12_chargeBy_109 (cShM_349 hs).1 (cShM_349 hs).2.1 (ea_vpl (cShM_349 hs).2.2 z12) ?_
    refine ea_iadd (pc := 110) dX12_chargeBy_110 ?_
    refine ea_istore (pc := 111) (lv' := [(0, vR (some 326)), (1, vI x1), (2, vI x2), (4, vI v13)]) dX12_chargeBy_111 (Nat.le_of_ble_eq_true rfl) [1, 2, 3, 0] (by rw [ev13]; rfl) ?_
    exact (kJ113 (x1 : Int32) (x2 : Int32) (v13 : Int32) h _ _ E hs)
theorem kBX12_chargeBy_81 {J113 : Int32 → Int32 → Int32 → ea_H → Option (Int32 × ea_H)}  (cJ113 : ∀ (x1 : Int32) (x2 : Int32) (x4 : Int32) (h : ea_H), kp (ea_core h) (J113 x1 x2 x4 h)) {x1 : Int32} {x2 : Int32} {sx0 : Int32} {h : ea_H} : kp (ea_core h) (BX12_chargeBy_81 J113 x1 x2 sx0 h) :=
  (kp_gd (kp_gd (kp_ite (kp_tw (cJ113 _ _ _ _) rfl) (kp_gd (kp_let (kp_tw (cJ113 _ _ _ _) rfl))))))
theorem lBX12_chargeBy_81 {J113 : Int32 → Int32 → Int32 → ea_H → Option (Int32 × ea_H)} {J113_ : Int32 → Int32 → Int32 → ea_H → Option (Int32 × ea_H)}  (mJ113 : ∀ (x1 : Int32) (x2 : Int32) (x4 : Int32) (h : ea_H), fle (J113 x1 x2 x4 h) (J113_ x1 x2 x4 h)) {x1 : Int32} {x2 : Int32} {sx0 : Int32} {h : ea_H} : fle (BX12_chargeBy_81 J113 x1 x2 sx0 h) (BX12_chargeBy_81 J113_ x1 x2 sx0 h) :=
  (fle_gd (fle_gd (fle_ite (mJ113 _ _ _ _) (fle_gd (fle_let fun _ => (mJ113 _ _ _ _))))))
theorem nBX12_chargeBy_81 {J113 : Int32 → Int32 → Int32 → ea_H → Option (Int32 × ea_H)} {J113_ : Nat → (Int32 → Int32 → Int32 → ea_H → Option (Int32 × ea_H))}  (mJ113 : ∀ (x1 : Int32) (x2 : Int32) (x4 : Int32) (h : ea_H), fct (J113 x1 x2 x4 h) (fun f => J113_ f x1 x2 x4 h)) {x1 : Int32} {x2 : Int32} {sx0 : Int32} {h : ea_H} : fct (BX12_chargeBy_81 J113 x1 x2 sx0 h) (fun f => BX12_chargeBy_81 (J113_ f) x1 x2 sx0 h) :=
  (fct_gd (fct_gd (fct_ite (mJ113 _ _ _ _) (fct_gd (fct_let fun _ => (mJ113 _ _ _ _))))))
noncomputable def BX12_chargeBy_113 (J134 : Int32 → Int32 → Int32 → ea_H → Option (Int32 × ea_H)) (x1 : Int32) (x2 : Int32) (x4 : Int32) (h : ea_H) : Option (Int32 × ea_H) :=
  (gd (vp_in x1 120) (if (ea_i h 364 (Int32.toNatClampNeg x1)) = (3 : Int32) then (gd (vp_in x2 6) (ea_let (x4 + (ea_i h 352 (Int32.toNatClampNeg x2))) fun (v17 : Int32) => (J134 (x1 : Int32) (x2 : Int32) (v17 : Int32) h))) else (J134 (x1 : Int32) (x2 : Int32) (x4 : Int32) h)))
theorem tBX12_chargeBy_113 {d : Nat} {h0 : ea_H} (hd : 4 ≤ d) {J134 : Int32 → Int32 → Int32 → ea_H → Option (Int32 × ea_H)}  (kJ134 : ∀ (x1 : Int32) (x2 : Int32) (x4 : Int32) (h : ea_H) (r : Int32) (h' : ea_H), J134 x1 x2 x4 h = some (r, h') → ShM h → ea_W mX12_chargeBy d h0 (some (vI r)) h' 134 [(0, vR (some 326)), (1, vI x1), (2, vI x2), (4, vI x4)] [] h) {x1 : Int32} {x2 : Int32} {x4 : Int32} {h : ea_H} {r : Int32} {h' : ea_H} (E : BX12_chargeBy_113 J134 x1 x2 x4 h = some (r, h')) (hs : ShM h) : ea_W mX12_chargeBy d h0 (some (vI r)) h' 113 [(0, vR (some 326)), (1, vI x1), (2, vI x2), (4, vI x4)] [] h := by
  unfold BX12_chargeBy_113 at E
  obtain ⟨z15, E⟩ := gd_some E
  refine ea_aload_n (pc := 113) dX12_chargeBy_113 rfl 0 rfl ?_
  refine ea_getR (pc := 114) dX12_chargeBy_114 ec_12 (k := 64) (Nat.le_of_ble_eq_true rfl) rfl (Or.inl ew_1466) (cShM_326 hs).1 (cShM_326 hs).2.1 (rShM_326_64 hs) ?_
  refine ea_iload_n (pc := 117) dX12_chargeBy_117 rfl 1 rfl ?_
  refine ea_iald (pc := 118) dX12_chargeBy_118 (cShM_364 hs).1 (cShM_364 hs).2.1 (ea_vpl (cShM_364 hs).2.2 z15) ?_
  refine ea_iconst (pc := 119) dX12_chargeBy_119 (v := 3) rfl ?_
  refine ea_icmp_ne (pc := 120) (tgt := 134) dX12_chargeBy_120 rfl (fun c18 => ?_) (fun c18 => ?_)
  · have E := (if_neg c18).symm.trans E
    exact (kJ134 (x1 : Int32) (x2 : Int32) (x4 : Int32) h _ _ E hs)
  · have E := (if_pos c18).symm.trans E
    obtain ⟨z16, E⟩ := gd_some E
    refine ea_iload (pc := 123) dX12_chargeBy_123 3 rfl ?_
    refine ea_aload_n (pc := 125) dX12_chargeBy_125 rfl 0 rfl ?_
    refine ea_getR (pc := 126) dX12_chargeBy_126 ec_12 (k := 31) (Nat.le_of_ble_eq_true rfl) rfl (Or.inl ew_1433) (cShM_326 hs).1 (cShM_326 hs).2.1 (rShM_326_31 hs) ?_
    refine ea_iload_n (pc := 129) dX12_chargeBy_129 rfl 2 rfl ?_
    obtain ⟨v17, ev17, E⟩ := let_some E
    refine ea_iald (pc := 130) dX12_chargeBy_130 (cShM_352 hs).1 (cShM_352 hs).2.1 (ea_vpl (cShM_352 hs).2.2 z16) ?_
    refine ea_iadd (pc := 131) dX12_chargeBy_131 ?_
    refine ea_istore (pc := 132) (lv' := [(0, vR (some 326)), (1, vI x1), (2, vI x2), (4, vI v17)]) dX12_chargeBy_132 (Nat.le_of_ble_eq_true rfl) [1, 2, 3, 0] (by rw [ev17]; rfl) ?_
    exact (kJ134 (x1 : Int32) (x2 : Int32) (v17 : Int32) h _ _ E hs)
theorem kBX12_chargeBy_113 {J134 : Int32 → Int32 → Int32 → ea_H → Option (Int32 × ea_H)}  (cJ134 : ∀ (x1 : Int32) (x2 : Int32) (x4 : Int32) (h : ea_H), kp (ea_core h) (J134 x1 x2 x4 h)) {x1 : Int32} {x2 : Int32} {x4 : Int32} {h : ea_H} : kp (ea_core h) (BX12_chargeBy_113 J134 x1 x2 x4 h) :=
  (kp_gd (kp_ite (kp_gd (kp_let (kp_tw (cJ134 _ _ _ _) rfl))) (kp_tw (cJ134 _ _ _ _) rfl)))
theorem lBX12_chargeBy_113 {J134 : Int32 → Int32 → Int32 → ea_H → Option (Int32 × ea_H)} {J134_ : Int32 → Int32 → Int32 → ea_H → Option (Int32 × ea_H)}  (mJ134 : ∀ (x1 : Int32) (x2 : Int32) (x4 : Int32) (h : ea_H), fle (J134 x1 x2 x4 h) (J134_ x1 x2 x4 h)) {x1 : Int32} {x2 : Int32} {x4 : Int32} {h : ea_H} : fle (BX12_chargeBy_113 J134 x1 x2 x4 h) (BX12_chargeBy_113 J134_ x1 x2 x4 h) :=
  (fle_gd (fle_ite (fle_gd (fle_let fun _ => (mJ134 _ _ _ _))) (mJ134 _ _ _ _)))
theorem nBX12_chargeBy_113 {J134 : Int32 → Int32 → Int32 → ea_H → Option (Int32 × ea_H)} {J134_ : Nat → (Int32 → Int32 → Int32 → ea_H → Option (Int32 × ea_H))}  (mJ134 : ∀ (x1 : Int32) (x2 : Int32) (x4 : Int32) (h : ea_H), fct (J134 x1 x2 x4 h) (fun f => J134_ f x1 x2 x4 h)) {x1 : Int32} {x2 : Int32} {x4 : Int32} {h : ea_H} : fct (BX12_chargeBy_113 J134 x1 x2 x4 h) (fun f => BX12_chargeBy_113 (J134_ f) x1 x2 x4 h) :=
  (fct_gd (fct_ite (fct_gd (fct_let fun _ => (mJ134 _ _ _ _))) (mJ134 _ _ _ _)))
noncomputable def BX12_chargeBy_134 (x1 : Int32) (x2 : Int32) (x4 : Int32) (h : ea_H) : Option (Int32 × ea_H) :=
  (gd (vp_in x1 120) (if (ea_i h 364 (Int32.toNatClampNeg x1)) = (4 : Int32) then (gd (vp_in x2 6) (ea_let (x4 + (ea_i h 353 (Int32.toNatClampNeg x2))) fun (v21 : Int32) => (some (v21, h)))) else (some (x4, h))))
theorem tBX12_chargeBy_134 {d : Nat} {h0 : ea_H} (hd : 4 ≤ d)  {x1 : Int32} {x2 : Int32} {x4 : Int32} {h : ea_H} {r : Int32} {h' : ea_H} (E : BX12_chargeBy_134 x1 x2 x4 h = some (r, h')) (hs : ShM h) : ea_W mX12_chargeBy d h0 (some (vI r)) h' 134 [(0, vR (some 326)), (1, vI x1), (2, vI x2), (4, vI x4)] [] h := by
  unfold BX12_chargeBy_134 at E
  obtain ⟨z19, E⟩ := gd_some E
  refine ea_aload_n (pc := 134) dX12_chargeBy_134 rfl 0 rfl ?_
  refine ea_getR (pc := 135) dX12_chargeBy_135 ec_12 (k := 64) (Nat.le_of_ble_eq_true rfl) rfl (Or.inl ew_1466) (cShM_326 hs).1 (cShM_326 hs).2.1 (rShM_326_64 hs) ?_
  refine ea_iload_n (pc := 138) dX12_chargeBy_138 rfl 1 rfl ?_
  refine ea_iald (pc := 139) dX12_chargeBy_139 (cShM_364 hs).1 (cShM_364 hs).2.1 (ea_vpl (cShM_364 hs).2.2 z19) ?_
  refine ea_iconst (pc := 140) dX12_chargeBy_140 (v := 4) rfl ?_
  refine ea_icmp_ne (pc := 141) (tgt := 155) dX12_chargeBy_141 rfl (fun c22 => ?_) (fun c22 => ?_)
  · have E := (if_neg c22).symm.trans E
    refine ea_iload (pc := 155) dX12_chargeBy_155 3 rfl ?_
    exact ea_iretO (pc := 157) dX12_chargeBy_157 rfl rfl E
  · have E := (if_pos c22).symm.trans E
    obtain ⟨z20, E⟩ := gd_some E
    refine ea_iload (pc := 144) dX12_chargeBy_144 3 rfl ?_
    refine ea_aload_n (pc := 146) dX12_chargeBy_146 rfl 0 rfl ?_
    refine ea_getR (pc := 147) dX12_chargeBy_147 ec_12 (k := 32) (Nat.le_of_ble_eq_true rfl) rfl (Or.inl ew_1434) (cShM_326 hs).1 (cShM_326 hs).2.1 (rShM_326_32 hs) ?_
    refine ea_iload_n (pc := 150) dX12_chargeBy_150 rfl 2 rfl ?_
    obtain ⟨v21, ev21, E⟩ := let_some E
    refine ea_iald (pc := 151) dX12_chargeBy_151 (cShM_353 hs).1 (cShM_353 hs).2.1 (ea_vpl (cShM_353 hs).2.2 z20) ?_
    refine ea_iadd (pc := 152) dX12_chargeBy_152 ?_
    refine ea_istore (pc := 153) (lv' := [(4, vI v21)]) dX12_chargeBy_153 (Nat.le_of_ble_eq_true rfl) [0] (by rw [ev21]; rfl) ?_
    refine ea_iload (pc := 155) dX12_chargeBy_155 0 rfl ?_
    exact ea_iretO (pc := 157) dX12_chargeBy_157 rfl rfl E
theorem kBX12_chargeBy_134  {x1 : Int32} {x2 : Int32} {x4 : Int32} {h : ea_H} : kp (ea_core h) (BX12_chargeBy_134 x1 x2 x4 h) :=
  (kp_gd (kp_ite (kp_gd (kp_let (kp_ret rfl))) (kp_ret rfl)))
theorem lBX12_chargeBy_134  {x1 : Int32} {x2 : Int32} {x4 : Int32} {h : ea_H} : fle (BX12_chargeBy_134 x1 x2 x4 h) (BX12_chargeBy_134 x1 x2 x4 h) :=
  (fle_rfl _)
theorem nBX12_chargeBy_134  {x1 : Int32} {x2 : Int32} {x4 : Int32} {h : ea_H} : fct (BX12_chargeBy_134 x1 x2 x4 h) (fun f => BX12_chargeBy_134 x1 x2 x4 h) :=
  (fct_rfl _)
noncomputable def gX12_chargeBy : Nat → (Int32 → Int32 → ea_H → Option (Int32 × ea_H)) × (Int32 → Int32 → Int32 → ea_H → Option (Int32 × ea_H)) × (Int32 → Int32 → Int32 → ea_H → Option (Int32 × ea_H)) × (Int32 → Int32 → Int32 → ea_H → Option (Int32 × ea_H)) × (Int32 → Int32 → Int32 → ea_H → Option (Int32 × ea_H))
  | 0 => (fun _ _ _ => none, fun _ _ _ _ => none, fun _ _ _ _ => none, fun _ _ _ _ => none, fun _ _ _ _ => none)
  | f + 1 => (BX12_chargeBy_0 (gX12_chargeBy f).2.1, BX12_chargeBy_54 (gX12_chargeBy f).2.2.1, BX12_chargeBy_81 (gX12_chargeBy f).2.2.2.1, BX12_chargeBy_113 (gX12_chargeBy f).2.2.2.2, BX12_chargeBy_134)
theorem mgX12_chargeBy : ∀ f : Nat, (∀ (x1 : Int32) (x2 : Int32) (h : ea_H), fle ((gX12_chargeBy f).1 x1 x2 h) ((gX12_chargeBy (f + 1)).1 x1 x2 h)) ∧ (∀ (x1 : Int32) (x2 : Int32) (sx0 : Int32) (h : ea_H), fle ((gX12_chargeBy f).2.1 x1 x2 sx0 h) ((gX12_chargeBy (f + 1)).2.1 x1 x2 sx0 h)) ∧ (∀ (x1 : Int32) (x2 : Int32) (sx0 : Int32) (h : ea_H), fle ((gX12_chargeBy f).2.2.1 x1 x2 sx0 h) ((gX12_chargeBy (f + 1)).2.2.1 x1 x2 sx0 h)) ∧ (∀ (x1 : Int32) (x2 : Int32) (x4 : Int32) (h : ea_H), fle ((gX12_chargeBy f).2.2.2.1 x1 x2 x4 h) ((gX12_chargeBy (f + 1)).2.2.2.1 x1 x2 x4 h)) ∧ (∀ (x1 : Int32) (x2 : Int32) (x4 : Int32) (h : ea_H), fle ((gX12_chargeBy f).2.2.2.2 x1 x2 x4 h) ((gX12_chargeBy (f + 1)).2.2.2.2 x1 x2 x4 h)) := by
  intro f
  induction f with
  | zero => exact ⟨fun _ _ _ => fle_none _, fun _ _ _ _ => fle_none _, fun _ _ _ _ => fle_none _, fun _ _ _ _ => fle_none _, fun _ _ _ _ => fle_none _⟩
  | succ f ih => exact ⟨fun _ _ _ => lBX12_chargeBy_0 ih.2.1, fun _ _ _ _ => lBX12_chargeBy_54 ih.2.2.1, fun _ _ _ _ => lBX12_chargeBy_81 ih.2.2.2.1, fun _ _ _ _ => lBX12_chargeBy_113 ih.2.2.2.2, fun _ _ _ _ => lBX12_chargeBy_134⟩
noncomputable def qX12_chargeBy_0 (x1 : Int32) (x2 : Int32) (h : ea_H) : Option (Int32 × ea_H) := flim fun f => (gX12_chargeBy f).1 x1 x2 h
noncomputable def qX12_chargeBy_54 (x1 : Int32) (x2 : Int32) (sx0 : Int32) (h : ea_H) : Option (Int32 × ea_H) := flim fun f => (gX12_chargeBy f).2.1 x1 x2 sx0 h
noncomputable def qX12_chargeBy_81 (x1 : Int32) (x2 : Int32) (sx0 : Int32) (h : ea_H) : Option (Int32 × ea_H) := flim fun f => (gX12_chargeBy f).2.2.1 x1 x2 sx0 h
noncomputable def qX12_chargeBy_113 (x1 : Int32) (x2 : Int32) (x4 : Int32) (h : ea_H) : Option (Int32 × ea_H) := flim fun f => (gX12_chargeBy f).2.2.2.1 x1 x2 x4 h
noncomputable def qX12_chargeBy_134 (x1 : Int32) (x2 : Int32) (x4 : Int32) (h : ea_H) : Option (Int32 × ea_H) := flim fun f => (gX12_chargeBy f).2.2.2.2 x1 x2 x4 h
theorem fqX12_chargeBy_0 (x1 : Int32) (x2 : Int32) (h : ea_H) : fct (qX12_chargeBy_0 x1 x2 h) fun f => (gX12_chargeBy f).1 x1 x2 h := flim_ct fun f => (mgX12_chargeBy f).1 x1 x2 h
theorem fqX12_chargeBy_54 (x1 : Int32) (x2 : Int32) (sx0 : Int32) (h : ea_H) : fct (qX12_chargeBy_54 x1 x2 sx0 h) fun f => (gX12_chargeBy f).2.1 x1 x2 sx0 h := flim_ct fun f => (mgX12_chargeBy f).2.1 x1 x2 sx0 h
theorem fqX12_chargeBy_81 (x1 : Int32) (x2 : Int32) (sx0 : Int32) (h : ea_H) : fct (qX12_chargeBy_81 x1 x2 sx0 h) fun f => (gX12_chargeBy f).2.2.1 x1 x2 sx0 h := flim_ct fun f => (mgX12_chargeBy f).2.2.1 x1 x2 sx0 h
theorem fqX12_chargeBy_113 (x1 : Int32) (x2 : Int32) (x4 : Int32) (h : ea_H) : fct (qX12_chargeBy_113 x1 x2 x4 h) fun f => (gX12_chargeBy f).2.2.2.1 x1 x2 x4 h := flim_ct fun f => (mgX12_chargeBy f).2.2.2.1 x1 x2 x4 h
theorem fqX12_chargeBy_134 (x1 : Int32) (x2 : Int32) (x4 : Int32) (h : ea_H) : fct (qX12_chargeBy_134 x1 x2 x4 h) fun f => (gX12_chargeBy f).2.2.2.2 x1 x2 x4 h := flim_ct fun f => (mgX12_chargeBy f).2.2.2.2 x1 x2 x4 h
/-- how a block opens -/
theorem uqX12_chargeBy_0 {x1 : Int32} {x2 : Int32} {h : ea_H} {P : Int32 × ea_H → Prop} (H : sat (BX12_chargeBy_0 qX12_chargeBy_54 x1 x2 h) P) : sat (qX12_chargeBy_0 x1 x2 h) P := by
  obtain ⟨x, e, hp⟩ := H
  obtain ⟨n, hn⟩ := nBX12_chargeBy_0 fqX12_chargeBy_54 x e
  exact ⟨x, flim_at (fun f => (mgX12_chargeBy f).1 x1 x2 h) (f := n + 1) (hn n (Nat.le_refl _)), hp⟩
/-- how a block opens -/
theorem uqX12_chargeBy_54 {x1 : Int32} {x2 : Int32} {sx0 : Int32} {h : ea_H} {P : Int32 × ea_H → Prop} (H : sat (BX12_chargeBy_54 qX12_chargeBy_81 x1 x2 sx0 h) P) : sat (qX12_chargeBy_54 x1 x2 sx0 h) P := by
  obtain ⟨x, e, hp⟩ := H
  obtain ⟨n, hn⟩ := nBX12_chargeBy_54 fqX12_chargeBy_81 x e
  exact ⟨x, flim_at (fun f => (mgX12_chargeBy f).2.1 x1 x2 sx0 h) (f := n + 1) (hn n (Nat.le_refl _)), hp⟩
/-- how a block opens -/
theorem uqX12_chargeBy_81 {x1 : Int32} {x2 : Int32} {sx0 : Int32} {h : ea_H} {P : Int32 × ea_H → Prop} (H : sat (BX12_chargeBy_81 qX12_chargeBy_113 x1 x2 sx0 h) P) : sat (qX12_chargeBy_81 x1 x2 sx0 h) P := by
  obtain ⟨x, e, hp⟩ := H
  obtain ⟨n, hn⟩ := nBX12_chargeBy_81 fqX12_chargeBy_113 x e
  exact ⟨x, flim_at (fun f => (mgX12_chargeBy f).2.2.1 x1 x2 sx0 h) (f := n + 1) (hn n (Nat.le_refl _)), hp⟩
/-- how a block opens -/
theorem uqX12_chargeBy_113 {x1 : Int32} {x2 : Int32} {x4 : Int32} {h : ea_H} {P : Int32 × ea_H → Prop} (H : sat (BX12_chargeBy_113 qX12_chargeBy_134 x1 x2 x4 h) P) : sat (qX12_chargeBy_113 x1 x2 x4 h) P := by
  obtain ⟨x, e, hp⟩ := H
  obtain ⟨n, hn⟩ := nBX12_chargeBy_113 fqX12_chargeBy_134 x e
  exact ⟨x, flim_at (fun f => (mgX12_chargeBy f).2.2.2.1 x1 x2 x4 h) (f := n + 1) (hn n (Nat.le_refl _)), hp⟩
/-- how a block opens -/
theorem uqX12_chargeBy_134 {x1 : Int32} {x2 : Int32} {x4 : Int32} {h : ea_H} {P : Int32 × ea_H → Prop} (H : sat (BX12_chargeBy_134 x1 x2 x4 h) P) : sat (qX12_chargeBy_134 x1 x2 x4 h) P := by
  obtain ⟨x, e, hp⟩ := H
  obtain ⟨n, hn⟩ := nBX12_chargeBy_134 x e
  exact ⟨x, flim_at (fun f => (mgX12_chargeBy f).2.2.2.2 x1 x2 x4 h) (f := n + 1) (hn n (Nat.le_refl _)), hp⟩
theorem kgX12_chargeBy : ∀ f : Nat, (∀ (x1 : Int32) (x2 : Int32) (h : ea_H), kp (ea_core h) ((gX12_chargeBy f).1 x1 x2 h)) ∧ (∀ (x1 : Int32) (x2 : Int32) (sx0 : Int32) (h : ea_H), kp (ea_core h) ((gX12_chargeBy f).2.1 x1 x2 sx0 h)) ∧ (∀ (x1 : Int32) (x2 : Int32) (sx0 : Int32) (h : ea_H), kp (ea_core h) ((gX12_chargeBy f).2.2.1 x1 x2 sx0 h)) ∧ (∀ (x1 : Int32) (x2 : Int32) (x4 : Int32) (h : ea_H), kp (ea_core h) ((gX12_chargeBy f).2.2.2.1 x1 x2 x4 h)) ∧ (∀ (x1 : Int32) (x2 : Int32) (x4 : Int32) (h : ea_H), kp (ea_core h) ((gX12_chargeBy f).2.2.2.2 x1 x2 x4 h)) := by
  intro f
  induction f with
  | zero => exact ⟨fun _ _ _ => kp_none _, fun _ _ _ _ => kp_none _, fun _ _ _ _ => kp_none _, fun _ _ _ _ => kp_none _, fun _ _ _ _ => kp_none _⟩
  | succ f ih => exact ⟨fun _ _ _ => kBX12_chargeBy_0 ih.2.1, fun _ _ _ _ => kBX12_chargeBy_54 ih.2.2.1, fun _ _ _ _ => kBX12_chargeBy_81 ih.2.2.2.1, fun _ _ _ _ => kBX12_chargeBy_113 ih.2.2.2.2, fun _ _ _ _ => kBX12_chargeBy_134⟩
theorem tgX12_chargeBy {d : Nat} {h0 : ea_H} (hd : 4 ≤ d) : ∀ f : Nat, (∀ (x1 : Int32) (x2 : Int32) (h : ea_H) (r : Int32) (h' : ea_H), (gX12_chargeBy f).1 x1 x2 h = some (r, h') → ShM h → ea_W mX12_chargeBy d h0 (some (vI r)) h' 0 [(0, vR (some 326)), (1, vI x1), (2, vI x2)] [] h) ∧ (∀ (x1 : Int32) (x2 : Int32) (sx0 : Int32) (h : ea_H) (r : Int32) (h' : ea_H), (gX12_chargeBy f).2.1 x1 x2 sx0 h = some (r, h') → ShM h → ea_W mX12_chargeBy d h0 (some (vI r)) h' 54 [(0, vR (some 326)), (1, vI x1), (2, vI x2)] [vI sx0] h) ∧ (∀ (x1 : Int32) (x2 : Int32) (sx0 : Int32) (h : ea_H) (r : Int32) (h' : ea_H), (gX12_chargeBy f).2.2.1 x1 x2 sx0 h = some (r, h') → ShM h → ea_W mX12_chargeBy d h0 (some (vI r)) h' 81 [(0, vR (some 326)), (1, vI x1), (2, vI x2)] [vI sx0] h) ∧ (∀ (x1 : Int32) (x2 : Int32) (x4 : Int32) (h : ea_H) (r : Int32) (h' : ea_H), (gX12_chargeBy f).2.2.2.1 x1 x2 x4 h = some (r, h') → ShM h → ea_W mX12_chargeBy d h0 (some (vI r)) h' 113 [(0, vR (some 326)), (1, vI x1), (2, vI x2), (4, vI x4)] [] h) ∧ (∀ (x1 : Int32) (x2 : Int32) (x4 : Int32) (h : ea_H) (r : Int32) (h' : ea_H), (gX12_chargeBy f).2.2.2.2 x1 x2 x4 h = some (r, h') → ShM h → ea_W mX12_chargeBy d h0 (some (vI r)) h' 134 [(0, vR (some 326)), (1, vI x1), (2, vI x2), (4, vI x4)] [] h) := by
  intro f
  induction f with
  | zero => exact ⟨fun _ _ _ _ _ E => no_some E, fun _ _ _ _ _ _ E => no_some E, fun _ _ _ _ _ _ E => no_some E, fun _ _ _ _ _ _ E => no_some E, fun _ _ _ _ _ _ E => no_some E⟩
  | succ f ih => exact ⟨fun _ _ _ _ _ E hs => tBX12_chargeBy_0 hd ih.2.1 E hs, fun _ _ _ _ _ _ E hs => tBX12_chargeBy_54 hd ih.2.2.1 E hs, fun _ _ _ _ _ _ E hs => tBX12_chargeBy_81 hd ih.2.2.2.1 E hs, fun _ _ _ _ _ _ E hs => tBX12_chargeBy_113 hd ih.2.2.2.2 E hs, fun _ _ _ _ _ _ E hs => tBX12_chargeBy_134 hd E hs⟩
noncomputable def qX12_chargeBy (x1 : Int32) (x2 : Int32) (h : ea_H) : Option (Int32 × ea_H) := qX12_chargeBy_0 x1 x2 h
theorem sX12_chargeBy {d : Nat} {x1 : Int32} {x2 : Int32} {h : ea_H} {r : Int32} {h' : ea_H} (hd : 4 ≤ d) (hs : ShM h) (K : qX12_chargeBy x1 x2 h = some (r, h')) : ea_Met mX12_chargeBy d [vR (some 326), vI x1, vI x2] h (some (vI r)) h' := by
  unfold qX12_chargeBy at K
  obtain ⟨n, hn⟩ := fqX12_chargeBy_0 x1 x2 h _ K
  have W := (tgX12_chargeBy (d := d) (h0 := h) hd n).1 x1 x2 h _ _ (hn n (Nat.le_refl _)) hs
  exact ea_enter rfl (Nat.le_of_ble_eq_true rfl) W
theorem kpX12_chargeBy (x1 : Int32) (x2 : Int32) (h : ea_H) : kp (ea_core h) (qX12_chargeBy x1 x2 h) := fun x e => by
  obtain ⟨n, hn⟩ := fqX12_chargeBy_0 x1 x2 h x e
  exact (kgX12_chargeBy n).1 x1 x2 h x (hn n (Nat.le_refl _))
