/-! the reference, 2 -/
noncomputable def BX12_post_0 (J190 : Int32 → Int32 → Int32 → Int32 → ea_H → Option (Int32 × ea_H)) (x1 : Int32) (x2 : Int32) (x3 : Int32) (x4 : Int32) (x5 : Int32) (x6 : Int32) (h : ea_H) : Option (Int32 × ea_H) :=
  (Option.bind (qX12_isIn (x1 : Int32) (0 : Int32) (4 : Int32) h) fun w1 => (if w1.1 = (0 : Int32) then (some (((-1) : Int32), w1.2)) else (Option.bind (qX12_isTown (x2 : Int32) w1.2) fun w2 => (if w2.1 = (0 : Int32) then (some (((-1) : Int32), w2.2)) else (Option.bind (qX12_isTown (x3 : Int32) w2.2) fun w3 => (if w3.1 = (0 : Int32) then (some (((-1) : Int32), w3.2)) else (if x2 = x3 then (some (((-1) : Int32), w3.2)) else (Option.bind (qX12_isIn (x4 : Int32) (1 : Int32) (9 : Int32) w3.2) fun w4 => (if w4.1 = (0 : Int32) then (some (((-1) : Int32), w4.2)) else (Option.bind (qX12_isIn (x5 : Int32) (0 : Int32) (99 : Int32) w4.2) fun w5 => (if w5.1 = (0 : Int32) then (some (((-1) : Int32), w5.2)) else (Option.bind (qX12_isIn (x6 : Int32) (0 : Int32) (9 : Int32) w5.2) fun w6 => (if w6.1 = (0 : Int32) then (some (((-1) : Int32), w6.2)) else (if (ea_i w6.2 326 63) = (120 : Int32) then (some (((-1) : Int32), w6.2)) else (ea_let (ea_i w6.2 326 63) fun (v7 : Int32) => (ea_let (ea_wi w6.2 326 63 ((ea_i w6.2 326 63) + (1 : Int32))) fun H8 => (gd (vp_in v7 120) (ea_let (ea_wi H8 364 (Int32.toNatClampNeg v7) x1) fun H10 => (gd (vp_in v7 120) (ea_let (ea_wi H10 365 (Int32.toNatClampNeg v7) x2) fun H12 => (gd (vp_in v7 120) (ea_let (ea_wi H12 366 (Int32.toNatClampNeg v7) x3) fun H14 => (gd (vp_in v7 120) (ea_let (ea_wi H14 367 (Int32.toNatClampNeg v7) x4) fun H16 => (gd (vp_in v7 120) (ea_let (ea_wi H16 368 (Int32.toNatClampNeg v7) x5) fun H18 => (gd (vp_in v7 120) (ea_let (ea_wi H18 369 (Int32.toNatClampNeg v7) x6) fun H20 => (gd (vp_in v7 120) (ea_let (ea_wi H20 370 (Int32.toNatClampNeg v7) (ea_i H20 326 0)) fun H22 => (Option.bind (qX12_milesOf (x2 : Int32) (x3 : Int32) (0 : Int32) H22) fun w23 => (gd (vp_in v7 120) (ea_let (ea_wi w23.2 371 (Int32.toNatClampNeg v7) w23.1) fun H25 => (Option.bind (qX12_isCross (x2 : Int32) (x3 : Int32) H25) fun w26 => (gd (vp_in v7 120) (gd ((w26.1 = 0 ∨ w26.1 = 1)) (ea_let (ea_wi w26.2 378 (Int32.toNatClampNeg v7) w26.1) fun H29 => (gd (vp_in v7 120) (ea_let (ea_wi H29 372 (Int32.toNatClampNeg v7) 0) fun H31 => (J190 (x2 : Int32) (x6 : Int32) (v7 : Int32) (0 : Int32) H31))))))))))))))))))))))))))))))))))))))))
set_option maxRecDepth 100000 in
set_option maxHeartbeats 0 in
theorem tBX12_post_0 {d : Nat} {h0 : ea_H} (hd : 5 ≤ d) {J190 : Int32 → Int32 → Int32 → Int32 → ea_H → Option (Int32 × ea_H)}  (kJ190 : ∀ (x2 : Int32) (x6 : Int32) (x7 : Int32) (x8 : Int32) (h : ea_H) (r : Int32) (h' : ea_H), J190 x2 x6 x7 x8 h = some (r, h') → ShM h → ea_W mX12_post d h0 (some (vI r)) h' 190 [(0, vR (some 326)), (2, vI x2), (6, vI x6), (7, vI x7), (8, vI x8)] [] h) {x1 : Int32} {x2 : Int32} {x3 : Int32} {x4 : Int32} {x5 : Int32} {x6 : Int32} {h : ea_H} {r : Int32} {h' : ea_H} (E : BX12_post_0 J190 x1 x2 x3 x4 x5 x6 h = some (r, h')) (hs : ShM h) : ea_W mX12_post d h0 (some (vI r)) h' 0 [(0, vR (some 326)), (1, vI x1), (2, vI x2), (3, vI x3), (4, vI x4), (5, vI x5), (6, vI x6)] [] h := by
  unfold BX12_post_0 at E
  obtain ⟨w1, Ew1, E⟩ := bd_some E
  have hsw1 : ShM w1.2 := ShM_core ((kpX12_isIn _ _ _ _) _ Ew1) hs
  refine ea_iload_n (pc := 0) dX12_post_0 rfl 1 rfl ?_
  refine ea_iconst (pc := 1) dX12_post_1 (v := 0) rfl ?_
  refine ea_iconst (pc := 2) dX12_post_2 (v := 4) rfl ?_
  refine ea_callS (pc := 3) (d' := d - 1) (As := [vI x1, vI 0, vI 4]) (st := []) dX12_post_3 kX12_isIn (sX12_isIn (d := d - 1) (by omega) Ew1) (by omega) rfl (Nat.le_of_ble_eq_true rfl) ew_1769 ew_1770 ?_
  refine ea_if_eq (pc := 6) (tgt := 72) dX12_post_6 rfl (fun c39 => ?_) (fun c39 => ?_)
  · have E := (if_pos c39).symm.trans E
    refine ea_iconst (pc := 72) dX12_post_72 (v := (-1)) rfl ?_
    exact ea_iretO (pc := 73) dX12_post_73 rfl rfl E
  · have E := (if_neg c39).symm.trans E
    obtain ⟨w2, Ew2, E⟩ := bd_some E
    have hsw2 : ShM w2.2 := ShM_core ((kpX12_isTown _ _) _ Ew2) hsw1
    refine ea_aload_n (pc := 9) dX12_post_9 rfl 0 rfl ?_
    refine ea_iload_n (pc := 10) dX12_post_10 rfl 2 rfl ?_
    refine ea_callV (pc := 11) (d' := d - 1) (As := [vI x2]) (st := []) dX12_post_11 kX12_isTown (sX12_isTown (d := d - 1) (by omega) hsw1 Ew2) (by omega) rfl (Nat.le_of_ble_eq_true rfl) ew_1765 ew_1767 ew_54 (ci := 12) rfl (by decide) (cShM_326 hsw1).1 (cShM_326 hsw1).2.1 ?_
    refine ea_if_eq (pc := 14) (tgt := 72) dX12_post_14 rfl (fun c38 => ?_) (fun c38 => ?_)
    · have E := (if_pos c38).symm.trans E
      refine ea_iconst (pc := 72) dX12_post_72 (v := (-1)) rfl ?_
      exact ea_iretO (pc := 73) dX12_post_73 rfl rfl E
    · have E := (if_neg c38).symm.trans E
      obtain ⟨w3, Ew3, E⟩ := bd_some E
      have hsw3 : ShM w3.2 := ShM_core ((kpX12_isTown _ _) _ Ew3) hsw2
      refine ea_aload_n (pc := 17) dX12_post_17 rfl 0 rfl ?_
      refine ea_iload_n (pc := 18) dX12_post_18 rfl 3 rfl ?_
      refine ea_callV (pc := 19) (d' := d - 1) (As := [vI x3]) (st := []) dX12_post_19 kX12_isTown (sX12_isTown (d := d - 1) (by omega) hsw2 Ew3) (by omega) rfl (Nat.le_of_ble_eq_true rfl) ew_1765 ew_1767 ew_54 (ci := 12) rfl (by decide) (cShM_326 hsw2).1 (cShM_326 hsw2).2.1 ?_
      refine ea_if_eq (pc := 22) (tgt := 72) dX12_post_22 rfl (fun c37 => ?_) (fun c37 => ?_)
      · have E := (if_pos c37).symm.trans E
        refine ea_iconst (pc := 72) dX12_post_72 (v := (-1)) rfl ?_
        exact ea_iretO (pc := 73) dX12_post_73 rfl rfl E
      · have E := (if_neg c37).symm.trans E
        refine ea_iload_n (pc := 25) dX12_post_25 rfl 2 rfl ?_
        refine ea_iload_n (pc := 26) dX12_post_26 rfl 3 rfl ?_
        refine ea_icmp_eq (pc := 27) (tgt := 72) dX12_post_27 rfl (fun c36 => ?_) (fun c36 => ?_)
        · have E := (if_pos c36).symm.trans E
          refine ea_iconst (pc := 72) dX12_post_72 (v := (-1)) rfl ?_
          exact ea_iretO (pc := 73) dX12_post_73 rfl rfl E
        · have E := (if_neg c36).symm.trans E
          obtain ⟨w4, Ew4, E⟩ := bd_some E
          have hsw4 : ShM w4.2 := ShM_core ((kpX12_isIn _ _ _ _) _ Ew4) hsw3
          refine ea_iload (pc := 30) dX12_post_30 4 rfl ?_
          refine ea_iconst (pc := 32) dX12_post_32 (v := 1) rfl ?_
          refine ea_bipush (pc := 33) dX12_post_33 (v := 9) rfl ?_
          refine ea_callS (pc := 35) (d' := d - 1) (As := [vI x4, vI 1, vI 9]) (st := []) dX12_post_35 kX12_isIn (sX12_isIn (d := d - 1) (by omega) Ew4) (by omega) rfl (Nat.le_of_ble_eq_true rfl) ew_1769 ew_1770 ?_
          refine ea_if_eq (pc := 38) (tgt := 72) dX12_post_38 rfl (fun c35 => ?_) (fun c35 => ?_)
          · have E := (if_pos c35).symm.trans E
            refine ea_iconst (pc := 72) dX12_post_72 (v := (-1)) rfl ?_
            exact ea_iretO (pc := 73) dX12_post_73 rfl rfl E
          · have E := (if_neg c35).symm.trans E
            obtain ⟨w5, Ew5, E⟩ := bd_some E
            have hsw5 : ShM w5.2 := ShM_core ((kpX12_isIn _ _ _ _) _ Ew5) hsw4
            refine ea_iload (pc := 41) dX12_post_41 5 rfl ?_
            refine ea_iconst (pc := 43) dX12_post_43 (v := 0) rfl ?_
            refine ea_bipush (pc := 44) dX12_post_44 (v := 99) rfl ?_
            refine ea_callS (pc := 46) (d' := d - 1) (As := [vI x5, vI 0, vI 99]) (st := []) dX12_post_46 kX12_isIn (sX12_isIn (d := d - 1) (by omega) Ew5) (by omega) rfl (Nat.le_of_ble_eq_true rfl) ew_1769 ew_1770 ?_
            refine ea_if_eq (pc := 49) (tgt := 72) dX12_post_49 rfl (fun c34 => ?_) (fun c34 => ?_)
            · have E := (if_pos c34).symm.trans E
              refine ea_iconst (pc := 72) dX12_post_72 (v := (-1)) rfl ?_
              exact ea_iretO (pc := 73) dX12_post_73 rfl rfl E
            · have E := (if_neg c34).symm.trans E
              obtain ⟨w6, Ew6, E⟩ := bd_some E
              have hsw6 : ShM w6.2 := ShM_core ((kpX12_isIn _ _ _ _) _ Ew6) hsw5
              refine ea_iload (pc := 52) dX12_post_52 6 rfl ?_
              refine ea_iconst (pc := 54) dX12_post_54 (v := 0) rfl ?_
              refine ea_bipush (pc := 55) dX12_post_55 (v := 9) rfl ?_
              refine ea_callS (pc := 57) (d' := d - 1) (As := [vI x6, vI 0, vI 9]) (st := []) dX12_post_57 kX12_isIn (sX12_isIn (d := d - 1) (by omega) Ew6) (by omega) rfl (Nat.le_of_ble_eq_true rfl) ew_1769 ew_1770 ?_
              refine ea_if_eq (pc := 60) (tgt := 72) dX12_post_60 rfl (fun c33 => ?_) (fun c33 => ?_)
              · have E := (if_pos c33).symm.trans E
                refine ea_iconst (pc := 72) dX12_post_72 (v := (-1)) rfl ?_
                exact ea_iretO (pc := 73) dX12_post_73 rfl rfl E
              · have E := (if_neg c33).symm.trans E
                refine ea_aload_n (pc := 63) dX12_post_63 rfl 0 rfl ?_
                refine ea_getI (pc := 64) dX12_post_64 ec_12 (k := 63) (Nat.le_of_ble_eq_true rfl) rfl (Or.inl ew_1465) (cShM_326 hsw6).1 (cShM_326 hsw6).2.1 ?_
                refine ea_bipush (pc := 67) dX12_post_67 (v := 120) rfl ?_
                refine ea_icmp_ne (pc := 69) (tgt := 74) dX12_post_69 rfl (fun c32 => ?_) (fun c32 => ?_)
                · have E := (if_neg c32).symm.trans E
                  obtain ⟨v7, ev7, E⟩ := let_some E
                  refine ea_aload_n (pc := 74) dX12_post_74 rfl 0 rfl ?_
                  refine ea_getI (pc := 75) dX12_post_75 ec_12 (k := 63) (Nat.le_of_ble_eq_true rfl) rfl (Or.inl ew_1465) (cShM_326 hsw6).1 (cShM_326 hsw6).2.1 ?_
                  obtain ⟨H8, eH8, E⟩ := let_some E
                  refine ea_istore (pc := 78) (lv' := [(0, vR (some 326)), (1, vI x1), (2, vI x2), (3, vI x3), (4, vI x4), (5, vI x5), (6, vI x6), (7, vI v7)]) dX12_post_78 (Nat.le_of_ble_eq_true rfl) [1, 2, 3, 4, 5, 6, 7, 0] (by rw [ev7]; rfl) ?_
                  refine ea_aload_n (pc := 80) dX12_post_80 rfl 0 rfl ?_
                  refine ea_dup (pc := 81) dX12_post_81 rfl ?_
                  refine ea_getI (pc := 82) dX12_post_82 ec_12 (k := 63) (Nat.le_of_ble_eq_true rfl) rfl (Or.inl ew_1465) (cShM_326 hsw6).1 (cShM_326 hsw6).2.1 ?_
                  refine ea_iconst (pc := 85) dX12_post_85 (v := 1) rfl ?_
                  refine ea_iadd (pc := 86) dX12_post_86 ?_
                  refine ea_putI (pc := 87) dX12_post_87 ec_12 (k := 63) (Nat.le_of_ble_eq_true rfl) rfl (Or.inl ⟨rfl, Or.inl ew_1465⟩) rfl rfl (cShM_326 hsw6).1 (cShM_326 hsw6).2.1 ?_
                  refine ea_nm eH8 ?_
                  have hsH8 : ShM H8 := by rw [eH8]; exact hsw6
                  obtain ⟨z9, E⟩ := gd_some E
                  refine ea_aload_n (pc := 90) dX12_post_90 rfl 0 rfl ?_
                  refine ea_getR (pc := 91) dX12_post_91 ec_12 (k := 64) (Nat.le_of_ble_eq_true rfl) rfl (Or.inl ew_1466) (cShM_326 hsH8).1 (cShM_326 hsH8).2.1 (rShM_326_64 hsH8) ?_
                  refine ea_iload (pc := 94) dX12_post_94 7 rfl ?_
                  refine ea_iload_n (pc := 96) dX12_post_96 rfl 1 rfl ?_
                  obtain ⟨H10, eH10, E⟩ := let_some E
                  refine ea_iast (pc := 97) dX12_post_97 (cShM_364 hsH8).1 (cShM_364 hsH8).2.1 (ea_vpl (cShM_364 hsH8).2.2 z9) ?_
                  refine ea_nm eH10 ?_
                  have hsH10 : ShM H10 := by rw [eH10]; exact hsH8
                  obtain ⟨z11, E⟩ := gd_some E
                  refine ea_aload_n (pc := 98) dX12_post_98 rfl 0 rfl ?_
                  refine ea_getR (pc := 99) dX12_post_99 ec_12 (k := 65) (Nat.le_of_ble_eq_true rfl) rfl (Or.inl ew_1467) (cShM_326 hsH10).1 (cShM_326 hsH10).2.1 (rShM_326_65 hsH10) ?_
                  refine ea_iload (pc := 102) dX12_post_102 7 rfl ?_
                  refine ea_iload_n (pc := 104) dX12_post_104 rfl 2 rfl ?_
                  obtain ⟨H12, eH12, E⟩ := let_some E
                  refine ea_iast (pc := 105) dX12_post_105 (cShM_365 hsH10).1 (cShM_365 hsH10).2.1 (ea_vpl (cShM_365 hsH10).2.2 z11) ?_
                  refine ea_nm eH12 ?_
                  have hsH12 : ShM H12 := by rw [eH12]; exact hsH10
                  obtain ⟨z13, E⟩ := gd_some E
                  refine ea_aload_n (pc := 106) dX12_post_106 rfl 0 rfl ?_
                  refine ea_getR (pc := 107) dX12_post_107 ec_12 (k := 66) (Nat.le_of_ble_eq_true rfl) rfl (Or.inl ew_1468) (cShM_326 hsH12).1 (cShM_326 hsH12).2.1 (rShM_326_66 hsH12) ?_
                  refine ea_iload (pc := 110) dX12_post_110 7 rfl ?_
                  refine ea_iload_n (pc := 112) dX12_post_112 rfl 3 rfl ?_
                  obtain ⟨H14, eH14, E⟩ := let_some E
                  refine ea_iast (pc := 113) dX12_post_113 (cShM_366 hsH12).1 (cShM_366 hsH12).2.1 (ea_vpl (cShM_366 hsH12).2.2 z13) ?_
                  refine ea_nm eH14 ?_
                  have hsH14 : ShM H14 := by rw [eH14]; exact hsH12
                  obtain ⟨z15, E⟩ := gd_some E
                  refine ea_aload_n (pc := 114) dX12_post_114 rfl 0 rfl ?_
                  refine ea_getR (pc := 115) dX12_post_115 ec_12 (k := 67) (Nat.le_of_ble_eq_true rfl) rfl (Or.inl ew_1469) (cShM_326 hsH14).1 (cShM_326 hsH14).2.1 (rShM_326_67 hsH14) ?_
                  refine ea_iload (pc := 118) dX12_post_118 7 rfl ?_
                  refine ea_iload (pc := 120) dX12_post_120 4 rfl ?_
                  obtain ⟨H16, eH16, E⟩ := let_some E
                  refine ea_iast (pc := 122) dX12_post_122 (cShM_367 hsH14).1 (cShM_367 hsH14).2.1 (ea_vpl (cShM_367 hsH14).2.2 z15) ?_
                  refine ea_nm eH16 ?_
                  have hsH16 : ShM H16 := by rw [eH16]; exact hsH14
                  obtain ⟨z17, E⟩ := gd_some E
                  refine ea_aload_n (pc := 123) dX12_post_123 rfl 0 rfl ?_
                  refine ea_getR (pc := 124) dX12_post_124 ec_12 (k := 68) (Nat.le_of_ble_eq_true rfl) rfl (Or.inl ew_1470) (cShM_326 hsH16).1 (cShM_326 hsH16).2.1 (rShM_326_68 hsH16) ?_
                  refine ea_iload (pc := 127) dX12_post_127 7 rfl ?_
                  refine ea_iload (pc := 129) dX12_post_129 5 rfl ?_
                  obtain ⟨H18, eH18, E⟩ := let_some E
                  refine ea_iast (pc := 131) dX12_post_131 (cShM_368 hsH16).1 (cShM_368 hsH16).2.1 (ea_vpl (cShM_368 hsH16).2.2 z17) ?_
                  refine ea_nm eH18 ?_
                  have hsH18 : ShM H18 := by rw [eH18]; exact hsH16
                  obtain ⟨z19, E⟩ := gd_some E
                  refine ea_aload_n (pc := 132) dX12_post_132 rfl 0 rfl ?_
                  refine ea_getR (pc := 133) dX12_post_133 ec_12 (k := 69) (Nat.le_of_ble_eq_true rfl) rfl (Or.inl ew_1471) (cShM_326 hsH18).1 (cShM_326 hsH18).2.1 (rShM_326_69 hsH18) ?_
                  refine ea_iload (pc := 136) dX12_post_136 7 rfl ?_
                  refine ea_iload (pc := 138) dX12_post_138 6 rfl ?_
                  obtain ⟨H20, eH20, E⟩ := let_some E
                  refine ea_iast (pc := 140) dX12_post_140 (cShM_369 hsH18).1 (cShM_369 hsH18).2.1 (ea_vpl (cShM_369 hsH18).2.2 z19) ?_
                  refine ea_nm eH20 ?_
                  have hsH20 : ShM H20 := by rw [eH20]; exact hsH18
                  obtain ⟨z21, E⟩ := gd_some E
                  refine ea_aload_n (pc := 141) dX12_post_141 rfl 0 rfl ?_
                  refine ea_getR (pc := 142) dX12_post_142 ec_12 (k := 70) (Nat.le_of_ble_eq_true rfl) rfl (Or.inl ew_1472) (cShM_326 hsH20).1 (cShM_326 hsH20).2.1 (rShM_326_70 hsH20) ?_
                  refine ea_iload (pc := 145) dX12_post_145 7 rfl ?_
                  refine ea_aload_n (pc := 147) dX12_post_147 rfl 0 rfl ?_
                  refine ea_getI (pc := 148) dX12_post_148 ec_12 (k := 0) (Nat.le_of_ble_eq_true rfl) rfl (Or.inl ew_1402) (cShM_326 hsH20).1 (cShM_326 hsH20).2.1 ?_
                  obtain ⟨H22, eH22, E⟩ := let_some E
                  refine ea_iast (pc := 151) dX12_post_151 (cShM_370 hsH20).1 (cShM_370 hsH20).2.1 (ea_vpl (cShM_370 hsH20).2.2 z21) ?_
                  refine ea_nm eH22 ?_
                  have hsH22 : ShM H22 := by rw [eH22]; exact hsH20
                  obtain ⟨w23, Ew23, E⟩ := bd_some E
                  have hsw23 : ShM w23.2 := ShM_core ((kpX12_milesOf _ _ _ _) _ Ew23) hsH22
                  refine ea_aload_n (pc := 152) dX12_post_152 rfl 0 rfl ?_
                  refine ea_getR (pc := 153) dX12_post_153 ec_12 (k := 71) (Nat.le_of_ble_eq_true rfl) rfl (Or.inl ew_1473) (cShM_326 hsH22).1 (cShM_326 hsH22).2.1 (rShM_326_71 hsH22) ?_
                  refine ea_iload (pc := 156) dX12_post_156 7 rfl ?_
                  refine ea_aload_n (pc := 158) dX12_post_158 rfl 0 rfl ?_
                  refine ea_iload_n (pc := 159) dX12_post_159 rfl 2 rfl ?_
                  refine ea_iload_n (pc := 160) dX12_post_160 rfl 3 rfl ?_
                  refine ea_iconst (pc := 161) dX12_post_161 (v := 0) rfl ?_
                  refine ea_callV (pc := 162) (d' := d - 1) (As := [vI x2, vI x3, vI 0]) (st := [vI v7, vR (some 371)]) dX12_post_162 kX12_milesOf (sX12_milesOf (d := d - 1) (by omega) hsH22 Ew23) (by omega) rfl (Nat.le_of_ble_eq_true rfl) ew_1776 ew_1778 ew_55 (ci := 12) rfl (by decide) (cShM_326 hsH22).1 (cShM_326 hsH22).2.1 ?_
                  obtain ⟨z24, E⟩ := gd_some E
                  obtain ⟨H25, eH25, E⟩ := let_some E
                  refine ea_iast (pc := 165) dX12_post_165 (cShM_371 hsw23).1 (cShM_371 hsw23).2.1 (ea_vpl (cShM_371 hsw23).2.2 z24) ?_
                  refine ea_nm eH25 ?_
                  have hsH25 : ShM H25 := by rw [eH25]; exact hsw23
                  obtain ⟨w26, Ew26, E⟩ := bd_some E
                  have hsw26 : ShM w26.2 := ShM_core ((kpX12_isCross _ _ _) _ Ew26) hsH25
                  refine ea_aload_n (pc := 166) dX12_post_166 rfl 0 rfl ?_
                  refine ea_getR (pc := 167) dX12_post_167 ec_12 (k := 78) (Nat.le_of_ble_eq_true rfl) rfl (Or.inl ew_1480) (cShM_326 hsH25).1 (cShM_326 hsH25).2.1 (rShM_326_78 hsH25) ?_
                  refine ea_iload (pc := 170) dX12_post_170 7 rfl ?_
                  refine ea_aload_n (pc := 172) dX12_post_172 rfl 0 rfl ?_
                  refine ea_iload_n (pc := 173) dX12_post_173 rfl 2 rfl ?_
                  refine ea_iload_n (pc := 174) dX12_post_174 rfl 3 rfl ?_
                  refine ea_callV (pc := 175) (d' := d - 1) (As := [vI x2, vI x3]) (st := [vI v7, vR (some 378)]) dX12_post_175 kX12_isCross (sX12_isCross (d := d - 1) (by omega) hsH25 Ew26) (by omega) rfl (Nat.le_of_ble_eq_true rfl) ew_2040 ew_2042 ew_89 (ci := 12) rfl (by decide) (cShM_326 hsH25).1 (cShM_326 hsH25).2.1 ?_
                  obtain ⟨z27, E⟩ := gd_some E
                  obtain ⟨z28, E⟩ := gd_some E
                  obtain ⟨H29, eH29, E⟩ := let_some E
                  refine ea_zast (pc := 178) dX12_post_178 (y := w26.1) (ea_bn z28) (cShM_378 hsw26).1 (cShM_378 hsw26).2.1 (ea_vpl (cShM_378 hsw26).2.2 z27) ?_
                  refine ea_nm eH29 ?_
                  have hsH29 : ShM H29 := by rw [eH29]; exact hsw26
                  obtain ⟨z30, E⟩ := gd_some E
                  refine ea_aload_n (pc := 179) dX12_post_179 rfl 0 rfl ?_
                  refine ea_getR (pc := 180) dX12_post_180 ec_12 (k := 72) (Nat.le_of_ble_eq_true rfl) rfl (Or.inl ew_1474) (cShM_326 hsH29).1 (cShM_326 hsH29).2.1 (rShM_326_72 hsH29) ?_
                  refine ea_iload (pc := 183) dX12_post_183 7 rfl ?_
                  refine ea_iconst (pc := 185) dX12_post_185 (v := 0) rfl ?_
                  obtain ⟨H31, eH31, E⟩ := let_some E
                  refine ea_iast (pc := 186) dX12_post_186 (cShM_372 hsH29).1 (cShM_372 hsH29).2.1 (ea_vpl (cShM_372 hsH29).2.2 z30) ?_
                  refine ea_nm eH31 ?_
                  have hsH31 : ShM H31 := by rw [eH31]; exact hsH29
                  refine ea_iconst (pc := 187) dX12_post_187 (v := 0) rfl ?_
                  refine ea_istore (pc := 188) (lv' := [(0, vR (some 326)), (2, vI x2), (6, vI x6), (7, vI v7), (8, vI 0)]) dX12_post_188 (Nat.le_of_ble_eq_true rfl) [1, 3, 7, 8, 0] rfl ?_
                  exact (kJ190 (x2 : Int32) (x6 : Int32) (v7 : Int32) (0 : Int32) H31 _ _ E hsH31)
                · have E := (if_pos c32).symm.trans E
                  refine ea_iconst (pc := 72) dX12_post_72 (v := (-1)) rfl ?_
                  exact ea_iretO (pc := 73) dX12_post_73 rfl rfl E
set_option maxRecDepth 100000 in
set_option maxHeartbeats 0 in
theorem kBX12_post_0 {J190 : Int32 → Int32 → Int32 → Int32 → ea_H → Option (Int32 × ea_H)}  (cJ190 : ∀ (x2 : Int32) (x6 : Int32) (x7 : Int32) (x8 : Int32) (h : ea_H), kp (ea_core h) (J190 x2 x6 x7 x8 h)) {x1 : Int32} {x2 : Int32} {x3 : Int32} {x4 : Int32} {x5 : Int32} {x6 : Int32} {h : ea_H} : kp (ea_core h) (BX12_post_0 J190 x1 x2 x3 x4 x5 x6 h) :=
  (kp_bind (kp_tw (kpX12_isIn _ _ _ _) rfl) fun w1 hcw1 => (kp_ite (kp_ret hcw1) (kp_bind (kp_tw (kpX12_isTown _ _) hcw1) fun w2 hcw2 => (kp_ite (kp_ret hcw2) (kp_bind (kp_tw (kpX12_isTown _ _) hcw2) fun w3 hcw3 => (kp_ite (kp_ret hcw3) (kp_ite (kp_ret hcw3) (kp_bind (kp_tw (kpX12_isIn _ _ _ _) hcw3) fun w4 hcw4 => (kp_ite (kp_ret hcw4) (kp_bind (kp_tw (kpX12_isIn _ _ _ _) hcw4) fun w5 hcw5 => (kp_ite (kp_ret hcw5) (kp_bind (kp_tw (kpX12_isIn _ _ _ _) hcw5) fun w6 hcw6 => (kp_ite (kp_ret hcw6) (kp_ite (kp_ret hcw6) (kp_let (kp_let (kp_gd (kp_let (kp_gd (kp_let (kp_gd (kp_let (kp_gd (kp_let (kp_gd (kp_let (kp_gd (kp_let (kp_gd (kp_let (kp_bind (kp_tw (kpX12_milesOf _ _ _ _) hcw6) fun w23 hcw23 => (kp_gd (kp_let (kp_bind (kp_tw (kpX12_isCross _ _ _) hcw23) fun w26 hcw26 => (kp_gd (kp_gd (kp_let (kp_gd (kp_let (kp_tw (cJ190 _ _ _ _ _) hcw26))))))))))))))))))))))))))))))))))))))))
set_option maxRecDepth 100000 in
set_option maxHeartbeats 0 in
theorem lBX12_post_0 {J190 : Int32 → Int32 → Int32 → Int32 → ea_H → Option (Int32 × ea_H)} {J190_ : Int32 → Int32 → Int32 → Int32 → ea_H → Option (Int32 × ea_H)}  (mJ190 : ∀ (x2 : Int32) (x6 : Int32) (x7 : Int32) (x8 : Int32) (h : ea_H), fle (J190 x2 x6 x7 x8 h) (J190_ x2 x6 x7 x8 h)) {x1 : Int32} {x2 : Int32} {x3 : Int32} {x4 : Int32} {x5 : Int32} {x6 : Int32} {h : ea_H} : fle (BX12_post_0 J190 x1 x2 x3 x4 x5 x6 h) (BX12_post_0 J190_ x1 x2 x3 x4 x5 x6 h) :=
  (fle_bind (fle_rfl _) fun _ => (fle_ite (fle_rfl _) (fle_bind (fle_rfl _) fun _ => (fle_ite (fle_rfl _) (fle_bind (fle_rfl _) fun _ => (fle_ite (fle_rfl _) (fle_ite (fle_rfl _) (fle_bind (fle_rfl _) fun _ => (fle_ite (fle_rfl _) (fle_bind (fle_rfl _) fun _ => (fle_ite (fle_rfl _) (fle_bind (fle_rfl _) fun _ => (fle_ite (fle_rfl _) (fle_ite (fle_rfl _) (fle_let fun _ => (fle_let fun _ => (fle_gd (fle_let fun _ => (fle_gd (fle_let fun _ => (fle_gd (fle_let fun _ => (fle_gd (fle_let fun _ => (fle_gd (fle_let fun _ => (fle_gd (fle_let fun _ => (fle_gd (fle_let fun _ => (fle_bind (fle_rfl _) fun _ => (fle_gd (fle_let fun _ => (fle_bind (fle_rfl _) fun _ => (fle_gd (fle_gd (fle_let fun _ => (fle_gd (fle_let fun _ => (mJ190 _ _ _ _ _))))))))))))))))))))))))))))))))))))))))
set_option maxRecDepth 100000 in
set_option maxHeartbeats 0 in
theorem nBX12_post_0 {J190 : Int32 → Int32 → Int32 → Int32 → ea_H → Option (Int32 × ea_H)} {J190_ : Nat → (Int32 → Int32 → Int32 → Int32 → ea_H → Option (Int32 × ea_H))}  (mJ190 : ∀ (x2 : Int32) (x6 : Int32) (x7 : Int32) (x8 : Int32) (h : ea_H), fct (J190 x2 x6 x7 x8 h) (fun f => J190_ f x2 x6 x7 x8 h)) {x1 : Int32} {x2 : Int32} {x3 : Int32} {x4 : Int32} {x5 : Int32} {x6 : Int32} {h : ea_H} : fct (BX12_post_0 J190 x1 x2 x3 x4 x5 x6 h) (fun f => BX12_post_0 (J190_ f) x1 x2 x3 x4 x5 x6 h) :=
  (fct_bind (fct_rfl _) fun _ => (fct_ite (fct_rfl _) (fct_bind (fct_rfl _) fun _ => (fct_ite (fct_rfl _) (fct_bind (fct_rfl _) fun _ => (fct_ite (fct_rfl _) (fct_ite (fct_rfl _) (fct_bind (fct_rfl _) fun _ => (fct_ite (fct_rfl _) (fct_bind (fct_rfl _) fun _ => (fct_ite (fct_rfl _) (fct_bind (fct_rfl _) fun _ => (fct_ite (fct_rfl _) (fct_ite (fct_rfl _) (fct_let fun _ => (fct_let fun _ => (fct_gd (fct_let fun _ => (fct_gd (fct_let fun _ => (fct_gd (fct_let fun _ => (fct_gd (fct_let fun _ => (fct_gd (fct_let fun _ => (fct_gd (fct_let fun _ => (fct_gd (fct_let fun _ => (fct_bind (fct_rfl _) fun _ => (fct_gd (fct_let fun _ => (fct_bind (fct_rfl _) fun _ => (fct_gd (fct_gd (fct_let fun _ => (fct_gd (fct_let fun _ => (mJ190 _ _ _ _ _))))))))))))))))))))))))))))))))))))))))
noncomputable def BX12_post_190 (J190 : Int32 → Int32 → Int32 → Int32 → ea_H → Option (Int32 × ea_H)) (J320 : Int32 → Int32 → Int32 → Int32 → ea_H → Option (Int32 × ea_H)) (x2 : Int32) (x6 : Int32) (x7 : Int32) (x8 : Int32) (h : ea_H) : Option (Int32 × ea_H) :=
  (if x7 < x8 then (Option.bind (qX12_actOn (((ea_i h 326 0) / (1440 : Int32)) : Int32) h) fun w40 => (gd (vp_in x7 120) (ea_let (ea_wi w40.2 373 (Int32.toNatClampNeg x7) w40.1) fun H42 => (gd (vp_in x7 120) (if (ea_i H42 373 (Int32.toNatClampNeg x7)) = ((-1) : Int32) then (J320 (x2 : Int32) (x7 : Int32) (0 : Int32) (x7 : Int32) H42) else (gd (vp_in x7 120) (Option.bind (qX12_isFree (x7 : Int32) ((ea_i H42 373 (Int32.toNatClampNeg x7)) : Int32) H42) fun w45 => (if w45.1 = (0 : Int32) then (J320 (x2 : Int32) (x7 : Int32) (0 : Int32) (x7 : Int32) w45.2) else (J320 (x2 : Int32) (x7 : Int32) (1 : Int32) (x7 : Int32) w45.2))))))))) else (gd (vp_in x7 120) (gd (vp_in x8 120) (if (ea_i h 364 (Int32.toNatClampNeg x8)) = (2 : Int32) then (gd (vp_in x8 120) (if (ea_i h 369 (Int32.toNatClampNeg x8)) = x6 then (gd (vp_in x8 120) (if ((ea_i h 370 (Int32.toNatClampNeg x8)) / (1440 : Int32)) = ((ea_i h 326 0) / (1440 : Int32)) then (gd (vp_in x7 120) (ea_let (ea_wi h 372 (Int32.toNatClampNeg x7) ((ea_i h 372 (Int32.toNatClampNeg x7)) + (1 : Int32))) fun H59 => (J190 (x2 : Int32) (x6 : Int32) (x7 : Int32) ((x8 + (1 : Int32)) : Int32) H59))) else (gd (vp_in x7 120) (ea_let (ea_wi h 372 (Int32.toNatClampNeg x7) ((ea_i h 372 (Int32.toNatClampNeg x7)) + (0 : Int32))) fun H57 => (J190 (x2 : Int32) (x6 : Int32) (x7 : Int32) ((x8 + (1 : Int32)) : Int32) H57))))) else (gd (vp_in x7 120) (ea_let (ea_wi h 372 (Int32.toNatClampNeg x7) ((ea_i h 372 (Int32.toNatClampNeg x7)) + (0 : Int32))) fun H54 => (J190 (x2 : Int32) (x6 : Int32) (x7 : Int32) ((x8 + (1 : Int32)) : Int32) H54))))) else (gd (vp_in x7 120) (ea_let (ea_wi h 372 (Int32.toNatClampNeg x7) ((ea_i h 372 (Int32.toNatClampNeg x7)) + (0 : Int32))) fun H51 => (J190 (x2 : Int32) (x6 : Int32) (x7 : Int32) ((x8 + (1 : Int32)) : Int32) H51)))))))
set_option maxRecDepth 100000 in
set_option maxHeartbeats 0 in
theorem tBX12_post_190 {d : Nat} {h0 : ea_H} (hd : 5 ≤ d) {J190 : Int32 → Int32 → Int32 → Int32 → ea_H → Option (Int32 × ea_H)} {J320 : Int32 → Int32 → Int32 → Int32 → ea_H → Option (Int32 × ea_H)}  (kJ190 : ∀ (x2 : Int32) (x6 : Int32) (x7 : Int32) (x8 : Int32) (h : ea_H) (r : Int32) (h' : ea_H), J190 x2 x6 x7 x8 h = some (r, h') → ShM h → ea_W mX12_post d h0 (some (vI r)) h' 190 [(0, vR (some 326)), (2, vI x2), (6, vI x6), (7, vI x7), (8, vI x8)] [] h) (kJ320 : ∀ (x2 : Int32) (x7 : Int32) (sx0 : Int32) (sx1 : Int32) (h : ea_H) (r : Int32) (h' : ea_H), J320 x2 x7 sx0 sx1 h = some (r, h') → ShM h → ea_W mX12_post d h0 (some (vI r)) h' 320 [(0, vR (some 326)), (2, vI x2), (7, vI x7)] [vI sx0, vI sx1, vR (some 379)] h) {x2 : Int32} {x6 : Int32} {x7 : Int32} {x8 : Int32} {h : ea_H} {r : Int32} {h' : ea_H} (E : BX12_post_190 J190 J320 x2 x6 x7 x8 h = some (r, h')) (hs : ShM h) : ea_W mX12_post d h0 (some (vI r)) h' 190 [(0, vR (some 326)), (2, vI x2), (6, vI x6), (7, vI x7), (8, vI x8)] [] h := by
  unfold BX12_post_190 at E
  refine ea_iload (pc := 190) dX12_post_190 4 rfl ?_
  refine ea_iload (pc := 192) dX12_post_192 3 rfl ?_
  refine ea_icmp_gt (pc := 194) (tgt := 263) dX12_post_194 rfl (fun c63 => ?_) (fun c63 => ?_)
  · have E := (if_pos c63).symm.trans E
    obtain ⟨w40, Ew40, E⟩ := bd_some E
    have hsw40 : ShM w40.2 := ShM_core ((kpX12_actOn _ _) _ Ew40) hs
    refine ea_aload_n (pc := 263) dX12_post_263 rfl 0 rfl ?_
    refine ea_getR (pc := 264) dX12_post_264 ec_12 (k := 73) (Nat.le_of_ble_eq_true rfl) rfl (Or.inl ew_1475) (cShM_326 hs).1 (cShM_326 hs).2.1 (rShM_326_73 hs) ?_
    refine ea_iload (pc := 267) dX12_post_267 3 rfl ?_
    refine ea_aload_n (pc := 269) dX12_post_269 rfl 0 rfl ?_
    refine ea_aload_n (pc := 270) dX12_post_270 rfl 0 rfl ?_
    refine ea_getI (pc := 271) dX12_post_271 ec_12 (k := 0) (Nat.le_of_ble_eq_true rfl) rfl (Or.inl ew_1402) (cShM_326 hs).1 (cShM_326 hs).2.1 ?_
    refine ea_sipush (pc := 274) dX12_post_274 (v := 1440) rfl ?_
    refine ea_idiv (pc := 277) dX12_post_277 (by decide) ?_
    refine ea_callV (pc := 278) (d' := d - 1) (As := [vI ((ea_i h 326 0) / (1440 : Int32))]) (st := [vI x7, vR (some 373)]) dX12_post_278 kX12_actOn (sX12_actOn (d := d - 1) (by omega) hs Ew40) (by omega) rfl (Nat.le_of_ble_eq_true rfl) ew_2032 ew_2034 ew_88 (ci := 12) rfl (by decide) (cShM_326 hs).1 (cShM_326 hs).2.1 ?_
    obtain ⟨z41, E⟩ := gd_some E
    obtain ⟨H42, eH42, E⟩ := let_some E
    refine ea_iast (pc := 281) dX12_post_281 (cShM_373 hsw40).1 (cShM_373 hsw40).2.1 (ea_vpl (cShM_373 hsw40).2.2 z41) ?_
    refine ea_nm eH42 ?_
    have hsH42 : ShM H42 := by rw [eH42]; exact hsw40
    obtain ⟨z43, E⟩ := gd_some E
    refine ea_aload_n (pc := 282) dX12_post_282 rfl 0 rfl ?_
    refine ea_getR (pc := 283) dX12_post_283 ec_12 (k := 79) (Nat.le_of_ble_eq_true rfl) rfl (Or.inl ew_1481) (cShM_326 hsH42).1 (cShM_326 hsH42).2.1 (rShM_326_79 hsH42) ?_
    refine ea_iload (pc := 286) dX12_post_286 3 rfl ?_
    refine ea_aload_n (pc := 288) dX12_post_288 rfl 0 rfl ?_
    refine ea_getR (pc := 289) dX12_post_289 ec_12 (k := 73) (Nat.le_of_ble_eq_true rfl) rfl (Or.inl ew_1475) (cShM_326 hsH42).1 (cShM_326 hsH42).2.1 (rShM_326_73 hsH42) ?_
    refine ea_iload (pc := 292) dX12_post_292 3 rfl ?_
    refine ea_iald (pc := 294) dX12_post_294 (cShM_373 hsH42).1 (cShM_373 hsH42).2.1 (ea_vpl (cShM_373 hsH42).2.2 z43) ?_
    refine ea_iconst (pc := 295) dX12_post_295 (v := (-1)) rfl ?_
    refine ea_icmp_eq (pc := 296) (tgt := 319) dX12_post_296 rfl (fun c47 => ?_) (fun c47 => ?_)
    · have E := (if_pos c47).symm.trans E
      refine ea_iconst (pc := 319) dX12_post_319 (v := 0) rfl ?_
      exact ea_fewer [0, 1, 3] rfl (kJ320 (x2 : Int32) (x7 : Int32) (0 : Int32) (x7 : Int32) H42 _ _ E hsH42)
    · have E := (if_neg c47).symm.trans E
      obtain ⟨z44, E⟩ := gd_some E
      refine ea_aload_n (pc := 299) dX12_post_299 rfl 0 rfl ?_
      refine ea_iload (pc := 300) dX12_post_300 3 rfl ?_
      refine ea_aload_n (pc := 302) dX12_post_302 rfl 0 rfl ?_
      refine ea_getR (pc := 303) dX12_post_303 ec_12 (k := 73) (Nat.le_of_ble_eq_true rfl) rfl (Or.inl ew_1475) (cShM_326 hsH42).1 (cShM_326 hsH42).2.1 (rShM_326_73 hsH42) ?_
      refine ea_iload (pc := 306) dX12_post_306 3 rfl ?_
      obtain ⟨w45, Ew45, E⟩ := bd_some E
      have hsw45 : ShM w45.2 := ShM_core ((kpX12_isFree _ _ _) _ Ew45) hsH42
      refine ea_iald (pc := 308) dX12_post_308 (cShM_373 hsH42).1 (cShM_373 hsH42).2.1 (ea_vpl (cShM_373 hsH42).2.2 z44) ?_
      refine ea_callV (pc := 309) (d' := d - 1) (As := [vI x7, vI (ea_i H42 373 (Int32.toNatClampNeg x7))]) (st := [vI x7, vR (some 379)]) dX12_post_309 kX12_isFree (sX12_isFree (d := d - 1) (by omega) hsH42 Ew45) (by omega) rfl (Nat.le_of_ble_eq_true rfl) ew_2044 ew_2046 ew_90 (ci := 12) rfl (by decide) (cShM_326 hsH42).1 (cShM_326 hsH42).2.1 ?_
      refine ea_if_eq (pc := 312) (tgt := 319) dX12_post_312 rfl (fun c46 => ?_) (fun c46 => ?_)
      · have E := (if_pos c46).symm.trans E
        refine ea_iconst (pc := 319) dX12_post_319 (v := 0) rfl ?_
        exact ea_fewer [0, 1, 3] rfl (kJ320 (x2 : Int32) (x7 : Int32) (0 : Int32) (x7 : Int32) w45.2 _ _ E hsw45)
      · have E := (if_neg c46).symm.trans E
        refine ea_iconst (pc := 315) dX12_post_315 (v := 1) rfl ?_
        refine ea_goto (pc := 316) (tgt := 320) dX12_post_316 rfl ?_
        exact ea_fewer [0, 1, 3] rfl (kJ320 (x2 : Int32) (x7 : Int32) (1 : Int32) (x7 : Int32) w45.2 _ _ E hsw45)
  · have E := (if_neg c63).symm.trans E
    obtain ⟨z48, E⟩ := gd_some E
    refine ea_aload_n (pc := 197) dX12_post_197 rfl 0 rfl ?_
    refine ea_getR (pc := 198) dX12_post_198 ec_12 (k := 72) (Nat.le_of_ble_eq_true rfl) rfl (Or.inl ew_1474) (cShM_326 hs).1 (cShM_326 hs).2.1 (rShM_326_72 hs) ?_
    refine ea_iload (pc := 201) dX12_post_201 3 rfl ?_
    refine ea_dup2 (pc := 203) dX12_post_203 rfl rfl ?_
    obtain ⟨z49, E⟩ := gd_some E
    refine ea_iald (pc := 204) dX12_post_204 (cShM_372 hs).1 (cShM_372 hs).2.1 (ea_vpl (cShM_372 hs).2.2 z48) ?_
    refine ea_aload_n (pc := 205) dX12_post_205 rfl 0 rfl ?_
    refine ea_getR (pc := 206) dX12_post_206 ec_12 (k := 64) (Nat.le_of_ble_eq_true rfl) rfl (Or.inl ew_1466) (cShM_326 hs).1 (cShM_326 hs).2.1 (rShM_326_64 hs) ?_
    refine ea_iload (pc := 209) dX12_post_209 4 rfl ?_
    refine ea_iald (pc := 211) dX12_post_211 (cShM_364 hs).1 (cShM_364 hs).2.1 (ea_vpl (cShM_364 hs).2.2 z49) ?_
    refine ea_iconst (pc := 212) dX12_post_212 (v := 2) rfl ?_
    refine ea_icmp_ne (pc := 213) (tgt := 254) dX12_post_213 rfl (fun c62 => ?_) (fun c62 => ?_)
    · have E := (if_neg c62).symm.trans E
      obtain ⟨z50, E⟩ := gd_some E
      refine ea_iconst (pc := 254) dX12_post_254 (v := 0) rfl ?_
      refine ea_iadd (pc := 255) dX12_post_255 ?_
      obtain ⟨H51, eH51, E⟩ := let_some E
      refine ea_iast (pc := 256) dX12_post_256 (cShM_372 hs).1 (cShM_372 hs).2.1 (ea_vpl (cShM_372 hs).2.2 z50) ?_
      refine ea_nm eH51 ?_
      have hsH51 : ShM H51 := by rw [eH51]; exact hs
      refine ea_iinc (pc := 257) (v := 1) (lv' := [(0, vR (some 326)), (2, vI x2), (6, vI x6), (7, vI x7), (8, vI (x8 + (1 : Int32)))]) dX12_post_257 4 rfl rfl (Nat.le_of_ble_eq_true rfl) [1, 2, 3, 4, 0] rfl ?_
      refine ea_goto (pc := 260) (tgt := 190) dX12_post_260 rfl ?_
      exact (kJ190 (x2 : Int32) (x6 : Int32) (x7 : Int32) ((x8 + (1 : Int32)) : Int32) H51 _ _ E hsH51)
    · have E := (if_pos c62).symm.trans E
      obtain ⟨z52, E⟩ := gd_some E
      refine ea_aload_n (pc := 216) dX12_post_216 rfl 0 rfl ?_
      refine ea_getR (pc := 217) dX12_post_217 ec_12 (k := 69) (Nat.le_of_ble_eq_true rfl) rfl (Or.inl ew_1471) (cShM_326 hs).1 (cShM_326 hs).2.1 (rShM_326_69 hs) ?_
      refine ea_iload (pc := 220) dX12_post_220 4 rfl ?_
      refine ea_iald (pc := 222) dX12_post_222 (cShM_369 hs).1 (cShM_369 hs).2.1 (ea_vpl (cShM_369 hs).2.2 z52) ?_
      refine ea_iload (pc := 223) dX12_post_223 2 rfl ?_
      refine ea_icmp_ne (pc := 225) (tgt := 254) dX12_post_225 rfl (fun c61 => ?_) (fun c61 => ?_)
      · have E := (if_neg c61).symm.trans E
        obtain ⟨z53, E⟩ := gd_some E
        refine ea_iconst (pc := 254) dX12_post_254 (v := 0) rfl ?_
        refine ea_iadd (pc := 255) dX12_post_255 ?_
        obtain ⟨H54, eH54, E⟩ := let_some E
        refine ea_iast (pc := 256) dX12_post_256 (cShM_372 hs).1 (cShM_372 hs).2.1 (ea_vpl (cShM_372 hs).2.2 z53) ?_
        refine ea_nm eH54 ?_
        have hsH54 : ShM H54 := by rw [eH54]; exact hs
        refine ea_iinc (pc := 257) (v := 1) (lv' := [(0, vR (some 326)), (2, vI x2), (6, vI x6), (7, vI x7), (8, vI (x8 + (1 : Int32)))]) dX12_post_257 4 rfl rfl (Nat.le_of_ble_eq_true rfl) [1, 2, 3, 4, 0] rfl ?_
        refine ea_goto (pc := 260) (tgt := 190) dX12_post_260 rfl ?_
        exact (kJ190 (x2 : Int32) (x6 : Int32) (x7 : Int32) ((x8 + (1 : Int32)) : Int32) H54 _ _ E hsH54)
      · have E := (if_pos c61).symm.trans E
        obtain ⟨z55, E⟩ := gd_some E
        refine ea_aload_n (pc := 228) dX12_post_228 rfl 0 rfl ?_
        refine ea_getR (pc := 229) dX12_post_229 ec_12 (k := 70) (Nat.le_of_ble_eq_true rfl) rfl (Or.inl ew_1472) (cShM_326 hs).1 (cShM_326 hs).2.1 (rShM_326_70 hs) ?_
        refine ea_iload (pc := 232) dX12_post_232 4 rfl ?_
        refine ea_iald (pc := 234) dX12_post_234 (cShM_370 hs).1 (cShM_370 hs).2.1 (ea_vpl (cShM_370 hs).2.2 z55) ?_
        refine ea_sipush (pc := 235) dX12_post_235 (v := 1440) rfl ?_
        refine ea_idiv (pc := 238) dX12_post_238 (by decide) ?_
        refine ea_aload_n (pc := 239) dX12_post_239 rfl 0 rfl ?_
        refine ea_getI (pc := 240) dX12_post_240 ec_12 (k := 0) (Nat.le_of_ble_eq_true rfl) rfl (Or.inl ew_1402) (cShM_326 hs).1 (cShM_326 hs).2.1 ?_
        refine ea_sipush (pc := 243) dX12_post_243 (v := 1440) rfl ?_
        refine ea_idiv (pc := 246) dX12_post_246 (by decide) ?_
        refine ea_icmp_ne (pc := 247) (tgt := 254) dX12_post_247 rfl (fun c60 => ?_) (fun c60 => ?_)
        · have E := (if_neg c60).symm.trans E
          obtain ⟨z56, E⟩ := gd_some E
          refine ea_iconst (pc := 254) dX12_post_254 (v := 0) rfl ?_
          refine ea_iadd (pc := 255) dX12_post_255 ?_
          obtain ⟨H57, eH57, E⟩ := let_some E
          refine ea_iast (pc := 256) dX12_post_256 (cShM_372 hs).1 (cShM_372 hs).2.1 (ea_vpl (cShM_372 hs).2.2 z56) ?_
          refine ea_nm eH57 ?_
          have hsH57 : ShM H57 := by rw [eH57]; exact hs
          refine ea_iinc (pc := 257) (v := 1) (lv' := [(0, vR (some 326)), (2, vI x2), (6, vI x6), (7, vI x7), (8, vI (x8 + (1 : Int32)))]) dX12_post_257 4 rfl rfl (Nat.le_of_ble_eq_true rfl) [1, 2, 3, 4, 0] rfl ?_
          refine ea_goto (pc := 260) (tgt := 190) dX12_post_260 rfl ?_
          exact (kJ190 (x2 : Int32) (x6 : Int32) (x7 : Int32) ((x8 + (1 : Int32)) : Int32) H57 _ _ E hsH57)
        · have E := (if_pos c60).symm.trans E
          obtain ⟨z58, E⟩ := gd_some E
          refine ea_iconst (pc := 250) dX12_post_250 (v := 1) rfl ?_
          refine ea_goto (pc := 251) (tgt := 255) dX12_post_251 rfl ?_
          refine ea_iadd (pc := 255) dX12_post_255 ?_
          obtain ⟨H59, eH59, E⟩ := let_some E
          refine ea_iast (pc := 256) dX12_post_256 (cShM_372 hs).1 (cShM_372 hs).2.1 (ea_vpl (cShM_372 hs).2.2 z58) ?_
          refine ea_nm eH59 ?_
          have hsH59 : ShM H59 := by rw [eH59]; exact hs
          refine ea_iinc (pc := 257) (v := 1) (lv' := [(0, vR (some 326)), (2, vI x2), (6, vI x6), (7, vI x7), (8, vI (x8 + (1 : Int32)))]) dX12_post_257 4 rfl rfl (Nat.le_of_ble_eq_true rfl) [1, 2, 3, 4, 0] rfl ?_
          refine ea_goto (pc := 260) (tgt := 190) dX12_post_260 rfl ?_
          exact (kJ190 (x2 : Int32) (x6 : Int32) (x7 : Int32) ((x8 + (1 : Int32)) : Int32) H59 _ _ E hsH59)
set_option maxRecDepth 100000 in
set_option maxHeartbeats 0 in
theorem kBX12_post_190 {J190 : Int32 → Int32 → Int32 → Int32 → ea_H → Option (Int32 × ea_H)} {J320 : Int32 → Int32 → Int32 → Int32 → ea_H → Option (Int32 × ea_H)}  (cJ190 : ∀ (x2 : Int32) (x6 : Int32) (x7 : Int32) (x8 : Int32) (h : ea_H), kp (ea_core h) (J190 x2 x6 x7 x8 h)) (cJ320 : ∀ (x2 : Int32) (x7 : Int32) (sx0 : Int32) (sx1 : Int32) (h : ea_H), kp (ea_core h) (J320 x2 x7 sx0 sx1 h)) {x2 : Int32} {x6 : Int32} {x7 : Int32} {x8 : Int32} {h : ea_H} : kp (ea_core h) (BX12_post_190 J190 J320 x2 x6 x7 x8 h) :=
  (kp_ite (kp_bind (kp_tw (kpX12_actOn _ _) rfl) fun w40 hcw40 => (kp_gd (kp_let (kp_gd (kp_ite (kp_tw (cJ320 _ _ _ _ _) hcw40) (kp_gd (kp_bind (kp_tw (kpX12_isFree _ _ _) hcw40) fun w45 hcw45 => (kp_ite (kp_tw (cJ320 _ _ _ _ _) hcw45) (kp_tw (cJ320 _ _ _ _ _) hcw45))))))))) (kp_gd (kp_gd (kp_ite (kp_gd (kp_ite (kp_gd (kp_ite (kp_gd (kp_let (kp_tw (cJ190 _ _ _ _ _) rfl))) (kp_gd (kp_let (kp_tw (cJ190 _ _ _ _ _) rfl))))) (kp_gd (kp_let (kp_tw (cJ190 _ _ _ _ _) rfl))))) (kp_gd (kp_let (kp_tw (cJ190 _ _ _ _ _) rfl)))))))
set_option maxRecDepth 100000 in
set_option maxHeartbeats 0 in
theorem lBX12_post_190 {J190 : Int32 → Int32 → Int32 → Int32 → ea_H → Option (Int32 × ea_H)} {J320 : Int32 → Int32 → Int32 → Int32 → ea_H → Option (Int32 × ea_H)} {J190_ : Int32 → Int32 → Int32 → Int32 → ea_H → Option (Int32 × ea_H)} {J320_ : Int32 → Int32 → Int32 → Int32 → ea_H → Option (Int32 × ea_H)}  (mJ190 : ∀ (x2 : Int32) (x6 : Int32) (x7 : Int32) (x8 : Int32) (h : ea_H), fle (J190 x2 x6 x7 x8 h) (J190_ x2 x6 x7 x8 h)) (mJ320 : ∀ (x2 : Int32) (x7 : Int32) (sx0 : Int32) (sx1 : Int32) (h : ea_H), fle (J320 x2 x7 sx0 sx1 h) (J320_ x2 x7 sx0 sx1 h)) {x2 : Int32} {x6 : Int32} {x7 : Int32} {x8 : Int32} {h : ea_H} : fle (BX12_post_190 J190 J320 x2 x6 x7 x8 h) (BX12_post_190 J190_ J320_ x2 x6 x7 x8 h) :=
  (fle_ite (fle_bind (fle_rfl _) fun _ => (fle_gd (fle_let fun _ => (fle_gd (fle_ite (mJ320 _ _ _ _ _) (fle_gd (fle_bind (fle_rfl _) fun _ => (fle_ite (mJ320 _ _ _ _ _) (mJ320 _ _ _ _ _))))))))) (fle_gd (fle_gd (fle_ite (fle_gd (fle_ite (fle_gd (fle_ite (fle_gd (fle_let fun _ => (mJ190 _ _ _ _ _))) (fle_gd (fle_let fun _ => (mJ190 _ _ _ _ _))))) (fle_gd (fle_let fun _ => (mJ190 _ _ _ _ _))))) (fle_gd (fle_let fun _ => (mJ190 _ _ _ _ _)))))))
set_option maxRecDepth 100000 in
set_option maxHeartbeats 0 in
theorem nBX12_post_190 {J190 : Int32 → Int32 → Int32 → Int32 → ea_H → Option (Int32 × ea_H)} {J320 : Int32 → Int32 → Int32 → Int32 → ea_H → Option (Int32 × ea_H)} {J190_ : Nat → (Int32 → Int32 → Int32 → Int32 → ea_H → Option (Int32 × ea_H))} {J320_ : Nat → (Int32 → Int32 → Int32 → Int32 → ea_H → Option (Int32 × ea_H))}  (mJ190 : ∀ (x2 : Int32) (x6 : Int32) (x7 : Int32) (x8 : Int32) (h : ea_H), fct (J190 x2 x6 x7 x8 h) (fun f => J190_ f x2 x6 x7 x8 h)) (mJ320 : ∀ (x2 : Int32) (x7 : Int32) (sx0 : Int32) (sx1 : Int32) (h : ea_H), fct (J320 x2 x7 sx0 sx1 h) (fun f => J320_ f x2 x7 sx0 sx1 h)) {x2 : Int32} {x6 : Int32} {x7 : Int32} {x8 : Int32} {h : ea_H} : fct (BX12_post_190 J190 J320 x2 x6 x7 x8 h) (fun f => BX12_post_190 (J190_ f) (J320_ f) x2 x6 x7 x8 h) :=
  (fct_ite (fct_bind (fct_rfl _) fun _ => (fct_gd (fct_let fun _ => (fct_gd (fct_ite (mJ320 _ _ _ _ _) (fct_gd (fct_bind (fct_rfl _) fun _ => (fct_ite (mJ320 _ _ _ _ _) (mJ320 _ _ _ _ _))))))))) (fct_gd (fct_gd (fct_ite (fct_gd (fct_ite (fct_gd (fct_ite (fct_gd (fct_let fun _ => (mJ190 _ _ _ _ _))) (fct_gd (fct_let fun _ => (mJ190 _ _ _ _ _))))) (fct_gd (fct_let fun _ => (mJ190 _ _ _ _ _))))) (fct_gd (fct_let fun _ => (mJ190 _ _ _ _ _)))))))
noncomputable def BX12_post_320 (J355 : Int32 → Int32 → Int32 → Int32 → ea_H → Option (Int32 × ea_H)) (x2 : Int32) (x7 : Int32) (sx0 : Int32) (sx1 : Int32) (h : ea_H) : Option (Int32 × ea_H) :=
  (gd (vp_in sx1 120) (gd ((sx0 = 0 ∨ sx0 = 1)) (ea_let (ea_wi h 379 (Int32.toNatClampNeg sx1) sx0) fun H66 => (gd (vp_in x7 120) (if (ea_i H66 373 (Int32.toNatClampNeg x7)) = ((-1) : Int32) then (J355 (x2 : Int32) (x7 : Int32) (0 : Int32) (x7 : Int32) H66) else (gd (vp_in x7 120) (Option.bind (qX12_chargeBy (x7 : Int32) ((ea_i H66 373 (Int32.toNatClampNeg x7)) : Int32) H66) fun w69 => (J355 (x2 : Int32) (x7 : Int32) (w69.1 : Int32) (x7 : Int32) w69.2))))))))
set_option maxRecDepth 100000 in
set_option maxHeartbeats 0 in
theorem tBX12_post_320 {d : Nat} {h0 : ea_H} (hd : 5 ≤ d) {J355 : Int32 → Int32 → Int32 → Int32 → ea_H → Option (Int32 × ea_H)}  (kJ355 : ∀ (x2 : Int32) (x7 : Int32) (sx0 : Int32) (sx1 : Int32) (h : ea_H) (r : Int32) (h' : ea_H), J355 x2 x7 sx0 sx1 h = some (r, h') → ShM h → ea_W mX12_post d h0 (some (vI r)) h' 355 [(0, vR (some 326)), (2, vI x2), (7, vI x7)] [vI sx0, vI sx1, vR (some 374)] h) {x2 : Int32} {x7 : Int32} {sx0 : Int32} {sx1 : Int32} {h : ea_H} {r : Int32} {h' : ea_H} (E : BX12_post_320 J355 x2 x7 sx0 sx1 h = some (r, h')) (hs : ShM h) : ea_W mX12_post d h0 (some (vI r)) h' 320 [(0, vR (some 326)), (2, vI x2), (7, vI x7)] [vI sx0, vI sx1, vR (some 379)] h := by
  unfold BX12_post_320 at E
  obtain ⟨z64, E⟩ := gd_some E
  obtain ⟨z65, E⟩ := gd_some E
  obtain ⟨H66, eH66, E⟩ := let_some E
  refine ea_zast (pc := 320) dX12_post_320 (y := sx0) (ea_bn z65) (cShM_379 hs).1 (cShM_379 hs).2.1 (ea_vpl (cShM_379 hs).2.2 z64) ?_
  refine ea_nm eH66 ?_
  have hsH66 : ShM H66 := by rw [eH66]; exact hs
  obtain ⟨z67, E⟩ := gd_some E
  refine ea_aload_n (pc := 321) dX12_post_321 rfl 0 rfl ?_
  refine ea_getR (pc := 322) dX12_post_322 ec_12 (k := 74) (Nat.le_of_ble_eq_true rfl) rfl (Or.inl ew_1476) (cShM_326 hsH66).1 (cShM_326 hsH66).2.1 (rShM_326_74 hsH66) ?_
  refine ea_iload (pc := 325) dX12_post_325 2 rfl ?_
  refine ea_aload_n (pc := 327) dX12_post_327 rfl 0 rfl ?_
  refine ea_getR (pc := 328) dX12_post_328 ec_12 (k := 73) (Nat.le_of_ble_eq_true rfl) rfl (Or.inl ew_1475) (cShM_326 hsH66).1 (cShM_326 hsH66).2.1 (rShM_326_73 hsH66) ?_
  refine ea_iload (pc := 331) dX12_post_331 2 rfl ?_
  refine ea_iald (pc := 333) dX12_post_333 (cShM_373 hsH66).1 (cShM_373 hsH66).2.1 (ea_vpl (cShM_373 hsH66).2.2 z67) ?_
  refine ea_iconst (pc := 334) dX12_post_334 (v := (-1)) rfl ?_
  refine ea_icmp_ne (pc := 335) (tgt := 342) dX12_post_335 rfl (fun c70 => ?_) (fun c70 => ?_)
  · have E := (if_neg c70).symm.trans E
    obtain ⟨z68, E⟩ := gd_some E
    refine ea_aload_n (pc := 342) dX12_post_342 rfl 0 rfl ?_
    refine ea_iload (pc := 343) dX12_post_343 2 rfl ?_
    refine ea_aload_n (pc := 345) dX12_post_345 rfl 0 rfl ?_
    refine ea_getR (pc := 346) dX12_post_346 ec_12 (k := 73) (Nat.le_of_ble_eq_true rfl) rfl (Or.inl ew_1475) (cShM_326 hsH66).1 (cShM_326 hsH66).2.1 (rShM_326_73 hsH66) ?_
    refine ea_iload (pc := 349) dX12_post_349 2 rfl ?_
    obtain ⟨w69, Ew69, E⟩ := bd_some E
    have hsw69 : ShM w69.2 := ShM_core ((kpX12_chargeBy _ _ _) _ Ew69) hsH66
    refine ea_iald (pc := 351) dX12_post_351 (cShM_373 hsH66).1 (cShM_373 hsH66).2.1 (ea_vpl (cShM_373 hsH66).2.2 z68) ?_
    refine ea_callV (pc := 352) (d' := d - 1) (As := [vI x7, vI (ea_i H66 373 (Int32.toNatClampNeg x7))]) (st := [vI x7, vR (some 374)]) dX12_post_352 kX12_chargeBy (sX12_chargeBy (d := d - 1) (by omega) hsH66 Ew69) (by omega) rfl (Nat.le_of_ble_eq_true rfl) ew_2048 ew_2050 ew_91 (ci := 12) rfl (by decide) (cShM_326 hsH66).1 (cShM_326 hsH66).2.1 ?_
    exact (kJ355 (x2 : Int32) (x7 : Int32) (w69.1 : Int32) (x7 : Int32) w69.2 _ _ E hsw69)
  · have E := (if_pos c70).symm.trans E
    refine ea_iconst (pc := 338) dX12_post_338 (v := 0) rfl ?_
    refine ea_goto (pc := 339) (tgt := 355) dX12_post_339 rfl ?_
    exact (kJ355 (x2 : Int32) (x7 : Int32) (0 : Int32) (x7 : Int32) H66 _ _ E hsH66)
set_option maxRecDepth 100000 in
set_option maxHeartbeats 0 in
theorem kBX12_post_320 {J355 : Int32 → Int32 → Int32 → Int32 → ea_H → Option (Int32 × ea_H)}  (cJ355 : ∀ (x2 : Int32) (x7 : Int32) (sx0 : Int32) (sx1 : Int32) (h : ea_H), kp (ea_core h) (J355 x2 x7 sx0 sx1 h)) {x2 : Int32} {x7 : Int32} {sx0 : Int32} {sx1 : Int32} {h : ea_H} : kp (ea_core h) (BX12_post_320 J355 x2 x7 sx0 sx1 h) :=
  (kp_gd (kp_gd (kp_let (kp_gd (kp_ite (kp_tw (cJ355 _ _ _ _ _) rfl) (kp_gd (kp_bind (kp_tw (kpX12_chargeBy _ _ _) rfl) fun w69 hcw69 => (kp_tw (cJ355 _ _ _ _ _) hcw69))))))))
set_option maxRecDepth 100000 in
set_option maxHeartbeats 0 in
theorem lBX12_post_320 {J355 : Int32 → Int32 → Int32 → Int32 → ea_H → Option (Int32 × ea_H)} {J355_ : Int32 → Int32 → Int32 → Int32 → ea_H → Option (Int32 × ea_H)}  (mJ355 : ∀ (x2 : Int32) (x7 : Int32) (sx0 : Int32) (sx1 : Int32) (h : ea_H), fle (J355 x2 x7 sx0 sx1 h) (J355_ x2 x7 sx0 sx1 h)) {x2 : Int32} {x7 : Int32} {sx0 : Int32} {sx1 : Int32} {h : ea_H} : fle (BX12_post_320 J355 x2 x7 sx0 sx1 h) (BX12_post_320 J355_ x2 x7 sx0 sx1 h) :=
  (fle_gd (fle_gd (fle_let fun _ => (fle_gd (fle_ite (mJ355 _ _ _ _ _) (fle_gd (fle_bind (fle_rfl _) fun _ => (mJ355 _ _ _ _ _))))))))
set_option maxRecDepth 100000 in
set_option maxHeartbeats 0 in
theorem nBX12_post_320 {J355 : Int32 → Int32 → Int32 → Int32 → ea_H → Option (Int32 × ea_H)} {J355_ : Nat → (Int32 → Int32 → Int32 → Int32 → ea_H → Option (Int32 × ea_H))}  (mJ355 : ∀ (x2 : Int32) (x7 : Int32) (sx0 : Int32) (sx1 : Int32) (h : ea_H), fct (J355 x2 x7 sx0 sx1 h) (fun f => J355_ f x2 x7 sx0 sx1 h)) {x2 : Int32} {x7 : Int32} {sx0 : Int32} {sx1 : Int32} {h : ea_H} : fct (BX12_post_320 J355 x2 x7 sx0 sx1 h) (fun f => BX12_post_320 (J355_ f) x2 x7 sx0 sx1 h) :=
  (fct_gd (fct_gd (fct_let fun _ => (fct_gd (fct_ite (mJ355 _ _ _ _ _) (fct_gd (fct_bind (fct_rfl _) fun _ => (mJ355 _ _ _ _ _))))))))
noncomputable def BX12_post_355 (J390 : Int32 → Int32 → Int32 → Int32 → ea_H → Option (Int32 × ea_H)) (x2 : Int32) (x7 : Int32) (sx0 : Int32) (sx1 : Int32) (h : ea_H) : Option (Int32 × ea_H) :=
  (gd (vp_in sx1 120) (ea_let (ea_wi h 374 (Int32.toNatClampNeg sx1) sx0) fun H72 => (gd (vp_in x7 120) (if (ea_i H72 373 (Int32.toNatClampNeg x7)) = ((-1) : Int32) then (J390 (x2 : Int32) (x7 : Int32) ((-1) : Int32) (x7 : Int32) H72) else (gd (vp_in x7 120) (Option.bind (qX12_lineOf (x7 : Int32) ((ea_i H72 373 (Int32.toNatClampNeg x7)) : Int32) H72) fun w75 => (J390 (x2 : Int32) (x7 : Int32) (w75.1 : Int32) (x7 : Int32) w75.2)))))))
set_option maxRecDepth 100000 in
set_option maxHeartbeats 0 in
theorem tBX12_post_355 {d : Nat} {h0 : ea_H} (hd : 5 ≤ d) {J390 : Int32 → Int32 → Int32 → Int32 → ea_H → Option (Int32 × ea_H)}  (kJ390 : ∀ (x2 : Int32) (x7 : Int32) (sx0 : Int32) (sx1 : Int32) (h : ea_H) (r : Int32) (h' : ea_H), J390 x2 x7 sx0 sx1 h = some (r, h') → ShM h → ea_W mX12_post d h0 (some (vI r)) h' 390 [(0, vR (some 326)), (2, vI x2), (7, vI x7)] [vI sx0, vI sx1, vR (some 375)] h) {x2 : Int32} {x7 : Int32} {sx0 : Int32} {sx1 : Int32} {h : ea_H} {r : Int32} {h' : ea_H} (E : BX12_post_355 J390 x2 x7 sx0 sx1 h = some (r, h')) (hs : ShM h) : ea_W mX12_post d h0 (some (vI r)) h' 355 [(0, vR (some 326)), (2, vI x2), (7, vI x7)] [vI sx0, vI sx1, vR (some 374)] h := by
  unfold BX12_post_355 at E
  obtain ⟨z71, E⟩ := gd_some E
  obtain ⟨H72, eH72, E⟩ := let_some E
  refine ea_iast (pc := 355) dX12_post_355 (cShM_374 hs).1 (cShM_374 hs).2.1 (ea_vpl (cShM_374 hs).2.2 z71) ?_
  refine ea_nm eH72 ?_
  have hsH72 : ShM H72 := by rw [eH72]; exact hs
  obtain ⟨z73, E⟩ := gd_some E
  refine ea_aload_n (pc := 356) dX12_post_356 rfl 0 rfl ?_
  refine ea_getR (pc := 357) dX12_post_357 ec_12 (k := 75) (Nat.le_of_ble_eq_true rfl) rfl (Or.inl ew_1477) (cShM_326 hsH72).1 (cShM_326 hsH72).2.1 (rShM_326_75 hsH72) ?_
  refine ea_iload (pc := 360) dX12_post_360 2 rfl ?_
  refine ea_aload_n (pc := 362) dX12_post_362 rfl 0 rfl ?_
  refine ea_getR (pc := 363) dX12_post_363 ec_12 (k := 73) (Nat.le_of_ble_eq_true rfl) rfl (Or.inl ew_1475) (cShM_326 hsH72).1 (cShM_326 hsH72).2.1 (rShM_326_73 hsH72) ?_
  refine ea_iload (pc := 366) dX12_post_366 2 rfl ?_
  refine ea_iald (pc := 368) dX12_post_368 (cShM_373 hsH72).1 (cShM_373 hsH72).2.1 (ea_vpl (cShM_373 hsH72).2.2 z73) ?_
  refine ea_iconst (pc := 369) dX12_post_369 (v := (-1)) rfl ?_
  refine ea_icmp_ne (pc := 370) (tgt := 377) dX12_post_370 rfl (fun c76 => ?_) (fun c76 => ?_)
  · have E := (if_neg c76).symm.trans E
    obtain ⟨z74, E⟩ := gd_some E
    refine ea_aload_n (pc := 377) dX12_post_377 rfl 0 rfl ?_
    refine ea_iload (pc := 378) dX12_post_378 2 rfl ?_
    refine ea_aload_n (pc := 380) dX12_post_380 rfl 0 rfl ?_
    refine ea_getR (pc := 381) dX12_post_381 ec_12 (k := 73) (Nat.le_of_ble_eq_true rfl) rfl (Or.inl ew_1475) (cShM_326 hsH72).1 (cShM_326 hsH72).2.1 (rShM_326_73 hsH72) ?_
    refine ea_iload (pc := 384) dX12_post_384 2 rfl ?_
    obtain ⟨w75, Ew75, E⟩ := bd_some E
    have hsw75 : ShM w75.2 := ShM_core ((kpX12_lineOf _ _ _) _ Ew75) hsH72
    refine ea_iald (pc := 386) dX12_post_386 (cShM_373 hsH72).1 (cShM_373 hsH72).2.1 (ea_vpl (cShM_373 hsH72).2.2 z74) ?_
    refine ea_callV (pc := 387) (d' := d - 1) (As := [vI x7, vI (ea_i H72 373 (Int32.toNatClampNeg x7))]) (st := [vI x7, vR (some 375)]) dX12_post_387 kX12_lineOf (sX12_lineOf (d := d - 1) (by omega) hsH72 Ew75) (by omega) rfl (Nat.le_of_ble_eq_true rfl) ew_2052 ew_2054 ew_92 (ci := 12) rfl (by decide) (cShM_326 hsH72).1 (cShM_326 hsH72).2.1 ?_
    exact (kJ390 (x2 : Int32) (x7 : Int32) (w75.1 : Int32) (x7 : Int32) w75.2 _ _ E hsw75)
  · have E := (if_pos c76).symm.trans E
    refine ea_iconst (pc := 373) dX12_post_373 (v := (-1)) rfl ?_
    refine ea_goto (pc := 374) (tgt := 390) dX12_post_374 rfl ?_
    exact (kJ390 (x2 : Int32) (x7 : Int32) ((-1) : Int32) (x7 : Int32) H72 _ _ E hsH72)
set_option maxRecDepth 100000 in
set_option maxHeartbeats 0 in
theorem kBX12_post_355 {J390 : Int32 → Int32 → Int32 → Int32 → ea_H → Option (Int32 × ea_H)}  (cJ390 : ∀ (x2 : Int32) (x7 : Int32) (sx0 : Int32) (sx1 : Int32) (h : ea_H), kp (ea_core h) (J390 x2 x7 sx0 sx1 h)) {x2 : Int32} {x7 : Int32} {sx0 : Int32} {sx1 : Int32} {h : ea_H} : kp (ea_core h) (BX12_post_355 J390 x2 x7 sx0 sx1 h) :=
  (kp_gd (kp_let (kp_gd (kp_ite (kp_tw (cJ390 _ _ _ _ _) rfl) (kp_gd (kp_bind (kp_tw (kpX12_lineOf _ _ _) rfl) fun w75 hcw75 => (kp_tw (cJ390 _ _ _ _ _) hcw75)))))))
set_option maxRecDepth 100000 in
set_option maxHeartbeats 0 in
theorem lBX12_post_355 {J390 : Int32 → Int32 → Int32 → Int32 → ea_H → Option (Int32 × ea_H)} {J390_ : Int32 → Int32 → Int32 → Int32 → ea_H → Option (Int32 × ea_H)}  (mJ390 : ∀ (x2 : Int32) (x7 : Int32) (sx0 : Int32) (sx1 : Int32) (h : ea_H), fle (J390 x2 x7 sx0 sx1 h) (J390_ x2 x7 sx0 sx1 h)) {x2 : Int32} {x7 : Int32} {sx0 : Int32} {sx1 : Int32} {h : ea_H} : fle (BX12_post_355 J390 x2 x7 sx0 sx1 h) (BX12_post_355 J390_ x2 x7 sx0 sx1 h) :=
  (fle_gd (fle_let fun _ => (fle_gd (fle_ite (mJ390 _ _ _ _ _) (fle_gd (fle_bind (fle_rfl _) fun _ => (mJ390 _ _ _ _ _)))))))
set_option maxRecDepth 100000 in
set_option maxHeartbeats 0 in
theorem nBX12_post_355 {J390 : Int32 → Int32 → Int32 → Int32 → ea_H → Option (Int32 × ea_H)} {J390_ : Nat → (Int32 → Int32 → Int32 → Int32 → ea_H → Option (Int32 × ea_H))}  (mJ390 : ∀ (x2 : Int32) (x7 : Int32) (sx0 : Int32) (sx1 : Int32) (h : ea_H), fct (J390 x2 x7 sx0 sx1 h) (fun f => J390_ f x2 x7 sx0 sx1 h)) {x2 : Int32} {x7 : Int32} {sx0 : Int32} {sx1 : Int32} {h : ea_H} : fct (BX12_post_355 J390 x2 x7 sx0 sx1 h) (fun f => BX12_post_355 (J390_ f) x2 x7 sx0 sx1 h) :=
  (fct_gd (fct_let fun _ => (fct_gd (fct_ite (mJ390 _ _ _ _ _) (fct_gd (fct_bind (fct_rfl _) fun _ => (mJ390 _ _ _ _ _)))))))
noncomputable def BX12_post_390 (x2 : Int32) (x7 : Int32) (sx0 : Int32) (sx1 : Int32) (h : ea_H) : Option (Int32 × ea_H) :=
  (gd (vp_in sx1 120) (ea_let (ea_wi h 375 (Int32.toNatClampNeg sx1) sx0) fun H78 => (gd (vp_in x7 120) (ea_let (ea_wi H78 383 (Int32.toNatClampNeg x7) (-1)) fun H80 => (Option.bind (qX12_turns (x7 : Int32) ((ea_i H80 326 0) : Int32) (0 : Int32) (x2 : Int32) H80) fun w81 => (some (x7, w81.2)))))))
set_option maxRecDepth 100000 in
set_option maxHeartbeats 0 in
theorem tBX12_post_390 {d : Nat} {h0 : ea_H} (hd : 5 ≤ d)  {x2 : Int32} {x7 : Int32} {sx0 : Int32} {sx1 : Int32} {h : ea_H} {r : Int32} {h' : ea_H} (E : BX12_post_390 x2 x7 sx0 sx1 h = some (r, h')) (hs : ShM h) : ea_W mX12_post d h0 (some (vI r)) h' 390 [(0, vR (some 326)), (2, vI x2), (7, vI x7)] [vI sx0, vI sx1, vR (some 375)] h := by
  unfold BX12_post_390 at E
  obtain ⟨z77, E⟩ := gd_some E
  obtain ⟨H78, eH78, E⟩ := let_some E
  refine ea_iast (pc := 390) dX12_post_390 (cShM_375 hs).1 (cShM_375 hs).2.1 (ea_vpl (cShM_375 hs).2.2 z77) ?_
  refine ea_nm eH78 ?_
  have hsH78 : ShM H78 := by rw [eH78]; exact hs
  obtain ⟨z79, E⟩ := gd_some E
  refine ea_aload_n (pc := 391) dX12_post_391 rfl 0 rfl ?_
  refine ea_getR (pc := 392) dX12_post_392 ec_12 (k := 83) (Nat.le_of_ble_eq_true rfl) rfl (Or.inl ew_1485) (cShM_326 hsH78).1 (cShM_326 hsH78).2.1 (rShM_326_83 hsH78) ?_
  refine ea_iload (pc := 395) dX12_post_395 2 rfl ?_
  refine ea_iconst (pc := 397) dX12_post_397 (v := (-1)) rfl ?_
  obtain ⟨H80, eH80, E⟩ := let_some E
  refine ea_iast (pc := 398) dX12_post_398 (cShM_383 hsH78).1 (cShM_383 hsH78).2.1 (ea_vpl (cShM_383 hsH78).2.2 z79) ?_
  refine ea_nm eH80 ?_
  have hsH80 : ShM H80 := by rw [eH80]; exact hsH78
  obtain ⟨w81, Ew81, E⟩ := bd_some E
  have hsw81 : ShM w81.2 := ShM_core ((kpX12_turns _ _ _ _ _) _ Ew81) hsH80
  refine ea_aload_n (pc := 399) dX12_post_399 rfl 0 rfl ?_
  refine ea_iload (pc := 400) dX12_post_400 2 rfl ?_
  refine ea_aload_n (pc := 402) dX12_post_402 rfl 0 rfl ?_
  refine ea_getI (pc := 403) dX12_post_403 ec_12 (k := 0) (Nat.le_of_ble_eq_true rfl) rfl (Or.inl ew_1402) (cShM_326 hsH80).1 (cShM_326 hsH80).2.1 ?_
  refine ea_iconst (pc := 406) dX12_post_406 (v := 0) rfl ?_
  refine ea_iload_n (pc := 407) dX12_post_407 rfl 1 rfl ?_
  refine ea_callV (pc := 408) (d' := d - 1) (As := [vI x7, vI (ea_i H80 326 0), vI 0, vI x2]) (st := []) dX12_post_408 kX12_turns (sX12_turns (d := d - 1) (by omega) hsH80 Ew81) (by omega) rfl (Nat.le_of_ble_eq_true rfl) ew_2068 ew_2070 ew_95 (ci := 12) rfl (by decide) (cShM_326 hsH80).1 (cShM_326 hsH80).2.1 ?_
  refine ea_iload (pc := 411) dX12_post_411 2 rfl ?_
  exact ea_iretO (pc := 413) dX12_post_413 rfl rfl E
set_option maxRecDepth 100000 in
set_option maxHeartbeats 0 in
theorem kBX12_post_390  {x2 : Int32} {x7 : Int32} {sx0 : Int32} {sx1 : Int32} {h : ea_H} : kp (ea_core h) (BX12_post_390 x2 x7 sx0 sx1 h) :=
  (kp_gd (kp_let (kp_gd (kp_let (kp_bind (kp_tw (kpX12_turns _ _ _ _ _) rfl) fun w81 hcw81 => (kp_ret hcw81))))))
set_option maxRecDepth 100000 in
set_option maxHeartbeats 0 in
theorem lBX12_post_390  {x2 : Int32} {x7 : Int32} {sx0 : Int32} {sx1 : Int32} {h : ea_H} : fle (BX12_post_390 x2 x7 sx0 sx1 h) (BX12_post_390 x2 x7 sx0 sx1 h) :=
  (fle_rfl _)
set_option maxRecDepth 100000 in
set_option maxHeartbeats 0 in
theorem nBX12_post_390  {x2 : Int32} {x7 : Int32} {sx0 : Int32} {sx1 : Int32} {h : ea_H} : fct (BX12_post_390 x2 x7 sx0 sx1 h) (fun f => BX12_post_390 x2 x7 sx0 sx1 h) :=
  (fct_rfl _)
noncomputable def gX12_post : Nat → (Int32 → Int32 → Int32 → Int32 → Int32 → Int32 → ea_H → Option (Int32 × ea_H)) × (Int32 → Int32 → Int32 → Int32 → ea_H → Option (Int32 × ea_H)) × (Int32 → Int32 → Int32 → Int32 → ea_H → Option (Int32 × ea_H)) × (Int32 → Int32 → Int32 → Int32 → ea_H → Option (Int32 × ea_H)) × (Int32 → Int32 → Int32 → Int32 → ea_H → Option (Int32 × ea_H))
  | 0 => (fun _ _ _ _ _ _ _ => none, fun _ _ _ _ _ => none, fun _ _ _ _ _ => none, fun _ _ _ _ _ => none, fun _ _ _ _ _ => none)
  | f + 1 => (BX12_post_0 (gX12_post f).2.1, BX12_post_190 (gX12_post f).2.1 (gX12_post f).2.2.1, BX12_post_320 (gX12_post f).2.2.2.1, BX12_post_355 (gX12_post f).2.2.2.2, BX12_post_390)
theorem mgX12_post : ∀ f : Nat, (∀ (x1 : Int32) (x2 : Int32) (x3 : Int32) (x4 : Int32) (x5 : Int32) (x6 : Int32) (h : ea_H), fle ((gX12_post f).1 x1 x2 x3 x4 x5 x6 h) ((gX12_post (f + 1)).1 x1 x2 x3 x4 x5 x6 h)) ∧ (∀ (x2 : Int32) (x6 : Int32) (x7 : Int32) (x8 : Int32) (h : ea_H), fle ((gX12_post f).2.1 x2 x6 x7 x8 h) ((gX12_post (f + 1)).2.1 x2 x6 x7 x8 h)) ∧ (∀ (x2 : Int32) (x7 : Int32) (sx0 : Int32) (sx1 : Int32) (h : ea_H), fle ((gX12_post f).2.2.1 x2 x7 sx0 sx1 h) ((gX12_post (f + 1)).2.2.1 x2 x7 sx0 sx1 h)) ∧ (∀ (x2 : Int32) (x7 : Int32) (sx0 : Int32) (sx1 : Int32) (h : ea_H), fle ((gX12_post f).2.2.2.1 x2 x7 sx0 sx1 h) ((gX12_post (f + 1)).2.2.2.1 x2 x7 sx0 sx1 h)) ∧ (∀ (x2 : Int32) (x7 : Int32) (sx0 : Int32) (sx1 : Int32) (h : ea_H), fle ((gX12_post f).2.2.2.2 x2 x7 sx0 sx1 h) ((gX12_post (f + 1)).2.2.2.2 x2 x7 sx0 sx1 h)) := by
  intro f
  induction f with
  | zero => exact ⟨fun _ _ _ _ _ _ _ => fle_none _, fun _ _ _ _ _ => fle_none _, fun _ _ _ _ _ => fle_none _, fun _ _ _ _ _ => fle_none _, fun _ _ _ _ _ => fle_none _⟩
  | succ f ih => exact ⟨fun _ _ _ _ _ _ _ => lBX12_post_0 ih.2.1, fun _ _ _ _ _ => lBX12_post_190 ih.2.1 ih.2.2.1, fun _ _ _ _ _ => lBX12_post_320 ih.2.2.2.1, fun _ _ _ _ _ => lBX12_post_355 ih.2.2.2.2, fun _ _ _ _ _ => lBX12_post_390⟩
noncomputable def qX12_post_0 (x1 : Int32) (x2 : Int32) (x3 : Int32) (x4 : Int32) (x5 : Int32) (x6 : Int32) (h : ea_H) : Option (Int32 × ea_H) := flim fun f => (gX12_post f).1 x1 x2 x3 x4 x5 x6 h
noncomputable def qX12_post_190 (x2 : Int32) (x6 : Int32) (x7 : Int32) (x8 : Int32) (h : ea_H) : Option (Int32 × ea_H) := flim fun f => (gX12_post f).2.1 x2 x6 x7 x8 h
noncomputable def qX12_post_320 (x2 : Int32) (x7 : Int32) (sx0 : Int32) (sx1 : Int32) (h : ea_H) : Option (Int32 × ea_H) := flim fun f => (gX12_post f).2.2.1 x2 x7 sx0 sx1 h
noncomputable def qX12_post_355 (x2 : Int32) (x7 : Int32) (sx0 : Int32) (sx1 : Int32) (h : ea_H) : Option (Int32 × ea_H) := flim fun f => (gX12_post f).2.2.2.1 x2 x7 sx0 sx1 h
noncomputable def qX12_post_390 (x2 : Int32) (x7 : Int32) (sx0 : Int32) (sx1 : Int32) (h : ea_H) : Option (Int32 × ea_H) := flim fun f => (gX12_post f).2.2.2.2 x2 x7 sx0 sx1 h
theorem fqX12_post_0 (x1 : Int32) (x2 : Int32) (x3 : Int32) (x4 : Int32) (x5 : Int32) (x6 : Int32) (h : ea_H) : fct (qX12_post_0 x1 x2 x3 x4 x5 x6 h) fun f => (gX12_post f).1 x1 x2 x3 x4 x5 x6 h := flim_ct fun f => (mgX12_post f).1 x1 x2 x3 x4 x5 x6 h
theorem fqX12_post_190 (x2 : Int32) (x6 : Int32) (x7 : Int32) (x8 : Int32) (h : ea_H) : fct (qX12_post_190 x2 x6 x7 x8 h) fun f => (gX12_post f).2.1 x2 x6 x7 x8 h := flim_ct fun f => (mgX12_post f).2.1 x2 x6 x7 x8 h
theorem fqX12_post_320 (x2 : Int32) (x7 : Int32) (sx0 : Int32) (sx1 : Int32) (h : ea_H) : fct (qX12_post_320 x2 x7 sx0 sx1 h) fun f => (gX12_post f).2.2.1 x2 x7 sx0 sx1 h := flim_ct fun f => (mgX12_post f).2.2.1 x2 x7 sx0 sx1 h
theorem fqX12_post_355 (x2 : Int32) (x7 : Int32) (sx0 : Int32) (sx1 : Int32) (h : ea_H) : fct (qX12_post_355 x2 x7 sx0 sx1 h) fun f => (gX12_post f).2.2.2.1 x2 x7 sx0 sx1 h := flim_ct fun f => (mgX12_post f).2.2.2.1 x2 x7 sx0 sx1 h
theorem fqX12_post_390 (x2 : Int32) (x7 : Int32) (sx0 : Int32) (sx1 : Int32) (h : ea_H) : fct (qX12_post_390 x2 x7 sx0 sx1 h) fun f => (gX12_post f).2.2.2.2 x2 x7 sx0 sx1 h := flim_ct fun f => (mgX12_post f).2.2.2.2 x2 x7 sx0 sx1 h
/-- how a block opens -/
theorem uqX12_post_0 {x1 : Int32} {x2 : Int32} {x3 : Int32} {x4 : Int32} {x5 : Int32} {x6 : Int32} {h : ea_H} {P : Int32 × ea_H → Prop} (H : sat (BX12_post_0 qX12_post_190 x1 x2 x3 x4 x5 x6 h) P) : sat (qX12_post_0 x1 x2 x3 x4 x5 x6 h) P := by
  obtain ⟨x, e, hp⟩ := H
  obtain ⟨n, hn⟩ := nBX12_post_0 fqX12_post_190 x e
  exact ⟨x, flim_at (fun f => (mgX12_post f).1 x1 x2 x3 x4 x5 x6 h) (f := n + 1) (hn n (Nat.le_refl _)), hp⟩
/-- how a block opens -/
theorem uqX12_post_190 {x2 : Int32} {x6 : Int32} {x7 : Int32} {x8 : Int32} {h : ea_H} {P : Int32 × ea_H → Prop} (H : sat (BX12_post_190 qX12_post_190 qX12_post_320 x2 x6 x7 x8 h) P) : sat (qX12_post_190 x2 x6 x7 x8 h) P := by
  obtain ⟨x, e, hp⟩ := H
  obtain ⟨n, hn⟩ := nBX12_post_190 fqX12_post_190 fqX12_post_320 x e
  exact ⟨x, flim_at (fun f => (mgX12_post f).2.1 x2 x6 x7 x8 h) (f := n + 1) (hn n (Nat.le_refl _)), hp⟩
/-- how a block opens -/
theorem uqX12_post_320 {x2 : Int32} {x7 : Int32} {sx0 : Int32} {sx1 : Int32} {h : ea_H} {P : Int32 × ea_H → Prop} (H : sat (BX12_post_320 qX12_post_355 x2 x7 sx0 sx1 h) P) : sat (qX12_post_320 x2 x7 sx0 sx1 h) P := by
  obtain ⟨x, e, hp⟩ := H
  obtain ⟨n, hn⟩ := nBX12_post_320 fqX12_post_355 x e
  exact ⟨x, flim_at (fun f => (mgX12_post f).2.2.1 x2 x7 sx0 sx1 h) (f := n + 1) (hn n (Nat.le_refl _)), hp⟩
/-- how a block opens -/
theorem uqX12_post_355 {x2 : Int32} {x7 : Int32} {sx0 : Int32} {sx1 : Int32} {h : ea_H} {P : Int32 × ea_H → Prop} (H : sat (BX12_post_355 qX12_post_390 x2 x7 sx0 sx1 h) P) : sat (qX12_post_355 x2 x7 sx0 sx1 h) P := by
  obtain ⟨x, e, hp⟩ := H
  obtain ⟨n, hn⟩ := nBX12_post_355 fqX12_post_390 x e
  exact ⟨x, flim_at (fun f => (mgX12_post f).2.2.2.1 x2 x7 sx0 sx1 h) (f := n + 1) (hn n (Nat.le_refl _)), hp⟩
/-- how a block opens -/
theorem uqX12_post_390 {x2 : Int32} {x7 : Int32} {sx0 : Int32} {sx1 : Int32} {h : ea_H} {P : Int32 × ea_H → Prop} (H : sat (BX12_post_390 x2 x7 sx0 sx1 h) P) : sat (qX12_post_390 x2 x7 sx0 sx1 h) P := by
  obtain ⟨x, e, hp⟩ := H
  obtain ⟨n, hn⟩ := nBX12_post_390 x e
  exact ⟨x, flim_at (fun f => (mgX12_post f).2.2.2.2 x2 x7 sx0 sx1 h) (f := n + 1) (hn n (Nat.le_refl _)), hp⟩
theorem kgX12_post : ∀ f : Nat, (∀ (x1 : Int32) (x2 : Int32) (x3 : Int32) (x4 : Int32) (x5 : Int32) (x6 : Int32) (h : ea_H), kp (ea_core h) ((gX12_post f).1 x1 x2 x3 x4 x5 x6 h)) ∧ (∀ (x2 : Int32) (x6 : Int32) (x7 : Int32) (x8 : Int32) (h : ea_H), kp (ea_core h) ((gX12_post f).2.1 x2 x6 x7 x8 h)) ∧ (∀ (x2 : Int32) (x7 : Int32) (sx0 : Int32) (sx1 : Int32) (h : ea_H), kp (ea_core h) ((gX12_post f).2.2.1 x2 x7 sx0 sx1 h)) ∧ (∀ (x2 : Int32) (x7 : Int32) (sx0 : Int32) (sx1 : Int32) (h : ea_H), kp (ea_core h) ((gX12_post f).2.2.2.1 x2 x7 sx0 sx1 h)) ∧ (∀ (x2 : Int32) (x7 : Int32) (sx0 : Int32) (sx1 : Int32) (h : ea_H), kp (ea_core h) ((gX12_post f).2.2.2.2 x2 x7 sx0 sx1 h)) := by
  intro f
  induction f with
  | zero => exact ⟨fun _ _ _ _ _ _ _ => kp_none _, fun _ _ _ _ _ => kp_none _, fun _ _ _ _ _ => kp_none _, fun _ _ _ _ _ => kp_none _, fun _ _ _ _ _ => kp_none _⟩
  | succ f ih => exact ⟨fun _ _ _ _ _ _ _ => kBX12_post_0 ih.2.1, fun _ _ _ _ _ => kBX12_post_190 ih.2.1 ih.2.2.1, fun _ _ _ _ _ => kBX12_post_320 ih.2.2.2.1, fun _ _ _ _ _ => kBX12_post_355 ih.2.2.2.2, fun _ _ _ _ _ => kBX12_post_390⟩
theorem tgX12_post {d : Nat} {h0 : ea_H} (hd : 5 ≤ d) : ∀ f : Nat, (∀ (x1 : Int32) (x2 : Int32) (x3 : Int32) (x4 : Int32) (x5 : Int32) (x6 : Int32) (h : ea_H) (r : Int32) (h' : ea_H), (gX12_post f).1 x1 x2 x3 x4 x5 x6 h = some (r, h') → ShM h → ea_W mX12_post d h0 (some (vI r)) h' 0 [(0, vR (some 326)), (1, vI x1), (2, vI x2), (3, vI x3), (4, vI x4), (5, vI x5), (6, vI x6)] [] h) ∧ (∀ (x2 : Int32) (x6 : Int32) (x7 : Int32) (x8 : Int32) (h : ea_H) (r : Int32) (h' : ea_H), (gX12_post f).2.1 x2 x6 x7 x8 h = some (r, h') → ShM h → ea_W mX12_post d h0 (some (vI r)) h' 190 [(0, vR (some 326)), (2, vI x2), (6, vI x6), (7, vI x7), (8, vI x8)] [] h) ∧ (∀ (x2 : Int32) (x7 : Int32) (sx0 : Int32) (sx1 : Int32) (h : ea_H) (r : Int32) (h' : ea_H), (gX12_post f).2.2.1 x2 x7 sx0 sx1 h = some (r, h') → ShM h → ea_W mX12_post d h0 (some (vI r)) h' 320 [(0, vR (some 326)), (2, vI x2), (7, vI x7)] [vI sx0, vI sx1, vR (some 379)] h) ∧ (∀ (x2 : Int32) (x7 : Int32) (sx0 : Int32) (sx1 : Int32) (h : ea_H) (r : Int32) (h' : ea_H), (gX12_post f).2.2.2.1 x2 x7 sx0 sx1 h = some (r, h') → ShM h → ea_W mX12_post d h0 (some (vI r)) h' 355 [(0, vR (some 326)), (2, vI x2), (7, vI x7)] [vI sx0, vI sx1, vR (some 374)] h) ∧ (∀ (x2 : Int32) (x7 : Int32) (sx0 : Int32) (sx1 : Int32) (h : ea_H) (r : Int32) (h' : ea_H), (gX12_post f).2.2.2.2 x2 x7 sx0 sx1 h = some (r, h') → ShM h → ea_W mX12_post d h0 (some (vI r)) h' 390 [(0, vR (some 326)), (2, vI x2), (7, vI x7)] [vI sx0, vI sx1, vR (some 375)] h) := by
  intro f
  induction f with
  | zero => exact ⟨fun _ _ _ _ _ _ _ _ _ E => no_some E, fun _ _ _ _ _ _ _ E => no_some E, fun _ _ _ _ _ _ _ E => no_some E, fun _ _ _ _ _ _ _ E => no_some E, fun _ _ _ _ _ _ _ E => no_some E⟩
  | succ f ih => exact ⟨fun _ _ _ _ _ _ _ _ _ E hs => tBX12_post_0 hd ih.2.1 E hs, fun _ _ _ _ _ _ _ E hs => tBX12_post_190 hd ih.2.1 ih.2.2.1 E hs, fun _ _ _ _ _ _ _ E hs => tBX12_post_320 hd ih.2.2.2.1 E hs, fun _ _ _ _ _ _ _ E hs => tBX12_post_355 hd ih.2.2.2.2 E hs, fun _ _ _ _ _ _ _ E hs => tBX12_post_390 hd E hs⟩
noncomputable def qX12_post (x1 : Int32) (x2 : Int32) (x3 : Int32) (x4 : Int32) (x5 : Int32) (x6 : Int32) (h : ea_H) : Option (Int32 × ea_H) := qX12_post_0 x1 x2 x3 x4 x5 x6 h
theorem sX12_post {d : Nat} {x1 : Int32} {x2 : Int32} {x3 : Int32} {x4 : Int32} {x5 : Int32} {x6 : Int32} {h : ea_H} {r : Int32} {h' : ea_H} (hd : 5 ≤ d) (hs : ShM h) (K : qX12_post x1 x2 x3 x4 x5 x6 h = some (r, h')) : ea_Met mX12_post d [vR (some 326), vI x1, vI x2, vI x3, vI x4, vI x5, vI x6] h (some (vI r)) h' := by
  unfold qX12_post at K
  obtain ⟨n, hn⟩ := fqX12_post_0 x1 x2 x3 x4 x5 x6 h _ K
  have W := (tgX12_post (d := d) (h0 := h) hd n).1 x1 x2 x3 x4 x5 x6 h _ _ (hn n (Nat.le_refl _)) hs
  exact ea_enter rfl (Nat.le_of_ble_eq_true rfl) W
theorem kpX12_post (x1 : Int32) (x2 : Int32) (x3 : Int32) (x4 : Int32) (x5 : Int32) (x6 : Int32) (h : ea_H) : kp (ea_core h) (qX12_post x1 x2 x3 x4 x5 x6 h) := fun x e => by
  obtain ⟨n, hn⟩ := fqX12_post_0 x1 x2 x3 x4 x5 x6 h x e
  exact (kgX12_post n).1 x1 x2 x3 x4 x5 x6 h x (hn n (Nat.le_refl _))
noncomputable def BX12_isOwed_0 (x1 : Int32) (h : ea_H) : Option (Int32 × ea_H) :=
  (gd (vp_in x1 120) (if (ea_i h 364 (Int32.toNatClampNeg x1)) = (0 : Int32) then (some ((1 : Int32), h)) else (gd (vp_in x1 120) (if (ea_i h 364 (Int32.toNatClampNeg x1)) = (3 : Int32) then (some ((1 : Int32), h)) else (some ((0 : Int32), h))))))
theorem tBX12_isOwed_0 {d : Nat} {h0 : ea_H} (hd : 1 ≤ d)  {x1 : Int32} {h : ea_H} {r : Int32} {h' : ea_H} (E : BX12_isOwed_0 x1 h = some (r, h')) (hs : ShM h) : ea_W mX12_isOwed d h0 (some (vI r)) h' 0 [(0, vR (some 326)), (1, vI x1)] [] h := by
  unfold BX12_isOwed_0 at E
  obtain ⟨z1, E⟩ := gd_some E
  refine ea_aload_n (pc := 0) dX12_isOwed_0 rfl 0 rfl ?_
  refine ea_getR (pc := 1) dX12_isOwed_1 ec_12 (k := 64) (Nat.le_of_ble_eq_true rfl) rfl (Or.inl ew_1466) (cShM_326 hs).1 (cShM_326 hs).2.1 (rShM_326_64 hs) ?_
  refine ea_iload_n (pc := 4) dX12_isOwed_4 rfl 1 rfl ?_
  refine ea_iald (pc := 5) dX12_isOwed_5 (cShM_364 hs).1 (cShM_364 hs).2.1 (ea_vpl (cShM_364 hs).2.2 z1) ?_
  refine ea_if_eq (pc := 6) (tgt := 19) dX12_isOwed_6 rfl (fun c4 => ?_) (fun c4 => ?_)
  · have E := (if_pos c4).symm.trans E
    refine ea_iconst (pc := 19) dX12_isOwed_19 (v := 1) rfl ?_
    refine ea_goto (pc := 20) (tgt := 24) dX12_isOwed_20 rfl ?_
    exact ea_iretO (pc := 24) dX12_isOwed_24 rfl (ea_bn (Or.inr rfl)) E
  · have E := (if_neg c4).symm.trans E
    obtain ⟨z2, E⟩ := gd_some E
    refine ea_aload_n (pc := 9) dX12_isOwed_9 rfl 0 rfl ?_
    refine ea_getR (pc := 10) dX12_isOwed_10 ec_12 (k := 64) (Nat.le_of_ble_eq_true rfl) rfl (Or.inl ew_1466) (cShM_326 hs).1 (cShM_326 hs).2.1 (rShM_326_64 hs) ?_
    refine ea_iload_n (pc := 13) dX12_isOwed_13 rfl 1 rfl ?_
    refine ea_iald (pc := 14) dX12_isOwed_14 (cShM_364 hs).1 (cShM_364 hs).2.1 (ea_vpl (cShM_364 hs).2.2 z2) ?_
    refine ea_iconst (pc := 15) dX12_isOwed_15 (v := 3) rfl ?_
    refine ea_icmp_ne (pc := 16) (tgt := 23) dX12_isOwed_16 rfl (fun c3 => ?_) (fun c3 => ?_)
    · have E := (if_neg c3).symm.trans E
      refine ea_iconst (pc := 23) dX12_isOwed_23 (v := 0) rfl ?_
      exact ea_iretO (pc := 24) dX12_isOwed_24 rfl (ea_bn (Or.inl rfl)) E
    · have E := (if_pos c3).symm.trans E
      refine ea_iconst (pc := 19) dX12_isOwed_19 (v := 1) rfl ?_
      refine ea_goto (pc := 20) (tgt := 24) dX12_isOwed_20 rfl ?_
      exact ea_iretO (pc := 24) dX12_isOwed_24 rfl (ea_bn (Or.inr rfl)) E
theorem kBX12_isOwed_0  {x1 : Int32} {h : ea_H} : kp (ea_core h) (BX12_isOwed_0 x1 h) :=
  (kp_gd (kp_ite (kp_ret rfl) (kp_gd (kp_ite (kp_ret rfl) (kp_ret rfl)))))
noncomputable def qX12_isOwed (x1 : Int32) (h : ea_H) : Option (Int32 × ea_H) := BX12_isOwed_0 x1 h
theorem sX12_isOwed {d : Nat} {x1 : Int32} {h : ea_H} {r : Int32} {h' : ea_H} (hd : 1 ≤ d) (hs : ShM h) (K : qX12_isOwed x1 h = some (r, h')) : ea_Met mX12_isOwed d [vR (some 326), vI x1] h (some (vI r)) h' := by
  unfold qX12_isOwed at K
  have W := tBX12_isOwed_0 hd (h0 := h) K hs
  exact ea_enter rfl (Nat.le_of_ble_eq_true rfl) W
theorem kpX12_isOwed (x1 : Int32) (h : ea_H) : kp (ea_core h) (qX12_isOwed x1 h) := kBX12_isOwed_0
noncomputable def BX12_owed_0 (x1 : Int32) (h : ea_H) : Option (Int32 × ea_H) :=
  (Option.bind (qX12_isOwed (x1 : Int32) h) fun w1 => (if w1.1 = (0 : Int32) then (some ((0 : Int32), w1.2)) else (gd (vp_in x1 120) (some ((ea_i w1.2 374 (Int32.toNatClampNeg x1)), w1.2)))))
theorem tBX12_owed_0 {d : Nat} {h0 : ea_H} (hd : 2 ≤ d)  {x1 : Int32} {h : ea_H} {r : Int32} {h' : ea_H} (E : BX12_owed_0 x1 h = some (r, h')) (hs : ShM h) : ea_W mX12_owed d h0 (some (vI r)) h' 0 [(0, vR (some 326)), (1, vI x1)] [] h := by
  unfold BX12_owed_0 at E
  obtain ⟨w1, Ew1, E⟩ := bd_some E
  have hsw1 : ShM w1.2 := ShM_core ((kpX12_isOwed _ _) _ Ew1) hs
  refine ea_aload_n (pc := 0) dX12_owed_0 rfl 0 rfl ?_
  refine ea_iload_n (pc := 1) dX12_owed_1 rfl 1 rfl ?_
  refine ea_callV (pc := 2) (d' := d - 1) (As := [vI x1]) (st := []) dX12_owed_2 kX12_isOwed (sX12_isOwed (d := d - 1) (by omega) hs Ew1) (by omega) rfl (Nat.le_of_ble_eq_true rfl) ew_2088 ew_2090 ew_98 (ci := 12) rfl (by decide) (cShM_326 hs).1 (cShM_326 hs).2.1 ?_
  refine ea_if_eq (pc := 5) (tgt := 17) dX12_owed_5 rfl (fun c3 => ?_) (fun c3 => ?_)
  · have E := (if_pos c3).symm.trans E
    refine ea_iconst (pc := 17) dX12_owed_17 (v := 0) rfl ?_
    exact ea_iretO (pc := 18) dX12_owed_18 rfl rfl E
  · have E := (if_neg c3).symm.trans E
    obtain ⟨z2, E⟩ := gd_some E
    refine ea_aload_n (pc := 8) dX12_owed_8 rfl 0 rfl ?_
    refine ea_getR (pc := 9) dX12_owed_9 ec_12 (k := 74) (Nat.le_of_ble_eq_true rfl) rfl (Or.inl ew_1476) (cShM_326 hsw1).1 (cShM_326 hsw1).2.1 (rShM_326_74 hsw1) ?_
    refine ea_iload_n (pc := 12) dX12_owed_12 rfl 1 rfl ?_
    refine ea_iald (pc := 13) dX12_owed_13 (cShM_374 hsw1).1 (cShM_374 hsw1).2.1 (ea_vpl (cShM_374 hsw1).2.2 z2) ?_
    refine ea_goto (pc := 14) (tgt := 18) dX12_owed_14 rfl ?_
    exact ea_iretO (pc := 18) dX12_owed_18 rfl rfl E
theorem kBX12_owed_0  {x1 : Int32} {h : ea_H} : kp (ea_core h) (BX12_owed_0 x1 h) :=
  (kp_bind (kp_tw (kpX12_isOwed _ _) rfl) fun w1 hcw1 => (kp_ite (kp_ret hcw1) (kp_gd (kp_ret hcw1))))
noncomputable def qX12_owed (x1 : Int32) (h : ea_H) : Option (Int32 × ea_H) := BX12_owed_0 x1 h
theorem sX12_owed {d : Nat} {x1 : Int32} {h : ea_H} {r : Int32} {h' : ea_H} (hd : 2 ≤ d) (hs : ShM h) (K : qX12_owed x1 h = some (r, h')) : ea_Met mX12_owed d [vR (some 326), vI x1] h (some (vI r)) h' := by
  unfold qX12_owed at K
  have W := tBX12_owed_0 hd (h0 := h) K hs
  exact ea_enter rfl (Nat.le_of_ble_eq_true rfl) W
theorem kpX12_owed (x1 : Int32) (h : ea_H) : kp (ea_core h) (qX12_owed x1 h) := kBX12_owed_0
noncomputable def BX12_of_0 (x1 : Int32) (x2 : Int32) (h : ea_H) : Option (Int32 × ea_H) :=
  (Option.bind (qX12_isLetterOf (x1 : Int32) h) fun w1 => (if w1.1 = (0 : Int32) then (some (((-1) : Int32), w1.2)) else (if Int32.toInt x2 = 0 then (gd (vp_in x1 120) (some ((ea_i w1.2 364 (Int32.toNatClampNeg x1)), w1.2))) else (if Int32.toInt x2 = 1 then (gd (vp_in x1 120) (some ((ea_i w1.2 365 (Int32.toNatClampNeg x1)), w1.2))) else (if Int32.toInt x2 = 2 then (gd (vp_in x1 120) (some ((ea_i w1.2 366 (Int32.toNatClampNeg x1)), w1.2))) else (if Int32.toInt x2 = 3 then (gd (vp_in x1 120) (some ((ea_i w1.2 367 (Int32.toNatClampNeg x1)), w1.2))) else (if Int32.toInt x2 = 4 then (gd (vp_in x1 120) (some ((ea_i w1.2 368 (Int32.toNatClampNeg x1)), w1.2))) else (if Int32.toInt x2 = 5 then (gd (vp_in x1 120) (some ((ea_i w1.2 369 (Int32.toNatClampNeg x1)), w1.2))) else (if Int32.toInt x2 = 6 then (gd (vp_in x1 120) (some ((ea_i w1.2 370 (Int32.toNatClampNeg x1)), w1.2))) else (if Int32.toInt x2 = 7 then (gd (vp_in x1 120) (some ((ea_i w1.2 381 (Int32.toNatClampNeg x1)), w1.2))) else (if Int32.toInt x2 = 8 then (gd (vp_in x1 120) (some ((ea_i w1.2 382 (Int32.toNatClampNeg x1)), w1.2))) else (if Int32.toInt x2 = 9 then (gd (vp_in x1 120) (if (ea_i w1.2 378 (Int32.toNatClampNeg x1)) = (0 : Int32) then (some ((0 : Int32), w1.2)) else (some ((1 : Int32), w1.2)))) else (if Int32.toInt x2 = 10 then (gd (vp_in x1 120) (if (ea_i w1.2 381 (Int32.toNatClampNeg x1)) = (1 : Int32) then (gd (vp_in x1 120) (if (ea_i w1.2 387 (Int32.toNatClampNeg x1)) = (0 : Int32) then (some ((0 : Int32), w1.2)) else (some ((1 : Int32), w1.2)))) else (some ((0 : Int32), w1.2)))) else (if Int32.toInt x2 = 11 then (gd (vp_in x1 120) (if (ea_i w1.2 381 (Int32.toNatClampNeg x1)) = (1 : Int32) then (gd (vp_in x1 120) (some ((ea_i w1.2 383 (Int32.toNatClampNeg x1)), w1.2))) else (some (((-1) : Int32), w1.2)))) else (if Int32.toInt x2 = 12 then (gd (vp_in x1 120) (some ((ea_i w1.2 384 (Int32.toNatClampNeg x1)), w1.2))) else (some (((-1) : Int32), w1.2)))))))))))))))))
theorem tBX12_of_0 {d : Nat} {h0 : ea_H} (hd : 3 ≤ d)  {x1 : Int32} {x2 : Int32} {h : ea_H} {r : Int32} {h' : ea_H} (E : BX12_of_0 x1 x2 h = some (r, h')) (hs : ShM h) : ea_W mX12_of d h0 (some (vI r)) h' 0 [(0, vR (some 326)), (1, vI x1), (2, vI x2)] [] h := by
  unfold BX12_of_0 at E
  obtain ⟨w1, Ew1, E⟩ := bd_some E
  have hsw1 : ShM w1.2 := ShM_core ((kpX12_isLetterOf _ _) _ Ew1) hs
  refine ea_aload_n (pc := 0) dX12_of_0 rfl 0 rfl ?_
  refine ea_iload_n (pc := 1) dX12_of_1 rfl 1 rfl ?_
  refine ea_callV (pc := 2) (d' := d - 1) (As := [vI x1]) (st := []) dX12_of_2 kX12_isLetterOf (sX12_isLetterOf (d := d - 1) (by omega) hs Ew1) (by omega) rfl (Nat.le_of_ble_eq_true rfl) ew_2076 ew_2078 ew_96 (ci := 12) rfl (by decide) (cShM_326 hs).1 (cShM_326 hs).2.1 ?_
  refine ea_if_ne (pc := 5) (tgt := 10) dX12_of_5 rfl (fun c21 => ?_) (fun c21 => ?_)
  · have E := (if_neg c21).symm.trans E
    refine ea_iload_n (pc := 10) dX12_of_10 rfl 2 rfl ?_
    by_cases q11_0 : Int32.toInt x2 = 0
    · have E := (if_pos q11_0).symm.trans E
      obtain ⟨z20, E⟩ := gd_some E
      refine ea_tswIn (pc := 11) (tgt := 76) dX12_of_11 (by rw [q11_0]; decide) (by rw [q11_0]; decide) (by rw [q11_0]; rfl) rfl ?_
      refine ea_aload_n (pc := 76) dX12_of_76 rfl 0 rfl ?_
      refine ea_getR (pc := 77) dX12_of_77 ec_12 (k := 64) (Nat.le_of_ble_eq_true rfl) rfl (Or.inl ew_1466) (cShM_326 hsw1).1 (cShM_326 hsw1).2.1 (rShM_326_64 hsw1) ?_
      refine ea_iload_n (pc := 80) dX12_of_80 rfl 1 rfl ?_
      refine ea_iald (pc := 81) dX12_of_81 (cShM_364 hsw1).1 (cShM_364 hsw1).2.1 (ea_vpl (cShM_364 hsw1).2.2 z20) ?_
      exact ea_iretO (pc := 82) dX12_of_82 rfl rfl E
    have E := (if_neg q11_0).symm.trans E
    by_cases q11_1 : Int32.toInt x2 = 1
    · have E := (if_pos q11_1).symm.trans E
      obtain ⟨z19, E⟩ := gd_some E
      refine ea_tswIn (pc := 11) (tgt := 83) dX12_of_11 (by rw [q11_1]; decide) (by rw [q11_1]; decide) (by rw [q11_1]; rfl) rfl ?_
      refine ea_aload_n (pc := 83) dX12_of_83 rfl 0 rfl ?_
      refine ea_getR (pc := 84) dX12_of_84 ec_12 (k := 65) (Nat.le_of_ble_eq_true rfl) rfl (Or.inl ew_1467) (cShM_326 hsw1).1 (cShM_326 hsw1).2.1 (rShM_326_65 hsw1) ?_
      refine ea_iload_n (pc := 87) dX12_of_87 rfl 1 rfl ?_
      refine ea_iald (pc := 88) dX12_of_88 (cShM_365 hsw1).1 (cShM_365 hsw1).2.1 (ea_vpl (cShM_365 hsw1).2.2 z19) ?_
      exact ea_iretO (pc := 89) dX12_of_89 rfl rfl E
    have E := (if_neg q11_1).symm.trans E
    by_cases q11_2 : Int32.toInt x2 = 2
    · have E := (if_pos q11_2).symm.trans E
      obtain ⟨z18, E⟩ := gd_some E
      refine ea_tswIn (pc := 11) (tgt := 90) dX12_of_11 (by rw [q11_2]; decide) (by rw [q11_2]; decide) (by rw [q11_2]; rfl) rfl ?_
      refine ea_aload_n (pc := 90) dX12_of_90 rfl 0 rfl ?_
      refine ea_getR (pc := 91) dX12_of_91 ec_12 (k := 66) (Nat.le_of_ble_eq_true rfl) rfl (Or.inl ew_1468) (cShM_326 hsw1).1 (cShM_326 hsw1).2.1 (rShM_326_66 hsw1) ?_
      refine ea_iload_n (pc := 94) dX12_of_94 rfl 1 rfl ?_
      refine ea_iald (pc := 95) dX12_of_95 (cShM_366 hsw1).1 (cShM_366 hsw1).2.1 (ea_vpl (cShM_366 hsw1).2.2 z18) ?_
      exact ea_iretO (pc := 96) dX12_of_96 rfl rfl E
    have E := (if_neg q11_2).symm.trans E
    by_cases q11_3 : Int32.toInt x2 = 3
    · have E := (if_pos q11_3).symm.trans E
      obtain ⟨z17, E⟩ := gd_some E
      refine ea_tswIn (pc := 11) (tgt := 97) dX12_of_11 (by rw [q11_3]; decide) (by rw [q11_3]; decide) (by rw [q11_3]; rfl) rfl ?_
      refine ea_aload_n (pc := 97) dX12_of_97 rfl 0 rfl ?_
      refine ea_getR (pc := 98) dX12_of_98 ec_12 (k := 67) (Nat.le_of_ble_eq_true rfl) rfl (Or.inl ew_1469) (cShM_326 hsw1).1 (cShM_326 hsw1).2.1 (rShM_326_67 hsw1) ?_
      refine ea_iload_n (pc := 101) dX12_of_101 rfl 1 rfl ?_
      refine ea_iald (pc := 102) dX12_of_102 (cShM_367 hsw1).1 (cShM_367 hsw1).2.1 (ea_vpl (cShM_367 hsw1).2.2 z17) ?_
      exact ea_iretO (pc := 103) dX12_of_103 rfl rfl E
    have E := (if_neg q11_3).symm.trans E
    by_cases q11_4 : Int32.toInt x2 = 4
    · have E := (if_pos q11_4).symm.trans E
      obtain ⟨z16, E⟩ := gd_some E
      refine ea_tswIn (pc := 11) (tgt := 104) dX12_of_11 (by rw [q11_4]; decide) (by rw [q11_4]; decide) (by rw [q11_4]; rfl) rfl ?_
      refine ea_aload_n (pc := 104) dX12_of_104 rfl 0 rfl ?_
      refine ea_getR (pc := 105) dX12_of_105 ec_12 (k := 68) (Nat.le_of_ble_eq_true rfl) rfl (Or.inl ew_1470) (cShM_326 hsw1).1 (cShM_326 hsw1).2.1 (rShM_326_68 hsw1) ?_
      refine ea_iload_n (pc := 108) dX12_of_108 rfl 1 rfl ?_
      refine ea_iald (pc := 109) dX12_of_109 (cShM_368 hsw1).1 (cShM_368 hsw1).2.1 (ea_vpl (cShM_368 hsw1).2.2 z16) ?_
      exact ea_iretO (pc := 110) dX12_of_110 rfl rfl E
    have E := (if_neg q11_4).symm.trans E
    by_cases q11_5 : Int32.toInt x2 = 5
    · have E := (if_pos q11_5).symm.trans E
      obtain ⟨z15, E⟩ := gd_some E
      refine ea_tswIn (pc := 11) (tgt := 111) dX12_of_11 (by rw [q11_5]; decide) (by rw [q11_5]; decide) (by rw [q11_5]; rfl) rfl ?_
      refine ea_aload_n (pc := 111) dX12_of_111 rfl 0 rfl ?_
      refine ea_getR (pc := 112) dX12_of_112 ec_12 (k := 69) (Nat.le_of_ble_eq_true rfl) rfl (Or.inl ew_1471) (cShM_326 hsw1).1 (cShM_326 hsw1).2.1 (rShM_326_69 hsw1) ?_
      refine ea_iload_n (pc := 115) dX12_of_115 rfl 1 rfl ?_
      refine ea_iald (pc := 116) dX12_of_116 (cShM_369 hsw1).1 (cShM_369 hsw1).2.1 (ea_vpl (cShM_369 hsw1).2.2 z15) ?_
      exact ea_iretO (pc := 117) dX12_of_117 rfl rfl E
    have E := (if_neg q11_5).symm.trans E
    by_cases q11_6 : Int32.toInt x2 = 6
    · have E := (if_pos q11_6).symm.trans E
      obtain ⟨z14, E⟩ := gd_some E
      refine ea_tswIn (pc := 11) (tgt := 118) dX12_of_11 (by rw [q11_6]; decide) (by rw [q11_6]; decide) (by rw [q11_6]; rfl) rfl ?_
      refine ea_aload_n (pc := 118) dX12_of_118 rfl 0 rfl ?_
      refine ea_getR (pc := 119) dX12_of_119 ec_12 (k := 70) (Nat.le_of_ble_eq_true rfl) rfl (Or.inl ew_1472) (cShM_326 hsw1).1 (cShM_326 hsw1).2.1 (rShM_326_70 hsw1) ?_
      refine ea_iload_n (pc := 122) dX12_of_122 rfl 1 rfl ?_
      refine ea_iald (pc := 123) dX12_of_123 (cShM_370 hsw1).1 (cShM_370 hsw1).2.1 (ea_vpl (cShM_370 hsw1).2.2 z14) ?_
      exact ea_iretO (pc := 124) dX12_of_124 rfl rfl E
    have E := (if_neg q11_6).symm.trans E
    by_cases q11_7 : Int32.toInt x2 = 7
    · have E := (if_pos q11_7).symm.trans E
      obtain ⟨z13, E⟩ := gd_some E
      refine ea_tswIn (pc := 11) (tgt := 125) dX12_of_11 (by rw [q11_7]; decide) (by rw [q11_7]; decide) (by rw [q11_7]; rfl) rfl ?_
      refine ea_aload_n (pc := 125) dX12_of_125 rfl 0 rfl ?_
      refine ea_getR (pc := 126) dX12_of_126 ec_12 (k := 81) (Nat.le_of_ble_eq_true rfl) rfl (Or.inl ew_1483) (cShM_326 hsw1).1 (cShM_326 hsw1).2.1 (rShM_326_81 hsw1) ?_
      refine ea_iload_n (pc := 129) dX12_of_129 rfl 1 rfl ?_
      refine ea_iald (pc := 130) dX12_of_130 (cShM_381 hsw1).1 (cShM_381 hsw1).2.1 (ea_vpl (cShM_381 hsw1).2.2 z13) ?_
      exact ea_iretO (pc := 131) dX12_of_131 rfl rfl E
    have E := (if_neg q11_7).symm.trans E
    by_cases q11_8 : Int32.toInt x2 = 8
    · have E := (if_pos q11_8).symm.trans E
      obtain ⟨z12, E⟩ := gd_some E
      refine ea_tswIn (pc := 11) (tgt := 132) dX12_of_11 (by rw [q11_8]; decide) (by rw [q11_8]; decide) (by rw [q11_8]; rfl) rfl ?_
      refine ea_aload_n (pc := 132) dX12_of_132 rfl 0 rfl ?_
      refine ea_getR (pc := 133) dX12_of_133 ec_12 (k := 82) (Nat.le_of_ble_eq_true rfl) rfl (Or.inl ew_1484) (cShM_326 hsw1).1 (cShM_326 hsw1).2.1 (rShM_326_82 hsw1) ?_
      refine ea_iload_n (pc := 136) dX12_of_136 rfl 1 rfl ?_
      refine ea_iald (pc := 137) dX12_of_137 (cShM_382 hsw1).1 (cShM_382 hsw1).2.1 (ea_vpl (cShM_382 hsw1).2.2 z12) ?_
      exact ea_iretO (pc := 138) dX12_of_138 rfl rfl E
    have E := (if_neg q11_8).symm.trans E
    by_cases q11_9 : Int32.toInt x2 = 9
    · have E := (if_pos q11_9).symm.trans E
      obtain ⟨z10, E⟩ := gd_some E
      refine ea_tswIn (pc := 11) (tgt := 139) dX12_of_11 (by rw [q11_9]; decide) (by rw [q11_9]; decide) (by rw [q11_9]; rfl) rfl ?_
      refine ea_aload_n (pc := 139) dX12_of_139 rfl 0 rfl ?_
      refine ea_getR (pc := 140) dX12_of_140 ec_12 (k := 78) (Nat.le_of_ble_eq_true rfl) rfl (Or.inl ew_1480) (cShM_326 hsw1).1 (cShM_326 hsw1).2.1 (rShM_326_78 hsw1) ?_
      refine ea_iload_n (pc := 143) dX12_of_143 rfl 1 rfl ?_
      refine ea_zald (pc := 144) dX12_of_144 (cShM_378 hsw1).1 (cShM_378 hsw1).2.1 (ea_vpl (cShM_378 hsw1).2.2 z10) ?_
      refine ea_if_eq (pc := 145) (tgt := 152) dX12_of_145 rfl (fun c11 => ?_) (fun c11 => ?_)
      · have E := (if_pos c11).symm.trans E
        refine ea_iconst (pc := 152) dX12_of_152 (v := 0) rfl ?_
        exact ea_iretO (pc := 153) dX12_of_153 rfl rfl E
      · have E := (if_neg c11).symm.trans E
        refine ea_iconst (pc := 148) dX12_of_148 (v := 1) rfl ?_
        refine ea_goto (pc := 149) (tgt := 153) dX12_of_149 rfl ?_
        exact ea_iretO (pc := 153) dX12_of_153 rfl rfl E
    have E := (if_neg q11_9).symm.trans E
    by_cases q11_10 : Int32.toInt x2 = 10
    · have E := (if_pos q11_10).symm.trans E
      obtain ⟨z6, E⟩ := gd_some E
      refine ea_tswIn (pc := 11) (tgt := 154) dX12_of_11 (by rw [q11_10]; decide) (by rw [q11_10]; decide) (by rw [q11_10]; rfl) rfl ?_
      refine ea_aload_n (pc := 154) dX12_of_154 rfl 0 rfl ?_
      refine ea_getR (pc := 155) dX12_of_155 ec_12 (k := 81) (Nat.le_of_ble_eq_true rfl) rfl (Or.inl ew_1483) (cShM_326 hsw1).1 (cShM_326 hsw1).2.1 (rShM_326_81 hsw1) ?_
      refine ea_iload_n (pc := 158) dX12_of_158 rfl 1 rfl ?_
      refine ea_iald (pc := 159) dX12_of_159 (cShM_381 hsw1).1 (cShM_381 hsw1).2.1 (ea_vpl (cShM_381 hsw1).2.2 z6) ?_
      refine ea_iconst (pc := 160) dX12_of_160 (v := 1) rfl ?_
      refine ea_icmp_ne (pc := 161) (tgt := 177) dX12_of_161 rfl (fun c9 => ?_) (fun c9 => ?_)
      · have E := (if_neg c9).symm.trans E
        refine ea_iconst (pc := 177) dX12_of_177 (v := 0) rfl ?_
        exact ea_iretO (pc := 178) dX12_of_178 rfl rfl E
      · have E := (if_pos c9).symm.trans E
        obtain ⟨z7, E⟩ := gd_some E
        refine ea_aload_n (pc := 164) dX12_of_164 rfl 0 rfl ?_
        refine ea_getR (pc := 165) dX12_of_165 ec_12 (k := 87) (Nat.le_of_ble_eq_true rfl) rfl (Or.inl ew_1489) (cShM_326 hsw1).1 (cShM_326 hsw1).2.1 (rShM_326_87 hsw1) ?_
        refine ea_iload_n (pc := 168) dX12_of_168 rfl 1 rfl ?_
        refine ea_zald (pc := 169) dX12_of_169 (cShM_387 hsw1).1 (cShM_387 hsw1).2.1 (ea_vpl (cShM_387 hsw1).2.2 z7) ?_
        refine ea_if_eq (pc := 170) (tgt := 177) dX12_of_170 rfl (fun c8 => ?_) (fun c8 => ?_)
        · have E := (if_pos c8).symm.trans E
          refine ea_iconst (pc := 177) dX12_of_177 (v := 0) rfl ?_
          exact ea_iretO (pc := 178) dX12_of_178 rfl rfl E
        · have E := (if_neg c8).symm.trans E
          refine ea_iconst (pc := 173) dX12_of_173 (v := 1) rfl ?_
          refine ea_goto (pc := 174) (tgt := 178) dX12_of_174 rfl ?_
          exact ea_iretO (pc := 178) dX12_of_178 rfl rfl E
    have E := (if_neg q11_10).symm.trans E
    by_cases q11_11 : Int32.toInt x2 = 11
    · have E := (if_pos q11_11).symm.trans E
      obtain ⟨z3, E⟩ := gd_some E
      refine ea_tswIn (pc := 11) (tgt := 179) dX12_of_11 (by rw [q11_11]; decide) (by rw [q11_11]; decide) (by rw [q11_11]; rfl) rfl ?_
      refine ea_aload_n (pc := 179) dX12_of_179 rfl 0 rfl ?_
      refine ea_getR (pc := 180) dX12_of_180 ec_12 (k := 81) (Nat.le_of_ble_eq_true rfl) rfl (Or.inl ew_1483) (cShM_326 hsw1).1 (cShM_326 hsw1).2.1 (rShM_326_81 hsw1) ?_
      refine ea_iload_n (pc := 183) dX12_of_183 rfl 1 rfl ?_
      refine ea_iald (pc := 184) dX12_of_184 (cShM_381 hsw1).1 (cShM_381 hsw1).2.1 (ea_vpl (cShM_381 hsw1).2.2 z3) ?_
      refine ea_iconst (pc := 185) dX12_of_185 (v := 1) rfl ?_
      refine ea_icmp_ne (pc := 186) (tgt := 198) dX12_of_186 rfl (fun c5 => ?_) (fun c5 => ?_)
      · have E := (if_neg c5).symm.trans E
        refine ea_iconst (pc := 198) dX12_of_198 (v := (-1)) rfl ?_
        exact ea_iretO (pc := 199) dX12_of_199 rfl rfl E
      · have E := (if_pos c5).symm.trans E
        obtain ⟨z4, E⟩ := gd_some E
        refine ea_aload_n (pc := 189) dX12_of_189 rfl 0 rfl ?_
        refine ea_getR (pc := 190) dX12_of_190 ec_12 (k := 83) (Nat.le_of_ble_eq_true rfl) rfl (Or.inl ew_1485) (cShM_326 hsw1).1 (cShM_326 hsw1).2.1 (rShM_326_83 hsw1) ?_
        refine ea_iload_n (pc := 193) dX12_of_193 rfl 1 rfl ?_
        refine ea_iald (pc := 194) dX12_of_194 (cShM_383 hsw1).1 (cShM_383 hsw1).2.1 (ea_vpl (cShM_383 hsw1).2.2 z4) ?_
        refine ea_goto (pc := 195) (tgt := 199) dX12_of_195 rfl ?_
        exact ea_iretO (pc := 199) dX12_of_199 rfl rfl E
    have E := (if_neg q11_11).symm.trans E
    by_cases q11_12 : Int32.toInt x2 = 12
    · have E := (if_pos q11_12).symm.trans E
      obtain ⟨z2, E⟩ := gd_some E
      refine ea_tswIn (pc := 11) (tgt := 200) dX12_of_11 (by rw [q11_12]; decide) (by rw [q11_12]; decide) (by rw [q11_12]; rfl) rfl ?_
      refine ea_aload_n (pc := 200) dX12_of_200 rfl 0 rfl ?_
      refine ea_getR (pc := 201) dX12_of_201 ec_12 (k := 84) (Nat.le_of_ble_eq_true rfl) rfl (Or.inl ew_1486) (cShM_326 hsw1).1 (cShM_326 hsw1).2.1 (rShM_326_84 hsw1) ?_
      refine ea_iload_n (pc := 204) dX12_of_204 rfl 1 rfl ?_
      refine ea_iald (pc := 205) dX12_of_205 (cShM_384 hsw1).1 (cShM_384 hsw1).2.1 (ea_vpl (cShM_384 hsw1).2.2 z2) ?_
      exact ea_iretO (pc := 206) dX12_of_206 rfl rfl E
    have E := (if_neg q11_12).symm.trans E
    refine ea_tswOut (pc := 11) (tgt := 207) dX12_of_11 (ea_sw_0_12 q11_0 q11_1 q11_2 q11_3 q11_4 q11_5 q11_6 q11_7 q11_8 q11_9 q11_10 q11_11 q11_12) rfl ?_
    refine ea_iconst (pc := 207) dX12_of_207 (v := (-1)) rfl ?_
    exact ea_iretO (pc := 208) dX12_of_208 rfl rfl E
  · have E := (if_pos c21).symm.trans E
    refine ea_iconst (pc := 8) dX12_of_8 (v := (-1)) rfl ?_
    exact ea_iretO (pc := 9) dX12_of_9 rfl rfl E
theorem kBX12_of_0  {x1 : Int32} {x2 : Int32} {h : ea_H} : kp (ea_core h) (BX12_of_0 x1 x2 h) :=
  (kp_bind (kp_tw (kpX12_isLetterOf _ _) rfl) fun w1 hcw1 => (kp_ite (kp_ret hcw1) (kp_ite (kp_gd (kp_ret hcw1)) (kp_ite (kp_gd (kp_ret hcw1)) (kp_ite (kp_gd (kp_ret hcw1)) (kp_ite (kp_gd (kp_ret hcw1)) (kp_ite (kp_gd (kp_ret hcw1)) (kp_ite (kp_gd (kp_ret hcw1)) (kp_ite (kp_gd (kp_ret hcw1)) (kp_ite (kp_gd (kp_ret hcw1)) (kp_ite (kp_gd (kp_ret hcw1)) (kp_ite (kp_gd (kp_ite (kp_ret hcw1) (kp_ret hcw1))) (kp_ite (kp_gd (kp_ite (kp_gd (kp_ite (kp_ret hcw1) (kp_ret hcw1))) (kp_ret hcw1))) (kp_ite (kp_gd (kp_ite (kp_gd (kp_ret hcw1)) (kp_ret hcw1))) (kp_ite (kp_gd (kp_ret hcw1)) (kp_ret hcw1))))))))))))))))
noncomputable def qX12_of (x1 : Int32) (x2 : Int32) (h : ea_H) : Option (Int32 × ea_H) := BX12_of_0 x1 x2 h
theorem sX12_of {d : Nat} {x1 : Int32} {x2 : Int32} {h : ea_H} {r : Int32} {h' : ea_H} (hd : 3 ≤ d) (hs : ShM h) (K : qX12_of x1 x2 h = some (r, h')) : ea_Met mX12_of d [vR (some 326), vI x1, vI x2] h (some (vI r)) h' := by
  unfold qX12_of at K
  have W := tBX12_of_0 hd (h0 := h) K hs
  exact ea_enter rfl (Nat.le_of_ble_eq_true rfl) W
theorem kpX12_of (x1 : Int32) (x2 : Int32) (h : ea_H) : kp (ea_core h) (qX12_of x1 x2 h) := kBX12_of_0
noncomputable def BX12_charge_0 (x1 : Int32) (x2 : Int32) (h : ea_H) : Option (Int32 × ea_H) :=
  (Option.bind (qX12_isLetterOf (x1 : Int32) h) fun w1 => (if w1.1 = (0 : Int32) then (some (((-1) : Int32), w1.2)) else (if Int32.toInt x2 = 0 then (gd (vp_in x1 120) (some ((ea_i w1.2 374 (Int32.toNatClampNeg x1)), w1.2))) else (if Int32.toInt x2 = 1 then (gd (vp_in x1 120) (some ((ea_i w1.2 373 (Int32.toNatClampNeg x1)), w1.2))) else (if Int32.toInt x2 = 2 then (gd (vp_in x1 120) (if (ea_i w1.2 379 (Int32.toNatClampNeg x1)) = (0 : Int32) then (gd (vp_in x1 120) (some ((ea_i w1.2 375 (Int32.toNatClampNeg x1)), w1.2))) else (some (((-1) : Int32), w1.2)))) else (if Int32.toInt x2 = 3 then (Option.bind (qX12_owed (x1 : Int32) w1.2) fun w7 => (some (w7.1, w7.2))) else (if Int32.toInt x2 = 4 then (Option.bind (qX12_isOwed (x1 : Int32) w1.2) fun w4 => (if w4.1 = (0 : Int32) then (gd (vp_in x1 120) (some ((ea_i w4.2 374 (Int32.toNatClampNeg x1)), w4.2))) else (some ((0 : Int32), w4.2)))) else (if Int32.toInt x2 = 5 then (gd (vp_in x1 120) (if (ea_i w1.2 379 (Int32.toNatClampNeg x1)) = (0 : Int32) then (some ((0 : Int32), w1.2)) else (some ((1 : Int32), w1.2)))) else (some (((-1) : Int32), w1.2))))))))))
theorem tBX12_charge_0 {d : Nat} {h0 : ea_H} (hd : 3 ≤ d)  {x1 : Int32} {x2 : Int32} {h : ea_H} {r : Int32} {h' : ea_H} (E : BX12_charge_0 x1 x2 h = some (r, h')) (hs : ShM h) : ea_W mX12_charge d h0 (some (vI r)) h' 0 [(0, vR (some 326)), (1, vI x1), (2, vI x2)] [] h := by
  unfold BX12_charge_0 at E
  obtain ⟨w1, Ew1, E⟩ := bd_some E
  have hsw1 : ShM w1.2 := ShM_core ((kpX12_isLetterOf _ _) _ Ew1) hs
  refine ea_aload_n (pc := 0) dX12_charge_0 rfl 0 rfl ?_
  refine ea_iload_n (pc := 1) dX12_charge_1 rfl 1 rfl ?_
  refine ea_callV (pc := 2) (d' := d - 1) (As := [vI x1]) (st := []) dX12_charge_2 kX12_isLetterOf (sX12_isLetterOf (d := d - 1) (by omega) hs Ew1) (by omega) rfl (Nat.le_of_ble_eq_true rfl) ew_2076 ew_2078 ew_96 (ci := 12) rfl (by decide) (cShM_326 hs).1 (cShM_326 hs).2.1 ?_
  refine ea_if_ne (pc := 5) (tgt := 10) dX12_charge_5 rfl (fun c13 => ?_) (fun c13 => ?_)
  · have E := (if_neg c13).symm.trans E
    refine ea_iload_n (pc := 10) dX12_charge_10 rfl 2 rfl ?_
    by_cases q11_0 : Int32.toInt x2 = 0
    · have E := (if_pos q11_0).symm.trans E
      obtain ⟨z12, E⟩ := gd_some E
      refine ea_tswIn (pc := 11) (tgt := 48) dX12_charge_11 (by rw [q11_0]; decide) (by rw [q11_0]; decide) (by rw [q11_0]; rfl) rfl ?_
      refine ea_aload_n (pc := 48) dX12_charge_48 rfl 0 rfl ?_
      refine ea_getR (pc := 49) dX12_charge_49 ec_12 (k := 74) (Nat.le_of_ble_eq_true rfl) rfl (Or.inl ew_1476) (cShM_326 hsw1).1 (cShM_326 hsw1).2.1 (rShM_326_74 hsw1) ?_
      refine ea_iload_n (pc := 52) dX12_charge_52 rfl 1 rfl ?_
      refine ea_iald (pc := 53) dX12_charge_53 (cShM_374 hsw1).1 (cShM_374 hsw1).2.1 (ea_vpl (cShM_374 hsw1).2.2 z12) ?_
      exact ea_iretO (pc := 54) dX12_charge_54 rfl rfl E
    have E := (if_neg q11_0).symm.trans E
    by_cases q11_1 : Int32.toInt x2 = 1
    · have E := (if_pos q11_1).symm.trans E
      obtain ⟨z11, E⟩ := gd_some E
      refine ea_tswIn (pc := 11) (tgt := 55) dX12_charge_11 (by rw [q11_1]; decide) (by rw [q11_1]; decide) (by rw [q11_1]; rfl) rfl ?_
      refine ea_aload_n (pc := 55) dX12_charge_55 rfl 0 rfl ?_
      refine ea_getR (pc := 56) dX12_charge_56 ec_12 (k := 73) (Nat.le_of_ble_eq_true rfl) rfl (Or.inl ew_1475) (cShM_326 hsw1).1 (cShM_326 hsw1).2.1 (rShM_326_73 hsw1) ?_
      refine ea_iload_n (pc := 59) dX12_charge_59 rfl 1 rfl ?_
      refine ea_iald (pc := 60) dX12_charge_60 (cShM_373 hsw1).1 (cShM_373 hsw1).2.1 (ea_vpl (cShM_373 hsw1).2.2 z11) ?_
      exact ea_iretO (pc := 61) dX12_charge_61 rfl rfl E
    have E := (if_neg q11_1).symm.trans E
    by_cases q11_2 : Int32.toInt x2 = 2
    · have E := (if_pos q11_2).symm.trans E
      obtain ⟨z8, E⟩ := gd_some E
      refine ea_tswIn (pc := 11) (tgt := 62) dX12_charge_11 (by rw [q11_2]; decide) (by rw [q11_2]; decide) (by rw [q11_2]; rfl) rfl ?_
      refine ea_aload_n (pc := 62) dX12_charge_62 rfl 0 rfl ?_
      refine ea_getR (pc := 63) dX12_charge_63 ec_12 (k := 79) (Nat.le_of_ble_eq_true rfl) rfl (Or.inl ew_1481) (cShM_326 hsw1).1 (cShM_326 hsw1).2.1 (rShM_326_79 hsw1) ?_
      refine ea_iload_n (pc := 66) dX12_charge_66 rfl 1 rfl ?_
      refine ea_zald (pc := 67) dX12_charge_67 (cShM_379 hsw1).1 (cShM_379 hsw1).2.1 (ea_vpl (cShM_379 hsw1).2.2 z8) ?_
      refine ea_if_eq (pc := 68) (tgt := 75) dX12_charge_68 rfl (fun c10 => ?_) (fun c10 => ?_)
      · have E := (if_pos c10).symm.trans E
        obtain ⟨z9, E⟩ := gd_some E
        refine ea_aload_n (pc := 75) dX12_charge_75 rfl 0 rfl ?_
        refine ea_getR (pc := 76) dX12_charge_76 ec_12 (k := 75) (Nat.le_of_ble_eq_true rfl) rfl (Or.inl ew_1477) (cShM_326 hsw1).1 (cShM_326 hsw1).2.1 (rShM_326_75 hsw1) ?_
        refine ea_iload_n (pc := 79) dX12_charge_79 rfl 1 rfl ?_
        refine ea_iald (pc := 80) dX12_charge_80 (cShM_375 hsw1).1 (cShM_375 hsw1).2.1 (ea_vpl (cShM_375 hsw1).2.2 z9) ?_
        exact ea_iretO (pc := 81) dX12_charge_81 rfl rfl E
      · have E := (if_neg c10).symm.trans E
        refine ea_iconst (pc := 71) dX12_charge_71 (v := (-1)) rfl ?_
        refine ea_goto (pc := 72) (tgt := 81) dX12_charge_72 rfl ?_
        exact ea_iretO (pc := 81) dX12_charge_81 rfl rfl E
    have E := (if_neg q11_2).symm.trans E
    by_cases q11_3 : Int32.toInt x2 = 3
    · have E := (if_pos q11_3).symm.trans E
      obtain ⟨w7, Ew7, E⟩ := bd_some E
      have hsw7 : ShM w7.2 := ShM_core ((kpX12_owed _ _) _ Ew7) hsw1
      refine ea_tswIn (pc := 11) (tgt := 82) dX12_charge_11 (by rw [q11_3]; decide) (by rw [q11_3]; decide) (by rw [q11_3]; rfl) rfl ?_
      refine ea_aload_n (pc := 82) dX12_charge_82 rfl 0 rfl ?_
      refine ea_iload_n (pc := 83) dX12_charge_83 rfl 1 rfl ?_
      refine ea_callV (pc := 84) (d' := d - 1) (As := [vI x1]) (st := []) dX12_charge_84 kX12_owed (sX12_owed (d := d - 1) (by omega) hsw1 Ew7) (by omega) rfl (Nat.le_of_ble_eq_true rfl) ew_2084 ew_2086 ew_97 (ci := 12) rfl (by decide) (cShM_326 hsw1).1 (cShM_326 hsw1).2.1 ?_
      exact ea_iretO (pc := 87) dX12_charge_87 rfl rfl E
    have E := (if_neg q11_3).symm.trans E
    by_cases q11_4 : Int32.toInt x2 = 4
    · have E := (if_pos q11_4).symm.trans E
      obtain ⟨w4, Ew4, E⟩ := bd_some E
      have hsw4 : ShM w4.2 := ShM_core ((kpX12_isOwed _ _) _ Ew4) hsw1
      refine ea_tswIn (pc := 11) (tgt := 88) dX12_charge_11 (by rw [q11_4]; decide) (by rw [q11_4]; decide) (by rw [q11_4]; rfl) rfl ?_
      refine ea_aload_n (pc := 88) dX12_charge_88 rfl 0 rfl ?_
      refine ea_iload_n (pc := 89) dX12_charge_89 rfl 1 rfl ?_
      refine ea_callV (pc := 90) (d' := d - 1) (As := [vI x1]) (st := []) dX12_charge_90 kX12_isOwed (sX12_isOwed (d := d - 1) (by omega) hsw1 Ew4) (by omega) rfl (Nat.le_of_ble_eq_true rfl) ew_2088 ew_2090 ew_98 (ci := 12) rfl (by decide) (cShM_326 hsw1).1 (cShM_326 hsw1).2.1 ?_
      refine ea_if_eq (pc := 93) (tgt := 100) dX12_charge_93 rfl (fun c6 => ?_) (fun c6 => ?_)
      · have E := (if_pos c6).symm.trans E
        obtain ⟨z5, E⟩ := gd_some E
        refine ea_aload_n (pc := 100) dX12_charge_100 rfl 0 rfl ?_
        refine ea_getR (pc := 101) dX12_charge_101 ec_12 (k := 74) (Nat.le_of_ble_eq_true rfl) rfl (Or.inl ew_1476) (cShM_326 hsw4).1 (cShM_326 hsw4).2.1 (rShM_326_74 hsw4) ?_
        refine ea_iload_n (pc := 104) dX12_charge_104 rfl 1 rfl ?_
        refine ea_iald (pc := 105) dX12_charge_105 (cShM_374 hsw4).1 (cShM_374 hsw4).2.1 (ea_vpl (cShM_374 hsw4).2.2 z5) ?_
        exact ea_iretO (pc := 106) dX12_charge_106 rfl rfl E
      · have E := (if_neg c6).symm.trans E
        refine ea_iconst (pc := 96) dX12_charge_96 (v := 0) rfl ?_
        refine ea_goto (pc := 97) (tgt := 106) dX12_charge_97 rfl ?_
        exact ea_iretO (pc := 106) dX12_charge_106 rfl rfl E
    have E := (if_neg q11_4).symm.trans E
    by_cases q11_5 : Int32.toInt x2 = 5
    · have E := (if_pos q11_5).symm.trans E
      obtain ⟨z2, E⟩ := gd_some E
      refine ea_tswIn (pc := 11) (tgt := 107) dX12_charge_11 (by rw [q11_5]; decide) (by rw [q11_5]; decide) (by rw [q11_5]; rfl) rfl ?_
      refine ea_aload_n (pc := 107) dX12_charge_107 rfl 0 rfl ?_
      refine ea_getR (pc := 108) dX12_charge_108 ec_12 (k := 79) (Nat.le_of_ble_eq_true rfl) rfl (Or.inl ew_1481) (cShM_326 hsw1).1 (cShM_326 hsw1).2.1 (rShM_326_79 hsw1) ?_
      refine ea_iload_n (pc := 111) dX12_charge_111 rfl 1 rfl ?_
      refine ea_zald (pc := 112) dX12_charge_112 (cShM_379 hsw1).1 (cShM_379 hsw1).2.1 (ea_vpl (cShM_379 hsw1).2.2 z2) ?_
      refine ea_if_eq (pc := 113) (tgt := 120) dX12_charge_113 rfl (fun c3 => ?_) (fun c3 => ?_)
      · have E := (if_pos c3).symm.trans E
        refine ea_iconst (pc := 120) dX12_charge_120 (v := 0) rfl ?_
        exact ea_iretO (pc := 121) dX12_charge_121 rfl rfl E
      · have E := (if_neg c3).symm.trans E
        refine ea_iconst (pc := 116) dX12_charge_116 (v := 1) rfl ?_
        refine ea_goto (pc := 117) (tgt := 121) dX12_charge_117 rfl ?_
        exact ea_iretO (pc := 121) dX12_charge_121 rfl rfl E
    have E := (if_neg q11_5).symm.trans E
    refine ea_tswOut (pc := 11) (tgt := 122) dX12_charge_11 (ea_sw_0_5 q11_0 q11_1 q11_2 q11_3 q11_4 q11_5) rfl ?_
    refine ea_iconst (pc := 122) dX12_charge_122 (v := (-1)) rfl ?_
    exact ea_iretO (pc := 123) dX12_charge_123 rfl rfl E
  · have E := (if_pos c13).symm.trans E
    refine ea_iconst (pc := 8) dX12_charge_8 (v := (-1)) rfl ?_
    exact ea_iretO (pc := 9) dX12_charge_9 rfl rfl E
theorem kBX12_charge_0  {x1 : Int32} {x2 : Int32} {h : ea_H} : kp (ea_core h) (BX12_charge_0 x1 x2 h) :=
  (kp_bind (kp_tw (kpX12_isLetterOf _ _) rfl) fun w1 hcw1 => (kp_ite (kp_ret hcw1) (kp_ite (kp_gd (kp_ret hcw1)) (kp_ite (kp_gd (kp_ret hcw1)) (kp_ite (kp_gd (kp_ite (kp_gd (kp_ret hcw1)) (kp_ret hcw1))) (kp_ite (kp_bind (kp_tw (kpX12_owed _ _) hcw1) fun w7 hcw7 => (kp_ret hcw7)) (kp_ite (kp_bind (kp_tw (kpX12_isOwed _ _) hcw1) fun w4 hcw4 => (kp_ite (kp_gd (kp_ret hcw4)) (kp_ret hcw4))) (kp_ite (kp_gd (kp_ite (kp_ret hcw1) (kp_ret hcw1))) (kp_ret hcw1)))))))))
noncomputable def qX12_charge (x1 : Int32) (x2 : Int32) (h : ea_H) : Option (Int32 × ea_H) := BX12_charge_0 x1 x2 h
theorem sX12_charge {d : Nat} {x1 : Int32} {x2 : Int32} {h : ea_H} {r : Int32} {h' : ea_H} (hd : 3 ≤ d) (hs : ShM h) (K : qX12_charge x1 x2 h = some (r, h')) : ea_Met mX12_charge d [vR (some 326), vI x1, vI x2] h (some (vI r)) h' := by
  unfold qX12_charge at K
  have W := tBX12_charge_0 hd (h0 := h) K hs
  exact ea_enter rfl (Nat.le_of_ble_eq_true rfl) W
theorem kpX12_charge (x1 : Int32) (x2 : Int32) (h : ea_H) : kp (ea_core h) (qX12_charge x1 x2 h) := kBX12_charge_0
noncomputable def BX12_lead_0 (x1 : Int32) (x2 : Int32) (x3 : Int32) (h : ea_H) : Option (Int32 × ea_H) :=
  (Option.bind (qX12_isLetterOf (x1 : Int32) h) fun w1 => (if w1.1 = (0 : Int32) then (some (((-1) : Int32), w1.2)) else (gd (vp_in x1 120) (Option.bind (qX12_isIn (x2 : Int32) (0 : Int32) (((ea_i w1.2 376 (Int32.toNatClampNeg x1)) - (1 : Int32)) : Int32) w1.2) fun w3 => (if w3.1 = (0 : Int32) then (some (((-1) : Int32), w3.2)) else (ea_let (((1000 : Int32) * x1) + x2) fun (v4 : Int32) => (if x3 = (0 : Int32) then (gd (vp_in v4 120000) (some ((ea_i w3.2 388 (Int32.toNatClampNeg v4)), w3.2))) else (if x3 = (1 : Int32) then (gd (vp_in v4 120000) (some ((ea_i w3.2 389 (Int32.toNatClampNeg v4)), w3.2))) else (if x3 = (2 : Int32) then (gd (vp_in v4 120000) (some ((ea_i w3.2 390 (Int32.toNatClampNeg v4)), w3.2))) else (some (((-1) : Int32), w3.2)))))))))))
theorem tBX12_lead_0 {d : Nat} {h0 : ea_H} (hd : 3 ≤ d)  {x1 : Int32} {x2 : Int32} {x3 : Int32} {h : ea_H} {r : Int32} {h' : ea_H} (E : BX12_lead_0 x1 x2 x3 h = some (r, h')) (hs : ShM h) : ea_W mX12_lead d h0 (some (vI r)) h' 0 [(0, vR (some 326)), (1, vI x1), (2, vI x2), (3, vI x3)] [] h := by
  unfold BX12_lead_0 at E
  obtain ⟨w1, Ew1, E⟩ := bd_some E
  have hsw1 : ShM w1.2 := ShM_core ((kpX12_isLetterOf _ _) _ Ew1) hs
  refine ea_aload_n (pc := 0) dX12_lead_0 rfl 0 rfl ?_
  refine ea_iload_n (pc := 1) dX12_lead_1 rfl 1 rfl ?_
  refine ea_callV (pc := 2) (d' := d - 1) (As := [vI x1]) (st := []) dX12_lead_2 kX12_isLetterOf (sX12_isLetterOf (d := d - 1) (by omega) hs Ew1) (by omega) rfl (Nat.le_of_ble_eq_true rfl) ew_2076 ew_2078 ew_96 (ci := 12) rfl (by decide) (cShM_326 hs).1 (cShM_326 hs).2.1 ?_
  refine ea_if_eq (pc := 5) (tgt := 24) dX12_lead_5 rfl (fun c12 => ?_) (fun c12 => ?_)
  · have E := (if_pos c12).symm.trans E
    refine ea_iconst (pc := 24) dX12_lead_24 (v := (-1)) rfl ?_
    exact ea_iretO (pc := 25) dX12_lead_25 rfl rfl E
  · have E := (if_neg c12).symm.trans E
    obtain ⟨z2, E⟩ := gd_some E
    refine ea_iload_n (pc := 8) dX12_lead_8 rfl 2 rfl ?_
    refine ea_iconst (pc := 9) dX12_lead_9 (v := 0) rfl ?_
    refine ea_aload_n (pc := 10) dX12_lead_10 rfl 0 rfl ?_
    refine ea_getR (pc := 11) dX12_lead_11 ec_12 (k := 76) (Nat.le_of_ble_eq_true rfl) rfl (Or.inl ew_1478) (cShM_326 hsw1).1 (cShM_326 hsw1).2.1 (rShM_326_76 hsw1) ?_
    refine ea_iload_n (pc := 14) dX12_lead_14 rfl 1 rfl ?_
    obtain ⟨w3, Ew3, E⟩ := bd_some E
    have hsw3 : ShM w3.2 := ShM_core ((kpX12_isIn _ _ _ _) _ Ew3) hsw1
    refine ea_iald (pc := 15) dX12_lead_15 (cShM_376 hsw1).1 (cShM_376 hsw1).2.1 (ea_vpl (cShM_376 hsw1).2.2 z2) ?_
    refine ea_iconst (pc := 16) dX12_lead_16 (v := 1) rfl ?_
    refine ea_isub (pc := 17) dX12_lead_17 ?_
    refine ea_callS (pc := 18) (d' := d - 1) (As := [vI x2, vI 0, vI ((ea_i w1.2 376 (Int32.toNatClampNeg x1)) - (1 : Int32))]) (st := []) dX12_lead_18 kX12_isIn (sX12_isIn (d := d - 1) (by omega) Ew3) (by omega) rfl (Nat.le_of_ble_eq_true rfl) ew_1769 ew_1770 ?_
    refine ea_if_ne (pc := 21) (tgt := 26) dX12_lead_21 rfl (fun c11 => ?_) (fun c11 => ?_)
    · have E := (if_neg c11).symm.trans E
      obtain ⟨v4, ev4, E⟩ := let_some E
      refine ea_sipush (pc := 26) dX12_lead_26 (v := 1000) rfl ?_
      refine ea_iload_n (pc := 29) dX12_lead_29 rfl 1 rfl ?_
      refine ea_imul (pc := 30) dX12_lead_30 ?_
      refine ea_iload_n (pc := 31) dX12_lead_31 rfl 2 rfl ?_
      refine ea_iadd (pc := 32) dX12_lead_32 ?_
      refine ea_istore (pc := 33) (lv' := [(0, vR (some 326)), (3, vI x3), (4, vI v4)]) dX12_lead_33 (Nat.le_of_ble_eq_true rfl) [1, 4, 0] (by rw [ev4]; rfl) ?_
      refine ea_iload_n (pc := 35) dX12_lead_35 rfl 1 rfl ?_
      refine ea_if_ne (pc := 36) (tgt := 49) dX12_lead_36 rfl (fun c10 => ?_) (fun c10 => ?_)
      · have E := (if_neg c10).symm.trans E
        refine ea_iload_n (pc := 49) dX12_lead_49 rfl 1 rfl ?_
        refine ea_iconst (pc := 50) dX12_lead_50 (v := 1) rfl ?_
        refine ea_icmp_ne (pc := 51) (tgt := 64) dX12_lead_51 rfl (fun c8 => ?_) (fun c8 => ?_)
        · have E := (if_neg c8).symm.trans E
          refine ea_iload_n (pc := 64) dX12_lead_64 rfl 1 rfl ?_
          refine ea_iconst (pc := 65) dX12_lead_65 (v := 2) rfl ?_
          refine ea_icmp_ne (pc := 66) (tgt := 79) dX12_lead_66 rfl (fun c6 => ?_) (fun c6 => ?_)
          · have E := (if_neg c6).symm.trans E
            refine ea_iconst (pc := 79) dX12_lead_79 (v := (-1)) rfl ?_
            exact ea_iretO (pc := 80) dX12_lead_80 rfl rfl E
          · have E := (if_pos c6).symm.trans E
            obtain ⟨z5, E⟩ := gd_some E
            refine ea_aload_n (pc := 69) dX12_lead_69 rfl 0 rfl ?_
            refine ea_getR (pc := 70) dX12_lead_70 ec_12 (k := 90) (Nat.le_of_ble_eq_true rfl) rfl (Or.inl ew_1492) (cShM_326 hsw3).1 (cShM_326 hsw3).2.1 (rShM_326_90 hsw3) ?_
            refine ea_iload (pc := 73) dX12_lead_73 2 rfl ?_
            refine ea_iald (pc := 75) dX12_lead_75 (cShM_390 hsw3).1 (cShM_390 hsw3).2.1 (ea_vpl (cShM_390 hsw3).2.2 z5) ?_
            refine ea_goto (pc := 76) (tgt := 80) dX12_lead_76 rfl ?_
            exact ea_iretO (pc := 80) dX12_lead_80 rfl rfl E
        · have E := (if_pos c8).symm.trans E
          obtain ⟨z7, E⟩ := gd_some E
          refine ea_aload_n (pc := 54) dX12_lead_54 rfl 0 rfl ?_
          refine ea_getR (pc := 55) dX12_lead_55 ec_12 (k := 89) (Nat.le_of_ble_eq_true rfl) rfl (Or.inl ew_1491) (cShM_326 hsw3).1 (cShM_326 hsw3).2.1 (rShM_326_89 hsw3) ?_
          refine ea_iload (pc := 58) dX12_lead_58 2 rfl ?_
          refine ea_iald (pc := 60) dX12_lead_60 (cShM_389 hsw3).1 (cShM_389 hsw3).2.1 (ea_vpl (cShM_389 hsw3).2.2 z7) ?_
          refine ea_goto (pc := 61) (tgt := 80) dX12_lead_61 rfl ?_
          exact ea_iretO (pc := 80) dX12_lead_80 rfl rfl E
      · have E := (if_pos c10).symm.trans E
        obtain ⟨z9, E⟩ := gd_some E
        refine ea_aload_n (pc := 39) dX12_lead_39 rfl 0 rfl ?_
        refine ea_getR (pc := 40) dX12_lead_40 ec_12 (k := 88) (Nat.le_of_ble_eq_true rfl) rfl (Or.inl ew_1490) (cShM_326 hsw3).1 (cShM_326 hsw3).2.1 (rShM_326_88 hsw3) ?_
        refine ea_iload (pc := 43) dX12_lead_43 2 rfl ?_
        refine ea_iald (pc := 45) dX12_lead_45 (cShM_388 hsw3).1 (cShM_388 hsw3).2.1 (ea_vpl (cShM_388 hsw3).2.2 z9) ?_
        refine ea_goto (pc := 46) (tgt := 80) dX12_lead_46 rfl ?_
        exact ea_iretO (pc := 80) dX12_lead_80 rfl rfl E
    · have E := (if_pos c11).symm.trans E
      refine ea_iconst (pc := 24) dX12_lead_24 (v := (-1)) rfl ?_
      exact ea_iretO (pc := 25) dX12_lead_25 rfl rfl E
theorem kBX12_lead_0  {x1 : Int32} {x2 : Int32} {x3 : Int32} {h : ea_H} : kp (ea_core h) (BX12_lead_0 x1 x2 x3 h) :=
  (kp_bind (kp_tw (kpX12_isLetterOf _ _) rfl) fun w1 hcw1 => (kp_ite (kp_ret hcw1) (kp_gd (kp_bind (kp_tw (kpX12_isIn _ _ _ _) hcw1) fun w3 hcw3 => (kp_ite (kp_ret hcw3) (kp_let (kp_ite (kp_gd (kp_ret hcw3)) (kp_ite (kp_gd (kp_ret hcw3)) (kp_ite (kp_gd (kp_ret hcw3)) (kp_ret hcw3))))))))))
noncomputable def qX12_lead (x1 : Int32) (x2 : Int32) (x3 : Int32) (h : ea_H) : Option (Int32 × ea_H) := BX12_lead_0 x1 x2 x3 h
theorem sX12_lead {d : Nat} {x1 : Int32} {x2 : Int32} {x3 : Int32} {h : ea_H} {r : Int32} {h' : ea_H} (hd : 3 ≤ d) (hs : ShM h) (K : qX12_lead x1 x2 x3 h = some (r, h')) : ea_Met mX12_lead d [vR (some 326), vI x1, vI x2, vI x3] h (some (vI r)) h' := by
  unfold qX12_lead at K
  have W := tBX12_lead_0 hd (h0 := h) K hs
  exact ea_enter rfl (Nat.le_of_ble_eq_true rfl) W
theorem kpX12_lead (x1 : Int32) (x2 : Int32) (x3 : Int32) (h : ea_H) : kp (ea_core h) (qX12_lead x1 x2 x3 h) := kBX12_lead_0
noncomputable def BX12_where_0 (J46 : Int32 → Int32 → Int32 → Int32 → ea_H → Option (Int32 × ea_H)) (x1 : Int32) (x2 : Int32) (x3 : Int32) (h : ea_H) : Option (Int32 × ea_H) :=
  (Option.bind (qX12_isLetterOf (x1 : Int32) h) fun w1 => (if w1.1 = (0 : Int32) then (some (((-1) : Int32), w1.2)) else (gd (vp_in x1 120) (Option.bind (qX12_isIn (x2 : Int32) ((ea_i w1.2 370 (Int32.toNatClampNeg x1)) : Int32) ((ea_i w1.2 326 0) : Int32) w1.2) fun w3 => (if w3.1 = (0 : Int32) then (some (((-1) : Int32), w3.2)) else (Option.bind (qX12_isIn (x3 : Int32) (0 : Int32) (1 : Int32) w3.2) fun w4 => (if w4.1 = (0 : Int32) then (some (((-1) : Int32), w4.2)) else (gd (vp_in x1 120) (ea_let ((ea_i w4.2 376 (Int32.toNatClampNeg x1)) - (1 : Int32)) fun (v6 : Int32) => (J46 (x1 : Int32) (x2 : Int32) (x3 : Int32) (v6 : Int32) w4.2))))))))))
theorem tBX12_where_0 {d : Nat} {h0 : ea_H} (hd : 3 ≤ d) {J46 : Int32 → Int32 → Int32 → Int32 → ea_H → Option (Int32 × ea_H)}  (kJ46 : ∀ (x1 : Int32) (x2 : Int32) (x3 : Int32) (x4 : Int32) (h : ea_H) (r : Int32) (h' : ea_H), J46 x1 x2 x3 x4 h = some (r, h') → ShM h → ea_W mX12_where d h0 (some (vI r)) h' 46 [(0, vR (some 326)), (1, vI x1), (2, vI x2), (3, vI x3), (4, vI x4)] [] h) {x1 : Int32} {x2 : Int32} {x3 : Int32} {h : ea_H} {r : Int32} {h' : ea_H} (E : BX12_where_0 J46 x1 x2 x3 h = some (r, h')) (hs : ShM h) : ea_W mX12_where d h0 (some (vI r)) h' 0 [(0, vR (some 326)), (1, vI x1), (2, vI x2), (3, vI x3)] [] h := by
  unfold BX12_where_0 at E
  obtain ⟨w1, Ew1, E⟩ := bd_some E
  have hsw1 : ShM w1.2 := ShM_core ((kpX12_isLetterOf _ _) _ Ew1) hs
  refine ea_aload_n (pc := 0) dX12_where_0 rfl 0 rfl ?_
  refine ea_iload_n (pc := 1) dX12_where_1 rfl 1 rfl ?_
  refine ea_callV (pc := 2) (d' := d - 1) (As := [vI x1]) (st := []) dX12_where_2 kX12_isLetterOf (sX12_isLetterOf (d := d - 1) (by omega) hs Ew1) (by omega) rfl (Nat.le_of_ble_eq_true rfl) ew_2076 ew_2078 ew_96 (ci := 12) rfl (by decide) (cShM_326 hs).1 (cShM_326 hs).2.1 ?_
  refine ea_if_eq (pc := 5) (tgt := 34) dX12_where_5 rfl (fun c9 => ?_) (fun c9 => ?_)
  · have E := (if_pos c9).symm.trans E
    refine ea_iconst (pc := 34) dX12_where_34 (v := (-1)) rfl ?_
    exact ea_iretO (pc := 35) dX12_where_35 rfl rfl E
  · have E := (if_neg c9).symm.trans E
    obtain ⟨z2, E⟩ := gd_some E
    refine ea_iload_n (pc := 8) dX12_where_8 rfl 2 rfl ?_
    refine ea_aload_n (pc := 9) dX12_where_9 rfl 0 rfl ?_
    refine ea_getR (pc := 10) dX12_where_10 ec_12 (k := 70) (Nat.le_of_ble_eq_true rfl) rfl (Or.inl ew_1472) (cShM_326 hsw1).1 (cShM_326 hsw1).2.1 (rShM_326_70 hsw1) ?_
    refine ea_iload_n (pc := 13) dX12_where_13 rfl 1 rfl ?_
    obtain ⟨w3, Ew3, E⟩ := bd_some E
    have hsw3 : ShM w3.2 := ShM_core ((kpX12_isIn _ _ _ _) _ Ew3) hsw1
    refine ea_iald (pc := 14) dX12_where_14 (cShM_370 hsw1).1 (cShM_370 hsw1).2.1 (ea_vpl (cShM_370 hsw1).2.2 z2) ?_
    refine ea_aload_n (pc := 15) dX12_where_15 rfl 0 rfl ?_
    refine ea_getI (pc := 16) dX12_where_16 ec_12 (k := 0) (Nat.le_of_ble_eq_true rfl) rfl (Or.inl ew_1402) (cShM_326 hsw1).1 (cShM_326 hsw1).2.1 ?_
    refine ea_callS (pc := 19) (d' := d - 1) (As := [vI x2, vI (ea_i w1.2 370 (Int32.toNatClampNeg x1)), vI (ea_i w1.2 326 0)]) (st := []) dX12_where_19 kX12_isIn (sX12_isIn (d := d - 1) (by omega) Ew3) (by omega) rfl (Nat.le_of_ble_eq_true rfl) ew_1769 ew_1770 ?_
    refine ea_if_eq (pc := 22) (tgt := 34) dX12_where_22 rfl (fun c8 => ?_) (fun c8 => ?_)
    · have E := (if_pos c8).symm.trans E
      refine ea_iconst (pc := 34) dX12_where_34 (v := (-1)) rfl ?_
      exact ea_iretO (pc := 35) dX12_where_35 rfl rfl E
    · have E := (if_neg c8).symm.trans E
      obtain ⟨w4, Ew4, E⟩ := bd_some E
      have hsw4 : ShM w4.2 := ShM_core ((kpX12_isIn _ _ _ _) _ Ew4) hsw3
      refine ea_iload_n (pc := 25) dX12_where_25 rfl 3 rfl ?_
      refine ea_iconst (pc := 26) dX12_where_26 (v := 0) rfl ?_
      refine ea_iconst (pc := 27) dX12_where_27 (v := 1) rfl ?_
      refine ea_callS (pc := 28) (d' := d - 1) (As := [vI x3, vI 0, vI 1]) (st := []) dX12_where_28 kX12_isIn (sX12_isIn (d := d - 1) (by omega) Ew4) (by omega) rfl (Nat.le_of_ble_eq_true rfl) ew_1769 ew_1770 ?_
      refine ea_if_ne (pc := 31) (tgt := 36) dX12_where_31 rfl (fun c7 => ?_) (fun c7 => ?_)
      · have E := (if_neg c7).symm.trans E
        obtain ⟨z5, E⟩ := gd_some E
        refine ea_aload_n (pc := 36) dX12_where_36 rfl 0 rfl ?_
        refine ea_getR (pc := 37) dX12_where_37 ec_12 (k := 76) (Nat.le_of_ble_eq_true rfl) rfl (Or.inl ew_1478) (cShM_326 hsw4).1 (cShM_326 hsw4).2.1 (rShM_326_76 hsw4) ?_
        refine ea_iload_n (pc := 40) dX12_where_40 rfl 1 rfl ?_
        obtain ⟨v6, ev6, E⟩ := let_some E
        refine ea_iald (pc := 41) dX12_where_41 (cShM_376 hsw4).1 (cShM_376 hsw4).2.1 (ea_vpl (cShM_376 hsw4).2.2 z5) ?_
        refine ea_iconst (pc := 42) dX12_where_42 (v := 1) rfl ?_
        refine ea_isub (pc := 43) dX12_where_43 ?_
        refine ea_istore (pc := 44) (lv' := [(0, vR (some 326)), (1, vI x1), (2, vI x2), (3, vI x3), (4, vI v6)]) dX12_where_44 (Nat.le_of_ble_eq_true rfl) [1, 2, 3, 4, 0] (by rw [ev6]; rfl) ?_
        exact (kJ46 (x1 : Int32) (x2 : Int32) (x3 : Int32) (v6 : Int32) w4.2 _ _ E hsw4)
      · have E := (if_pos c7).symm.trans E
        refine ea_iconst (pc := 34) dX12_where_34 (v := (-1)) rfl ?_
        exact ea_iretO (pc := 35) dX12_where_35 rfl rfl E
theorem kBX12_where_0 {J46 : Int32 → Int32 → Int32 → Int32 → ea_H → Option (Int32 × ea_H)}  (cJ46 : ∀ (x1 : Int32) (x2 : Int32) (x3 : Int32) (x4 : Int32) (h : ea_H), kp (ea_core h) (J46 x1 x2 x3 x4 h)) {x1 : Int32} {x2 : Int32} {x3 : Int32} {h : ea_H} : kp (ea_core h) (BX12_where_0 J46 x1 x2 x3 h) :=
  (kp_bind (kp_tw (kpX12_isLetterOf _ _) rfl) fun w1 hcw1 => (kp_ite (kp_ret hcw1) (kp_gd (kp_bind (kp_tw (kpX12_isIn _ _ _ _) hcw1) fun w3 hcw3 => (kp_ite (kp_ret hcw3) (kp_bind (kp_tw (kpX12_isIn _ _ _ _) hcw3) fun w4 hcw4 => (kp_ite (kp_ret hcw4) (kp_gd (kp_let (kp_tw (cJ46 _ _ _ _ _) hcw4))))))))))
theorem lBX12_where_0 {J46 : Int32 → Int32 → Int32 → Int32 → ea_H → Option (Int32 × ea_H)} {J46_ : Int32 → Int32 → Int32 → Int32 → ea_H → Option (Int32 × ea_H)}  (mJ46 : ∀ (x1 : Int32) (x2 : Int32) (x3 : Int32) (x4 : Int32) (h : ea_H), fle (J46 x1 x2 x3 x4 h) (J46_ x1 x2 x3 x4 h)) {x1 : Int32} {x2 : Int32} {x3 : Int32} {h : ea_H} : fle (BX12_where_0 J46 x1 x2 x3 h) (BX12_where_0 J46_ x1 x2 x3 h) :=
  (fle_bind (fle_rfl _) fun _ => (fle_ite (fle_rfl _) (fle_gd (fle_bind (fle_rfl _) fun _ => (fle_ite (fle_rfl _) (fle_bind (fle_rfl _) fun _ => (fle_ite (fle_rfl _) (fle_gd (fle_let fun _ => (mJ46 _ _ _ _ _))))))))))
theorem nBX12_where_0 {J46 : Int32 → Int32 → Int32 → Int32 → ea_H → Option (Int32 × ea_H)} {J46_ : Nat → (Int32 → Int32 → Int32 → Int32 → ea_H → Option (Int32 × ea_H))}  (mJ46 : ∀ (x1 : Int32) (x2 : Int32) (x3 : Int32) (x4 : Int32) (h : ea_H), fct (J46 x1 x2 x3 x4 h) (fun f => J46_ f x1 x2 x3 x4 h)) {x1 : Int32} {x2 : Int32} {x3 : Int32} {h : ea_H} : fct (BX12_where_0 J46 x1 x2 x3 h) (fun f => BX12_where_0 (J46_ f) x1 x2 x3 h) :=
  (fct_bind (fct_rfl _) fun _ => (fct_ite (fct_rfl _) (fct_gd (fct_bind (fct_rfl _) fun _ => (fct_ite (fct_rfl _) (fct_bind (fct_rfl _) fun _ => (fct_ite (fct_rfl _) (fct_gd (fct_let fun _ => (mJ46 _ _ _ _ _))))))))))
noncomputable def BX12_where_46 (J46 : Int32 → Int32 → Int32 → Int32 → ea_H → Option (Int32 × ea_H)) (x1 : Int32) (x2 : Int32) (x3 : Int32) (x4 : Int32) (h : ea_H) : Option (Int32 × ea_H) :=
  (gd (vp_in (((1000 : Int32) * x1) + x4) 120000) (if (ea_i h 388 (Int32.toNatClampNeg (((1000 : Int32) * x1) + x4))) ≤ x2 then (if x3 = (0 : Int32) then (gd (vp_in (((1000 : Int32) * x1) + x4) 120000) (some ((ea_i h 389 (Int32.toNatClampNeg (((1000 : Int32) * x1) + x4))), h))) else (gd (vp_in (((1000 : Int32) * x1) + x4) 120000) (some ((ea_i h 390 (Int32.toNatClampNeg (((1000 : Int32) * x1) + x4))), h)))) else (J46 (x1 : Int32) (x2 : Int32) (x3 : Int32) ((x4 + ((-1) : Int32)) : Int32) h)))
theorem tBX12_where_46 {d : Nat} {h0 : ea_H} (hd : 3 ≤ d) {J46 : Int32 → Int32 → Int32 → Int32 → ea_H → Option (Int32 × ea_H)}  (kJ46 : ∀ (x1 : Int32) (x2 : Int32) (x3 : Int32) (x4 : Int32) (h : ea_H) (r : Int32) (h' : ea_H), J46 x1 x2 x3 x4 h = some (r, h') → ShM h → ea_W mX12_where d h0 (some (vI r)) h' 46 [(0, vR (some 326)), (1, vI x1), (2, vI x2), (3, vI x3), (4, vI x4)] [] h) {x1 : Int32} {x2 : Int32} {x3 : Int32} {x4 : Int32} {h : ea_H} {r : Int32} {h' : ea_H} (E : BX12_where_46 J46 x1 x2 x3 x4 h = some (r, h')) (hs : ShM h) : ea_W mX12_where d h0 (some (vI r)) h' 46 [(0, vR (some 326)), (1, vI x1), (2, vI x2), (3, vI x3), (4, vI x4)] [] h := by
  unfold BX12_where_46 at E
  obtain ⟨z10, E⟩ := gd_some E
  refine ea_aload_n (pc := 46) dX12_where_46 rfl 0 rfl ?_
  refine ea_getR (pc := 47) dX12_where_47 ec_12 (k := 88) (Nat.le_of_ble_eq_true rfl) rfl (Or.inl ew_1490) (cShM_326 hs).1 (cShM_326 hs).2.1 (rShM_326_88 hs) ?_
  refine ea_sipush (pc := 50) dX12_where_50 (v := 1000) rfl ?_
  refine ea_iload_n (pc := 53) dX12_where_53 rfl 1 rfl ?_
  refine ea_imul (pc := 54) dX12_where_54 ?_
  refine ea_iload (pc := 55) dX12_where_55 4 rfl ?_
  refine ea_iadd (pc := 57) dX12_where_57 ?_
  refine ea_iald (pc := 58) dX12_where_58 (cShM_388 hs).1 (cShM_388 hs).2.1 (ea_vpl (cShM_388 hs).2.2 z10) ?_
  refine ea_iload_n (pc := 59) dX12_where_59 rfl 2 rfl ?_
  refine ea_icmp_le (pc := 60) (tgt := 69) dX12_where_60 rfl (fun c14 => ?_) (fun c14 => ?_)
  · have E := (if_pos c14).symm.trans E
    refine ea_iload_n (pc := 69) dX12_where_69 rfl 3 rfl ?_
    refine ea_if_ne (pc := 70) (tgt := 89) dX12_where_70 rfl (fun c13 => ?_) (fun c13 => ?_)
    · have E := (if_neg c13).symm.trans E
      obtain ⟨z11, E⟩ := gd_some E
      refine ea_aload_n (pc := 89) dX12_where_89 rfl 0 rfl ?_
      refine ea_getR (pc := 90) dX12_where_90 ec_12 (k := 90) (Nat.le_of_ble_eq_true rfl) rfl (Or.inl ew_1492) (cShM_326 hs).1 (cShM_326 hs).2.1 (rShM_326_90 hs) ?_
      refine ea_sipush (pc := 93) dX12_where_93 (v := 1000) rfl ?_
      refine ea_iload_n (pc := 96) dX12_where_96 rfl 1 rfl ?_
      refine ea_imul (pc := 97) dX12_where_97 ?_
      refine ea_iload (pc := 98) dX12_where_98 4 rfl ?_
      refine ea_iadd (pc := 100) dX12_where_100 ?_
      refine ea_iald (pc := 101) dX12_where_101 (cShM_390 hs).1 (cShM_390 hs).2.1 (ea_vpl (cShM_390 hs).2.2 z11) ?_
      exact ea_iretO (pc := 102) dX12_where_102 rfl rfl E
    · have E := (if_pos c13).symm.trans E
      obtain ⟨z12, E⟩ := gd_some E
      refine ea_aload_n (pc := 73) dX12_where_73 rfl 0 rfl ?_
      refine ea_getR (pc := 74) dX12_where_74 ec_12 (k := 89) (Nat.le_of_ble_eq_true rfl) rfl (Or.inl ew_1491) (cShM_326 hs).1 (cShM_326 hs).2.1 (rShM_326_89 hs) ?_
      refine ea_sipush (pc := 77) dX12_where_77 (v := 1000) rfl ?_
      refine ea_iload_n (pc := 80) dX12_where_80 rfl 1 rfl ?_
      refine ea_imul (pc := 81) dX12_where_81 ?_
      refine ea_iload (pc := 82) dX12_where_82 4 rfl ?_
      refine ea_iadd (pc := 84) dX12_where_84 ?_
      refine ea_iald (pc := 85) dX12_where_85 (cShM_389 hs).1 (cShM_389 hs).2.1 (ea_vpl (cShM_389 hs).2.2 z12) ?_
      refine ea_goto (pc := 86) (tgt := 102) dX12_where_86 rfl ?_
      exact ea_iretO (pc := 102) dX12_where_102 rfl rfl E
  · have E := (if_neg c14).symm.trans E
    refine ea_iinc (pc := 63) (v := (-1)) (lv' := [(0, vR (some 326)), (1, vI x1), (2, vI x2), (3, vI x3), (4, vI (x4 + ((-1) : Int32)))]) dX12_where_63 4 rfl rfl (Nat.le_of_ble_eq_true rfl) [1, 2, 3, 4, 0] rfl ?_
    refine ea_goto (pc := 66) (tgt := 46) dX12_where_66 rfl ?_
    exact (kJ46 (x1 : Int32) (x2 : Int32) (x3 : Int32) ((x4 + ((-1) : Int32)) : Int32) h _ _ E hs)
theorem kBX12_where_46 {J46 : Int32 → Int32 → Int32 → Int32 → ea_H → Option (Int32 × ea_H)}  (cJ46 : ∀ (x1 : Int32) (x2 : Int32) (x3 : Int32) (x4 : Int32) (h : ea_H), kp (ea_core h) (J46 x1 x2 x3 x4 h)) {x1 : Int32} {x2 : Int32} {x3 : Int32} {x4 : Int32} {h : ea_H} : kp (ea_core h) (BX12_where_46 J46 x1 x2 x3 x4 h) :=
  (kp_gd (kp_ite (kp_ite (kp_gd (kp_ret rfl)) (kp_gd (kp_ret rfl))) (kp_tw (cJ46 _ _ _ _ _) rfl)))
theorem lBX12_where_46 {J46 : Int32 → Int32 → Int32 → Int32 → ea_H → Option (Int32 × ea_H)} {J46_ : Int32 → Int32 → Int32 → Int32 → ea_H → Option (Int32 × ea_H)}  (mJ46 : ∀ (x1 : Int32) (x2 : Int32) (x3 : Int32) (x4 : Int32) (h : ea_H), fle (J46 x1 x2 x3 x4 h) (J46_ x1 x2 x3 x4 h)) {x1 : Int32} {x2 : Int32} {x3 : Int32} {x4 : Int32} {h : ea_H} : fle (BX12_where_46 J46 x1 x2 x3 x4 h) (BX12_where_46 J46_ x1 x2 x3 x4 h) :=
  (fle_gd (fle_ite (fle_rfl _) (mJ46 _ _ _ _ _)))
theorem nBX12_where_46 {J46 : Int32 → Int32 → Int32 → Int32 → ea_H → Option (Int32 × ea_H)} {J46_ : Nat → (Int32 → Int32 → Int32 → Int32 → ea_H → Option (Int32 × ea_H))}  (mJ46 : ∀ (x1 : Int32) (x2 : Int32) (x3 : Int32) (x4 : Int32) (h : ea_H), fct (J46 x1 x2 x3 x4 h) (fun f => J46_ f x1 x2 x3 x4 h)) {x1 : Int32} {x2 : Int32} {x3 : Int32} {x4 : Int32} {h : ea_H} : fct (BX12_where_46 J46 x1 x2 x3 x4 h) (fun f => BX12_where_46 (J46_ f) x1 x2 x3 x4 h) :=
  (fct_gd (fct_ite (fct_rfl _) (mJ46 _ _ _ _ _)))
noncomputable def gX12_where : Nat → (Int32 → Int32 → Int32 → ea_H → Option (Int32 × ea_H)) × (Int32 → Int32 → Int32 → Int32 → ea_H → Option (Int32 × ea_H))
  | 0 => (fun _ _ _ _ => none, fun _ _ _ _ _ => none)
  | f + 1 => (BX12_where_0 (gX12_where f).2, BX12_where_46 (gX12_where f).2)
theorem mgX12_where : ∀ f : Nat, (∀ (x1 : Int32) (x2 : Int32) (x3 : Int32) (h : ea_H), fle ((gX12_where f).1 x1 x2 x3 h) ((gX12_where (f + 1)).1 x1 x2 x3 h)) ∧ (∀ (x1 : Int32) (x2 : Int32) (x3 : Int32) (x4 : Int32) (h : ea_H), fle ((gX12_where f).2 x1 x2 x3 x4 h) ((gX12_where (f + 1)).2 x1 x2 x3 x4 h)) := by
  intro f
  induction f with
  | zero => exact ⟨fun _ _ _ _ => fle_none _, fun _ _ _ _ _ => fle_none _⟩
  | succ f ih => exact ⟨fun _ _ _ _ => lBX12_where_0 ih.2, fun _ _ _ _ _ => lBX12_where_46 ih.2⟩
noncomputable def qX12_where_0 (x1 : Int32) (x2 : Int32) (x3 : Int32) (h : ea_H) : Option (Int32 × ea_H) := flim fun f => (gX12_where f).1 x1 x2 x3 h
noncomputable def qX12_where_46 (x1 : Int32) (x2 : Int32) (x3 : Int32) (x4 : Int32) (h : ea_H) : Option (Int32 × ea_H) := flim fun f => (gX12_where f).2 x1 x2 x3 x4 h
theorem fqX12_where_0 (x1 : Int32) (x2 : Int32) (x3 : Int32) (h : ea_H) : fct (qX12_where_0 x1 x2 x3 h) fun f => (gX12_where f).1 x1 x2 x3 h := flim_ct fun f => (mgX12_where f).1 x1 x2 x3 h
theorem fqX12_where_46 (x1 : Int32) (x2 : Int32) (x3 : Int32) (x4 : Int32) (h : ea_H) : fct (qX12_where_46 x1 x2 x3 x4 h) fun f => (gX12_where f).2 x1 x2 x3 x4 h := flim_ct fun f => (mgX12_where f).2 x1 x2 x3 x4 h
/-- how a block opens -/
theorem uqX12_where_0 {x1 : Int32} {x2 : Int32} {x3 : Int32} {h : ea_H} {P : Int32 × ea_H → Prop} (H : sat (BX12_where_0 qX12_where_46 x1 x2 x3 h) P) : sat (qX12_where_0 x1 x2 x3 h) P := by
  obtain ⟨x, e, hp⟩ := H
  obtain ⟨n, hn⟩ := nBX12_where_0 fqX12_where_46 x e
  exact ⟨x, flim_at (fun f => (mgX12_where f).1 x1 x2 x3 h) (f := n + 1) (hn n (Nat.le_refl _)), hp⟩
/-- how a block opens -/
theorem uqX12_where_46 {x1 : Int32} {x2 : Int32} {x3 : Int32} {x4 : Int32} {h : ea_H} {P : Int32 × ea_H → Prop} (H : sat (BX12_where_46 qX12_where_46 x1 x2 x3 x4 h) P) : sat (qX12_where_46 x1 x2 x3 x4 h) P := by
  obtain ⟨x, e, hp⟩ := H
  obtain ⟨n, hn⟩ := nBX12_where_46 fqX12_where_46 x e
  exact ⟨x, flim_at (fun f => (mgX12_where f).2 x1 x2 x3 x4 h) (f := n + 1) (hn n (Nat.le_refl _)), hp⟩
theorem kgX12_where : ∀ f : Nat, (∀ (x1 : Int32) (x2 : Int32) (x3 : Int32) (h : ea_H), kp (ea_core h) ((gX12_where f).1 x1 x2 x3 h)) ∧ (∀ (x1 : Int32) (x2 : Int32) (x3 : Int32) (x4 : Int32) (h : ea_H), kp (ea_core h) ((gX12_where f).2 x1 x2 x3 x4 h)) := by
  intro f
  induction f with
  | zero => exact ⟨fun _ _ _ _ => kp_none _, fun _ _ _ _ _ => kp_none _⟩
  | succ f ih => exact ⟨fun _ _ _ _ => kBX12_where_0 ih.2, fun _ _ _ _ _ => kBX12_where_46 ih.2⟩
theorem tgX12_where {d : Nat} {h0 : ea_H} (hd : 3 ≤ d) : ∀ f : Nat, (∀ (x1 : Int32) (x2 : Int32) (x3 : Int32) (h : ea_H) (r : Int32) (h' : ea_H), (gX12_where f).1 x1 x2 x3 h = some (r, h') → ShM h → ea_W mX12_where d h0 (some (vI r)) h' 0 [(0, vR (some 326)), (1, vI x1), (2, vI x2), (3, vI x3)] [] h) ∧ (∀ (x1 : Int32) (x2 : Int32) (x3 : Int32) (x4 : Int32) (h : ea_H) (r : Int32) (h' : ea_H), (gX12_where f).2 x1 x2 x3 x4 h = some (r, h') → ShM h → ea_W mX12_where d h0 (some (vI r)) h' 46 [(0, vR (some 326)), (1, vI x1), (2, vI x2), (3, vI x3), (4, vI x4)] [] h) := by
  intro f
  induction f with
  | zero => exact ⟨fun _ _ _ _ _ _ E => no_some E, fun _ _ _ _ _ _ _ E => no_some E⟩
  | succ f ih => exact ⟨fun _ _ _ _ _ _ E hs => tBX12_where_0 hd ih.2 E hs, fun _ _ _ _ _ _ _ E hs => tBX12_where_46 hd ih.2 E hs⟩
noncomputable def qX12_where (x1 : Int32) (x2 : Int32) (x3 : Int32) (h : ea_H) : Option (Int32 × ea_H) := qX12_where_0 x1 x2 x3 h
theorem sX12_where {d : Nat} {x1 : Int32} {x2 : Int32} {x3 : Int32} {h : ea_H} {r : Int32} {h' : ea_H} (hd : 3 ≤ d) (hs : ShM h) (K : qX12_where x1 x2 x3 h = some (r, h')) : ea_Met mX12_where d [vR (some 326), vI x1, vI x2, vI x3] h (some (vI r)) h' := by
  unfold qX12_where at K
  obtain ⟨n, hn⟩ := fqX12_where_0 x1 x2 x3 h _ K
  have W := (tgX12_where (d := d) (h0 := h) hd n).1 x1 x2 x3 h _ _ (hn n (Nat.le_refl _)) hs
  exact ea_enter rfl (Nat.le_of_ble_eq_true rfl) W
theorem kpX12_where (x1 : Int32) (x2 : Int32) (x3 : Int32) (h : ea_H) : kp (ea_core h) (qX12_where x1 x2 x3 h) := fun x e => by
  obtain ⟨n, hn⟩ := fqX12_where_0 x1 x2 x3 h x e
  exact (kgX12_where n).1 x1 x2 x3 h x (hn n (Nat.le_refl _))
noncomputable def BX12_sorter_0 (x1 : Int32) (x2 : Int32) (h : ea_H) : Option (Int32 × ea_H) :=
  (Option.bind (qX12_isIn (x1 : Int32) (1 : Int32) (99 : Int32) h) fun w1 => (if w1.1 = (0 : Int32) then (some (((-1) : Int32), w1.2)) else (Option.bind (qX12_isIn (x2 : Int32) (0 : Int32) (4095 : Int32) w1.2) fun w2 => (if w2.1 = (0 : Int32) then (some (((-1) : Int32), w2.2)) else (if (ea_i w2.2 326 92) = (8 : Int32) then (some (((-1) : Int32), w2.2)) else (gd (vp_in (ea_i w2.2 326 92) 8) (ea_let (ea_wi w2.2 392 (Int32.toNatClampNeg (ea_i w2.2 326 92)) x1) fun H4 => (gd (vp_in (ea_i H4 326 92) 8) (ea_let (ea_wi H4 393 (Int32.toNatClampNeg (ea_i H4 326 92)) x2) fun H6 => (ea_let (ea_wi H6 326 92 ((ea_i H6 326 92) + (1 : Int32))) fun H7 => (some (((ea_i H7 326 92) - (1 : Int32)), H7))))))))))))
theorem tBX12_sorter_0 {d : Nat} {h0 : ea_H} (hd : 2 ≤ d)  {x1 : Int32} {x2 : Int32} {h : ea_H} {r : Int32} {h' : ea_H} (E : BX12_sorter_0 x1 x2 h = some (r, h')) (hs : ShM h) : ea_W mX12_sorter d h0 (some (vI r)) h' 0 [(0, vR (some 326)), (1, vI x1), (2, vI x2)] [] h := by
  unfold BX12_sorter_0 at E
  obtain ⟨w1, Ew1, E⟩ := bd_some E
  have hsw1 : ShM w1.2 := ShM_core ((kpX12_isIn _ _ _ _) _ Ew1) hs
  refine ea_iload_n (pc := 0) dX12_sorter_0 rfl 1 rfl ?_
  refine ea_iconst (pc := 1) dX12_sorter_1 (v := 1) rfl ?_
  refine ea_bipush (pc := 2) dX12_sorter_2 (v := 99) rfl ?_
  refine ea_callS (pc := 4) (d' := d - 1) (As := [vI x1, vI 1, vI 99]) (st := []) dX12_sorter_4 kX12_isIn (sX12_isIn (d := d - 1) (by omega) Ew1) (by omega) rfl (Nat.le_of_ble_eq_true rfl) ew_1769 ew_1770 ?_
  refine ea_if_eq (pc := 7) (tgt := 30) dX12_sorter_7 rfl (fun c10 => ?_) (fun c10 => ?_)
  · have E := (if_pos c10).symm.trans E
    refine ea_iconst (pc := 30) dX12_sorter_30 (v := (-1)) rfl ?_
    exact ea_iretO (pc := 31) dX12_sorter_31 rfl rfl E
  · have E := (if_neg c10).symm.trans E
    obtain ⟨w2, Ew2, E⟩ := bd_some E
    have hsw2 : ShM w2.2 := ShM_core ((kpX12_isIn _ _ _ _) _ Ew2) hsw1
    refine ea_iload_n (pc := 10) dX12_sorter_10 rfl 2 rfl ?_
    refine ea_iconst (pc := 11) dX12_sorter_11 (v := 0) rfl ?_
    refine ea_sipush (pc := 12) dX12_sorter_12 (v := 4095) rfl ?_
    refine ea_callS (pc := 15) (d' := d - 1) (As := [vI x2, vI 0, vI 4095]) (st := []) dX12_sorter_15 kX12_isIn (sX12_isIn (d := d - 1) (by omega) Ew2) (by omega) rfl (Nat.le_of_ble_eq_true rfl) ew_1769 ew_1770 ?_
    refine ea_if_eq (pc := 18) (tgt := 30) dX12_sorter_18 rfl (fun c9 => ?_) (fun c9 => ?_)
    · have E := (if_pos c9).symm.trans E
      refine ea_iconst (pc := 30) dX12_sorter_30 (v := (-1)) rfl ?_
      exact ea_iretO (pc := 31) dX12_sorter_31 rfl rfl E
    · have E := (if_neg c9).symm.trans E
      refine ea_aload_n (pc := 21) dX12_sorter_21 rfl 0 rfl ?_
      refine ea_getI (pc := 22) dX12_sorter_22 ec_12 (k := 92) (Nat.le_of_ble_eq_true rfl) rfl (Or.inl ew_1494) (cShM_326 hsw2).1 (cShM_326 hsw2).2.1 ?_
      refine ea_bipush (pc := 25) dX12_sorter_25 (v := 8) rfl ?_
      refine ea_icmp_ne (pc := 27) (tgt := 32) dX12_sorter_27 rfl (fun c8 => ?_) (fun c8 => ?_)
      · have E := (if_neg c8).symm.trans E
        obtain ⟨z3, E⟩ := gd_some E
        refine ea_aload_n (pc := 32) dX12_sorter_32 rfl 0 rfl ?_
        refine ea_getR (pc := 33) dX12_sorter_33 ec_12 (k := 93) (Nat.le_of_ble_eq_true rfl) rfl (Or.inl ew_1495) (cShM_326 hsw2).1 (cShM_326 hsw2).2.1 (rShM_326_93 hsw2) ?_
        refine ea_aload_n (pc := 36) dX12_sorter_36 rfl 0 rfl ?_
        refine ea_getI (pc := 37) dX12_sorter_37 ec_12 (k := 92) (Nat.le_of_ble_eq_true rfl) rfl (Or.inl ew_1494) (cShM_326 hsw2).1 (cShM_326 hsw2).2.1 ?_
        refine ea_iload_n (pc := 40) dX12_sorter_40 rfl 1 rfl ?_
        obtain ⟨H4, eH4, E⟩ := let_some E
        refine ea_iast (pc := 41) dX12_sorter_41 (cShM_392 hsw2).1 (cShM_392 hsw2).2.1 (ea_vpl (cShM_392 hsw2).2.2 z3) ?_
        refine ea_nm eH4 ?_
        have hsH4 : ShM H4 := by rw [eH4]; exact hsw2
        obtain ⟨z5, E⟩ := gd_some E
        refine ea_aload_n (pc := 42) dX12_sorter_42 rfl 0 rfl ?_
        refine ea_getR (pc := 43) dX12_sorter_43 ec_12 (k := 94) (Nat.le_of_ble_eq_true rfl) rfl (Or.inl ew_1496) (cShM_326 hsH4).1 (cShM_326 hsH4).2.1 (rShM_326_94 hsH4) ?_
        refine ea_aload_n (pc := 46) dX12_sorter_46 rfl 0 rfl ?_
        refine ea_getI (pc := 47) dX12_sorter_47 ec_12 (k := 92) (Nat.le_of_ble_eq_true rfl) rfl (Or.inl ew_1494) (cShM_326 hsH4).1 (cShM_326 hsH4).2.1 ?_
        refine ea_iload_n (pc := 50) dX12_sorter_50 rfl 2 rfl ?_
        obtain ⟨H6, eH6, E⟩ := let_some E
        refine ea_iast (pc := 51) dX12_sorter_51 (cShM_393 hsH4).1 (cShM_393 hsH4).2.1 (ea_vpl (cShM_393 hsH4).2.2 z5) ?_
        refine ea_nm eH6 ?_
        have hsH6 : ShM H6 := by rw [eH6]; exact hsH4
        obtain ⟨H7, eH7, E⟩ := let_some E
        refine ea_aload_n (pc := 52) dX12_sorter_52 rfl 0 rfl ?_
        refine ea_dup (pc := 53) dX12_sorter_53 rfl ?_
        refine ea_getI (pc := 54) dX12_sorter_54 ec_12 (k := 92) (Nat.le_of_ble_eq_true rfl) rfl (Or.inl ew_1494) (cShM_326 hsH6).1 (cShM_326 hsH6).2.1 ?_
        refine ea_iconst (pc := 57) dX12_sorter_57 (v := 1) rfl ?_
        refine ea_iadd (pc := 58) dX12_sorter_58 ?_
        refine ea_putI (pc := 59) dX12_sorter_59 ec_12 (k := 92) (Nat.le_of_ble_eq_true rfl) rfl (Or.inl ⟨rfl, Or.inl ew_1494⟩) rfl rfl (cShM_326 hsH6).1 (cShM_326 hsH6).2.1 ?_
        refine ea_nm eH7 ?_
        have hsH7 : ShM H7 := by rw [eH7]; exact hsH6
        refine ea_aload_n (pc := 62) dX12_sorter_62 rfl 0 rfl ?_
        refine ea_getI (pc := 63) dX12_sorter_63 ec_12 (k := 92) (Nat.le_of_ble_eq_true rfl) rfl (Or.inl ew_1494) (cShM_326 hsH7).1 (cShM_326 hsH7).2.1 ?_
        refine ea_iconst (pc := 66) dX12_sorter_66 (v := 1) rfl ?_
        refine ea_isub (pc := 67) dX12_sorter_67 ?_
        exact ea_iretO (pc := 68) dX12_sorter_68 rfl rfl E
      · have E := (if_pos c8).symm.trans E
        refine ea_iconst (pc := 30) dX12_sorter_30 (v := (-1)) rfl ?_
        exact ea_iretO (pc := 31) dX12_sorter_31 rfl rfl E
theorem kBX12_sorter_0  {x1 : Int32} {x2 : Int32} {h : ea_H} : kp (ea_core h) (BX12_sorter_0 x1 x2 h) :=
  (kp_bind (kp_tw (kpX12_isIn _ _ _ _) rfl) fun w1 hcw1 => (kp_ite (kp_ret hcw1) (kp_bind (kp_tw (kpX12_isIn _ _ _ _) hcw1) fun w2 hcw2 => (kp_ite (kp_ret hcw2) (kp_ite (kp_ret hcw2) (kp_gd (kp_let (kp_gd (kp_let (kp_let (kp_ret hcw2)))))))))))
noncomputable def qX12_sorter (x1 : Int32) (x2 : Int32) (h : ea_H) : Option (Int32 × ea_H) := BX12_sorter_0 x1 x2 h
theorem sX12_sorter {d : Nat} {x1 : Int32} {x2 : Int32} {h : ea_H} {r : Int32} {h' : ea_H} (hd : 2 ≤ d) (hs : ShM h) (K : qX12_sorter x1 x2 h = some (r, h')) : ea_Met mX12_sorter d [vR (some 326), vI x1, vI x2] h (some (vI r)) h' := by
  unfold qX12_sorter at K
  have W := tBX12_sorter_0 hd (h0 := h) K hs
  exact ea_enter rfl (Nat.le_of_ble_eq_true rfl) W
theorem kpX12_sorter (x1 : Int32) (x2 : Int32) (h : ea_H) : kp (ea_core h) (qX12_sorter x1 x2 h) := kBX12_sorter_0
noncomputable def BX12_seat_0 (x1 : Int32) (x2 : Int32) (h : ea_H) : Option (Int32 × ea_H) :=
  (Option.bind (qX12_isIn (x1 : Int32) (0 : Int32) (((ea_i h 326 92) - (1 : Int32)) : Int32) h) fun w1 => (if w1.1 = (0 : Int32) then (some ((0 : Int32), w1.2)) else (if x2 = ((-1) : Int32) then (gd (vp_in x1 8) (ea_let (ea_wi w1.2 394 (Int32.toNatClampNeg x1) x2) fun H3 => (some ((1 : Int32), H3)))) else (Option.bind (qX12_isTrain (x2 : Int32) w1.2) fun w4 => (if w4.1 = (0 : Int32) then (some ((0 : Int32), w4.2)) else (gd (vp_in x1 8) (ea_let (ea_wi w4.2 394 (Int32.toNatClampNeg x1) x2) fun H6 => (some ((1 : Int32), H6)))))))))
theorem tBX12_seat_0 {d : Nat} {h0 : ea_H} (hd : 3 ≤ d)  {x1 : Int32} {x2 : Int32} {h : ea_H} {r : Int32} {h' : ea_H} (E : BX12_seat_0 x1 x2 h = some (r, h')) (hs : ShM h) : ea_W mX12_seat d h0 (some (vI r)) h' 0 [(0, vR (some 326)), (1, vI x1), (2, vI x2)] [] h := by
  unfold BX12_seat_0 at E
  obtain ⟨w1, Ew1, E⟩ := bd_some E
  have hsw1 : ShM w1.2 := ShM_core ((kpX12_isIn _ _ _ _) _ Ew1) hs
  refine ea_iload_n (pc := 0) dX12_seat_0 rfl 1 rfl ?_
  refine ea_iconst (pc := 1) dX12_seat_1 (v := 0) rfl ?_
  refine ea_aload_n (pc := 2) dX12_seat_2 rfl 0 rfl ?_
  refine ea_getI (pc := 3) dX12_seat_3 ec_12 (k := 92) (Nat.le_of_ble_eq_true rfl) rfl (Or.inl ew_1494) (cShM_326 hs).1 (cShM_326 hs).2.1 ?_
  refine ea_iconst (pc := 6) dX12_seat_6 (v := 1) rfl ?_
  refine ea_isub (pc := 7) dX12_seat_7 ?_
  refine ea_callS (pc := 8) (d' := d - 1) (As := [vI x1, vI 0, vI ((ea_i h 326 92) - (1 : Int32))]) (st := []) dX12_seat_8 kX12_isIn (sX12_isIn (d := d - 1) (by omega) Ew1) (by omega) rfl (Nat.le_of_ble_eq_true rfl) ew_1769 ew_1770 ?_
  refine ea_if_eq (pc := 11) (tgt := 27) dX12_seat_11 rfl (fun c9 => ?_) (fun c9 => ?_)
  · have E := (if_pos c9).symm.trans E
    refine ea_iconst (pc := 27) dX12_seat_27 (v := 0) rfl ?_
    exact ea_iretO (pc := 28) dX12_seat_28 rfl (ea_bn (Or.inl rfl)) E
  · have E := (if_neg c9).symm.trans E
    refine ea_iload_n (pc := 14) dX12_seat_14 rfl 2 rfl ?_
    refine ea_iconst (pc := 15) dX12_seat_15 (v := (-1)) rfl ?_
    refine ea_icmp_eq (pc := 16) (tgt := 29) dX12_seat_16 rfl (fun c8 => ?_) (fun c8 => ?_)
    · have E := (if_pos c8).symm.trans E
      obtain ⟨z2, E⟩ := gd_some E
      refine ea_aload_n (pc := 29) dX12_seat_29 rfl 0 rfl ?_
      refine ea_getR (pc := 30) dX12_seat_30 ec_12 (k := 95) (Nat.le_of_ble_eq_true rfl) rfl (Or.inl ew_1497) (cShM_326 hsw1).1 (cShM_326 hsw1).2.1 (rShM_326_95 hsw1) ?_
      refine ea_iload_n (pc := 33) dX12_seat_33 rfl 1 rfl ?_
      refine ea_iload_n (pc := 34) dX12_seat_34 rfl 2 rfl ?_
      obtain ⟨H3, eH3, E⟩ := let_some E
      refine ea_iast (pc := 35) dX12_seat_35 (cShM_394 hsw1).1 (cShM_394 hsw1).2.1 (ea_vpl (cShM_394 hsw1).2.2 z2) ?_
      refine ea_nm eH3 ?_
      have hsH3 : ShM H3 := by rw [eH3]; exact hsw1
      refine ea_iconst (pc := 36) dX12_seat_36 (v := 1) rfl ?_
      exact ea_iretO (pc := 37) dX12_seat_37 rfl (ea_bn (Or.inr rfl)) E
    · have E := (if_neg c8).symm.trans E
      obtain ⟨w4, Ew4, E⟩ := bd_some E
      have hsw4 : ShM w4.2 := ShM_core ((kpX12_isTrain _ _) _ Ew4) hsw1
      refine ea_aload_n (pc := 19) dX12_seat_19 rfl 0 rfl ?_
      refine ea_iload_n (pc := 20) dX12_seat_20 rfl 2 rfl ?_
      refine ea_callV (pc := 21) (d' := d - 1) (As := [vI x2]) (st := []) dX12_seat_21 kX12_isTrain (sX12_isTrain (d := d - 1) (by omega) hsw1 Ew4) (by omega) rfl (Nat.le_of_ble_eq_true rfl) ew_1793 ew_1795 ew_57 (ci := 12) rfl (by decide) (cShM_326 hsw1).1 (cShM_326 hsw1).2.1 ?_
      refine ea_if_ne (pc := 24) (tgt := 29) dX12_seat_24 rfl (fun c7 => ?_) (fun c7 => ?_)
      · have E := (if_neg c7).symm.trans E
        obtain ⟨z5, E⟩ := gd_some E
        refine ea_aload_n (pc := 29) dX12_seat_29 rfl 0 rfl ?_
        refine ea_getR (pc := 30) dX12_seat_30 ec_12 (k := 95) (Nat.le_of_ble_eq_true rfl) rfl (Or.inl ew_1497) (cShM_326 hsw4).1 (cShM_326 hsw4).2.1 (rShM_326_95 hsw4) ?_
        refine ea_iload_n (pc := 33) dX12_seat_33 rfl 1 rfl ?_
        refine ea_iload_n (pc := 34) dX12_seat_34 rfl 2 rfl ?_
        obtain ⟨H6, eH6, E⟩ := let_some E
        refine ea_iast (pc := 35) dX12_seat_35 (cShM_394 hsw4).1 (cShM_394 hsw4).2.1 (ea_vpl (cShM_394 hsw4).2.2 z5) ?_
        refine ea_nm eH6 ?_
        have hsH6 : ShM H6 := by rw [eH6]; exact hsw4
        refine ea_iconst (pc := 36) dX12_seat_36 (v := 1) rfl ?_
        exact ea_iretO (pc := 37) dX12_seat_37 rfl (ea_bn (Or.inr rfl)) E
      · have E := (if_pos c7).symm.trans E
        refine ea_iconst (pc := 27) dX12_seat_27 (v := 0) rfl ?_
        exact ea_iretO (pc := 28) dX12_seat_28 rfl (ea_bn (Or.inl rfl)) E
theorem kBX12_seat_0  {x1 : Int32} {x2 : Int32} {h : ea_H} : kp (ea_core h) (BX12_seat_0 x1 x2 h) :=
  (kp_bind (kp_tw (kpX12_isIn _ _ _ _) rfl) fun w1 hcw1 => (kp_ite (kp_ret hcw1) (kp_ite (kp_gd (kp_let (kp_ret hcw1))) (kp_bind (kp_tw (kpX12_isTrain _ _) hcw1) fun w4 hcw4 => (kp_ite (kp_ret hcw4) (kp_gd (kp_let (kp_ret hcw4))))))))
noncomputable def qX12_seat (x1 : Int32) (x2 : Int32) (h : ea_H) : Option (Int32 × ea_H) := BX12_seat_0 x1 x2 h
theorem sX12_seat {d : Nat} {x1 : Int32} {x2 : Int32} {h : ea_H} {r : Int32} {h' : ea_H} (hd : 3 ≤ d) (hs : ShM h) (K : qX12_seat x1 x2 h = some (r, h')) : ea_Met mX12_seat d [vR (some 326), vI x1, vI x2] h (some (vI r)) h' := by
  unfold qX12_seat at K
  have W := tBX12_seat_0 hd (h0 := h) K hs
  exact ea_enter rfl (Nat.le_of_ble_eq_true rfl) W
theorem kpX12_seat (x1 : Int32) (x2 : Int32) (h : ea_H) : kp (ea_core h) (qX12_seat x1 x2 h) := kBX12_seat_0
noncomputable def BX12_code_0 (x0 : Int32) (h : ea_H) : Option (Int32 × ea_H) :=
  (some ((((10 : Int32) * (x0 - x0 / (7 : Int32) * (7 : Int32))) + (x0 / (7 : Int32))), h))
theorem tBX12_code_0 {d : Nat} {h0 : ea_H} (hd : 1 ≤ d)  {x0 : Int32} {h : ea_H} {r : Int32} {h' : ea_H} (E : BX12_code_0 x0 h = some (r, h')) : ea_W mX12_code d h0 (some (vI r)) h' 0 [(0, vI x0)] [] h := by
  unfold BX12_code_0 at E
  refine ea_bipush (pc := 0) dX12_code_0 (v := 10) rfl ?_
  refine ea_iload_n (pc := 2) dX12_code_2 rfl 0 rfl ?_
  refine ea_bipush (pc := 3) dX12_code_3 (v := 7) rfl ?_
  refine ea_irem (pc := 5) dX12_code_5 (by decide) ?_
  refine ea_imul (pc := 6) dX12_code_6 ?_
  refine ea_iload_n (pc := 7) dX12_code_7 rfl 0 rfl ?_
  refine ea_bipush (pc := 8) dX12_code_8 (v := 7) rfl ?_
  refine ea_idiv (pc := 10) dX12_code_10 (by decide) ?_
  refine ea_iadd (pc := 11) dX12_code_11 ?_
  exact ea_iretO (pc := 12) dX12_code_12 rfl rfl E
theorem kBX12_code_0  {x0 : Int32} {h : ea_H} : kp (ea_core h) (BX12_code_0 x0 h) :=
  (kp_ret rfl)
noncomputable def qX12_code (x0 : Int32) (h : ea_H) : Option (Int32 × ea_H) := BX12_code_0 x0 h
theorem sX12_code {d : Nat} {x0 : Int32} {h : ea_H} {r : Int32} {h' : ea_H} (hd : 1 ≤ d) (K : qX12_code x0 h = some (r, h')) : ea_Met mX12_code d [vI x0] h (some (vI r)) h' := by
  unfold qX12_code at K
  have W := tBX12_code_0 hd (h0 := h) K
  exact ea_enter rfl (Nat.le_of_ble_eq_true rfl) W
theorem kpX12_code (x0 : Int32) (h : ea_H) : kp (ea_core h) (qX12_code x0 h) := kBX12_code_0
noncomputable def BX12_isAboard_0 (x1 : Int32) (x2 : Int32) (h : ea_H) : Option (Int32 × ea_H) :=
  (gd (vp_in x1 120) (if (ea_i h 381 (Int32.toNatClampNeg x1)) = (1 : Int32) then (gd (vp_in x1 120) (Option.bind (qX12_code (x2 : Int32) h) fun w3 => (if (ea_i h 382 (Int32.toNatClampNeg x1)) = w3.1 then (some ((1 : Int32), w3.2)) else (some ((0 : Int32), w3.2))))) else (some ((0 : Int32), h))))
theorem tBX12_isAboard_0 {d : Nat} {h0 : ea_H} (hd : 2 ≤ d)  {x1 : Int32} {x2 : Int32} {h : ea_H} {r : Int32} {h' : ea_H} (E : BX12_isAboard_0 x1 x2 h = some (r, h')) (hs : ShM h) : ea_W mX12_isAboard d h0 (some (vI r)) h' 0 [(0, vR (some 326)), (1, vI x1), (2, vI x2)] [] h := by
  unfold BX12_isAboard_0 at E
  obtain ⟨z1, E⟩ := gd_some E
  refine ea_aload_n (pc := 0) dX12_isAboard_0 rfl 0 rfl ?_
  refine ea_getR (pc := 1) dX12_isAboard_1 ec_12 (k := 81) (Nat.le_of_ble_eq_true rfl) rfl (Or.inl ew_1483) (cShM_326 hs).1 (cShM_326 hs).2.1 (rShM_326_81 hs) ?_
  refine ea_iload_n (pc := 4) dX12_isAboard_4 rfl 1 rfl ?_
  refine ea_iald (pc := 5) dX12_isAboard_5 (cShM_381 hs).1 (cShM_381 hs).2.1 (ea_vpl (cShM_381 hs).2.2 z1) ?_
  refine ea_iconst (pc := 6) dX12_isAboard_6 (v := 1) rfl ?_
  refine ea_icmp_ne (pc := 7) (tgt := 27) dX12_isAboard_7 rfl (fun c5 => ?_) (fun c5 => ?_)
  · have E := (if_neg c5).symm.trans E
    refine ea_iconst (pc := 27) dX12_isAboard_27 (v := 0) rfl ?_
    exact ea_iretO (pc := 28) dX12_isAboard_28 rfl (ea_bn (Or.inl rfl)) E
  · have E := (if_pos c5).symm.trans E
    obtain ⟨z2, E⟩ := gd_some E
    refine ea_aload_n (pc := 10) dX12_isAboard_10 rfl 0 rfl ?_
    refine ea_getR (pc := 11) dX12_isAboard_11 ec_12 (k := 82) (Nat.le_of_ble_eq_true rfl) rfl (Or.inl ew_1484) (cShM_326 hs).1 (cShM_326 hs).2.1 (rShM_326_82 hs) ?_
    refine ea_iload_n (pc := 14) dX12_isAboard_14 rfl 1 rfl ?_
    obtain ⟨w3, Ew3, E⟩ := bd_some E
    have hsw3 : ShM w3.2 := ShM_core ((kpX12_code _ _) _ Ew3) hs
    refine ea_iald (pc := 15) dX12_isAboard_15 (cShM_382 hs).1 (cShM_382 hs).2.1 (ea_vpl (cShM_382 hs).2.2 z2) ?_
    refine ea_iload_n (pc := 16) dX12_isAboard_16 rfl 2 rfl ?_
    refine ea_callS (pc := 17) (d' := d - 1) (As := [vI x2]) (st := [vI (ea_i h 382 (Int32.toNatClampNeg x1))]) dX12_isAboard_17 kX12_code (sX12_code (d := d - 1) (by omega) Ew3) (by omega) rfl (Nat.le_of_ble_eq_true rfl) ew_2128 ew_2129 ?_
    refine ea_icmp_ne (pc := 20) (tgt := 27) dX12_isAboard_20 rfl (fun c4 => ?_) (fun c4 => ?_)
    · have E := (if_neg c4).symm.trans E
      refine ea_iconst (pc := 27) dX12_isAboard_27 (v := 0) rfl ?_
      exact ea_iretO (pc := 28) dX12_isAboard_28 rfl (ea_bn (Or.inl rfl)) E
    · have E := (if_pos c4).symm.trans E
      refine ea_iconst (pc := 23) dX12_isAboard_23 (v := 1) rfl ?_
      refine ea_goto (pc := 24) (tgt := 28) dX12_isAboard_24 rfl ?_
      exact ea_iretO (pc := 28) dX12_isAboard_28 rfl (ea_bn (Or.inr rfl)) E
theorem kBX12_isAboard_0  {x1 : Int32} {x2 : Int32} {h : ea_H} : kp (ea_core h) (BX12_isAboard_0 x1 x2 h) :=
  (kp_gd (kp_ite (kp_gd (kp_bind (kp_tw (kpX12_code _ _) rfl) fun w3 hcw3 => (kp_ite (kp_ret hcw3) (kp_ret hcw3)))) (kp_ret rfl)))
noncomputable def qX12_isAboard (x1 : Int32) (x2 : Int32) (h : ea_H) : Option (Int32 × ea_H) := BX12_isAboard_0 x1 x2 h
theorem sX12_isAboard {d : Nat} {x1 : Int32} {x2 : Int32} {h : ea_H} {r : Int32} {h' : ea_H} (hd : 2 ≤ d) (hs : ShM h) (K : qX12_isAboard x1 x2 h = some (r, h')) : ea_Met mX12_isAboard d [vR (some 326), vI x1, vI x2] h (some (vI r)) h' := by
  unfold qX12_isAboard at K
  have W := tBX12_isAboard_0 hd (h0 := h) K hs
  exact ea_enter rfl (Nat.le_of_ble_eq_true rfl) W
theorem kpX12_isAboard (x1 : Int32) (x2 : Int32) (h : ea_H) : kp (ea_core h) (qX12_isAboard x1 x2 h) := kBX12_isAboard_0
noncomputable def BX12_putsDown_0 (J45 : Int32 → Int32 → Int32 → Int32 → Int32 → ea_H → Option (Unit × ea_H)) (x1 : Int32) (x2 : Int32) (x3 : Int32) (h : ea_H) : Option (Unit × ea_H) :=
  (gd (vp_in x1 120) (ea_let (ea_wi h 387 (Int32.toNatClampNeg x1) 0) fun H2 => (gd (vp_in x1 120) (ea_let (ea_wi H2 383 (Int32.toNatClampNeg x1) (-1)) fun H4 => (gd (vp_in x1 120) (if (ea_i H4 366 (Int32.toNatClampNeg x1)) = x3 then (gd (vp_in x1 120) (if (ea_i H4 380 (Int32.toNatClampNeg x1)) = (0 : Int32) then (J45 (x1 : Int32) (x3 : Int32) (2 : Int32) (x2 : Int32) (x1 : Int32) H4) else (J45 (x1 : Int32) (x3 : Int32) (3 : Int32) (x2 : Int32) (x1 : Int32) H4))) else (J45 (x1 : Int32) (x3 : Int32) (0 : Int32) (x2 : Int32) (x1 : Int32) H4)))))))
theorem tBX12_putsDown_0 {d : Nat} {h0 : ea_H} (hd : 2 ≤ d) {J45 : Int32 → Int32 → Int32 → Int32 → Int32 → ea_H → Option (Unit × ea_H)}  (kJ45 : ∀ (x1 : Int32) (x3 : Int32) (sx0 : Int32) (sx1 : Int32) (sx2 : Int32) (h : ea_H) (r : Unit) (h' : ea_H), J45 x1 x3 sx0 sx1 sx2 h = some (r, h') → ShM h → ea_W mX12_putsDown d h0 none h' 45 [(0, vR (some 326)), (1, vI x1), (3, vI x3)] [vI sx0, vI sx1, vI sx2, vR (some 326)] h) {x1 : Int32} {x2 : Int32} {x3 : Int32} {h : ea_H} {r : Unit} {h' : ea_H} (E : BX12_putsDown_0 J45 x1 x2 x3 h = some (r, h')) (hs : ShM h) : ea_W mX12_putsDown d h0 none h' 0 [(0, vR (some 326)), (1, vI x1), (2, vI x2), (3, vI x3)] [] h := by
  unfold BX12_putsDown_0 at E
  obtain ⟨z1, E⟩ := gd_some E
  refine ea_aload_n (pc := 0) dX12_putsDown_0 rfl 0 rfl ?_
  refine ea_getR (pc := 1) dX12_putsDown_1 ec_12 (k := 87) (Nat.le_of_ble_eq_true rfl) rfl (Or.inl ew_1489) (cShM_326 hs).1 (cShM_326 hs).2.1 (rShM_326_87 hs) ?_
  refine ea_iload_n (pc := 4) dX12_putsDown_4 rfl 1 rfl ?_
  refine ea_iconst (pc := 5) dX12_putsDown_5 (v := 0) rfl ?_
  obtain ⟨H2, eH2, E⟩ := let_some E
  refine ea_zast (pc := 6) dX12_putsDown_6 (y := 0) (ea_bn (Or.inl rfl)) (cShM_387 hs).1 (cShM_387 hs).2.1 (ea_vpl (cShM_387 hs).2.2 z1) ?_
  refine ea_nm eH2 ?_
  have hsH2 : ShM H2 := by rw [eH2]; exact hs
  obtain ⟨z3, E⟩ := gd_some E
  refine ea_aload_n (pc := 7) dX12_putsDown_7 rfl 0 rfl ?_
  refine ea_getR (pc := 8) dX12_putsDown_8 ec_12 (k := 83) (Nat.le_of_ble_eq_true rfl) rfl (Or.inl ew_1485) (cShM_326 hsH2).1 (cShM_326 hsH2).2.1 (rShM_326_83 hsH2) ?_
  refine ea_iload_n (pc := 11) dX12_putsDown_11 rfl 1 rfl ?_
  refine ea_iconst (pc := 12) dX12_putsDown_12 (v := (-1)) rfl ?_
  obtain ⟨H4, eH4, E⟩ := let_some E
  refine ea_iast (pc := 13) dX12_putsDown_13 (cShM_383 hsH2).1 (cShM_383 hsH2).2.1 (ea_vpl (cShM_383 hsH2).2.2 z3) ?_
  refine ea_nm eH4 ?_
  have hsH4 : ShM H4 := by rw [eH4]; exact hsH2
  obtain ⟨z5, E⟩ := gd_some E
  refine ea_aload_n (pc := 14) dX12_putsDown_14 rfl 0 rfl ?_
  refine ea_iload_n (pc := 15) dX12_putsDown_15 rfl 1 rfl ?_
  refine ea_iload_n (pc := 16) dX12_putsDown_16 rfl 2 rfl ?_
  refine ea_aload_n (pc := 17) dX12_putsDown_17 rfl 0 rfl ?_
  refine ea_getR (pc := 18) dX12_putsDown_18 ec_12 (k := 66) (Nat.le_of_ble_eq_true rfl) rfl (Or.inl ew_1468) (cShM_326 hsH4).1 (cShM_326 hsH4).2.1 (rShM_326_66 hsH4) ?_
  refine ea_iload_n (pc := 21) dX12_putsDown_21 rfl 1 rfl ?_
  refine ea_iald (pc := 22) dX12_putsDown_22 (cShM_366 hsH4).1 (cShM_366 hsH4).2.1 (ea_vpl (cShM_366 hsH4).2.2 z5) ?_
  refine ea_iload_n (pc := 23) dX12_putsDown_23 rfl 3 rfl ?_
  refine ea_icmp_eq (pc := 24) (tgt := 31) dX12_putsDown_24 rfl (fun c8 => ?_) (fun c8 => ?_)
  · have E := (if_pos c8).symm.trans E
    obtain ⟨z6, E⟩ := gd_some E
    refine ea_aload_n (pc := 31) dX12_putsDown_31 rfl 0 rfl ?_
    refine ea_getR (pc := 32) dX12_putsDown_32 ec_12 (k := 80) (Nat.le_of_ble_eq_true rfl) rfl (Or.inl ew_1482) (cShM_326 hsH4).1 (cShM_326 hsH4).2.1 (rShM_326_80 hsH4) ?_
    refine ea_iload_n (pc := 35) dX12_putsDown_35 rfl 1 rfl ?_
    refine ea_zald (pc := 36) dX12_putsDown_36 (cShM_380 hsH4).1 (cShM_380 hsH4).2.1 (ea_vpl (cShM_380 hsH4).2.2 z6) ?_
    refine ea_if_eq (pc := 37) (tgt := 44) dX12_putsDown_37 rfl (fun c7 => ?_) (fun c7 => ?_)
    · have E := (if_pos c7).symm.trans E
      refine ea_iconst (pc := 44) dX12_putsDown_44 (v := 2) rfl ?_
      exact ea_fewer [0, 1, 3] rfl (kJ45 (x1 : Int32) (x3 : Int32) (2 : Int32) (x2 : Int32) (x1 : Int32) H4 _ _ E hsH4)
    · have E := (if_neg c7).symm.trans E
      refine ea_iconst (pc := 40) dX12_putsDown_40 (v := 3) rfl ?_
      refine ea_goto (pc := 41) (tgt := 45) dX12_putsDown_41 rfl ?_
      exact ea_fewer [0, 1, 3] rfl (kJ45 (x1 : Int32) (x3 : Int32) (3 : Int32) (x2 : Int32) (x1 : Int32) H4 _ _ E hsH4)
  · have E := (if_neg c8).symm.trans E
    refine ea_iconst (pc := 27) dX12_putsDown_27 (v := 0) rfl ?_
    refine ea_goto (pc := 28) (tgt := 45) dX12_putsDown_28 rfl ?_
    exact ea_fewer [0, 1, 3] rfl (kJ45 (x1 : Int32) (x3 : Int32) (0 : Int32) (x2 : Int32) (x1 : Int32) H4 _ _ E hsH4)
theorem kBX12_putsDown_0 {J45 : Int32 → Int32 → Int32 → Int32 → Int32 → ea_H → Option (Unit × ea_H)}  (cJ45 : ∀ (x1 : Int32) (x3 : Int32) (sx0 : Int32) (sx1 : Int32) (sx2 : Int32) (h : ea_H), kp (ea_core h) (J45 x1 x3 sx0 sx1 sx2 h)) {x1 : Int32} {x2 : Int32} {x3 : Int32} {h : ea_H} : kp (ea_core h) (BX12_putsDown_0 J45 x1 x2 x3 h) :=
  (kp_gd (kp_let (kp_gd (kp_let (kp_gd (kp_ite (kp_gd (kp_ite (kp_tw (cJ45 _ _ _ _ _ _) rfl) (kp_tw (cJ45 _ _ _ _ _ _) rfl))) (kp_tw (cJ45 _ _ _ _ _ _) rfl)))))))
theorem lBX12_putsDown_0 {J45 : Int32 → Int32 → Int32 → Int32 → Int32 → ea_H → Option (Unit × ea_H)} {J45_ : Int32 → Int32 → Int32 → Int32 → Int32 → ea_H → Option (Unit × ea_H)}  (mJ45 : ∀ (x1 : Int32) (x3 : Int32) (sx0 : Int32) (sx1 : Int32) (sx2 : Int32) (h : ea_H), fle (J45 x1 x3 sx0 sx1 sx2 h) (J45_ x1 x3 sx0 sx1 sx2 h)) {x1 : Int32} {x2 : Int32} {x3 : Int32} {h : ea_H} : fle (BX12_putsDown_0 J45 x1 x2 x3 h) (BX12_putsDown_0 J45_ x1 x2 x3 h) :=
  (fle_gd (fle_let fun _ => (fle_gd (fle_let fun _ => (fle_gd (fle_ite (fle_gd (fle_ite (mJ45 _ _ _ _ _ _) (mJ45 _ _ _ _ _ _))) (mJ45 _ _ _ _ _ _)))))))
theorem nBX12_putsDown_0 {J45 : Int32 → Int32 → Int32 → Int32 → Int32 → ea_H → Option (Unit × ea_H)} {J45_ : Nat → (Int32 → Int32 → Int32 → Int32 → Int32 → ea_H → Option (Unit × ea_H))}  (mJ45 : ∀ (x1 : Int32) (x3 : Int32) (sx0 : Int32) (sx1 : Int32) (sx2 : Int32) (h : ea_H), fct (J45 x1 x3 sx0 sx1 sx2 h) (fun f => J45_ f x1 x3 sx0 sx1 sx2 h)) {x1 : Int32} {x2 : Int32} {x3 : Int32} {h : ea_H} : fct (BX12_putsDown_0 J45 x1 x2 x3 h) (fun f => BX12_putsDown_0 (J45_ f) x1 x2 x3 h) :=
  (fct_gd (fct_let fun _ => (fct_gd (fct_let fun _ => (fct_gd (fct_ite (fct_gd (fct_ite (mJ45 _ _ _ _ _ _) (mJ45 _ _ _ _ _ _))) (mJ45 _ _ _ _ _ _)))))))
noncomputable def BX12_putsDown_45 (x1 : Int32) (x3 : Int32) (sx0 : Int32) (sx1 : Int32) (sx2 : Int32) (h : ea_H) : Option (Unit × ea_H) :=
  (Option.bind (qX12_turns (sx2 : Int32) (sx1 : Int32) (sx0 : Int32) (x3 : Int32) h) fun w9 => (gd (vp_in x1 120) (if (ea_i w9.2 381 (Int32.toNatClampNeg x1)) = (3 : Int32) then (gd (vp_in x1 120) (ea_let (ea_wi w9.2 377 (Int32.toNatClampNeg x1) 0) fun H12 => (some ((), H12)))) else (some ((), w9.2)))))
theorem tBX12_putsDown_45 {d : Nat} {h0 : ea_H} (hd : 2 ≤ d)  {x1 : Int32} {x3 : Int32} {sx0 : Int32} {sx1 : Int32} {sx2 : Int32} {h : ea_H} {r : Unit} {h' : ea_H} (E : BX12_putsDown_45 x1 x3 sx0 sx1 sx2 h = some (r, h')) (hs : ShM h) : ea_W mX12_putsDown d h0 none h' 45 [(0, vR (some 326)), (1, vI x1), (3, vI x3)] [vI sx0, vI sx1, vI sx2, vR (some 326)] h := by
  unfold BX12_putsDown_45 at E
  obtain ⟨w9, Ew9, E⟩ := bd_some E
  have hsw9 : ShM w9.2 := ShM_core ((kpX12_turns _ _ _ _ _) _ Ew9) hs
  refine ea_iload_n (pc := 45) dX12_putsDown_45 rfl 2 rfl ?_
  refine ea_callV (pc := 46) (d' := d - 1) (As := [vI sx2, vI sx1, vI sx0, vI x3]) (st := []) dX12_putsDown_46 kX12_turns (sX12_turns (d := d - 1) (by omega) hs Ew9) (by omega) rfl (Nat.le_of_ble_eq_true rfl) ew_2068 ew_2070 ew_95 (ci := 12) rfl (by decide) (cShM_326 hs).1 (cShM_326 hs).2.1 ?_
  obtain ⟨z10, E⟩ := gd_some E
  refine ea_aload_n (pc := 49) dX12_putsDown_49 rfl 0 rfl ?_
  refine ea_getR (pc := 50) dX12_putsDown_50 ec_12 (k := 81) (Nat.le_of_ble_eq_true rfl) rfl (Or.inl ew_1483) (cShM_326 hsw9).1 (cShM_326 hsw9).2.1 (rShM_326_81 hsw9) ?_
  refine ea_iload_n (pc := 53) dX12_putsDown_53 rfl 1 rfl ?_
  refine ea_iald (pc := 54) dX12_putsDown_54 (cShM_381 hsw9).1 (cShM_381 hsw9).2.1 (ea_vpl (cShM_381 hsw9).2.2 z10) ?_
  refine ea_iconst (pc := 55) dX12_putsDown_55 (v := 3) rfl ?_
  refine ea_icmp_ne (pc := 56) (tgt := 66) dX12_putsDown_56 rfl (fun c13 => ?_) (fun c13 => ?_)
  · have E := (if_neg c13).symm.trans E
    exact ea_vretO (pc := 66) dX12_putsDown_66 rfl E
  · have E := (if_pos c13).symm.trans E
    obtain ⟨z11, E⟩ := gd_some E
    refine ea_aload_n (pc := 59) dX12_putsDown_59 rfl 0 rfl ?_
    refine ea_getR (pc := 60) dX12_putsDown_60 ec_12 (k := 77) (Nat.le_of_ble_eq_true rfl) rfl (Or.inl ew_1479) (cShM_326 hsw9).1 (cShM_326 hsw9).2.1 (rShM_326_77 hsw9) ?_
    refine ea_iload_n (pc := 63) dX12_putsDown_63 rfl 1 rfl ?_
    refine ea_iconst (pc := 64) dX12_putsDown_64 (v := 0) rfl ?_
    obtain ⟨H12, eH12, E⟩ := let_some E
    refine ea_iast (pc := 65) dX12_putsDown_65 (cShM_377 hsw9).1 (cShM_377 hsw9).2.1 (ea_vpl (cShM_377 hsw9).2.2 z11) ?_
    refine ea_nm eH12 ?_
    have hsH12 : ShM H12 := by rw [eH12]; exact hsw9
    exact ea_vretO (pc := 66) dX12_putsDown_66 rfl E
theorem kBX12_putsDown_45  {x1 : Int32} {x3 : Int32} {sx0 : Int32} {sx1 : Int32} {sx2 : Int32} {h : ea_H} : kp (ea_core h) (BX12_putsDown_45 x1 x3 sx0 sx1 sx2 h) :=
  (kp_bind (kp_tw (kpX12_turns _ _ _ _ _) rfl) fun w9 hcw9 => (kp_gd (kp_ite (kp_gd (kp_let (kp_ret hcw9))) (kp_ret hcw9))))
theorem lBX12_putsDown_45  {x1 : Int32} {x3 : Int32} {sx0 : Int32} {sx1 : Int32} {sx2 : Int32} {h : ea_H} : fle (BX12_putsDown_45 x1 x3 sx0 sx1 sx2 h) (BX12_putsDown_45 x1 x3 sx0 sx1 sx2 h) :=
  (fle_rfl _)
theorem nBX12_putsDown_45  {x1 : Int32} {x3 : Int32} {sx0 : Int32} {sx1 : Int32} {sx2 : Int32} {h : ea_H} : fct (BX12_putsDown_45 x1 x3 sx0 sx1 sx2 h) (fun f => BX12_putsDown_45 x1 x3 sx0 sx1 sx2 h) :=
  (fct_rfl _)
noncomputable def gX12_putsDown : Nat → (Int32 → Int32 → Int32 → ea_H → Option (Unit × ea_H)) × (Int32 → Int32 → Int32 → Int32 → Int32 → ea_H → Option (Unit × ea_H))
  | 0 => (fun _ _ _ _ => none, fun _ _ _ _ _ _ => none)
  | f + 1 => (BX12_putsDown_0 (gX12_putsDown f).2, BX12_putsDown_45)
theorem mgX12_putsDown : ∀ f : Nat, (∀ (x1 : Int32) (x2 : Int32) (x3 : Int32) (h : ea_H), fle ((gX12_putsDown f).1 x1 x2 x3 h) ((gX12_putsDown (f + 1)).1 x1 x2 x3 h)) ∧ (∀ (x1 : Int32) (x3 : Int32) (sx0 : Int32) (sx1 : Int32) (sx2 : Int32) (h : ea_H), fle ((gX12_putsDown f).2 x1 x3 sx0 sx1 sx2 h) ((gX12_putsDown (f + 1)).2 x1 x3 sx0 sx1 sx2 h)) := by
  intro f
  induction f with
  | zero => exact ⟨fun _ _ _ _ => fle_none _, fun _ _ _ _ _ _ => fle_none _⟩
  | succ f ih => exact ⟨fun _ _ _ _ => lBX12_putsDown_0 ih.2, fun _ _ _ _ _ _ => lBX12_putsDown_45⟩
noncomputable def qX12_putsDown_0 (x1 : Int32) (x2 : Int32) (x3 : Int32) (h : ea_H) : Option (Unit × ea_H) := flim fun f => (gX12_putsDown f).1 x1 x2 x3 h
noncomputable def qX12_putsDown_45 (x1 : Int32) (x3 : Int32) (sx0 : Int32) (sx1 : Int32) (sx2 : Int32) (h : ea_H) : Option (Unit × ea_H) := flim fun f => (gX12_putsDown f).2 x1 x3 sx0 sx1 sx2 h
theorem fqX12_putsDown_0 (x1 : Int32) (x2 : Int32) (x3 : Int32) (h : ea_H) : fct (qX12_putsDown_0 x1 x2 x3 h) fun f => (gX12_putsDown f).1 x1 x2 x3 h := flim_ct fun f => (mgX12_putsDown f).1 x1 x2 x3 h
theorem fqX12_putsDown_45 (x1 : Int32) (x3 : Int32) (sx0 : Int32) (sx1 : Int32) (sx2 : Int32) (h : ea_H) : fct (qX12_putsDown_45 x1 x3 sx0 sx1 sx2 h) fun f => (gX12_putsDown f).2 x1 x3 sx0 sx1 sx2 h := flim_ct fun f => (mgX12_putsDown f).2 x1 x3 sx0 sx1 sx2 h
/-- how a block opens -/
theorem uqX12_putsDown_0 {x1 : Int32} {x2 : Int32} {x3 : Int32} {h : ea_H} {P : Unit × ea_H → Prop} (H : sat (BX12_putsDown_0 qX12_putsDown_45 x1 x2 x3 h) P) : sat (qX12_putsDown_0 x1 x2 x3 h) P := by
  obtain ⟨x, e, hp⟩ := H
  obtain ⟨n, hn⟩ := nBX12_putsDown_0 fqX12_putsDown_45 x e
  exact ⟨x, flim_at (fun f => (mgX12_putsDown f).1 x1 x2 x3 h) (f := n + 1) (hn n (Nat.le_refl _)), hp⟩
/-- how a block opens -/
theorem uqX12_putsDown_45 {x1 : Int32} {x3 : Int32} {sx0 : Int32} {sx1 : Int32} {sx2 : Int32} {h : ea_H} {P : Unit × ea_H → Prop} (H : sat (BX12_putsDown_45 x1 x3 sx0 sx1 sx2 h) P) : sat (qX12_putsDown_45 x1 x3 sx0 sx1 sx2 h) P := by
  obtain ⟨x, e, hp⟩ := H
  obtain ⟨n, hn⟩ := nBX12_putsDown_45 x e
  exact ⟨x, flim_at (fun f => (mgX12_putsDown f).2 x1 x3 sx0 sx1 sx2 h) (f := n + 1) (hn n (Nat.le_refl _)), hp⟩
theorem kgX12_putsDown : ∀ f : Nat, (∀ (x1 : Int32) (x2 : Int32) (x3 : Int32) (h : ea_H), kp (ea_core h) ((gX12_putsDown f).1 x1 x2 x3 h)) ∧ (∀ (x1 : Int32) (x3 : Int32) (sx0 : Int32) (sx1 : Int32) (sx2 : Int32) (h : ea_H), kp (ea_core h) ((gX12_putsDown f).2 x1 x3 sx0 sx1 sx2 h)) := by
  intro f
  induction f with
  | zero => exact ⟨fun _ _ _ _ => kp_none _, fun _ _ _ _ _ _ => kp_none _⟩
  | succ f ih => exact ⟨fun _ _ _ _ => kBX12_putsDown_0 ih.2, fun _ _ _ _ _ _ => kBX12_putsDown_45⟩
theorem tgX12_putsDown {d : Nat} {h0 : ea_H} (hd : 2 ≤ d) : ∀ f : Nat, (∀ (x1 : Int32) (x2 : Int32) (x3 : Int32) (h : ea_H) (r : Unit) (h' : ea_H), (gX12_putsDown f).1 x1 x2 x3 h = some (r, h') → ShM h → ea_W mX12_putsDown d h0 none h' 0 [(0, vR (some 326)), (1, vI x1), (2, vI x2), (3, vI x3)] [] h) ∧ (∀ (x1 : Int32) (x3 : Int32) (sx0 : Int32) (sx1 : Int32) (sx2 : Int32) (h : ea_H) (r : Unit) (h' : ea_H), (gX12_putsDown f).2 x1 x3 sx0 sx1 sx2 h = some (r, h') → ShM h → ea_W mX12_putsDown d h0 none h' 45 [(0, vR (some 326)), (1, vI x1), (3, vI x3)] [vI sx0, vI sx1, vI sx2, vR (some 326)] h) := by
  intro f
  induction f with
  | zero => exact ⟨fun _ _ _ _ _ _ E => no_some E, fun _ _ _ _ _ _ _ _ E => no_some E⟩
  | succ f ih => exact ⟨fun _ _ _ _ _ _ E hs => tBX12_putsDown_0 hd ih.2 E hs, fun _ _ _ _ _ _ _ _ E hs => tBX12_putsDown_45 hd E hs⟩
noncomputable def qX12_putsDown (x1 : Int32) (x2 : Int32) (x3 : Int32) (h : ea_H) : Option (Unit × ea_H) := qX12_putsDown_0 x1 x2 x3 h
theorem sX12_putsDown {d : Nat} {x1 : Int32} {x2 : Int32} {x3 : Int32} {h : ea_H} {r : Unit} {h' : ea_H} (hd : 2 ≤ d) (hs : ShM h) (K : qX12_putsDown x1 x2 x3 h = some (r, h')) : ea_Met mX12_putsDown d [vR (some 326), vI x1, vI x2, vI x3] h none h' := by
  unfold qX12_putsDown at K
  obtain ⟨n, hn⟩ := fqX12_putsDown_0 x1 x2 x3 h _ K
  have W := (tgX12_putsDown (d := d) (h0 := h) hd n).1 x1 x2 x3 h _ _ (hn n (Nat.le_refl _)) hs
  exact ea_enter rfl (Nat.le_of_ble_eq_true rfl) W
theorem kpX12_putsDown (x1 : Int32) (x2 : Int32) (x3 : Int32) (h : ea_H) : kp (ea_core h) (qX12_putsDown x1 x2 x3 h) := fun x e => by
  obtain ⟨n, hn⟩ := fqX12_putsDown_0 x1 x2 x3 h x e
  exact (kgX12_putsDown n).1 x1 x2 x3 h x (hn n (Nat.le_refl _))
noncomputable def BX12_coming_0 (J34 : Int32 → Int32 → Int32 → Int32 → ea_H → Option (Unit × ea_H)) (x1 : Int32) (h : ea_H) : Option (Unit × ea_H) :=
  (gd (vp_in x1 1000) (ea_let (ea_i h 338 (Int32.toNatClampNeg x1)) fun (v2 : Int32) => (gd (vp_in x1 1000) (ea_let (ea_i h 339 (Int32.toNatClampNeg x1)) fun (v4 : Int32) => (gd (vp_in (v2 / (7 : Int32)) 10) (if v4 = ((ea_i h 328 (Int32.toNatClampNeg (v2 / (7 : Int32)))) - (1 : Int32)) then (J34 (x1 : Int32) (v2 : Int32) (v4 : Int32) (1 : Int32) h) else (J34 (x1 : Int32) (v2 : Int32) (v4 : Int32) (0 : Int32) h)))))))
theorem tBX12_coming_0 {d : Nat} {h0 : ea_H} (hd : 3 ≤ d) {J34 : Int32 → Int32 → Int32 → Int32 → ea_H → Option (Unit × ea_H)}  (kJ34 : ∀ (x1 : Int32) (x2 : Int32) (x3 : Int32) (sx0 : Int32) (h : ea_H) (r : Unit) (h' : ea_H), J34 x1 x2 x3 sx0 h = some (r, h') → ShM h → ea_W mX12_coming d h0 none h' 34 [(0, vR (some 326)), (1, vI x1), (2, vI x2), (3, vI x3)] [vI sx0] h) {x1 : Int32} {h : ea_H} {r : Unit} {h' : ea_H} (E : BX12_coming_0 J34 x1 h = some (r, h')) (hs : ShM h) : ea_W mX12_coming d h0 none h' 0 [(0, vR (some 326)), (1, vI x1)] [] h := by
  unfold BX12_coming_0 at E
  obtain ⟨z1, E⟩ := gd_some E
  refine ea_aload_n (pc := 0) dX12_coming_0 rfl 0 rfl ?_
  refine ea_getR (pc := 1) dX12_coming_1 ec_12 (k := 16) (Nat.le_of_ble_eq_true rfl) rfl (Or.inl ew_1418) (cShM_326 hs).1 (cShM_326 hs).2.1 (rShM_326_16 hs) ?_
  refine ea_iload_n (pc := 4) dX12_coming_4 rfl 1 rfl ?_
  obtain ⟨v2, ev2, E⟩ := let_some E
  refine ea_iald (pc := 5) dX12_coming_5 (cShM_338 hs).1 (cShM_338 hs).2.1 (ea_vpl (cShM_338 hs).2.2 z1) ?_
  obtain ⟨z3, E⟩ := gd_some E
  refine ea_istore_n (pc := 6) (lv' := [(0, vR (some 326)), (1, vI x1), (2, vI v2)]) dX12_coming_6 rfl (Nat.le_of_ble_eq_true rfl) [1, 2, 0] (by rw [ev2]; rfl) ?_
  refine ea_aload_n (pc := 7) dX12_coming_7 rfl 0 rfl ?_
  refine ea_getR (pc := 8) dX12_coming_8 ec_12 (k := 17) (Nat.le_of_ble_eq_true rfl) rfl (Or.inl ew_1419) (cShM_326 hs).1 (cShM_326 hs).2.1 (rShM_326_17 hs) ?_
  refine ea_iload_n (pc := 11) dX12_coming_11 rfl 1 rfl ?_
  obtain ⟨v4, ev4, E⟩ := let_some E
  refine ea_iald (pc := 12) dX12_coming_12 (cShM_339 hs).1 (cShM_339 hs).2.1 (ea_vpl (cShM_339 hs).2.2 z3) ?_
  obtain ⟨z5, E⟩ := gd_some E
  refine ea_istore_n (pc := 13) (lv' := [(0, vR (some 326)), (1, vI x1), (2, vI v2), (3, vI v4)]) dX12_coming_13 rfl (Nat.le_of_ble_eq_true rfl) [1, 2, 3, 0] (by rw [ev4]; rfl) ?_
  refine ea_iload_n (pc := 14) dX12_coming_14 rfl 3 rfl ?_
  refine ea_aload_n (pc := 15) dX12_coming_15 rfl 0 rfl ?_
  refine ea_getR (pc := 16) dX12_coming_16 ec_12 (k := 4) (Nat.le_of_ble_eq_true rfl) rfl (Or.inl ew_1406) (cShM_326 hs).1 (cShM_326 hs).2.1 (rShM_326_4 hs) ?_
  refine ea_iload_n (pc := 19) dX12_coming_19 rfl 2 rfl ?_
  refine ea_bipush (pc := 20) dX12_coming_20 (v := 7) rfl ?_
  refine ea_idiv (pc := 22) dX12_coming_22 (by decide) ?_
  refine ea_iald (pc := 23) dX12_coming_23 (cShM_328 hs).1 (cShM_328 hs).2.1 (ea_vpl (cShM_328 hs).2.2 z5) ?_
  refine ea_iconst (pc := 24) dX12_coming_24 (v := 1) rfl ?_
  refine ea_isub (pc := 25) dX12_coming_25 ?_
  refine ea_icmp_ne (pc := 26) (tgt := 33) dX12_coming_26 rfl (fun c6 => ?_) (fun c6 => ?_)
  · have E := (if_neg c6).symm.trans E
    refine ea_iconst (pc := 33) dX12_coming_33 (v := 0) rfl ?_
    exact (kJ34 (x1 : Int32) (v2 : Int32) (v4 : Int32) (0 : Int32) h _ _ E hs)
  · have E := (if_pos c6).symm.trans E
    refine ea_iconst (pc := 29) dX12_coming_29 (v := 1) rfl ?_
    refine ea_goto (pc := 30) (tgt := 34) dX12_coming_30 rfl ?_
    exact (kJ34 (x1 : Int32) (v2 : Int32) (v4 : Int32) (1 : Int32) h _ _ E hs)
theorem kBX12_coming_0 {J34 : Int32 → Int32 → Int32 → Int32 → ea_H → Option (Unit × ea_H)}  (cJ34 : ∀ (x1 : Int32) (x2 : Int32) (x3 : Int32) (sx0 : Int32) (h : ea_H), kp (ea_core h) (J34 x1 x2 x3 sx0 h)) {x1 : Int32} {h : ea_H} : kp (ea_core h) (BX12_coming_0 J34 x1 h) :=
  (kp_gd (kp_let (kp_gd (kp_let (kp_gd (kp_ite (kp_tw (cJ34 _ _ _ _ _) rfl) (kp_tw (cJ34 _ _ _ _ _) rfl)))))))
theorem lBX12_coming_0 {J34 : Int32 → Int32 → Int32 → Int32 → ea_H → Option (Unit × ea_H)} {J34_ : Int32 → Int32 → Int32 → Int32 → ea_H → Option (Unit × ea_H)}  (mJ34 : ∀ (x1 : Int32) (x2 : Int32) (x3 : Int32) (sx0 : Int32) (h : ea_H), fle (J34 x1 x2 x3 sx0 h) (J34_ x1 x2 x3 sx0 h)) {x1 : Int32} {h : ea_H} : fle (BX12_coming_0 J34 x1 h) (BX12_coming_0 J34_ x1 h) :=
  (fle_gd (fle_let fun _ => (fle_gd (fle_let fun _ => (fle_gd (fle_ite (mJ34 _ _ _ _ _) (mJ34 _ _ _ _ _)))))))
theorem nBX12_coming_0 {J34 : Int32 → Int32 → Int32 → Int32 → ea_H → Option (Unit × ea_H)} {J34_ : Nat → (Int32 → Int32 → Int32 → Int32 → ea_H → Option (Unit × ea_H))}  (mJ34 : ∀ (x1 : Int32) (x2 : Int32) (x3 : Int32) (sx0 : Int32) (h : ea_H), fct (J34 x1 x2 x3 sx0 h) (fun f => J34_ f x1 x2 x3 sx0 h)) {x1 : Int32} {h : ea_H} : fct (BX12_coming_0 J34 x1 h) (fun f => BX12_coming_0 (J34_ f) x1 h) :=
  (fct_gd (fct_let fun _ => (fct_gd (fct_let fun _ => (fct_gd (fct_ite (mJ34 _ _ _ _ _) (mJ34 _ _ _ _ _)))))))
noncomputable def BX12_coming_34 (J54 : Int32 → Int32 → Int32 → Int32 → Int32 → ea_H → Option (Unit × ea_H)) (x1 : Int32) (x2 : Int32) (x3 : Int32) (sx0 : Int32) (h : ea_H) : Option (Unit × ea_H) :=
  (gd (vp_in (((8 : Int32) * x2) + x3) 560) (if (ea_i h 334 (Int32.toNatClampNeg (((8 : Int32) * x2) + x3))) = (0 : Int32) then (J54 (x1 : Int32) (x2 : Int32) (x3 : Int32) (sx0 : Int32) (0 : Int32) h) else (some ((), h))))
theorem tBX12_coming_34 {d : Nat} {h0 : ea_H} (hd : 3 ≤ d) {J54 : Int32 → Int32 → Int32 → Int32 → Int32 → ea_H → Option (Unit × ea_H)}  (kJ54 : ∀ (x1 : Int32) (x2 : Int32) (x3 : Int32) (x4 : Int32) (x5 : Int32) (h : ea_H) (r : Unit) (h' : ea_H), J54 x1 x2 x3 x4 x5 h = some (r, h') → ShM h → ea_W mX12_coming d h0 none h' 54 [(0, vR (some 326)), (1, vI x1), (2, vI x2), (3, vI x3), (4, vI x4), (5, vI x5)] [] h) {x1 : Int32} {x2 : Int32} {x3 : Int32} {sx0 : Int32} {h : ea_H} {r : Unit} {h' : ea_H} (E : BX12_coming_34 J54 x1 x2 x3 sx0 h = some (r, h')) (hs : ShM h) : ea_W mX12_coming d h0 none h' 34 [(0, vR (some 326)), (1, vI x1), (2, vI x2), (3, vI x3)] [vI sx0] h := by
  unfold BX12_coming_34 at E
  obtain ⟨z7, E⟩ := gd_some E
  refine ea_istore (pc := 34) (lv' := [(0, vR (some 326)), (1, vI x1), (2, vI x2), (3, vI x3), (4, vI sx0)]) dX12_coming_34 (Nat.le_of_ble_eq_true rfl) [1, 2, 3, 4, 0] rfl ?_
  refine ea_aload_n (pc := 36) dX12_coming_36 rfl 0 rfl ?_
  refine ea_getR (pc := 37) dX12_coming_37 ec_12 (k := 10) (Nat.le_of_ble_eq_true rfl) rfl (Or.inl ew_1412) (cShM_326 hs).1 (cShM_326 hs).2.1 (rShM_326_10 hs) ?_
  refine ea_bipush (pc := 40) dX12_coming_40 (v := 8) rfl ?_
  refine ea_iload_n (pc := 42) dX12_coming_42 rfl 2 rfl ?_
  refine ea_imul (pc := 43) dX12_coming_43 ?_
  refine ea_iload_n (pc := 44) dX12_coming_44 rfl 3 rfl ?_
  refine ea_iadd (pc := 45) dX12_coming_45 ?_
  refine ea_zald (pc := 46) dX12_coming_46 (cShM_334 hs).1 (cShM_334 hs).2.1 (ea_vpl (cShM_334 hs).2.2 z7) ?_
  refine ea_if_eq (pc := 47) (tgt := 51) dX12_coming_47 rfl (fun c8 => ?_) (fun c8 => ?_)
  · have E := (if_pos c8).symm.trans E
    refine ea_iconst (pc := 51) dX12_coming_51 (v := 0) rfl ?_
    refine ea_istore (pc := 52) (lv' := [(0, vR (some 326)), (1, vI x1), (2, vI x2), (3, vI x3), (4, vI sx0), (5, vI 0)]) dX12_coming_52 (Nat.le_of_ble_eq_true rfl) [1, 2, 3, 4, 5, 0] rfl ?_
    exact (kJ54 (x1 : Int32) (x2 : Int32) (x3 : Int32) (sx0 : Int32) (0 : Int32) h _ _ E hs)
  · have E := (if_neg c8).symm.trans E
    exact ea_vretO (pc := 50) dX12_coming_50 rfl E
theorem kBX12_coming_34 {J54 : Int32 → Int32 → Int32 → Int32 → Int32 → ea_H → Option (Unit × ea_H)}  (cJ54 : ∀ (x1 : Int32) (x2 : Int32) (x3 : Int32) (x4 : Int32) (x5 : Int32) (h : ea_H), kp (ea_core h) (J54 x1 x2 x3 x4 x5 h)) {x1 : Int32} {x2 : Int32} {x3 : Int32} {sx0 : Int32} {h : ea_H} : kp (ea_core h) (BX12_coming_34 J54 x1 x2 x3 sx0 h) :=
  (kp_gd (kp_ite (kp_tw (cJ54 _ _ _ _ _ _) rfl) (kp_ret rfl)))
theorem lBX12_coming_34 {J54 : Int32 → Int32 → Int32 → Int32 → Int32 → ea_H → Option (Unit × ea_H)} {J54_ : Int32 → Int32 → Int32 → Int32 → Int32 → ea_H → Option (Unit × ea_H)}  (mJ54 : ∀ (x1 : Int32) (x2 : Int32) (x3 : Int32) (x4 : Int32) (x5 : Int32) (h : ea_H), fle (J54 x1 x2 x3 x4 x5 h) (J54_ x1 x2 x3 x4 x5 h)) {x1 : Int32} {x2 : Int32} {x3 : Int32} {sx0 : Int32} {h : ea_H} : fle (BX12_coming_34 J54 x1 x2 x3 sx0 h) (BX12_coming_34 J54_ x1 x2 x3 sx0 h) :=
  (fle_gd (fle_ite (mJ54 _ _ _ _ _ _) (fle_rfl _)))
theorem nBX12_coming_34 {J54 : Int32 → Int32 → Int32 → Int32 → Int32 → ea_H → Option (Unit × ea_H)} {J54_ : Nat → (Int32 → Int32 → Int32 → Int32 → Int32 → ea_H → Option (Unit × ea_H))}  (mJ54 : ∀ (x1 : Int32) (x2 : Int32) (x3 : Int32) (x4 : Int32) (x5 : Int32) (h : ea_H), fct (J54 x1 x2 x3 x4 x5 h) (fun f => J54_ f x1 x2 x3 x4 x5 h)) {x1 : Int32} {x2 : Int32} {x3 : Int32} {sx0 : Int32} {h : ea_H} : fct (BX12_coming_34 J54 x1 x2 x3 sx0 h) (fun f => BX12_coming_34 (J54_ f) x1 x2 x3 sx0 h) :=
  (fct_gd (fct_ite (mJ54 _ _ _ _ _ _) (fct_rfl _)))
noncomputable def BX12_coming_54 (J54 : Int32 → Int32 → Int32 → Int32 → Int32 → ea_H → Option (Unit × ea_H)) (J118 : Int32 → Int32 → Int32 → Int32 → Int32 → ea_H → Option (Unit × ea_H)) (x1 : Int32) (x2 : Int32) (x3 : Int32) (x4 : Int32) (x5 : Int32) (h : ea_H) : Option (Unit × ea_H) :=
  (if (ea_i h 326 63) ≤ x5 then (some ((), h)) else (Option.bind (qX12_isAboard (x5 : Int32) (x2 : Int32) h) fun w9 => (if w9.1 = (0 : Int32) then (J54 (x1 : Int32) (x2 : Int32) (x3 : Int32) (x4 : Int32) ((x5 + (1 : Int32)) : Int32) w9.2) else (gd (vp_in x5 120) (if (ea_i w9.2 387 (Int32.toNatClampNeg x5)) = (0 : Int32) then (J118 (x1 : Int32) (x2 : Int32) (x3 : Int32) (x4 : Int32) (x5 : Int32) w9.2) else (gd (vp_in x5 120) (if x3 < (ea_i w9.2 383 (Int32.toNatClampNeg x5)) then (J118 (x1 : Int32) (x2 : Int32) (x3 : Int32) (x4 : Int32) (x5 : Int32) w9.2) else (gd (vp_in x1 1000) (Option.bind (qX12_townOf (x2 : Int32) (x3 : Int32) w9.2) fun w13 => (Option.bind (qX12_putsDown (x5 : Int32) ((ea_i w9.2 336 (Int32.toNatClampNeg x1)) : Int32) (w13.1 : Int32) w13.2) fun w14 => (J54 (x1 : Int32) (x2 : Int32) (x3 : Int32) (x4 : Int32) ((x5 + (1 : Int32)) : Int32) w14.2)))))))))))
theorem tBX12_coming_54 {d : Nat} {h0 : ea_H} (hd : 3 ≤ d) {J54 : Int32 → Int32 → Int32 → Int32 → Int32 → ea_H → Option (Unit × ea_H)} {J118 : Int32 → Int32 → Int32 → Int32 → Int32 → ea_H → Option (Unit × ea_H)}  (kJ54 : ∀ (x1 : Int32) (x2 : Int32) (x3 : Int32) (x4 : Int32) (x5 : Int32) (h : ea_H) (r : Unit) (h' : ea_H), J54 x1 x2 x3 x4 x5 h = some (r, h') → ShM h → ea_W mX12_coming d h0 none h' 54 [(0, vR (some 326)), (1, vI x1), (2, vI x2), (3, vI x3), (4, vI x4), (5, vI x5)] [] h) (kJ118 : ∀ (x1 : Int32) (x2 : Int32) (x3 : Int32) (x4 : Int32) (x5 : Int32) (h : ea_H) (r : Unit) (h' : ea_H), J118 x1 x2 x3 x4 x5 h = some (r, h') → ShM h → ea_W mX12_coming d h0 none h' 118 [(0, vR (some 326)), (1, vI x1), (2, vI x2), (3, vI x3), (4, vI x4), (5, vI x5)] [] h) {x1 : Int32} {x2 : Int32} {x3 : Int32} {x4 : Int32} {x5 : Int32} {h : ea_H} {r : Unit} {h' : ea_H} (E : BX12_coming_54 J54 J118 x1 x2 x3 x4 x5 h = some (r, h')) (hs : ShM h) : ea_W mX12_coming d h0 none h' 54 [(0, vR (some 326)), (1, vI x1), (2, vI x2), (3, vI x3), (4, vI x4), (5, vI x5)] [] h := by
  unfold BX12_coming_54 at E
  refine ea_iload (pc := 54) dX12_coming_54 5 rfl ?_
  refine ea_aload_n (pc := 56) dX12_coming_56 rfl 0 rfl ?_
  refine ea_getI (pc := 57) dX12_coming_57 ec_12 (k := 63) (Nat.le_of_ble_eq_true rfl) rfl (Or.inl ew_1465) (cShM_326 hs).1 (cShM_326 hs).2.1 ?_
  refine ea_icmp_ge (pc := 60) (tgt := 178) dX12_coming_60 rfl (fun c18 => ?_) (fun c18 => ?_)
  · have E := (if_pos c18).symm.trans E
    exact ea_vretO (pc := 178) dX12_coming_178 rfl E
  · have E := (if_neg c18).symm.trans E
    obtain ⟨w9, Ew9, E⟩ := bd_some E
    have hsw9 : ShM w9.2 := ShM_core ((kpX12_isAboard _ _ _) _ Ew9) hs
    refine ea_aload_n (pc := 63) dX12_coming_63 rfl 0 rfl ?_
    refine ea_iload (pc := 64) dX12_coming_64 5 rfl ?_
    refine ea_iload_n (pc := 66) dX12_coming_66 rfl 2 rfl ?_
    refine ea_callV (pc := 67) (d' := d - 1) (As := [vI x5, vI x2]) (st := []) dX12_coming_67 kX12_isAboard (sX12_isAboard (d := d - 1) (by omega) hs Ew9) (by omega) rfl (Nat.le_of_ble_eq_true rfl) ew_2124 ew_2126 ew_102 (ci := 12) rfl (by decide) (cShM_326 hs).1 (cShM_326 hs).2.1 ?_
    refine ea_if_ne (pc := 70) (tgt := 76) dX12_coming_70 rfl (fun c17 => ?_) (fun c17 => ?_)
    · have E := (if_neg c17).symm.trans E
      obtain ⟨z10, E⟩ := gd_some E
      refine ea_aload_n (pc := 76) dX12_coming_76 rfl 0 rfl ?_
      refine ea_getR (pc := 77) dX12_coming_77 ec_12 (k := 87) (Nat.le_of_ble_eq_true rfl) rfl (Or.inl ew_1489) (cShM_326 hsw9).1 (cShM_326 hsw9).2.1 (rShM_326_87 hsw9) ?_
      refine ea_iload (pc := 80) dX12_coming_80 5 rfl ?_
      refine ea_zald (pc := 82) dX12_coming_82 (cShM_387 hsw9).1 (cShM_387 hsw9).2.1 (ea_vpl (cShM_387 hsw9).2.2 z10) ?_
      refine ea_if_eq (pc := 83) (tgt := 118) dX12_coming_83 rfl (fun c16 => ?_) (fun c16 => ?_)
      · have E := (if_pos c16).symm.trans E
        exact (kJ118 (x1 : Int32) (x2 : Int32) (x3 : Int32) (x4 : Int32) (x5 : Int32) w9.2 _ _ E hsw9)
      · have E := (if_neg c16).symm.trans E
        obtain ⟨z11, E⟩ := gd_some E
        refine ea_aload_n (pc := 86) dX12_coming_86 rfl 0 rfl ?_
        refine ea_getR (pc := 87) dX12_coming_87 ec_12 (k := 83) (Nat.le_of_ble_eq_true rfl) rfl (Or.inl ew_1485) (cShM_326 hsw9).1 (cShM_326 hsw9).2.1 (rShM_326_83 hsw9) ?_
        refine ea_iload (pc := 90) dX12_coming_90 5 rfl ?_
        refine ea_iald (pc := 92) dX12_coming_92 (cShM_383 hsw9).1 (cShM_383 hsw9).2.1 (ea_vpl (cShM_383 hsw9).2.2 z11) ?_
        refine ea_iload_n (pc := 93) dX12_coming_93 rfl 3 rfl ?_
        refine ea_icmp_gt (pc := 94) (tgt := 118) dX12_coming_94 rfl (fun c15 => ?_) (fun c15 => ?_)
        · have E := (if_pos c15).symm.trans E
          exact (kJ118 (x1 : Int32) (x2 : Int32) (x3 : Int32) (x4 : Int32) (x5 : Int32) w9.2 _ _ E hsw9)
        · have E := (if_neg c15).symm.trans E
          obtain ⟨z12, E⟩ := gd_some E
          refine ea_aload_n (pc := 97) dX12_coming_97 rfl 0 rfl ?_
          refine ea_iload (pc := 98) dX12_coming_98 5 rfl ?_
          refine ea_aload_n (pc := 100) dX12_coming_100 rfl 0 rfl ?_
          refine ea_getR (pc := 101) dX12_coming_101 ec_12 (k := 14) (Nat.le_of_ble_eq_true rfl) rfl (Or.inl ew_1416) (cShM_326 hsw9).1 (cShM_326 hsw9).2.1 (rShM_326_14 hsw9) ?_
          refine ea_iload_n (pc := 104) dX12_coming_104 rfl 1 rfl ?_
          obtain ⟨w13, Ew13, E⟩ := bd_some E
          have hsw13 : ShM w13.2 := ShM_core ((kpX12_townOf _ _ _) _ Ew13) hsw9
          refine ea_iald (pc := 105) dX12_coming_105 (cShM_336 hsw9).1 (cShM_336 hsw9).2.1 (ea_vpl (cShM_336 hsw9).2.2 z12) ?_
          refine ea_aload_n (pc := 106) dX12_coming_106 rfl 0 rfl ?_
          refine ea_iload_n (pc := 107) dX12_coming_107 rfl 2 rfl ?_
          refine ea_iload_n (pc := 108) dX12_coming_108 rfl 3 rfl ?_
          refine ea_callV (pc := 109) (d' := d - 1) (As := [vI x2, vI x3]) (st := [vI (ea_i w9.2 336 (Int32.toNatClampNeg x1)), vI x5, vR (some 326)]) dX12_coming_109 kX12_townOf (sX12_townOf (d := d - 1) (by omega) hsw9 Ew13) (by omega) rfl (Nat.le_of_ble_eq_true rfl) ew_1855 ew_1857 ew_67 (ci := 12) rfl (by decide) (cShM_326 hsw9).1 (cShM_326 hsw9).2.1 ?_
          obtain ⟨w14, Ew14, E⟩ := bd_some E
          have hsw14 : ShM w14.2 := ShM_core ((kpX12_putsDown _ _ _ _) _ Ew14) hsw13
          refine ea_callV (pc := 112) (d' := d - 1) (As := [vI x5, vI (ea_i w9.2 336 (Int32.toNatClampNeg x1)), vI w13.1]) (st := []) dX12_coming_112 kX12_putsDown (sX12_putsDown (d := d - 1) (by omega) hsw13 Ew14) (by omega) rfl (Nat.le_of_ble_eq_true rfl) ew_2131 ew_2133 ew_103 (ci := 12) rfl (by decide) (cShM_326 hsw13).1 (cShM_326 hsw13).2.1 ?_
          refine ea_goto (pc := 115) (tgt := 172) dX12_coming_115 rfl ?_
          refine ea_iinc (pc := 172) (v := 1) (lv' := [(0, vR (some 326)), (1, vI x1), (2, vI x2), (3, vI x3), (4, vI x4), (5, vI (x5 + (1 : Int32)))]) dX12_coming_172 5 rfl rfl (Nat.le_of_ble_eq_true rfl) [1, 2, 3, 4, 5, 0] rfl ?_
          refine ea_goto (pc := 175) (tgt := 54) dX12_coming_175 rfl ?_
          exact (kJ54 (x1 : Int32) (x2 : Int32) (x3 : Int32) (x4 : Int32) ((x5 + (1 : Int32)) : Int32) w14.2 _ _ E hsw14)
    · have E := (if_pos c17).symm.trans E
      refine ea_goto (pc := 73) (tgt := 172) dX12_coming_73 rfl ?_
      refine ea_iinc (pc := 172) (v := 1) (lv' := [(0, vR (some 326)), (1, vI x1), (2, vI x2), (3, vI x3), (4, vI x4), (5, vI (x5 + (1 : Int32)))]) dX12_coming_172 5 rfl rfl (Nat.le_of_ble_eq_true rfl) [1, 2, 3, 4, 5, 0] rfl ?_
      refine ea_goto (pc := 175) (tgt := 54) dX12_coming_175 rfl ?_
      exact (kJ54 (x1 : Int32) (x2 : Int32) (x3 : Int32) (x4 : Int32) ((x5 + (1 : Int32)) : Int32) w9.2 _ _ E hsw9)
theorem kBX12_coming_54 {J54 : Int32 → Int32 → Int32 → Int32 → Int32 → ea_H → Option (Unit × ea_H)} {J118 : Int32 → Int32 → Int32 → Int32 → Int32 → ea_H → Option (Unit × ea_H)}  (cJ54 : ∀ (x1 : Int32) (x2 : Int32) (x3 : Int32) (x4 : Int32) (x5 : Int32) (h : ea_H), kp (ea_core h) (J54 x1 x2 x3 x4 x5 h)) (cJ118 : ∀ (x1 : Int32) (x2 : Int32) (x3 : Int32) (x4 : Int32) (x5 : Int32) (h : ea_H), kp (ea_core h) (J118 x1 x2 x3 x4 x5 h)) {x1 : Int32} {x2 : Int32} {x3 : Int32} {x4 : Int32} {x5 : Int32} {h : ea_H} : kp (ea_core h) (BX12_coming_54 J54 J118 x1 x2 x3 x4 x5 h) :=
  (kp_ite (kp_ret rfl) (kp_bind (kp_tw (kpX12_isAboard _ _ _) rfl) fun w9 hcw9 => (kp_ite (kp_tw (cJ54 _ _ _ _ _ _) hcw9) (kp_gd (kp_ite (kp_tw (cJ118 _ _ _ _ _ _) hcw9) (kp_gd (kp_ite (kp_tw (cJ118 _ _ _ _ _ _) hcw9) (kp_gd (kp_bind (kp_tw (kpX12_townOf _ _ _) hcw9) fun w13 hcw13 => (kp_bind (kp_tw (kpX12_putsDown _ _ _ _) hcw13) fun w14 hcw14 => (kp_tw (cJ54 _ _ _ _ _ _) hcw14)))))))))))
theorem lBX12_coming_54 {J54 : Int32 → Int32 → Int32 → Int32 → Int32 → ea_H → Option (Unit × ea_H)} {J118 : Int32 → Int32 → Int32 → Int32 → Int32 → ea_H → Option (Unit × ea_H)} {J54_ : Int32 → Int32 → Int32 → Int32 → Int32 → ea_H → Option (Unit × ea_H)} {J118_ : Int32 → Int32 → Int32 → Int32 → Int32 → ea_H → Option (Unit × ea_H)}  (mJ54 : ∀ (x1 : Int32) (x2 : Int32) (x3 : Int32) (x4 : Int32) (x5 : Int32) (h : ea_H), fle (J54 x1 x2 x3 x4 x5 h) (J54_ x1 x2 x3 x4 x5 h)) (mJ118 : ∀ (x1 : Int32) (x2 : Int32) (x3 : Int32) (x4 : Int32) (x5 : Int32) (h : ea_H), fle (J118 x1 x2 x3 x4 x5 h) (J118_ x1 x2 x3 x4 x5 h)) {x1 : Int32} {x2 : Int32} {x3 : Int32} {x4 : Int32} {x5 : Int32} {h : ea_H} : fle (BX12_coming_54 J54 J118 x1 x2 x3 x4 x5 h) (BX12_coming_54 J54_ J118_ x1 x2 x3 x4 x5 h) :=
  (fle_ite (fle_rfl _) (fle_bind (fle_rfl _) fun _ => (fle_ite (mJ54 _ _ _ _ _ _) (fle_gd (fle_ite (mJ118 _ _ _ _ _ _) (fle_gd (fle_ite (mJ118 _ _ _ _ _ _) (fle_gd (fle_bind (fle_rfl _) fun _ => (fle_bind (fle_rfl _) fun _ => (mJ54 _ _ _ _ _ _)))))))))))
theorem nBX12_coming_54 {J54 : Int32 → Int32 → Int32 → Int32 → Int32 → ea_H → Option (Unit × ea_H)} {J118 : Int32 → Int32 → Int32 → Int32 → Int32 → ea_H → Option (Unit × ea_H)} {J54_ : Nat → (Int32 → Int32 → Int32 → Int32 → Int32 → ea_H → Option (Unit × ea_H))} {J118_ : Nat → (Int32 → Int32 → Int32 → Int32 → Int32 → ea_H → Option (Unit × ea_H))}  (mJ54 : ∀ (x1 : Int32) (x2 : Int32) (x3 : Int32) (x4 : Int32) (x5 : Int32) (h : ea_H), fct (J54 x1 x2 x3 x4 x5 h) (fun f => J54_ f x1 x2 x3 x4 x5 h)) (mJ118 : ∀ (x1 : Int32) (x2 : Int32) (x3 : Int32) (x4 : Int32) (x5 : Int32) (h : ea_H), fct (J118 x1 x2 x3 x4 x5 h) (fun f => J118_ f x1 x2 x3 x4 x5 h)) {x1 : Int32} {x2 : Int32} {x3 : Int32} {x4 : Int32} {x5 : Int32} {h : ea_H} : fct (BX12_coming_54 J54 J118 x1 x2 x3 x4 x5 h) (fun f => BX12_coming_54 (J54_ f) (J118_ f) x1 x2 x3 x4 x5 h) :=
  (fct_ite (fct_rfl _) (fct_bind (fct_rfl _) fun _ => (fct_ite (mJ54 _ _ _ _ _ _) (fct_gd (fct_ite (mJ118 _ _ _ _ _ _) (fct_gd (fct_ite (mJ118 _ _ _ _ _ _) (fct_gd (fct_bind (fct_rfl _) fun _ => (fct_bind (fct_rfl _) fun _ => (mJ54 _ _ _ _ _ _)))))))))))
noncomputable def BX12_coming_118 (J54 : Int32 → Int32 → Int32 → Int32 → Int32 → ea_H → Option (Unit × ea_H)) (J154 : Int32 → Int32 → Int32 → Int32 → Int32 → ea_H → Option (Unit × ea_H)) (x1 : Int32) (x2 : Int32) (x3 : Int32) (x4 : Int32) (x5 : Int32) (h : ea_H) : Option (Unit × ea_H) :=
  (if x4 = (0 : Int32) then (J54 (x1 : Int32) (x2 : Int32) (x3 : Int32) (x4 : Int32) ((x5 + (1 : Int32)) : Int32) h) else (gd (vp_in x5 120) (if (ea_i h 387 (Int32.toNatClampNeg x5)) = (0 : Int32) then (gd (vp_in x5 120) (gd (vp_in x5 120) (ea_let (ea_wi h 384 (Int32.toNatClampNeg x5) ((ea_i h 384 (Int32.toNatClampNeg x5)) + (1 : Int32))) fun H22 => (gd (vp_in x2 70) (gd (vp_in x2 70) (ea_let (ea_wi H22 386 (Int32.toNatClampNeg x2) ((ea_i H22 386 (Int32.toNatClampNeg x2)) + (1 : Int32))) fun H25 => (J154 (x1 : Int32) (x2 : Int32) (x3 : Int32) (x4 : Int32) (x5 : Int32) H25))))))) else (J154 (x1 : Int32) (x2 : Int32) (x3 : Int32) (x4 : Int32) (x5 : Int32) h))))
theorem tBX12_coming_118 {d : Nat} {h0 : ea_H} (hd : 3 ≤ d) {J54 : Int32 → Int32 → Int32 → Int32 → Int32 → ea_H → Option (Unit × ea_H)} {J154 : Int32 → Int32 → Int32 → Int32 → Int32 → ea_H → Option (Unit × ea_H)}  (kJ54 : ∀ (x1 : Int32) (x2 : Int32) (x3 : Int32) (x4 : Int32) (x5 : Int32) (h : ea_H) (r : Unit) (h' : ea_H), J54 x1 x2 x3 x4 x5 h = some (r, h') → ShM h → ea_W mX12_coming d h0 none h' 54 [(0, vR (some 326)), (1, vI x1), (2, vI x2), (3, vI x3), (4, vI x4), (5, vI x5)] [] h) (kJ154 : ∀ (x1 : Int32) (x2 : Int32) (x3 : Int32) (x4 : Int32) (x5 : Int32) (h : ea_H) (r : Unit) (h' : ea_H), J154 x1 x2 x3 x4 x5 h = some (r, h') → ShM h → ea_W mX12_coming d h0 none h' 154 [(0, vR (some 326)), (1, vI x1), (2, vI x2), (3, vI x3), (4, vI x4), (5, vI x5)] [] h) {x1 : Int32} {x2 : Int32} {x3 : Int32} {x4 : Int32} {x5 : Int32} {h : ea_H} {r : Unit} {h' : ea_H} (E : BX12_coming_118 J54 J154 x1 x2 x3 x4 x5 h = some (r, h')) (hs : ShM h) : ea_W mX12_coming d h0 none h' 118 [(0, vR (some 326)), (1, vI x1), (2, vI x2), (3, vI x3), (4, vI x4), (5, vI x5)] [] h := by
  unfold BX12_coming_118 at E
  refine ea_iload (pc := 118) dX12_coming_118 4 rfl ?_
  refine ea_if_eq (pc := 120) (tgt := 172) dX12_coming_120 rfl (fun c27 => ?_) (fun c27 => ?_)
  · have E := (if_pos c27).symm.trans E
    refine ea_iinc (pc := 172) (v := 1) (lv' := [(0, vR (some 326)), (1, vI x1), (2, vI x2), (3, vI x3), (4, vI x4), (5, vI (x5 + (1 : Int32)))]) dX12_coming_172 5 rfl rfl (Nat.le_of_ble_eq_true rfl) [1, 2, 3, 4, 5, 0] rfl ?_
    refine ea_goto (pc := 175) (tgt := 54) dX12_coming_175 rfl ?_
    exact (kJ54 (x1 : Int32) (x2 : Int32) (x3 : Int32) (x4 : Int32) ((x5 + (1 : Int32)) : Int32) h _ _ E hs)
  · have E := (if_neg c27).symm.trans E
    obtain ⟨z19, E⟩ := gd_some E
    refine ea_aload_n (pc := 123) dX12_coming_123 rfl 0 rfl ?_
    refine ea_getR (pc := 124) dX12_coming_124 ec_12 (k := 87) (Nat.le_of_ble_eq_true rfl) rfl (Or.inl ew_1489) (cShM_326 hs).1 (cShM_326 hs).2.1 (rShM_326_87 hs) ?_
    refine ea_iload (pc := 127) dX12_coming_127 5 rfl ?_
    refine ea_zald (pc := 129) dX12_coming_129 (cShM_387 hs).1 (cShM_387 hs).2.1 (ea_vpl (cShM_387 hs).2.2 z19) ?_
    refine ea_if_ne (pc := 130) (tgt := 154) dX12_coming_130 rfl (fun c26 => ?_) (fun c26 => ?_)
    · have E := (if_neg c26).symm.trans E
      exact (kJ154 (x1 : Int32) (x2 : Int32) (x3 : Int32) (x4 : Int32) (x5 : Int32) h _ _ E hs)
    · have E := (if_pos c26).symm.trans E
      obtain ⟨z20, E⟩ := gd_some E
      refine ea_aload_n (pc := 133) dX12_coming_133 rfl 0 rfl ?_
      refine ea_getR (pc := 134) dX12_coming_134 ec_12 (k := 84) (Nat.le_of_ble_eq_true rfl) rfl (Or.inl ew_1486) (cShM_326 hs).1 (cShM_326 hs).2.1 (rShM_326_84 hs) ?_
      refine ea_iload (pc := 137) dX12_coming_137 5 rfl ?_
      refine ea_dup2 (pc := 139) dX12_coming_139 rfl rfl ?_
      obtain ⟨z21, E⟩ := gd_some E
      refine ea_iald (pc := 140) dX12_coming_140 (cShM_384 hs).1 (cShM_384 hs).2.1 (ea_vpl (cShM_384 hs).2.2 z20) ?_
      refine ea_iconst (pc := 141) dX12_coming_141 (v := 1) rfl ?_
      refine ea_iadd (pc := 142) dX12_coming_142 ?_
      obtain ⟨H22, eH22, E⟩ := let_some E
      refine ea_iast (pc := 143) dX12_coming_143 (cShM_384 hs).1 (cShM_384 hs).2.1 (ea_vpl (cShM_384 hs).2.2 z21) ?_
      refine ea_nm eH22 ?_
      have hsH22 : ShM H22 := by rw [eH22]; exact hs
      obtain ⟨z23, E⟩ := gd_some E
      refine ea_aload_n (pc := 144) dX12_coming_144 rfl 0 rfl ?_
      refine ea_getR (pc := 145) dX12_coming_145 ec_12 (k := 86) (Nat.le_of_ble_eq_true rfl) rfl (Or.inl ew_1488) (cShM_326 hsH22).1 (cShM_326 hsH22).2.1 (rShM_326_86 hsH22) ?_
      refine ea_iload_n (pc := 148) dX12_coming_148 rfl 2 rfl ?_
      refine ea_dup2 (pc := 149) dX12_coming_149 rfl rfl ?_
      obtain ⟨z24, E⟩ := gd_some E
      refine ea_iald (pc := 150) dX12_coming_150 (cShM_386 hsH22).1 (cShM_386 hsH22).2.1 (ea_vpl (cShM_386 hsH22).2.2 z23) ?_
      refine ea_iconst (pc := 151) dX12_coming_151 (v := 1) rfl ?_
      refine ea_iadd (pc := 152) dX12_coming_152 ?_
      obtain ⟨H25, eH25, E⟩ := let_some E
      refine ea_iast (pc := 153) dX12_coming_153 (cShM_386 hsH22).1 (cShM_386 hsH22).2.1 (ea_vpl (cShM_386 hsH22).2.2 z24) ?_
      refine ea_nm eH25 ?_
      have hsH25 : ShM H25 := by rw [eH25]; exact hsH22
      exact (kJ154 (x1 : Int32) (x2 : Int32) (x3 : Int32) (x4 : Int32) (x5 : Int32) H25 _ _ E hsH25)
theorem kBX12_coming_118 {J54 : Int32 → Int32 → Int32 → Int32 → Int32 → ea_H → Option (Unit × ea_H)} {J154 : Int32 → Int32 → Int32 → Int32 → Int32 → ea_H → Option (Unit × ea_H)}  (cJ54 : ∀ (x1 : Int32) (x2 : Int32) (x3 : Int32) (x4 : Int32) (x5 : Int32) (h : ea_H), kp (ea_core h) (J54 x1 x2 x3 x4 x5 h)) (cJ154 : ∀ (x1 : Int32) (x2 : Int32) (x3 : Int32) (x4 : Int32) (x5 : Int32) (h : ea_H), kp (ea_core h) (J154 x1 x2 x3 x4 x5 h)) {x1 : Int32} {x2 : Int32} {x3 : Int32} {x4 : Int32} {x5 : Int32} {h : ea_H} : kp (ea_core h) (BX12_coming_118 J54 J154 x1 x2 x3 x4 x5 h) :=
  (kp_ite (kp_tw (cJ54 _ _ _ _ _ _) rfl) (kp_gd (kp_ite (kp_gd (kp_gd (kp_let (kp_gd (kp_gd (kp_let (kp_tw (cJ154 _ _ _ _ _ _) rfl))))))) (kp_tw (cJ154 _ _ _ _ _ _) rfl))))
theorem lBX12_coming_118 {J54 : Int32 → Int32 → Int32 → Int32 → Int32 → ea_H → Option (Unit × ea_H)} {J154 : Int32 → Int32 → Int32 → Int32 → Int32 → ea_H → Option (Unit × ea_H)} {J54_ : Int32 → Int32 → Int32 → Int32 → Int32 → ea_H → Option (Unit × ea_H)} {J154_ : Int32 → Int32 → Int32 → Int32 → Int32 → ea_H → Option (Unit × ea_H)}  (mJ54 : ∀ (x1 : Int32) (x2 : Int32) (x3 : Int32) (x4 : Int32) (x5 : Int32) (h : ea_H), fle (J54 x1 x2 x3 x4 x5 h) (J54_ x1 x2 x3 x4 x5 h)) (mJ154 : ∀ (x1 : Int32) (x2 : Int32) (x3 : Int32) (x4 : Int32) (x5 : Int32) (h : ea_H), fle (J154 x1 x2 x3 x4 x5 h) (J154_ x1 x2 x3 x4 x5 h)) {x1 : Int32} {x2 : Int32} {x3 : Int32} {x4 : Int32} {x5 : Int32} {h : ea_H} : fle (BX12_coming_118 J54 J154 x1 x2 x3 x4 x5 h) (BX12_coming_118 J54_ J154_ x1 x2 x3 x4 x5 h) :=
  (fle_ite (mJ54 _ _ _ _ _ _) (fle_gd (fle_ite (fle_gd (fle_gd (fle_let fun _ => (fle_gd (fle_gd (fle_let fun _ => (mJ154 _ _ _ _ _ _))))))) (mJ154 _ _ _ _ _ _))))
theorem nBX12_coming_118 {J54 : Int32 → Int32 → Int32 → Int32 → Int32 → ea_H → Option (Unit × ea_H)} {J154 : Int32 → Int32 → Int32 → Int32 → Int32 → ea_H → Option (Unit × ea_H)} {J54_ : Nat → (Int32 → Int32 → Int32 → Int32 → Int32 → ea_H → Option (Unit × ea_H))} {J154_ : Nat → (Int32 → Int32 → Int32 → Int32 → Int32 → ea_H → Option (Unit × ea_H))}  (mJ54 : ∀ (x1 : Int32) (x2 : Int32) (x3 : Int32) (x4 : Int32) (x5 : Int32) (h : ea_H), fct (J54 x1 x2 x3 x4 x5 h) (fun f => J54_ f x1 x2 x3 x4 x5 h)) (mJ154 : ∀ (x1 : Int32) (x2 : Int32) (x3 : Int32) (x4 : Int32) (x5 : Int32) (h : ea_H), fct (J154 x1 x2 x3 x4 x5 h) (fun f => J154_ f x1 x2 x3 x4 x5 h)) {x1 : Int32} {x2 : Int32} {x3 : Int32} {x4 : Int32} {x5 : Int32} {h : ea_H} : fct (BX12_coming_118 J54 J154 x1 x2 x3 x4 x5 h) (fun f => BX12_coming_118 (J54_ f) (J154_ f) x1 x2 x3 x4 x5 h) :=
  (fct_ite (mJ54 _ _ _ _ _ _) (fct_gd (fct_ite (fct_gd (fct_gd (fct_let fun _ => (fct_gd (fct_gd (fct_let fun _ => (mJ154 _ _ _ _ _ _))))))) (mJ154 _ _ _ _ _ _))))
noncomputable def BX12_coming_154 (J54 : Int32 → Int32 → Int32 → Int32 → Int32 → ea_H → Option (Unit × ea_H)) (x1 : Int32) (x2 : Int32) (x3 : Int32) (x4 : Int32) (x5 : Int32) (h : ea_H) : Option (Unit × ea_H) :=
  (gd (vp_in x1 1000) (Option.bind (qX12_townOf (x2 : Int32) (x3 : Int32) h) fun w29 => (Option.bind (qX12_putsDown (x5 : Int32) ((ea_i h 336 (Int32.toNatClampNeg x1)) : Int32) (w29.1 : Int32) w29.2) fun w30 => (J54 (x1 : Int32) (x2 : Int32) (x3 : Int32) (x4 : Int32) ((x5 + (1 : Int32)) : Int32) w30.2))))
theorem tBX12_coming_154 {d : Nat} {h0 : ea_H} (hd : 3 ≤ d) {J54 : Int32 → Int32 → Int32 → Int32 → Int32 → ea_H → Option (Unit × ea_H)}  (kJ54 : ∀ (x1 : Int32) (x2 : Int32) (x3 : Int32) (x4 : Int32) (x5 : Int32) (h : ea_H) (r : Unit) (h' : ea_H), J54 x1 x2 x3 x4 x5 h = some (r, h') → ShM h → ea_W mX12_coming d h0 none h' 54 [(0, vR (some 326)), (1, vI x1), (2, vI x2), (3, vI x3), (4, vI x4), (5, vI x5)] [] h) {x1 : Int32} {x2 : Int32} {x3 : Int32} {x4 : Int32} {x5 : Int32} {h : ea_H} {r : Unit} {h' : ea_H} (E : BX12_coming_154 J54 x1 x2 x3 x4 x5 h = some (r, h')) (hs : ShM h) : ea_W mX12_coming d h0 none h' 154 [(0, vR (some 326)), (1, vI x1), (2, vI x2), (3, vI x3), (4, vI x4), (5, vI x5)] [] h := by
  unfold BX12_coming_154 at E
  obtain ⟨z28, E⟩ := gd_some E
  refine ea_aload_n (pc := 154) dX12_coming_154 rfl 0 rfl ?_
  refine ea_iload (pc := 155) dX12_coming_155 5 rfl ?_
  refine ea_aload_n (pc := 157) dX12_coming_157 rfl 0 rfl ?_
  refine ea_getR (pc := 158) dX12_coming_158 ec_12 (k := 14) (Nat.le_of_ble_eq_true rfl) rfl (Or.inl ew_1416) (cShM_326 hs).1 (cShM_326 hs).2.1 (rShM_326_14 hs) ?_
  refine ea_iload_n (pc := 161) dX12_coming_161 rfl 1 rfl ?_
  obtain ⟨w29, Ew29, E⟩ := bd_some E
  have hsw29 : ShM w29.2 := ShM_core ((kpX12_townOf _ _ _) _ Ew29) hs
  refine ea_iald (pc := 162) dX12_coming_162 (cShM_336 hs).1 (cShM_336 hs).2.1 (ea_vpl (cShM_336 hs).2.2 z28) ?_
  refine ea_aload_n (pc := 163) dX12_coming_163 rfl 0 rfl ?_
  refine ea_iload_n (pc := 164) dX12_coming_164 rfl 2 rfl ?_
  refine ea_iload_n (pc := 165) dX12_coming_165 rfl 3 rfl ?_
  refine ea_callV (pc := 166) (d' := d - 1) (As := [vI x2, vI x3]) (st := [vI (ea_i h 336 (Int32.toNatClampNeg x1)), vI x5, vR (some 326)]) dX12_coming_166 kX12_townOf (sX12_townOf (d := d - 1) (by omega) hs Ew29) (by omega) rfl (Nat.le_of_ble_eq_true rfl) ew_1855 ew_1857 ew_67 (ci := 12) rfl (by decide) (cShM_326 hs).1 (cShM_326 hs).2.1 ?_
  obtain ⟨w30, Ew30, E⟩ := bd_some E
  have hsw30 : ShM w30.2 := ShM_core ((kpX12_putsDown _ _ _ _) _ Ew30) hsw29
  refine ea_callV (pc := 169) (d' := d - 1) (As := [vI x5, vI (ea_i h 336 (Int32.toNatClampNeg x1)), vI w29.1]) (st := []) dX12_coming_169 kX12_putsDown (sX12_putsDown (d := d - 1) (by omega) hsw29 Ew30) (by omega) rfl (Nat.le_of_ble_eq_true rfl) ew_2131 ew_2133 ew_103 (ci := 12) rfl (by decide) (cShM_326 hsw29).1 (cShM_326 hsw29).2.1 ?_
  refine ea_iinc (pc := 172) (v := 1) (lv' := [(0, vR (some 326)), (1, vI x1), (2, vI x2), (3, vI x3), (4, vI x4), (5, vI (x5 + (1 : Int32)))]) dX12_coming_172 5 rfl rfl (Nat.le_of_ble_eq_true rfl) [1, 2, 3, 4, 5, 0] rfl ?_
  refine ea_goto (pc := 175) (tgt := 54) dX12_coming_175 rfl ?_
  exact (kJ54 (x1 : Int32) (x2 : Int32) (x3 : Int32) (x4 : Int32) ((x5 + (1 : Int32)) : Int32) w30.2 _ _ E hsw30)
theorem kBX12_coming_154 {J54 : Int32 → Int32 → Int32 → Int32 → Int32 → ea_H → Option (Unit × ea_H)}  (cJ54 : ∀ (x1 : Int32) (x2 : Int32) (x3 : Int32) (x4 : Int32) (x5 : Int32) (h : ea_H), kp (ea_core h) (J54 x1 x2 x3 x4 x5 h)) {x1 : Int32} {x2 : Int32} {x3 : Int32} {x4 : Int32} {x5 : Int32} {h : ea_H} : kp (ea_core h) (BX12_coming_154 J54 x1 x2 x3 x4 x5 h) :=
  (kp_gd (kp_bind (kp_tw (kpX12_townOf _ _ _) rfl) fun w29 hcw29 => (kp_bind (kp_tw (kpX12_putsDown _ _ _ _) hcw29) fun w30 hcw30 => (kp_tw (cJ54 _ _ _ _ _ _) hcw30))))
theorem lBX12_coming_154 {J54 : Int32 → Int32 → Int32 → Int32 → Int32 → ea_H → Option (Unit × ea_H)} {J54_ : Int32 → Int32 → Int32 → Int32 → Int32 → ea_H → Option (Unit × ea_H)}  (mJ54 : ∀ (x1 : Int32) (x2 : Int32) (x3 : Int32) (x4 : Int32) (x5 : Int32) (h : ea_H), fle (J54 x1 x2 x3 x4 x5 h) (J54_ x1 x2 x3 x4 x5 h)) {x1 : Int32} {x2 : Int32} {x3 : Int32} {x4 : Int32} {x5 : Int32} {h : ea_H} : fle (BX12_coming_154 J54 x1 x2 x3 x4 x5 h) (BX12_coming_154 J54_ x1 x2 x3 x4 x5 h) :=
  (fle_gd (fle_bind (fle_rfl _) fun _ => (fle_bind (fle_rfl _) fun _ => (mJ54 _ _ _ _ _ _))))
theorem nBX12_coming_154 {J54 : Int32 → Int32 → Int32 → Int32 → Int32 → ea_H → Option (Unit × ea_H)} {J54_ : Nat → (Int32 → Int32 → Int32 → Int32 → Int32 → ea_H → Option (Unit × ea_H))}  (mJ54 : ∀ (x1 : Int32) (x2 : Int32) (x3 : Int32) (x4 : Int32) (x5 : Int32) (h : ea_H), fct (J54 x1 x2 x3 x4 x5 h) (fun f => J54_ f x1 x2 x3 x4 x5 h)) {x1 : Int32} {x2 : Int32} {x3 : Int32} {x4 : Int32} {x5 : Int32} {h : ea_H} : fct (BX12_coming_154 J54 x1 x2 x3 x4 x5 h) (fun f => BX12_coming_154 (J54_ f) x1 x2 x3 x4 x5 h) :=
  (fct_gd (fct_bind (fct_rfl _) fun _ => (fct_bind (fct_rfl _) fun _ => (mJ54 _ _ _ _ _ _))))
noncomputable def gX12_coming : Nat → (Int32 → ea_H → Option (Unit × ea_H)) × (Int32 → Int32 → Int32 → Int32 → ea_H → Option (Unit × ea_H)) × (Int32 → Int32 → Int32 → Int32 → Int32 → ea_H → Option (Unit × ea_H)) × (Int32 → Int32 → Int32 → Int32 → Int32 → ea_H → Option (Unit × ea_H)) × (Int32 → Int32 → Int32 → Int32 → Int32 → ea_H → Option (Unit × ea_H))
  | 0 => (fun _ _ => none, fun _ _ _ _ _ => none, fun _ _ _ _ _ _ => none, fun _ _ _ _ _ _ => none, fun _ _ _ _ _ _ => none)
  | f + 1 => (BX12_coming_0 (gX12_coming f).2.1, BX12_coming_34 (gX12_coming f).2.2.1, BX12_coming_54 (gX12_coming f).2.2.1 (gX12_coming f).2.2.2.1, BX12_coming_118 (gX12_coming f).2.2.1 (gX12_coming f).2.2.2.2, BX12_coming_154 (gX12_coming f).2.2.1)
theorem mgX12_coming : ∀ f : Nat, (∀ (x1 : Int32) (h : ea_H), fle ((gX12_coming f).1 x1 h) ((gX12_coming (f + 1)).1 x1 h)) ∧ (∀ (x1 : Int32) (x2 : Int32) (x3 : Int32) (sx0 : Int32) (h : ea_H), fle ((gX12_coming f).2.1 x1 x2 x3 sx0 h) ((gX12_coming (f + 1)).2.1 x1 x2 x3 sx0 h)) ∧ (∀ (x1 : Int32) (x2 : Int32) (x3 : Int32) (x4 : Int32) (x5 : Int32) (h : ea_H), fle ((gX12_coming f).2.2.1 x1 x2 x3 x4 x5 h) ((gX12_coming (f + 1)).2.2.1 x1 x2 x3 x4 x5 h)) ∧ (∀ (x1 : Int32) (x2 : Int32) (x3 : Int32) (x4 : Int32) (x5 : Int32) (h : ea_H), fle ((gX12_coming f).2.2.2.1 x1 x2 x3 x4 x5 h) ((gX12_coming (f + 1)).2.2.2.1 x1 x2 x3 x4 x5 h)) ∧ (∀ (x1 : Int32) (x2 : Int32) (x3 : Int32) (x4 : Int32) (x5 : Int32) (h : ea_H), fle ((gX12_coming f).2.2.2.2 x1 x2 x3 x4 x5 h) ((gX12_coming (f + 1)).2.2.2.2 x1 x2 x3 x4 x5 h)) := by
  intro f
  induction f with
  | zero => exact ⟨fun _ _ => fle_none _, fun _ _ _ _ _ => fle_none _, fun _ _ _ _ _ _ => fle_none _, fun _ _ _ _ _ _ => fle_none _, fun _ _ _ _ _ _ => fle_none _⟩
  | succ f ih => exact ⟨fun _ _ => lBX12_coming_0 ih.2.1, fun _ _ _ _ _ => lBX12_coming_34 ih.2.2.1, fun _ _ _ _ _ _ => lBX12_coming_54 ih.2.2.1 ih.2.2.2.1, fun _ _ _ _ _ _ => lBX12_coming_118 ih.2.2.1 ih.2.2.2.2, fun _ _ _ _ _ _ => lBX12_coming_154 ih.2.2.1⟩
noncomputable def qX12_coming_0 (x1 : Int32) (h : ea_H) : Option (Unit × ea_H) := flim fun f => (gX12_coming f).1 x1 h
noncomputable def qX12_coming_34 (x1 : Int32) (x2 : Int32) (x3 : Int32) (sx0 : Int32) (h : ea_H) : Option (Unit × ea_H) := flim fun f => (gX12_coming f).2.1 x1 x2 x3 sx0 h
noncomputable def qX12_coming_54 (x1 : Int32) (x2 : Int32) (x3 : Int32) (x4 : Int32) (x5 : Int32) (h : ea_H) : Option (Unit × ea_H) := flim fun f => (gX12_coming f).2.2.1 x1 x2 x3 x4 x5 h
noncomputable def qX12_coming_118 (x1 : Int32) (x2 : Int32) (x3 : Int32) (x4 : Int32) (x5 : Int32) (h : ea_H) : Option (Unit × ea_H) := flim fun f => (gX12_coming f).2.2.2.1 x1 x2 x3 x4 x5 h
noncomputable def qX12_coming_154 (x1 : Int32) (x2 : Int32) (x3 : Int32) (x4 : Int32) (x5 : Int32) (h : ea_H) : Option (Unit × ea_H) := flim fun f => (gX12_coming f).2.2.2.2 x1 x2 x3 x4 x5 h
theorem fqX12_coming_0 (x1 : Int32) (h : ea_H) : fct (qX12_coming_0 x1 h) fun f => (gX12_coming f).1 x1 h := flim_ct fun f => (mgX12_coming f).1 x1 h
theorem fqX12_coming_34 (x1 : Int32) (x2 : Int32) (x3 : Int32) (sx0 : Int32) (h : ea_H) : fct (qX12_coming_34 x1 x2 x3 sx0 h) fun f => (gX12_coming f).2.1 x1 x2 x3 sx0 h := flim_ct fun f => (mgX12_coming f).2.1 x1 x2 x3 sx0 h
theorem fqX12_coming_54 (x1 : Int32) (x2 : Int32) (x3 : Int32) (x4 : Int32) (x5 : Int32) (h : ea_H) : fct (qX12_coming_54 x1 x2 x3 x4 x5 h) fun f => (gX12_coming f).2.2.1 x1 x2 x3 x4 x5 h := flim_ct fun f => (mgX12_coming f).2.2.1 x1 x2 x3 x4 x5 h
theorem fqX12_coming_118 (x1 : Int32) (x2 : Int32) (x3 : Int32) (x4 : Int32) (x5 : Int32) (h : ea_H) : fct (qX12_coming_118 x1 x2 x3 x4 x5 h) fun f => (gX12_coming f).2.2.2.1 x1 x2 x3 x4 x5 h := flim_ct fun f => (mgX12_coming f).2.2.2.1 x1 x2 x3 x4 x5 h
theorem fqX12_coming_154 (x1 : Int32) (x2 : Int32) (x3 : Int32) (x4 : Int32) (x5 : Int32) (h : ea_H) : fct (qX12_coming_154 x1 x2 x3 x4 x5 h) fun f => (gX12_coming f).2.2.2.2 x1 x2 x3 x4 x5 h := flim_ct fun f => (mgX12_coming f).2.2.2.2 x1 x2 x3 x4 x5 h
/-- how a block opens -/
theorem uqX12_coming_0 {x1 : Int32} {h : ea_H} {P : Unit × ea_H → Prop} (H : sat (BX12_coming_0 qX12_coming_34 x1 h) P) : sat (qX12_coming_0 x1 h) P := by
  obtain ⟨x, e, hp⟩ := H
  obtain ⟨n, hn⟩ := nBX12_coming_0 fqX12_coming_34 x e
  exact ⟨x, flim_at (fun f => (mgX12_coming f).1 x1 h) (f := n + 1) (hn n (Nat.le_refl _)), hp⟩
/-- how a block opens -/
theorem uqX12_coming_34 {x1 : Int32} {x2 : Int32} {x3 : Int32} {sx0 : Int32} {h : ea_H} {P : Unit × ea_H → Prop} (H : sat (BX12_coming_34 qX12_coming_54 x1 x2 x3 sx0 h) P) : sat (qX12_coming_34 x1 x2 x3 sx0 h) P := by
  obtain ⟨x, e, hp⟩ := H
  obtain ⟨n, hn⟩ := nBX12_coming_34 fqX12_coming_54 x e
  exact ⟨x, flim_at (fun f => (mgX12_coming f).2.1 x1 x2 x3 sx0 h) (f := n + 1) (hn n (Nat.le_refl _)), hp⟩
/-- how a block opens -/
theorem uqX12_coming_54 {x1 : Int32} {x2 : Int32} {x3 : Int32} {x4 : Int32} {x5 : Int32} {h : ea_H} {P : Unit × ea_H → Prop} (H : sat (BX12_coming_54 qX12_coming_54 qX12_coming_118 x1 x2 x3 x4 x5 h) P) : sat (qX12_coming_54 x1 x2 x3 x4 x5 h) P := by
  obtain ⟨x, e, hp⟩ := H
  obtain ⟨n, hn⟩ := nBX12_coming_54 fqX12_coming_54 fqX12_coming_118 x e
  exact ⟨x, flim_at (fun f => (mgX12_coming f).2.2.1 x1 x2 x3 x4 x5 h) (f := n + 1) (hn n (Nat.le_refl _)), hp⟩
/-- how a block opens -/
theorem uqX12_coming_118 {x1 : Int32} {x2 : Int32} {x3 : Int32} {x4 : Int32} {x5 : Int32} {h : ea_H} {P : Unit × ea_H → Prop} (H : sat (BX12_coming_118 qX12_coming_54 qX12_coming_154 x1 x2 x3 x4 x5 h) P) : sat (qX12_coming_118 x1 x2 x3 x4 x5 h) P := by
  obtain ⟨x, e, hp⟩ := H
  obtain ⟨n, hn⟩ := nBX12_coming_118 fqX12_coming_54 fqX12_coming_154 x e
  exact ⟨x, flim_at (fun f => (mgX12_coming f).2.2.2.1 x1 x2 x3 x4 x5 h) (f := n + 1) (hn n (Nat.le_refl _)), hp⟩
/-- how a block opens -/
theorem uqX12_coming_154 {x1 : Int32} {x2 : Int32} {x3 : Int32} {x4 : Int32} {x5 : Int32} {h : ea_H} {P : Unit × ea_H → Prop} (H : sat (BX12_coming_154 qX12_coming_54 x1 x2 x3 x4 x5 h) P) : sat (qX12_coming_154 x1 x2 x3 x4 x5 h) P := by
  obtain ⟨x, e, hp⟩ := H
  obtain ⟨n, hn⟩ := nBX12_coming_154 fqX12_coming_54 x e
  exact ⟨x, flim_at (fun f => (mgX12_coming f).2.2.2.2 x1 x2 x3 x4 x5 h) (f := n + 1) (hn n (Nat.le_refl _)), hp⟩
theorem kgX12_coming : ∀ f : Nat, (∀ (x1 : Int32) (h : ea_H), kp (ea_core h) ((gX12_coming f).1 x1 h)) ∧ (∀ (x1 : Int32) (x2 : Int32) (x3 : Int32) (sx0 : Int32) (h : ea_H), kp (ea_core h) ((gX12_coming f).2.1 x1 x2 x3 sx0 h)) ∧ (∀ (x1 : Int32) (x2 : Int32) (x3 : Int32) (x4 : Int32) (x5 : Int32) (h : ea_H), kp (ea_core h) ((gX12_coming f).2.2.1 x1 x2 x3 x4 x5 h)) ∧ (∀ (x1 : Int32) (x2 : Int32) (x3 : Int32) (x4 : Int32) (x5 : Int32) (h : ea_H), kp (ea_core h) ((gX12_coming f).2.2.2.1 x1 x2 x3 x4 x5 h)) ∧ (∀ (x1 : Int32) (x2 : Int32) (x3 : Int32) (x4 : Int32) (x5 : Int32) (h : ea_H), kp (ea_core h) ((gX12_coming f).2.2.2.2 x1 x2 x3 x4 x5 h)) := by
  intro f
  induction f with
  | zero => exact ⟨fun _ _ => kp_none _, fun _ _ _ _ _ => kp_none _, fun _ _ _ _ _ _ => kp_none _, fun _ _ _ _ _ _ => kp_none _, fun _ _ _ _ _ _ => kp_none _⟩
  | succ f ih => exact ⟨fun _ _ => kBX12_coming_0 ih.2.1, fun _ _ _ _ _ => kBX12_coming_34 ih.2.2.1, fun _ _ _ _ _ _ => kBX12_coming_54 ih.2.2.1 ih.2.2.2.1, fun _ _ _ _ _ _ => kBX12_coming_118 ih.2.2.1 ih.2.2.2.2, fun _ _ _ _ _ _ => kBX12_coming_154 ih.2.2.1⟩
theorem tgX12_coming {d : Nat} {h0 : ea_H} (hd : 3 ≤ d) : ∀ f : Nat, (∀ (x1 : Int32) (h : ea_H) (r : Unit) (h' : ea_H), (gX12_coming f).1 x1 h = some (r, h') → ShM h → ea_W mX12_coming d h0 none h' 0 [(0, vR (some 326)), (1, vI x1)] [] h) ∧ (∀ (x1 : Int32) (x2 : Int32) (x3 : Int32) (sx0 : Int32) (h : ea_H) (r : Unit) (h' : ea_H), (gX12_coming f).2.1 x1 x2 x3 sx0 h = some (r, h') → ShM h → ea_W mX12_coming d h0 none h' 34 [(0, vR (some 326)), (1, vI x1), (2, vI x2), (3, vI x3)] [vI sx0] h) ∧ (∀ (x1 : Int32) (x2 : Int32) (x3 : Int32) (x4 : Int32) (x5 : Int32) (h : ea_H) (r : Unit) (h' : ea_H), (gX12_coming f).2.2.1 x1 x2 x3 x4 x5 h = some (r, h') → ShM h → ea_W mX12_coming d h0 none h' 54 [(0, vR (some 326)), (1, vI x1), (2, vI x2), (3, vI x3), (4, vI x4), (5, vI x5)] [] h) ∧ (∀ (x1 : Int32) (x2 : Int32) (x3 : Int32) (x4 : Int32) (x5 : Int32) (h : ea_H) (r : Unit) (h' : ea_H), (gX12_coming f).2.2.2.1 x1 x2 x3 x4 x5 h = some (r, h') → ShM h → ea_W mX12_coming d h0 none h' 118 [(0, vR (some 326)), (1, vI x1), (2, vI x2), (3, vI x3), (4, vI x4), (5, vI x5)] [] h) ∧ (∀ (x1 : Int32) (x2 : Int32) (x3 : Int32) (x4 : Int32) (x5 : Int32) (h : ea_H) (r : Unit) (h' : ea_H), (gX12_coming f).2.2.2.2 x1 x2 x3 x4 x5 h = some (r, h') → ShM h → ea_W mX12_coming d h0 none h' 154 [(0, vR (some 326)), (1, vI x1), (2, vI x2), (3, vI x3), (4, vI x4), (5, vI x5)] [] h) := by
  intro f
  induction f with
  | zero => exact ⟨fun _ _ _ _ E => no_some E, fun _ _ _ _ _ _ _ E => no_some E, fun _ _ _ _ _ _ _ _ E => no_some E, fun _ _ _ _ _ _ _ _ E => no_some E, fun _ _ _ _ _ _ _ _ E => no_some E⟩
  | succ f ih => exact ⟨fun _ _ _ _ E hs => tBX12_coming_0 hd ih.2.1 E hs, fun _ _ _ _ _ _ _ E hs => tBX12_coming_34 hd ih.2.2.1 E hs, fun _ _ _ _ _ _ _ _ E hs => tBX12_coming_54 hd ih.2.2.1 ih.2.2.2.1 E hs, fun _ _ _ _ _ _ _ _ E hs => tBX12_coming_118 hd ih.2.2.1 ih.2.2.2.2 E hs, fun _ _ _ _ _ _ _ _ E hs => tBX12_coming_154 hd ih.2.2.1 E hs⟩
noncomputable def qX12_coming (x1 : Int32) (h : ea_H) : Option (Unit × ea_H) := qX12_coming_0 x1 h
theorem sX12_coming {d : Nat} {x1 : Int32} {h : ea_H} {r : Unit} {h' : ea_H} (hd : 3 ≤ d) (hs : ShM h) (K : qX12_coming x1 h = some (r, h')) : ea_Met mX12_coming d [vR (some 326), vI x1] h none h' := by
  unfold qX12_coming at K
  obtain ⟨n, hn⟩ := fqX12_coming_0 x1 h _ K
  have W := (tgX12_coming (d := d) (h0 := h) hd n).1 x1 h _ _ (hn n (Nat.le_refl _)) hs
  exact ea_enter rfl (Nat.le_of_ble_eq_true rfl) W
theorem kpX12_coming (x1 : Int32) (h : ea_H) : kp (ea_core h) (qX12_coming x1 h) := fun x e => by
  obtain ⟨n, hn⟩ := fqX12_coming_0 x1 h x e
  exact (kgX12_coming n).1 x1 h x (hn n (Nat.le_refl _))
noncomputable def BX12_sorts_0 (J2 : Int32 → Int32 → Int32 → ea_H → Option (Unit × ea_H)) (x1 : Int32) (x2 : Int32) (h : ea_H) : Option (Unit × ea_H) :=
  (J2 (x1 : Int32) (x2 : Int32) (0 : Int32) h)
theorem tBX12_sorts_0 {d : Nat} {h0 : ea_H} (hd : 1 ≤ d) {J2 : Int32 → Int32 → Int32 → ea_H → Option (Unit × ea_H)}  (kJ2 : ∀ (x1 : Int32) (x2 : Int32) (x3 : Int32) (h : ea_H) (r : Unit) (h' : ea_H), J2 x1 x2 x3 h = some (r, h') → ShM h → ea_W mX12_sorts d h0 none h' 2 [(0, vR (some 326)), (1, vI x1), (2, vI x2), (3, vI x3)] [] h) {x1 : Int32} {x2 : Int32} {h : ea_H} {r : Unit} {h' : ea_H} (E : BX12_sorts_0 J2 x1 x2 h = some (r, h')) (hs : ShM h) : ea_W mX12_sorts d h0 none h' 0 [(0, vR (some 326)), (1, vI x1), (2, vI x2)] [] h := by
  unfold BX12_sorts_0 at E
  refine ea_iconst (pc := 0) dX12_sorts_0 (v := 0) rfl ?_
  refine ea_istore_n (pc := 1) (lv' := [(0, vR (some 326)), (1, vI x1), (2, vI x2), (3, vI 0)]) dX12_sorts_1 rfl (Nat.le_of_ble_eq_true rfl) [1, 2, 3, 0] rfl ?_
  exact (kJ2 (x1 : Int32) (x2 : Int32) (0 : Int32) h _ _ E hs)
theorem kBX12_sorts_0 {J2 : Int32 → Int32 → Int32 → ea_H → Option (Unit × ea_H)}  (cJ2 : ∀ (x1 : Int32) (x2 : Int32) (x3 : Int32) (h : ea_H), kp (ea_core h) (J2 x1 x2 x3 h)) {x1 : Int32} {x2 : Int32} {h : ea_H} : kp (ea_core h) (BX12_sorts_0 J2 x1 x2 h) :=
  (kp_tw (cJ2 _ _ _ _) rfl)
theorem lBX12_sorts_0 {J2 : Int32 → Int32 → Int32 → ea_H → Option (Unit × ea_H)} {J2_ : Int32 → Int32 → Int32 → ea_H → Option (Unit × ea_H)}  (mJ2 : ∀ (x1 : Int32) (x2 : Int32) (x3 : Int32) (h : ea_H), fle (J2 x1 x2 x3 h) (J2_ x1 x2 x3 h)) {x1 : Int32} {x2 : Int32} {h : ea_H} : fle (BX12_sorts_0 J2 x1 x2 h) (BX12_sorts_0 J2_ x1 x2 h) :=
  (mJ2 _ _ _ _)
theorem nBX12_sorts_0 {J2 : Int32 → Int32 → Int32 → ea_H → Option (Unit × ea_H)} {J2_ : Nat → (Int32 → Int32 → Int32 → ea_H → Option (Unit × ea_H))}  (mJ2 : ∀ (x1 : Int32) (x2 : Int32) (x3 : Int32) (h : ea_H), fct (J2 x1 x2 x3 h) (fun f => J2_ f x1 x2 x3 h)) {x1 : Int32} {x2 : Int32} {h : ea_H} : fct (BX12_sorts_0 J2 x1 x2 h) (fun f => BX12_sorts_0 (J2_ f) x1 x2 h) :=
  (mJ2 _ _ _ _)
noncomputable def BX12_sorts_2 (J2 : Int32 → Int32 → Int32 → ea_H → Option (Unit × ea_H)) (x1 : Int32) (x2 : Int32) (x3 : Int32) (h : ea_H) : Option (Unit × ea_H) :=
  (if (ea_i h 326 92) ≤ x3 then (some ((), h)) else (gd (vp_in x3 8) (if (ea_i h 395 (Int32.toNatClampNeg x3)) = (0 : Int32) then (J2 (x1 : Int32) (x2 : Int32) ((x3 + (1 : Int32)) : Int32) h) else (gd (vp_in x3 8) (if (((ea_i h 393 (Int32.toNatClampNeg x3)) >>> (x2 &&& 31)) &&& (1 : Int32)) = (0 : Int32) then (J2 (x1 : Int32) (x2 : Int32) ((x3 + (1 : Int32)) : Int32) h) else (gd (vp_in x3 8) (gd (vp_in x3 8) (ea_let (ea_wi h 395 (Int32.toNatClampNeg x3) ((ea_i h 395 (Int32.toNatClampNeg x3)) - (1 : Int32))) fun H5 => (gd (vp_in x1 120) (ea_let (ea_wi H5 387 (Int32.toNatClampNeg x1) 1) fun H7 => (some ((), H7))))))))))))
theorem tBX12_sorts_2 {d : Nat} {h0 : ea_H} (hd : 1 ≤ d) {J2 : Int32 → Int32 → Int32 → ea_H → Option (Unit × ea_H)}  (kJ2 : ∀ (x1 : Int32) (x2 : Int32) (x3 : Int32) (h : ea_H) (r : Unit) (h' : ea_H), J2 x1 x2 x3 h = some (r, h') → ShM h → ea_W mX12_sorts d h0 none h' 2 [(0, vR (some 326)), (1, vI x1), (2, vI x2), (3, vI x3)] [] h) {x1 : Int32} {x2 : Int32} {x3 : Int32} {h : ea_H} {r : Unit} {h' : ea_H} (E : BX12_sorts_2 J2 x1 x2 x3 h = some (r, h')) (hs : ShM h) : ea_W mX12_sorts d h0 none h' 2 [(0, vR (some 326)), (1, vI x1), (2, vI x2), (3, vI x3)] [] h := by
  unfold BX12_sorts_2 at E
  refine ea_iload_n (pc := 2) dX12_sorts_2 rfl 3 rfl ?_
  refine ea_aload_n (pc := 3) dX12_sorts_3 rfl 0 rfl ?_
  refine ea_getI (pc := 4) dX12_sorts_4 ec_12 (k := 92) (Nat.le_of_ble_eq_true rfl) rfl (Or.inl ew_1494) (cShM_326 hs).1 (cShM_326 hs).2.1 ?_
  refine ea_icmp_ge (pc := 7) (tgt := 59) dX12_sorts_7 rfl (fun c10 => ?_) (fun c10 => ?_)
  · have E := (if_pos c10).symm.trans E
    exact ea_vretO (pc := 59) dX12_sorts_59 rfl E
  · have E := (if_neg c10).symm.trans E
    obtain ⟨z1, E⟩ := gd_some E
    refine ea_aload_n (pc := 10) dX12_sorts_10 rfl 0 rfl ?_
    refine ea_getR (pc := 11) dX12_sorts_11 ec_12 (k := 96) (Nat.le_of_ble_eq_true rfl) rfl (Or.inl ew_1498) (cShM_326 hs).1 (cShM_326 hs).2.1 (rShM_326_96 hs) ?_
    refine ea_iload_n (pc := 14) dX12_sorts_14 rfl 3 rfl ?_
    refine ea_iald (pc := 15) dX12_sorts_15 (cShM_395 hs).1 (cShM_395 hs).2.1 (ea_vpl (cShM_395 hs).2.2 z1) ?_
    refine ea_if_eq (pc := 16) (tgt := 53) dX12_sorts_16 rfl (fun c9 => ?_) (fun c9 => ?_)
    · have E := (if_pos c9).symm.trans E
      refine ea_iinc (pc := 53) (v := 1) (lv' := [(0, vR (some 326)), (1, vI x1), (2, vI x2), (3, vI (x3 + (1 : Int32)))]) dX12_sorts_53 3 rfl rfl (Nat.le_of_ble_eq_true rfl) [1, 2, 3, 0] rfl ?_
      refine ea_goto (pc := 56) (tgt := 2) dX12_sorts_56 rfl ?_
      exact (kJ2 (x1 : Int32) (x2 : Int32) ((x3 + (1 : Int32)) : Int32) h _ _ E hs)
    · have E := (if_neg c9).symm.trans E
      obtain ⟨z2, E⟩ := gd_some E
      refine ea_aload_n (pc := 19) dX12_sorts_19 rfl 0 rfl ?_
      refine ea_getR (pc := 20) dX12_sorts_20 ec_12 (k := 94) (Nat.le_of_ble_eq_true rfl) rfl (Or.inl ew_1496) (cShM_326 hs).1 (cShM_326 hs).2.1 (rShM_326_94 hs) ?_
      refine ea_iload_n (pc := 23) dX12_sorts_23 rfl 3 rfl ?_
      refine ea_iald (pc := 24) dX12_sorts_24 (cShM_393 hs).1 (cShM_393 hs).2.1 (ea_vpl (cShM_393 hs).2.2 z2) ?_
      refine ea_iload_n (pc := 25) dX12_sorts_25 rfl 2 rfl ?_
      refine ea_ishr (pc := 26) dX12_sorts_26 ?_
      refine ea_iconst (pc := 27) dX12_sorts_27 (v := 1) rfl ?_
      refine ea_iand (pc := 28) dX12_sorts_28 ?_
      refine ea_if_ne (pc := 29) (tgt := 35) dX12_sorts_29 rfl (fun c8 => ?_) (fun c8 => ?_)
      · have E := (if_neg c8).symm.trans E
        obtain ⟨z3, E⟩ := gd_some E
        refine ea_aload_n (pc := 35) dX12_sorts_35 rfl 0 rfl ?_
        refine ea_getR (pc := 36) dX12_sorts_36 ec_12 (k := 96) (Nat.le_of_ble_eq_true rfl) rfl (Or.inl ew_1498) (cShM_326 hs).1 (cShM_326 hs).2.1 (rShM_326_96 hs) ?_
        refine ea_iload_n (pc := 39) dX12_sorts_39 rfl 3 rfl ?_
        refine ea_dup2 (pc := 40) dX12_sorts_40 rfl rfl ?_
        obtain ⟨z4, E⟩ := gd_some E
        refine ea_iald (pc := 41) dX12_sorts_41 (cShM_395 hs).1 (cShM_395 hs).2.1 (ea_vpl (cShM_395 hs).2.2 z3) ?_
        refine ea_iconst (pc := 42) dX12_sorts_42 (v := 1) rfl ?_
        refine ea_isub (pc := 43) dX12_sorts_43 ?_
        obtain ⟨H5, eH5, E⟩ := let_some E
        refine ea_iast (pc := 44) dX12_sorts_44 (cShM_395 hs).1 (cShM_395 hs).2.1 (ea_vpl (cShM_395 hs).2.2 z4) ?_
        refine ea_nm eH5 ?_
        have hsH5 : ShM H5 := by rw [eH5]; exact hs
        obtain ⟨z6, E⟩ := gd_some E
        refine ea_aload_n (pc := 45) dX12_sorts_45 rfl 0 rfl ?_
        refine ea_getR (pc := 46) dX12_sorts_46 ec_12 (k := 87) (Nat.le_of_ble_eq_true rfl) rfl (Or.inl ew_1489) (cShM_326 hsH5).1 (cShM_326 hsH5).2.1 (rShM_326_87 hsH5) ?_
        refine ea_iload_n (pc := 49) dX12_sorts_49 rfl 1 rfl ?_
        refine ea_iconst (pc := 50) dX12_sorts_50 (v := 1) rfl ?_
        obtain ⟨H7, eH7, E⟩ := let_some E
        refine ea_zast (pc := 51) dX12_sorts_51 (y := 1) (ea_bn (Or.inr rfl)) (cShM_387 hsH5).1 (cShM_387 hsH5).2.1 (ea_vpl (cShM_387 hsH5).2.2 z6) ?_
        refine ea_nm eH7 ?_
        have hsH7 : ShM H7 := by rw [eH7]; exact hsH5
        exact ea_vretO (pc := 52) dX12_sorts_52 rfl E
      · have E := (if_pos c8).symm.trans E
        refine ea_goto (pc := 32) (tgt := 53) dX12_sorts_32 rfl ?_
        refine ea_iinc (pc := 53) (v := 1) (lv' := [(0, vR (some 326)), (1, vI x1), (2, vI x2), (3, vI (x3 + (1 : Int32)))]) dX12_sorts_53 3 rfl rfl (Nat.le_of_ble_eq_true rfl) [1, 2, 3, 0] rfl ?_
        refine ea_goto (pc := 56) (tgt := 2) dX12_sorts_56 rfl ?_
        exact (kJ2 (x1 : Int32) (x2 : Int32) ((x3 + (1 : Int32)) : Int32) h _ _ E hs)
theorem kBX12_sorts_2 {J2 : Int32 → Int32 → Int32 → ea_H → Option (Unit × ea_H)}  (cJ2 : ∀ (x1 : Int32) (x2 : Int32) (x3 : Int32) (h : ea_H), kp (ea_core h) (J2 x1 x2 x3 h)) {x1 : Int32} {x2 : Int32} {x3 : Int32} {h : ea_H} : kp (ea_core h) (BX12_sorts_2 J2 x1 x2 x3 h) :=
  (kp_ite (kp_ret rfl) (kp_gd (kp_ite (kp_tw (cJ2 _ _ _ _) rfl) (kp_gd (kp_ite (kp_tw (cJ2 _ _ _ _) rfl) (kp_gd (kp_gd (kp_let (kp_gd (kp_let (kp_ret rfl)))))))))))
theorem lBX12_sorts_2 {J2 : Int32 → Int32 → Int32 → ea_H → Option (Unit × ea_H)} {J2_ : Int32 → Int32 → Int32 → ea_H → Option (Unit × ea_H)}  (mJ2 : ∀ (x1 : Int32) (x2 : Int32) (x3 : Int32) (h : ea_H), fle (J2 x1 x2 x3 h) (J2_ x1 x2 x3 h)) {x1 : Int32} {x2 : Int32} {x3 : Int32} {h : ea_H} : fle (BX12_sorts_2 J2 x1 x2 x3 h) (BX12_sorts_2 J2_ x1 x2 x3 h) :=
  (fle_ite (fle_rfl _) (fle_gd (fle_ite (mJ2 _ _ _ _) (fle_gd (fle_ite (mJ2 _ _ _ _) (fle_rfl _))))))
theorem nBX12_sorts_2 {J2 : Int32 → Int32 → Int32 → ea_H → Option (Unit × ea_H)} {J2_ : Nat → (Int32 → Int32 → Int32 → ea_H → Option (Unit × ea_H))}  (mJ2 : ∀ (x1 : Int32) (x2 : Int32) (x3 : Int32) (h : ea_H), fct (J2 x1 x2 x3 h) (fun f => J2_ f x1 x2 x3 h)) {x1 : Int32} {x2 : Int32} {x3 : Int32} {h : ea_H} : fct (BX12_sorts_2 J2 x1 x2 x3 h) (fun f => BX12_sorts_2 (J2_ f) x1 x2 x3 h) :=
  (fct_ite (fct_rfl _) (fct_gd (fct_ite (mJ2 _ _ _ _) (fct_gd (fct_ite (mJ2 _ _ _ _) (fct_rfl _))))))
noncomputable def gX12_sorts : Nat → (Int32 → Int32 → ea_H → Option (Unit × ea_H)) × (Int32 → Int32 → Int32 → ea_H → Option (Unit × ea_H))
  | 0 => (fun _ _ _ => none, fun _ _ _ _ => none)
  | f + 1 => (BX12_sorts_0 (gX12_sorts f).2, BX12_sorts_2 (gX12_sorts f).2)
theorem mgX12_sorts : ∀ f : Nat, (∀ (x1 : Int32) (x2 : Int32) (h : ea_H), fle ((gX12_sorts f).1 x1 x2 h) ((gX12_sorts (f + 1)).1 x1 x2 h)) ∧ (∀ (x1 : Int32) (x2 : Int32) (x3 : Int32) (h : ea_H), fle ((gX12_sorts f).2 x1 x2 x3 h) ((gX12_sorts (f + 1)).2 x1 x2 x3 h)) := by
  intro f
  induction f with
  | zero => exact ⟨fun _ _ _ => fle_none _, fun _ _ _ _ => fle_none _⟩
  | succ f ih => exact ⟨fun _ _ _ => lBX12_sorts_0 ih.2, fun _ _ _ _ => lBX12_sorts_2 ih.2⟩
noncomputable def qX12_sorts_0 (x1 : Int32) (x2 : Int32) (h : ea_H) : Option (Unit × ea_H) := flim fun f => (gX12_sorts f).1 x1 x2 h
noncomputable def qX12_sorts_2 (x1 : Int32) (x2 : Int32) (x3 : Int32) (h : ea_H) : Option (Unit × ea_H) := flim fun f => (gX12_sorts f).2 x1 x2 x3 h
theorem fqX12_sorts_0 (x1 : Int32) (x2 : Int32) (h : ea_H) : fct (qX12_sorts_0 x1 x2 h) fun f => (gX12_sorts f).1 x1 x2 h := flim_ct fun f => (mgX12_sorts f).1 x1 x2 h
theorem fqX12_sorts_2 (x1 : Int32) (x2 : Int32) (x3 : Int32) (h : ea_H) : fct (qX12_sorts_2 x1 x2 x3 h) fun f => (gX12_sorts f).2 x1 x2 x3 h := flim_ct fun f => (mgX12_sorts f).2 x1 x2 x3 h
/-- how a block opens -/
theorem uqX12_sorts_0 {x1 : Int32} {x2 : Int32} {h : ea_H} {P : Unit × ea_H → Prop} (H : sat (BX12_sorts_0 qX12_sorts_2 x1 x2 h) P) : sat (qX12_sorts_0 x1 x2 h) P := by
  obtain ⟨x, e, hp⟩ := H
  obtain ⟨n, hn⟩ := nBX12_sorts_0 fqX12_sorts_2 x e
  exact ⟨x, flim_at (fun f => (mgX12_sorts f).1 x1 x2 h) (f := n + 1) (hn n (Nat.le_refl _)), hp⟩
/-- how a block opens -/
theorem uqX12_sorts_2 {x1 : Int32} {x2 : Int32} {x3 : Int32} {h : ea_H} {P : Unit × ea_H → Prop} (H : sat (BX12_sorts_2 qX12_sorts_2 x1 x2 x3 h) P) : sat (qX12_sorts_2 x1 x2 x3 h) P := by
  obtain ⟨x, e, hp⟩ := H
  obtain ⟨n, hn⟩ := nBX12_sorts_2 fqX12_sorts_2 x e
  exact ⟨x, flim_at (fun f => (mgX12_sorts f).2 x1 x2 x3 h) (f := n + 1) (hn n (Nat.le_refl _)), hp⟩
theorem kgX12_sorts : ∀ f : Nat, (∀ (x1 : Int32) (x2 : Int32) (h : ea_H), kp (ea_core h) ((gX12_sorts f).1 x1 x2 h)) ∧ (∀ (x1 : Int32) (x2 : Int32) (x3 : Int32) (h : ea_H), kp (ea_core h) ((gX12_sorts f).2 x1 x2 x3 h)) := by
  intro f
  induction f with
  | zero => exact ⟨fun _ _ _ => kp_none _, fun _ _ _ _ => kp_none _⟩
  | succ f ih => exact ⟨fun _ _ _ => kBX12_sorts_0 ih.2, fun _ _ _ _ => kBX12_sorts_2 ih.2⟩
theorem tgX12_sorts {d : Nat} {h0 : ea_H} (hd : 1 ≤ d) : ∀ f : Nat, (∀ (x1 : Int32) (x2 : Int32) (h : ea_H) (r : Unit) (h' : ea_H), (gX12_sorts f).1 x1 x2 h = some (r, h') → ShM h → ea_W mX12_sorts d h0 none h' 0 [(0, vR (some 326)), (1, vI x1), (2, vI x2)] [] h) ∧ (∀ (x1 : Int32) (x2 : Int32) (x3 : Int32) (h : ea_H) (r : Unit) (h' : ea_H), (gX12_sorts f).2 x1 x2 x3 h = some (r, h') → ShM h → ea_W mX12_sorts d h0 none h' 2 [(0, vR (some 326)), (1, vI x1), (2, vI x2), (3, vI x3)] [] h) := by
  intro f
  induction f with
  | zero => exact ⟨fun _ _ _ _ _ E => no_some E, fun _ _ _ _ _ _ E => no_some E⟩
  | succ f ih => exact ⟨fun _ _ _ _ _ E hs => tBX12_sorts_0 hd ih.2 E hs, fun _ _ _ _ _ _ E hs => tBX12_sorts_2 hd ih.2 E hs⟩
noncomputable def qX12_sorts (x1 : Int32) (x2 : Int32) (h : ea_H) : Option (Unit × ea_H) := qX12_sorts_0 x1 x2 h
theorem sX12_sorts {d : Nat} {x1 : Int32} {x2 : Int32} {h : ea_H} {r : Unit} {h' : ea_H} (hd : 1 ≤ d) (hs : ShM h) (K : qX12_sorts x1 x2 h = some (r, h')) : ea_Met mX12_sorts d [vR (some 326), vI x1, vI x2] h none h' := by
  unfold qX12_sorts at K
  obtain ⟨n, hn⟩ := fqX12_sorts_0 x1 x2 h _ K
  have W := (tgX12_sorts (d := d) (h0 := h) hd n).1 x1 x2 h _ _ (hn n (Nat.le_refl _)) hs
  exact ea_enter rfl (Nat.le_of_ble_eq_true rfl) W
theorem kpX12_sorts (x1 : Int32) (x2 : Int32) (h : ea_H) : kp (ea_core h) (qX12_sorts x1 x2 h) := fun x e => by
  obtain ⟨n, hn⟩ := fqX12_sorts_0 x1 x2 h x e
  exact (kgX12_sorts n).1 x1 x2 h x (hn n (Nat.le_refl _))
noncomputable def BX12_begins_0 (J2 : Int32 → Int32 → ea_H → Option (Unit × ea_H)) (x1 : Int32) (h : ea_H) : Option (Unit × ea_H) :=
  (J2 (x1 : Int32) (0 : Int32) h)
theorem tBX12_begins_0 {d : Nat} {h0 : ea_H} (hd : 2 ≤ d) {J2 : Int32 → Int32 → ea_H → Option (Unit × ea_H)}  (kJ2 : ∀ (x1 : Int32) (x2 : Int32) (h : ea_H) (r : Unit) (h' : ea_H), J2 x1 x2 h = some (r, h') → ShM h → ea_W mX12_begins d h0 none h' 2 [(0, vR (some 326)), (1, vI x1), (2, vI x2)] [] h) {x1 : Int32} {h : ea_H} {r : Unit} {h' : ea_H} (E : BX12_begins_0 J2 x1 h = some (r, h')) (hs : ShM h) : ea_W mX12_begins d h0 none h' 0 [(0, vR (some 326)), (1, vI x1)] [] h := by
  unfold BX12_begins_0 at E
  refine ea_iconst (pc := 0) dX12_begins_0 (v := 0) rfl ?_
  refine ea_istore_n (pc := 1) (lv' := [(0, vR (some 326)), (1, vI x1), (2, vI 0)]) dX12_begins_1 rfl (Nat.le_of_ble_eq_true rfl) [1, 2, 0] rfl ?_
  exact (kJ2 (x1 : Int32) (0 : Int32) h _ _ E hs)
theorem kBX12_begins_0 {J2 : Int32 → Int32 → ea_H → Option (Unit × ea_H)}  (cJ2 : ∀ (x1 : Int32) (x2 : Int32) (h : ea_H), kp (ea_core h) (J2 x1 x2 h)) {x1 : Int32} {h : ea_H} : kp (ea_core h) (BX12_begins_0 J2 x1 h) :=
  (kp_tw (cJ2 _ _ _) rfl)
theorem lBX12_begins_0 {J2 : Int32 → Int32 → ea_H → Option (Unit × ea_H)} {J2_ : Int32 → Int32 → ea_H → Option (Unit × ea_H)}  (mJ2 : ∀ (x1 : Int32) (x2 : Int32) (h : ea_H), fle (J2 x1 x2 h) (J2_ x1 x2 h)) {x1 : Int32} {h : ea_H} : fle (BX12_begins_0 J2 x1 h) (BX12_begins_0 J2_ x1 h) :=
  (mJ2 _ _ _)
theorem nBX12_begins_0 {J2 : Int32 → Int32 → ea_H → Option (Unit × ea_H)} {J2_ : Nat → (Int32 → Int32 → ea_H → Option (Unit × ea_H))}  (mJ2 : ∀ (x1 : Int32) (x2 : Int32) (h : ea_H), fct (J2 x1 x2 h) (fun f => J2_ f x1 x2 h)) {x1 : Int32} {h : ea_H} : fct (BX12_begins_0 J2 x1 h) (fun f => BX12_begins_0 (J2_ f) x1 h) :=
  (mJ2 _ _ _)
noncomputable def BX12_begins_2 (J2 : Int32 → Int32 → ea_H → Option (Unit × ea_H)) (J64 : Int32 → Int32 → Int32 → Int32 → ea_H → Option (Unit × ea_H)) (x1 : Int32) (x2 : Int32) (h : ea_H) : Option (Unit × ea_H) :=
  (if (ea_i h 326 63) ≤ x2 then (some ((), h)) else (gd (vp_in x2 120) (if (ea_i h 381 (Int32.toNatClampNeg x2)) = (3 : Int32) then (gd (vp_in x2 120) (gd (vp_in x2 120) (ea_let (ea_wi h 377 (Int32.toNatClampNeg x2) ((ea_i h 377 (Int32.toNatClampNeg x2)) + (1 : Int32))) fun H4 => (gd (vp_in x2 120) (gd (vp_in x2 120) (if (ea_i H4 373 (Int32.toNatClampNeg x2)) = ((-1) : Int32) then (J64 (x1 : Int32) (x2 : Int32) (3 : Int32) ((ea_i H4 377 (Int32.toNatClampNeg x2)) : Int32) H4) else (gd (vp_in x2 120) (gd (vp_in (ea_i H4 373 (Int32.toNatClampNeg x2)) 6) (J64 (x1 : Int32) (x2 : Int32) ((ea_i H4 354 (Int32.toNatClampNeg (ea_i H4 373 (Int32.toNatClampNeg x2)))) : Int32) ((ea_i H4 377 (Int32.toNatClampNeg x2)) : Int32) H4))))))))) else (J2 (x1 : Int32) ((x2 + (1 : Int32)) : Int32) h))))
theorem tBX12_begins_2 {d : Nat} {h0 : ea_H} (hd : 2 ≤ d) {J2 : Int32 → Int32 → ea_H → Option (Unit × ea_H)} {J64 : Int32 → Int32 → Int32 → Int32 → ea_H → Option (Unit × ea_H)}  (kJ2 : ∀ (x1 : Int32) (x2 : Int32) (h : ea_H) (r : Unit) (h' : ea_H), J2 x1 x2 h = some (r, h') → ShM h → ea_W mX12_begins d h0 none h' 2 [(0, vR (some 326)), (1, vI x1), (2, vI x2)] [] h) (kJ64 : ∀ (x1 : Int32) (x2 : Int32) (sx0 : Int32) (sx1 : Int32) (h : ea_H) (r : Unit) (h' : ea_H), J64 x1 x2 sx0 sx1 h = some (r, h') → ShM h → ea_W mX12_begins d h0 none h' 64 [(0, vR (some 326)), (1, vI x1), (2, vI x2)] [vI sx0, vI sx1] h) {x1 : Int32} {x2 : Int32} {h : ea_H} {r : Unit} {h' : ea_H} (E : BX12_begins_2 J2 J64 x1 x2 h = some (r, h')) (hs : ShM h) : ea_W mX12_begins d h0 none h' 2 [(0, vR (some 326)), (1, vI x1), (2, vI x2)] [] h := by
  unfold BX12_begins_2 at E
  refine ea_iload_n (pc := 2) dX12_begins_2 rfl 2 rfl ?_
  refine ea_aload_n (pc := 3) dX12_begins_3 rfl 0 rfl ?_
  refine ea_getI (pc := 4) dX12_begins_4 ec_12 (k := 63) (Nat.le_of_ble_eq_true rfl) rfl (Or.inl ew_1465) (cShM_326 hs).1 (cShM_326 hs).2.1 ?_
  refine ea_icmp_ge (pc := 7) (tgt := 87) dX12_begins_7 rfl (fun c11 => ?_) (fun c11 => ?_)
  · have E := (if_pos c11).symm.trans E
    exact ea_vretO (pc := 87) dX12_begins_87 rfl E
  · have E := (if_neg c11).symm.trans E
    obtain ⟨z1, E⟩ := gd_some E
    refine ea_aload_n (pc := 10) dX12_begins_10 rfl 0 rfl ?_
    refine ea_getR (pc := 11) dX12_begins_11 ec_12 (k := 81) (Nat.le_of_ble_eq_true rfl) rfl (Or.inl ew_1483) (cShM_326 hs).1 (cShM_326 hs).2.1 (rShM_326_81 hs) ?_
    refine ea_iload_n (pc := 14) dX12_begins_14 rfl 2 rfl ?_
    refine ea_iald (pc := 15) dX12_begins_15 (cShM_381 hs).1 (cShM_381 hs).2.1 (ea_vpl (cShM_381 hs).2.2 z1) ?_
    refine ea_iconst (pc := 16) dX12_begins_16 (v := 3) rfl ?_
    refine ea_icmp_eq (pc := 17) (tgt := 23) dX12_begins_17 rfl (fun c10 => ?_) (fun c10 => ?_)
    · have E := (if_pos c10).symm.trans E
      obtain ⟨z2, E⟩ := gd_some E
      refine ea_aload_n (pc := 23) dX12_begins_23 rfl 0 rfl ?_
      refine ea_getR (pc := 24) dX12_begins_24 ec_12 (k := 77) (Nat.le_of_ble_eq_true rfl) rfl (Or.inl ew_1479) (cShM_326 hs).1 (cShM_326 hs).2.1 (rShM_326_77 hs) ?_
      refine ea_iload_n (pc := 27) dX12_begins_27 rfl 2 rfl ?_
      refine ea_dup2 (pc := 28) dX12_begins_28 rfl rfl ?_
      obtain ⟨z3, E⟩ := gd_some E
      refine ea_iald (pc := 29) dX12_begins_29 (cShM_377 hs).1 (cShM_377 hs).2.1 (ea_vpl (cShM_377 hs).2.2 z2) ?_
      refine ea_iconst (pc := 30) dX12_begins_30 (v := 1) rfl ?_
      refine ea_iadd (pc := 31) dX12_begins_31 ?_
      obtain ⟨H4, eH4, E⟩ := let_some E
      refine ea_iast (pc := 32) dX12_begins_32 (cShM_377 hs).1 (cShM_377 hs).2.1 (ea_vpl (cShM_377 hs).2.2 z3) ?_
      refine ea_nm eH4 ?_
      have hsH4 : ShM H4 := by rw [eH4]; exact hs
      obtain ⟨z5, E⟩ := gd_some E
      refine ea_aload_n (pc := 33) dX12_begins_33 rfl 0 rfl ?_
      refine ea_getR (pc := 34) dX12_begins_34 ec_12 (k := 77) (Nat.le_of_ble_eq_true rfl) rfl (Or.inl ew_1479) (cShM_326 hsH4).1 (cShM_326 hsH4).2.1 (rShM_326_77 hsH4) ?_
      refine ea_iload_n (pc := 37) dX12_begins_37 rfl 2 rfl ?_
      obtain ⟨z6, E⟩ := gd_some E
      refine ea_iald (pc := 38) dX12_begins_38 (cShM_377 hsH4).1 (cShM_377 hsH4).2.1 (ea_vpl (cShM_377 hsH4).2.2 z5) ?_
      refine ea_aload_n (pc := 39) dX12_begins_39 rfl 0 rfl ?_
      refine ea_getR (pc := 40) dX12_begins_40 ec_12 (k := 73) (Nat.le_of_ble_eq_true rfl) rfl (Or.inl ew_1475) (cShM_326 hsH4).1 (cShM_326 hsH4).2.1 (rShM_326_73 hsH4) ?_
      refine ea_iload_n (pc := 43) dX12_begins_43 rfl 2 rfl ?_
      refine ea_iald (pc := 44) dX12_begins_44 (cShM_373 hsH4).1 (cShM_373 hsH4).2.1 (ea_vpl (cShM_373 hsH4).2.2 z6) ?_
      refine ea_iconst (pc := 45) dX12_begins_45 (v := (-1)) rfl ?_
      refine ea_icmp_ne (pc := 46) (tgt := 53) dX12_begins_46 rfl (fun c9 => ?_) (fun c9 => ?_)
      · have E := (if_neg c9).symm.trans E
        obtain ⟨z7, E⟩ := gd_some E
        refine ea_aload_n (pc := 53) dX12_begins_53 rfl 0 rfl ?_
        refine ea_getR (pc := 54) dX12_begins_54 ec_12 (k := 33) (Nat.le_of_ble_eq_true rfl) rfl (Or.inl ew_1435) (cShM_326 hsH4).1 (cShM_326 hsH4).2.1 (rShM_326_33 hsH4) ?_
        refine ea_aload_n (pc := 57) dX12_begins_57 rfl 0 rfl ?_
        refine ea_getR (pc := 58) dX12_begins_58 ec_12 (k := 73) (Nat.le_of_ble_eq_true rfl) rfl (Or.inl ew_1475) (cShM_326 hsH4).1 (cShM_326 hsH4).2.1 (rShM_326_73 hsH4) ?_
        refine ea_iload_n (pc := 61) dX12_begins_61 rfl 2 rfl ?_
        obtain ⟨z8, E⟩ := gd_some E
        refine ea_iald (pc := 62) dX12_begins_62 (cShM_373 hsH4).1 (cShM_373 hsH4).2.1 (ea_vpl (cShM_373 hsH4).2.2 z7) ?_
        refine ea_iald (pc := 63) dX12_begins_63 (cShM_354 hsH4).1 (cShM_354 hsH4).2.1 (ea_vpl (cShM_354 hsH4).2.2 z8) ?_
        exact (kJ64 (x1 : Int32) (x2 : Int32) ((ea_i H4 354 (Int32.toNatClampNeg (ea_i H4 373 (Int32.toNatClampNeg x2)))) : Int32) ((ea_i H4 377 (Int32.toNatClampNeg x2)) : Int32) H4 _ _ E hsH4)
      · have E := (if_pos c9).symm.trans E
        refine ea_iconst (pc := 49) dX12_begins_49 (v := 3) rfl ?_
        refine ea_goto (pc := 50) (tgt := 64) dX12_begins_50 rfl ?_
        exact (kJ64 (x1 : Int32) (x2 : Int32) (3 : Int32) ((ea_i H4 377 (Int32.toNatClampNeg x2)) : Int32) H4 _ _ E hsH4)
    · have E := (if_neg c10).symm.trans E
      refine ea_goto (pc := 20) (tgt := 81) dX12_begins_20 rfl ?_
      refine ea_iinc (pc := 81) (v := 1) (lv' := [(0, vR (some 326)), (1, vI x1), (2, vI (x2 + (1 : Int32)))]) dX12_begins_81 2 rfl rfl (Nat.le_of_ble_eq_true rfl) [1, 2, 0] rfl ?_
      refine ea_goto (pc := 84) (tgt := 2) dX12_begins_84 rfl ?_
      exact (kJ2 (x1 : Int32) ((x2 + (1 : Int32)) : Int32) h _ _ E hs)
theorem kBX12_begins_2 {J2 : Int32 → Int32 → ea_H → Option (Unit × ea_H)} {J64 : Int32 → Int32 → Int32 → Int32 → ea_H → Option (Unit × ea_H)}  (cJ2 : ∀ (x1 : Int32) (x2 : Int32) (h : ea_H), kp (ea_core h) (J2 x1 x2 h)) (cJ64 : ∀ (x1 : Int32) (x2 : Int32) (sx0 : Int32) (sx1 : Int32) (h : ea_H), kp (ea_core h) (J64 x1 x2 sx0 sx1 h)) {x1 : Int32} {x2 : Int32} {h : ea_H} : kp (ea_core h) (BX12_begins_2 J2 J64 x1 x2 h) :=
  (kp_ite (kp_ret rfl) (kp_gd (kp_ite (kp_gd (kp_gd (kp_let (kp_gd (kp_gd (kp_ite (kp_tw (cJ64 _ _ _ _ _) rfl) (kp_gd (kp_gd (kp_tw (cJ64 _ _ _ _ _) rfl))))))))) (kp_tw (cJ2 _ _ _) rfl))))
theorem lBX12_begins_2 {J2 : Int32 → Int32 → ea_H → Option (Unit × ea_H)} {J64 : Int32 → Int32 → Int32 → Int32 → ea_H → Option (Unit × ea_H)} {J2_ : Int32 → Int32 → ea_H → Option (Unit × ea_H)} {J64_ : Int32 → Int32 → Int32 → Int32 → ea_H → Option (Unit × ea_H)}  (mJ2 : ∀ (x1 : Int32) (x2 : Int32) (h : ea_H), fle (J2 x1 x2 h) (J2_ x1 x2 h)) (mJ64 : ∀ (x1 : Int32) (x2 : Int32) (sx0 : Int32) (sx1 : Int32) (h : ea_H), fle (J64 x1 x2 sx0 sx1 h) (J64_ x1 x2 sx0 sx1 h)) {x1 : Int32} {x2 : Int32} {h : ea_H} : fle (BX12_begins_2 J2 J64 x1 x2 h) (BX12_begins_2 J2_ J64_ x1 x2 h) :=
  (fle_ite (fle_rfl _) (fle_gd (fle_ite (fle_gd (fle_gd (fle_let fun _ => (fle_gd (fle_gd (fle_ite (mJ64 _ _ _ _ _) (fle_gd (fle_gd (mJ64 _ _ _ _ _))))))))) (mJ2 _ _ _))))
theorem nBX12_begins_2 {J2 : Int32 → Int32 → ea_H → Option (Unit × ea_H)} {J64 : Int32 → Int32 → Int32 → Int32 → ea_H → Option (Unit × ea_H)} {J2_ : Nat → (Int32 → Int32 → ea_H → Option (Unit × ea_H))} {J64_ : Nat → (Int32 → Int32 → Int32 → Int32 → ea_H → Option (Unit × ea_H))}  (mJ2 : ∀ (x1 : Int32) (x2 : Int32) (h : ea_H), fct (J2 x1 x2 h) (fun f => J2_ f x1 x2 h)) (mJ64 : ∀ (x1 : Int32) (x2 : Int32) (sx0 : Int32) (sx1 : Int32) (h : ea_H), fct (J64 x1 x2 sx0 sx1 h) (fun f => J64_ f x1 x2 sx0 sx1 h)) {x1 : Int32} {x2 : Int32} {h : ea_H} : fct (BX12_begins_2 J2 J64 x1 x2 h) (fun f => BX12_begins_2 (J2_ f) (J64_ f) x1 x2 h) :=
  (fct_ite (fct_rfl _) (fct_gd (fct_ite (fct_gd (fct_gd (fct_let fun _ => (fct_gd (fct_gd (fct_ite (mJ64 _ _ _ _ _) (fct_gd (fct_gd (mJ64 _ _ _ _ _))))))))) (mJ2 _ _ _))))
noncomputable def BX12_begins_64 (J2 : Int32 → Int32 → ea_H → Option (Unit × ea_H)) (x1 : Int32) (x2 : Int32) (sx0 : Int32) (sx1 : Int32) (h : ea_H) : Option (Unit × ea_H) :=
  (if sx1 < sx0 then (J2 (x1 : Int32) ((x2 + (1 : Int32)) : Int32) h) else (gd (vp_in x2 120) (Option.bind (qX12_turns (x2 : Int32) (x1 : Int32) (6 : Int32) ((ea_i h 382 (Int32.toNatClampNeg x2)) : Int32) h) fun w13 => (J2 (x1 : Int32) ((x2 + (1 : Int32)) : Int32) w13.2))))
theorem tBX12_begins_64 {d : Nat} {h0 : ea_H} (hd : 2 ≤ d) {J2 : Int32 → Int32 → ea_H → Option (Unit × ea_H)}  (kJ2 : ∀ (x1 : Int32) (x2 : Int32) (h : ea_H) (r : Unit) (h' : ea_H), J2 x1 x2 h = some (r, h') → ShM h → ea_W mX12_begins d h0 none h' 2 [(0, vR (some 326)), (1, vI x1), (2, vI x2)] [] h) {x1 : Int32} {x2 : Int32} {sx0 : Int32} {sx1 : Int32} {h : ea_H} {r : Unit} {h' : ea_H} (E : BX12_begins_64 J2 x1 x2 sx0 sx1 h = some (r, h')) (hs : ShM h) : ea_W mX12_begins d h0 none h' 64 [(0, vR (some 326)), (1, vI x1), (2, vI x2)] [vI sx0, vI sx1] h := by
  unfold BX12_begins_64 at E
  refine ea_icmp_lt (pc := 64) (tgt := 81) dX12_begins_64 rfl (fun c14 => ?_) (fun c14 => ?_)
  · have E := (if_pos c14).symm.trans E
    refine ea_iinc (pc := 81) (v := 1) (lv' := [(0, vR (some 326)), (1, vI x1), (2, vI (x2 + (1 : Int32)))]) dX12_begins_81 2 rfl rfl (Nat.le_of_ble_eq_true rfl) [1, 2, 0] rfl ?_
    refine ea_goto (pc := 84) (tgt := 2) dX12_begins_84 rfl ?_
    exact (kJ2 (x1 : Int32) ((x2 + (1 : Int32)) : Int32) h _ _ E hs)
  · have E := (if_neg c14).symm.trans E
    obtain ⟨z12, E⟩ := gd_some E
    refine ea_aload_n (pc := 67) dX12_begins_67 rfl 0 rfl ?_
    refine ea_iload_n (pc := 68) dX12_begins_68 rfl 2 rfl ?_
    refine ea_iload_n (pc := 69) dX12_begins_69 rfl 1 rfl ?_
    refine ea_bipush (pc := 70) dX12_begins_70 (v := 6) rfl ?_
    refine ea_aload_n (pc := 72) dX12_begins_72 rfl 0 rfl ?_
    refine ea_getR (pc := 73) dX12_begins_73 ec_12 (k := 82) (Nat.le_of_ble_eq_true rfl) rfl (Or.inl ew_1484) (cShM_326 hs).1 (cShM_326 hs).2.1 (rShM_326_82 hs) ?_
    refine ea_iload_n (pc := 76) dX12_begins_76 rfl 2 rfl ?_
    obtain ⟨w13, Ew13, E⟩ := bd_some E
    have hsw13 : ShM w13.2 := ShM_core ((kpX12_turns _ _ _ _ _) _ Ew13) hs
    refine ea_iald (pc := 77) dX12_begins_77 (cShM_382 hs).1 (cShM_382 hs).2.1 (ea_vpl (cShM_382 hs).2.2 z12) ?_
    refine ea_callV (pc := 78) (d' := d - 1) (As := [vI x2, vI x1, vI 6, vI (ea_i h 382 (Int32.toNatClampNeg x2))]) (st := []) dX12_begins_78 kX12_turns (sX12_turns (d := d - 1) (by omega) hs Ew13) (by omega) rfl (Nat.le_of_ble_eq_true rfl) ew_2068 ew_2070 ew_95 (ci := 12) rfl (by decide) (cShM_326 hs).1 (cShM_326 hs).2.1 ?_
    refine ea_iinc (pc := 81) (v := 1) (lv' := [(0, vR (some 326)), (1, vI x1), (2, vI (x2 + (1 : Int32)))]) dX12_begins_81 2 rfl rfl (Nat.le_of_ble_eq_true rfl) [1, 2, 0] rfl ?_
    refine ea_goto (pc := 84) (tgt := 2) dX12_begins_84 rfl ?_
    exact (kJ2 (x1 : Int32) ((x2 + (1 : Int32)) : Int32) w13.2 _ _ E hsw13)
theorem kBX12_begins_64 {J2 : Int32 → Int32 → ea_H → Option (Unit × ea_H)}  (cJ2 : ∀ (x1 : Int32) (x2 : Int32) (h : ea_H), kp (ea_core h) (J2 x1 x2 h)) {x1 : Int32} {x2 : Int32} {sx0 : Int32} {sx1 : Int32} {h : ea_H} : kp (ea_core h) (BX12_begins_64 J2 x1 x2 sx0 sx1 h) :=
  (kp_ite (kp_tw (cJ2 _ _ _) rfl) (kp_gd (kp_bind (kp_tw (kpX12_turns _ _ _ _ _) rfl) fun w13 hcw13 => (kp_tw (cJ2 _ _ _) hcw13))))
theorem lBX12_begins_64 {J2 : Int32 → Int32 → ea_H → Option (Unit × ea_H)} {J2_ : Int32 → Int32 → ea_H → Option (Unit × ea_H)}  (mJ2 : ∀ (x1 : Int32) (x2 : Int32) (h : ea_H), fle (J2 x1 x2 h) (J2_ x1 x2 h)) {x1 : Int32} {x2 : Int32} {sx0 : Int32} {sx1 : Int32} {h : ea_H} : fle (BX12_begins_64 J2 x1 x2 sx0 sx1 h) (BX12_begins_64 J2_ x1 x2 sx0 sx1 h) :=
  (fle_ite (mJ2 _ _ _) (fle_gd (fle_bind (fle_rfl _) fun _ => (mJ2 _ _ _))))
theorem nBX12_begins_64 {J2 : Int32 → Int32 → ea_H → Option (Unit × ea_H)} {J2_ : Nat → (Int32 → Int32 → ea_H → Option (Unit × ea_H))}  (mJ2 : ∀ (x1 : Int32) (x2 : Int32) (h : ea_H), fct (J2 x1 x2 h) (fun f => J2_ f x1 x2 h)) {x1 : Int32} {x2 : Int32} {sx0 : Int32} {sx1 : Int32} {h : ea_H} : fct (BX12_begins_64 J2 x1 x2 sx0 sx1 h) (fun f => BX12_begins_64 (J2_ f) x1 x2 sx0 sx1 h) :=
  (fct_ite (mJ2 _ _ _) (fct_gd (fct_bind (fct_rfl _) fun _ => (mJ2 _ _ _))))
noncomputable def gX12_begins : Nat → (Int32 → ea_H → Option (Unit × ea_H)) × (Int32 → Int32 → ea_H → Option (Unit × ea_H)) × (Int32 → Int32 → Int32 → Int32 → ea_H → Option (Unit × ea_H))
  | 0 => (fun _ _ => none, fun _ _ _ => none, fun _ _ _ _ _ => none)
  | f + 1 => (BX12_begins_0 (gX12_begins f).2.1, BX12_begins_2 (gX12_begins f).2.1 (gX12_begins f).2.2, BX12_begins_64 (gX12_begins f).2.1)
theorem mgX12_begins : ∀ f : Nat, (∀ (x1 : Int32) (h : ea_H), fle ((gX12_begins f).1 x1 h) ((gX12_begins (f + 1)).1 x1 h)) ∧ (∀ (x1 : Int32) (x2 : Int32) (h : ea_H), fle ((gX12_begins f).2.1 x1 x2 h) ((gX12_begins (f + 1)).2.1 x1 x2 h)) ∧ (∀ (x1 : Int32) (x2 : Int32) (sx0 : Int32) (sx1 : Int32) (h : ea_H), fle ((gX12_begins f).2.2 x1 x2 sx0 sx1 h) ((gX12_begins (f + 1)).2.2 x1 x2 sx0 sx1 h)) := by
  intro f
  induction f with
  | zero => exact ⟨fun _ _ => fle_none _, fun _ _ _ => fle_none _, fun _ _ _ _ _ => fle_none _⟩
  | succ f ih => exact ⟨fun _ _ => lBX12_begins_0 ih.2.1, fun _ _ _ => lBX12_begins_2 ih.2.1 ih.2.2, fun _ _ _ _ _ => lBX12_begins_64 ih.2.1⟩
noncomputable def qX12_begins_0 (x1 : Int32) (h : ea_H) : Option (Unit × ea_H) := flim fun f => (gX12_begins f).1 x1 h
noncomputable def qX12_begins_2 (x1 : Int32) (x2 : Int32) (h : ea_H) : Option (Unit × ea_H) := flim fun f => (gX12_begins f).2.1 x1 x2 h
noncomputable def qX12_begins_64 (x1 : Int32) (x2 : Int32) (sx0 : Int32) (sx1 : Int32) (h : ea_H) : Option (Unit × ea_H) := flim fun f => (gX12_begins f).2.2 x1 x2 sx0 sx1 h
theorem fqX12_begins_0 (x1 : Int32) (h : ea_H) : fct (qX12_begins_0 x1 h) fun f => (gX12_begins f).1 x1 h := flim_ct fun f => (mgX12_begins f).1 x1 h
theorem fqX12_begins_2 (x1 : Int32) (x2 : Int32) (h : ea_H) : fct (qX12_begins_2 x1 x2 h) fun f => (gX12_begins f).2.1 x1 x2 h := flim_ct fun f => (mgX12_begins f).2.1 x1 x2 h
theorem fqX12_begins_64 (x1 : Int32) (x2 : Int32) (sx0 : Int32) (sx1 : Int32) (h : ea_H) : fct (qX12_begins_64 x1 x2 sx0 sx1 h) fun f => (gX12_begins f).2.2 x1 x2 sx0 sx1 h := flim_ct fun f => (mgX12_begins f).2.2 x1 x2 sx0 sx1 h
/-- how a block opens -/
theorem uqX12_begins_0 {x1 : Int32} {h : ea_H} {P : Unit × ea_H → Prop} (H : sat (BX12_begins_0 qX12_begins_2 x1 h) P) : sat (qX12_begins_0 x1 h) P := by
  obtain ⟨x, e, hp⟩ := H
  obtain ⟨n, hn⟩ := nBX12_begins_0 fqX12_begins_2 x e
  exact ⟨x, flim_at (fun f => (mgX12_begins f).1 x1 h) (f := n + 1) (hn n (Nat.le_refl _)), hp⟩
/-- how a block opens -/
theorem uqX12_begins_2 {x1 : Int32} {x2 : Int32} {h : ea_H} {P : Unit × ea_H → Prop} (H : sat (BX12_begins_2 qX12_begins_2 qX12_begins_64 x1 x2 h) P) : sat (qX12_begins_2 x1 x2 h) P := by
  obtain ⟨x, e, hp⟩ := H
  obtain ⟨n, hn⟩ := nBX12_begins_2 fqX12_begins_2 fqX12_begins_64 x e
  exact ⟨x, flim_at (fun f => (mgX12_begins f).2.1 x1 x2 h) (f := n + 1) (hn n (Nat.le_refl _)), hp⟩
/-- how a block opens -/
theorem uqX12_begins_64 {x1 : Int32} {x2 : Int32} {sx0 : Int32} {sx1 : Int32} {h : ea_H} {P : Unit × ea_H → Prop} (H : sat (BX12_begins_64 qX12_begins_2 x1 x2 sx0 sx1 h) P) : sat (qX12_begins_64 x1 x2 sx0 sx1 h) P := by
  obtain ⟨x, e, hp⟩ := H
  obtain ⟨n, hn⟩ := nBX12_begins_64 fqX12_begins_2 x e
  exact ⟨x, flim_at (fun f => (mgX12_begins f).2.2 x1 x2 sx0 sx1 h) (f := n + 1) (hn n (Nat.le_refl _)), hp⟩
theorem kgX12_begins : ∀ f : Nat, (∀ (x1 : Int32) (h : ea_H), kp (ea_core h) ((gX12_begins f).1 x1 h)) ∧ (∀ (x1 : Int32) (x2 : Int32) (h : ea_H), kp (ea_core h) ((gX12_begins f).2.1 x1 x2 h)) ∧ (∀ (x1 : Int32) (x2 : Int32) (sx0 : Int32) (sx1 : Int32) (h : ea_H), kp (ea_core h) ((gX12_begins f).2.2 x1 x2 sx0 sx1 h)) := by
  intro f
  induction f with
  | zero => exact ⟨fun _ _ => kp_none _, fun _ _ _ => kp_none _, fun _ _ _ _ _ => kp_none _⟩
  | succ f ih => exact ⟨fun _ _ => kBX12_begins_0 ih.2.1, fun _ _ _ => kBX12_begins_2 ih.2.1 ih.2.2, fun _ _ _ _ _ => kBX12_begins_64 ih.2.1⟩
theorem tgX12_begins {d : Nat} {h0 : ea_H} (hd : 2 ≤ d) : ∀ f : Nat, (∀ (x1 : Int32) (h : ea_H) (r : Unit) (h' : ea_H), (gX12_begins f).1 x1 h = some (r, h') → ShM h → ea_W mX12_begins d h0 none h' 0 [(0, vR (some 326)), (1, vI x1)] [] h) ∧ (∀ (x1 : Int32) (x2 : Int32) (h : ea_H) (r : Unit) (h' : ea_H), (gX12_begins f).2.1 x1 x2 h = some (r, h') → ShM h → ea_W mX12_begins d h0 none h' 2 [(0, vR (some 326)), (1, vI x1), (2, vI x2)] [] h) ∧ (∀ (x1 : Int32) (x2 : Int32) (sx0 : Int32) (sx1 : Int32) (h : ea_H) (r : Unit) (h' : ea_H), (gX12_begins f).2.2 x1 x2 sx0 sx1 h = some (r, h') → ShM h → ea_W mX12_begins d h0 none h' 64 [(0, vR (some 326)), (1, vI x1), (2, vI x2)] [vI sx0, vI sx1] h) := by
  intro f
  induction f with
  | zero => exact ⟨fun _ _ _ _ E => no_some E, fun _ _ _ _ _ E => no_some E, fun _ _ _ _ _ _ _ E => no_some E⟩
  | succ f ih => exact ⟨fun _ _ _ _ E hs => tBX12_begins_0 hd ih.2.1 E hs, fun _ _ _ _ _ E hs => tBX12_begins_2 hd ih.2.1 ih.2.2 E hs, fun _ _ _ _ _ _ _ E hs => tBX12_begins_64 hd ih.2.1 E hs⟩
noncomputable def qX12_begins (x1 : Int32) (h : ea_H) : Option (Unit × ea_H) := qX12_begins_0 x1 h
theorem sX12_begins {d : Nat} {x1 : Int32} {h : ea_H} {r : Unit} {h' : ea_H} (hd : 2 ≤ d) (hs : ShM h) (K : qX12_begins x1 h = some (r, h')) : ea_Met mX12_begins d [vR (some 326), vI x1] h none h' := by
  unfold qX12_begins at K
  obtain ⟨n, hn⟩ := fqX12_begins_0 x1 h _ K
  have W := (tgX12_begins (d := d) (h0 := h) hd n).1 x1 h _ _ (hn n (Nat.le_refl _)) hs
  exact ea_enter rfl (Nat.le_of_ble_eq_true rfl) W
theorem kpX12_begins (x1 : Int32) (h : ea_H) : kp (ea_core h) (qX12_begins x1 h) := fun x e => by
  obtain ⟨n, hn⟩ := fqX12_begins_0 x1 h x e
  exact (kgX12_begins n).1 x1 h x (hn n (Nat.le_refl _))
noncomputable def BX12_look_0 (J85 : Int32 → Int32 → Int32 → ea_H → Option (Int32 × ea_H)) (x1 : Int32) (h : ea_H) : Option (Int32 × ea_H) :=
  (if Int32.toInt x1 = 0 then (some ((ea_i h 326 0), h)) else (if Int32.toInt x1 = 1 then (some ((ea_i h 326 1), h)) else (if Int32.toInt x1 = 2 then (some ((ea_i h 326 2), h)) else (if Int32.toInt x1 = 3 then (some ((ea_i h 326 63), h)) else (if Int32.toInt x1 = 4 then (some ((ea_i h 326 92), h)) else (if Int32.toInt x1 = 5 then (some ((ea_i h 326 25), h)) else (Option.bind (qX12_isIn (x1 : Int32) (10 : Int32) (16 : Int32) h) fun w1 => (if w1.1 = (0 : Int32) then (some (((-1) : Int32), w1.2)) else (J85 (x1 : Int32) (0 : Int32) (0 : Int32) w1.2)))))))))
theorem tBX12_look_0 {d : Nat} {h0 : ea_H} (hd : 2 ≤ d) {J85 : Int32 → Int32 → Int32 → ea_H → Option (Int32 × ea_H)}  (kJ85 : ∀ (x1 : Int32) (x2 : Int32) (x3 : Int32) (h : ea_H) (r : Int32) (h' : ea_H), J85 x1 x2 x3 h = some (r, h') → ShM h → ea_W mX12_look d h0 (some (vI r)) h' 85 [(0, vR (some 326)), (1, vI x1), (2, vI x2), (3, vI x3)] [] h) {x1 : Int32} {h : ea_H} {r : Int32} {h' : ea_H} (E : BX12_look_0 J85 x1 h = some (r, h')) (hs : ShM h) : ea_W mX12_look d h0 (some (vI r)) h' 0 [(0, vR (some 326)), (1, vI x1)] [] h := by
  unfold BX12_look_0 at E
  refine ea_iconst (pc := 0) dX12_look_0 (v := 0) rfl ?_
  refine ea_istore_n (pc := 1) (lv' := [(0, vR (some 326)), (1, vI x1), (2, vI 0)]) dX12_look_1 rfl (Nat.le_of_ble_eq_true rfl) [1, 2, 0] rfl ?_
  refine ea_iload_n (pc := 2) dX12_look_2 rfl 1 rfl ?_
  by_cases q3_0 : Int32.toInt x1 = 0
  · have E := (if_pos q3_0).symm.trans E
    refine ea_tswIn (pc := 3) (tgt := 40) dX12_look_3 (by rw [q3_0]; decide) (by rw [q3_0]; decide) (by rw [q3_0]; rfl) rfl ?_
    refine ea_aload_n (pc := 40) dX12_look_40 rfl 0 rfl ?_
    refine ea_getI (pc := 41) dX12_look_41 ec_12 (k := 0) (Nat.le_of_ble_eq_true rfl) rfl (Or.inl ew_1402) (cShM_326 hs).1 (cShM_326 hs).2.1 ?_
    exact ea_iretO (pc := 44) dX12_look_44 rfl rfl E
  have E := (if_neg q3_0).symm.trans E
  by_cases q3_1 : Int32.toInt x1 = 1
  · have E := (if_pos q3_1).symm.trans E
    refine ea_tswIn (pc := 3) (tgt := 45) dX12_look_3 (by rw [q3_1]; decide) (by rw [q3_1]; decide) (by rw [q3_1]; rfl) rfl ?_
    refine ea_aload_n (pc := 45) dX12_look_45 rfl 0 rfl ?_
    refine ea_getI (pc := 46) dX12_look_46 ec_12 (k := 1) (Nat.le_of_ble_eq_true rfl) rfl (Or.inl ew_1403) (cShM_326 hs).1 (cShM_326 hs).2.1 ?_
    exact ea_iretO (pc := 49) dX12_look_49 rfl rfl E
  have E := (if_neg q3_1).symm.trans E
  by_cases q3_2 : Int32.toInt x1 = 2
  · have E := (if_pos q3_2).symm.trans E
    refine ea_tswIn (pc := 3) (tgt := 50) dX12_look_3 (by rw [q3_2]; decide) (by rw [q3_2]; decide) (by rw [q3_2]; rfl) rfl ?_
    refine ea_aload_n (pc := 50) dX12_look_50 rfl 0 rfl ?_
    refine ea_getI (pc := 51) dX12_look_51 ec_12 (k := 2) (Nat.le_of_ble_eq_true rfl) rfl (Or.inl ew_1404) (cShM_326 hs).1 (cShM_326 hs).2.1 ?_
    exact ea_iretO (pc := 54) dX12_look_54 rfl rfl E
  have E := (if_neg q3_2).symm.trans E
  by_cases q3_3 : Int32.toInt x1 = 3
  · have E := (if_pos q3_3).symm.trans E
    refine ea_tswIn (pc := 3) (tgt := 55) dX12_look_3 (by rw [q3_3]; decide) (by rw [q3_3]; decide) (by rw [q3_3]; rfl) rfl ?_
    refine ea_aload_n (pc := 55) dX12_look_55 rfl 0 rfl ?_
    refine ea_getI (pc := 56) dX12_look_56 ec_12 (k := 63) (Nat.le_of_ble_eq_true rfl) rfl (Or.inl ew_1465) (cShM_326 hs).1 (cShM_326 hs).2.1 ?_
    exact ea_iretO (pc := 59) dX12_look_59 rfl rfl E
  have E := (if_neg q3_3).symm.trans E
  by_cases q3_4 : Int32.toInt x1 = 4
  · have E := (if_pos q3_4).symm.trans E
    refine ea_tswIn (pc := 3) (tgt := 60) dX12_look_3 (by rw [q3_4]; decide) (by rw [q3_4]; decide) (by rw [q3_4]; rfl) rfl ?_
    refine ea_aload_n (pc := 60) dX12_look_60 rfl 0 rfl ?_
    refine ea_getI (pc := 61) dX12_look_61 ec_12 (k := 92) (Nat.le_of_ble_eq_true rfl) rfl (Or.inl ew_1494) (cShM_326 hs).1 (cShM_326 hs).2.1 ?_
    exact ea_iretO (pc := 64) dX12_look_64 rfl rfl E
  have E := (if_neg q3_4).symm.trans E
  by_cases q3_5 : Int32.toInt x1 = 5
  · have E := (if_pos q3_5).symm.trans E
    refine ea_tswIn (pc := 3) (tgt := 65) dX12_look_3 (by rw [q3_5]; decide) (by rw [q3_5]; decide) (by rw [q3_5]; rfl) rfl ?_
    refine ea_aload_n (pc := 65) dX12_look_65 rfl 0 rfl ?_
    refine ea_getI (pc := 66) dX12_look_66 ec_12 (k := 25) (Nat.le_of_ble_eq_true rfl) rfl (Or.inl ew_1427) (cShM_326 hs).1 (cShM_326 hs).2.1 ?_
    exact ea_iretO (pc := 69) dX12_look_69 rfl rfl E
  have E := (if_neg q3_5).symm.trans E
  obtain ⟨w1, Ew1, E⟩ := bd_some E
  have hsw1 : ShM w1.2 := ShM_core ((kpX12_isIn _ _ _ _) _ Ew1) hs
  refine ea_tswOut (pc := 3) (tgt := 70) dX12_look_3 (ea_sw_0_5 q3_0 q3_1 q3_2 q3_3 q3_4 q3_5) rfl ?_
  refine ea_iload_n (pc := 70) dX12_look_70 rfl 1 rfl ?_
  refine ea_bipush (pc := 71) dX12_look_71 (v := 10) rfl ?_
  refine ea_bipush (pc := 73) dX12_look_73 (v := 16) rfl ?_
  refine ea_callS (pc := 75) (d' := d - 1) (As := [vI x1, vI 10, vI 16]) (st := []) dX12_look_75 kX12_isIn (sX12_isIn (d := d - 1) (by omega) Ew1) (by omega) rfl (Nat.le_of_ble_eq_true rfl) ew_1769 ew_1770 ?_
  refine ea_if_ne (pc := 78) (tgt := 83) dX12_look_78 rfl (fun c2 => ?_) (fun c2 => ?_)
  · have E := (if_neg c2).symm.trans E
    refine ea_iconst (pc := 83) dX12_look_83 (v := 0) rfl ?_
    refine ea_istore_n (pc := 84) (lv' := [(0, vR (some 326)), (1, vI x1), (2, vI 0), (3, vI 0)]) dX12_look_84 rfl (Nat.le_of_ble_eq_true rfl) [1, 2, 3, 0] rfl ?_
    exact (kJ85 (x1 : Int32) (0 : Int32) (0 : Int32) w1.2 _ _ E hsw1)
  · have E := (if_pos c2).symm.trans E
    refine ea_iconst (pc := 81) dX12_look_81 (v := (-1)) rfl ?_
    exact ea_iretO (pc := 82) dX12_look_82 rfl rfl E
theorem kBX12_look_0 {J85 : Int32 → Int32 → Int32 → ea_H → Option (Int32 × ea_H)}  (cJ85 : ∀ (x1 : Int32) (x2 : Int32) (x3 : Int32) (h : ea_H), kp (ea_core h) (J85 x1 x2 x3 h)) {x1 : Int32} {h : ea_H} : kp (ea_core h) (BX12_look_0 J85 x1 h) :=
  (kp_ite (kp_ret rfl) (kp_ite (kp_ret rfl) (kp_ite (kp_ret rfl) (kp_ite (kp_ret rfl) (kp_ite (kp_ret rfl) (kp_ite (kp_ret rfl) (kp_bind (kp_tw (kpX12_isIn _ _ _ _) rfl) fun w1 hcw1 => (kp_ite (kp_ret hcw1) (kp_tw (cJ85 _ _ _ _) hcw1)))))))))
theorem lBX12_look_0 {J85 : Int32 → Int32 → Int32 → ea_H → Option (Int32 × ea_H)} {J85_ : Int32 → Int32 → Int32 → ea_H → Option (Int32 × ea_H)}  (mJ85 : ∀ (x1 : Int32) (x2 : Int32) (x3 : Int32) (h : ea_H), fle (J85 x1 x2 x3 h) (J85_ x1 x2 x3 h)) {x1 : Int32} {h : ea_H} : fle (BX12_look_0 J85 x1 h) (BX12_look_0 J85_ x1 h) :=
  (fle_ite (fle_rfl _) (fle_ite (fle_rfl _) (fle_ite (fle_rfl _) (fle_ite (fle_rfl _) (fle_ite (fle_rfl _) (fle_ite (fle_rfl _) (fle_bind (fle_rfl _) fun _ => (fle_ite (fle_rfl _) (mJ85 _ _ _ _)))))))))
theorem nBX12_look_0 {J85 : Int32 → Int32 → Int32 → ea_H → Option (Int32 × ea_H)} {J85_ : Nat → (Int32 → Int32 → Int32 → ea_H → Option (Int32 × ea_H))}  (mJ85 : ∀ (x1 : Int32) (x2 : Int32) (x3 : Int32) (h : ea_H), fct (J85 x1 x2 x3 h) (fun f => J85_ f x1 x2 x3 h)) {x1 : Int32} {h : ea_H} : fct (BX12_look_0 J85 x1 h) (fun f => BX12_look_0 (J85_ f) x1 h) :=
  (fct_ite (fct_rfl _) (fct_ite (fct_rfl _) (fct_ite (fct_rfl _) (fct_ite (fct_rfl _) (fct_ite (fct_rfl _) (fct_ite (fct_rfl _) (fct_bind (fct_rfl _) fun _ => (fct_ite (fct_rfl _) (mJ85 _ _ _ _)))))))))
noncomputable def BX12_look_85 (J85 : Int32 → Int32 → Int32 → ea_H → Option (Int32 × ea_H)) (x1 : Int32) (x2 : Int32) (x3 : Int32) (h : ea_H) : Option (Int32 × ea_H) :=
  (if (ea_i h 326 63) ≤ x3 then (some (x2, h)) else (gd (vp_in x3 120) (if (ea_i h 381 (Int32.toNatClampNeg x3)) = (x1 - (10 : Int32)) then (ea_let (x2 + (1 : Int32)) fun (v5 : Int32) => (J85 (x1 : Int32) (v5 : Int32) ((x3 + (1 : Int32)) : Int32) h)) else (ea_let (x2 + (0 : Int32)) fun (v4 : Int32) => (J85 (x1 : Int32) (v4 : Int32) ((x3 + (1 : Int32)) : Int32) h)))))
theorem tBX12_look_85 {d : Nat} {h0 : ea_H} (hd : 2 ≤ d) {J85 : Int32 → Int32 → Int32 → ea_H → Option (Int32 × ea_H)}  (kJ85 : ∀ (x1 : Int32) (x2 : Int32) (x3 : Int32) (h : ea_H) (r : Int32) (h' : ea_H), J85 x1 x2 x3 h = some (r, h') → ShM h → ea_W mX12_look d h0 (some (vI r)) h' 85 [(0, vR (some 326)), (1, vI x1), (2, vI x2), (3, vI x3)] [] h) {x1 : Int32} {x2 : Int32} {x3 : Int32} {h : ea_H} {r : Int32} {h' : ea_H} (E : BX12_look_85 J85 x1 x2 x3 h = some (r, h')) (hs : ShM h) : ea_W mX12_look d h0 (some (vI r)) h' 85 [(0, vR (some 326)), (1, vI x1), (2, vI x2), (3, vI x3)] [] h := by
  unfold BX12_look_85 at E
  refine ea_iload_n (pc := 85) dX12_look_85 rfl 3 rfl ?_
  refine ea_aload_n (pc := 86) dX12_look_86 rfl 0 rfl ?_
  refine ea_getI (pc := 87) dX12_look_87 ec_12 (k := 63) (Nat.le_of_ble_eq_true rfl) rfl (Or.inl ew_1465) (cShM_326 hs).1 (cShM_326 hs).2.1 ?_
  refine ea_icmp_ge (pc := 90) (tgt := 120) dX12_look_90 rfl (fun c7 => ?_) (fun c7 => ?_)
  · have E := (if_pos c7).symm.trans E
    refine ea_iload_n (pc := 120) dX12_look_120 rfl 2 rfl ?_
    exact ea_iretO (pc := 121) dX12_look_121 rfl rfl E
  · have E := (if_neg c7).symm.trans E
    obtain ⟨z3, E⟩ := gd_some E
    refine ea_iload_n (pc := 93) dX12_look_93 rfl 2 rfl ?_
    refine ea_aload_n (pc := 94) dX12_look_94 rfl 0 rfl ?_
    refine ea_getR (pc := 95) dX12_look_95 ec_12 (k := 81) (Nat.le_of_ble_eq_true rfl) rfl (Or.inl ew_1483) (cShM_326 hs).1 (cShM_326 hs).2.1 (rShM_326_81 hs) ?_
    refine ea_iload_n (pc := 98) dX12_look_98 rfl 3 rfl ?_
    refine ea_iald (pc := 99) dX12_look_99 (cShM_381 hs).1 (cShM_381 hs).2.1 (ea_vpl (cShM_381 hs).2.2 z3) ?_
    refine ea_iload_n (pc := 100) dX12_look_100 rfl 1 rfl ?_
    refine ea_bipush (pc := 101) dX12_look_101 (v := 10) rfl ?_
    refine ea_isub (pc := 103) dX12_look_103 ?_
    refine ea_icmp_ne (pc := 104) (tgt := 111) dX12_look_104 rfl (fun c6 => ?_) (fun c6 => ?_)
    · have E := (if_neg c6).symm.trans E
      obtain ⟨v4, ev4, E⟩ := let_some E
      refine ea_iconst (pc := 111) dX12_look_111 (v := 0) rfl ?_
      refine ea_iadd (pc := 112) dX12_look_112 ?_
      refine ea_istore_n (pc := 113) (lv' := [(0, vR (some 326)), (1, vI x1), (2, vI v4), (3, vI x3)]) dX12_look_113 rfl (Nat.le_of_ble_eq_true rfl) [1, 2, 0, 3] (by rw [ev4]; rfl) ?_
      refine ea_iinc (pc := 114) (v := 1) (lv' := [(0, vR (some 326)), (1, vI x1), (2, vI v4), (3, vI (x3 + (1 : Int32)))]) dX12_look_114 3 rfl rfl (Nat.le_of_ble_eq_true rfl) [1, 2, 3, 0] rfl ?_
      refine ea_goto (pc := 117) (tgt := 85) dX12_look_117 rfl ?_
      exact (kJ85 (x1 : Int32) (v4 : Int32) ((x3 + (1 : Int32)) : Int32) h _ _ E hs)
    · have E := (if_pos c6).symm.trans E
      obtain ⟨v5, ev5, E⟩ := let_some E
      refine ea_iconst (pc := 107) dX12_look_107 (v := 1) rfl ?_
      refine ea_goto (pc := 108) (tgt := 112) dX12_look_108 rfl ?_
      refine ea_iadd (pc := 112) dX12_look_112 ?_
      refine ea_istore_n (pc := 113) (lv' := [(0, vR (some 326)), (1, vI x1), (2, vI v5), (3, vI x3)]) dX12_look_113 rfl (Nat.le_of_ble_eq_true rfl) [1, 2, 0, 3] (by rw [ev5]; rfl) ?_
      refine ea_iinc (pc := 114) (v := 1) (lv' := [(0, vR (some 326)), (1, vI x1), (2, vI v5), (3, vI (x3 + (1 : Int32)))]) dX12_look_114 3 rfl rfl (Nat.le_of_ble_eq_true rfl) [1, 2, 3, 0] rfl ?_
      refine ea_goto (pc := 117) (tgt := 85) dX12_look_117 rfl ?_
      exact (kJ85 (x1 : Int32) (v5 : Int32) ((x3 + (1 : Int32)) : Int32) h _ _ E hs)
theorem kBX12_look_85 {J85 : Int32 → Int32 → Int32 → ea_H → Option (Int32 × ea_H)}  (cJ85 : ∀ (x1 : Int32) (x2 : Int32) (x3 : Int32) (h : ea_H), kp (ea_core h) (J85 x1 x2 x3 h)) {x1 : Int32} {x2 : Int32} {x3 : Int32} {h : ea_H} : kp (ea_core h) (BX12_look_85 J85 x1 x2 x3 h) :=
  (kp_ite (kp_ret rfl) (kp_gd (kp_ite (kp_let (kp_tw (cJ85 _ _ _ _) rfl)) (kp_let (kp_tw (cJ85 _ _ _ _) rfl)))))
theorem lBX12_look_85 {J85 : Int32 → Int32 → Int32 → ea_H → Option (Int32 × ea_H)} {J85_ : Int32 → Int32 → Int32 → ea_H → Option (Int32 × ea_H)}  (mJ85 : ∀ (x1 : Int32) (x2 : Int32) (x3 : Int32) (h : ea_H), fle (J85 x1 x2 x3 h) (J85_ x1 x2 x3 h)) {x1 : Int32} {x2 : Int32} {x3 : Int32} {h : ea_H} : fle (BX12_look_85 J85 x1 x2 x3 h) (BX12_look_85 J85_ x1 x2 x3 h) :=
  (fle_ite (fle_rfl _) (fle_gd (fle_ite (fle_let fun _ => (mJ85 _ _ _ _)) (fle_let fun _ => (mJ85 _ _ _ _)))))
theorem nBX12_look_85 {J85 : Int32 → Int32 → Int32 → ea_H → Option (Int32 × ea_H)} {J85_ : Nat → (Int32 → Int32 → Int32 → ea_H → Option (Int32 × ea_H))}  (mJ85 : ∀ (x1 : Int32) (x2 : Int32) (x3 : Int32) (h : ea_H), fct (J85 x1 x2 x3 h) (fun f => J85_ f x1 x2 x3 h)) {x1 : Int32} {x2 : Int32} {x3 : Int32} {h : ea_H} : fct (BX12_look_85 J85 x1 x2 x3 h) (fun f => BX12_look_85 (J85_ f) x1 x2 x3 h) :=
  (fct_ite (fct_rfl _) (fct_gd (fct_ite (fct_let fun _ => (mJ85 _ _ _ _)) (fct_let fun _ => (mJ85 _ _ _ _)))))
noncomputable def gX12_look : Nat → (Int32 → ea_H → Option (Int32 × ea_H)) × (Int32 → Int32 → Int32 → ea_H → Option (Int32 × ea_H))
  | 0 => (fun _ _ => none, fun _ _ _ _ => none)
  | f + 1 => (BX12_look_0 (gX12_look f).2, BX12_look_85 (gX12_look f).2)
theorem mgX12_look : ∀ f : Nat, (∀ (x1 : Int32) (h : ea_H), fle ((gX12_look f).1 x1 h) ((gX12_look (f + 1)).1 x1 h)) ∧ (∀ (x1 : Int32) (x2 : Int32) (x3 : Int32) (h : ea_H), fle ((gX12_look f).2 x1 x2 x3 h) ((gX12_look (f + 1)).2 x1 x2 x3 h)) := by
  intro f
  induction f with
  | zero => exact ⟨fun _ _ => fle_none _, fun _ _ _ _ => fle_none _⟩
  | succ f ih => exact ⟨fun _ _ => lBX12_look_0 ih.2, fun _ _ _ _ => lBX12_look_85 ih.2⟩
noncomputable def qX12_look_0 (x1 : Int32) (h : ea_H) : Option (Int32 × ea_H) := flim fun f => (gX12_look f).1 x1 h
noncomputable def qX12_look_85 (x1 : Int32) (x2 : Int32) (x3 : Int32) (h : ea_H) : Option (Int32 × ea_H) := flim fun f => (gX12_look f).2 x1 x2 x3 h
theorem fqX12_look_0 (x1 : Int32) (h : ea_H) : fct (qX12_look_0 x1 h) fun f => (gX12_look f).1 x1 h := flim_ct fun f => (mgX12_look f).1 x1 h
theorem fqX12_look_85 (x1 : Int32) (x2 : Int32) (x3 : Int32) (h : ea_H) : fct (qX12_look_85 x1 x2 x3 h) fun f => (gX12_look f).2 x1 x2 x3 h := flim_ct fun f => (mgX12_look f).2 x1 x2 x3 h
/-- how a block opens -/
theorem uqX12_look_0 {x1 : Int32} {h : ea_H} {P : Int32 × ea_H → Prop} (H : sat (BX12_look_0 qX12_look_85 x1 h) P) : sat (qX12_look_0 x1 h) P := by
  obtain ⟨x, e, hp⟩ := H
  obtain ⟨n, hn⟩ := nBX12_look_0 fqX12_look_85 x e
  exact ⟨x, flim_at (fun f => (mgX12_look f).1 x1 h) (f := n + 1) (hn n (Nat.le_refl _)), hp⟩
/-- how a block opens -/
theorem uqX12_look_85 {x1 : Int32} {x2 : Int32} {x3 : Int32} {h : ea_H} {P : Int32 × ea_H → Prop} (H : sat (BX12_look_85 qX12_look_85 x1 x2 x3 h) P) : sat (qX12_look_85 x1 x2 x3 h) P := by
  obtain ⟨x, e, hp⟩ := H
  obtain ⟨n, hn⟩ := nBX12_look_85 fqX12_look_85 x e
  exact ⟨x, flim_at (fun f => (mgX12_look f).2 x1 x2 x3 h) (f := n + 1) (hn n (Nat.le_refl _)), hp⟩
theorem kgX12_look : ∀ f : Nat, (∀ (x1 : Int32) (h : ea_H), kp (ea_core h) ((gX12_look f).1 x1 h)) ∧ (∀ (x1 : Int32) (x2 : Int32) (x3 : Int32) (h : ea_H), kp (ea_core h) ((gX12_look f).2 x1 x2 x3 h)) := by
  intro f
  induction f with
  | zero => exact ⟨fun _ _ => kp_none _, fun _ _ _ _ => kp_none _⟩
  | succ f ih => exact ⟨fun _ _ => kBX12_look_0 ih.2, fun _ _ _ _ => kBX12_look_85 ih.2⟩
theorem tgX12_look {d : Nat} {h0 : ea_H} (hd : 2 ≤ d) : ∀ f : Nat, (∀ (x1 : Int32) (h : ea_H) (r : Int32) (h' : ea_H), (gX12_look f).1 x1 h = some (r, h') → ShM h → ea_W mX12_look d h0 (some (vI r)) h' 0 [(0, vR (some 326)), (1, vI x1)] [] h) ∧ (∀ (x1 : Int32) (x2 : Int32) (x3 : Int32) (h : ea_H) (r : Int32) (h' : ea_H), (gX12_look f).2 x1 x2 x3 h = some (r, h') → ShM h → ea_W mX12_look d h0 (some (vI r)) h' 85 [(0, vR (some 326)), (1, vI x1), (2, vI x2), (3, vI x3)] [] h) := by
  intro f
  induction f with
  | zero => exact ⟨fun _ _ _ _ E => no_some E, fun _ _ _ _ _ _ E => no_some E⟩
  | succ f ih => exact ⟨fun _ _ _ _ E hs => tBX12_look_0 hd ih.2 E hs, fun _ _ _ _ _ _ E hs => tBX12_look_85 hd ih.2 E hs⟩
noncomputable def qX12_look (x1 : Int32) (h : ea_H) : Option (Int32 × ea_H) := qX12_look_0 x1 h
theorem sX12_look {d : Nat} {x1 : Int32} {h : ea_H} {r : Int32} {h' : ea_H} (hd : 2 ≤ d) (hs : ShM h) (K : qX12_look x1 h = some (r, h')) : ea_Met mX12_look d [vR (some 326), vI x1] h (some (vI r)) h' := by
  unfold qX12_look at K
  obtain ⟨n, hn⟩ := fqX12_look_0 x1 h _ K
  have W := (tgX12_look (d := d) (h0 := h) hd n).1 x1 h _ _ (hn n (Nat.le_refl _)) hs
  exact ea_enter rfl (Nat.le_of_ble_eq_true rfl) W
theorem kpX12_look (x1 : Int32) (h : ea_H) : kp (ea_core h) (qX12_look x1 h) := fun x e => by
  obtain ⟨n, hn⟩ := fqX12_look_0 x1 h x e
  exact (kgX12_look n).1 x1 h x (hn n (Nat.le_refl _))
noncomputable def BX12_gone_0 (J2 : Int32 → Int32 → ea_H → Option (Int32 × ea_H)) (x1 : Int32) (h : ea_H) : Option (Int32 × ea_H) :=
  (J2 (x1 : Int32) ((-1) : Int32) h)
theorem tBX12_gone_0 {d : Nat} {h0 : ea_H} (hd : 2 ≤ d) {J2 : Int32 → Int32 → ea_H → Option (Int32 × ea_H)}  (kJ2 : ∀ (x1 : Int32) (x2 : Int32) (h : ea_H) (r : Int32) (h' : ea_H), J2 x1 x2 h = some (r, h') → ShM h → ea_W mX12_gone d h0 (some (vI r)) h' 2 [(0, vR (some 326)), (1, vI x1), (2, vI x2)] [] h) {x1 : Int32} {h : ea_H} {r : Int32} {h' : ea_H} (E : BX12_gone_0 J2 x1 h = some (r, h')) (hs : ShM h) : ea_W mX12_gone d h0 (some (vI r)) h' 0 [(0, vR (some 326)), (1, vI x1)] [] h := by
  unfold BX12_gone_0 at E
  refine ea_iconst (pc := 0) dX12_gone_0 (v := (-1)) rfl ?_
  refine ea_istore_n (pc := 1) (lv' := [(0, vR (some 326)), (1, vI x1), (2, vI (-1))]) dX12_gone_1 rfl (Nat.le_of_ble_eq_true rfl) [1, 2, 0] rfl ?_
  exact (kJ2 (x1 : Int32) ((-1) : Int32) h _ _ E hs)
theorem kBX12_gone_0 {J2 : Int32 → Int32 → ea_H → Option (Int32 × ea_H)}  (cJ2 : ∀ (x1 : Int32) (x2 : Int32) (h : ea_H), kp (ea_core h) (J2 x1 x2 h)) {x1 : Int32} {h : ea_H} : kp (ea_core h) (BX12_gone_0 J2 x1 h) :=
  (kp_tw (cJ2 _ _ _) rfl)
theorem lBX12_gone_0 {J2 : Int32 → Int32 → ea_H → Option (Int32 × ea_H)} {J2_ : Int32 → Int32 → ea_H → Option (Int32 × ea_H)}  (mJ2 : ∀ (x1 : Int32) (x2 : Int32) (h : ea_H), fle (J2 x1 x2 h) (J2_ x1 x2 h)) {x1 : Int32} {h : ea_H} : fle (BX12_gone_0 J2 x1 h) (BX12_gone_0 J2_ x1 h) :=
  (mJ2 _ _ _)
theorem nBX12_gone_0 {J2 : Int32 → Int32 → ea_H → Option (Int32 × ea_H)} {J2_ : Nat → (Int32 → Int32 → ea_H → Option (Int32 × ea_H))}  (mJ2 : ∀ (x1 : Int32) (x2 : Int32) (h : ea_H), fct (J2 x1 x2 h) (fun f => J2_ f x1 x2 h)) {x1 : Int32} {h : ea_H} : fct (BX12_gone_0 J2 x1 h) (fun f => BX12_gone_0 (J2_ f) x1 h) :=
  (mJ2 _ _ _)
noncomputable def BX12_gone_2 (J2 : Int32 → Int32 → ea_H → Option (Int32 × ea_H)) (x1 : Int32) (x2 : Int32) (h : ea_H) : Option (Int32 × ea_H) :=
  (gd (vp_in (x1 / (7 : Int32)) 10) (if (ea_i h 328 (Int32.toNatClampNeg (x1 / (7 : Int32)))) ≤ (x2 + (2 : Int32)) then (some (x2, h)) else (Option.bind (qX12_goesAt (x1 : Int32) ((x2 + (1 : Int32)) : Int32) h) fun w2 => (if (ea_i w2.2 326 0) < w2.1 then (some (x2, w2.2)) else (J2 (x1 : Int32) ((x2 + (1 : Int32)) : Int32) w2.2)))))
theorem tBX12_gone_2 {d : Nat} {h0 : ea_H} (hd : 2 ≤ d) {J2 : Int32 → Int32 → ea_H → Option (Int32 × ea_H)}  (kJ2 : ∀ (x1 : Int32) (x2 : Int32) (h : ea_H) (r : Int32) (h' : ea_H), J2 x1 x2 h = some (r, h') → ShM h → ea_W mX12_gone d h0 (some (vI r)) h' 2 [(0, vR (some 326)), (1, vI x1), (2, vI x2)] [] h) {x1 : Int32} {x2 : Int32} {h : ea_H} {r : Int32} {h' : ea_H} (E : BX12_gone_2 J2 x1 x2 h = some (r, h')) (hs : ShM h) : ea_W mX12_gone d h0 (some (vI r)) h' 2 [(0, vR (some 326)), (1, vI x1), (2, vI x2)] [] h := by
  unfold BX12_gone_2 at E
  obtain ⟨z1, E⟩ := gd_some E
  refine ea_iload_n (pc := 2) dX12_gone_2 rfl 2 rfl ?_
  refine ea_iconst (pc := 3) dX12_gone_3 (v := 2) rfl ?_
  refine ea_iadd (pc := 4) dX12_gone_4 ?_
  refine ea_aload_n (pc := 5) dX12_gone_5 rfl 0 rfl ?_
  refine ea_getR (pc := 6) dX12_gone_6 ec_12 (k := 4) (Nat.le_of_ble_eq_true rfl) rfl (Or.inl ew_1406) (cShM_326 hs).1 (cShM_326 hs).2.1 (rShM_326_4 hs) ?_
  refine ea_iload_n (pc := 9) dX12_gone_9 rfl 1 rfl ?_
  refine ea_bipush (pc := 10) dX12_gone_10 (v := 7) rfl ?_
  refine ea_idiv (pc := 12) dX12_gone_12 (by decide) ?_
  refine ea_iald (pc := 13) dX12_gone_13 (cShM_328 hs).1 (cShM_328 hs).2.1 (ea_vpl (cShM_328 hs).2.2 z1) ?_
  refine ea_icmp_ge (pc := 14) (tgt := 38) dX12_gone_14 rfl (fun c4 => ?_) (fun c4 => ?_)
  · have E := (if_pos c4).symm.trans E
    refine ea_iload_n (pc := 38) dX12_gone_38 rfl 2 rfl ?_
    exact ea_iretO (pc := 39) dX12_gone_39 rfl rfl E
  · have E := (if_neg c4).symm.trans E
    obtain ⟨w2, Ew2, E⟩ := bd_some E
    have hsw2 : ShM w2.2 := ShM_core ((kpX12_goesAt _ _ _) _ Ew2) hs
    refine ea_aload_n (pc := 17) dX12_gone_17 rfl 0 rfl ?_
    refine ea_iload_n (pc := 18) dX12_gone_18 rfl 1 rfl ?_
    refine ea_iload_n (pc := 19) dX12_gone_19 rfl 2 rfl ?_
    refine ea_iconst (pc := 20) dX12_gone_20 (v := 1) rfl ?_
    refine ea_iadd (pc := 21) dX12_gone_21 ?_
    refine ea_callV (pc := 22) (d' := d - 1) (As := [vI x1, vI (x2 + (1 : Int32))]) (st := []) dX12_gone_22 kX12_goesAt (sX12_goesAt (d := d - 1) (by omega) hs Ew2) (by omega) rfl (Nat.le_of_ble_eq_true rfl) ew_1843 ew_1845 ew_64 (ci := 12) rfl (by decide) (cShM_326 hs).1 (cShM_326 hs).2.1 ?_
    refine ea_aload_n (pc := 25) dX12_gone_25 rfl 0 rfl ?_
    refine ea_getI (pc := 26) dX12_gone_26 ec_12 (k := 0) (Nat.le_of_ble_eq_true rfl) rfl (Or.inl ew_1402) (cShM_326 hsw2).1 (cShM_326 hsw2).2.1 ?_
    refine ea_icmp_gt (pc := 29) (tgt := 38) dX12_gone_29 rfl (fun c3 => ?_) (fun c3 => ?_)
    · have E := (if_pos c3).symm.trans E
      refine ea_iload_n (pc := 38) dX12_gone_38 rfl 2 rfl ?_
      exact ea_iretO (pc := 39) dX12_gone_39 rfl rfl E
    · have E := (if_neg c3).symm.trans E
      refine ea_iinc (pc := 32) (v := 1) (lv' := [(0, vR (some 326)), (1, vI x1), (2, vI (x2 + (1 : Int32)))]) dX12_gone_32 2 rfl rfl (Nat.le_of_ble_eq_true rfl) [1, 2, 0] rfl ?_
      refine ea_goto (pc := 35) (tgt := 2) dX12_gone_35 rfl ?_
      exact (kJ2 (x1 : Int32) ((x2 + (1 : Int32)) : Int32) w2.2 _ _ E hsw2)
theorem kBX12_gone_2 {J2 : Int32 → Int32 → ea_H → Option (Int32 × ea_H)}  (cJ2 : ∀ (x1 : Int32) (x2 : Int32) (h : ea_H), kp (ea_core h) (J2 x1 x2 h)) {x1 : Int32} {x2 : Int32} {h : ea_H} : kp (ea_core h) (BX12_gone_2 J2 x1 x2 h) :=
  (kp_gd (kp_ite (kp_ret rfl) (kp_bind (kp_tw (kpX12_goesAt _ _ _) rfl) fun w2 hcw2 => (kp_ite (kp_ret hcw2) (kp_tw (cJ2 _ _ _) hcw2)))))
theorem lBX12_gone_2 {J2 : Int32 → Int32 → ea_H → Option (Int32 × ea_H)} {J2_ : Int32 → Int32 → ea_H → Option (Int32 × ea_H)}  (mJ2 : ∀ (x1 : Int32) (x2 : Int32) (h : ea_H), fle (J2 x1 x2 h) (J2_ x1 x2 h)) {x1 : Int32} {x2 : Int32} {h : ea_H} : fle (BX12_gone_2 J2 x1 x2 h) (BX12_gone_2 J2_ x1 x2 h) :=
  (fle_gd (fle_ite (fle_rfl _) (fle_bind (fle_rfl _) fun _ => (fle_ite (fle_rfl _) (mJ2 _ _ _)))))
theorem nBX12_gone_2 {J2 : Int32 → Int32 → ea_H → Option (Int32 × ea_H)} {J2_ : Nat → (Int32 → Int32 → ea_H → Option (Int32 × ea_H))}  (mJ2 : ∀ (x1 : Int32) (x2 : Int32) (h : ea_H), fct (J2 x1 x2 h) (fun f => J2_ f x1 x2 h)) {x1 : Int32} {x2 : Int32} {h : ea_H} : fct (BX12_gone_2 J2 x1 x2 h) (fun f => BX12_gone_2 (J2_ f) x1 x2 h) :=
  (fct_gd (fct_ite (fct_rfl _) (fct_bind (fct_rfl _) fun _ => (fct_ite (fct_rfl _) (mJ2 _ _ _)))))
noncomputable def gX12_gone : Nat → (Int32 → ea_H → Option (Int32 × ea_H)) × (Int32 → Int32 → ea_H → Option (Int32 × ea_H))
  | 0 => (fun _ _ => none, fun _ _ _ => none)
  | f + 1 => (BX12_gone_0 (gX12_gone f).2, BX12_gone_2 (gX12_gone f).2)
theorem mgX12_gone : ∀ f : Nat, (∀ (x1 : Int32) (h : ea_H), fle ((gX12_gone f).1 x1 h) ((gX12_gone (f + 1)).1 x1 h)) ∧ (∀ (x1 : Int32) (x2 : Int32) (h : ea_H), fle ((gX12_gone f).2 x1 x2 h) ((gX12_gone (f + 1)).2 x1 x2 h)) := by
  intro f
  induction f with
  | zero => exact ⟨fun _ _ => fle_none _, fun _ _ _ => fle_none _⟩
  | succ f ih => exact ⟨fun _ _ => lBX12_gone_0 ih.2, fun _ _ _ => lBX12_gone_2 ih.2⟩
noncomputable def qX12_gone_0 (x1 : Int32) (h : ea_H) : Option (Int32 × ea_H) := flim fun f => (gX12_gone f).1 x1 h
noncomputable def qX12_gone_2 (x1 : Int32) (x2 : Int32) (h : ea_H) : Option (Int32 × ea_H) := flim fun f => (gX12_gone f).2 x1 x2 h
theorem fqX12_gone_0 (x1 : Int32) (h : ea_H) : fct (qX12_gone_0 x1 h) fun f => (gX12_gone f).1 x1 h := flim_ct fun f => (mgX12_gone f).1 x1 h
theorem fqX12_gone_2 (x1 : Int32) (x2 : Int32) (h : ea_H) : fct (qX12_gone_2 x1 x2 h) fun f => (gX12_gone f).2 x1 x2 h := flim_ct fun f => (mgX12_gone f).2 x1 x2 h
/-- how a block opens -/
theorem uqX12_gone_0 {x1 : Int32} {h : ea_H} {P : Int32 × ea_H → Prop} (H : sat (BX12_gone_0 qX12_gone_2 x1 h) P) : sat (qX12_gone_0 x1 h) P := by
  obtain ⟨x, e, hp⟩ := H
  obtain ⟨n, hn⟩ := nBX12_gone_0 fqX12_gone_2 x e
  exact ⟨x, flim_at (fun f => (mgX12_gone f).1 x1 h) (f := n + 1) (hn n (Nat.le_refl _)), hp⟩
/-- how a block opens -/
theorem uqX12_gone_2 {x1 : Int32} {x2 : Int32} {h : ea_H} {P : Int32 × ea_H → Prop} (H : sat (BX12_gone_2 qX12_gone_2 x1 x2 h) P) : sat (qX12_gone_2 x1 x2 h) P := by
  obtain ⟨x, e, hp⟩ := H
  obtain ⟨n, hn⟩ := nBX12_gone_2 fqX12_gone_2 x e
  exact ⟨x, flim_at (fun f => (mgX12_gone f).2 x1 x2 h) (f := n + 1) (hn n (Nat.le_refl _)), hp⟩
theorem kgX12_gone : ∀ f : Nat, (∀ (x1 : Int32) (h : ea_H), kp (ea_core h) ((gX12_gone f).1 x1 h)) ∧ (∀ (x1 : Int32) (x2 : Int32) (h : ea_H), kp (ea_core h) ((gX12_gone f).2 x1 x2 h)) := by
  intro f
  induction f with
  | zero => exact ⟨fun _ _ => kp_none _, fun _ _ _ => kp_none _⟩
  | succ f ih => exact ⟨fun _ _ => kBX12_gone_0 ih.2, fun _ _ _ => kBX12_gone_2 ih.2⟩
theorem tgX12_gone {d : Nat} {h0 : ea_H} (hd : 2 ≤ d) : ∀ f : Nat, (∀ (x1 : Int32) (h : ea_H) (r : Int32) (h' : ea_H), (gX12_gone f).1 x1 h = some (r, h') → ShM h → ea_W mX12_gone d h0 (some (vI r)) h' 0 [(0, vR (some 326)), (1, vI x1)] [] h) ∧ (∀ (x1 : Int32) (x2 : Int32) (h : ea_H) (r : Int32) (h' : ea_H), (gX12_gone f).2 x1 x2 h = some (r, h') → ShM h → ea_W mX12_gone d h0 (some (vI r)) h' 2 [(0, vR (some 326)), (1, vI x1), (2, vI x2)] [] h) := by
  intro f
  induction f with
  | zero => exact ⟨fun _ _ _ _ E => no_some E, fun _ _ _ _ _ E => no_some E⟩
  | succ f ih => exact ⟨fun _ _ _ _ E hs => tBX12_gone_0 hd ih.2 E hs, fun _ _ _ _ _ E hs => tBX12_gone_2 hd ih.2 E hs⟩
noncomputable def qX12_gone (x1 : Int32) (h : ea_H) : Option (Int32 × ea_H) := qX12_gone_0 x1 h
theorem sX12_gone {d : Nat} {x1 : Int32} {h : ea_H} {r : Int32} {h' : ea_H} (hd : 2 ≤ d) (hs : ShM h) (K : qX12_gone x1 h = some (r, h')) : ea_Met mX12_gone d [vR (some 326), vI x1] h (some (vI r)) h' := by
  unfold qX12_gone at K
  obtain ⟨n, hn⟩ := fqX12_gone_0 x1 h _ K
  have W := (tgX12_gone (d := d) (h0 := h) hd n).1 x1 h _ _ (hn n (Nat.le_refl _)) hs
  exact ea_enter rfl (Nat.le_of_ble_eq_true rfl) W
theorem kpX12_gone (x1 : Int32) (h : ea_H) : kp (ea_core h) (qX12_gone x1 h) := fun x e => by
  obtain ⟨n, hn⟩ := fqX12_gone_0 x1 h x e
  exact (kgX12_gone n).1 x1 h x (hn n (Nat.le_refl _))
noncomputable def BX12_isOf_0 (x1 : Int32) (x2 : Int32) (x3 : Int32) (h : ea_H) : Option (Int32 × ea_H) :=
  (gd (vp_in x1 120) (if (ea_i h 365 (Int32.toNatClampNeg x1)) = x2 then (gd (vp_in x1 120) (if (ea_i h 366 (Int32.toNatClampNeg x1)) = x3 then (some ((1 : Int32), h)) else (some ((0 : Int32), h)))) else (some ((0 : Int32), h))))
theorem tBX12_isOf_0 {d : Nat} {h0 : ea_H} (hd : 1 ≤ d)  {x1 : Int32} {x2 : Int32} {x3 : Int32} {h : ea_H} {r : Int32} {h' : ea_H} (E : BX12_isOf_0 x1 x2 x3 h = some (r, h')) (hs : ShM h) : ea_W mX12_isOf d h0 (some (vI r)) h' 0 [(0, vR (some 326)), (1, vI x1), (2, vI x2), (3, vI x3)] [] h := by
  unfold BX12_isOf_0 at E
  obtain ⟨z1, E⟩ := gd_some E
  refine ea_aload_n (pc := 0) dX12_isOf_0 rfl 0 rfl ?_
  refine ea_getR (pc := 1) dX12_isOf_1 ec_12 (k := 65) (Nat.le_of_ble_eq_true rfl) rfl (Or.inl ew_1467) (cShM_326 hs).1 (cShM_326 hs).2.1 (rShM_326_65 hs) ?_
  refine ea_iload_n (pc := 4) dX12_isOf_4 rfl 1 rfl ?_
  refine ea_iald (pc := 5) dX12_isOf_5 (cShM_365 hs).1 (cShM_365 hs).2.1 (ea_vpl (cShM_365 hs).2.2 z1) ?_
  refine ea_iload_n (pc := 6) dX12_isOf_6 rfl 2 rfl ?_
  refine ea_icmp_ne (pc := 7) (tgt := 24) dX12_isOf_7 rfl (fun c4 => ?_) (fun c4 => ?_)
  · have E := (if_neg c4).symm.trans E
    refine ea_iconst (pc := 24) dX12_isOf_24 (v := 0) rfl ?_
    exact ea_iretO (pc := 25) dX12_isOf_25 rfl (ea_bn (Or.inl rfl)) E
  · have E := (if_pos c4).symm.trans E
    obtain ⟨z2, E⟩ := gd_some E
    refine ea_aload_n (pc := 10) dX12_isOf_10 rfl 0 rfl ?_
    refine ea_getR (pc := 11) dX12_isOf_11 ec_12 (k := 66) (Nat.le_of_ble_eq_true rfl) rfl (Or.inl ew_1468) (cShM_326 hs).1 (cShM_326 hs).2.1 (rShM_326_66 hs) ?_
    refine ea_iload_n (pc := 14) dX12_isOf_14 rfl 1 rfl ?_
    refine ea_iald (pc := 15) dX12_isOf_15 (cShM_366 hs).1 (cShM_366 hs).2.1 (ea_vpl (cShM_366 hs).2.2 z2) ?_
    refine ea_iload_n (pc := 16) dX12_isOf_16 rfl 3 rfl ?_
    refine ea_icmp_ne (pc := 17) (tgt := 24) dX12_isOf_17 rfl (fun c3 => ?_) (fun c3 => ?_)
    · have E := (if_neg c3).symm.trans E
      refine ea_iconst (pc := 24) dX12_isOf_24 (v := 0) rfl ?_
      exact ea_iretO (pc := 25) dX12_isOf_25 rfl (ea_bn (Or.inl rfl)) E
    · have E := (if_pos c3).symm.trans E
      refine ea_iconst (pc := 20) dX12_isOf_20 (v := 1) rfl ?_
      refine ea_goto (pc := 21) (tgt := 25) dX12_isOf_21 rfl ?_
      exact ea_iretO (pc := 25) dX12_isOf_25 rfl (ea_bn (Or.inr rfl)) E
theorem kBX12_isOf_0  {x1 : Int32} {x2 : Int32} {x3 : Int32} {h : ea_H} : kp (ea_core h) (BX12_isOf_0 x1 x2 x3 h) :=
  (kp_gd (kp_ite (kp_gd (kp_ite (kp_ret rfl) (kp_ret rfl))) (kp_ret rfl)))
noncomputable def qX12_isOf (x1 : Int32) (x2 : Int32) (x3 : Int32) (h : ea_H) : Option (Int32 × ea_H) := BX12_isOf_0 x1 x2 x3 h
theorem sX12_isOf {d : Nat} {x1 : Int32} {x2 : Int32} {x3 : Int32} {h : ea_H} {r : Int32} {h' : ea_H} (hd : 1 ≤ d) (hs : ShM h) (K : qX12_isOf x1 x2 x3 h = some (r, h')) : ea_Met mX12_isOf d [vR (some 326), vI x1, vI x2, vI x3] h (some (vI r)) h' := by
  unfold qX12_isOf at K
  have W := tBX12_isOf_0 hd (h0 := h) K hs
  exact ea_enter rfl (Nat.le_of_ble_eq_true rfl) W
theorem kpX12_isOf (x1 : Int32) (x2 : Int32) (x3 : Int32) (h : ea_H) : kp (ea_core h) (qX12_isOf x1 x2 x3 h) := kBX12_isOf_0
noncomputable def BX12_account_0 (J38 : Int32 → Int32 → Int32 → Int32 → Int32 → Int32 → Int32 → Int32 → ea_H → Option (Int32 × ea_H)) (x1 : Int32) (x2 : Int32) (x3 : Int32) (h : ea_H) : Option (Int32 × ea_H) :=
  (Option.bind (qX12_isTown (x1 : Int32) h) fun w1 => (if w1.1 = (0 : Int32) then (some (((-1) : Int32), w1.2)) else (Option.bind (qX12_isTown (x2 : Int32) w1.2) fun w2 => (if w2.1 = (0 : Int32) then (some (((-1) : Int32), w2.2)) else (if x1 = x2 then (some (((-1) : Int32), w2.2)) else (J38 (x1 : Int32) (x2 : Int32) (x3 : Int32) (0 : Int32) (0 : Int32) (0 : Int32) ((-1) : Int32) (0 : Int32) w2.2))))))
theorem tBX12_account_0 {d : Nat} {h0 : ea_H} (hd : 3 ≤ d) {J38 : Int32 → Int32 → Int32 → Int32 → Int32 → Int32 → Int32 → Int32 → ea_H → Option (Int32 × ea_H)}  (kJ38 : ∀ (x1 : Int32) (x2 : Int32) (x3 : Int32) (x4 : Int32) (x5 : Int32) (x6 : Int32) (x7 : Int32) (x8 : Int32) (h : ea_H) (r : Int32) (h' : ea_H), J38 x1 x2 x3 x4 x5 x6 x7 x8 h = some (r, h') → ShM h → ea_W mX12_account d h0 (some (vI r)) h' 38 [(0, vR (some 326)), (1, vI x1), (2, vI x2), (3, vI x3), (4, vI x4), (5, vI x5), (6, vI x6), (7, vI x7), (8, vI x8)] [] h) {x1 : Int32} {x2 : Int32} {x3 : Int32} {h : ea_H} {r : Int32} {h' : ea_H} (E : BX12_account_0 J38 x1 x2 x3 h = some (r, h')) (hs : ShM h) : ea_W mX12_account d h0 (some (vI r)) h' 0 [(0, vR (some 326)), (1, vI x1), (2, vI x2), (3, vI x3)] [] h := by
  unfold BX12_account_0 at E
  obtain ⟨w1, Ew1, E⟩ := bd_some E
  have hsw1 : ShM w1.2 := ShM_core ((kpX12_isTown _ _) _ Ew1) hs
  refine ea_aload_n (pc := 0) dX12_account_0 rfl 0 rfl ?_
  refine ea_iload_n (pc := 1) dX12_account_1 rfl 1 rfl ?_
  refine ea_callV (pc := 2) (d' := d - 1) (As := [vI x1]) (st := []) dX12_account_2 kX12_isTown (sX12_isTown (d := d - 1) (by omega) hs Ew1) (by omega) rfl (Nat.le_of_ble_eq_true rfl) ew_1765 ew_1767 ew_54 (ci := 12) rfl (by decide) (cShM_326 hs).1 (cShM_326 hs).2.1 ?_
  refine ea_if_eq (pc := 5) (tgt := 21) dX12_account_5 rfl (fun c5 => ?_) (fun c5 => ?_)
  · have E := (if_pos c5).symm.trans E
    refine ea_iconst (pc := 21) dX12_account_21 (v := (-1)) rfl ?_
    exact ea_iretO (pc := 22) dX12_account_22 rfl rfl E
  · have E := (if_neg c5).symm.trans E
    obtain ⟨w2, Ew2, E⟩ := bd_some E
    have hsw2 : ShM w2.2 := ShM_core ((kpX12_isTown _ _) _ Ew2) hsw1
    refine ea_aload_n (pc := 8) dX12_account_8 rfl 0 rfl ?_
    refine ea_iload_n (pc := 9) dX12_account_9 rfl 2 rfl ?_
    refine ea_callV (pc := 10) (d' := d - 1) (As := [vI x2]) (st := []) dX12_account_10 kX12_isTown (sX12_isTown (d := d - 1) (by omega) hsw1 Ew2) (by omega) rfl (Nat.le_of_ble_eq_true rfl) ew_1765 ew_1767 ew_54 (ci := 12) rfl (by decide) (cShM_326 hsw1).1 (cShM_326 hsw1).2.1 ?_
    refine ea_if_eq (pc := 13) (tgt := 21) dX12_account_13 rfl (fun c4 => ?_) (fun c4 => ?_)
    · have E := (if_pos c4).symm.trans E
      refine ea_iconst (pc := 21) dX12_account_21 (v := (-1)) rfl ?_
      exact ea_iretO (pc := 22) dX12_account_22 rfl rfl E
    · have E := (if_neg c4).symm.trans E
      refine ea_iload_n (pc := 16) dX12_account_16 rfl 1 rfl ?_
      refine ea_iload_n (pc := 17) dX12_account_17 rfl 2 rfl ?_
      refine ea_icmp_ne (pc := 18) (tgt := 23) dX12_account_18 rfl (fun c3 => ?_) (fun c3 => ?_)
      · have E := (if_neg c3).symm.trans E
        refine ea_iconst (pc := 23) dX12_account_23 (v := 0) rfl ?_
        refine ea_istore (pc := 24) (lv' := [(0, vR (some 326)), (1, vI x1), (2, vI x2), (3, vI x3), (4, vI 0)]) dX12_account_24 (Nat.le_of_ble_eq_true rfl) [1, 2, 3, 4, 0] rfl ?_
        refine ea_iconst (pc := 26) dX12_account_26 (v := 0) rfl ?_
        refine ea_istore (pc := 27) (lv' := [(0, vR (some 326)), (1, vI x1), (2, vI x2), (3, vI x3), (4, vI 0), (5, vI 0)]) dX12_account_27 (Nat.le_of_ble_eq_true rfl) [1, 2, 3, 4, 5, 0] rfl ?_
        refine ea_iconst (pc := 29) dX12_account_29 (v := 0) rfl ?_
        refine ea_istore (pc := 30) (lv' := [(0, vR (some 326)), (1, vI x1), (2, vI x2), (3, vI x3), (4, vI 0), (5, vI 0), (6, vI 0)]) dX12_account_30 (Nat.le_of_ble_eq_true rfl) [1, 2, 3, 4, 5, 6, 0] rfl ?_
        refine ea_iconst (pc := 32) dX12_account_32 (v := (-1)) rfl ?_
        refine ea_istore (pc := 33) (lv' := [(0, vR (some 326)), (1, vI x1), (2, vI x2), (3, vI x3), (4, vI 0), (5, vI 0), (6, vI 0), (7, vI (-1))]) dX12_account_33 (Nat.le_of_ble_eq_true rfl) [1, 2, 3, 4, 5, 6, 7, 0] rfl ?_
        refine ea_iconst (pc := 35) dX12_account_35 (v := 0) rfl ?_
        refine ea_istore (pc := 36) (lv' := [(0, vR (some 326)), (1, vI x1), (2, vI x2), (3, vI x3), (4, vI 0), (5, vI 0), (6, vI 0), (7, vI (-1)), (8, vI 0)]) dX12_account_36 (Nat.le_of_ble_eq_true rfl) [1, 2, 3, 4, 5, 6, 7, 8, 0] rfl ?_
        exact (kJ38 (x1 : Int32) (x2 : Int32) (x3 : Int32) (0 : Int32) (0 : Int32) (0 : Int32) ((-1) : Int32) (0 : Int32) w2.2 _ _ E hsw2)
      · have E := (if_pos c3).symm.trans E
        refine ea_iconst (pc := 21) dX12_account_21 (v := (-1)) rfl ?_
        exact ea_iretO (pc := 22) dX12_account_22 rfl rfl E
theorem kBX12_account_0 {J38 : Int32 → Int32 → Int32 → Int32 → Int32 → Int32 → Int32 → Int32 → ea_H → Option (Int32 × ea_H)}  (cJ38 : ∀ (x1 : Int32) (x2 : Int32) (x3 : Int32) (x4 : Int32) (x5 : Int32) (x6 : Int32) (x7 : Int32) (x8 : Int32) (h : ea_H), kp (ea_core h) (J38 x1 x2 x3 x4 x5 x6 x7 x8 h)) {x1 : Int32} {x2 : Int32} {x3 : Int32} {h : ea_H} : kp (ea_core h) (BX12_account_0 J38 x1 x2 x3 h) :=
  (kp_bind (kp_tw (kpX12_isTown _ _) rfl) fun w1 hcw1 => (kp_ite (kp_ret hcw1) (kp_bind (kp_tw (kpX12_isTown _ _) hcw1) fun w2 hcw2 => (kp_ite (kp_ret hcw2) (kp_ite (kp_ret hcw2) (kp_tw (cJ38 _ _ _ _ _ _ _ _ _) hcw2))))))
theorem lBX12_account_0 {J38 : Int32 → Int32 → Int32 → Int32 → Int32 → Int32 → Int32 → Int32 → ea_H → Option (Int32 × ea_H)} {J38_ : Int32 → Int32 → Int32 → Int32 → Int32 → Int32 → Int32 → Int32 → ea_H → Option (Int32 × ea_H)}  (mJ38 : ∀ (x1 : Int32) (x2 : Int32) (x3 : Int32) (x4 : Int32) (x5 : Int32) (x6 : Int32) (x7 : Int32) (x8 : Int32) (h : ea_H), fle (J38 x1 x2 x3 x4 x5 x6 x7 x8 h) (J38_ x1 x2 x3 x4 x5 x6 x7 x8 h)) {x1 : Int32} {x2 : Int32} {x3 : Int32} {h : ea_H} : fle (BX12_account_0 J38 x1 x2 x3 h) (BX12_account_0 J38_ x1 x2 x3 h) :=
  (fle_bind (fle_rfl _) fun _ => (fle_ite (fle_rfl _) (fle_bind (fle_rfl _) fun _ => (fle_ite (fle_rfl _) (fle_ite (fle_rfl _) (mJ38 _ _ _ _ _ _ _ _ _))))))
theorem nBX12_account_0 {J38 : Int32 → Int32 → Int32 → Int32 → Int32 → Int32 → Int32 → Int32 → ea_H → Option (Int32 × ea_H)} {J38_ : Nat → (Int32 → Int32 → Int32 → Int32 → Int32 → Int32 → Int32 → Int32 → ea_H → Option (Int32 × ea_H))}  (mJ38 : ∀ (x1 : Int32) (x2 : Int32) (x3 : Int32) (x4 : Int32) (x5 : Int32) (x6 : Int32) (x7 : Int32) (x8 : Int32) (h : ea_H), fct (J38 x1 x2 x3 x4 x5 x6 x7 x8 h) (fun f => J38_ f x1 x2 x3 x4 x5 x6 x7 x8 h)) {x1 : Int32} {x2 : Int32} {x3 : Int32} {h : ea_H} : fct (BX12_account_0 J38 x1 x2 x3 h) (fun f => BX12_account_0 (J38_ f) x1 x2 x3 h) :=
  (fct_bind (fct_rfl _) fun _ => (fct_ite (fct_rfl _) (fct_bind (fct_rfl _) fun _ => (fct_ite (fct_rfl _) (fct_ite (fct_rfl _) (mJ38 _ _ _ _ _ _ _ _ _))))))
noncomputable def BX12_account_38 (J38 : Int32 → Int32 → Int32 → Int32 → Int32 → Int32 → Int32 → Int32 → ea_H → Option (Int32 × ea_H)) (x1 : Int32) (x2 : Int32) (x3 : Int32) (x4 : Int32) (x5 : Int32) (x6 : Int32) (x7 : Int32) (x8 : Int32) (h : ea_H) : Option (Int32 × ea_H) :=
  (if (ea_i h 326 63) ≤ x8 then (if x3 = (0 : Int32) then (some (x4, h)) else (if x3 = (1 : Int32) then (some (x5, h)) else (if x3 = (2 : Int32) then (some (x6, h)) else (some (x7, h))))) else (Option.bind (qX12_isOf (x8 : Int32) (x1 : Int32) (x2 : Int32) h) fun w9 => (if w9.1 = (0 : Int32) then (J38 (x1 : Int32) (x2 : Int32) (x3 : Int32) (x4 : Int32) (x5 : Int32) (x6 : Int32) (x7 : Int32) ((x8 + (1 : Int32)) : Int32) w9.2) else (Option.bind (qX12_owed (x8 : Int32) w9.2) fun w10 => (gd (vp_in x8 120) (if (ea_i w10.2 381 (Int32.toNatClampNeg x8)) = (2 : Int32) then (Option.bind (qX12_owed (x8 : Int32) w10.2) fun w15 => (J38 (x1 : Int32) (x2 : Int32) (x3 : Int32) ((x4 + w10.1) : Int32) ((x5 + w15.1) : Int32) (x6 : Int32) (x7 : Int32) ((x8 + (1 : Int32)) : Int32) w15.2)) else (Option.bind (qX12_owed (x8 : Int32) w10.2) fun w12 => (if w12.1 ≤ (0 : Int32) then (J38 (x1 : Int32) (x2 : Int32) (x3 : Int32) ((x4 + w10.1) : Int32) (x5 : Int32) (x6 : Int32) (x7 : Int32) ((x8 + (1 : Int32)) : Int32) w12.2) else (if x6 = (x3 - (10 : Int32)) then (J38 (x1 : Int32) (x2 : Int32) (x3 : Int32) ((x4 + w10.1) : Int32) (x5 : Int32) ((x6 + (1 : Int32)) : Int32) (x8 : Int32) ((x8 + (1 : Int32)) : Int32) w12.2) else (J38 (x1 : Int32) (x2 : Int32) (x3 : Int32) ((x4 + w10.1) : Int32) (x5 : Int32) ((x6 + (1 : Int32)) : Int32) (x7 : Int32) ((x8 + (1 : Int32)) : Int32) w12.2))))))))))
theorem tBX12_account_38 {d : Nat} {h0 : ea_H} (hd : 3 ≤ d) {J38 : Int32 → Int32 → Int32 → Int32 → Int32 → Int32 → Int32 → Int32 → ea_H → Option (Int32 × ea_H)}  (kJ38 : ∀ (x1 : Int32) (x2 : Int32) (x3 : Int32) (x4 : Int32) (x5 : Int32) (x6 : Int32) (x7 : Int32) (x8 : Int32) (h : ea_H) (r : Int32) (h' : ea_H), J38 x1 x2 x3 x4 x5 x6 x7 x8 h = some (r, h') → ShM h → ea_W mX12_account d h0 (some (vI r)) h' 38 [(0, vR (some 326)), (1, vI x1), (2, vI x2), (3, vI x3), (4, vI x4), (5, vI x5), (6, vI x6), (7, vI x7), (8, vI x8)] [] h) {x1 : Int32} {x2 : Int32} {x3 : Int32} {x4 : Int32} {x5 : Int32} {x6 : Int32} {x7 : Int32} {x8 : Int32} {h : ea_H} {r : Int32} {h' : ea_H} (E : BX12_account_38 J38 x1 x2 x3 x4 x5 x6 x7 x8 h = some (r, h')) (hs : ShM h) : ea_W mX12_account d h0 (some (vI r)) h' 38 [(0, vR (some 326)), (1, vI x1), (2, vI x2), (3, vI x3), (4, vI x4), (5, vI x5), (6, vI x6), (7, vI x7), (8, vI x8)] [] h := by
  unfold BX12_account_38 at E
  refine ea_iload (pc := 38) dX12_account_38 8 rfl ?_
  refine ea_aload_n (pc := 40) dX12_account_40 rfl 0 rfl ?_
  refine ea_getI (pc := 41) dX12_account_41 ec_12 (k := 63) (Nat.le_of_ble_eq_true rfl) rfl (Or.inl ew_1465) (cShM_326 hs).1 (cShM_326 hs).2.1 ?_
  refine ea_icmp_ge (pc := 44) (tgt := 128) dX12_account_44 rfl (fun c18 => ?_) (fun c18 => ?_)
  · have E := (if_pos c18).symm.trans E
    refine ea_iload_n (pc := 128) dX12_account_128 rfl 3 rfl ?_
    refine ea_if_ne (pc := 129) (tgt := 137) dX12_account_129 rfl (fun c8 => ?_) (fun c8 => ?_)
    · have E := (if_neg c8).symm.trans E
      refine ea_iload_n (pc := 137) dX12_account_137 rfl 3 rfl ?_
      refine ea_iconst (pc := 138) dX12_account_138 (v := 1) rfl ?_
      refine ea_icmp_ne (pc := 139) (tgt := 147) dX12_account_139 rfl (fun c7 => ?_) (fun c7 => ?_)
      · have E := (if_neg c7).symm.trans E
        refine ea_iload_n (pc := 147) dX12_account_147 rfl 3 rfl ?_
        refine ea_iconst (pc := 148) dX12_account_148 (v := 2) rfl ?_
        refine ea_icmp_ne (pc := 149) (tgt := 157) dX12_account_149 rfl (fun c6 => ?_) (fun c6 => ?_)
        · have E := (if_neg c6).symm.trans E
          refine ea_iload (pc := 157) dX12_account_157 7 rfl ?_
          exact ea_iretO (pc := 159) dX12_account_159 rfl rfl E
        · have E := (if_pos c6).symm.trans E
          refine ea_iload (pc := 152) dX12_account_152 6 rfl ?_
          refine ea_goto (pc := 154) (tgt := 159) dX12_account_154 rfl ?_
          exact ea_iretO (pc := 159) dX12_account_159 rfl rfl E
      · have E := (if_pos c7).symm.trans E
        refine ea_iload (pc := 142) dX12_account_142 5 rfl ?_
        refine ea_goto (pc := 144) (tgt := 159) dX12_account_144 rfl ?_
        exact ea_iretO (pc := 159) dX12_account_159 rfl rfl E
    · have E := (if_pos c8).symm.trans E
      refine ea_iload (pc := 132) dX12_account_132 4 rfl ?_
      refine ea_goto (pc := 134) (tgt := 159) dX12_account_134 rfl ?_
      exact ea_iretO (pc := 159) dX12_account_159 rfl rfl E
  · have E := (if_neg c18).symm.trans E
    obtain ⟨w9, Ew9, E⟩ := bd_some E
    have hsw9 : ShM w9.2 := ShM_core ((kpX12_isOf _ _ _ _) _ Ew9) hs
    refine ea_aload_n (pc := 47) dX12_account_47 rfl 0 rfl ?_
    refine ea_iload (pc := 48) dX12_account_48 8 rfl ?_
    refine ea_iload_n (pc := 50) dX12_account_50 rfl 1 rfl ?_
    refine ea_iload_n (pc := 51) dX12_account_51 rfl 2 rfl ?_
    refine ea_callV (pc := 52) (d' := d - 1) (As := [vI x8, vI x1, vI x2]) (st := []) dX12_account_52 kX12_isOf (sX12_isOf (d := d - 1) (by omega) hs Ew9) (by omega) rfl (Nat.le_of_ble_eq_true rfl) ew_2159 ew_2161 ew_107 (ci := 12) rfl (by decide) (cShM_326 hs).1 (cShM_326 hs).2.1 ?_
    refine ea_if_ne (pc := 55) (tgt := 61) dX12_account_55 rfl (fun c17 => ?_) (fun c17 => ?_)
    · have E := (if_neg c17).symm.trans E
      obtain ⟨w10, Ew10, E⟩ := bd_some E
      have hsw10 : ShM w10.2 := ShM_core ((kpX12_owed _ _) _ Ew10) hsw9
      refine ea_iload (pc := 61) dX12_account_61 4 rfl ?_
      refine ea_aload_n (pc := 63) dX12_account_63 rfl 0 rfl ?_
      refine ea_iload (pc := 64) dX12_account_64 8 rfl ?_
      refine ea_callV (pc := 66) (d' := d - 1) (As := [vI x8]) (st := [vI x4]) dX12_account_66 kX12_owed (sX12_owed (d := d - 1) (by omega) hsw9 Ew10) (by omega) rfl (Nat.le_of_ble_eq_true rfl) ew_2084 ew_2086 ew_97 (ci := 12) rfl (by decide) (cShM_326 hsw9).1 (cShM_326 hsw9).2.1 ?_
      obtain ⟨z11, E⟩ := gd_some E
      refine ea_iadd (pc := 69) dX12_account_69 ?_
      refine ea_istore (pc := 70) (lv' := [(0, vR (some 326)), (1, vI x1), (2, vI x2), (3, vI x3), (4, vI (x4 + w10.1)), (5, vI x5), (6, vI x6), (7, vI x7), (8, vI x8)]) dX12_account_70 (Nat.le_of_ble_eq_true rfl) [1, 2, 3, 4, 0, 5, 6, 7, 8] rfl ?_
      refine ea_aload_n (pc := 72) dX12_account_72 rfl 0 rfl ?_
      refine ea_getR (pc := 73) dX12_account_73 ec_12 (k := 81) (Nat.le_of_ble_eq_true rfl) rfl (Or.inl ew_1483) (cShM_326 hsw10).1 (cShM_326 hsw10).2.1 (rShM_326_81 hsw10) ?_
      refine ea_iload (pc := 76) dX12_account_76 8 rfl ?_
      refine ea_iald (pc := 78) dX12_account_78 (cShM_381 hsw10).1 (cShM_381 hsw10).2.1 (ea_vpl (cShM_381 hsw10).2.2 z11) ?_
      refine ea_iconst (pc := 79) dX12_account_79 (v := 2) rfl ?_
      refine ea_icmp_ne (pc := 80) (tgt := 97) dX12_account_80 rfl (fun c16 => ?_) (fun c16 => ?_)
      · have E := (if_neg c16).symm.trans E
        obtain ⟨w12, Ew12, E⟩ := bd_some E
        have hsw12 : ShM w12.2 := ShM_core ((kpX12_owed _ _) _ Ew12) hsw10
        refine ea_aload_n (pc := 97) dX12_account_97 rfl 0 rfl ?_
        refine ea_iload (pc := 98) dX12_account_98 8 rfl ?_
        refine ea_callV (pc := 100) (d' := d - 1) (As := [vI x8]) (st := []) dX12_account_100 kX12_owed (sX12_owed (d := d - 1) (by omega) hsw10 Ew12) (by omega) rfl (Nat.le_of_ble_eq_true rfl) ew_2084 ew_2086 ew_97 (ci := 12) rfl (by decide) (cShM_326 hsw10).1 (cShM_326 hsw10).2.1 ?_
        refine ea_if_le (pc := 103) (tgt := 122) dX12_account_103 rfl (fun c14 => ?_) (fun c14 => ?_)
        · have E := (if_pos c14).symm.trans E
          refine ea_iinc (pc := 122) (v := 1) (lv' := [(0, vR (some 326)), (1, vI x1), (2, vI x2), (3, vI x3), (4, vI (x4 + w10.1)), (5, vI x5), (6, vI x6), (7, vI x7), (8, vI (x8 + (1 : Int32)))]) dX12_account_122 8 rfl rfl (Nat.le_of_ble_eq_true rfl) [1, 2, 3, 4, 5, 6, 7, 8, 0] rfl ?_
          refine ea_goto (pc := 125) (tgt := 38) dX12_account_125 rfl ?_
          exact (kJ38 (x1 : Int32) (x2 : Int32) (x3 : Int32) ((x4 + w10.1) : Int32) (x5 : Int32) (x6 : Int32) (x7 : Int32) ((x8 + (1 : Int32)) : Int32) w12.2 _ _ E hsw12)
        · have E := (if_neg c14).symm.trans E
          refine ea_iload (pc := 106) dX12_account_106 6 rfl ?_
          refine ea_iload_n (pc := 108) dX12_account_108 rfl 3 rfl ?_
          refine ea_bipush (pc := 109) dX12_account_109 (v := 10) rfl ?_
          refine ea_isub (pc := 111) dX12_account_111 ?_
          refine ea_icmp_ne (pc := 112) (tgt := 119) dX12_account_112 rfl (fun c13 => ?_) (fun c13 => ?_)
          · have E := (if_neg c13).symm.trans E
            refine ea_iinc (pc := 119) (v := 1) (lv' := [(0, vR (some 326)), (1, vI x1), (2, vI x2), (3, vI x3), (4, vI (x4 + w10.1)), (5, vI x5), (6, vI (x6 + (1 : Int32))), (7, vI x7), (8, vI x8)]) dX12_account_119 6 rfl rfl (Nat.le_of_ble_eq_true rfl) [1, 2, 3, 4, 5, 6, 0, 7, 8] rfl ?_
            refine ea_iinc (pc := 122) (v := 1) (lv' := [(0, vR (some 326)), (1, vI x1), (2, vI x2), (3, vI x3), (4, vI (x4 + w10.1)), (5, vI x5), (6, vI (x6 + (1 : Int32))), (7, vI x7), (8, vI (x8 + (1 : Int32)))]) dX12_account_122 8 rfl rfl (Nat.le_of_ble_eq_true rfl) [1, 2, 3, 4, 5, 6, 7, 8, 0] rfl ?_
            refine ea_goto (pc := 125) (tgt := 38) dX12_account_125 rfl ?_
            exact (kJ38 (x1 : Int32) (x2 : Int32) (x3 : Int32) ((x4 + w10.1) : Int32) (x5 : Int32) ((x6 + (1 : Int32)) : Int32) (x7 : Int32) ((x8 + (1 : Int32)) : Int32) w12.2 _ _ E hsw12)
          · have E := (if_pos c13).symm.trans E
            refine ea_iload (pc := 115) dX12_account_115 8 rfl ?_
            refine ea_istore (pc := 117) (lv' := [(0, vR (some 326)), (1, vI x1), (2, vI x2), (3, vI x3), (4, vI (x4 + w10.1)), (5, vI x5), (6, vI x6), (7, vI x8), (8, vI x8)]) dX12_account_117 (Nat.le_of_ble_eq_true rfl) [1, 2, 3, 4, 5, 6, 7, 0, 8] rfl ?_
            refine ea_iinc (pc := 119) (v := 1) (lv' := [(0, vR (some 326)), (1, vI x1), (2, vI x2), (3, vI x3), (4, vI (x4 + w10.1)), (5, vI x5), (6, vI (x6 + (1 : Int32))), (7, vI x8), (8, vI x8)]) dX12_account_119 6 rfl rfl (Nat.le_of_ble_eq_true rfl) [1, 2, 3, 4, 5, 6, 0, 7, 8] rfl ?_
            refine ea_iinc (pc := 122) (v := 1) (lv' := [(0, vR (some 326)), (1, vI x1), (2, vI x2), (3, vI x3), (4, vI (x4 + w10.1)), (5, vI x5), (6, vI (x6 + (1 : Int32))), (7, vI x8), (8, vI (x8 + (1 : Int32)))]) dX12_account_122 8 rfl rfl (Nat.le_of_ble_eq_true rfl) [1, 2, 3, 4, 5, 6, 7, 8, 0] rfl ?_
            refine ea_goto (pc := 125) (tgt := 38) dX12_account_125 rfl ?_
            exact (kJ38 (x1 : Int32) (x2 : Int32) (x3 : Int32) ((x4 + w10.1) : Int32) (x5 : Int32) ((x6 + (1 : Int32)) : Int32) (x8 : Int32) ((x8 + (1 : Int32)) : Int32) w12.2 _ _ E hsw12)
      · have E := (if_pos c16).symm.trans E
        obtain ⟨w15, Ew15, E⟩ := bd_some E
        have hsw15 : ShM w15.2 := ShM_core ((kpX12_owed _ _) _ Ew15) hsw10
        refine ea_iload (pc := 83) dX12_account_83 5 rfl ?_
        refine ea_aload_n (pc := 85) dX12_account_85 rfl 0 rfl ?_
        refine ea_iload (pc := 86) dX12_account_86 8 rfl ?_
        refine ea_callV (pc := 88) (d' := d - 1) (As := [vI x8]) (st := [vI x5]) dX12_account_88 kX12_owed (sX12_owed (d := d - 1) (by omega) hsw10 Ew15) (by omega) rfl (Nat.le_of_ble_eq_true rfl) ew_2084 ew_2086 ew_97 (ci := 12) rfl (by decide) (cShM_326 hsw10).1 (cShM_326 hsw10).2.1 ?_
        refine ea_iadd (pc := 91) dX12_account_91 ?_
        refine ea_istore (pc := 92) (lv' := [(0, vR (some 326)), (1, vI x1), (2, vI x2), (3, vI x3), (4, vI (x4 + w10.1)), (5, vI (x5 + w15.1)), (6, vI x6), (7, vI x7), (8, vI x8)]) dX12_account_92 (Nat.le_of_ble_eq_true rfl) [1, 2, 3, 4, 5, 0, 6, 7, 8] rfl ?_
        refine ea_goto (pc := 94) (tgt := 122) dX12_account_94 rfl ?_
        refine ea_iinc (pc := 122) (v := 1) (lv' := [(0, vR (some 326)), (1, vI x1), (2, vI x2), (3, vI x3), (4, vI (x4 + w10.1)), (5, vI (x5 + w15.1)), (6, vI x6), (7, vI x7), (8, vI (x8 + (1 : Int32)))]) dX12_account_122 8 rfl rfl (Nat.le_of_ble_eq_true rfl) [1, 2, 3, 4, 5, 6, 7, 8, 0] rfl ?_
        refine ea_goto (pc := 125) (tgt := 38) dX12_account_125 rfl ?_
        exact (kJ38 (x1 : Int32) (x2 : Int32) (x3 : Int32) ((x4 + w10.1) : Int32) ((x5 + w15.1) : Int32) (x6 : Int32) (x7 : Int32) ((x8 + (1 : Int32)) : Int32) w15.2 _ _ E hsw15)
    · have E := (if_pos c17).symm.trans E
      refine ea_goto (pc := 58) (tgt := 122) dX12_account_58 rfl ?_
      refine ea_iinc (pc := 122) (v := 1) (lv' := [(0, vR (some 326)), (1, vI x1), (2, vI x2), (3, vI x3), (4, vI x4), (5, vI x5), (6, vI x6), (7, vI x7), (8, vI (x8 + (1 : Int32)))]) dX12_account_122 8 rfl rfl (Nat.le_of_ble_eq_true rfl) [1, 2, 3, 4, 5, 6, 7, 8, 0] rfl ?_
      refine ea_goto (pc := 125) (tgt := 38) dX12_account_125 rfl ?_
      exact (kJ38 (x1 : Int32) (x2 : Int32) (x3 : Int32) (x4 : Int32) (x5 : Int32) (x6 : Int32) (x7 : Int32) ((x8 + (1 : Int32)) : Int32) w9.2 _ _ E hsw9)
theorem kBX12_account_38 {J38 : Int32 → Int32 → Int32 → Int32 → Int32 → Int32 → Int32 → Int32 → ea_H → Option (Int32 × ea_H)}  (cJ38 : ∀ (x1 : Int32) (x2 : Int32) (x3 : Int32) (x4 : Int32) (x5 : Int32) (x6 : Int32) (x7 : Int32) (x8 : Int32) (h : ea_H), kp (ea_core h) (J38 x1 x2 x3 x4 x5 x6 x7 x8 h)) {x1 : Int32} {x2 : Int32} {x3 : Int32} {x4 : Int32} {x5 : Int32} {x6 : Int32} {x7 : Int32} {x8 : Int32} {h : ea_H} : kp (ea_core h) (BX12_account_38 J38 x1 x2 x3 x4 x5 x6 x7 x8 h) :=
  (kp_ite (kp_ite (kp_ret rfl) (kp_ite (kp_ret rfl) (kp_ite (kp_ret rfl) (kp_ret rfl)))) (kp_bind (kp_tw (kpX12_isOf _ _ _ _) rfl) fun w9 hcw9 => (kp_ite (kp_tw (cJ38 _ _ _ _ _ _ _ _ _) hcw9) (kp_bind (kp_tw (kpX12_owed _ _) hcw9) fun w10 hcw10 => (kp_gd (kp_ite (kp_bind (kp_tw (kpX12_owed _ _) hcw10) fun w15 hcw15 => (kp_tw (cJ38 _ _ _ _ _ _ _ _ _) hcw15)) (kp_bind (kp_tw (kpX12_owed _ _) hcw10) fun w12 hcw12 => (kp_ite (kp_tw (cJ38 _ _ _ _ _ _ _ _ _) hcw12) (kp_ite (kp_tw (cJ38 _ _ _ _ _ _ _ _ _) hcw12) (kp_tw (cJ38 _ _ _ _ _ _ _ _ _) hcw12))))))))))
theorem lBX12_account_38 {J38 : Int32 → Int32 → Int32 → Int32 → Int32 → Int32 → Int32 → Int32 → ea_H → Option (Int32 × ea_H)} {J38_ : Int32 → Int32 → Int32 → Int32 → Int32 → Int32 → Int32 → Int32 → ea_H → Option (Int32 × ea_H)}  (mJ38 : ∀ (x1 : Int32) (x2 : Int32) (x3 : Int32) (x4 : Int32) (x5 : Int32) (x6 : Int32) (x7 : Int32) (x8 : Int32) (h : ea_H), fle (J38 x1 x2 x3 x4 x5 x6 x7 x8 h) (J38_ x1 x2 x3 x4 x5 x6 x7 x8 h)) {x1 : Int32} {x2 : Int32} {x3 : Int32} {x4 : Int32} {x5 : Int32} {x6 : Int32} {x7 : Int32} {x8 : Int32} {h : ea_H} : fle (BX12_account_38 J38 x1 x2 x3 x4 x5 x6 x7 x8 h) (BX12_account_38 J38_ x1 x2 x3 x4 x5 x6 x7 x8 h) :=
  (fle_ite (fle_rfl _) (fle_bind (fle_rfl _) fun _ => (fle_ite (mJ38 _ _ _ _ _ _ _ _ _) (fle_bind (fle_rfl _) fun _ => (fle_gd (fle_ite (fle_bind (fle_rfl _) fun _ => (mJ38 _ _ _ _ _ _ _ _ _)) (fle_bind (fle_rfl _) fun _ => (fle_ite (mJ38 _ _ _ _ _ _ _ _ _) (fle_ite (mJ38 _ _ _ _ _ _ _ _ _) (mJ38 _ _ _ _ _ _ _ _ _))))))))))
theorem nBX12_account_38 {J38 : Int32 → Int32 → Int32 → Int32 → Int32 → Int32 → Int32 → Int32 → ea_H → Option (Int32 × ea_H)} {J38_ : Nat → (Int32 → Int32 → Int32 → Int32 → Int32 → Int32 → Int32 → Int32 → ea_H → Option (Int32 × ea_H))}  (mJ38 : ∀ (x1 : Int32) (x2 : Int32) (x3 : Int32) (x4 : Int32) (x5 : Int32) (x6 : Int32) (x7 : Int32) (x8 : Int32) (h : ea_H), fct (J38 x1 x2 x3 x4 x5 x6 x7 x8 h) (fun f => J38_ f x1 x2 x3 x4 x5 x6 x7 x8 h)) {x1 : Int32} {x2 : Int32} {x3 : Int32} {x4 : Int32} {x5 : Int32} {x6 : Int32} {x7 : Int32} {x8 : Int32} {h : ea_H} : fct (BX12_account_38 J38 x1 x2 x3 x4 x5 x6 x7 x8 h) (fun f => BX12_account_38 (J38_ f) x1 x2 x3 x4 x5 x6 x7 x8 h) :=
  (fct_ite (fct_rfl _) (fct_bind (fct_rfl _) fun _ => (fct_ite (mJ38 _ _ _ _ _ _ _ _ _) (fct_bind (fct_rfl _) fun _ => (fct_gd (fct_ite (fct_bind (fct_rfl _) fun _ => (mJ38 _ _ _ _ _ _ _ _ _)) (fct_bind (fct_rfl _) fun _ => (fct_ite (mJ38 _ _ _ _ _ _ _ _ _) (fct_ite (mJ38 _ _ _ _ _ _ _ _ _) (mJ38 _ _ _ _ _ _ _ _ _))))))))))
noncomputable def gX12_account : Nat → (Int32 → Int32 → Int32 → ea_H → Option (Int32 × ea_H)) × (Int32 → Int32 → Int32 → Int32 → Int32 → Int32 → Int32 → Int32 → ea_H → Option (Int32 × ea_H))
  | 0 => (fun _ _ _ _ => none, fun _ _ _ _ _ _ _ _ _ => none)
  | f + 1 => (BX12_account_0 (gX12_account f).2, BX12_account_38 (gX12_account f).2)
theorem mgX12_account : ∀ f : Nat, (∀ (x1 : Int32) (x2 : Int32) (x3 : Int32) (h : ea_H), fle ((gX12_account f).1 x1 x2 x3 h) ((gX12_account (f + 1)).1 x1 x2 x3 h)) ∧ (∀ (x1 : Int32) (x2 : Int32) (x3 : Int32) (x4 : Int32) (x5 : Int32) (x6 : Int32) (x7 : Int32) (x8 : Int32) (h : ea_H), fle ((gX12_account f).2 x1 x2 x3 x4 x5 x6 x7 x8 h) ((gX12_account (f + 1)).2 x1 x2 x3 x4 x5 x6 x7 x8 h)) := by
  intro f
  induction f with
  | zero => exact ⟨fun _ _ _ _ => fle_none _, fun _ _ _ _ _ _ _ _ _ => fle_none _⟩
  | succ f ih => exact ⟨fun _ _ _ _ => lBX12_account_0 ih.2, fun _ _ _ _ _ _ _ _ _ => lBX12_account_38 ih.2⟩
noncomputable def qX12_account_0 (x1 : Int32) (x2 : Int32) (x3 : Int32) (h : ea_H) : Option (Int32 × ea_H) := flim fun f => (gX12_account f).1 x1 x2 x3 h
noncomputable def qX12_account_38 (x1 : Int32) (x2 : Int32) (x3 : Int32) (x4 : Int32) (x5 : Int32) (x6 : Int32) (x7 : Int32) (x8 : Int32) (h : ea_H) : Option (Int32 × ea_H) := flim fun f => (gX12_account f).2 x1 x2 x3 x4 x5 x6 x7 x8 h
theorem fqX12_account_0 (x1 : Int32) (x2 : Int32) (x3 : Int32) (h : ea_H) : fct (qX12_account_0 x1 x2 x3 h) fun f => (gX12_account f).1 x1 x2 x3 h := flim_ct fun f => (mgX12_account f).1 x1 x2 x3 h
theorem fqX12_account_38 (x1 : Int32) (x2 : Int32) (x3 : Int32) (x4 : Int32) (x5 : Int32) (x6 : Int32) (x7 : Int32) (x8 : Int32) (h : ea_H) : fct (qX12_account_38 x1 x2 x3 x4 x5 x6 x7 x8 h) fun f => (gX12_account f).2 x1 x2 x3 x4 x5 x6 x7 x8 h := flim_ct fun f => (mgX12_account f).2 x1 x2 x3 x4 x5 x6 x7 x8 h
/-- how a block opens -/
theorem uqX12_account_0 {x1 : Int32} {x2 : Int32} {x3 : Int32} {h : ea_H} {P : Int32 × ea_H → Prop} (H : sat (BX12_account_0 qX12_account_38 x1 x2 x3 h) P) : sat (qX12_account_0 x1 x2 x3 h) P := by
  obtain ⟨x, e, hp⟩ := H
  obtain ⟨n, hn⟩ := nBX12_account_0 fqX12_account_38 x e
  exact ⟨x, flim_at (fun f => (mgX12_account f).1 x1 x2 x3 h) (f := n + 1) (hn n (Nat.le_refl _)), hp⟩
/-- how a block opens -/
theorem uqX12_account_38 {x1 : Int32} {x2 : Int32} {x3 : Int32} {x4 : Int32} {x5 : Int32} {x6 : Int32} {x7 : Int32} {x8 : Int32} {h : ea_H} {P : Int32 × ea_H → Prop} (H : sat (BX12_account_38 qX12_account_38 x1 x2 x3 x4 x5 x6 x7 x8 h) P) : sat (qX12_account_38 x1 x2 x3 x4 x5 x6 x7 x8 h) P := by
  obtain ⟨x, e, hp⟩ := H
  obtain ⟨n, hn⟩ := nBX12_account_38 fqX12_account_38 x e
  exact ⟨x, flim_at (fun f => (mgX12_account f).2 x1 x2 x3 x4 x5 x6 x7 x8 h) (f := n + 1) (hn n (Nat.le_refl _)), hp⟩
theorem kgX12_account : ∀ f : Nat, (∀ (x1 : Int32) (x2 : Int32) (x3 : Int32) (h : ea_H), kp (ea_core h) ((gX12_account f).1 x1 x2 x3 h)) ∧ (∀ (x1 : Int32) (x2 : Int32) (x3 : Int32) (x4 : Int32) (x5 : Int32) (x6 : Int32) (x7 : Int32) (x8 : Int32) (h : ea_H), kp (ea_core h) ((gX12_account f).2 x1 x2 x3 x4 x5 x6 x7 x8 h)) := by
  intro f
  induction f with
  | zero => exact ⟨fun _ _ _ _ => kp_none _, fun _ _ _ _ _ _ _ _ _ => kp_none _⟩
  | succ f ih => exact ⟨fun _ _ _ _ => kBX12_account_0 ih.2, fun _ _ _ _ _ _ _ _ _ => kBX12_account_38 ih.2⟩
theorem tgX12_account {d : Nat} {h0 : ea_H} (hd : 3 ≤ d) : ∀ f : Nat, (∀ (x1 : Int32) (x2 : Int32) (x3 : Int32) (h : ea_H) (r : Int32) (h' : ea_H), (gX12_account f).1 x1 x2 x3 h = some (r, h') → ShM h → ea_W mX12_account d h0 (some (vI r)) h' 0 [(0, vR (some 326)), (1, vI x1), (2, vI x2), (3, vI x3)] [] h) ∧ (∀ (x1 : Int32) (x2 : Int32) (x3 : Int32) (x4 : Int32) (x5 : Int32) (x6 : Int32) (x7 : Int32) (x8 : Int32) (h : ea_H) (r : Int32) (h' : ea_H), (gX12_account f).2 x1 x2 x3 x4 x5 x6 x7 x8 h = some (r, h') → ShM h → ea_W mX12_account d h0 (some (vI r)) h' 38 [(0, vR (some 326)), (1, vI x1), (2, vI x2), (3, vI x3), (4, vI x4), (5, vI x5), (6, vI x6), (7, vI x7), (8, vI x8)] [] h) := by
  intro f
  induction f with
  | zero => exact ⟨fun _ _ _ _ _ _ E => no_some E, fun _ _ _ _ _ _ _ _ _ _ _ E => no_some E⟩
  | succ f ih => exact ⟨fun _ _ _ _ _ _ E hs => tBX12_account_0 hd ih.2 E hs, fun _ _ _ _ _ _ _ _ _ _ _ E hs => tBX12_account_38 hd ih.2 E hs⟩
noncomputable def qX12_account (x1 : Int32) (x2 : Int32) (x3 : Int32) (h : ea_H) : Option (Int32 × ea_H) := qX12_account_0 x1 x2 x3 h
theorem sX12_account {d : Nat} {x1 : Int32} {x2 : Int32} {x3 : Int32} {h : ea_H} {r : Int32} {h' : ea_H} (hd : 3 ≤ d) (hs : ShM h) (K : qX12_account x1 x2 x3 h = some (r, h')) : ea_Met mX12_account d [vR (some 326), vI x1, vI x2, vI x3] h (some (vI r)) h' := by
  unfold qX12_account at K
  obtain ⟨n, hn⟩ := fqX12_account_0 x1 x2 x3 h _ K
  have W := (tgX12_account (d := d) (h0 := h) hd n).1 x1 x2 x3 h _ _ (hn n (Nat.le_refl _)) hs
  exact ea_enter rfl (Nat.le_of_ble_eq_true rfl) W
theorem kpX12_account (x1 : Int32) (x2 : Int32) (x3 : Int32) (h : ea_H) : kp (ea_core h) (qX12_account x1 x2 x3 h) := fun x e => by
  obtain ⟨n, hn⟩ := fqX12_account_0 x1 x2 x3 h x e
  exact (kgX12_account n).1 x1 x2 x3 h x (hn n (Nat.le_refl _))
noncomputable def BX12_nobody_0 (x1 : Int32) (h : ea_H) : Option (Int32 × ea_H) :=
  (Option.bind (qX12_isLetterOf (x1 : Int32) h) fun w1 => (if w1.1 = (0 : Int32) then (some ((0 : Int32), w1.2)) else (gd (vp_in x1 120) (if (ea_i w1.2 380 (Int32.toNatClampNeg x1)) = (0 : Int32) then (gd (vp_in x1 120) (if (ea_i w1.2 381 (Int32.toNatClampNeg x1)) ≤ (1 : Int32) then (gd (vp_in x1 120) (ea_let (ea_wi w1.2 380 (Int32.toNatClampNeg x1) 1) fun H5 => (some ((1 : Int32), H5)))) else (some ((0 : Int32), w1.2)))) else (some ((0 : Int32), w1.2))))))
theorem tBX12_nobody_0 {d : Nat} {h0 : ea_H} (hd : 3 ≤ d)  {x1 : Int32} {h : ea_H} {r : Int32} {h' : ea_H} (E : BX12_nobody_0 x1 h = some (r, h')) (hs : ShM h) : ea_W mX12_nobody d h0 (some (vI r)) h' 0 [(0, vR (some 326)), (1, vI x1)] [] h := by
  unfold BX12_nobody_0 at E
  obtain ⟨w1, Ew1, E⟩ := bd_some E
  have hsw1 : ShM w1.2 := ShM_core ((kpX12_isLetterOf _ _) _ Ew1) hs
  refine ea_aload_n (pc := 0) dX12_nobody_0 rfl 0 rfl ?_
  refine ea_iload_n (pc := 1) dX12_nobody_1 rfl 1 rfl ?_
  refine ea_callV (pc := 2) (d' := d - 1) (As := [vI x1]) (st := []) dX12_nobody_2 kX12_isLetterOf (sX12_isLetterOf (d := d - 1) (by omega) hs Ew1) (by omega) rfl (Nat.le_of_ble_eq_true rfl) ew_2076 ew_2078 ew_96 (ci := 12) rfl (by decide) (cShM_326 hs).1 (cShM_326 hs).2.1 ?_
  refine ea_if_eq (pc := 5) (tgt := 27) dX12_nobody_5 rfl (fun c8 => ?_) (fun c8 => ?_)
  · have E := (if_pos c8).symm.trans E
    refine ea_iconst (pc := 27) dX12_nobody_27 (v := 0) rfl ?_
    exact ea_iretO (pc := 28) dX12_nobody_28 rfl (ea_bn (Or.inl rfl)) E
  · have E := (if_neg c8).symm.trans E
    obtain ⟨z2, E⟩ := gd_some E
    refine ea_aload_n (pc := 8) dX12_nobody_8 rfl 0 rfl ?_
    refine ea_getR (pc := 9) dX12_nobody_9 ec_12 (k := 80) (Nat.le_of_ble_eq_true rfl) rfl (Or.inl ew_1482) (cShM_326 hsw1).1 (cShM_326 hsw1).2.1 (rShM_326_80 hsw1) ?_
    refine ea_iload_n (pc := 12) dX12_nobody_12 rfl 1 rfl ?_
    refine ea_zald (pc := 13) dX12_nobody_13 (cShM_380 hsw1).1 (cShM_380 hsw1).2.1 (ea_vpl (cShM_380 hsw1).2.2 z2) ?_
    refine ea_if_ne (pc := 14) (tgt := 27) dX12_nobody_14 rfl (fun c7 => ?_) (fun c7 => ?_)
    · have E := (if_neg c7).symm.trans E
      refine ea_iconst (pc := 27) dX12_nobody_27 (v := 0) rfl ?_
      exact ea_iretO (pc := 28) dX12_nobody_28 rfl (ea_bn (Or.inl rfl)) E
    · have E := (if_pos c7).symm.trans E
      obtain ⟨z3, E⟩ := gd_some E
      refine ea_aload_n (pc := 17) dX12_nobody_17 rfl 0 rfl ?_
      refine ea_getR (pc := 18) dX12_nobody_18 ec_12 (k := 81) (Nat.le_of_ble_eq_true rfl) rfl (Or.inl ew_1483) (cShM_326 hsw1).1 (cShM_326 hsw1).2.1 (rShM_326_81 hsw1) ?_
      refine ea_iload_n (pc := 21) dX12_nobody_21 rfl 1 rfl ?_
      refine ea_iald (pc := 22) dX12_nobody_22 (cShM_381 hsw1).1 (cShM_381 hsw1).2.1 (ea_vpl (cShM_381 hsw1).2.2 z3) ?_
      refine ea_iconst (pc := 23) dX12_nobody_23 (v := 1) rfl ?_
      refine ea_icmp_le (pc := 24) (tgt := 29) dX12_nobody_24 rfl (fun c6 => ?_) (fun c6 => ?_)
      · have E := (if_pos c6).symm.trans E
        obtain ⟨z4, E⟩ := gd_some E
        refine ea_aload_n (pc := 29) dX12_nobody_29 rfl 0 rfl ?_
        refine ea_getR (pc := 30) dX12_nobody_30 ec_12 (k := 80) (Nat.le_of_ble_eq_true rfl) rfl (Or.inl ew_1482) (cShM_326 hsw1).1 (cShM_326 hsw1).2.1 (rShM_326_80 hsw1) ?_
        refine ea_iload_n (pc := 33) dX12_nobody_33 rfl 1 rfl ?_
        refine ea_iconst (pc := 34) dX12_nobody_34 (v := 1) rfl ?_
        obtain ⟨H5, eH5, E⟩ := let_some E
        refine ea_zast (pc := 35) dX12_nobody_35 (y := 1) (ea_bn (Or.inr rfl)) (cShM_380 hsw1).1 (cShM_380 hsw1).2.1 (ea_vpl (cShM_380 hsw1).2.2 z4) ?_
        refine ea_nm eH5 ?_
        have hsH5 : ShM H5 := by rw [eH5]; exact hsw1
        refine ea_iconst (pc := 36) dX12_nobody_36 (v := 1) rfl ?_
        exact ea_iretO (pc := 37) dX12_nobody_37 rfl (ea_bn (Or.inr rfl)) E
      · have E := (if_neg c6).symm.trans E
        refine ea_iconst (pc := 27) dX12_nobody_27 (v := 0) rfl ?_
        exact ea_iretO (pc := 28) dX12_nobody_28 rfl (ea_bn (Or.inl rfl)) E
theorem kBX12_nobody_0  {x1 : Int32} {h : ea_H} : kp (ea_core h) (BX12_nobody_0 x1 h) :=
  (kp_bind (kp_tw (kpX12_isLetterOf _ _) rfl) fun w1 hcw1 => (kp_ite (kp_ret hcw1) (kp_gd (kp_ite (kp_gd (kp_ite (kp_gd (kp_let (kp_ret hcw1))) (kp_ret hcw1))) (kp_ret hcw1)))))
noncomputable def qX12_nobody (x1 : Int32) (h : ea_H) : Option (Int32 × ea_H) := BX12_nobody_0 x1 h
theorem sX12_nobody {d : Nat} {x1 : Int32} {h : ea_H} {r : Int32} {h' : ea_H} (hd : 3 ≤ d) (hs : ShM h) (K : qX12_nobody x1 h = some (r, h')) : ea_Met mX12_nobody d [vR (some 326), vI x1] h (some (vI r)) h' := by
  unfold qX12_nobody at K
  have W := tBX12_nobody_0 hd (h0 := h) K hs
  exact ea_enter rfl (Nat.le_of_ble_eq_true rfl) W
theorem kpX12_nobody (x1 : Int32) (h : ea_H) : kp (ea_core h) (qX12_nobody x1 h) := kBX12_nobody_0
noncomputable def BX12_place_0 (J51 : Int32 → Int32 → Int32 → Int32 → ea_H → Option (Int32 × ea_H)) (x1 : Int32) (x2 : Int32) (x3 : Int32) (h : ea_H) : Option (Int32 × ea_H) :=
  (Option.bind (qX12_isLetterOf (x1 : Int32) h) fun w1 => (if w1.1 = (0 : Int32) then (some ((0 : Int32), w1.2)) else (gd (vp_in x1 120) (if (ea_i w1.2 381 (Int32.toNatClampNeg x1)) = (3 : Int32) then (Option.bind (qX12_isTown (x2 : Int32) w1.2) fun w3 => (if w3.1 = (0 : Int32) then (some ((0 : Int32), w3.2)) else (gd (vp_in x1 120) (if x2 = (ea_i w3.2 366 (Int32.toNatClampNeg x1)) then (some ((0 : Int32), w3.2)) else (Option.bind (qX12_isIn (x3 : Int32) (1 : Int32) (99 : Int32) w3.2) fun w5 => (if w5.1 = (0 : Int32) then (some ((0 : Int32), w5.2)) else (J51 (x1 : Int32) (x2 : Int32) (x3 : Int32) (0 : Int32) w5.2))))))) else (some ((0 : Int32), w1.2))))))
theorem tBX12_place_0 {d : Nat} {h0 : ea_H} (hd : 3 ≤ d) {J51 : Int32 → Int32 → Int32 → Int32 → ea_H → Option (Int32 × ea_H)}  (kJ51 : ∀ (x1 : Int32) (x2 : Int32) (x3 : Int32) (x4 : Int32) (h : ea_H) (r : Int32) (h' : ea_H), J51 x1 x2 x3 x4 h = some (r, h') → ShM h → ea_W mX12_place d h0 (some (vI r)) h' 51 [(0, vR (some 326)), (1, vI x1), (2, vI x2), (3, vI x3), (4, vI x4)] [] h) {x1 : Int32} {x2 : Int32} {x3 : Int32} {h : ea_H} {r : Int32} {h' : ea_H} (E : BX12_place_0 J51 x1 x2 x3 h = some (r, h')) (hs : ShM h) : ea_W mX12_place d h0 (some (vI r)) h' 0 [(0, vR (some 326)), (1, vI x1), (2, vI x2), (3, vI x3)] [] h := by
  unfold BX12_place_0 at E
  obtain ⟨w1, Ew1, E⟩ := bd_some E
  have hsw1 : ShM w1.2 := ShM_core ((kpX12_isLetterOf _ _) _ Ew1) hs
  refine ea_aload_n (pc := 0) dX12_place_0 rfl 0 rfl ?_
  refine ea_iload_n (pc := 1) dX12_place_1 rfl 1 rfl ?_
  refine ea_callV (pc := 2) (d' := d - 1) (As := [vI x1]) (st := []) dX12_place_2 kX12_isLetterOf (sX12_isLetterOf (d := d - 1) (by omega) hs Ew1) (by omega) rfl (Nat.le_of_ble_eq_true rfl) ew_2076 ew_2078 ew_96 (ci := 12) rfl (by decide) (cShM_326 hs).1 (cShM_326 hs).2.1 ?_
  refine ea_if_eq (pc := 5) (tgt := 46) dX12_place_5 rfl (fun c10 => ?_) (fun c10 => ?_)
  · have E := (if_pos c10).symm.trans E
    refine ea_iconst (pc := 46) dX12_place_46 (v := 0) rfl ?_
    exact ea_iretO (pc := 47) dX12_place_47 rfl (ea_bn (Or.inl rfl)) E
  · have E := (if_neg c10).symm.trans E
    obtain ⟨z2, E⟩ := gd_some E
    refine ea_aload_n (pc := 8) dX12_place_8 rfl 0 rfl ?_
    refine ea_getR (pc := 9) dX12_place_9 ec_12 (k := 81) (Nat.le_of_ble_eq_true rfl) rfl (Or.inl ew_1483) (cShM_326 hsw1).1 (cShM_326 hsw1).2.1 (rShM_326_81 hsw1) ?_
    refine ea_iload_n (pc := 12) dX12_place_12 rfl 1 rfl ?_
    refine ea_iald (pc := 13) dX12_place_13 (cShM_381 hsw1).1 (cShM_381 hsw1).2.1 (ea_vpl (cShM_381 hsw1).2.2 z2) ?_
    refine ea_iconst (pc := 14) dX12_place_14 (v := 3) rfl ?_
    refine ea_icmp_ne (pc := 15) (tgt := 46) dX12_place_15 rfl (fun c9 => ?_) (fun c9 => ?_)
    · have E := (if_neg c9).symm.trans E
      refine ea_iconst (pc := 46) dX12_place_46 (v := 0) rfl ?_
      exact ea_iretO (pc := 47) dX12_place_47 rfl (ea_bn (Or.inl rfl)) E
    · have E := (if_pos c9).symm.trans E
      obtain ⟨w3, Ew3, E⟩ := bd_some E
      have hsw3 : ShM w3.2 := ShM_core ((kpX12_isTown _ _) _ Ew3) hsw1
      refine ea_aload_n (pc := 18) dX12_place_18 rfl 0 rfl ?_
      refine ea_iload_n (pc := 19) dX12_place_19 rfl 2 rfl ?_
      refine ea_callV (pc := 20) (d' := d - 1) (As := [vI x2]) (st := []) dX12_place_20 kX12_isTown (sX12_isTown (d := d - 1) (by omega) hsw1 Ew3) (by omega) rfl (Nat.le_of_ble_eq_true rfl) ew_1765 ew_1767 ew_54 (ci := 12) rfl (by decide) (cShM_326 hsw1).1 (cShM_326 hsw1).2.1 ?_
      refine ea_if_eq (pc := 23) (tgt := 46) dX12_place_23 rfl (fun c8 => ?_) (fun c8 => ?_)
      · have E := (if_pos c8).symm.trans E
        refine ea_iconst (pc := 46) dX12_place_46 (v := 0) rfl ?_
        exact ea_iretO (pc := 47) dX12_place_47 rfl (ea_bn (Or.inl rfl)) E
      · have E := (if_neg c8).symm.trans E
        obtain ⟨z4, E⟩ := gd_some E
        refine ea_iload_n (pc := 26) dX12_place_26 rfl 2 rfl ?_
        refine ea_aload_n (pc := 27) dX12_place_27 rfl 0 rfl ?_
        refine ea_getR (pc := 28) dX12_place_28 ec_12 (k := 66) (Nat.le_of_ble_eq_true rfl) rfl (Or.inl ew_1468) (cShM_326 hsw3).1 (cShM_326 hsw3).2.1 (rShM_326_66 hsw3) ?_
        refine ea_iload_n (pc := 31) dX12_place_31 rfl 1 rfl ?_
        refine ea_iald (pc := 32) dX12_place_32 (cShM_366 hsw3).1 (cShM_366 hsw3).2.1 (ea_vpl (cShM_366 hsw3).2.2 z4) ?_
        refine ea_icmp_eq (pc := 33) (tgt := 46) dX12_place_33 rfl (fun c7 => ?_) (fun c7 => ?_)
        · have E := (if_pos c7).symm.trans E
          refine ea_iconst (pc := 46) dX12_place_46 (v := 0) rfl ?_
          exact ea_iretO (pc := 47) dX12_place_47 rfl (ea_bn (Or.inl rfl)) E
        · have E := (if_neg c7).symm.trans E
          obtain ⟨w5, Ew5, E⟩ := bd_some E
          have hsw5 : ShM w5.2 := ShM_core ((kpX12_isIn _ _ _ _) _ Ew5) hsw3
          refine ea_iload_n (pc := 36) dX12_place_36 rfl 3 rfl ?_
          refine ea_iconst (pc := 37) dX12_place_37 (v := 1) rfl ?_
          refine ea_bipush (pc := 38) dX12_place_38 (v := 99) rfl ?_
          refine ea_callS (pc := 40) (d' := d - 1) (As := [vI x3, vI 1, vI 99]) (st := []) dX12_place_40 kX12_isIn (sX12_isIn (d := d - 1) (by omega) Ew5) (by omega) rfl (Nat.le_of_ble_eq_true rfl) ew_1769 ew_1770 ?_
          refine ea_if_ne (pc := 43) (tgt := 48) dX12_place_43 rfl (fun c6 => ?_) (fun c6 => ?_)
          · have E := (if_neg c6).symm.trans E
            refine ea_iconst (pc := 48) dX12_place_48 (v := 0) rfl ?_
            refine ea_istore (pc := 49) (lv' := [(0, vR (some 326)), (1, vI x1), (2, vI x2), (3, vI x3), (4, vI 0)]) dX12_place_49 (Nat.le_of_ble_eq_true rfl) [1, 2, 3, 4, 0] rfl ?_
            exact (kJ51 (x1 : Int32) (x2 : Int32) (x3 : Int32) (0 : Int32) w5.2 _ _ E hsw5)
          · have E := (if_pos c6).symm.trans E
            refine ea_iconst (pc := 46) dX12_place_46 (v := 0) rfl ?_
            exact ea_iretO (pc := 47) dX12_place_47 rfl (ea_bn (Or.inl rfl)) E
theorem kBX12_place_0 {J51 : Int32 → Int32 → Int32 → Int32 → ea_H → Option (Int32 × ea_H)}  (cJ51 : ∀ (x1 : Int32) (x2 : Int32) (x3 : Int32) (x4 : Int32) (h : ea_H), kp (ea_core h) (J51 x1 x2 x3 x4 h)) {x1 : Int32} {x2 : Int32} {x3 : Int32} {h : ea_H} : kp (ea_core h) (BX12_place_0 J51 x1 x2 x3 h) :=
  (kp_bind (kp_tw (kpX12_isLetterOf _ _) rfl) fun w1 hcw1 => (kp_ite (kp_ret hcw1) (kp_gd (kp_ite (kp_bind (kp_tw (kpX12_isTown _ _) hcw1) fun w3 hcw3 => (kp_ite (kp_ret hcw3) (kp_gd (kp_ite (kp_ret hcw3) (kp_bind (kp_tw (kpX12_isIn _ _ _ _) hcw3) fun w5 hcw5 => (kp_ite (kp_ret hcw5) (kp_tw (cJ51 _ _ _ _ _) hcw5))))))) (kp_ret hcw1)))))
theorem lBX12_place_0 {J51 : Int32 → Int32 → Int32 → Int32 → ea_H → Option (Int32 × ea_H)} {J51_ : Int32 → Int32 → Int32 → Int32 → ea_H → Option (Int32 × ea_H)}  (mJ51 : ∀ (x1 : Int32) (x2 : Int32) (x3 : Int32) (x4 : Int32) (h : ea_H), fle (J51 x1 x2 x3 x4 h) (J51_ x1 x2 x3 x4 h)) {x1 : Int32} {x2 : Int32} {x3 : Int32} {h : ea_H} : fle (BX12_place_0 J51 x1 x2 x3 h) (BX12_place_0 J51_ x1 x2 x3 h) :=
  (fle_bind (fle_rfl _) fun _ => (fle_ite (fle_rfl _) (fle_gd (fle_ite (fle_bind (fle_rfl _) fun _ => (fle_ite (fle_rfl _) (fle_gd (fle_ite (fle_rfl _) (fle_bind (fle_rfl _) fun _ => (fle_ite (fle_rfl _) (mJ51 _ _ _ _ _))))))) (fle_rfl _)))))
theorem nBX12_place_0 {J51 : Int32 → Int32 → Int32 → Int32 → ea_H → Option (Int32 × ea_H)} {J51_ : Nat → (Int32 → Int32 → Int32 → Int32 → ea_H → Option (Int32 × ea_H))}  (mJ51 : ∀ (x1 : Int32) (x2 : Int32) (x3 : Int32) (x4 : Int32) (h : ea_H), fct (J51 x1 x2 x3 x4 h) (fun f => J51_ f x1 x2 x3 x4 h)) {x1 : Int32} {x2 : Int32} {x3 : Int32} {h : ea_H} : fct (BX12_place_0 J51 x1 x2 x3 h) (fun f => BX12_place_0 (J51_ f) x1 x2 x3 h) :=
  (fct_bind (fct_rfl _) fun _ => (fct_ite (fct_rfl _) (fct_gd (fct_ite (fct_bind (fct_rfl _) fun _ => (fct_ite (fct_rfl _) (fct_gd (fct_ite (fct_rfl _) (fct_bind (fct_rfl _) fun _ => (fct_ite (fct_rfl _) (mJ51 _ _ _ _ _))))))) (fct_rfl _)))))
noncomputable def BX12_place_51 (J51 : Int32 → Int32 → Int32 → Int32 → ea_H → Option (Int32 × ea_H)) (J83 : Int32 → Int32 → Int32 → Int32 → ea_H → Option (Int32 × ea_H)) (x1 : Int32) (x2 : Int32) (x3 : Int32) (x4 : Int32) (h : ea_H) : Option (Int32 × ea_H) :=
  (gd (vp_in x1 120) (if (ea_i h 396 (Int32.toNatClampNeg x1)) ≤ x4 then (J83 (x1 : Int32) (x2 : Int32) (x3 : Int32) (x4 : Int32) h) else (gd (vp_in (((4 : Int32) * x1) + x4) 480) (if (ea_i h 397 (Int32.toNatClampNeg (((4 : Int32) * x1) + x4))) = x2 then (J83 (x1 : Int32) (x2 : Int32) (x3 : Int32) (x4 : Int32) h) else (J51 (x1 : Int32) (x2 : Int32) (x3 : Int32) ((x4 + (1 : Int32)) : Int32) h)))))
theorem tBX12_place_51 {d : Nat} {h0 : ea_H} (hd : 3 ≤ d) {J51 : Int32 → Int32 → Int32 → Int32 → ea_H → Option (Int32 × ea_H)} {J83 : Int32 → Int32 → Int32 → Int32 → ea_H → Option (Int32 × ea_H)}  (kJ51 : ∀ (x1 : Int32) (x2 : Int32) (x3 : Int32) (x4 : Int32) (h : ea_H) (r : Int32) (h' : ea_H), J51 x1 x2 x3 x4 h = some (r, h') → ShM h → ea_W mX12_place d h0 (some (vI r)) h' 51 [(0, vR (some 326)), (1, vI x1), (2, vI x2), (3, vI x3), (4, vI x4)] [] h) (kJ83 : ∀ (x1 : Int32) (x2 : Int32) (x3 : Int32) (x4 : Int32) (h : ea_H) (r : Int32) (h' : ea_H), J83 x1 x2 x3 x4 h = some (r, h') → ShM h → ea_W mX12_place d h0 (some (vI r)) h' 83 [(0, vR (some 326)), (1, vI x1), (2, vI x2), (3, vI x3), (4, vI x4)] [] h) {x1 : Int32} {x2 : Int32} {x3 : Int32} {x4 : Int32} {h : ea_H} {r : Int32} {h' : ea_H} (E : BX12_place_51 J51 J83 x1 x2 x3 x4 h = some (r, h')) (hs : ShM h) : ea_W mX12_place d h0 (some (vI r)) h' 51 [(0, vR (some 326)), (1, vI x1), (2, vI x2), (3, vI x3), (4, vI x4)] [] h := by
  unfold BX12_place_51 at E
  obtain ⟨z11, E⟩ := gd_some E
  refine ea_iload (pc := 51) dX12_place_51 4 rfl ?_
  refine ea_aload_n (pc := 53) dX12_place_53 rfl 0 rfl ?_
  refine ea_getR (pc := 54) dX12_place_54 ec_12 (k := 97) (Nat.le_of_ble_eq_true rfl) rfl (Or.inl ew_1499) (cShM_326 hs).1 (cShM_326 hs).2.1 (rShM_326_97 hs) ?_
  refine ea_iload_n (pc := 57) dX12_place_57 rfl 1 rfl ?_
  refine ea_iald (pc := 58) dX12_place_58 (cShM_396 hs).1 (cShM_396 hs).2.1 (ea_vpl (cShM_396 hs).2.2 z11) ?_
  refine ea_icmp_ge (pc := 59) (tgt := 83) dX12_place_59 rfl (fun c14 => ?_) (fun c14 => ?_)
  · have E := (if_pos c14).symm.trans E
    exact (kJ83 (x1 : Int32) (x2 : Int32) (x3 : Int32) (x4 : Int32) h _ _ E hs)
  · have E := (if_neg c14).symm.trans E
    obtain ⟨z12, E⟩ := gd_some E
    refine ea_aload_n (pc := 62) dX12_place_62 rfl 0 rfl ?_
    refine ea_getR (pc := 63) dX12_place_63 ec_12 (k := 98) (Nat.le_of_ble_eq_true rfl) rfl (Or.inl ew_1500) (cShM_326 hs).1 (cShM_326 hs).2.1 (rShM_326_98 hs) ?_
    refine ea_iconst (pc := 66) dX12_place_66 (v := 4) rfl ?_
    refine ea_iload_n (pc := 67) dX12_place_67 rfl 1 rfl ?_
    refine ea_imul (pc := 68) dX12_place_68 ?_
    refine ea_iload (pc := 69) dX12_place_69 4 rfl ?_
    refine ea_iadd (pc := 71) dX12_place_71 ?_
    refine ea_iald (pc := 72) dX12_place_72 (cShM_397 hs).1 (cShM_397 hs).2.1 (ea_vpl (cShM_397 hs).2.2 z12) ?_
    refine ea_iload_n (pc := 73) dX12_place_73 rfl 2 rfl ?_
    refine ea_icmp_eq (pc := 74) (tgt := 83) dX12_place_74 rfl (fun c13 => ?_) (fun c13 => ?_)
    · have E := (if_pos c13).symm.trans E
      exact (kJ83 (x1 : Int32) (x2 : Int32) (x3 : Int32) (x4 : Int32) h _ _ E hs)
    · have E := (if_neg c13).symm.trans E
      refine ea_iinc (pc := 77) (v := 1) (lv' := [(0, vR (some 326)), (1, vI x1), (2, vI x2), (3, vI x3), (4, vI (x4 + (1 : Int32)))]) dX12_place_77 4 rfl rfl (Nat.le_of_ble_eq_true rfl) [1, 2, 3, 4, 0] rfl ?_
      refine ea_goto (pc := 80) (tgt := 51) dX12_place_80 rfl ?_
      exact (kJ51 (x1 : Int32) (x2 : Int32) (x3 : Int32) ((x4 + (1 : Int32)) : Int32) h _ _ E hs)
theorem kBX12_place_51 {J51 : Int32 → Int32 → Int32 → Int32 → ea_H → Option (Int32 × ea_H)} {J83 : Int32 → Int32 → Int32 → Int32 → ea_H → Option (Int32 × ea_H)}  (cJ51 : ∀ (x1 : Int32) (x2 : Int32) (x3 : Int32) (x4 : Int32) (h : ea_H), kp (ea_core h) (J51 x1 x2 x3 x4 h)) (cJ83 : ∀ (x1 : Int32) (x2 : Int32) (x3 : Int32) (x4 : Int32) (h : ea_H), kp (ea_core h) (J83 x1 x2 x3 x4 h)) {x1 : Int32} {x2 : Int32} {x3 : Int32} {x4 : Int32} {h : ea_H} : kp (ea_core h) (BX12_place_51 J51 J83 x1 x2 x3 x4 h) :=
  (kp_gd (kp_ite (kp_tw (cJ83 _ _ _ _ _) rfl) (kp_gd (kp_ite (kp_tw (cJ83 _ _ _ _ _) rfl) (kp_tw (cJ51 _ _ _ _ _) rfl)))))
theorem lBX12_place_51 {J51 : Int32 → Int32 → Int32 → Int32 → ea_H → Option (Int32 × ea_H)} {J83 : Int32 → Int32 → Int32 → Int32 → ea_H → Option (Int32 × ea_H)} {J51_ : Int32 → Int32 → Int32 → Int32 → ea_H → Option (Int32 × ea_H)} {J83_ : Int32 → Int32 → Int32 → Int32 → ea_H → Option (Int32 × ea_H)}  (mJ51 : ∀ (x1 : Int32) (x2 : Int32) (x3 : Int32) (x4 : Int32) (h : ea_H), fle (J51 x1 x2 x3 x4 h) (J51_ x1 x2 x3 x4 h)) (mJ83 : ∀ (x1 : Int32) (x2 : Int32) (x3 : Int32) (x4 : Int32) (h : ea_H), fle (J83 x1 x2 x3 x4 h) (J83_ x1 x2 x3 x4 h)) {x1 : Int32} {x2 : Int32} {x3 : Int32} {x4 : Int32} {h : ea_H} : fle (BX12_place_51 J51 J83 x1 x2 x3 x4 h) (BX12_place_51 J51_ J83_ x1 x2 x3 x4 h) :=
  (fle_gd (fle_ite (mJ83 _ _ _ _ _) (fle_gd (fle_ite (mJ83 _ _ _ _ _) (mJ51 _ _ _ _ _)))))
theorem nBX12_place_51 {J51 : Int32 → Int32 → Int32 → Int32 → ea_H → Option (Int32 × ea_H)} {J83 : Int32 → Int32 → Int32 → Int32 → ea_H → Option (Int32 × ea_H)} {J51_ : Nat → (Int32 → Int32 → Int32 → Int32 → ea_H → Option (Int32 × ea_H))} {J83_ : Nat → (Int32 → Int32 → Int32 → Int32 → ea_H → Option (Int32 × ea_H))}  (mJ51 : ∀ (x1 : Int32) (x2 : Int32) (x3 : Int32) (x4 : Int32) (h : ea_H), fct (J51 x1 x2 x3 x4 h) (fun f => J51_ f x1 x2 x3 x4 h)) (mJ83 : ∀ (x1 : Int32) (x2 : Int32) (x3 : Int32) (x4 : Int32) (h : ea_H), fct (J83 x1 x2 x3 x4 h) (fun f => J83_ f x1 x2 x3 x4 h)) {x1 : Int32} {x2 : Int32} {x3 : Int32} {x4 : Int32} {h : ea_H} : fct (BX12_place_51 J51 J83 x1 x2 x3 x4 h) (fun f => BX12_place_51 (J51_ f) (J83_ f) x1 x2 x3 x4 h) :=
  (fct_gd (fct_ite (mJ83 _ _ _ _ _) (fct_gd (fct_ite (mJ83 _ _ _ _ _) (mJ51 _ _ _ _ _)))))
noncomputable def BX12_place_83 (x1 : Int32) (x2 : Int32) (x3 : Int32) (x4 : Int32) (h : ea_H) : Option (Int32 × ea_H) :=
  (if x4 = (4 : Int32) then (some ((0 : Int32), h)) else (gd (vp_in (((4 : Int32) * x1) + x4) 480) (ea_let (ea_wi h 397 (Int32.toNatClampNeg (((4 : Int32) * x1) + x4)) x2) fun H16 => (gd (vp_in (((4 : Int32) * x1) + x4) 480) (ea_let (ea_wi H16 398 (Int32.toNatClampNeg (((4 : Int32) * x1) + x4)) x3) fun H18 => (gd (vp_in x1 120) (if x4 = (ea_i H18 396 (Int32.toNatClampNeg x1)) then (gd (vp_in x1 120) (gd (vp_in x1 120) (ea_let (ea_wi H18 396 (Int32.toNatClampNeg x1) ((ea_i H18 396 (Int32.toNatClampNeg x1)) + (1 : Int32))) fun H22 => (some ((1 : Int32), H22))))) else (some ((1 : Int32), H18)))))))))
theorem tBX12_place_83 {d : Nat} {h0 : ea_H} (hd : 3 ≤ d)  {x1 : Int32} {x2 : Int32} {x3 : Int32} {x4 : Int32} {h : ea_H} {r : Int32} {h' : ea_H} (E : BX12_place_83 x1 x2 x3 x4 h = some (r, h')) (hs : ShM h) : ea_W mX12_place d h0 (some (vI r)) h' 83 [(0, vR (some 326)), (1, vI x1), (2, vI x2), (3, vI x3), (4, vI x4)] [] h := by
  unfold BX12_place_83 at E
  refine ea_iload (pc := 83) dX12_place_83 4 rfl ?_
  refine ea_iconst (pc := 85) dX12_place_85 (v := 4) rfl ?_
  refine ea_icmp_ne (pc := 86) (tgt := 91) dX12_place_86 rfl (fun c24 => ?_) (fun c24 => ?_)
  · have E := (if_neg c24).symm.trans E
    obtain ⟨z15, E⟩ := gd_some E
    refine ea_aload_n (pc := 91) dX12_place_91 rfl 0 rfl ?_
    refine ea_getR (pc := 92) dX12_place_92 ec_12 (k := 98) (Nat.le_of_ble_eq_true rfl) rfl (Or.inl ew_1500) (cShM_326 hs).1 (cShM_326 hs).2.1 (rShM_326_98 hs) ?_
    refine ea_iconst (pc := 95) dX12_place_95 (v := 4) rfl ?_
    refine ea_iload_n (pc := 96) dX12_place_96 rfl 1 rfl ?_
    refine ea_imul (pc := 97) dX12_place_97 ?_
    refine ea_iload (pc := 98) dX12_place_98 4 rfl ?_
    refine ea_iadd (pc := 100) dX12_place_100 ?_
    refine ea_iload_n (pc := 101) dX12_place_101 rfl 2 rfl ?_
    obtain ⟨H16, eH16, E⟩ := let_some E
    refine ea_iast (pc := 102) dX12_place_102 (cShM_397 hs).1 (cShM_397 hs).2.1 (ea_vpl (cShM_397 hs).2.2 z15) ?_
    refine ea_nm eH16 ?_
    have hsH16 : ShM H16 := by rw [eH16]; exact hs
    obtain ⟨z17, E⟩ := gd_some E
    refine ea_aload_n (pc := 103) dX12_place_103 rfl 0 rfl ?_
    refine ea_getR (pc := 104) dX12_place_104 ec_12 (k := 99) (Nat.le_of_ble_eq_true rfl) rfl (Or.inl ew_1501) (cShM_326 hsH16).1 (cShM_326 hsH16).2.1 (rShM_326_99 hsH16) ?_
    refine ea_iconst (pc := 107) dX12_place_107 (v := 4) rfl ?_
    refine ea_iload_n (pc := 108) dX12_place_108 rfl 1 rfl ?_
    refine ea_imul (pc := 109) dX12_place_109 ?_
    refine ea_iload (pc := 110) dX12_place_110 4 rfl ?_
    refine ea_iadd (pc := 112) dX12_place_112 ?_
    refine ea_iload_n (pc := 113) dX12_place_113 rfl 3 rfl ?_
    obtain ⟨H18, eH18, E⟩ := let_some E
    refine ea_iast (pc := 114) dX12_place_114 (cShM_398 hsH16).1 (cShM_398 hsH16).2.1 (ea_vpl (cShM_398 hsH16).2.2 z17) ?_
    refine ea_nm eH18 ?_
    have hsH18 : ShM H18 := by rw [eH18]; exact hsH16
    obtain ⟨z19, E⟩ := gd_some E
    refine ea_iload (pc := 115) dX12_place_115 4 rfl ?_
    refine ea_aload_n (pc := 117) dX12_place_117 rfl 0 rfl ?_
    refine ea_getR (pc := 118) dX12_place_118 ec_12 (k := 97) (Nat.le_of_ble_eq_true rfl) rfl (Or.inl ew_1499) (cShM_326 hsH18).1 (cShM_326 hsH18).2.1 (rShM_326_97 hsH18) ?_
    refine ea_iload_n (pc := 121) dX12_place_121 rfl 1 rfl ?_
    refine ea_iald (pc := 122) dX12_place_122 (cShM_396 hsH18).1 (cShM_396 hsH18).2.1 (ea_vpl (cShM_396 hsH18).2.2 z19) ?_
    refine ea_icmp_ne (pc := 123) (tgt := 136) dX12_place_123 rfl (fun c23 => ?_) (fun c23 => ?_)
    · have E := (if_neg c23).symm.trans E
      refine ea_iconst (pc := 136) dX12_place_136 (v := 1) rfl ?_
      exact ea_iretO (pc := 137) dX12_place_137 rfl (ea_bn (Or.inr rfl)) E
    · have E := (if_pos c23).symm.trans E
      obtain ⟨z20, E⟩ := gd_some E
      refine ea_aload_n (pc := 126) dX12_place_126 rfl 0 rfl ?_
      refine ea_getR (pc := 127) dX12_place_127 ec_12 (k := 97) (Nat.le_of_ble_eq_true rfl) rfl (Or.inl ew_1499) (cShM_326 hsH18).1 (cShM_326 hsH18).2.1 (rShM_326_97 hsH18) ?_
      refine ea_iload_n (pc := 130) dX12_place_130 rfl 1 rfl ?_
      refine ea_dup2 (pc := 131) dX12_place_131 rfl rfl ?_
      obtain ⟨z21, E⟩ := gd_some E
      refine ea_iald (pc := 132) dX12_place_132 (cShM_396 hsH18).1 (cShM_396 hsH18).2.1 (ea_vpl (cShM_396 hsH18).2.2 z20) ?_
      refine ea_iconst (pc := 133) dX12_place_133 (v := 1) rfl ?_
      refine ea_iadd (pc := 134) dX12_place_134 ?_
      obtain ⟨H22, eH22, E⟩ := let_some E
      refine ea_iast (pc := 135) dX12_place_135 (cShM_396 hsH18).1 (cShM_396 hsH18).2.1 (ea_vpl (cShM_396 hsH18).2.2 z21) ?_
      refine ea_nm eH22 ?_
      have hsH22 : ShM H22 := by rw [eH22]; exact hsH18
      refine ea_iconst (pc := 136) dX12_place_136 (v := 1) rfl ?_
      exact ea_iretO (pc := 137) dX12_place_137 rfl (ea_bn (Or.inr rfl)) E
  · have E := (if_pos c24).symm.trans E
    refine ea_iconst (pc := 89) dX12_place_89 (v := 0) rfl ?_
    exact ea_iretO (pc := 90) dX12_place_90 rfl (ea_bn (Or.inl rfl)) E
theorem kBX12_place_83  {x1 : Int32} {x2 : Int32} {x3 : Int32} {x4 : Int32} {h : ea_H} : kp (ea_core h) (BX12_place_83 x1 x2 x3 x4 h) :=
  (kp_ite (kp_ret rfl) (kp_gd (kp_let (kp_gd (kp_let (kp_gd (kp_ite (kp_gd (kp_gd (kp_let (kp_ret rfl)))) (kp_ret rfl))))))))
theorem lBX12_place_83  {x1 : Int32} {x2 : Int32} {x3 : Int32} {x4 : Int32} {h : ea_H} : fle (BX12_place_83 x1 x2 x3 x4 h) (BX12_place_83 x1 x2 x3 x4 h) :=
  (fle_rfl _)
theorem nBX12_place_83  {x1 : Int32} {x2 : Int32} {x3 : Int32} {x4 : Int32} {h : ea_H} : fct (BX12_place_83 x1 x2 x3 x4 h) (fun f => BX12_place_83 x1 x2 x3 x4 h) :=
  (fct_rfl _)
noncomputable def gX12_place : Nat → (Int32 → Int32 → Int32 → ea_H → Option (Int32 × ea_H)) × (Int32 → Int32 → Int32 → Int32 → ea_H → Option (Int32 × ea_H)) × (Int32 → Int32 → Int32 → Int32 → ea_H → Option (Int32 × ea_H))
  | 0 => (fun _ _ _ _ => none, fun _ _ _ _ _ => none, fun _ _ _ _ _ => none)
  | f + 1 => (BX12_place_0 (gX12_place f).2.1, BX12_place_51 (gX12_place f).2.1 (gX12_place f).2.2, BX12_place_83)
theorem mgX12_place : ∀ f : Nat, (∀ (x1 : Int32) (x2 : Int32) (x3 : Int32) (h : ea_H), fle ((gX12_place f).1 x1 x2 x3 h) ((gX12_place (f + 1)).1 x1 x2 x3 h)) ∧ (∀ (x1 : Int32) (x2 : Int32) (x3 : Int32) (x4 : Int32) (h : ea_H), fle ((gX12_place f).2.1 x1 x2 x3 x4 h) ((gX12_place (f + 1)).2.1 x1 x2 x3 x4 h)) ∧ (∀ (x1 : Int32) (x2 : Int32) (x3 : Int32) (x4 : Int32) (h : ea_H), fle ((gX12_place f).2.2 x1 x2 x3 x4 h) ((gX12_place (f + 1)).2.2 x1 x2 x3 x4 h)) := by
  intro f
  induction f with
  | zero => exact ⟨fun _ _ _ _ => fle_none _, fun _ _ _ _ _ => fle_none _, fun _ _ _ _ _ => fle_none _⟩
  | succ f ih => exact ⟨fun _ _ _ _ => lBX12_place_0 ih.2.1, fun _ _ _ _ _ => lBX12_place_51 ih.2.1 ih.2.2, fun _ _ _ _ _ => lBX12_place_83⟩
noncomputable def qX12_place_0 (x1 : Int32) (x2 : Int32) (x3 : Int32) (h : ea_H) : Option (Int32 × ea_H) := flim fun f => (gX12_place f).1 x1 x2 x3 h
noncomputable def qX12_place_51 (x1 : Int32) (x2 : Int32) (x3 : Int32) (x4 : Int32) (h : ea_H) : Option (Int32 × ea_H) := flim fun f => (gX12_place f).2.1 x1 x2 x3 x4 h
noncomputable def qX12_place_83 (x1 : Int32) (x2 : Int32) (x3 : Int32) (x4 : Int32) (h : ea_H) : Option (Int32 × ea_H) := flim fun f => (gX12_place f).2.2 x1 x2 x3 x4 h
theorem fqX12_place_0 (x1 : Int32) (x2 : Int32) (x3 : Int32) (h : ea_H) : fct (qX12_place_0 x1 x2 x3 h) fun f => (gX12_place f).1 x1 x2 x3 h := flim_ct fun f => (mgX12_place f).1 x1 x2 x3 h
theorem fqX12_place_51 (x1 : Int32) (x2 : Int32) (x3 : Int32) (x4 : Int32) (h : ea_H) : fct (qX12_place_51 x1 x2 x3 x4 h) fun f => (gX12_place f).2.1 x1 x2 x3 x4 h := flim_ct fun f => (mgX12_place f).2.1 x1 x2 x3 x4 h
theorem fqX12_place_83 (x1 : Int32) (x2 : Int32) (x3 : Int32) (x4 : Int32) (h : ea_H) : fct (qX12_place_83 x1 x2 x3 x4 h) fun f => (gX12_place f).2.2 x1 x2 x3 x4 h := flim_ct fun f => (mgX12_place f).2.2 x1 x2 x3 x4 h
/-- how a block opens -/
theorem uqX12_place_0 {x1 : Int32} {x2 : Int32} {x3 : Int32} {h : ea_H} {P : Int32 × ea_H → Prop} (H : sat (BX12_place_0 qX12_place_51 x1 x2 x3 h) P) : sat (qX12_place_0 x1 x2 x3 h) P := by
  obtain ⟨x, e, hp⟩ := H
  obtain ⟨n, hn⟩ := nBX12_place_0 fqX12_place_51 x e
  exact ⟨x, flim_at (fun f => (mgX12_place f).1 x1 x2 x3 h) (f := n + 1) (hn n (Nat.le_refl _)), hp⟩
/-- how a block opens -/
theorem uqX12_place_51 {x1 : Int32} {x2 : Int32} {x3 : Int32} {x4 : Int32} {h : ea_H} {P : Int32 × ea_H → Prop} (H : sat (BX12_place_51 qX12_place_51 qX12_place_83 x1 x2 x3 x4 h) P) : sat (qX12_place_51 x1 x2 x3 x4 h) P := by
  obtain ⟨x, e, hp⟩ := H
  obtain ⟨n, hn⟩ := nBX12_place_51 fqX12_place_51 fqX12_place_83 x e
  exact ⟨x, flim_at (fun f => (mgX12_place f).2.1 x1 x2 x3 x4 h) (f := n + 1) (hn n (Nat.le_refl _)), hp⟩
/-- how a block opens -/
theorem uqX12_place_83 {x1 : Int32} {x2 : Int32} {x3 : Int32} {x4 : Int32} {h : ea_H} {P : Int32 × ea_H → Prop} (H : sat (BX12_place_83 x1 x2 x3 x4 h) P) : sat (qX12_place_83 x1 x2 x3 x4 h) P := by
  obtain ⟨x, e, hp⟩ := H
  obtain ⟨n, hn⟩ := nBX12_place_83 x e
  exact ⟨x, flim_at (fun f => (mgX12_place f).2.2 x1 x2 x3 x4 h) (f := n + 1) (hn n (Nat.le_refl _)), hp⟩
theorem kgX12_place : ∀ f : Nat, (∀ (x1 : Int32) (x2 : Int32) (x3 : Int32) (h : ea_H), kp (ea_core h) ((gX12_place f).1 x1 x2 x3 h)) ∧ (∀ (x1 : Int32) (x2 : Int32) (x3 : Int32) (x4 : Int32) (h : ea_H), kp (ea_core h) ((gX12_place f).2.1 x1 x2 x3 x4 h)) ∧ (∀ (x1 : Int32) (x2 : Int32) (x3 : Int32) (x4 : Int32) (h : ea_H), kp (ea_core h) ((gX12_place f).2.2 x1 x2 x3 x4 h)) := by
  intro f
  induction f with
  | zero => exact ⟨fun _ _ _ _ => kp_none _, fun _ _ _ _ _ => kp_none _, fun _ _ _ _ _ => kp_none _⟩
  | succ f ih => exact ⟨fun _ _ _ _ => kBX12_place_0 ih.2.1, fun _ _ _ _ _ => kBX12_place_51 ih.2.1 ih.2.2, fun _ _ _ _ _ => kBX12_place_83⟩
theorem tgX12_place {d : Nat} {h0 : ea_H} (hd : 3 ≤ d) : ∀ f : Nat, (∀ (x1 : Int32) (x2 : Int32) (x3 : Int32) (h : ea_H) (r : Int32) (h' : ea_H), (gX12_place f).1 x1 x2 x3 h = some (r, h') → ShM h → ea_W mX12_place d h0 (some (vI r)) h' 0 [(0, vR (some 326)), (1, vI x1), (2, vI x2), (3, vI x3)] [] h) ∧ (∀ (x1 : Int32) (x2 : Int32) (x3 : Int32) (x4 : Int32) (h : ea_H) (r : Int32) (h' : ea_H), (gX12_place f).2.1 x1 x2 x3 x4 h = some (r, h') → ShM h → ea_W mX12_place d h0 (some (vI r)) h' 51 [(0, vR (some 326)), (1, vI x1), (2, vI x2), (3, vI x3), (4, vI x4)] [] h) ∧ (∀ (x1 : Int32) (x2 : Int32) (x3 : Int32) (x4 : Int32) (h : ea_H) (r : Int32) (h' : ea_H), (gX12_place f).2.2 x1 x2 x3 x4 h = some (r, h') → ShM h → ea_W mX12_place d h0 (some (vI r)) h' 83 [(0, vR (some 326)), (1, vI x1), (2, vI x2), (3, vI x3), (4, vI x4)] [] h) := by
  intro f
  induction f with
  | zero => exact ⟨fun _ _ _ _ _ _ E => no_some E, fun _ _ _ _ _ _ _ E => no_some E, fun _ _ _ _ _ _ _ E => no_some E⟩
  | succ f ih => exact ⟨fun _ _ _ _ _ _ E hs => tBX12_place_0 hd ih.2.1 E hs, fun _ _ _ _ _ _ _ E hs => tBX12_place_51 hd ih.2.1 ih.2.2 E hs, fun _ _ _ _ _ _ _ E hs => tBX12_place_83 hd E hs⟩
noncomputable def qX12_place (x1 : Int32) (x2 : Int32) (x3 : Int32) (h : ea_H) : Option (Int32 × ea_H) := qX12_place_0 x1 x2 x3 h
theorem sX12_place {d : Nat} {x1 : Int32} {x2 : Int32} {x3 : Int32} {h : ea_H} {r : Int32} {h' : ea_H} (hd : 3 ≤ d) (hs : ShM h) (K : qX12_place x1 x2 x3 h = some (r, h')) : ea_Met mX12_place d [vR (some 326), vI x1, vI x2, vI x3] h (some (vI r)) h' := by
  unfold qX12_place at K
  obtain ⟨n, hn⟩ := fqX12_place_0 x1 x2 x3 h _ K
  have W := (tgX12_place (d := d) (h0 := h) hd n).1 x1 x2 x3 h _ _ (hn n (Nat.le_refl _)) hs
  exact ea_enter rfl (Nat.le_of_ble_eq_true rfl) W
theorem kpX12_place (x1 : Int32) (x2 : Int32) (x3 : Int32) (h : ea_H) : kp (ea_core h) (qX12_place x1 x2 x3 h) := fun x e => by
  obtain ⟨n, hn⟩ := fqX12_place_0 x1 x2 x3 h x e
  exact (kgX12_place n).1 x1 x2 x3 h x (hn n (Nat.le_refl _))
