/-! the class, 3 -/
noncomputable def BX11_trueMinute_0 (x1 : Int32) (x2 : Int32) (x3 : Int32) (h : ea_H) : Option (Int32 × ea_H) :=
  (Option.bind (qX9_has (x1 : Int32) h) fun w1 => (if w1.1 = (0 : Int32) then (some (((-1) : Int32), w1.2)) else (if x2 < (0 : Int32) then (some (((-1) : Int32), w1.2)) else (if x2 ≤ (10079 : Int32) then (if Int32.toInt x3 = 0 then (gd (vp_in x1 10) (gd ((ea_r w1.2 72 (Int32.toNatClampNeg x1)) = some (Option.getD (ea_r w1.2 72 (Int32.toNatClampNeg x1)) 0)) (gd (((Option.getD (ea_r w1.2 72 (Int32.toNatClampNeg x1)) 0) < ea_n w1.2 ∧ ea_c w1.2 (Option.getD (ea_r w1.2 72 (Int32.toNatClampNeg x1)) 0) = 2)) (Option.bind (qX2_least (Option.getD (ea_r w1.2 72 (Int32.toNatClampNeg x1)) 0) (x2 : Int32) w1.2) fun w7 => (some (w7.1, w7.2)))))) else (if Int32.toInt x3 = 1 then (gd (vp_in x1 10) (gd ((ea_r w1.2 72 (Int32.toNatClampNeg x1)) = some (Option.getD (ea_r w1.2 72 (Int32.toNatClampNeg x1)) 0)) (gd (((Option.getD (ea_r w1.2 72 (Int32.toNatClampNeg x1)) 0) < ea_n w1.2 ∧ ea_c w1.2 (Option.getD (ea_r w1.2 72 (Int32.toNatClampNeg x1)) 0) = 2)) (Option.bind (qX2_greatest (Option.getD (ea_r w1.2 72 (Int32.toNatClampNeg x1)) 0) (x2 : Int32) w1.2) fun w3 => (some (w3.1, w3.2)))))) else (some (((-1) : Int32), w1.2)))) else (some (((-1) : Int32), w1.2))))))
theorem tBX11_trueMinute_0 {d : Nat} {h0 : ea_H} (hd : 4 ≤ d)  {x1 : Int32} {x2 : Int32} {x3 : Int32} {h : ea_H} {r : Int32} {h' : ea_H} (E : BX11_trueMinute_0 x1 x2 x3 h = some (r, h')) (hs : ShC h) : ea_W mX11_trueMinute d h0 (some (vI r)) h' 0 [(0, vR (some 0)), (1, vI x1), (2, vI x2), (3, vI x3)] [] h := by
  unfold BX11_trueMinute_0 at E
  obtain ⟨w1, Ew1, E⟩ := bd_some E
  have hsw1 : ShC w1.2 := ShC_core ((kpX9_has _ _) _ Ew1) hs
  refine ea_aload_n (pc := 0) dX11_trueMinute_0 rfl 0 rfl ?_
  refine ea_getR (pc := 1) dX11_trueMinute_1 ec_11 (k := 1) (Nat.le_of_ble_eq_true rfl) rfl (Or.inl ew_615) (cShC_0 hs).1 (cShC_0 hs).2.1 (rShC_0_1 hs) ?_
  refine ea_iload_n (pc := 4) dX11_trueMinute_4 rfl 1 rfl ?_
  refine ea_callV (pc := 5) (d' := d - 1) (As := [vI x1]) (st := []) dX11_trueMinute_5 kX9_has (sX9_has (d := d - 1) (by omega) hs Ew1) (by omega) rfl (Nat.le_of_ble_eq_true rfl) ew_704 ew_705 ew_706 (ci := 9) rfl (by decide) (cShC_5 hs).1 (cShC_5 hs).2.1 ?_
  refine ea_if_eq (pc := 8) (tgt := 22) dX11_trueMinute_8 rfl (fun c12 => ?_) (fun c12 => ?_)
  · have E := (if_pos c12).symm.trans E
    refine ea_iconst (pc := 22) dX11_trueMinute_22 (v := (-1)) rfl ?_
    exact ea_iretO (pc := 23) dX11_trueMinute_23 rfl rfl E
  · have E := (if_neg c12).symm.trans E
    refine ea_iload_n (pc := 11) dX11_trueMinute_11 rfl 2 rfl ?_
    refine ea_if_lt (pc := 12) (tgt := 22) dX11_trueMinute_12 rfl (fun c11 => ?_) (fun c11 => ?_)
    · have E := (if_pos c11).symm.trans E
      refine ea_iconst (pc := 22) dX11_trueMinute_22 (v := (-1)) rfl ?_
      exact ea_iretO (pc := 23) dX11_trueMinute_23 rfl rfl E
    · have E := (if_neg c11).symm.trans E
      refine ea_iload_n (pc := 15) dX11_trueMinute_15 rfl 2 rfl ?_
      refine ea_sipush (pc := 16) dX11_trueMinute_16 (v := 10079) rfl ?_
      refine ea_icmp_le (pc := 19) (tgt := 24) dX11_trueMinute_19 rfl (fun c10 => ?_) (fun c10 => ?_)
      · have E := (if_pos c10).symm.trans E
        refine ea_iload_n (pc := 24) dX11_trueMinute_24 rfl 3 rfl ?_
        by_cases q25_0 : Int32.toInt x3 = 0
        · have E := (if_pos q25_0).symm.trans E
          obtain ⟨z6, E⟩ := gd_some E
          refine ea_lsw (pc := 25) (tgt := 52) (off := 27) dX11_trueMinute_25 (by decide) (by rw [q25_0]; rfl) rfl ?_
          refine ea_aload_n (pc := 52) dX11_trueMinute_52 rfl 0 rfl ?_
          refine ea_getR (pc := 53) dX11_trueMinute_53 ec_11 (k := 9) (Nat.le_of_ble_eq_true rfl) rfl (Or.inl ew_623) (cShC_0 hsw1).1 (cShC_0 hsw1).2.1 (rShC_0_9 hsw1) ?_
          refine ea_iload_n (pc := 56) dX11_trueMinute_56 rfl 1 rfl ?_
          obtain ⟨e8, E⟩ := gd_some E
          refine ea_aald24 (pc := 57) dX11_trueMinute_57 (cShC_72 hsw1).1 (cShC_72 hsw1).2.1 (ea_vpl (cShC_72 hsw1).2.2 z6) rfl ?_
          refine ea_iload_n (pc := 58) dX11_trueMinute_58 rfl 2 rfl ?_
          obtain ⟨f9, E⟩ := gd_some E
          obtain ⟨w7, Ew7, E⟩ := bd_some E
          have hsw7 : ShC w7.2 := ShC_core ((kpX2_least _ _ _) _ Ew7) hsw1
          refine ea_deref1 e8 ?_
          refine ea_callV (pc := 59) (d' := d - 1) (As := [vI x2]) (st := []) dX11_trueMinute_59 kX2_least (sX2_least (d := d - 1) (by omega) Ew7) (by omega) rfl (Nat.le_of_ble_eq_true rfl) ew_1352 ew_1353 ew_1354 (ci := 2) rfl (by decide) f9.1 f9.2 ?_
          exact ea_iretO (pc := 62) dX11_trueMinute_62 rfl rfl E
        have E := (if_neg q25_0).symm.trans E
        by_cases q25_1 : Int32.toInt x3 = 1
        · have E := (if_pos q25_1).symm.trans E
          obtain ⟨z2, E⟩ := gd_some E
          refine ea_lsw (pc := 25) (tgt := 63) (off := 38) dX11_trueMinute_25 (by decide) (by rw [q25_1]; rfl) rfl ?_
          refine ea_aload_n (pc := 63) dX11_trueMinute_63 rfl 0 rfl ?_
          refine ea_getR (pc := 64) dX11_trueMinute_64 ec_11 (k := 9) (Nat.le_of_ble_eq_true rfl) rfl (Or.inl ew_623) (cShC_0 hsw1).1 (cShC_0 hsw1).2.1 (rShC_0_9 hsw1) ?_
          refine ea_iload_n (pc := 67) dX11_trueMinute_67 rfl 1 rfl ?_
          obtain ⟨e4, E⟩ := gd_some E
          refine ea_aald24 (pc := 68) dX11_trueMinute_68 (cShC_72 hsw1).1 (cShC_72 hsw1).2.1 (ea_vpl (cShC_72 hsw1).2.2 z2) rfl ?_
          refine ea_iload_n (pc := 69) dX11_trueMinute_69 rfl 2 rfl ?_
          obtain ⟨f5, E⟩ := gd_some E
          obtain ⟨w3, Ew3, E⟩ := bd_some E
          have hsw3 : ShC w3.2 := ShC_core ((kpX2_greatest _ _ _) _ Ew3) hsw1
          refine ea_deref1 e4 ?_
          refine ea_callV (pc := 70) (d' := d - 1) (As := [vI x2]) (st := []) dX11_trueMinute_70 kX2_greatest (sX2_greatest (d := d - 1) (by omega) Ew3) (by omega) rfl (Nat.le_of_ble_eq_true rfl) ew_1360 ew_1361 ew_1362 (ci := 2) rfl (by decide) f5.1 f5.2 ?_
          exact ea_iretO (pc := 73) dX11_trueMinute_73 rfl rfl E
        have E := (if_neg q25_1).symm.trans E
        refine ea_lsw (pc := 25) (tgt := 74) (off := 49) dX11_trueMinute_25 (by decide) (by show (if (0 : Int) = Int32.toInt x3 then (27 : Int) else if (1 : Int) = Int32.toInt x3 then (38 : Int) else (49 : Int)) = 49; rw [if_neg (fun h => q25_0 h.symm), if_neg (fun h => q25_1 h.symm)]) rfl ?_
        refine ea_iconst (pc := 74) dX11_trueMinute_74 (v := (-1)) rfl ?_
        exact ea_iretO (pc := 75) dX11_trueMinute_75 rfl rfl E
      · have E := (if_neg c10).symm.trans E
        refine ea_iconst (pc := 22) dX11_trueMinute_22 (v := (-1)) rfl ?_
        exact ea_iretO (pc := 23) dX11_trueMinute_23 rfl rfl E
theorem kBX11_trueMinute_0  {x1 : Int32} {x2 : Int32} {x3 : Int32} {h : ea_H} : kp (ea_core h) (BX11_trueMinute_0 x1 x2 x3 h) :=
  (kp_bind (kp_tw (kpX9_has _ _) rfl) fun w1 hcw1 => (kp_ite (kp_ret hcw1) (kp_ite (kp_ret hcw1) (kp_ite (kp_ite (kp_gd (kp_gd (kp_gd (kp_bind (kp_tw (kpX2_least _ _ _) hcw1) fun w7 hcw7 => (kp_ret hcw7))))) (kp_ite (kp_gd (kp_gd (kp_gd (kp_bind (kp_tw (kpX2_greatest _ _ _) hcw1) fun w3 hcw3 => (kp_ret hcw3))))) (kp_ret hcw1))) (kp_ret hcw1)))))
noncomputable def qX11_trueMinute (x1 : Int32) (x2 : Int32) (x3 : Int32) (h : ea_H) : Option (Int32 × ea_H) := BX11_trueMinute_0 x1 x2 x3 h
theorem sX11_trueMinute {d : Nat} {x1 : Int32} {x2 : Int32} {x3 : Int32} {h : ea_H} {r : Int32} {h' : ea_H} (hd : 4 ≤ d) (hs : ShC h) (K : qX11_trueMinute x1 x2 x3 h = some (r, h')) : ea_Met mX11_trueMinute d [vR (some 0), vI x1, vI x2, vI x3] h (some (vI r)) h' := by
  unfold qX11_trueMinute at K
  have W := tBX11_trueMinute_0 hd (h0 := h) K hs
  exact ea_enter rfl (Nat.le_of_ble_eq_true rfl) W
theorem kpX11_trueMinute (x1 : Int32) (x2 : Int32) (x3 : Int32) (h : ea_H) : kp (ea_core h) (qX11_trueMinute x1 x2 x3 h) := kBX11_trueMinute_0
noncomputable def BX11_mayBeTold_0 (x1 : Int32) (x2 : Int32) (x3 : Int32) (h : ea_H) : Option (Int32 × ea_H) :=
  (Option.bind (qX9_hasRun (x1 : Int32) (x2 : Int32) h) fun w1 => (if w1.1 = (0 : Int32) then (some ((0 : Int32), w1.2)) else (if x3 < (0 : Int32) then (some ((0 : Int32), w1.2)) else (if (300 : Int32) < x3 then (some ((0 : Int32), w1.2)) else (gd (vp_in x1 10) (if (ea_i w1.2 6 (Int32.toNatClampNeg x1)) ≤ (0 : Int32) then (some ((0 : Int32), w1.2)) else (gd (vp_in ((8 : Int32) * x1) 80) (if (((1440 : Int32) * x2) + (ea_i w1.2 9 (Int32.toNatClampNeg ((8 : Int32) * x1)))) ≤ (ea_i w1.2 0 14) then (some ((0 : Int32), w1.2)) else (some ((1 : Int32), w1.2))))))))))
theorem tBX11_mayBeTold_0 {d : Nat} {h0 : ea_H} (hd : 3 ≤ d)  {x1 : Int32} {x2 : Int32} {x3 : Int32} {h : ea_H} {r : Int32} {h' : ea_H} (E : BX11_mayBeTold_0 x1 x2 x3 h = some (r, h')) (hs : ShC h) : ea_W mX11_mayBeTold d h0 (some (vI r)) h' 0 [(0, vR (some 0)), (1, vI x1), (2, vI x2), (3, vI x3)] [] h := by
  unfold BX11_mayBeTold_0 at E
  obtain ⟨w1, Ew1, E⟩ := bd_some E
  have hsw1 : ShC w1.2 := ShC_core ((kpX9_hasRun _ _ _) _ Ew1) hs
  refine ea_aload_n (pc := 0) dX11_mayBeTold_0 rfl 0 rfl ?_
  refine ea_getR (pc := 1) dX11_mayBeTold_1 ec_11 (k := 1) (Nat.le_of_ble_eq_true rfl) rfl (Or.inl ew_615) (cShC_0 hs).1 (cShC_0 hs).2.1 (rShC_0_1 hs) ?_
  refine ea_iload_n (pc := 4) dX11_mayBeTold_4 rfl 1 rfl ?_
  refine ea_iload_n (pc := 5) dX11_mayBeTold_5 rfl 2 rfl ?_
  refine ea_callV (pc := 6) (d' := d - 1) (As := [vI x1, vI x2]) (st := []) dX11_mayBeTold_6 kX9_hasRun (sX9_hasRun (d := d - 1) (by omega) hs Ew1) (by omega) rfl (Nat.le_of_ble_eq_true rfl) ew_728 ew_729 ew_730 (ci := 9) rfl (by decide) (cShC_5 hs).1 (cShC_5 hs).2.1 ?_
  refine ea_if_eq (pc := 9) (tgt := 64) dX11_mayBeTold_9 rfl (fun c8 => ?_) (fun c8 => ?_)
  · have E := (if_pos c8).symm.trans E
    refine ea_iconst (pc := 64) dX11_mayBeTold_64 (v := 0) rfl ?_
    exact ea_iretO (pc := 65) dX11_mayBeTold_65 rfl (ea_bn (Or.inl rfl)) E
  · have E := (if_neg c8).symm.trans E
    refine ea_iload_n (pc := 12) dX11_mayBeTold_12 rfl 3 rfl ?_
    refine ea_if_lt (pc := 13) (tgt := 64) dX11_mayBeTold_13 rfl (fun c7 => ?_) (fun c7 => ?_)
    · have E := (if_pos c7).symm.trans E
      refine ea_iconst (pc := 64) dX11_mayBeTold_64 (v := 0) rfl ?_
      exact ea_iretO (pc := 65) dX11_mayBeTold_65 rfl (ea_bn (Or.inl rfl)) E
    · have E := (if_neg c7).symm.trans E
      refine ea_iload_n (pc := 16) dX11_mayBeTold_16 rfl 3 rfl ?_
      refine ea_sipush (pc := 17) dX11_mayBeTold_17 (v := 300) rfl ?_
      refine ea_icmp_gt (pc := 20) (tgt := 64) dX11_mayBeTold_20 rfl (fun c6 => ?_) (fun c6 => ?_)
      · have E := (if_pos c6).symm.trans E
        refine ea_iconst (pc := 64) dX11_mayBeTold_64 (v := 0) rfl ?_
        exact ea_iretO (pc := 65) dX11_mayBeTold_65 rfl (ea_bn (Or.inl rfl)) E
      · have E := (if_neg c6).symm.trans E
        obtain ⟨z2, E⟩ := gd_some E
        refine ea_aload_n (pc := 23) dX11_mayBeTold_23 rfl 0 rfl ?_
        refine ea_getR (pc := 24) dX11_mayBeTold_24 ec_11 (k := 1) (Nat.le_of_ble_eq_true rfl) rfl (Or.inl ew_615) (cShC_0 hsw1).1 (cShC_0 hsw1).2.1 (rShC_0_1 hsw1) ?_
        refine ea_getR (pc := 27) dX11_mayBeTold_27 ec_9 (k := 1) (Nat.le_of_ble_eq_true rfl) rfl (Or.inl ew_188) (cShC_5 hsw1).1 (cShC_5 hsw1).2.1 (rShC_5_1 hsw1) ?_
        refine ea_iload_n (pc := 30) dX11_mayBeTold_30 rfl 1 rfl ?_
        refine ea_iald (pc := 31) dX11_mayBeTold_31 (cShC_6 hsw1).1 (cShC_6 hsw1).2.1 (ea_vpl (cShC_6 hsw1).2.2 z2) ?_
        refine ea_if_le (pc := 32) (tgt := 64) dX11_mayBeTold_32 rfl (fun c5 => ?_) (fun c5 => ?_)
        · have E := (if_pos c5).symm.trans E
          refine ea_iconst (pc := 64) dX11_mayBeTold_64 (v := 0) rfl ?_
          exact ea_iretO (pc := 65) dX11_mayBeTold_65 rfl (ea_bn (Or.inl rfl)) E
        · have E := (if_neg c5).symm.trans E
          obtain ⟨z3, E⟩ := gd_some E
          refine ea_sipush (pc := 35) dX11_mayBeTold_35 (v := 1440) rfl ?_
          refine ea_iload_n (pc := 38) dX11_mayBeTold_38 rfl 2 rfl ?_
          refine ea_imul (pc := 39) dX11_mayBeTold_39 ?_
          refine ea_aload_n (pc := 40) dX11_mayBeTold_40 rfl 0 rfl ?_
          refine ea_getR (pc := 41) dX11_mayBeTold_41 ec_11 (k := 1) (Nat.le_of_ble_eq_true rfl) rfl (Or.inl ew_615) (cShC_0 hsw1).1 (cShC_0 hsw1).2.1 (rShC_0_1 hsw1) ?_
          refine ea_getR (pc := 44) dX11_mayBeTold_44 ec_9 (k := 4) (Nat.le_of_ble_eq_true rfl) rfl (Or.inl ew_200) (cShC_5 hsw1).1 (cShC_5 hsw1).2.1 (rShC_5_4 hsw1) ?_
          refine ea_bipush (pc := 47) dX11_mayBeTold_47 (v := 8) rfl ?_
          refine ea_iload_n (pc := 49) dX11_mayBeTold_49 rfl 1 rfl ?_
          refine ea_imul (pc := 50) dX11_mayBeTold_50 ?_
          refine ea_iald (pc := 51) dX11_mayBeTold_51 (cShC_9 hsw1).1 (cShC_9 hsw1).2.1 (ea_vpl (cShC_9 hsw1).2.2 z3) ?_
          refine ea_iadd (pc := 52) dX11_mayBeTold_52 ?_
          refine ea_aload_n (pc := 53) dX11_mayBeTold_53 rfl 0 rfl ?_
          refine ea_getI (pc := 54) dX11_mayBeTold_54 ec_11 (k := 14) (Nat.le_of_ble_eq_true rfl) rfl (Or.inl ew_628) (cShC_0 hsw1).1 (cShC_0 hsw1).2.1 ?_
          refine ea_icmp_le (pc := 57) (tgt := 64) dX11_mayBeTold_57 rfl (fun c4 => ?_) (fun c4 => ?_)
          · have E := (if_pos c4).symm.trans E
            refine ea_iconst (pc := 64) dX11_mayBeTold_64 (v := 0) rfl ?_
            exact ea_iretO (pc := 65) dX11_mayBeTold_65 rfl (ea_bn (Or.inl rfl)) E
          · have E := (if_neg c4).symm.trans E
            refine ea_iconst (pc := 60) dX11_mayBeTold_60 (v := 1) rfl ?_
            refine ea_goto (pc := 61) (tgt := 65) dX11_mayBeTold_61 rfl ?_
            exact ea_iretO (pc := 65) dX11_mayBeTold_65 rfl (ea_bn (Or.inr rfl)) E
theorem kBX11_mayBeTold_0  {x1 : Int32} {x2 : Int32} {x3 : Int32} {h : ea_H} : kp (ea_core h) (BX11_mayBeTold_0 x1 x2 x3 h) :=
  (kp_bind (kp_tw (kpX9_hasRun _ _ _) rfl) fun w1 hcw1 => (kp_ite (kp_ret hcw1) (kp_ite (kp_ret hcw1) (kp_ite (kp_ret hcw1) (kp_gd (kp_ite (kp_ret hcw1) (kp_gd (kp_ite (kp_ret hcw1) (kp_ret hcw1)))))))))
noncomputable def qX11_mayBeTold (x1 : Int32) (x2 : Int32) (x3 : Int32) (h : ea_H) : Option (Int32 × ea_H) := BX11_mayBeTold_0 x1 x2 x3 h
theorem sX11_mayBeTold {d : Nat} {x1 : Int32} {x2 : Int32} {x3 : Int32} {h : ea_H} {r : Int32} {h' : ea_H} (hd : 3 ≤ d) (hs : ShC h) (K : qX11_mayBeTold x1 x2 x3 h = some (r, h')) : ea_Met mX11_mayBeTold d [vR (some 0), vI x1, vI x2, vI x3] h (some (vI r)) h' := by
  unfold qX11_mayBeTold at K
  have W := tBX11_mayBeTold_0 hd (h0 := h) K hs
  exact ea_enter rfl (Nat.le_of_ble_eq_true rfl) W
theorem kpX11_mayBeTold (x1 : Int32) (x2 : Int32) (x3 : Int32) (h : ea_H) : kp (ea_core h) (qX11_mayBeTold x1 x2 x3 h) := kBX11_mayBeTold_0
noncomputable def BX11_franksAhead_0 (J4 : Option Nat → Int32 → Int32 → ea_H → Option (Int32 × ea_H)) (r1 : Option Nat) (h : ea_H) : Option (Int32 × ea_H) :=
  (J4 (r1 : Option Nat) (0 : Int32) (0 : Int32) h)
theorem tBX11_franksAhead_0 {d : Nat} {h0 : ea_H} (hd : 2 ≤ d) {J4 : Option Nat → Int32 → Int32 → ea_H → Option (Int32 × ea_H)}  (kJ4 : ∀ (r1 : Option Nat) (x2 : Int32) (x3 : Int32) (h : ea_H) (r : Int32) (h' : ea_H), J4 r1 x2 x3 h = some (r, h') → ShC h → ea_W mX11_franksAhead d h0 (some (vI r)) h' 4 [(0, vR (some 0)), (1, vR r1), (2, vI x2), (3, vI x3)] [] h) {r1 : Option Nat} {h : ea_H} {r : Int32} {h' : ea_H} (E : BX11_franksAhead_0 J4 r1 h = some (r, h')) (hs : ShC h) : ea_W mX11_franksAhead d h0 (some (vI r)) h' 0 [(0, vR (some 0)), (1, vR r1)] [] h := by
  unfold BX11_franksAhead_0 at E
  refine ea_iconst (pc := 0) dX11_franksAhead_0 (v := 0) rfl ?_
  refine ea_istore_n (pc := 1) (lv' := [(0, vR (some 0)), (1, vR r1), (2, vI 0)]) dX11_franksAhead_1 rfl (Nat.le_of_ble_eq_true rfl) [1, 2, 0] rfl ?_
  refine ea_iconst (pc := 2) dX11_franksAhead_2 (v := 0) rfl ?_
  refine ea_istore_n (pc := 3) (lv' := [(0, vR (some 0)), (1, vR r1), (2, vI 0), (3, vI 0)]) dX11_franksAhead_3 rfl (Nat.le_of_ble_eq_true rfl) [1, 2, 3, 0] rfl ?_
  exact (kJ4 (r1 : Option Nat) (0 : Int32) (0 : Int32) h _ _ E hs)
theorem kBX11_franksAhead_0 {J4 : Option Nat → Int32 → Int32 → ea_H → Option (Int32 × ea_H)}  (cJ4 : ∀ (r1 : Option Nat) (x2 : Int32) (x3 : Int32) (h : ea_H), kp (ea_core h) (J4 r1 x2 x3 h)) {r1 : Option Nat} {h : ea_H} : kp (ea_core h) (BX11_franksAhead_0 J4 r1 h) :=
  (kp_tw (cJ4 _ _ _ _) rfl)
theorem lBX11_franksAhead_0 {J4 : Option Nat → Int32 → Int32 → ea_H → Option (Int32 × ea_H)} {J4_ : Option Nat → Int32 → Int32 → ea_H → Option (Int32 × ea_H)}  (mJ4 : ∀ (r1 : Option Nat) (x2 : Int32) (x3 : Int32) (h : ea_H), fle (J4 r1 x2 x3 h) (J4_ r1 x2 x3 h)) {r1 : Option Nat} {h : ea_H} : fle (BX11_franksAhead_0 J4 r1 h) (BX11_franksAhead_0 J4_ r1 h) :=
  (mJ4 _ _ _ _)
theorem nBX11_franksAhead_0 {J4 : Option Nat → Int32 → Int32 → ea_H → Option (Int32 × ea_H)} {J4_ : Nat → (Option Nat → Int32 → Int32 → ea_H → Option (Int32 × ea_H))}  (mJ4 : ∀ (r1 : Option Nat) (x2 : Int32) (x3 : Int32) (h : ea_H), fct (J4 r1 x2 x3 h) (fun f => J4_ f r1 x2 x3 h)) {r1 : Option Nat} {h : ea_H} : fct (BX11_franksAhead_0 J4 r1 h) (fun f => BX11_franksAhead_0 (J4_ f) r1 h) :=
  (mJ4 _ _ _ _)
noncomputable def BX11_franksAhead_4 (J4 : Option Nat → Int32 → Int32 → ea_H → Option (Int32 × ea_H)) (r1 : Option Nat) (x2 : Int32) (x3 : Int32) (h : ea_H) : Option (Int32 × ea_H) :=
  (if (ea_i h 52 0) ≤ x3 then (some (x2, h)) else (gd (vp_in x3 120) (ea_let (ea_r h 49 (Int32.toNatClampNeg x3)) fun (v2 : Option Nat) => (gd (v2 = some (Option.getD v2 0)) (gd (((Option.getD v2 0) < ea_n h ∧ ea_c h (Option.getD v2 0) = 5)) (if (ea_i h (Option.getD v2 0) 0) = (2 : Int32) then (gd (v2 = some (Option.getD v2 0)) (gd (((Option.getD v2 0) < ea_n h ∧ ea_c h (Option.getD v2 0) = 5)) (gd (r1 = some (Option.getD r1 0)) (gd (((Option.getD r1 0) < ea_n h ∧ ea_c h (Option.getD r1 0) = 5)) (if (ea_i h (Option.getD v2 0) 5) = (ea_i h (Option.getD r1 0) 5) then (gd (v2 = some (Option.getD v2 0)) (gd (((Option.getD v2 0) < ea_n h ∧ ea_c h (Option.getD v2 0) = 5)) (Option.bind (qX5_dayOf (Option.getD v2 0) h) fun w9 => (gd (r1 = some (Option.getD r1 0)) (gd (((Option.getD r1 0) < ea_n w9.2 ∧ ea_c w9.2 (Option.getD r1 0) = 5)) (Option.bind (qX5_dayOf (Option.getD r1 0) w9.2) fun w12 => (if w9.1 = w12.1 then (J4 (r1 : Option Nat) ((x2 + (1 : Int32)) : Int32) ((x3 + (1 : Int32)) : Int32) w12.2) else (J4 (r1 : Option Nat) (x2 : Int32) ((x3 + (1 : Int32)) : Int32) w12.2)))))))) else (J4 (r1 : Option Nat) (x2 : Int32) ((x3 + (1 : Int32)) : Int32) h)))))) else (J4 (r1 : Option Nat) (x2 : Int32) ((x3 + (1 : Int32)) : Int32) h)))))))
theorem tBX11_franksAhead_4 {d : Nat} {h0 : ea_H} (hd : 2 ≤ d) {J4 : Option Nat → Int32 → Int32 → ea_H → Option (Int32 × ea_H)}  (kJ4 : ∀ (r1 : Option Nat) (x2 : Int32) (x3 : Int32) (h : ea_H) (r : Int32) (h' : ea_H), J4 r1 x2 x3 h = some (r, h') → ShC h → ea_W mX11_franksAhead d h0 (some (vI r)) h' 4 [(0, vR (some 0)), (1, vR r1), (2, vI x2), (3, vI x3)] [] h) {r1 : Option Nat} {x2 : Int32} {x3 : Int32} {h : ea_H} {r : Int32} {h' : ea_H} (E : BX11_franksAhead_4 J4 r1 x2 x3 h = some (r, h')) (hs : ShC h) : ea_W mX11_franksAhead d h0 (some (vI r)) h' 4 [(0, vR (some 0)), (1, vR r1), (2, vI x2), (3, vI x3)] [] h := by
  unfold BX11_franksAhead_4 at E
  refine ea_iload_n (pc := 4) dX11_franksAhead_4 rfl 3 rfl ?_
  refine ea_aload_n (pc := 5) dX11_franksAhead_5 rfl 0 rfl ?_
  refine ea_getR (pc := 6) dX11_franksAhead_6 ec_11 (k := 7) (Nat.le_of_ble_eq_true rfl) rfl (Or.inl ew_621) (cShC_0 hs).1 (cShC_0 hs).2.1 (rShC_0_7 hs) ?_
  refine ea_getI (pc := 9) dX11_franksAhead_9 ec_1 (k := 0) (Nat.le_of_ble_eq_true rfl) rfl (Or.inl ew_442) (cShC_52 hs).1 (cShC_52 hs).2.1 ?_
  refine ea_icmp_ge (pc := 12) (tgt := 65) dX11_franksAhead_12 rfl (fun c18 => ?_) (fun c18 => ?_)
  · have E := (if_pos c18).symm.trans E
    refine ea_iload_n (pc := 65) dX11_franksAhead_65 rfl 2 rfl ?_
    exact ea_iretO (pc := 66) dX11_franksAhead_66 rfl rfl E
  · have E := (if_neg c18).symm.trans E
    obtain ⟨z1, E⟩ := gd_some E
    refine ea_aload_n (pc := 15) dX11_franksAhead_15 rfl 0 rfl ?_
    refine ea_getR (pc := 16) dX11_franksAhead_16 ec_11 (k := 5) (Nat.le_of_ble_eq_true rfl) rfl (Or.inl ew_619) (cShC_0 hs).1 (cShC_0 hs).2.1 (rShC_0_5 hs) ?_
    refine ea_iload_n (pc := 19) dX11_franksAhead_19 rfl 3 rfl ?_
    obtain ⟨v2, ev2, E⟩ := let_some E
    refine ea_aald23 (pc := 20) dX11_franksAhead_20 (cShC_49 hs).1 (cShC_49 hs).2.1 (ea_vpl (cShC_49 hs).2.2 z1) rfl ?_
    obtain ⟨e3, E⟩ := gd_some E
    refine ea_astore (pc := 21) (lv' := [(0, vR (some 0)), (1, vR r1), (2, vI x2), (3, vI x3), (4, vR v2)]) dX11_franksAhead_21 (Nat.le_of_ble_eq_true rfl) [1, 2, 3, 4, 0] (by rw [ev2]; rfl) ?_
    refine ea_aload (pc := 23) dX11_franksAhead_23 4 rfl ?_
    obtain ⟨f4, E⟩ := gd_some E
    refine ea_deref0 e3 ?_
    refine ea_getI (pc := 25) dX11_franksAhead_25 ec_5 (k := 0) (Nat.le_of_ble_eq_true rfl) rfl (Or.inl ew_506) f4.1 f4.2 ?_
    refine ea_iconst (pc := 28) dX11_franksAhead_28 (v := 2) rfl ?_
    refine ea_icmp_ne (pc := 29) (tgt := 59) dX11_franksAhead_29 rfl (fun c17 => ?_) (fun c17 => ?_)
    · have E := (if_neg c17).symm.trans E
      refine ea_iinc (pc := 59) (v := 1) (lv' := [(0, vR (some 0)), (1, vR r1), (2, vI x2), (3, vI (x3 + (1 : Int32)))]) dX11_franksAhead_59 3 rfl rfl (Nat.le_of_ble_eq_true rfl) [1, 2, 3, 0] rfl ?_
      refine ea_goto (pc := 62) (tgt := 4) dX11_franksAhead_62 rfl ?_
      exact (kJ4 (r1 : Option Nat) (x2 : Int32) ((x3 + (1 : Int32)) : Int32) h _ _ E hs)
    · have E := (if_pos c17).symm.trans E
      obtain ⟨e5, E⟩ := gd_some E
      refine ea_aload (pc := 32) dX11_franksAhead_32 4 rfl ?_
      obtain ⟨f6, E⟩ := gd_some E
      obtain ⟨e7, E⟩ := gd_some E
      refine ea_deref0 e5 ?_
      refine ea_getI (pc := 34) dX11_franksAhead_34 ec_5 (k := 5) (Nat.le_of_ble_eq_true rfl) rfl (Or.inl ew_520) f6.1 f6.2 ?_
      refine ea_aload_n (pc := 37) dX11_franksAhead_37 rfl 1 rfl ?_
      obtain ⟨f8, E⟩ := gd_some E
      refine ea_deref0 e7 ?_
      refine ea_getI (pc := 38) dX11_franksAhead_38 ec_5 (k := 5) (Nat.le_of_ble_eq_true rfl) rfl (Or.inl ew_520) f8.1 f8.2 ?_
      refine ea_icmp_ne (pc := 41) (tgt := 59) dX11_franksAhead_41 rfl (fun c16 => ?_) (fun c16 => ?_)
      · have E := (if_neg c16).symm.trans E
        refine ea_iinc (pc := 59) (v := 1) (lv' := [(0, vR (some 0)), (1, vR r1), (2, vI x2), (3, vI (x3 + (1 : Int32)))]) dX11_franksAhead_59 3 rfl rfl (Nat.le_of_ble_eq_true rfl) [1, 2, 3, 0] rfl ?_
        refine ea_goto (pc := 62) (tgt := 4) dX11_franksAhead_62 rfl ?_
        exact (kJ4 (r1 : Option Nat) (x2 : Int32) ((x3 + (1 : Int32)) : Int32) h _ _ E hs)
      · have E := (if_pos c16).symm.trans E
        obtain ⟨e10, E⟩ := gd_some E
        refine ea_aload (pc := 44) dX11_franksAhead_44 4 rfl ?_
        obtain ⟨f11, E⟩ := gd_some E
        obtain ⟨w9, Ew9, E⟩ := bd_some E
        have hsw9 : ShC w9.2 := ShC_core ((kpX5_dayOf _ _) _ Ew9) hs
        refine ea_deref0 e10 ?_
        refine ea_callV (pc := 46) (d' := d - 1) (As := []) (st := []) dX11_franksAhead_46 kX5_dayOf (sX5_dayOf (d := d - 1) (by omega) Ew9) (by omega) rfl (Nat.le_of_ble_eq_true rfl) ew_1082 ew_1083 ew_1084 (ci := 5) rfl (by decide) f11.1 f11.2 ?_
        obtain ⟨e13, E⟩ := gd_some E
        refine ea_aload_n (pc := 49) dX11_franksAhead_49 rfl 1 rfl ?_
        obtain ⟨f14, E⟩ := gd_some E
        obtain ⟨w12, Ew12, E⟩ := bd_some E
        have hsw12 : ShC w12.2 := ShC_core ((kpX5_dayOf _ _) _ Ew12) hsw9
        refine ea_deref0 e13 ?_
        refine ea_callV (pc := 50) (d' := d - 1) (As := []) (st := [vI w9.1]) dX11_franksAhead_50 kX5_dayOf (sX5_dayOf (d := d - 1) (by omega) Ew12) (by omega) rfl (Nat.le_of_ble_eq_true rfl) ew_1082 ew_1083 ew_1084 (ci := 5) rfl (by decide) f14.1 f14.2 ?_
        refine ea_icmp_ne (pc := 53) (tgt := 59) dX11_franksAhead_53 rfl (fun c15 => ?_) (fun c15 => ?_)
        · have E := (if_neg c15).symm.trans E
          refine ea_iinc (pc := 59) (v := 1) (lv' := [(0, vR (some 0)), (1, vR r1), (2, vI x2), (3, vI (x3 + (1 : Int32)))]) dX11_franksAhead_59 3 rfl rfl (Nat.le_of_ble_eq_true rfl) [1, 2, 3, 0] rfl ?_
          refine ea_goto (pc := 62) (tgt := 4) dX11_franksAhead_62 rfl ?_
          exact (kJ4 (r1 : Option Nat) (x2 : Int32) ((x3 + (1 : Int32)) : Int32) w12.2 _ _ E hsw12)
        · have E := (if_pos c15).symm.trans E
          refine ea_iinc (pc := 56) (v := 1) (lv' := [(0, vR (some 0)), (1, vR r1), (2, vI (x2 + (1 : Int32))), (3, vI x3)]) dX11_franksAhead_56 2 rfl rfl (Nat.le_of_ble_eq_true rfl) [1, 2, 0, 3] rfl ?_
          refine ea_iinc (pc := 59) (v := 1) (lv' := [(0, vR (some 0)), (1, vR r1), (2, vI (x2 + (1 : Int32))), (3, vI (x3 + (1 : Int32)))]) dX11_franksAhead_59 3 rfl rfl (Nat.le_of_ble_eq_true rfl) [1, 2, 3, 0] rfl ?_
          refine ea_goto (pc := 62) (tgt := 4) dX11_franksAhead_62 rfl ?_
          exact (kJ4 (r1 : Option Nat) ((x2 + (1 : Int32)) : Int32) ((x3 + (1 : Int32)) : Int32) w12.2 _ _ E hsw12)
theorem kBX11_franksAhead_4 {J4 : Option Nat → Int32 → Int32 → ea_H → Option (Int32 × ea_H)}  (cJ4 : ∀ (r1 : Option Nat) (x2 : Int32) (x3 : Int32) (h : ea_H), kp (ea_core h) (J4 r1 x2 x3 h)) {r1 : Option Nat} {x2 : Int32} {x3 : Int32} {h : ea_H} : kp (ea_core h) (BX11_franksAhead_4 J4 r1 x2 x3 h) :=
  (kp_ite (kp_ret rfl) (kp_gd (kp_let (kp_gd (kp_gd (kp_ite (kp_gd (kp_gd (kp_gd (kp_gd (kp_ite (kp_gd (kp_gd (kp_bind (kp_tw (kpX5_dayOf _ _) rfl) fun w9 hcw9 => (kp_gd (kp_gd (kp_bind (kp_tw (kpX5_dayOf _ _) hcw9) fun w12 hcw12 => (kp_ite (kp_tw (cJ4 _ _ _ _) hcw12) (kp_tw (cJ4 _ _ _ _) hcw12)))))))) (kp_tw (cJ4 _ _ _ _) rfl)))))) (kp_tw (cJ4 _ _ _ _) rfl)))))))
theorem lBX11_franksAhead_4 {J4 : Option Nat → Int32 → Int32 → ea_H → Option (Int32 × ea_H)} {J4_ : Option Nat → Int32 → Int32 → ea_H → Option (Int32 × ea_H)}  (mJ4 : ∀ (r1 : Option Nat) (x2 : Int32) (x3 : Int32) (h : ea_H), fle (J4 r1 x2 x3 h) (J4_ r1 x2 x3 h)) {r1 : Option Nat} {x2 : Int32} {x3 : Int32} {h : ea_H} : fle (BX11_franksAhead_4 J4 r1 x2 x3 h) (BX11_franksAhead_4 J4_ r1 x2 x3 h) :=
  (fle_ite (fle_rfl _) (fle_gd (fle_let fun _ => (fle_gd (fle_gd (fle_ite (fle_gd (fle_gd (fle_gd (fle_gd (fle_ite (fle_gd (fle_gd (fle_bind (fle_rfl _) fun _ => (fle_gd (fle_gd (fle_bind (fle_rfl _) fun _ => (fle_ite (mJ4 _ _ _ _) (mJ4 _ _ _ _)))))))) (mJ4 _ _ _ _)))))) (mJ4 _ _ _ _)))))))
theorem nBX11_franksAhead_4 {J4 : Option Nat → Int32 → Int32 → ea_H → Option (Int32 × ea_H)} {J4_ : Nat → (Option Nat → Int32 → Int32 → ea_H → Option (Int32 × ea_H))}  (mJ4 : ∀ (r1 : Option Nat) (x2 : Int32) (x3 : Int32) (h : ea_H), fct (J4 r1 x2 x3 h) (fun f => J4_ f r1 x2 x3 h)) {r1 : Option Nat} {x2 : Int32} {x3 : Int32} {h : ea_H} : fct (BX11_franksAhead_4 J4 r1 x2 x3 h) (fun f => BX11_franksAhead_4 (J4_ f) r1 x2 x3 h) :=
  (fct_ite (fct_rfl _) (fct_gd (fct_let fun _ => (fct_gd (fct_gd (fct_ite (fct_gd (fct_gd (fct_gd (fct_gd (fct_ite (fct_gd (fct_gd (fct_bind (fct_rfl _) fun _ => (fct_gd (fct_gd (fct_bind (fct_rfl _) fun _ => (fct_ite (mJ4 _ _ _ _) (mJ4 _ _ _ _)))))))) (mJ4 _ _ _ _)))))) (mJ4 _ _ _ _)))))))
noncomputable def gX11_franksAhead : Nat → (Option Nat → ea_H → Option (Int32 × ea_H)) × (Option Nat → Int32 → Int32 → ea_H → Option (Int32 × ea_H))
  | 0 => (fun _ _ => none, fun _ _ _ _ => none)
  | f + 1 => (BX11_franksAhead_0 (gX11_franksAhead f).2, BX11_franksAhead_4 (gX11_franksAhead f).2)
theorem mgX11_franksAhead : ∀ f : Nat, (∀ (r1 : Option Nat) (h : ea_H), fle ((gX11_franksAhead f).1 r1 h) ((gX11_franksAhead (f + 1)).1 r1 h)) ∧ (∀ (r1 : Option Nat) (x2 : Int32) (x3 : Int32) (h : ea_H), fle ((gX11_franksAhead f).2 r1 x2 x3 h) ((gX11_franksAhead (f + 1)).2 r1 x2 x3 h)) := by
  intro f
  induction f with
  | zero => exact ⟨fun _ _ => fle_none _, fun _ _ _ _ => fle_none _⟩
  | succ f ih => exact ⟨fun _ _ => lBX11_franksAhead_0 ih.2, fun _ _ _ _ => lBX11_franksAhead_4 ih.2⟩
noncomputable def qX11_franksAhead_0 (r1 : Option Nat) (h : ea_H) : Option (Int32 × ea_H) := flim fun f => (gX11_franksAhead f).1 r1 h
noncomputable def qX11_franksAhead_4 (r1 : Option Nat) (x2 : Int32) (x3 : Int32) (h : ea_H) : Option (Int32 × ea_H) := flim fun f => (gX11_franksAhead f).2 r1 x2 x3 h
theorem fqX11_franksAhead_0 (r1 : Option Nat) (h : ea_H) : fct (qX11_franksAhead_0 r1 h) fun f => (gX11_franksAhead f).1 r1 h := flim_ct fun f => (mgX11_franksAhead f).1 r1 h
theorem fqX11_franksAhead_4 (r1 : Option Nat) (x2 : Int32) (x3 : Int32) (h : ea_H) : fct (qX11_franksAhead_4 r1 x2 x3 h) fun f => (gX11_franksAhead f).2 r1 x2 x3 h := flim_ct fun f => (mgX11_franksAhead f).2 r1 x2 x3 h
/-- how a block opens -/
theorem uqX11_franksAhead_0 {r1 : Option Nat} {h : ea_H} {P : Int32 × ea_H → Prop} (H : sat (BX11_franksAhead_0 qX11_franksAhead_4 r1 h) P) : sat (qX11_franksAhead_0 r1 h) P := by
  obtain ⟨x, e, hp⟩ := H
  obtain ⟨n, hn⟩ := nBX11_franksAhead_0 fqX11_franksAhead_4 x e
  exact ⟨x, flim_at (fun f => (mgX11_franksAhead f).1 r1 h) (f := n + 1) (hn n (Nat.le_refl _)), hp⟩
/-- how a block opens -/
theorem uqX11_franksAhead_4 {r1 : Option Nat} {x2 : Int32} {x3 : Int32} {h : ea_H} {P : Int32 × ea_H → Prop} (H : sat (BX11_franksAhead_4 qX11_franksAhead_4 r1 x2 x3 h) P) : sat (qX11_franksAhead_4 r1 x2 x3 h) P := by
  obtain ⟨x, e, hp⟩ := H
  obtain ⟨n, hn⟩ := nBX11_franksAhead_4 fqX11_franksAhead_4 x e
  exact ⟨x, flim_at (fun f => (mgX11_franksAhead f).2 r1 x2 x3 h) (f := n + 1) (hn n (Nat.le_refl _)), hp⟩
theorem kgX11_franksAhead : ∀ f : Nat, (∀ (r1 : Option Nat) (h : ea_H), kp (ea_core h) ((gX11_franksAhead f).1 r1 h)) ∧ (∀ (r1 : Option Nat) (x2 : Int32) (x3 : Int32) (h : ea_H), kp (ea_core h) ((gX11_franksAhead f).2 r1 x2 x3 h)) := by
  intro f
  induction f with
  | zero => exact ⟨fun _ _ => kp_none _, fun _ _ _ _ => kp_none _⟩
  | succ f ih => exact ⟨fun _ _ => kBX11_franksAhead_0 ih.2, fun _ _ _ _ => kBX11_franksAhead_4 ih.2⟩
theorem tgX11_franksAhead {d : Nat} {h0 : ea_H} (hd : 2 ≤ d) : ∀ f : Nat, (∀ (r1 : Option Nat) (h : ea_H) (r : Int32) (h' : ea_H), (gX11_franksAhead f).1 r1 h = some (r, h') → ShC h → ea_W mX11_franksAhead d h0 (some (vI r)) h' 0 [(0, vR (some 0)), (1, vR r1)] [] h) ∧ (∀ (r1 : Option Nat) (x2 : Int32) (x3 : Int32) (h : ea_H) (r : Int32) (h' : ea_H), (gX11_franksAhead f).2 r1 x2 x3 h = some (r, h') → ShC h → ea_W mX11_franksAhead d h0 (some (vI r)) h' 4 [(0, vR (some 0)), (1, vR r1), (2, vI x2), (3, vI x3)] [] h) := by
  intro f
  induction f with
  | zero => exact ⟨fun _ _ _ _ E => no_some E, fun _ _ _ _ _ _ E => no_some E⟩
  | succ f ih => exact ⟨fun _ _ _ _ E hs => tBX11_franksAhead_0 hd ih.2 E hs, fun _ _ _ _ _ _ E hs => tBX11_franksAhead_4 hd ih.2 E hs⟩
noncomputable def qX11_franksAhead (r1 : Option Nat) (h : ea_H) : Option (Int32 × ea_H) := qX11_franksAhead_0 r1 h
theorem sX11_franksAhead {d : Nat} {r1 : Option Nat} {h : ea_H} {r : Int32} {h' : ea_H} (hd : 2 ≤ d) (hs : ShC h) (K : qX11_franksAhead r1 h = some (r, h')) : ea_Met mX11_franksAhead d [vR (some 0), vR r1] h (some (vI r)) h' := by
  unfold qX11_franksAhead at K
  obtain ⟨n, hn⟩ := fqX11_franksAhead_0 r1 h _ K
  have W := (tgX11_franksAhead (d := d) (h0 := h) hd n).1 r1 h _ _ (hn n (Nat.le_refl _)) hs
  exact ea_enter rfl (Nat.le_of_ble_eq_true rfl) W
theorem kpX11_franksAhead (r1 : Option Nat) (h : ea_H) : kp (ea_core h) (qX11_franksAhead r1 h) := fun x e => by
  obtain ⟨n, hn⟩ := fqX11_franksAhead_0 r1 h x e
  exact (kgX11_franksAhead n).1 r1 h x (hn n (Nat.le_refl _))
noncomputable def BX11_owedBetween_0 (J6 : Int32 → Int32 → Int32 → Int32 → Int32 → ea_H → Option (Int32 × ea_H)) (x1 : Int32) (x2 : Int32) (x3 : Int32) (h : ea_H) : Option (Int32 × ea_H) :=
  (J6 (x1 : Int32) (x2 : Int32) (x3 : Int32) (0 : Int32) (0 : Int32) h)
theorem tBX11_owedBetween_0 {d : Nat} {h0 : ea_H} (hd : 2 ≤ d) {J6 : Int32 → Int32 → Int32 → Int32 → Int32 → ea_H → Option (Int32 × ea_H)}  (kJ6 : ∀ (x1 : Int32) (x2 : Int32) (x3 : Int32) (x4 : Int32) (x5 : Int32) (h : ea_H) (r : Int32) (h' : ea_H), J6 x1 x2 x3 x4 x5 h = some (r, h') → ShC h → ea_W mX11_owedBetween d h0 (some (vI r)) h' 6 [(0, vR (some 0)), (1, vI x1), (2, vI x2), (3, vI x3), (4, vI x4), (5, vI x5)] [] h) {x1 : Int32} {x2 : Int32} {x3 : Int32} {h : ea_H} {r : Int32} {h' : ea_H} (E : BX11_owedBetween_0 J6 x1 x2 x3 h = some (r, h')) (hs : ShC h) : ea_W mX11_owedBetween d h0 (some (vI r)) h' 0 [(0, vR (some 0)), (1, vI x1), (2, vI x2), (3, vI x3)] [] h := by
  unfold BX11_owedBetween_0 at E
  refine ea_iconst (pc := 0) dX11_owedBetween_0 (v := 0) rfl ?_
  refine ea_istore (pc := 1) (lv' := [(0, vR (some 0)), (1, vI x1), (2, vI x2), (3, vI x3), (4, vI 0)]) dX11_owedBetween_1 (Nat.le_of_ble_eq_true rfl) [1, 2, 3, 4, 0] rfl ?_
  refine ea_iconst (pc := 3) dX11_owedBetween_3 (v := 0) rfl ?_
  refine ea_istore (pc := 4) (lv' := [(0, vR (some 0)), (1, vI x1), (2, vI x2), (3, vI x3), (4, vI 0), (5, vI 0)]) dX11_owedBetween_4 (Nat.le_of_ble_eq_true rfl) [1, 2, 3, 4, 5, 0] rfl ?_
  exact (kJ6 (x1 : Int32) (x2 : Int32) (x3 : Int32) (0 : Int32) (0 : Int32) h _ _ E hs)
theorem kBX11_owedBetween_0 {J6 : Int32 → Int32 → Int32 → Int32 → Int32 → ea_H → Option (Int32 × ea_H)}  (cJ6 : ∀ (x1 : Int32) (x2 : Int32) (x3 : Int32) (x4 : Int32) (x5 : Int32) (h : ea_H), kp (ea_core h) (J6 x1 x2 x3 x4 x5 h)) {x1 : Int32} {x2 : Int32} {x3 : Int32} {h : ea_H} : kp (ea_core h) (BX11_owedBetween_0 J6 x1 x2 x3 h) :=
  (kp_tw (cJ6 _ _ _ _ _ _) rfl)
theorem lBX11_owedBetween_0 {J6 : Int32 → Int32 → Int32 → Int32 → Int32 → ea_H → Option (Int32 × ea_H)} {J6_ : Int32 → Int32 → Int32 → Int32 → Int32 → ea_H → Option (Int32 × ea_H)}  (mJ6 : ∀ (x1 : Int32) (x2 : Int32) (x3 : Int32) (x4 : Int32) (x5 : Int32) (h : ea_H), fle (J6 x1 x2 x3 x4 x5 h) (J6_ x1 x2 x3 x4 x5 h)) {x1 : Int32} {x2 : Int32} {x3 : Int32} {h : ea_H} : fle (BX11_owedBetween_0 J6 x1 x2 x3 h) (BX11_owedBetween_0 J6_ x1 x2 x3 h) :=
  (mJ6 _ _ _ _ _ _)
theorem nBX11_owedBetween_0 {J6 : Int32 → Int32 → Int32 → Int32 → Int32 → ea_H → Option (Int32 × ea_H)} {J6_ : Nat → (Int32 → Int32 → Int32 → Int32 → Int32 → ea_H → Option (Int32 × ea_H))}  (mJ6 : ∀ (x1 : Int32) (x2 : Int32) (x3 : Int32) (x4 : Int32) (x5 : Int32) (h : ea_H), fct (J6 x1 x2 x3 x4 x5 h) (fun f => J6_ f x1 x2 x3 x4 x5 h)) {x1 : Int32} {x2 : Int32} {x3 : Int32} {h : ea_H} : fct (BX11_owedBetween_0 J6 x1 x2 x3 h) (fun f => BX11_owedBetween_0 (J6_ f) x1 x2 x3 h) :=
  (mJ6 _ _ _ _ _ _)
noncomputable def BX11_owedBetween_6 (J6 : Int32 → Int32 → Int32 → Int32 → Int32 → ea_H → Option (Int32 × ea_H)) (J47 : Int32 → Int32 → Int32 → Int32 → Int32 → ea_H → Option (Int32 × ea_H)) (x1 : Int32) (x2 : Int32) (x3 : Int32) (x4 : Int32) (x5 : Int32) (h : ea_H) : Option (Int32 × ea_H) :=
  (if (ea_i h 52 0) ≤ x5 then (some (x4, h)) else (Option.bind (qX11_isBetween (x5 : Int32) (x1 : Int32) (x2 : Int32) h) fun w1 => (if w1.1 = (0 : Int32) then (J6 (x1 : Int32) (x2 : Int32) (x3 : Int32) (x4 : Int32) ((x5 + (1 : Int32)) : Int32) w1.2) else (if x3 = (0 : Int32) then (J47 (x1 : Int32) (x2 : Int32) (x3 : Int32) (x4 : Int32) (x5 : Int32) w1.2) else (gd (vp_in x5 120) (if (ea_i w1.2 53 (Int32.toNatClampNeg x5)) = (2 : Int32) then (J47 (x1 : Int32) (x2 : Int32) (x3 : Int32) (x4 : Int32) (x5 : Int32) w1.2) else (J6 (x1 : Int32) (x2 : Int32) (x3 : Int32) (x4 : Int32) ((x5 + (1 : Int32)) : Int32) w1.2)))))))
theorem tBX11_owedBetween_6 {d : Nat} {h0 : ea_H} (hd : 2 ≤ d) {J6 : Int32 → Int32 → Int32 → Int32 → Int32 → ea_H → Option (Int32 × ea_H)} {J47 : Int32 → Int32 → Int32 → Int32 → Int32 → ea_H → Option (Int32 × ea_H)}  (kJ6 : ∀ (x1 : Int32) (x2 : Int32) (x3 : Int32) (x4 : Int32) (x5 : Int32) (h : ea_H) (r : Int32) (h' : ea_H), J6 x1 x2 x3 x4 x5 h = some (r, h') → ShC h → ea_W mX11_owedBetween d h0 (some (vI r)) h' 6 [(0, vR (some 0)), (1, vI x1), (2, vI x2), (3, vI x3), (4, vI x4), (5, vI x5)] [] h) (kJ47 : ∀ (x1 : Int32) (x2 : Int32) (x3 : Int32) (x4 : Int32) (x5 : Int32) (h : ea_H) (r : Int32) (h' : ea_H), J47 x1 x2 x3 x4 x5 h = some (r, h') → ShC h → ea_W mX11_owedBetween d h0 (some (vI r)) h' 47 [(0, vR (some 0)), (1, vI x1), (2, vI x2), (3, vI x3), (4, vI x4), (5, vI x5)] [] h) {x1 : Int32} {x2 : Int32} {x3 : Int32} {x4 : Int32} {x5 : Int32} {h : ea_H} {r : Int32} {h' : ea_H} (E : BX11_owedBetween_6 J6 J47 x1 x2 x3 x4 x5 h = some (r, h')) (hs : ShC h) : ea_W mX11_owedBetween d h0 (some (vI r)) h' 6 [(0, vR (some 0)), (1, vI x1), (2, vI x2), (3, vI x3), (4, vI x4), (5, vI x5)] [] h := by
  unfold BX11_owedBetween_6 at E
  refine ea_iload (pc := 6) dX11_owedBetween_6 5 rfl ?_
  refine ea_aload_n (pc := 8) dX11_owedBetween_8 rfl 0 rfl ?_
  refine ea_getR (pc := 9) dX11_owedBetween_9 ec_11 (k := 7) (Nat.le_of_ble_eq_true rfl) rfl (Or.inl ew_621) (cShC_0 hs).1 (cShC_0 hs).2.1 (rShC_0_7 hs) ?_
  refine ea_getI (pc := 12) dX11_owedBetween_12 ec_1 (k := 0) (Nat.le_of_ble_eq_true rfl) rfl (Or.inl ew_442) (cShC_52 hs).1 (cShC_52 hs).2.1 ?_
  refine ea_icmp_ge (pc := 15) (tgt := 68) dX11_owedBetween_15 rfl (fun c6 => ?_) (fun c6 => ?_)
  · have E := (if_pos c6).symm.trans E
    refine ea_iload (pc := 68) dX11_owedBetween_68 4 rfl ?_
    exact ea_iretO (pc := 70) dX11_owedBetween_70 rfl rfl E
  · have E := (if_neg c6).symm.trans E
    obtain ⟨w1, Ew1, E⟩ := bd_some E
    have hsw1 : ShC w1.2 := ShC_core ((kpX11_isBetween _ _ _ _) _ Ew1) hs
    refine ea_aload_n (pc := 18) dX11_owedBetween_18 rfl 0 rfl ?_
    refine ea_iload (pc := 19) dX11_owedBetween_19 5 rfl ?_
    refine ea_iload_n (pc := 21) dX11_owedBetween_21 rfl 1 rfl ?_
    refine ea_iload_n (pc := 22) dX11_owedBetween_22 rfl 2 rfl ?_
    refine ea_callV (pc := 23) (d' := d - 1) (As := [vI x5, vI x1, vI x2]) (st := []) dX11_owedBetween_23 kX11_isBetween (sX11_isBetween (d := d - 1) (by omega) hs Ew1) (by omega) rfl (Nat.le_of_ble_eq_true rfl) ew_1241 ew_1243 ew_42 (ci := 11) rfl (by decide) (cShC_0 hs).1 (cShC_0 hs).2.1 ?_
    refine ea_if_eq (pc := 26) (tgt := 62) dX11_owedBetween_26 rfl (fun c5 => ?_) (fun c5 => ?_)
    · have E := (if_pos c5).symm.trans E
      refine ea_iinc (pc := 62) (v := 1) (lv' := [(0, vR (some 0)), (1, vI x1), (2, vI x2), (3, vI x3), (4, vI x4), (5, vI (x5 + (1 : Int32)))]) dX11_owedBetween_62 5 rfl rfl (Nat.le_of_ble_eq_true rfl) [1, 2, 3, 4, 5, 0] rfl ?_
      refine ea_goto (pc := 65) (tgt := 6) dX11_owedBetween_65 rfl ?_
      exact (kJ6 (x1 : Int32) (x2 : Int32) (x3 : Int32) (x4 : Int32) ((x5 + (1 : Int32)) : Int32) w1.2 _ _ E hsw1)
    · have E := (if_neg c5).symm.trans E
      refine ea_iload_n (pc := 29) dX11_owedBetween_29 rfl 3 rfl ?_
      refine ea_if_eq (pc := 30) (tgt := 47) dX11_owedBetween_30 rfl (fun c4 => ?_) (fun c4 => ?_)
      · have E := (if_pos c4).symm.trans E
        exact (kJ47 (x1 : Int32) (x2 : Int32) (x3 : Int32) (x4 : Int32) (x5 : Int32) w1.2 _ _ E hsw1)
      · have E := (if_neg c4).symm.trans E
        obtain ⟨z2, E⟩ := gd_some E
        refine ea_aload_n (pc := 33) dX11_owedBetween_33 rfl 0 rfl ?_
        refine ea_getR (pc := 34) dX11_owedBetween_34 ec_11 (k := 7) (Nat.le_of_ble_eq_true rfl) rfl (Or.inl ew_621) (cShC_0 hsw1).1 (cShC_0 hsw1).2.1 (rShC_0_7 hsw1) ?_
        refine ea_getR (pc := 37) dX11_owedBetween_37 ec_1 (k := 1) (Nat.le_of_ble_eq_true rfl) rfl (Or.inl ew_444) (cShC_52 hsw1).1 (cShC_52 hsw1).2.1 (rShC_52_1 hsw1) ?_
        refine ea_iload (pc := 40) dX11_owedBetween_40 5 rfl ?_
        refine ea_iald (pc := 42) dX11_owedBetween_42 (cShC_53 hsw1).1 (cShC_53 hsw1).2.1 (ea_vpl (cShC_53 hsw1).2.2 z2) ?_
        refine ea_iconst (pc := 43) dX11_owedBetween_43 (v := 2) rfl ?_
        refine ea_icmp_ne (pc := 44) (tgt := 62) dX11_owedBetween_44 rfl (fun c3 => ?_) (fun c3 => ?_)
        · have E := (if_neg c3).symm.trans E
          refine ea_iinc (pc := 62) (v := 1) (lv' := [(0, vR (some 0)), (1, vI x1), (2, vI x2), (3, vI x3), (4, vI x4), (5, vI (x5 + (1 : Int32)))]) dX11_owedBetween_62 5 rfl rfl (Nat.le_of_ble_eq_true rfl) [1, 2, 3, 4, 5, 0] rfl ?_
          refine ea_goto (pc := 65) (tgt := 6) dX11_owedBetween_65 rfl ?_
          exact (kJ6 (x1 : Int32) (x2 : Int32) (x3 : Int32) (x4 : Int32) ((x5 + (1 : Int32)) : Int32) w1.2 _ _ E hsw1)
        · have E := (if_pos c3).symm.trans E
          exact (kJ47 (x1 : Int32) (x2 : Int32) (x3 : Int32) (x4 : Int32) (x5 : Int32) w1.2 _ _ E hsw1)
theorem kBX11_owedBetween_6 {J6 : Int32 → Int32 → Int32 → Int32 → Int32 → ea_H → Option (Int32 × ea_H)} {J47 : Int32 → Int32 → Int32 → Int32 → Int32 → ea_H → Option (Int32 × ea_H)}  (cJ6 : ∀ (x1 : Int32) (x2 : Int32) (x3 : Int32) (x4 : Int32) (x5 : Int32) (h : ea_H), kp (ea_core h) (J6 x1 x2 x3 x4 x5 h)) (cJ47 : ∀ (x1 : Int32) (x2 : Int32) (x3 : Int32) (x4 : Int32) (x5 : Int32) (h : ea_H), kp (ea_core h) (J47 x1 x2 x3 x4 x5 h)) {x1 : Int32} {x2 : Int32} {x3 : Int32} {x4 : Int32} {x5 : Int32} {h : ea_H} : kp (ea_core h) (BX11_owedBetween_6 J6 J47 x1 x2 x3 x4 x5 h) :=
  (kp_ite (kp_ret rfl) (kp_bind (kp_tw (kpX11_isBetween _ _ _ _) rfl) fun w1 hcw1 => (kp_ite (kp_tw (cJ6 _ _ _ _ _ _) hcw1) (kp_ite (kp_tw (cJ47 _ _ _ _ _ _) hcw1) (kp_gd (kp_ite (kp_tw (cJ47 _ _ _ _ _ _) hcw1) (kp_tw (cJ6 _ _ _ _ _ _) hcw1)))))))
theorem lBX11_owedBetween_6 {J6 : Int32 → Int32 → Int32 → Int32 → Int32 → ea_H → Option (Int32 × ea_H)} {J47 : Int32 → Int32 → Int32 → Int32 → Int32 → ea_H → Option (Int32 × ea_H)} {J6_ : Int32 → Int32 → Int32 → Int32 → Int32 → ea_H → Option (Int32 × ea_H)} {J47_ : Int32 → Int32 → Int32 → Int32 → Int32 → ea_H → Option (Int32 × ea_H)}  (mJ6 : ∀ (x1 : Int32) (x2 : Int32) (x3 : Int32) (x4 : Int32) (x5 : Int32) (h : ea_H), fle (J6 x1 x2 x3 x4 x5 h) (J6_ x1 x2 x3 x4 x5 h)) (mJ47 : ∀ (x1 : Int32) (x2 : Int32) (x3 : Int32) (x4 : Int32) (x5 : Int32) (h : ea_H), fle (J47 x1 x2 x3 x4 x5 h) (J47_ x1 x2 x3 x4 x5 h)) {x1 : Int32} {x2 : Int32} {x3 : Int32} {x4 : Int32} {x5 : Int32} {h : ea_H} : fle (BX11_owedBetween_6 J6 J47 x1 x2 x3 x4 x5 h) (BX11_owedBetween_6 J6_ J47_ x1 x2 x3 x4 x5 h) :=
  (fle_ite (fle_rfl _) (fle_bind (fle_rfl _) fun _ => (fle_ite (mJ6 _ _ _ _ _ _) (fle_ite (mJ47 _ _ _ _ _ _) (fle_gd (fle_ite (mJ47 _ _ _ _ _ _) (mJ6 _ _ _ _ _ _)))))))
theorem nBX11_owedBetween_6 {J6 : Int32 → Int32 → Int32 → Int32 → Int32 → ea_H → Option (Int32 × ea_H)} {J47 : Int32 → Int32 → Int32 → Int32 → Int32 → ea_H → Option (Int32 × ea_H)} {J6_ : Nat → (Int32 → Int32 → Int32 → Int32 → Int32 → ea_H → Option (Int32 × ea_H))} {J47_ : Nat → (Int32 → Int32 → Int32 → Int32 → Int32 → ea_H → Option (Int32 × ea_H))}  (mJ6 : ∀ (x1 : Int32) (x2 : Int32) (x3 : Int32) (x4 : Int32) (x5 : Int32) (h : ea_H), fct (J6 x1 x2 x3 x4 x5 h) (fun f => J6_ f x1 x2 x3 x4 x5 h)) (mJ47 : ∀ (x1 : Int32) (x2 : Int32) (x3 : Int32) (x4 : Int32) (x5 : Int32) (h : ea_H), fct (J47 x1 x2 x3 x4 x5 h) (fun f => J47_ f x1 x2 x3 x4 x5 h)) {x1 : Int32} {x2 : Int32} {x3 : Int32} {x4 : Int32} {x5 : Int32} {h : ea_H} : fct (BX11_owedBetween_6 J6 J47 x1 x2 x3 x4 x5 h) (fun f => BX11_owedBetween_6 (J6_ f) (J47_ f) x1 x2 x3 x4 x5 h) :=
  (fct_ite (fct_rfl _) (fct_bind (fct_rfl _) fun _ => (fct_ite (mJ6 _ _ _ _ _ _) (fct_ite (mJ47 _ _ _ _ _ _) (fct_gd (fct_ite (mJ47 _ _ _ _ _ _) (mJ6 _ _ _ _ _ _)))))))
noncomputable def BX11_owedBetween_47 (J6 : Int32 → Int32 → Int32 → Int32 → Int32 → ea_H → Option (Int32 × ea_H)) (x1 : Int32) (x2 : Int32) (x3 : Int32) (x4 : Int32) (x5 : Int32) (h : ea_H) : Option (Int32 × ea_H) :=
  (gd (vp_in x5 120) (gd ((ea_r h 49 (Int32.toNatClampNeg x5)) = some (Option.getD (ea_r h 49 (Int32.toNatClampNeg x5)) 0)) (gd (((Option.getD (ea_r h 49 (Int32.toNatClampNeg x5)) 0) < ea_n h ∧ ea_c h (Option.getD (ea_r h 49 (Int32.toNatClampNeg x5)) 0) = 5)) (Option.bind (qX5_owed (Option.getD (ea_r h 49 (Int32.toNatClampNeg x5)) 0) h) fun w8 => (J6 (x1 : Int32) (x2 : Int32) (x3 : Int32) ((x4 + w8.1) : Int32) ((x5 + (1 : Int32)) : Int32) w8.2)))))
theorem tBX11_owedBetween_47 {d : Nat} {h0 : ea_H} (hd : 2 ≤ d) {J6 : Int32 → Int32 → Int32 → Int32 → Int32 → ea_H → Option (Int32 × ea_H)}  (kJ6 : ∀ (x1 : Int32) (x2 : Int32) (x3 : Int32) (x4 : Int32) (x5 : Int32) (h : ea_H) (r : Int32) (h' : ea_H), J6 x1 x2 x3 x4 x5 h = some (r, h') → ShC h → ea_W mX11_owedBetween d h0 (some (vI r)) h' 6 [(0, vR (some 0)), (1, vI x1), (2, vI x2), (3, vI x3), (4, vI x4), (5, vI x5)] [] h) {x1 : Int32} {x2 : Int32} {x3 : Int32} {x4 : Int32} {x5 : Int32} {h : ea_H} {r : Int32} {h' : ea_H} (E : BX11_owedBetween_47 J6 x1 x2 x3 x4 x5 h = some (r, h')) (hs : ShC h) : ea_W mX11_owedBetween d h0 (some (vI r)) h' 47 [(0, vR (some 0)), (1, vI x1), (2, vI x2), (3, vI x3), (4, vI x4), (5, vI x5)] [] h := by
  unfold BX11_owedBetween_47 at E
  obtain ⟨z7, E⟩ := gd_some E
  refine ea_iload (pc := 47) dX11_owedBetween_47 4 rfl ?_
  refine ea_aload_n (pc := 49) dX11_owedBetween_49 rfl 0 rfl ?_
  refine ea_getR (pc := 50) dX11_owedBetween_50 ec_11 (k := 5) (Nat.le_of_ble_eq_true rfl) rfl (Or.inl ew_619) (cShC_0 hs).1 (cShC_0 hs).2.1 (rShC_0_5 hs) ?_
  refine ea_iload (pc := 53) dX11_owedBetween_53 5 rfl ?_
  obtain ⟨e9, E⟩ := gd_some E
  refine ea_aald23 (pc := 55) dX11_owedBetween_55 (cShC_49 hs).1 (cShC_49 hs).2.1 (ea_vpl (cShC_49 hs).2.2 z7) rfl ?_
  obtain ⟨f10, E⟩ := gd_some E
  obtain ⟨w8, Ew8, E⟩ := bd_some E
  have hsw8 : ShC w8.2 := ShC_core ((kpX5_owed _ _) _ Ew8) hs
  refine ea_deref0 e9 ?_
  refine ea_callV (pc := 56) (d' := d - 1) (As := []) (st := [vI x4]) dX11_owedBetween_56 kX5_owed (sX5_owed (d := d - 1) (by omega) Ew8) (by omega) rfl (Nat.le_of_ble_eq_true rfl) ew_1138 ew_1139 ew_1140 (ci := 5) rfl (by decide) f10.1 f10.2 ?_
  refine ea_iadd (pc := 59) dX11_owedBetween_59 ?_
  refine ea_istore (pc := 60) (lv' := [(0, vR (some 0)), (1, vI x1), (2, vI x2), (3, vI x3), (4, vI (x4 + w8.1)), (5, vI x5)]) dX11_owedBetween_60 (Nat.le_of_ble_eq_true rfl) [1, 2, 3, 4, 0, 5] rfl ?_
  refine ea_iinc (pc := 62) (v := 1) (lv' := [(0, vR (some 0)), (1, vI x1), (2, vI x2), (3, vI x3), (4, vI (x4 + w8.1)), (5, vI (x5 + (1 : Int32)))]) dX11_owedBetween_62 5 rfl rfl (Nat.le_of_ble_eq_true rfl) [1, 2, 3, 4, 5, 0] rfl ?_
  refine ea_goto (pc := 65) (tgt := 6) dX11_owedBetween_65 rfl ?_
  exact (kJ6 (x1 : Int32) (x2 : Int32) (x3 : Int32) ((x4 + w8.1) : Int32) ((x5 + (1 : Int32)) : Int32) w8.2 _ _ E hsw8)
theorem kBX11_owedBetween_47 {J6 : Int32 → Int32 → Int32 → Int32 → Int32 → ea_H → Option (Int32 × ea_H)}  (cJ6 : ∀ (x1 : Int32) (x2 : Int32) (x3 : Int32) (x4 : Int32) (x5 : Int32) (h : ea_H), kp (ea_core h) (J6 x1 x2 x3 x4 x5 h)) {x1 : Int32} {x2 : Int32} {x3 : Int32} {x4 : Int32} {x5 : Int32} {h : ea_H} : kp (ea_core h) (BX11_owedBetween_47 J6 x1 x2 x3 x4 x5 h) :=
  (kp_gd (kp_gd (kp_gd (kp_bind (kp_tw (kpX5_owed _ _) rfl) fun w8 hcw8 => (kp_tw (cJ6 _ _ _ _ _ _) hcw8)))))
theorem lBX11_owedBetween_47 {J6 : Int32 → Int32 → Int32 → Int32 → Int32 → ea_H → Option (Int32 × ea_H)} {J6_ : Int32 → Int32 → Int32 → Int32 → Int32 → ea_H → Option (Int32 × ea_H)}  (mJ6 : ∀ (x1 : Int32) (x2 : Int32) (x3 : Int32) (x4 : Int32) (x5 : Int32) (h : ea_H), fle (J6 x1 x2 x3 x4 x5 h) (J6_ x1 x2 x3 x4 x5 h)) {x1 : Int32} {x2 : Int32} {x3 : Int32} {x4 : Int32} {x5 : Int32} {h : ea_H} : fle (BX11_owedBetween_47 J6 x1 x2 x3 x4 x5 h) (BX11_owedBetween_47 J6_ x1 x2 x3 x4 x5 h) :=
  (fle_gd (fle_gd (fle_gd (fle_bind (fle_rfl _) fun _ => (mJ6 _ _ _ _ _ _)))))
theorem nBX11_owedBetween_47 {J6 : Int32 → Int32 → Int32 → Int32 → Int32 → ea_H → Option (Int32 × ea_H)} {J6_ : Nat → (Int32 → Int32 → Int32 → Int32 → Int32 → ea_H → Option (Int32 × ea_H))}  (mJ6 : ∀ (x1 : Int32) (x2 : Int32) (x3 : Int32) (x4 : Int32) (x5 : Int32) (h : ea_H), fct (J6 x1 x2 x3 x4 x5 h) (fun f => J6_ f x1 x2 x3 x4 x5 h)) {x1 : Int32} {x2 : Int32} {x3 : Int32} {x4 : Int32} {x5 : Int32} {h : ea_H} : fct (BX11_owedBetween_47 J6 x1 x2 x3 x4 x5 h) (fun f => BX11_owedBetween_47 (J6_ f) x1 x2 x3 x4 x5 h) :=
  (fct_gd (fct_gd (fct_gd (fct_bind (fct_rfl _) fun _ => (mJ6 _ _ _ _ _ _)))))
noncomputable def gX11_owedBetween : Nat → (Int32 → Int32 → Int32 → ea_H → Option (Int32 × ea_H)) × (Int32 → Int32 → Int32 → Int32 → Int32 → ea_H → Option (Int32 × ea_H)) × (Int32 → Int32 → Int32 → Int32 → Int32 → ea_H → Option (Int32 × ea_H))
  | 0 => (fun _ _ _ _ => none, fun _ _ _ _ _ _ => none, fun _ _ _ _ _ _ => none)
  | f + 1 => (BX11_owedBetween_0 (gX11_owedBetween f).2.1, BX11_owedBetween_6 (gX11_owedBetween f).2.1 (gX11_owedBetween f).2.2, BX11_owedBetween_47 (gX11_owedBetween f).2.1)
theorem mgX11_owedBetween : ∀ f : Nat, (∀ (x1 : Int32) (x2 : Int32) (x3 : Int32) (h : ea_H), fle ((gX11_owedBetween f).1 x1 x2 x3 h) ((gX11_owedBetween (f + 1)).1 x1 x2 x3 h)) ∧ (∀ (x1 : Int32) (x2 : Int32) (x3 : Int32) (x4 : Int32) (x5 : Int32) (h : ea_H), fle ((gX11_owedBetween f).2.1 x1 x2 x3 x4 x5 h) ((gX11_owedBetween (f + 1)).2.1 x1 x2 x3 x4 x5 h)) ∧ (∀ (x1 : Int32) (x2 : Int32) (x3 : Int32) (x4 : Int32) (x5 : Int32) (h : ea_H), fle ((gX11_owedBetween f).2.2 x1 x2 x3 x4 x5 h) ((gX11_owedBetween (f + 1)).2.2 x1 x2 x3 x4 x5 h)) := by
  intro f
  induction f with
  | zero => exact ⟨fun _ _ _ _ => fle_none _, fun _ _ _ _ _ _ => fle_none _, fun _ _ _ _ _ _ => fle_none _⟩
  | succ f ih => exact ⟨fun _ _ _ _ => lBX11_owedBetween_0 ih.2.1, fun _ _ _ _ _ _ => lBX11_owedBetween_6 ih.2.1 ih.2.2, fun _ _ _ _ _ _ => lBX11_owedBetween_47 ih.2.1⟩
noncomputable def qX11_owedBetween_0 (x1 : Int32) (x2 : Int32) (x3 : Int32) (h : ea_H) : Option (Int32 × ea_H) := flim fun f => (gX11_owedBetween f).1 x1 x2 x3 h
noncomputable def qX11_owedBetween_6 (x1 : Int32) (x2 : Int32) (x3 : Int32) (x4 : Int32) (x5 : Int32) (h : ea_H) : Option (Int32 × ea_H) := flim fun f => (gX11_owedBetween f).2.1 x1 x2 x3 x4 x5 h
noncomputable def qX11_owedBetween_47 (x1 : Int32) (x2 : Int32) (x3 : Int32) (x4 : Int32) (x5 : Int32) (h : ea_H) : Option (Int32 × ea_H) := flim fun f => (gX11_owedBetween f).2.2 x1 x2 x3 x4 x5 h
theorem fqX11_owedBetween_0 (x1 : Int32) (x2 : Int32) (x3 : Int32) (h : ea_H) : fct (qX11_owedBetween_0 x1 x2 x3 h) fun f => (gX11_owedBetween f).1 x1 x2 x3 h := flim_ct fun f => (mgX11_owedBetween f).1 x1 x2 x3 h
theorem fqX11_owedBetween_6 (x1 : Int32) (x2 : Int32) (x3 : Int32) (x4 : Int32) (x5 : Int32) (h : ea_H) : fct (qX11_owedBetween_6 x1 x2 x3 x4 x5 h) fun f => (gX11_owedBetween f).2.1 x1 x2 x3 x4 x5 h := flim_ct fun f => (mgX11_owedBetween f).2.1 x1 x2 x3 x4 x5 h
theorem fqX11_owedBetween_47 (x1 : Int32) (x2 : Int32) (x3 : Int32) (x4 : Int32) (x5 : Int32) (h : ea_H) : fct (qX11_owedBetween_47 x1 x2 x3 x4 x5 h) fun f => (gX11_owedBetween f).2.2 x1 x2 x3 x4 x5 h := flim_ct fun f => (mgX11_owedBetween f).2.2 x1 x2 x3 x4 x5 h
/-- how a block opens -/
theorem uqX11_owedBetween_0 {x1 : Int32} {x2 : Int32} {x3 : Int32} {h : ea_H} {P : Int32 × ea_H → Prop} (H : sat (BX11_owedBetween_0 qX11_owedBetween_6 x1 x2 x3 h) P) : sat (qX11_owedBetween_0 x1 x2 x3 h) P := by
  obtain ⟨x, e, hp⟩ := H
  obtain ⟨n, hn⟩ := nBX11_owedBetween_0 fqX11_owedBetween_6 x e
  exact ⟨x, flim_at (fun f => (mgX11_owedBetween f).1 x1 x2 x3 h) (f := n + 1) (hn n (Nat.le_refl _)), hp⟩
/-- how a block opens -/
theorem uqX11_owedBetween_6 {x1 : Int32} {x2 : Int32} {x3 : Int32} {x4 : Int32} {x5 : Int32} {h : ea_H} {P : Int32 × ea_H → Prop} (H : sat (BX11_owedBetween_6 qX11_owedBetween_6 qX11_owedBetween_47 x1 x2 x3 x4 x5 h) P) : sat (qX11_owedBetween_6 x1 x2 x3 x4 x5 h) P := by
  obtain ⟨x, e, hp⟩ := H
  obtain ⟨n, hn⟩ := nBX11_owedBetween_6 fqX11_owedBetween_6 fqX11_owedBetween_47 x e
  exact ⟨x, flim_at (fun f => (mgX11_owedBetween f).2.1 x1 x2 x3 x4 x5 h) (f := n + 1) (hn n (Nat.le_refl _)), hp⟩
/-- how a block opens -/
theorem uqX11_owedBetween_47 {x1 : Int32} {x2 : Int32} {x3 : Int32} {x4 : Int32} {x5 : Int32} {h : ea_H} {P : Int32 × ea_H → Prop} (H : sat (BX11_owedBetween_47 qX11_owedBetween_6 x1 x2 x3 x4 x5 h) P) : sat (qX11_owedBetween_47 x1 x2 x3 x4 x5 h) P := by
  obtain ⟨x, e, hp⟩ := H
  obtain ⟨n, hn⟩ := nBX11_owedBetween_47 fqX11_owedBetween_6 x e
  exact ⟨x, flim_at (fun f => (mgX11_owedBetween f).2.2 x1 x2 x3 x4 x5 h) (f := n + 1) (hn n (Nat.le_refl _)), hp⟩
theorem kgX11_owedBetween : ∀ f : Nat, (∀ (x1 : Int32) (x2 : Int32) (x3 : Int32) (h : ea_H), kp (ea_core h) ((gX11_owedBetween f).1 x1 x2 x3 h)) ∧ (∀ (x1 : Int32) (x2 : Int32) (x3 : Int32) (x4 : Int32) (x5 : Int32) (h : ea_H), kp (ea_core h) ((gX11_owedBetween f).2.1 x1 x2 x3 x4 x5 h)) ∧ (∀ (x1 : Int32) (x2 : Int32) (x3 : Int32) (x4 : Int32) (x5 : Int32) (h : ea_H), kp (ea_core h) ((gX11_owedBetween f).2.2 x1 x2 x3 x4 x5 h)) := by
  intro f
  induction f with
  | zero => exact ⟨fun _ _ _ _ => kp_none _, fun _ _ _ _ _ _ => kp_none _, fun _ _ _ _ _ _ => kp_none _⟩
  | succ f ih => exact ⟨fun _ _ _ _ => kBX11_owedBetween_0 ih.2.1, fun _ _ _ _ _ _ => kBX11_owedBetween_6 ih.2.1 ih.2.2, fun _ _ _ _ _ _ => kBX11_owedBetween_47 ih.2.1⟩
theorem tgX11_owedBetween {d : Nat} {h0 : ea_H} (hd : 2 ≤ d) : ∀ f : Nat, (∀ (x1 : Int32) (x2 : Int32) (x3 : Int32) (h : ea_H) (r : Int32) (h' : ea_H), (gX11_owedBetween f).1 x1 x2 x3 h = some (r, h') → ShC h → ea_W mX11_owedBetween d h0 (some (vI r)) h' 0 [(0, vR (some 0)), (1, vI x1), (2, vI x2), (3, vI x3)] [] h) ∧ (∀ (x1 : Int32) (x2 : Int32) (x3 : Int32) (x4 : Int32) (x5 : Int32) (h : ea_H) (r : Int32) (h' : ea_H), (gX11_owedBetween f).2.1 x1 x2 x3 x4 x5 h = some (r, h') → ShC h → ea_W mX11_owedBetween d h0 (some (vI r)) h' 6 [(0, vR (some 0)), (1, vI x1), (2, vI x2), (3, vI x3), (4, vI x4), (5, vI x5)] [] h) ∧ (∀ (x1 : Int32) (x2 : Int32) (x3 : Int32) (x4 : Int32) (x5 : Int32) (h : ea_H) (r : Int32) (h' : ea_H), (gX11_owedBetween f).2.2 x1 x2 x3 x4 x5 h = some (r, h') → ShC h → ea_W mX11_owedBetween d h0 (some (vI r)) h' 47 [(0, vR (some 0)), (1, vI x1), (2, vI x2), (3, vI x3), (4, vI x4), (5, vI x5)] [] h) := by
  intro f
  induction f with
  | zero => exact ⟨fun _ _ _ _ _ _ E => no_some E, fun _ _ _ _ _ _ _ _ E => no_some E, fun _ _ _ _ _ _ _ _ E => no_some E⟩
  | succ f ih => exact ⟨fun _ _ _ _ _ _ E hs => tBX11_owedBetween_0 hd ih.2.1 E hs, fun _ _ _ _ _ _ _ _ E hs => tBX11_owedBetween_6 hd ih.2.1 ih.2.2 E hs, fun _ _ _ _ _ _ _ _ E hs => tBX11_owedBetween_47 hd ih.2.1 E hs⟩
noncomputable def qX11_owedBetween (x1 : Int32) (x2 : Int32) (x3 : Int32) (h : ea_H) : Option (Int32 × ea_H) := qX11_owedBetween_0 x1 x2 x3 h
theorem sX11_owedBetween {d : Nat} {x1 : Int32} {x2 : Int32} {x3 : Int32} {h : ea_H} {r : Int32} {h' : ea_H} (hd : 2 ≤ d) (hs : ShC h) (K : qX11_owedBetween x1 x2 x3 h = some (r, h')) : ea_Met mX11_owedBetween d [vR (some 0), vI x1, vI x2, vI x3] h (some (vI r)) h' := by
  unfold qX11_owedBetween at K
  obtain ⟨n, hn⟩ := fqX11_owedBetween_0 x1 x2 x3 h _ K
  have W := (tgX11_owedBetween (d := d) (h0 := h) hd n).1 x1 x2 x3 h _ _ (hn n (Nat.le_refl _)) hs
  exact ea_enter rfl (Nat.le_of_ble_eq_true rfl) W
theorem kpX11_owedBetween (x1 : Int32) (x2 : Int32) (x3 : Int32) (h : ea_H) : kp (ea_core h) (qX11_owedBetween x1 x2 x3 h) := fun x e => by
  obtain ⟨n, hn⟩ := fqX11_owedBetween_0 x1 x2 x3 h x e
  exact (kgX11_owedBetween n).1 x1 x2 x3 h x (hn n (Nat.le_refl _))
noncomputable def BX11_differs_0 (x1 : Int32) (x2 : Int32) (x3 : Int32) (h : ea_H) : Option (Int32 × ea_H) :=
  (Option.bind (qX11_isBetween (x1 : Int32) (x2 : Int32) (x3 : Int32) h) fun w1 => (if w1.1 = (0 : Int32) then (some ((0 : Int32), w1.2)) else (gd (vp_in x1 120) (gd ((ea_r w1.2 49 (Int32.toNatClampNeg x1)) = some (Option.getD (ea_r w1.2 49 (Int32.toNatClampNeg x1)) 0)) (gd (((Option.getD (ea_r w1.2 49 (Int32.toNatClampNeg x1)) 0) < ea_n w1.2 ∧ ea_c w1.2 (Option.getD (ea_r w1.2 49 (Int32.toNatClampNeg x1)) 0) = 5)) (Option.bind (qX5_owed (Option.getD (ea_r w1.2 49 (Int32.toNatClampNeg x1)) 0) w1.2) fun w3 => (if w3.1 ≤ (0 : Int32) then (some ((0 : Int32), w3.2)) else (gd (vp_in x1 120) (if (ea_i w3.2 53 (Int32.toNatClampNeg x1)) = (2 : Int32) then (some ((0 : Int32), w3.2)) else (some ((1 : Int32), w3.2)))))))))))
theorem tBX11_differs_0 {d : Nat} {h0 : ea_H} (hd : 2 ≤ d)  {x1 : Int32} {x2 : Int32} {x3 : Int32} {h : ea_H} {r : Int32} {h' : ea_H} (E : BX11_differs_0 x1 x2 x3 h = some (r, h')) (hs : ShC h) : ea_W mX11_differs d h0 (some (vI r)) h' 0 [(0, vR (some 0)), (1, vI x1), (2, vI x2), (3, vI x3)] [] h := by
  unfold BX11_differs_0 at E
  obtain ⟨w1, Ew1, E⟩ := bd_some E
  have hsw1 : ShC w1.2 := ShC_core ((kpX11_isBetween _ _ _ _) _ Ew1) hs
  refine ea_aload_n (pc := 0) dX11_differs_0 rfl 0 rfl ?_
  refine ea_iload_n (pc := 1) dX11_differs_1 rfl 1 rfl ?_
  refine ea_iload_n (pc := 2) dX11_differs_2 rfl 2 rfl ?_
  refine ea_iload_n (pc := 3) dX11_differs_3 rfl 3 rfl ?_
  refine ea_callV (pc := 4) (d' := d - 1) (As := [vI x1, vI x2, vI x3]) (st := []) dX11_differs_4 kX11_isBetween (sX11_isBetween (d := d - 1) (by omega) hs Ew1) (by omega) rfl (Nat.le_of_ble_eq_true rfl) ew_1241 ew_1243 ew_42 (ci := 11) rfl (by decide) (cShC_0 hs).1 (cShC_0 hs).2.1 ?_
  refine ea_if_eq (pc := 7) (tgt := 39) dX11_differs_7 rfl (fun c9 => ?_) (fun c9 => ?_)
  · have E := (if_pos c9).symm.trans E
    refine ea_iconst (pc := 39) dX11_differs_39 (v := 0) rfl ?_
    exact ea_iretO (pc := 40) dX11_differs_40 rfl (ea_bn (Or.inl rfl)) E
  · have E := (if_neg c9).symm.trans E
    obtain ⟨z2, E⟩ := gd_some E
    refine ea_aload_n (pc := 10) dX11_differs_10 rfl 0 rfl ?_
    refine ea_getR (pc := 11) dX11_differs_11 ec_11 (k := 5) (Nat.le_of_ble_eq_true rfl) rfl (Or.inl ew_619) (cShC_0 hsw1).1 (cShC_0 hsw1).2.1 (rShC_0_5 hsw1) ?_
    refine ea_iload_n (pc := 14) dX11_differs_14 rfl 1 rfl ?_
    obtain ⟨e4, E⟩ := gd_some E
    refine ea_aald23 (pc := 15) dX11_differs_15 (cShC_49 hsw1).1 (cShC_49 hsw1).2.1 (ea_vpl (cShC_49 hsw1).2.2 z2) rfl ?_
    obtain ⟨f5, E⟩ := gd_some E
    obtain ⟨w3, Ew3, E⟩ := bd_some E
    have hsw3 : ShC w3.2 := ShC_core ((kpX5_owed _ _) _ Ew3) hsw1
    refine ea_deref0 e4 ?_
    refine ea_callV (pc := 16) (d' := d - 1) (As := []) (st := []) dX11_differs_16 kX5_owed (sX5_owed (d := d - 1) (by omega) Ew3) (by omega) rfl (Nat.le_of_ble_eq_true rfl) ew_1138 ew_1139 ew_1140 (ci := 5) rfl (by decide) f5.1 f5.2 ?_
    refine ea_if_le (pc := 19) (tgt := 39) dX11_differs_19 rfl (fun c8 => ?_) (fun c8 => ?_)
    · have E := (if_pos c8).symm.trans E
      refine ea_iconst (pc := 39) dX11_differs_39 (v := 0) rfl ?_
      exact ea_iretO (pc := 40) dX11_differs_40 rfl (ea_bn (Or.inl rfl)) E
    · have E := (if_neg c8).symm.trans E
      obtain ⟨z6, E⟩ := gd_some E
      refine ea_aload_n (pc := 22) dX11_differs_22 rfl 0 rfl ?_
      refine ea_getR (pc := 23) dX11_differs_23 ec_11 (k := 7) (Nat.le_of_ble_eq_true rfl) rfl (Or.inl ew_621) (cShC_0 hsw3).1 (cShC_0 hsw3).2.1 (rShC_0_7 hsw3) ?_
      refine ea_getR (pc := 26) dX11_differs_26 ec_1 (k := 1) (Nat.le_of_ble_eq_true rfl) rfl (Or.inl ew_444) (cShC_52 hsw3).1 (cShC_52 hsw3).2.1 (rShC_52_1 hsw3) ?_
      refine ea_iload_n (pc := 29) dX11_differs_29 rfl 1 rfl ?_
      refine ea_iald (pc := 30) dX11_differs_30 (cShC_53 hsw3).1 (cShC_53 hsw3).2.1 (ea_vpl (cShC_53 hsw3).2.2 z6) ?_
      refine ea_iconst (pc := 31) dX11_differs_31 (v := 2) rfl ?_
      refine ea_icmp_eq (pc := 32) (tgt := 39) dX11_differs_32 rfl (fun c7 => ?_) (fun c7 => ?_)
      · have E := (if_pos c7).symm.trans E
        refine ea_iconst (pc := 39) dX11_differs_39 (v := 0) rfl ?_
        exact ea_iretO (pc := 40) dX11_differs_40 rfl (ea_bn (Or.inl rfl)) E
      · have E := (if_neg c7).symm.trans E
        refine ea_iconst (pc := 35) dX11_differs_35 (v := 1) rfl ?_
        refine ea_goto (pc := 36) (tgt := 40) dX11_differs_36 rfl ?_
        exact ea_iretO (pc := 40) dX11_differs_40 rfl (ea_bn (Or.inr rfl)) E
theorem kBX11_differs_0  {x1 : Int32} {x2 : Int32} {x3 : Int32} {h : ea_H} : kp (ea_core h) (BX11_differs_0 x1 x2 x3 h) :=
  (kp_bind (kp_tw (kpX11_isBetween _ _ _ _) rfl) fun w1 hcw1 => (kp_ite (kp_ret hcw1) (kp_gd (kp_gd (kp_gd (kp_bind (kp_tw (kpX5_owed _ _) hcw1) fun w3 hcw3 => (kp_ite (kp_ret hcw3) (kp_gd (kp_ite (kp_ret hcw3) (kp_ret hcw3))))))))))
noncomputable def qX11_differs (x1 : Int32) (x2 : Int32) (x3 : Int32) (h : ea_H) : Option (Int32 × ea_H) := BX11_differs_0 x1 x2 x3 h
theorem sX11_differs {d : Nat} {x1 : Int32} {x2 : Int32} {x3 : Int32} {h : ea_H} {r : Int32} {h' : ea_H} (hd : 2 ≤ d) (hs : ShC h) (K : qX11_differs x1 x2 x3 h = some (r, h')) : ea_Met mX11_differs d [vR (some 0), vI x1, vI x2, vI x3] h (some (vI r)) h' := by
  unfold qX11_differs at K
  have W := tBX11_differs_0 hd (h0 := h) K hs
  exact ea_enter rfl (Nat.le_of_ble_eq_true rfl) W
theorem kpX11_differs (x1 : Int32) (x2 : Int32) (x3 : Int32) (h : ea_H) : kp (ea_core h) (qX11_differs x1 x2 x3 h) := kBX11_differs_0
noncomputable def BX11_differing_0 (J5 : Int32 → Int32 → Int32 → Int32 → ea_H → Option (Int32 × ea_H)) (x1 : Int32) (x2 : Int32) (h : ea_H) : Option (Int32 × ea_H) :=
  (J5 (x1 : Int32) (x2 : Int32) (0 : Int32) (0 : Int32) h)
theorem tBX11_differing_0 {d : Nat} {h0 : ea_H} (hd : 3 ≤ d) {J5 : Int32 → Int32 → Int32 → Int32 → ea_H → Option (Int32 × ea_H)}  (kJ5 : ∀ (x1 : Int32) (x2 : Int32) (x3 : Int32) (x4 : Int32) (h : ea_H) (r : Int32) (h' : ea_H), J5 x1 x2 x3 x4 h = some (r, h') → ShC h → ea_W mX11_differing d h0 (some (vI r)) h' 5 [(0, vR (some 0)), (1, vI x1), (2, vI x2), (3, vI x3), (4, vI x4)] [] h) {x1 : Int32} {x2 : Int32} {h : ea_H} {r : Int32} {h' : ea_H} (E : BX11_differing_0 J5 x1 x2 h = some (r, h')) (hs : ShC h) : ea_W mX11_differing d h0 (some (vI r)) h' 0 [(0, vR (some 0)), (1, vI x1), (2, vI x2)] [] h := by
  unfold BX11_differing_0 at E
  refine ea_iconst (pc := 0) dX11_differing_0 (v := 0) rfl ?_
  refine ea_istore_n (pc := 1) (lv' := [(0, vR (some 0)), (1, vI x1), (2, vI x2), (3, vI 0)]) dX11_differing_1 rfl (Nat.le_of_ble_eq_true rfl) [1, 2, 3, 0] rfl ?_
  refine ea_iconst (pc := 2) dX11_differing_2 (v := 0) rfl ?_
  refine ea_istore (pc := 3) (lv' := [(0, vR (some 0)), (1, vI x1), (2, vI x2), (3, vI 0), (4, vI 0)]) dX11_differing_3 (Nat.le_of_ble_eq_true rfl) [1, 2, 3, 4, 0] rfl ?_
  exact (kJ5 (x1 : Int32) (x2 : Int32) (0 : Int32) (0 : Int32) h _ _ E hs)
theorem kBX11_differing_0 {J5 : Int32 → Int32 → Int32 → Int32 → ea_H → Option (Int32 × ea_H)}  (cJ5 : ∀ (x1 : Int32) (x2 : Int32) (x3 : Int32) (x4 : Int32) (h : ea_H), kp (ea_core h) (J5 x1 x2 x3 x4 h)) {x1 : Int32} {x2 : Int32} {h : ea_H} : kp (ea_core h) (BX11_differing_0 J5 x1 x2 h) :=
  (kp_tw (cJ5 _ _ _ _ _) rfl)
theorem lBX11_differing_0 {J5 : Int32 → Int32 → Int32 → Int32 → ea_H → Option (Int32 × ea_H)} {J5_ : Int32 → Int32 → Int32 → Int32 → ea_H → Option (Int32 × ea_H)}  (mJ5 : ∀ (x1 : Int32) (x2 : Int32) (x3 : Int32) (x4 : Int32) (h : ea_H), fle (J5 x1 x2 x3 x4 h) (J5_ x1 x2 x3 x4 h)) {x1 : Int32} {x2 : Int32} {h : ea_H} : fle (BX11_differing_0 J5 x1 x2 h) (BX11_differing_0 J5_ x1 x2 h) :=
  (mJ5 _ _ _ _ _)
theorem nBX11_differing_0 {J5 : Int32 → Int32 → Int32 → Int32 → ea_H → Option (Int32 × ea_H)} {J5_ : Nat → (Int32 → Int32 → Int32 → Int32 → ea_H → Option (Int32 × ea_H))}  (mJ5 : ∀ (x1 : Int32) (x2 : Int32) (x3 : Int32) (x4 : Int32) (h : ea_H), fct (J5 x1 x2 x3 x4 h) (fun f => J5_ f x1 x2 x3 x4 h)) {x1 : Int32} {x2 : Int32} {h : ea_H} : fct (BX11_differing_0 J5 x1 x2 h) (fun f => BX11_differing_0 (J5_ f) x1 x2 h) :=
  (mJ5 _ _ _ _ _)
noncomputable def BX11_differing_5 (J5 : Int32 → Int32 → Int32 → Int32 → ea_H → Option (Int32 × ea_H)) (x1 : Int32) (x2 : Int32) (x3 : Int32) (x4 : Int32) (h : ea_H) : Option (Int32 × ea_H) :=
  (if (ea_i h 52 0) ≤ x4 then (some (x3, h)) else (Option.bind (qX11_differs (x4 : Int32) (x1 : Int32) (x2 : Int32) h) fun w1 => (if w1.1 = (0 : Int32) then (J5 (x1 : Int32) (x2 : Int32) (x3 : Int32) ((x4 + (1 : Int32)) : Int32) w1.2) else (J5 (x1 : Int32) (x2 : Int32) ((x3 + (1 : Int32)) : Int32) ((x4 + (1 : Int32)) : Int32) w1.2))))
theorem tBX11_differing_5 {d : Nat} {h0 : ea_H} (hd : 3 ≤ d) {J5 : Int32 → Int32 → Int32 → Int32 → ea_H → Option (Int32 × ea_H)}  (kJ5 : ∀ (x1 : Int32) (x2 : Int32) (x3 : Int32) (x4 : Int32) (h : ea_H) (r : Int32) (h' : ea_H), J5 x1 x2 x3 x4 h = some (r, h') → ShC h → ea_W mX11_differing d h0 (some (vI r)) h' 5 [(0, vR (some 0)), (1, vI x1), (2, vI x2), (3, vI x3), (4, vI x4)] [] h) {x1 : Int32} {x2 : Int32} {x3 : Int32} {x4 : Int32} {h : ea_H} {r : Int32} {h' : ea_H} (E : BX11_differing_5 J5 x1 x2 x3 x4 h = some (r, h')) (hs : ShC h) : ea_W mX11_differing d h0 (some (vI r)) h' 5 [(0, vR (some 0)), (1, vI x1), (2, vI x2), (3, vI x3), (4, vI x4)] [] h := by
  unfold BX11_differing_5 at E
  refine ea_iload (pc := 5) dX11_differing_5 4 rfl ?_
  refine ea_aload_n (pc := 7) dX11_differing_7 rfl 0 rfl ?_
  refine ea_getR (pc := 8) dX11_differing_8 ec_11 (k := 7) (Nat.le_of_ble_eq_true rfl) rfl (Or.inl ew_621) (cShC_0 hs).1 (cShC_0 hs).2.1 (rShC_0_7 hs) ?_
  refine ea_getI (pc := 11) dX11_differing_11 ec_1 (k := 0) (Nat.le_of_ble_eq_true rfl) rfl (Or.inl ew_442) (cShC_52 hs).1 (cShC_52 hs).2.1 ?_
  refine ea_icmp_ge (pc := 14) (tgt := 37) dX11_differing_14 rfl (fun c3 => ?_) (fun c3 => ?_)
  · have E := (if_pos c3).symm.trans E
    refine ea_iload_n (pc := 37) dX11_differing_37 rfl 3 rfl ?_
    exact ea_iretO (pc := 38) dX11_differing_38 rfl rfl E
  · have E := (if_neg c3).symm.trans E
    obtain ⟨w1, Ew1, E⟩ := bd_some E
    have hsw1 : ShC w1.2 := ShC_core ((kpX11_differs _ _ _ _) _ Ew1) hs
    refine ea_aload_n (pc := 17) dX11_differing_17 rfl 0 rfl ?_
    refine ea_iload (pc := 18) dX11_differing_18 4 rfl ?_
    refine ea_iload_n (pc := 20) dX11_differing_20 rfl 1 rfl ?_
    refine ea_iload_n (pc := 21) dX11_differing_21 rfl 2 rfl ?_
    refine ea_callV (pc := 22) (d' := d - 1) (As := [vI x4, vI x1, vI x2]) (st := []) dX11_differing_22 kX11_differs (sX11_differs (d := d - 1) (by omega) hs Ew1) (by omega) rfl (Nat.le_of_ble_eq_true rfl) ew_1249 ew_1251 ew_44 (ci := 11) rfl (by decide) (cShC_0 hs).1 (cShC_0 hs).2.1 ?_
    refine ea_if_eq (pc := 25) (tgt := 31) dX11_differing_25 rfl (fun c2 => ?_) (fun c2 => ?_)
    · have E := (if_pos c2).symm.trans E
      refine ea_iinc (pc := 31) (v := 1) (lv' := [(0, vR (some 0)), (1, vI x1), (2, vI x2), (3, vI x3), (4, vI (x4 + (1 : Int32)))]) dX11_differing_31 4 rfl rfl (Nat.le_of_ble_eq_true rfl) [1, 2, 3, 4, 0] rfl ?_
      refine ea_goto (pc := 34) (tgt := 5) dX11_differing_34 rfl ?_
      exact (kJ5 (x1 : Int32) (x2 : Int32) (x3 : Int32) ((x4 + (1 : Int32)) : Int32) w1.2 _ _ E hsw1)
    · have E := (if_neg c2).symm.trans E
      refine ea_iinc (pc := 28) (v := 1) (lv' := [(0, vR (some 0)), (1, vI x1), (2, vI x2), (3, vI (x3 + (1 : Int32))), (4, vI x4)]) dX11_differing_28 3 rfl rfl (Nat.le_of_ble_eq_true rfl) [1, 2, 3, 0, 4] rfl ?_
      refine ea_iinc (pc := 31) (v := 1) (lv' := [(0, vR (some 0)), (1, vI x1), (2, vI x2), (3, vI (x3 + (1 : Int32))), (4, vI (x4 + (1 : Int32)))]) dX11_differing_31 4 rfl rfl (Nat.le_of_ble_eq_true rfl) [1, 2, 3, 4, 0] rfl ?_
      refine ea_goto (pc := 34) (tgt := 5) dX11_differing_34 rfl ?_
      exact (kJ5 (x1 : Int32) (x2 : Int32) ((x3 + (1 : Int32)) : Int32) ((x4 + (1 : Int32)) : Int32) w1.2 _ _ E hsw1)
theorem kBX11_differing_5 {J5 : Int32 → Int32 → Int32 → Int32 → ea_H → Option (Int32 × ea_H)}  (cJ5 : ∀ (x1 : Int32) (x2 : Int32) (x3 : Int32) (x4 : Int32) (h : ea_H), kp (ea_core h) (J5 x1 x2 x3 x4 h)) {x1 : Int32} {x2 : Int32} {x3 : Int32} {x4 : Int32} {h : ea_H} : kp (ea_core h) (BX11_differing_5 J5 x1 x2 x3 x4 h) :=
  (kp_ite (kp_ret rfl) (kp_bind (kp_tw (kpX11_differs _ _ _ _) rfl) fun w1 hcw1 => (kp_ite (kp_tw (cJ5 _ _ _ _ _) hcw1) (kp_tw (cJ5 _ _ _ _ _) hcw1))))
theorem lBX11_differing_5 {J5 : Int32 → Int32 → Int32 → Int32 → ea_H → Option (Int32 × ea_H)} {J5_ : Int32 → Int32 → Int32 → Int32 → ea_H → Option (Int32 × ea_H)}  (mJ5 : ∀ (x1 : Int32) (x2 : Int32) (x3 : Int32) (x4 : Int32) (h : ea_H), fle (J5 x1 x2 x3 x4 h) (J5_ x1 x2 x3 x4 h)) {x1 : Int32} {x2 : Int32} {x3 : Int32} {x4 : Int32} {h : ea_H} : fle (BX11_differing_5 J5 x1 x2 x3 x4 h) (BX11_differing_5 J5_ x1 x2 x3 x4 h) :=
  (fle_ite (fle_rfl _) (fle_bind (fle_rfl _) fun _ => (fle_ite (mJ5 _ _ _ _ _) (mJ5 _ _ _ _ _))))
theorem nBX11_differing_5 {J5 : Int32 → Int32 → Int32 → Int32 → ea_H → Option (Int32 × ea_H)} {J5_ : Nat → (Int32 → Int32 → Int32 → Int32 → ea_H → Option (Int32 × ea_H))}  (mJ5 : ∀ (x1 : Int32) (x2 : Int32) (x3 : Int32) (x4 : Int32) (h : ea_H), fct (J5 x1 x2 x3 x4 h) (fun f => J5_ f x1 x2 x3 x4 h)) {x1 : Int32} {x2 : Int32} {x3 : Int32} {x4 : Int32} {h : ea_H} : fct (BX11_differing_5 J5 x1 x2 x3 x4 h) (fun f => BX11_differing_5 (J5_ f) x1 x2 x3 x4 h) :=
  (fct_ite (fct_rfl _) (fct_bind (fct_rfl _) fun _ => (fct_ite (mJ5 _ _ _ _ _) (mJ5 _ _ _ _ _))))
noncomputable def gX11_differing : Nat → (Int32 → Int32 → ea_H → Option (Int32 × ea_H)) × (Int32 → Int32 → Int32 → Int32 → ea_H → Option (Int32 × ea_H))
  | 0 => (fun _ _ _ => none, fun _ _ _ _ _ => none)
  | f + 1 => (BX11_differing_0 (gX11_differing f).2, BX11_differing_5 (gX11_differing f).2)
theorem mgX11_differing : ∀ f : Nat, (∀ (x1 : Int32) (x2 : Int32) (h : ea_H), fle ((gX11_differing f).1 x1 x2 h) ((gX11_differing (f + 1)).1 x1 x2 h)) ∧ (∀ (x1 : Int32) (x2 : Int32) (x3 : Int32) (x4 : Int32) (h : ea_H), fle ((gX11_differing f).2 x1 x2 x3 x4 h) ((gX11_differing (f + 1)).2 x1 x2 x3 x4 h)) := by
  intro f
  induction f with
  | zero => exact ⟨fun _ _ _ => fle_none _, fun _ _ _ _ _ => fle_none _⟩
  | succ f ih => exact ⟨fun _ _ _ => lBX11_differing_0 ih.2, fun _ _ _ _ _ => lBX11_differing_5 ih.2⟩
noncomputable def qX11_differing_0 (x1 : Int32) (x2 : Int32) (h : ea_H) : Option (Int32 × ea_H) := flim fun f => (gX11_differing f).1 x1 x2 h
noncomputable def qX11_differing_5 (x1 : Int32) (x2 : Int32) (x3 : Int32) (x4 : Int32) (h : ea_H) : Option (Int32 × ea_H) := flim fun f => (gX11_differing f).2 x1 x2 x3 x4 h
theorem fqX11_differing_0 (x1 : Int32) (x2 : Int32) (h : ea_H) : fct (qX11_differing_0 x1 x2 h) fun f => (gX11_differing f).1 x1 x2 h := flim_ct fun f => (mgX11_differing f).1 x1 x2 h
theorem fqX11_differing_5 (x1 : Int32) (x2 : Int32) (x3 : Int32) (x4 : Int32) (h : ea_H) : fct (qX11_differing_5 x1 x2 x3 x4 h) fun f => (gX11_differing f).2 x1 x2 x3 x4 h := flim_ct fun f => (mgX11_differing f).2 x1 x2 x3 x4 h
/-- how a block opens -/
theorem uqX11_differing_0 {x1 : Int32} {x2 : Int32} {h : ea_H} {P : Int32 × ea_H → Prop} (H : sat (BX11_differing_0 qX11_differing_5 x1 x2 h) P) : sat (qX11_differing_0 x1 x2 h) P := by
  obtain ⟨x, e, hp⟩ := H
  obtain ⟨n, hn⟩ := nBX11_differing_0 fqX11_differing_5 x e
  exact ⟨x, flim_at (fun f => (mgX11_differing f).1 x1 x2 h) (f := n + 1) (hn n (Nat.le_refl _)), hp⟩
/-- how a block opens -/
theorem uqX11_differing_5 {x1 : Int32} {x2 : Int32} {x3 : Int32} {x4 : Int32} {h : ea_H} {P : Int32 × ea_H → Prop} (H : sat (BX11_differing_5 qX11_differing_5 x1 x2 x3 x4 h) P) : sat (qX11_differing_5 x1 x2 x3 x4 h) P := by
  obtain ⟨x, e, hp⟩ := H
  obtain ⟨n, hn⟩ := nBX11_differing_5 fqX11_differing_5 x e
  exact ⟨x, flim_at (fun f => (mgX11_differing f).2 x1 x2 x3 x4 h) (f := n + 1) (hn n (Nat.le_refl _)), hp⟩
theorem kgX11_differing : ∀ f : Nat, (∀ (x1 : Int32) (x2 : Int32) (h : ea_H), kp (ea_core h) ((gX11_differing f).1 x1 x2 h)) ∧ (∀ (x1 : Int32) (x2 : Int32) (x3 : Int32) (x4 : Int32) (h : ea_H), kp (ea_core h) ((gX11_differing f).2 x1 x2 x3 x4 h)) := by
  intro f
  induction f with
  | zero => exact ⟨fun _ _ _ => kp_none _, fun _ _ _ _ _ => kp_none _⟩
  | succ f ih => exact ⟨fun _ _ _ => kBX11_differing_0 ih.2, fun _ _ _ _ _ => kBX11_differing_5 ih.2⟩
theorem tgX11_differing {d : Nat} {h0 : ea_H} (hd : 3 ≤ d) : ∀ f : Nat, (∀ (x1 : Int32) (x2 : Int32) (h : ea_H) (r : Int32) (h' : ea_H), (gX11_differing f).1 x1 x2 h = some (r, h') → ShC h → ea_W mX11_differing d h0 (some (vI r)) h' 0 [(0, vR (some 0)), (1, vI x1), (2, vI x2)] [] h) ∧ (∀ (x1 : Int32) (x2 : Int32) (x3 : Int32) (x4 : Int32) (h : ea_H) (r : Int32) (h' : ea_H), (gX11_differing f).2 x1 x2 x3 x4 h = some (r, h') → ShC h → ea_W mX11_differing d h0 (some (vI r)) h' 5 [(0, vR (some 0)), (1, vI x1), (2, vI x2), (3, vI x3), (4, vI x4)] [] h) := by
  intro f
  induction f with
  | zero => exact ⟨fun _ _ _ _ _ E => no_some E, fun _ _ _ _ _ _ _ E => no_some E⟩
  | succ f ih => exact ⟨fun _ _ _ _ _ E hs => tBX11_differing_0 hd ih.2 E hs, fun _ _ _ _ _ _ _ E hs => tBX11_differing_5 hd ih.2 E hs⟩
noncomputable def qX11_differing (x1 : Int32) (x2 : Int32) (h : ea_H) : Option (Int32 × ea_H) := qX11_differing_0 x1 x2 h
theorem sX11_differing {d : Nat} {x1 : Int32} {x2 : Int32} {h : ea_H} {r : Int32} {h' : ea_H} (hd : 3 ≤ d) (hs : ShC h) (K : qX11_differing x1 x2 h = some (r, h')) : ea_Met mX11_differing d [vR (some 0), vI x1, vI x2] h (some (vI r)) h' := by
  unfold qX11_differing at K
  obtain ⟨n, hn⟩ := fqX11_differing_0 x1 x2 h _ K
  have W := (tgX11_differing (d := d) (h0 := h) hd n).1 x1 x2 h _ _ (hn n (Nat.le_refl _)) hs
  exact ea_enter rfl (Nat.le_of_ble_eq_true rfl) W
theorem kpX11_differing (x1 : Int32) (x2 : Int32) (h : ea_H) : kp (ea_core h) (qX11_differing x1 x2 h) := fun x e => by
  obtain ⟨n, hn⟩ := fqX11_differing_0 x1 x2 h x e
  exact (kgX11_differing n).1 x1 x2 h x (hn n (Nat.le_refl _))
noncomputable def BX11_differingLetter_0 (J6 : Int32 → Int32 → Int32 → Int32 → Int32 → ea_H → Option (Int32 × ea_H)) (x1 : Int32) (x2 : Int32) (x3 : Int32) (h : ea_H) : Option (Int32 × ea_H) :=
  (J6 (x1 : Int32) (x2 : Int32) (x3 : Int32) (0 : Int32) (0 : Int32) h)
theorem tBX11_differingLetter_0 {d : Nat} {h0 : ea_H} (hd : 3 ≤ d) {J6 : Int32 → Int32 → Int32 → Int32 → Int32 → ea_H → Option (Int32 × ea_H)}  (kJ6 : ∀ (x1 : Int32) (x2 : Int32) (x3 : Int32) (x4 : Int32) (x5 : Int32) (h : ea_H) (r : Int32) (h' : ea_H), J6 x1 x2 x3 x4 x5 h = some (r, h') → ShC h → ea_W mX11_differingLetter d h0 (some (vI r)) h' 6 [(0, vR (some 0)), (1, vI x1), (2, vI x2), (3, vI x3), (4, vI x4), (5, vI x5)] [] h) {x1 : Int32} {x2 : Int32} {x3 : Int32} {h : ea_H} {r : Int32} {h' : ea_H} (E : BX11_differingLetter_0 J6 x1 x2 x3 h = some (r, h')) (hs : ShC h) : ea_W mX11_differingLetter d h0 (some (vI r)) h' 0 [(0, vR (some 0)), (1, vI x1), (2, vI x2), (3, vI x3)] [] h := by
  unfold BX11_differingLetter_0 at E
  refine ea_iconst (pc := 0) dX11_differingLetter_0 (v := 0) rfl ?_
  refine ea_istore (pc := 1) (lv' := [(0, vR (some 0)), (1, vI x1), (2, vI x2), (3, vI x3), (4, vI 0)]) dX11_differingLetter_1 (Nat.le_of_ble_eq_true rfl) [1, 2, 3, 4, 0] rfl ?_
  refine ea_iconst (pc := 3) dX11_differingLetter_3 (v := 0) rfl ?_
  refine ea_istore (pc := 4) (lv' := [(0, vR (some 0)), (1, vI x1), (2, vI x2), (3, vI x3), (4, vI 0), (5, vI 0)]) dX11_differingLetter_4 (Nat.le_of_ble_eq_true rfl) [1, 2, 3, 4, 5, 0] rfl ?_
  exact (kJ6 (x1 : Int32) (x2 : Int32) (x3 : Int32) (0 : Int32) (0 : Int32) h _ _ E hs)
theorem kBX11_differingLetter_0 {J6 : Int32 → Int32 → Int32 → Int32 → Int32 → ea_H → Option (Int32 × ea_H)}  (cJ6 : ∀ (x1 : Int32) (x2 : Int32) (x3 : Int32) (x4 : Int32) (x5 : Int32) (h : ea_H), kp (ea_core h) (J6 x1 x2 x3 x4 x5 h)) {x1 : Int32} {x2 : Int32} {x3 : Int32} {h : ea_H} : kp (ea_core h) (BX11_differingLetter_0 J6 x1 x2 x3 h) :=
  (kp_tw (cJ6 _ _ _ _ _ _) rfl)
theorem lBX11_differingLetter_0 {J6 : Int32 → Int32 → Int32 → Int32 → Int32 → ea_H → Option (Int32 × ea_H)} {J6_ : Int32 → Int32 → Int32 → Int32 → Int32 → ea_H → Option (Int32 × ea_H)}  (mJ6 : ∀ (x1 : Int32) (x2 : Int32) (x3 : Int32) (x4 : Int32) (x5 : Int32) (h : ea_H), fle (J6 x1 x2 x3 x4 x5 h) (J6_ x1 x2 x3 x4 x5 h)) {x1 : Int32} {x2 : Int32} {x3 : Int32} {h : ea_H} : fle (BX11_differingLetter_0 J6 x1 x2 x3 h) (BX11_differingLetter_0 J6_ x1 x2 x3 h) :=
  (mJ6 _ _ _ _ _ _)
theorem nBX11_differingLetter_0 {J6 : Int32 → Int32 → Int32 → Int32 → Int32 → ea_H → Option (Int32 × ea_H)} {J6_ : Nat → (Int32 → Int32 → Int32 → Int32 → Int32 → ea_H → Option (Int32 × ea_H))}  (mJ6 : ∀ (x1 : Int32) (x2 : Int32) (x3 : Int32) (x4 : Int32) (x5 : Int32) (h : ea_H), fct (J6 x1 x2 x3 x4 x5 h) (fun f => J6_ f x1 x2 x3 x4 x5 h)) {x1 : Int32} {x2 : Int32} {x3 : Int32} {h : ea_H} : fct (BX11_differingLetter_0 J6 x1 x2 x3 h) (fun f => BX11_differingLetter_0 (J6_ f) x1 x2 x3 h) :=
  (mJ6 _ _ _ _ _ _)
noncomputable def BX11_differingLetter_6 (J6 : Int32 → Int32 → Int32 → Int32 → Int32 → ea_H → Option (Int32 × ea_H)) (x1 : Int32) (x2 : Int32) (x3 : Int32) (x4 : Int32) (x5 : Int32) (h : ea_H) : Option (Int32 × ea_H) :=
  (if (ea_i h 52 0) ≤ x5 then (some (((-1) : Int32), h)) else (Option.bind (qX11_differs (x5 : Int32) (x1 : Int32) (x2 : Int32) h) fun w1 => (if w1.1 = (0 : Int32) then (J6 (x1 : Int32) (x2 : Int32) (x3 : Int32) (x4 : Int32) ((x5 + (1 : Int32)) : Int32) w1.2) else (if x4 = x3 then (some (x5, w1.2)) else (J6 (x1 : Int32) (x2 : Int32) (x3 : Int32) ((x4 + (1 : Int32)) : Int32) ((x5 + (1 : Int32)) : Int32) w1.2)))))
theorem tBX11_differingLetter_6 {d : Nat} {h0 : ea_H} (hd : 3 ≤ d) {J6 : Int32 → Int32 → Int32 → Int32 → Int32 → ea_H → Option (Int32 × ea_H)}  (kJ6 : ∀ (x1 : Int32) (x2 : Int32) (x3 : Int32) (x4 : Int32) (x5 : Int32) (h : ea_H) (r : Int32) (h' : ea_H), J6 x1 x2 x3 x4 x5 h = some (r, h') → ShC h → ea_W mX11_differingLetter d h0 (some (vI r)) h' 6 [(0, vR (some 0)), (1, vI x1), (2, vI x2), (3, vI x3), (4, vI x4), (5, vI x5)] [] h) {x1 : Int32} {x2 : Int32} {x3 : Int32} {x4 : Int32} {x5 : Int32} {h : ea_H} {r : Int32} {h' : ea_H} (E : BX11_differingLetter_6 J6 x1 x2 x3 x4 x5 h = some (r, h')) (hs : ShC h) : ea_W mX11_differingLetter d h0 (some (vI r)) h' 6 [(0, vR (some 0)), (1, vI x1), (2, vI x2), (3, vI x3), (4, vI x4), (5, vI x5)] [] h := by
  unfold BX11_differingLetter_6 at E
  refine ea_iload (pc := 6) dX11_differingLetter_6 5 rfl ?_
  refine ea_aload_n (pc := 8) dX11_differingLetter_8 rfl 0 rfl ?_
  refine ea_getR (pc := 9) dX11_differingLetter_9 ec_11 (k := 7) (Nat.le_of_ble_eq_true rfl) rfl (Or.inl ew_621) (cShC_0 hs).1 (cShC_0 hs).2.1 (rShC_0_7 hs) ?_
  refine ea_getI (pc := 12) dX11_differingLetter_12 ec_1 (k := 0) (Nat.le_of_ble_eq_true rfl) rfl (Or.inl ew_442) (cShC_52 hs).1 (cShC_52 hs).2.1 ?_
  refine ea_icmp_ge (pc := 15) (tgt := 47) dX11_differingLetter_15 rfl (fun c4 => ?_) (fun c4 => ?_)
  · have E := (if_pos c4).symm.trans E
    refine ea_iconst (pc := 47) dX11_differingLetter_47 (v := (-1)) rfl ?_
    exact ea_iretO (pc := 48) dX11_differingLetter_48 rfl rfl E
  · have E := (if_neg c4).symm.trans E
    obtain ⟨w1, Ew1, E⟩ := bd_some E
    have hsw1 : ShC w1.2 := ShC_core ((kpX11_differs _ _ _ _) _ Ew1) hs
    refine ea_aload_n (pc := 18) dX11_differingLetter_18 rfl 0 rfl ?_
    refine ea_iload (pc := 19) dX11_differingLetter_19 5 rfl ?_
    refine ea_iload_n (pc := 21) dX11_differingLetter_21 rfl 1 rfl ?_
    refine ea_iload_n (pc := 22) dX11_differingLetter_22 rfl 2 rfl ?_
    refine ea_callV (pc := 23) (d' := d - 1) (As := [vI x5, vI x1, vI x2]) (st := []) dX11_differingLetter_23 kX11_differs (sX11_differs (d := d - 1) (by omega) hs Ew1) (by omega) rfl (Nat.le_of_ble_eq_true rfl) ew_1249 ew_1251 ew_44 (ci := 11) rfl (by decide) (cShC_0 hs).1 (cShC_0 hs).2.1 ?_
    refine ea_if_eq (pc := 26) (tgt := 41) dX11_differingLetter_26 rfl (fun c3 => ?_) (fun c3 => ?_)
    · have E := (if_pos c3).symm.trans E
      refine ea_iinc (pc := 41) (v := 1) (lv' := [(0, vR (some 0)), (1, vI x1), (2, vI x2), (3, vI x3), (4, vI x4), (5, vI (x5 + (1 : Int32)))]) dX11_differingLetter_41 5 rfl rfl (Nat.le_of_ble_eq_true rfl) [1, 2, 3, 4, 5, 0] rfl ?_
      refine ea_goto (pc := 44) (tgt := 6) dX11_differingLetter_44 rfl ?_
      exact (kJ6 (x1 : Int32) (x2 : Int32) (x3 : Int32) (x4 : Int32) ((x5 + (1 : Int32)) : Int32) w1.2 _ _ E hsw1)
    · have E := (if_neg c3).symm.trans E
      refine ea_iload (pc := 29) dX11_differingLetter_29 4 rfl ?_
      refine ea_iload_n (pc := 31) dX11_differingLetter_31 rfl 3 rfl ?_
      refine ea_icmp_ne (pc := 32) (tgt := 38) dX11_differingLetter_32 rfl (fun c2 => ?_) (fun c2 => ?_)
      · have E := (if_neg c2).symm.trans E
        refine ea_iinc (pc := 38) (v := 1) (lv' := [(0, vR (some 0)), (1, vI x1), (2, vI x2), (3, vI x3), (4, vI (x4 + (1 : Int32))), (5, vI x5)]) dX11_differingLetter_38 4 rfl rfl (Nat.le_of_ble_eq_true rfl) [1, 2, 3, 4, 0, 5] rfl ?_
        refine ea_iinc (pc := 41) (v := 1) (lv' := [(0, vR (some 0)), (1, vI x1), (2, vI x2), (3, vI x3), (4, vI (x4 + (1 : Int32))), (5, vI (x5 + (1 : Int32)))]) dX11_differingLetter_41 5 rfl rfl (Nat.le_of_ble_eq_true rfl) [1, 2, 3, 4, 5, 0] rfl ?_
        refine ea_goto (pc := 44) (tgt := 6) dX11_differingLetter_44 rfl ?_
        exact (kJ6 (x1 : Int32) (x2 : Int32) (x3 : Int32) ((x4 + (1 : Int32)) : Int32) ((x5 + (1 : Int32)) : Int32) w1.2 _ _ E hsw1)
      · have E := (if_pos c2).symm.trans E
        refine ea_iload (pc := 35) dX11_differingLetter_35 5 rfl ?_
        exact ea_iretO (pc := 37) dX11_differingLetter_37 rfl rfl E
theorem kBX11_differingLetter_6 {J6 : Int32 → Int32 → Int32 → Int32 → Int32 → ea_H → Option (Int32 × ea_H)}  (cJ6 : ∀ (x1 : Int32) (x2 : Int32) (x3 : Int32) (x4 : Int32) (x5 : Int32) (h : ea_H), kp (ea_core h) (J6 x1 x2 x3 x4 x5 h)) {x1 : Int32} {x2 : Int32} {x3 : Int32} {x4 : Int32} {x5 : Int32} {h : ea_H} : kp (ea_core h) (BX11_differingLetter_6 J6 x1 x2 x3 x4 x5 h) :=
  (kp_ite (kp_ret rfl) (kp_bind (kp_tw (kpX11_differs _ _ _ _) rfl) fun w1 hcw1 => (kp_ite (kp_tw (cJ6 _ _ _ _ _ _) hcw1) (kp_ite (kp_ret hcw1) (kp_tw (cJ6 _ _ _ _ _ _) hcw1)))))
theorem lBX11_differingLetter_6 {J6 : Int32 → Int32 → Int32 → Int32 → Int32 → ea_H → Option (Int32 × ea_H)} {J6_ : Int32 → Int32 → Int32 → Int32 → Int32 → ea_H → Option (Int32 × ea_H)}  (mJ6 : ∀ (x1 : Int32) (x2 : Int32) (x3 : Int32) (x4 : Int32) (x5 : Int32) (h : ea_H), fle (J6 x1 x2 x3 x4 x5 h) (J6_ x1 x2 x3 x4 x5 h)) {x1 : Int32} {x2 : Int32} {x3 : Int32} {x4 : Int32} {x5 : Int32} {h : ea_H} : fle (BX11_differingLetter_6 J6 x1 x2 x3 x4 x5 h) (BX11_differingLetter_6 J6_ x1 x2 x3 x4 x5 h) :=
  (fle_ite (fle_rfl _) (fle_bind (fle_rfl _) fun _ => (fle_ite (mJ6 _ _ _ _ _ _) (fle_ite (fle_rfl _) (mJ6 _ _ _ _ _ _)))))
theorem nBX11_differingLetter_6 {J6 : Int32 → Int32 → Int32 → Int32 → Int32 → ea_H → Option (Int32 × ea_H)} {J6_ : Nat → (Int32 → Int32 → Int32 → Int32 → Int32 → ea_H → Option (Int32 × ea_H))}  (mJ6 : ∀ (x1 : Int32) (x2 : Int32) (x3 : Int32) (x4 : Int32) (x5 : Int32) (h : ea_H), fct (J6 x1 x2 x3 x4 x5 h) (fun f => J6_ f x1 x2 x3 x4 x5 h)) {x1 : Int32} {x2 : Int32} {x3 : Int32} {x4 : Int32} {x5 : Int32} {h : ea_H} : fct (BX11_differingLetter_6 J6 x1 x2 x3 x4 x5 h) (fun f => BX11_differingLetter_6 (J6_ f) x1 x2 x3 x4 x5 h) :=
  (fct_ite (fct_rfl _) (fct_bind (fct_rfl _) fun _ => (fct_ite (mJ6 _ _ _ _ _ _) (fct_ite (fct_rfl _) (mJ6 _ _ _ _ _ _)))))
noncomputable def gX11_differingLetter : Nat → (Int32 → Int32 → Int32 → ea_H → Option (Int32 × ea_H)) × (Int32 → Int32 → Int32 → Int32 → Int32 → ea_H → Option (Int32 × ea_H))
  | 0 => (fun _ _ _ _ => none, fun _ _ _ _ _ _ => none)
  | f + 1 => (BX11_differingLetter_0 (gX11_differingLetter f).2, BX11_differingLetter_6 (gX11_differingLetter f).2)
theorem mgX11_differingLetter : ∀ f : Nat, (∀ (x1 : Int32) (x2 : Int32) (x3 : Int32) (h : ea_H), fle ((gX11_differingLetter f).1 x1 x2 x3 h) ((gX11_differingLetter (f + 1)).1 x1 x2 x3 h)) ∧ (∀ (x1 : Int32) (x2 : Int32) (x3 : Int32) (x4 : Int32) (x5 : Int32) (h : ea_H), fle ((gX11_differingLetter f).2 x1 x2 x3 x4 x5 h) ((gX11_differingLetter (f + 1)).2 x1 x2 x3 x4 x5 h)) := by
  intro f
  induction f with
  | zero => exact ⟨fun _ _ _ _ => fle_none _, fun _ _ _ _ _ _ => fle_none _⟩
  | succ f ih => exact ⟨fun _ _ _ _ => lBX11_differingLetter_0 ih.2, fun _ _ _ _ _ _ => lBX11_differingLetter_6 ih.2⟩
noncomputable def qX11_differingLetter_0 (x1 : Int32) (x2 : Int32) (x3 : Int32) (h : ea_H) : Option (Int32 × ea_H) := flim fun f => (gX11_differingLetter f).1 x1 x2 x3 h
noncomputable def qX11_differingLetter_6 (x1 : Int32) (x2 : Int32) (x3 : Int32) (x4 : Int32) (x5 : Int32) (h : ea_H) : Option (Int32 × ea_H) := flim fun f => (gX11_differingLetter f).2 x1 x2 x3 x4 x5 h
theorem fqX11_differingLetter_0 (x1 : Int32) (x2 : Int32) (x3 : Int32) (h : ea_H) : fct (qX11_differingLetter_0 x1 x2 x3 h) fun f => (gX11_differingLetter f).1 x1 x2 x3 h := flim_ct fun f => (mgX11_differingLetter f).1 x1 x2 x3 h
theorem fqX11_differingLetter_6 (x1 : Int32) (x2 : Int32) (x3 : Int32) (x4 : Int32) (x5 : Int32) (h : ea_H) : fct (qX11_differingLetter_6 x1 x2 x3 x4 x5 h) fun f => (gX11_differingLetter f).2 x1 x2 x3 x4 x5 h := flim_ct fun f => (mgX11_differingLetter f).2 x1 x2 x3 x4 x5 h
/-- how a block opens -/
theorem uqX11_differingLetter_0 {x1 : Int32} {x2 : Int32} {x3 : Int32} {h : ea_H} {P : Int32 × ea_H → Prop} (H : sat (BX11_differingLetter_0 qX11_differingLetter_6 x1 x2 x3 h) P) : sat (qX11_differingLetter_0 x1 x2 x3 h) P := by
  obtain ⟨x, e, hp⟩ := H
  obtain ⟨n, hn⟩ := nBX11_differingLetter_0 fqX11_differingLetter_6 x e
  exact ⟨x, flim_at (fun f => (mgX11_differingLetter f).1 x1 x2 x3 h) (f := n + 1) (hn n (Nat.le_refl _)), hp⟩
/-- how a block opens -/
theorem uqX11_differingLetter_6 {x1 : Int32} {x2 : Int32} {x3 : Int32} {x4 : Int32} {x5 : Int32} {h : ea_H} {P : Int32 × ea_H → Prop} (H : sat (BX11_differingLetter_6 qX11_differingLetter_6 x1 x2 x3 x4 x5 h) P) : sat (qX11_differingLetter_6 x1 x2 x3 x4 x5 h) P := by
  obtain ⟨x, e, hp⟩ := H
  obtain ⟨n, hn⟩ := nBX11_differingLetter_6 fqX11_differingLetter_6 x e
  exact ⟨x, flim_at (fun f => (mgX11_differingLetter f).2 x1 x2 x3 x4 x5 h) (f := n + 1) (hn n (Nat.le_refl _)), hp⟩
theorem kgX11_differingLetter : ∀ f : Nat, (∀ (x1 : Int32) (x2 : Int32) (x3 : Int32) (h : ea_H), kp (ea_core h) ((gX11_differingLetter f).1 x1 x2 x3 h)) ∧ (∀ (x1 : Int32) (x2 : Int32) (x3 : Int32) (x4 : Int32) (x5 : Int32) (h : ea_H), kp (ea_core h) ((gX11_differingLetter f).2 x1 x2 x3 x4 x5 h)) := by
  intro f
  induction f with
  | zero => exact ⟨fun _ _ _ _ => kp_none _, fun _ _ _ _ _ _ => kp_none _⟩
  | succ f ih => exact ⟨fun _ _ _ _ => kBX11_differingLetter_0 ih.2, fun _ _ _ _ _ _ => kBX11_differingLetter_6 ih.2⟩
theorem tgX11_differingLetter {d : Nat} {h0 : ea_H} (hd : 3 ≤ d) : ∀ f : Nat, (∀ (x1 : Int32) (x2 : Int32) (x3 : Int32) (h : ea_H) (r : Int32) (h' : ea_H), (gX11_differingLetter f).1 x1 x2 x3 h = some (r, h') → ShC h → ea_W mX11_differingLetter d h0 (some (vI r)) h' 0 [(0, vR (some 0)), (1, vI x1), (2, vI x2), (3, vI x3)] [] h) ∧ (∀ (x1 : Int32) (x2 : Int32) (x3 : Int32) (x4 : Int32) (x5 : Int32) (h : ea_H) (r : Int32) (h' : ea_H), (gX11_differingLetter f).2 x1 x2 x3 x4 x5 h = some (r, h') → ShC h → ea_W mX11_differingLetter d h0 (some (vI r)) h' 6 [(0, vR (some 0)), (1, vI x1), (2, vI x2), (3, vI x3), (4, vI x4), (5, vI x5)] [] h) := by
  intro f
  induction f with
  | zero => exact ⟨fun _ _ _ _ _ _ E => no_some E, fun _ _ _ _ _ _ _ _ E => no_some E⟩
  | succ f ih => exact ⟨fun _ _ _ _ _ _ E hs => tBX11_differingLetter_0 hd ih.2 E hs, fun _ _ _ _ _ _ _ _ E hs => tBX11_differingLetter_6 hd ih.2 E hs⟩
noncomputable def qX11_differingLetter (x1 : Int32) (x2 : Int32) (x3 : Int32) (h : ea_H) : Option (Int32 × ea_H) := qX11_differingLetter_0 x1 x2 x3 h
theorem sX11_differingLetter {d : Nat} {x1 : Int32} {x2 : Int32} {x3 : Int32} {h : ea_H} {r : Int32} {h' : ea_H} (hd : 3 ≤ d) (hs : ShC h) (K : qX11_differingLetter x1 x2 x3 h = some (r, h')) : ea_Met mX11_differingLetter d [vR (some 0), vI x1, vI x2, vI x3] h (some (vI r)) h' := by
  unfold qX11_differingLetter at K
  obtain ⟨n, hn⟩ := fqX11_differingLetter_0 x1 x2 x3 h _ K
  have W := (tgX11_differingLetter (d := d) (h0 := h) hd n).1 x1 x2 x3 h _ _ (hn n (Nat.le_refl _)) hs
  exact ea_enter rfl (Nat.le_of_ble_eq_true rfl) W
theorem kpX11_differingLetter (x1 : Int32) (x2 : Int32) (x3 : Int32) (h : ea_H) : kp (ea_core h) (qX11_differingLetter x1 x2 x3 h) := fun x e => by
  obtain ⟨n, hn⟩ := fqX11_differingLetter_0 x1 x2 x3 h x e
  exact (kgX11_differingLetter n).1 x1 x2 x3 h x (hn n (Nat.le_refl _))
noncomputable def BX11_isUnderWay_0 (x1 : Int32) (x2 : Int32) (h : ea_H) : Option (Int32 × ea_H) :=
  (Option.bind (qX9_goneFrom (x1 : Int32) (x2 : Int32) ((ea_i h 0 14) : Int32) h) fun w1 => (if w1.1 = ((-1) : Int32) then (some ((0 : Int32), w1.2)) else (Option.bind (qX9_comesAt (x1 : Int32) (x2 : Int32) ((w1.1 + (1 : Int32)) : Int32) w1.2) fun w2 => (if w2.1 ≤ (ea_i w2.2 0 14) then (some ((0 : Int32), w2.2)) else (some ((1 : Int32), w2.2))))))
theorem tBX11_isUnderWay_0 {d : Nat} {h0 : ea_H} (hd : 3 ≤ d)  {x1 : Int32} {x2 : Int32} {h : ea_H} {r : Int32} {h' : ea_H} (E : BX11_isUnderWay_0 x1 x2 h = some (r, h')) (hs : ShC h) : ea_W mX11_isUnderWay d h0 (some (vI r)) h' 0 [(0, vR (some 0)), (1, vI x1), (2, vI x2)] [] h := by
  unfold BX11_isUnderWay_0 at E
  obtain ⟨w1, Ew1, E⟩ := bd_some E
  have hsw1 : ShC w1.2 := ShC_core ((kpX9_goneFrom _ _ _ _) _ Ew1) hs
  refine ea_aload_n (pc := 0) dX11_isUnderWay_0 rfl 0 rfl ?_
  refine ea_getR (pc := 1) dX11_isUnderWay_1 ec_11 (k := 1) (Nat.le_of_ble_eq_true rfl) rfl (Or.inl ew_615) (cShC_0 hs).1 (cShC_0 hs).2.1 (rShC_0_1 hs) ?_
  refine ea_iload_n (pc := 4) dX11_isUnderWay_4 rfl 1 rfl ?_
  refine ea_iload_n (pc := 5) dX11_isUnderWay_5 rfl 2 rfl ?_
  refine ea_aload_n (pc := 6) dX11_isUnderWay_6 rfl 0 rfl ?_
  refine ea_getI (pc := 7) dX11_isUnderWay_7 ec_11 (k := 14) (Nat.le_of_ble_eq_true rfl) rfl (Or.inl ew_628) (cShC_0 hs).1 (cShC_0 hs).2.1 ?_
  refine ea_callV (pc := 10) (d' := d - 1) (As := [vI x1, vI x2, vI (ea_i h 0 14)]) (st := []) dX11_isUnderWay_10 kX9_goneFrom (sX9_goneFrom (d := d - 1) (by omega) hs Ew1) (by omega) rfl (Nat.le_of_ble_eq_true rfl) ew_1228 ew_1229 ew_1230 (ci := 9) rfl (by decide) (cShC_5 hs).1 (cShC_5 hs).2.1 ?_
  refine ea_istore_n (pc := 13) (lv' := [(0, vR (some 0)), (1, vI x1), (2, vI x2), (3, vI w1.1)]) dX11_isUnderWay_13 rfl (Nat.le_of_ble_eq_true rfl) [1, 2, 3, 0] rfl ?_
  refine ea_iload_n (pc := 14) dX11_isUnderWay_14 rfl 3 rfl ?_
  refine ea_iconst (pc := 15) dX11_isUnderWay_15 (v := (-1)) rfl ?_
  refine ea_icmp_eq (pc := 16) (tgt := 42) dX11_isUnderWay_16 rfl (fun c4 => ?_) (fun c4 => ?_)
  · have E := (if_pos c4).symm.trans E
    refine ea_iconst (pc := 42) dX11_isUnderWay_42 (v := 0) rfl ?_
    exact ea_iretO (pc := 43) dX11_isUnderWay_43 rfl (ea_bn (Or.inl rfl)) E
  · have E := (if_neg c4).symm.trans E
    obtain ⟨w2, Ew2, E⟩ := bd_some E
    have hsw2 : ShC w2.2 := ShC_core ((kpX9_comesAt _ _ _ _) _ Ew2) hsw1
    refine ea_aload_n (pc := 19) dX11_isUnderWay_19 rfl 0 rfl ?_
    refine ea_getR (pc := 20) dX11_isUnderWay_20 ec_11 (k := 1) (Nat.le_of_ble_eq_true rfl) rfl (Or.inl ew_615) (cShC_0 hsw1).1 (cShC_0 hsw1).2.1 (rShC_0_1 hsw1) ?_
    refine ea_iload_n (pc := 23) dX11_isUnderWay_23 rfl 1 rfl ?_
    refine ea_iload_n (pc := 24) dX11_isUnderWay_24 rfl 2 rfl ?_
    refine ea_iload_n (pc := 25) dX11_isUnderWay_25 rfl 3 rfl ?_
    refine ea_iconst (pc := 26) dX11_isUnderWay_26 (v := 1) rfl ?_
    refine ea_iadd (pc := 27) dX11_isUnderWay_27 ?_
    refine ea_callV (pc := 28) (d' := d - 1) (As := [vI x1, vI x2, vI (w1.1 + (1 : Int32))]) (st := []) dX11_isUnderWay_28 kX9_comesAt (sX9_comesAt (d := d - 1) (by omega) hsw1 Ew2) (by omega) rfl (Nat.le_of_ble_eq_true rfl) ew_741 ew_742 ew_743 (ci := 9) rfl (by decide) (cShC_5 hsw1).1 (cShC_5 hsw1).2.1 ?_
    refine ea_aload_n (pc := 31) dX11_isUnderWay_31 rfl 0 rfl ?_
    refine ea_getI (pc := 32) dX11_isUnderWay_32 ec_11 (k := 14) (Nat.le_of_ble_eq_true rfl) rfl (Or.inl ew_628) (cShC_0 hsw2).1 (cShC_0 hsw2).2.1 ?_
    refine ea_icmp_le (pc := 35) (tgt := 42) dX11_isUnderWay_35 rfl (fun c3 => ?_) (fun c3 => ?_)
    · have E := (if_pos c3).symm.trans E
      refine ea_iconst (pc := 42) dX11_isUnderWay_42 (v := 0) rfl ?_
      exact ea_iretO (pc := 43) dX11_isUnderWay_43 rfl (ea_bn (Or.inl rfl)) E
    · have E := (if_neg c3).symm.trans E
      refine ea_iconst (pc := 38) dX11_isUnderWay_38 (v := 1) rfl ?_
      refine ea_goto (pc := 39) (tgt := 43) dX11_isUnderWay_39 rfl ?_
      exact ea_iretO (pc := 43) dX11_isUnderWay_43 rfl (ea_bn (Or.inr rfl)) E
theorem kBX11_isUnderWay_0  {x1 : Int32} {x2 : Int32} {h : ea_H} : kp (ea_core h) (BX11_isUnderWay_0 x1 x2 h) :=
  (kp_bind (kp_tw (kpX9_goneFrom _ _ _ _) rfl) fun w1 hcw1 => (kp_ite (kp_ret hcw1) (kp_bind (kp_tw (kpX9_comesAt _ _ _ _) hcw1) fun w2 hcw2 => (kp_ite (kp_ret hcw2) (kp_ret hcw2)))))
noncomputable def qX11_isUnderWay (x1 : Int32) (x2 : Int32) (h : ea_H) : Option (Int32 × ea_H) := BX11_isUnderWay_0 x1 x2 h
theorem sX11_isUnderWay {d : Nat} {x1 : Int32} {x2 : Int32} {h : ea_H} {r : Int32} {h' : ea_H} (hd : 3 ≤ d) (hs : ShC h) (K : qX11_isUnderWay x1 x2 h = some (r, h')) : ea_Met mX11_isUnderWay d [vR (some 0), vI x1, vI x2] h (some (vI r)) h' := by
  unfold qX11_isUnderWay at K
  have W := tBX11_isUnderWay_0 hd (h0 := h) K hs
  exact ea_enter rfl (Nat.le_of_ble_eq_true rfl) W
theorem kpX11_isUnderWay (x1 : Int32) (x2 : Int32) (h : ea_H) : kp (ea_core h) (qX11_isUnderWay x1 x2 h) := kBX11_isUnderWay_0
noncomputable def BX11_owedOfTaken_0 (J4 : Int32 → Int32 → Int32 → ea_H → Option (Int32 × ea_H)) (x1 : Int32) (h : ea_H) : Option (Int32 × ea_H) :=
  (J4 (x1 : Int32) (0 : Int32) (0 : Int32) h)
theorem tBX11_owedOfTaken_0 {d : Nat} {h0 : ea_H} (hd : 2 ≤ d) {J4 : Int32 → Int32 → Int32 → ea_H → Option (Int32 × ea_H)}  (kJ4 : ∀ (x1 : Int32) (x2 : Int32) (x3 : Int32) (h : ea_H) (r : Int32) (h' : ea_H), J4 x1 x2 x3 h = some (r, h') → ShC h → ea_W mX11_owedOfTaken d h0 (some (vI r)) h' 4 [(0, vR (some 0)), (1, vI x1), (2, vI x2), (3, vI x3)] [] h) {x1 : Int32} {h : ea_H} {r : Int32} {h' : ea_H} (E : BX11_owedOfTaken_0 J4 x1 h = some (r, h')) (hs : ShC h) : ea_W mX11_owedOfTaken d h0 (some (vI r)) h' 0 [(0, vR (some 0)), (1, vI x1)] [] h := by
  unfold BX11_owedOfTaken_0 at E
  refine ea_iconst (pc := 0) dX11_owedOfTaken_0 (v := 0) rfl ?_
  refine ea_istore_n (pc := 1) (lv' := [(0, vR (some 0)), (1, vI x1), (2, vI 0)]) dX11_owedOfTaken_1 rfl (Nat.le_of_ble_eq_true rfl) [1, 2, 0] rfl ?_
  refine ea_iconst (pc := 2) dX11_owedOfTaken_2 (v := 0) rfl ?_
  refine ea_istore_n (pc := 3) (lv' := [(0, vR (some 0)), (1, vI x1), (2, vI 0), (3, vI 0)]) dX11_owedOfTaken_3 rfl (Nat.le_of_ble_eq_true rfl) [1, 2, 3, 0] rfl ?_
  exact (kJ4 (x1 : Int32) (0 : Int32) (0 : Int32) h _ _ E hs)
theorem kBX11_owedOfTaken_0 {J4 : Int32 → Int32 → Int32 → ea_H → Option (Int32 × ea_H)}  (cJ4 : ∀ (x1 : Int32) (x2 : Int32) (x3 : Int32) (h : ea_H), kp (ea_core h) (J4 x1 x2 x3 h)) {x1 : Int32} {h : ea_H} : kp (ea_core h) (BX11_owedOfTaken_0 J4 x1 h) :=
  (kp_tw (cJ4 _ _ _ _) rfl)
theorem lBX11_owedOfTaken_0 {J4 : Int32 → Int32 → Int32 → ea_H → Option (Int32 × ea_H)} {J4_ : Int32 → Int32 → Int32 → ea_H → Option (Int32 × ea_H)}  (mJ4 : ∀ (x1 : Int32) (x2 : Int32) (x3 : Int32) (h : ea_H), fle (J4 x1 x2 x3 h) (J4_ x1 x2 x3 h)) {x1 : Int32} {h : ea_H} : fle (BX11_owedOfTaken_0 J4 x1 h) (BX11_owedOfTaken_0 J4_ x1 h) :=
  (mJ4 _ _ _ _)
theorem nBX11_owedOfTaken_0 {J4 : Int32 → Int32 → Int32 → ea_H → Option (Int32 × ea_H)} {J4_ : Nat → (Int32 → Int32 → Int32 → ea_H → Option (Int32 × ea_H))}  (mJ4 : ∀ (x1 : Int32) (x2 : Int32) (x3 : Int32) (h : ea_H), fct (J4 x1 x2 x3 h) (fun f => J4_ f x1 x2 x3 h)) {x1 : Int32} {h : ea_H} : fct (BX11_owedOfTaken_0 J4 x1 h) (fun f => BX11_owedOfTaken_0 (J4_ f) x1 h) :=
  (mJ4 _ _ _ _)
noncomputable def BX11_owedOfTaken_4 (J4 : Int32 → Int32 → Int32 → ea_H → Option (Int32 × ea_H)) (x1 : Int32) (x2 : Int32) (x3 : Int32) (h : ea_H) : Option (Int32 × ea_H) :=
  (if (ea_i h 52 0) ≤ x3 then (some (x2, h)) else (Option.bind (qX11_isTaken (x3 : Int32) (x1 : Int32) h) fun w1 => (if w1.1 = (0 : Int32) then (J4 (x1 : Int32) (x2 : Int32) ((x3 + (1 : Int32)) : Int32) w1.2) else (gd (vp_in x3 120) (gd ((ea_r w1.2 49 (Int32.toNatClampNeg x3)) = some (Option.getD (ea_r w1.2 49 (Int32.toNatClampNeg x3)) 0)) (gd (((Option.getD (ea_r w1.2 49 (Int32.toNatClampNeg x3)) 0) < ea_n w1.2 ∧ ea_c w1.2 (Option.getD (ea_r w1.2 49 (Int32.toNatClampNeg x3)) 0) = 5)) (Option.bind (qX5_owed (Option.getD (ea_r w1.2 49 (Int32.toNatClampNeg x3)) 0) w1.2) fun w3 => (J4 (x1 : Int32) ((x2 + w3.1) : Int32) ((x3 + (1 : Int32)) : Int32) w3.2))))))))
theorem tBX11_owedOfTaken_4 {d : Nat} {h0 : ea_H} (hd : 2 ≤ d) {J4 : Int32 → Int32 → Int32 → ea_H → Option (Int32 × ea_H)}  (kJ4 : ∀ (x1 : Int32) (x2 : Int32) (x3 : Int32) (h : ea_H) (r : Int32) (h' : ea_H), J4 x1 x2 x3 h = some (r, h') → ShC h → ea_W mX11_owedOfTaken d h0 (some (vI r)) h' 4 [(0, vR (some 0)), (1, vI x1), (2, vI x2), (3, vI x3)] [] h) {x1 : Int32} {x2 : Int32} {x3 : Int32} {h : ea_H} {r : Int32} {h' : ea_H} (E : BX11_owedOfTaken_4 J4 x1 x2 x3 h = some (r, h')) (hs : ShC h) : ea_W mX11_owedOfTaken d h0 (some (vI r)) h' 4 [(0, vR (some 0)), (1, vI x1), (2, vI x2), (3, vI x3)] [] h := by
  unfold BX11_owedOfTaken_4 at E
  refine ea_iload_n (pc := 4) dX11_owedOfTaken_4 rfl 3 rfl ?_
  refine ea_aload_n (pc := 5) dX11_owedOfTaken_5 rfl 0 rfl ?_
  refine ea_getR (pc := 6) dX11_owedOfTaken_6 ec_11 (k := 7) (Nat.le_of_ble_eq_true rfl) rfl (Or.inl ew_621) (cShC_0 hs).1 (cShC_0 hs).2.1 (rShC_0_7 hs) ?_
  refine ea_getI (pc := 9) dX11_owedOfTaken_9 ec_1 (k := 0) (Nat.le_of_ble_eq_true rfl) rfl (Or.inl ew_442) (cShC_52 hs).1 (cShC_52 hs).2.1 ?_
  refine ea_icmp_ge (pc := 12) (tgt := 42) dX11_owedOfTaken_12 rfl (fun c7 => ?_) (fun c7 => ?_)
  · have E := (if_pos c7).symm.trans E
    refine ea_iload_n (pc := 42) dX11_owedOfTaken_42 rfl 2 rfl ?_
    exact ea_iretO (pc := 43) dX11_owedOfTaken_43 rfl rfl E
  · have E := (if_neg c7).symm.trans E
    obtain ⟨w1, Ew1, E⟩ := bd_some E
    have hsw1 : ShC w1.2 := ShC_core ((kpX11_isTaken _ _ _) _ Ew1) hs
    refine ea_aload_n (pc := 15) dX11_owedOfTaken_15 rfl 0 rfl ?_
    refine ea_iload_n (pc := 16) dX11_owedOfTaken_16 rfl 3 rfl ?_
    refine ea_iload_n (pc := 17) dX11_owedOfTaken_17 rfl 1 rfl ?_
    refine ea_callV (pc := 18) (d' := d - 1) (As := [vI x3, vI x1]) (st := []) dX11_owedOfTaken_18 kX11_isTaken (sX11_isTaken (d := d - 1) (by omega) hs Ew1) (by omega) rfl (Nat.le_of_ble_eq_true rfl) ew_1317 ew_1319 ew_48 (ci := 11) rfl (by decide) (cShC_0 hs).1 (cShC_0 hs).2.1 ?_
    refine ea_if_eq (pc := 21) (tgt := 36) dX11_owedOfTaken_21 rfl (fun c6 => ?_) (fun c6 => ?_)
    · have E := (if_pos c6).symm.trans E
      refine ea_iinc (pc := 36) (v := 1) (lv' := [(0, vR (some 0)), (1, vI x1), (2, vI x2), (3, vI (x3 + (1 : Int32)))]) dX11_owedOfTaken_36 3 rfl rfl (Nat.le_of_ble_eq_true rfl) [1, 2, 3, 0] rfl ?_
      refine ea_goto (pc := 39) (tgt := 4) dX11_owedOfTaken_39 rfl ?_
      exact (kJ4 (x1 : Int32) (x2 : Int32) ((x3 + (1 : Int32)) : Int32) w1.2 _ _ E hsw1)
    · have E := (if_neg c6).symm.trans E
      obtain ⟨z2, E⟩ := gd_some E
      refine ea_iload_n (pc := 24) dX11_owedOfTaken_24 rfl 2 rfl ?_
      refine ea_aload_n (pc := 25) dX11_owedOfTaken_25 rfl 0 rfl ?_
      refine ea_getR (pc := 26) dX11_owedOfTaken_26 ec_11 (k := 5) (Nat.le_of_ble_eq_true rfl) rfl (Or.inl ew_619) (cShC_0 hsw1).1 (cShC_0 hsw1).2.1 (rShC_0_5 hsw1) ?_
      refine ea_iload_n (pc := 29) dX11_owedOfTaken_29 rfl 3 rfl ?_
      obtain ⟨e4, E⟩ := gd_some E
      refine ea_aald23 (pc := 30) dX11_owedOfTaken_30 (cShC_49 hsw1).1 (cShC_49 hsw1).2.1 (ea_vpl (cShC_49 hsw1).2.2 z2) rfl ?_
      obtain ⟨f5, E⟩ := gd_some E
      obtain ⟨w3, Ew3, E⟩ := bd_some E
      have hsw3 : ShC w3.2 := ShC_core ((kpX5_owed _ _) _ Ew3) hsw1
      refine ea_deref0 e4 ?_
      refine ea_callV (pc := 31) (d' := d - 1) (As := []) (st := [vI x2]) dX11_owedOfTaken_31 kX5_owed (sX5_owed (d := d - 1) (by omega) Ew3) (by omega) rfl (Nat.le_of_ble_eq_true rfl) ew_1138 ew_1139 ew_1140 (ci := 5) rfl (by decide) f5.1 f5.2 ?_
      refine ea_iadd (pc := 34) dX11_owedOfTaken_34 ?_
      refine ea_istore_n (pc := 35) (lv' := [(0, vR (some 0)), (1, vI x1), (2, vI (x2 + w3.1)), (3, vI x3)]) dX11_owedOfTaken_35 rfl (Nat.le_of_ble_eq_true rfl) [1, 2, 0, 3] rfl ?_
      refine ea_iinc (pc := 36) (v := 1) (lv' := [(0, vR (some 0)), (1, vI x1), (2, vI (x2 + w3.1)), (3, vI (x3 + (1 : Int32)))]) dX11_owedOfTaken_36 3 rfl rfl (Nat.le_of_ble_eq_true rfl) [1, 2, 3, 0] rfl ?_
      refine ea_goto (pc := 39) (tgt := 4) dX11_owedOfTaken_39 rfl ?_
      exact (kJ4 (x1 : Int32) ((x2 + w3.1) : Int32) ((x3 + (1 : Int32)) : Int32) w3.2 _ _ E hsw3)
theorem kBX11_owedOfTaken_4 {J4 : Int32 → Int32 → Int32 → ea_H → Option (Int32 × ea_H)}  (cJ4 : ∀ (x1 : Int32) (x2 : Int32) (x3 : Int32) (h : ea_H), kp (ea_core h) (J4 x1 x2 x3 h)) {x1 : Int32} {x2 : Int32} {x3 : Int32} {h : ea_H} : kp (ea_core h) (BX11_owedOfTaken_4 J4 x1 x2 x3 h) :=
  (kp_ite (kp_ret rfl) (kp_bind (kp_tw (kpX11_isTaken _ _ _) rfl) fun w1 hcw1 => (kp_ite (kp_tw (cJ4 _ _ _ _) hcw1) (kp_gd (kp_gd (kp_gd (kp_bind (kp_tw (kpX5_owed _ _) hcw1) fun w3 hcw3 => (kp_tw (cJ4 _ _ _ _) hcw3))))))))
theorem lBX11_owedOfTaken_4 {J4 : Int32 → Int32 → Int32 → ea_H → Option (Int32 × ea_H)} {J4_ : Int32 → Int32 → Int32 → ea_H → Option (Int32 × ea_H)}  (mJ4 : ∀ (x1 : Int32) (x2 : Int32) (x3 : Int32) (h : ea_H), fle (J4 x1 x2 x3 h) (J4_ x1 x2 x3 h)) {x1 : Int32} {x2 : Int32} {x3 : Int32} {h : ea_H} : fle (BX11_owedOfTaken_4 J4 x1 x2 x3 h) (BX11_owedOfTaken_4 J4_ x1 x2 x3 h) :=
  (fle_ite (fle_rfl _) (fle_bind (fle_rfl _) fun _ => (fle_ite (mJ4 _ _ _ _) (fle_gd (fle_gd (fle_gd (fle_bind (fle_rfl _) fun _ => (mJ4 _ _ _ _))))))))
theorem nBX11_owedOfTaken_4 {J4 : Int32 → Int32 → Int32 → ea_H → Option (Int32 × ea_H)} {J4_ : Nat → (Int32 → Int32 → Int32 → ea_H → Option (Int32 × ea_H))}  (mJ4 : ∀ (x1 : Int32) (x2 : Int32) (x3 : Int32) (h : ea_H), fct (J4 x1 x2 x3 h) (fun f => J4_ f x1 x2 x3 h)) {x1 : Int32} {x2 : Int32} {x3 : Int32} {h : ea_H} : fct (BX11_owedOfTaken_4 J4 x1 x2 x3 h) (fun f => BX11_owedOfTaken_4 (J4_ f) x1 x2 x3 h) :=
  (fct_ite (fct_rfl _) (fct_bind (fct_rfl _) fun _ => (fct_ite (mJ4 _ _ _ _) (fct_gd (fct_gd (fct_gd (fct_bind (fct_rfl _) fun _ => (mJ4 _ _ _ _))))))))
noncomputable def gX11_owedOfTaken : Nat → (Int32 → ea_H → Option (Int32 × ea_H)) × (Int32 → Int32 → Int32 → ea_H → Option (Int32 × ea_H))
  | 0 => (fun _ _ => none, fun _ _ _ _ => none)
  | f + 1 => (BX11_owedOfTaken_0 (gX11_owedOfTaken f).2, BX11_owedOfTaken_4 (gX11_owedOfTaken f).2)
theorem mgX11_owedOfTaken : ∀ f : Nat, (∀ (x1 : Int32) (h : ea_H), fle ((gX11_owedOfTaken f).1 x1 h) ((gX11_owedOfTaken (f + 1)).1 x1 h)) ∧ (∀ (x1 : Int32) (x2 : Int32) (x3 : Int32) (h : ea_H), fle ((gX11_owedOfTaken f).2 x1 x2 x3 h) ((gX11_owedOfTaken (f + 1)).2 x1 x2 x3 h)) := by
  intro f
  induction f with
  | zero => exact ⟨fun _ _ => fle_none _, fun _ _ _ _ => fle_none _⟩
  | succ f ih => exact ⟨fun _ _ => lBX11_owedOfTaken_0 ih.2, fun _ _ _ _ => lBX11_owedOfTaken_4 ih.2⟩
noncomputable def qX11_owedOfTaken_0 (x1 : Int32) (h : ea_H) : Option (Int32 × ea_H) := flim fun f => (gX11_owedOfTaken f).1 x1 h
noncomputable def qX11_owedOfTaken_4 (x1 : Int32) (x2 : Int32) (x3 : Int32) (h : ea_H) : Option (Int32 × ea_H) := flim fun f => (gX11_owedOfTaken f).2 x1 x2 x3 h
theorem fqX11_owedOfTaken_0 (x1 : Int32) (h : ea_H) : fct (qX11_owedOfTaken_0 x1 h) fun f => (gX11_owedOfTaken f).1 x1 h := flim_ct fun f => (mgX11_owedOfTaken f).1 x1 h
theorem fqX11_owedOfTaken_4 (x1 : Int32) (x2 : Int32) (x3 : Int32) (h : ea_H) : fct (qX11_owedOfTaken_4 x1 x2 x3 h) fun f => (gX11_owedOfTaken f).2 x1 x2 x3 h := flim_ct fun f => (mgX11_owedOfTaken f).2 x1 x2 x3 h
/-- how a block opens -/
theorem uqX11_owedOfTaken_0 {x1 : Int32} {h : ea_H} {P : Int32 × ea_H → Prop} (H : sat (BX11_owedOfTaken_0 qX11_owedOfTaken_4 x1 h) P) : sat (qX11_owedOfTaken_0 x1 h) P := by
  obtain ⟨x, e, hp⟩ := H
  obtain ⟨n, hn⟩ := nBX11_owedOfTaken_0 fqX11_owedOfTaken_4 x e
  exact ⟨x, flim_at (fun f => (mgX11_owedOfTaken f).1 x1 h) (f := n + 1) (hn n (Nat.le_refl _)), hp⟩
/-- how a block opens -/
theorem uqX11_owedOfTaken_4 {x1 : Int32} {x2 : Int32} {x3 : Int32} {h : ea_H} {P : Int32 × ea_H → Prop} (H : sat (BX11_owedOfTaken_4 qX11_owedOfTaken_4 x1 x2 x3 h) P) : sat (qX11_owedOfTaken_4 x1 x2 x3 h) P := by
  obtain ⟨x, e, hp⟩ := H
  obtain ⟨n, hn⟩ := nBX11_owedOfTaken_4 fqX11_owedOfTaken_4 x e
  exact ⟨x, flim_at (fun f => (mgX11_owedOfTaken f).2 x1 x2 x3 h) (f := n + 1) (hn n (Nat.le_refl _)), hp⟩
theorem kgX11_owedOfTaken : ∀ f : Nat, (∀ (x1 : Int32) (h : ea_H), kp (ea_core h) ((gX11_owedOfTaken f).1 x1 h)) ∧ (∀ (x1 : Int32) (x2 : Int32) (x3 : Int32) (h : ea_H), kp (ea_core h) ((gX11_owedOfTaken f).2 x1 x2 x3 h)) := by
  intro f
  induction f with
  | zero => exact ⟨fun _ _ => kp_none _, fun _ _ _ _ => kp_none _⟩
  | succ f ih => exact ⟨fun _ _ => kBX11_owedOfTaken_0 ih.2, fun _ _ _ _ => kBX11_owedOfTaken_4 ih.2⟩
theorem tgX11_owedOfTaken {d : Nat} {h0 : ea_H} (hd : 2 ≤ d) : ∀ f : Nat, (∀ (x1 : Int32) (h : ea_H) (r : Int32) (h' : ea_H), (gX11_owedOfTaken f).1 x1 h = some (r, h') → ShC h → ea_W mX11_owedOfTaken d h0 (some (vI r)) h' 0 [(0, vR (some 0)), (1, vI x1)] [] h) ∧ (∀ (x1 : Int32) (x2 : Int32) (x3 : Int32) (h : ea_H) (r : Int32) (h' : ea_H), (gX11_owedOfTaken f).2 x1 x2 x3 h = some (r, h') → ShC h → ea_W mX11_owedOfTaken d h0 (some (vI r)) h' 4 [(0, vR (some 0)), (1, vI x1), (2, vI x2), (3, vI x3)] [] h) := by
  intro f
  induction f with
  | zero => exact ⟨fun _ _ _ _ E => no_some E, fun _ _ _ _ _ _ E => no_some E⟩
  | succ f ih => exact ⟨fun _ _ _ _ E hs => tBX11_owedOfTaken_0 hd ih.2 E hs, fun _ _ _ _ _ _ E hs => tBX11_owedOfTaken_4 hd ih.2 E hs⟩
noncomputable def qX11_owedOfTaken (x1 : Int32) (h : ea_H) : Option (Int32 × ea_H) := qX11_owedOfTaken_0 x1 h
theorem sX11_owedOfTaken {d : Nat} {x1 : Int32} {h : ea_H} {r : Int32} {h' : ea_H} (hd : 2 ≤ d) (hs : ShC h) (K : qX11_owedOfTaken x1 h = some (r, h')) : ea_Met mX11_owedOfTaken d [vR (some 0), vI x1] h (some (vI r)) h' := by
  unfold qX11_owedOfTaken at K
  obtain ⟨n, hn⟩ := fqX11_owedOfTaken_0 x1 h _ K
  have W := (tgX11_owedOfTaken (d := d) (h0 := h) hd n).1 x1 h _ _ (hn n (Nat.le_refl _)) hs
  exact ea_enter rfl (Nat.le_of_ble_eq_true rfl) W
theorem kpX11_owedOfTaken (x1 : Int32) (h : ea_H) : kp (ea_core h) (qX11_owedOfTaken x1 h) := fun x e => by
  obtain ⟨n, hn⟩ := fqX11_owedOfTaken_0 x1 h x e
  exact (kgX11_owedOfTaken n).1 x1 h x (hn n (Nat.le_refl _))
noncomputable def BX1_sort_at52_0 (J57 : Int32 → Int32 → Int32 → ea_H → Option (Unit × ea_H)) (x1 : Int32) (x2 : Int32) (x3 : Int32) (h : ea_H) : Option (Unit × ea_H) :=
  (gd (vp_in x2 10) (if (x3 + (1 : Int32)) < (ea_i h 6 (Int32.toNatClampNeg x2)) then (gd (vp_in ((((8 : Int32) * x2) + x3) + (1 : Int32)) 80) (gd (vp_in (((8 : Int32) * x2) + x3) 80) (Option.bind (qX3_begin (((ea_i h 8 (Int32.toNatClampNeg ((((8 : Int32) * x2) + x3) + (1 : Int32)))) - (ea_i h 9 (Int32.toNatClampNeg (((8 : Int32) * x2) + x3)))) : Int32) h) fun w4 => (J57 (x1 : Int32) (x2 : Int32) (0 : Int32) w4.2)))) else (some ((), h))))
theorem tBX1_sort_at52_0 {d : Nat} {h0 : ea_H} (hd : 2 ≤ d) {J57 : Int32 → Int32 → Int32 → ea_H → Option (Unit × ea_H)}  (kJ57 : ∀ (x1 : Int32) (x2 : Int32) (x4 : Int32) (h : ea_H) (r : Unit) (h' : ea_H), J57 x1 x2 x4 h = some (r, h') → ShC h → ea_W mX1_sort d h0 none h' 57 [(0, vR (some 52)), (1, vI x1), (2, vI x2), (4, vI x4)] [] h) {x1 : Int32} {x2 : Int32} {x3 : Int32} {h : ea_H} {r : Unit} {h' : ea_H} (E : BX1_sort_at52_0 J57 x1 x2 x3 h = some (r, h')) (hs : ShC h) : ea_W mX1_sort d h0 none h' 0 [(0, vR (some 52)), (1, vI x1), (2, vI x2), (3, vI x3)] [] h := by
  unfold BX1_sort_at52_0 at E
  obtain ⟨z1, E⟩ := gd_some E
  refine ea_iload_n (pc := 0) dX1_sort_0 rfl 3 rfl ?_
  refine ea_iconst (pc := 1) dX1_sort_1 (v := 1) rfl ?_
  refine ea_iadd (pc := 2) dX1_sort_2 ?_
  refine ea_aload_n (pc := 3) dX1_sort_3 rfl 0 rfl ?_
  refine ea_getR (pc := 4) dX1_sort_4 ec_1 (k := 11) (Nat.le_of_ble_eq_true rfl) rfl (Or.inl ew_459) (cShC_52 hs).1 (cShC_52 hs).2.1 (rShC_52_11 hs) ?_
  refine ea_getR (pc := 7) dX1_sort_7 ec_9 (k := 1) (Nat.le_of_ble_eq_true rfl) rfl (Or.inl ew_189) (cShC_5 hs).1 (cShC_5 hs).2.1 (rShC_5_1 hs) ?_
  refine ea_iload_n (pc := 10) dX1_sort_10 rfl 2 rfl ?_
  refine ea_iald (pc := 11) dX1_sort_11 (cShC_6 hs).1 (cShC_6 hs).2.1 (ea_vpl (cShC_6 hs).2.2 z1) ?_
  refine ea_icmp_lt (pc := 12) (tgt := 16) dX1_sort_12 rfl (fun c5 => ?_) (fun c5 => ?_)
  · have E := (if_pos c5).symm.trans E
    obtain ⟨z2, E⟩ := gd_some E
    refine ea_aload_n (pc := 16) dX1_sort_16 rfl 0 rfl ?_
    refine ea_getR (pc := 17) dX1_sort_17 ec_1 (k := 13) (Nat.le_of_ble_eq_true rfl) rfl (Or.inl ew_461) (cShC_52 hs).1 (cShC_52 hs).2.1 (rShC_52_13 hs) ?_
    refine ea_aload_n (pc := 20) dX1_sort_20 rfl 0 rfl ?_
    refine ea_getR (pc := 21) dX1_sort_21 ec_1 (k := 11) (Nat.le_of_ble_eq_true rfl) rfl (Or.inl ew_459) (cShC_52 hs).1 (cShC_52 hs).2.1 (rShC_52_11 hs) ?_
    refine ea_getR (pc := 24) dX1_sort_24 ec_9 (k := 3) (Nat.le_of_ble_eq_true rfl) rfl (Or.inl ew_198) (cShC_5 hs).1 (cShC_5 hs).2.1 (rShC_5_3 hs) ?_
    refine ea_bipush (pc := 27) dX1_sort_27 (v := 8) rfl ?_
    refine ea_iload_n (pc := 29) dX1_sort_29 rfl 2 rfl ?_
    refine ea_imul (pc := 30) dX1_sort_30 ?_
    refine ea_iload_n (pc := 31) dX1_sort_31 rfl 3 rfl ?_
    refine ea_iadd (pc := 32) dX1_sort_32 ?_
    refine ea_iconst (pc := 33) dX1_sort_33 (v := 1) rfl ?_
    refine ea_iadd (pc := 34) dX1_sort_34 ?_
    obtain ⟨z3, E⟩ := gd_some E
    refine ea_iald (pc := 35) dX1_sort_35 (cShC_8 hs).1 (cShC_8 hs).2.1 (ea_vpl (cShC_8 hs).2.2 z2) ?_
    refine ea_aload_n (pc := 36) dX1_sort_36 rfl 0 rfl ?_
    refine ea_getR (pc := 37) dX1_sort_37 ec_1 (k := 11) (Nat.le_of_ble_eq_true rfl) rfl (Or.inl ew_459) (cShC_52 hs).1 (cShC_52 hs).2.1 (rShC_52_11 hs) ?_
    refine ea_getR (pc := 40) dX1_sort_40 ec_9 (k := 4) (Nat.le_of_ble_eq_true rfl) rfl (Or.inl ew_201) (cShC_5 hs).1 (cShC_5 hs).2.1 (rShC_5_4 hs) ?_
    refine ea_bipush (pc := 43) dX1_sort_43 (v := 8) rfl ?_
    refine ea_iload_n (pc := 45) dX1_sort_45 rfl 2 rfl ?_
    refine ea_imul (pc := 46) dX1_sort_46 ?_
    refine ea_iload_n (pc := 47) dX1_sort_47 rfl 3 rfl ?_
    refine ea_iadd (pc := 48) dX1_sort_48 ?_
    obtain ⟨w4, Ew4, E⟩ := bd_some E
    have hsw4 : ShC w4.2 := ShC_core ((kpX3_begin _ _) _ Ew4) hs
    refine ea_iald (pc := 49) dX1_sort_49 (cShC_9 hs).1 (cShC_9 hs).2.1 (ea_vpl (cShC_9 hs).2.2 z3) ?_
    refine ea_isub (pc := 50) dX1_sort_50 ?_
    refine ea_callV (pc := 51) (d' := d - 1) (As := [vI ((ea_i h 8 (Int32.toNatClampNeg ((((8 : Int32) * x2) + x3) + (1 : Int32)))) - (ea_i h 9 (Int32.toNatClampNeg (((8 : Int32) * x2) + x3))))]) (st := []) dX1_sort_51 kX3_begin (sX3_begin (d := d - 1) (by omega) hs Ew4) (by omega) rfl (Nat.le_of_ble_eq_true rfl) ew_892 ew_893 ew_894 (ci := 3) rfl (by decide) (cShC_18 hs).1 (cShC_18 hs).2.1 ?_
    refine ea_iconst (pc := 54) dX1_sort_54 (v := 0) rfl ?_
    refine ea_istore (pc := 55) (lv' := [(0, vR (some 52)), (1, vI x1), (2, vI x2), (4, vI 0)]) dX1_sort_55 (Nat.le_of_ble_eq_true rfl) [1, 2, 3, 0] rfl ?_
    exact (kJ57 (x1 : Int32) (x2 : Int32) (0 : Int32) w4.2 _ _ E hsw4)
  · have E := (if_neg c5).symm.trans E
    exact ea_vretO (pc := 15) dX1_sort_15 rfl E
theorem kBX1_sort_at52_0 {J57 : Int32 → Int32 → Int32 → ea_H → Option (Unit × ea_H)}  (cJ57 : ∀ (x1 : Int32) (x2 : Int32) (x4 : Int32) (h : ea_H), kp (ea_core h) (J57 x1 x2 x4 h)) {x1 : Int32} {x2 : Int32} {x3 : Int32} {h : ea_H} : kp (ea_core h) (BX1_sort_at52_0 J57 x1 x2 x3 h) :=
  (kp_gd (kp_ite (kp_gd (kp_gd (kp_bind (kp_tw (kpX3_begin _ _) rfl) fun w4 hcw4 => (kp_tw (cJ57 _ _ _ _) hcw4)))) (kp_ret rfl)))
theorem lBX1_sort_at52_0 {J57 : Int32 → Int32 → Int32 → ea_H → Option (Unit × ea_H)} {J57_ : Int32 → Int32 → Int32 → ea_H → Option (Unit × ea_H)}  (mJ57 : ∀ (x1 : Int32) (x2 : Int32) (x4 : Int32) (h : ea_H), fle (J57 x1 x2 x4 h) (J57_ x1 x2 x4 h)) {x1 : Int32} {x2 : Int32} {x3 : Int32} {h : ea_H} : fle (BX1_sort_at52_0 J57 x1 x2 x3 h) (BX1_sort_at52_0 J57_ x1 x2 x3 h) :=
  (fle_gd (fle_ite (fle_gd (fle_gd (fle_bind (fle_rfl _) fun _ => (mJ57 _ _ _ _)))) (fle_rfl _)))
theorem nBX1_sort_at52_0 {J57 : Int32 → Int32 → Int32 → ea_H → Option (Unit × ea_H)} {J57_ : Nat → (Int32 → Int32 → Int32 → ea_H → Option (Unit × ea_H))}  (mJ57 : ∀ (x1 : Int32) (x2 : Int32) (x4 : Int32) (h : ea_H), fct (J57 x1 x2 x4 h) (fun f => J57_ f x1 x2 x4 h)) {x1 : Int32} {x2 : Int32} {x3 : Int32} {h : ea_H} : fct (BX1_sort_at52_0 J57 x1 x2 x3 h) (fun f => BX1_sort_at52_0 (J57_ f) x1 x2 x3 h) :=
  (fct_gd (fct_ite (fct_gd (fct_gd (fct_bind (fct_rfl _) fun _ => (mJ57 _ _ _ _)))) (fct_rfl _)))
noncomputable def BX1_sort_at52_57 (J91 : Int32 → Int32 → Int32 → Int32 → Int32 → ea_H → Option (Unit × ea_H)) (x1 : Int32) (x2 : Int32) (x4 : Int32) (h : ea_H) : Option (Unit × ea_H) :=
  (gd (vp_in x2 10) (if (ea_i h 6 (Int32.toNatClampNeg x2)) ≤ x4 then (some ((), h)) else (gd (vp_in (((8 : Int32) * x2) + x4) 80) (ea_let (ea_i h 7 (Int32.toNatClampNeg (((8 : Int32) * x2) + x4))) fun (v8 : Int32) => (J91 (x1 : Int32) (x2 : Int32) (x4 : Int32) (v8 : Int32) (0 : Int32) h)))))
theorem tBX1_sort_at52_57 {d : Nat} {h0 : ea_H} (hd : 2 ≤ d) {J91 : Int32 → Int32 → Int32 → Int32 → Int32 → ea_H → Option (Unit × ea_H)}  (kJ91 : ∀ (x1 : Int32) (x2 : Int32) (x4 : Int32) (x5 : Int32) (x6 : Int32) (h : ea_H) (r : Unit) (h' : ea_H), J91 x1 x2 x4 x5 x6 h = some (r, h') → ShC h → ea_W mX1_sort d h0 none h' 91 [(0, vR (some 52)), (1, vI x1), (2, vI x2), (4, vI x4), (5, vI x5), (6, vI x6)] [] h) {x1 : Int32} {x2 : Int32} {x4 : Int32} {h : ea_H} {r : Unit} {h' : ea_H} (E : BX1_sort_at52_57 J91 x1 x2 x4 h = some (r, h')) (hs : ShC h) : ea_W mX1_sort d h0 none h' 57 [(0, vR (some 52)), (1, vI x1), (2, vI x2), (4, vI x4)] [] h := by
  unfold BX1_sort_at52_57 at E
  obtain ⟨z6, E⟩ := gd_some E
  refine ea_iload (pc := 57) dX1_sort_57 3 rfl ?_
  refine ea_aload_n (pc := 59) dX1_sort_59 rfl 0 rfl ?_
  refine ea_getR (pc := 60) dX1_sort_60 ec_1 (k := 11) (Nat.le_of_ble_eq_true rfl) rfl (Or.inl ew_459) (cShC_52 hs).1 (cShC_52 hs).2.1 (rShC_52_11 hs) ?_
  refine ea_getR (pc := 63) dX1_sort_63 ec_9 (k := 1) (Nat.le_of_ble_eq_true rfl) rfl (Or.inl ew_189) (cShC_5 hs).1 (cShC_5 hs).2.1 (rShC_5_1 hs) ?_
  refine ea_iload_n (pc := 66) dX1_sort_66 rfl 2 rfl ?_
  refine ea_iald (pc := 67) dX1_sort_67 (cShC_6 hs).1 (cShC_6 hs).2.1 (ea_vpl (cShC_6 hs).2.2 z6) ?_
  refine ea_icmp_ge (pc := 68) (tgt := 161) dX1_sort_68 rfl (fun c9 => ?_) (fun c9 => ?_)
  · have E := (if_pos c9).symm.trans E
    exact ea_vretO (pc := 161) dX1_sort_161 rfl E
  · have E := (if_neg c9).symm.trans E
    obtain ⟨z7, E⟩ := gd_some E
    refine ea_aload_n (pc := 71) dX1_sort_71 rfl 0 rfl ?_
    refine ea_getR (pc := 72) dX1_sort_72 ec_1 (k := 11) (Nat.le_of_ble_eq_true rfl) rfl (Or.inl ew_459) (cShC_52 hs).1 (cShC_52 hs).2.1 (rShC_52_11 hs) ?_
    refine ea_getR (pc := 75) dX1_sort_75 ec_9 (k := 2) (Nat.le_of_ble_eq_true rfl) rfl (Or.inl ew_194) (cShC_5 hs).1 (cShC_5 hs).2.1 (rShC_5_2 hs) ?_
    refine ea_bipush (pc := 78) dX1_sort_78 (v := 8) rfl ?_
    refine ea_iload_n (pc := 80) dX1_sort_80 rfl 2 rfl ?_
    refine ea_imul (pc := 81) dX1_sort_81 ?_
    refine ea_iload (pc := 82) dX1_sort_82 3 rfl ?_
    refine ea_iadd (pc := 84) dX1_sort_84 ?_
    obtain ⟨v8, ev8, E⟩ := let_some E
    refine ea_iald (pc := 85) dX1_sort_85 (cShC_7 hs).1 (cShC_7 hs).2.1 (ea_vpl (cShC_7 hs).2.2 z7) ?_
    refine ea_istore (pc := 86) (lv' := [(0, vR (some 52)), (1, vI x1), (2, vI x2), (4, vI x4), (5, vI v8)]) dX1_sort_86 (Nat.le_of_ble_eq_true rfl) [1, 2, 3, 4, 0] (by rw [ev8]; rfl) ?_
    refine ea_iconst (pc := 88) dX1_sort_88 (v := 0) rfl ?_
    refine ea_istore (pc := 89) (lv' := [(0, vR (some 52)), (1, vI x1), (2, vI x2), (4, vI x4), (5, vI v8), (6, vI 0)]) dX1_sort_89 (Nat.le_of_ble_eq_true rfl) [1, 2, 3, 4, 5, 0] rfl ?_
    exact (kJ91 (x1 : Int32) (x2 : Int32) (x4 : Int32) (v8 : Int32) (0 : Int32) h _ _ E hs)
theorem kBX1_sort_at52_57 {J91 : Int32 → Int32 → Int32 → Int32 → Int32 → ea_H → Option (Unit × ea_H)}  (cJ91 : ∀ (x1 : Int32) (x2 : Int32) (x4 : Int32) (x5 : Int32) (x6 : Int32) (h : ea_H), kp (ea_core h) (J91 x1 x2 x4 x5 x6 h)) {x1 : Int32} {x2 : Int32} {x4 : Int32} {h : ea_H} : kp (ea_core h) (BX1_sort_at52_57 J91 x1 x2 x4 h) :=
  (kp_gd (kp_ite (kp_ret rfl) (kp_gd (kp_let (kp_tw (cJ91 _ _ _ _ _ _) rfl)))))
theorem lBX1_sort_at52_57 {J91 : Int32 → Int32 → Int32 → Int32 → Int32 → ea_H → Option (Unit × ea_H)} {J91_ : Int32 → Int32 → Int32 → Int32 → Int32 → ea_H → Option (Unit × ea_H)}  (mJ91 : ∀ (x1 : Int32) (x2 : Int32) (x4 : Int32) (x5 : Int32) (x6 : Int32) (h : ea_H), fle (J91 x1 x2 x4 x5 x6 h) (J91_ x1 x2 x4 x5 x6 h)) {x1 : Int32} {x2 : Int32} {x4 : Int32} {h : ea_H} : fle (BX1_sort_at52_57 J91 x1 x2 x4 h) (BX1_sort_at52_57 J91_ x1 x2 x4 h) :=
  (fle_gd (fle_ite (fle_rfl _) (fle_gd (fle_let fun _ => (mJ91 _ _ _ _ _ _)))))
theorem nBX1_sort_at52_57 {J91 : Int32 → Int32 → Int32 → Int32 → Int32 → ea_H → Option (Unit × ea_H)} {J91_ : Nat → (Int32 → Int32 → Int32 → Int32 → Int32 → ea_H → Option (Unit × ea_H))}  (mJ91 : ∀ (x1 : Int32) (x2 : Int32) (x4 : Int32) (x5 : Int32) (x6 : Int32) (h : ea_H), fct (J91 x1 x2 x4 x5 x6 h) (fun f => J91_ f x1 x2 x4 x5 x6 h)) {x1 : Int32} {x2 : Int32} {x4 : Int32} {h : ea_H} : fct (BX1_sort_at52_57 J91 x1 x2 x4 h) (fun f => BX1_sort_at52_57 (J91_ f) x1 x2 x4 h) :=
  (fct_gd (fct_ite (fct_rfl _) (fct_gd (fct_let fun _ => (mJ91 _ _ _ _ _ _)))))
noncomputable def BX1_sort_at52_91 (J57 : Int32 → Int32 → Int32 → ea_H → Option (Unit × ea_H)) (J91 : Int32 → Int32 → Int32 → Int32 → Int32 → ea_H → Option (Unit × ea_H)) (x1 : Int32) (x2 : Int32) (x4 : Int32) (x5 : Int32) (x6 : Int32) (h : ea_H) : Option (Unit × ea_H) :=
  (if (ea_i h 52 0) ≤ x6 then (J57 (x1 : Int32) (x2 : Int32) ((x4 + (1 : Int32)) : Int32) h) else (Option.bind (qX1_isAboard_at52 (x6 : Int32) (x1 : Int32) h) fun w10 => (if w10.1 = (0 : Int32) then (J91 (x1 : Int32) (x2 : Int32) (x4 : Int32) (x5 : Int32) ((x6 + (1 : Int32)) : Int32) w10.2) else (gd (vp_in x6 120) (if (ea_i w10.2 57 (Int32.toNatClampNeg x6)) = (0 : Int32) then (gd (vp_in x6 120) (if (ea_i w10.2 55 (Int32.toNatClampNeg x6)) = x4 then (Option.bind (qX3_sortsOne (x2 : Int32) (x5 : Int32) w10.2) fun w13 => (gd (vp_in x6 120) (gd ((w13.1 = 0 ∨ w13.1 = 1)) (ea_let (ea_wi w13.2 57 (Int32.toNatClampNeg x6) w13.1) fun H16 => (J91 (x1 : Int32) (x2 : Int32) (x4 : Int32) (x5 : Int32) ((x6 + (1 : Int32)) : Int32) H16))))) else (J91 (x1 : Int32) (x2 : Int32) (x4 : Int32) (x5 : Int32) ((x6 + (1 : Int32)) : Int32) w10.2))) else (J91 (x1 : Int32) (x2 : Int32) (x4 : Int32) (x5 : Int32) ((x6 + (1 : Int32)) : Int32) w10.2))))))
theorem tBX1_sort_at52_91 {d : Nat} {h0 : ea_H} (hd : 2 ≤ d) {J57 : Int32 → Int32 → Int32 → ea_H → Option (Unit × ea_H)} {J91 : Int32 → Int32 → Int32 → Int32 → Int32 → ea_H → Option (Unit × ea_H)}  (kJ57 : ∀ (x1 : Int32) (x2 : Int32) (x4 : Int32) (h : ea_H) (r : Unit) (h' : ea_H), J57 x1 x2 x4 h = some (r, h') → ShC h → ea_W mX1_sort d h0 none h' 57 [(0, vR (some 52)), (1, vI x1), (2, vI x2), (4, vI x4)] [] h) (kJ91 : ∀ (x1 : Int32) (x2 : Int32) (x4 : Int32) (x5 : Int32) (x6 : Int32) (h : ea_H) (r : Unit) (h' : ea_H), J91 x1 x2 x4 x5 x6 h = some (r, h') → ShC h → ea_W mX1_sort d h0 none h' 91 [(0, vR (some 52)), (1, vI x1), (2, vI x2), (4, vI x4), (5, vI x5), (6, vI x6)] [] h) {x1 : Int32} {x2 : Int32} {x4 : Int32} {x5 : Int32} {x6 : Int32} {h : ea_H} {r : Unit} {h' : ea_H} (E : BX1_sort_at52_91 J57 J91 x1 x2 x4 x5 x6 h = some (r, h')) (hs : ShC h) : ea_W mX1_sort d h0 none h' 91 [(0, vR (some 52)), (1, vI x1), (2, vI x2), (4, vI x4), (5, vI x5), (6, vI x6)] [] h := by
  unfold BX1_sort_at52_91 at E
  refine ea_iload (pc := 91) dX1_sort_91 5 rfl ?_
  refine ea_aload_n (pc := 93) dX1_sort_93 rfl 0 rfl ?_
  refine ea_getI (pc := 94) dX1_sort_94 ec_1 (k := 0) (Nat.le_of_ble_eq_true rfl) rfl (Or.inl ew_441) (cShC_52 hs).1 (cShC_52 hs).2.1 ?_
  refine ea_icmp_ge (pc := 97) (tgt := 155) dX1_sort_97 rfl (fun c20 => ?_) (fun c20 => ?_)
  · have E := (if_pos c20).symm.trans E
    refine ea_iinc (pc := 155) (v := 1) (lv' := [(0, vR (some 52)), (1, vI x1), (2, vI x2), (4, vI (x4 + (1 : Int32)))]) dX1_sort_155 3 rfl rfl (Nat.le_of_ble_eq_true rfl) [1, 2, 3, 0] rfl ?_
    refine ea_goto (pc := 158) (tgt := 57) dX1_sort_158 rfl ?_
    exact (kJ57 (x1 : Int32) (x2 : Int32) ((x4 + (1 : Int32)) : Int32) h _ _ E hs)
  · have E := (if_neg c20).symm.trans E
    obtain ⟨w10, Ew10, E⟩ := bd_some E
    have hsw10 : ShC w10.2 := ShC_core ((kpX1_isAboard_at52 _ _ _) _ Ew10) hs
    refine ea_aload_n (pc := 100) dX1_sort_100 rfl 0 rfl ?_
    refine ea_iload (pc := 101) dX1_sort_101 5 rfl ?_
    refine ea_iload_n (pc := 103) dX1_sort_103 rfl 1 rfl ?_
    refine ea_callV (pc := 104) (d' := d - 1) (As := [vI x6, vI x1]) (st := []) dX1_sort_104 kX1_isAboard (sX1_isAboard_at52 (d := d - 1) (by omega) hs Ew10) (by omega) rfl (Nat.le_of_ble_eq_true rfl) ew_896 ew_897 ew_898 (ci := 1) rfl (by decide) (cShC_52 hs).1 (cShC_52 hs).2.1 ?_
    refine ea_if_eq (pc := 107) (tgt := 149) dX1_sort_107 rfl (fun c19 => ?_) (fun c19 => ?_)
    · have E := (if_pos c19).symm.trans E
      refine ea_iinc (pc := 149) (v := 1) (lv' := [(0, vR (some 52)), (1, vI x1), (2, vI x2), (4, vI x4), (5, vI x5), (6, vI (x6 + (1 : Int32)))]) dX1_sort_149 5 rfl rfl (Nat.le_of_ble_eq_true rfl) [1, 2, 3, 4, 5, 0] rfl ?_
      refine ea_goto (pc := 152) (tgt := 91) dX1_sort_152 rfl ?_
      exact (kJ91 (x1 : Int32) (x2 : Int32) (x4 : Int32) (x5 : Int32) ((x6 + (1 : Int32)) : Int32) w10.2 _ _ E hsw10)
    · have E := (if_neg c19).symm.trans E
      obtain ⟨z11, E⟩ := gd_some E
      refine ea_aload_n (pc := 110) dX1_sort_110 rfl 0 rfl ?_
      refine ea_getR (pc := 111) dX1_sort_111 ec_1 (k := 5) (Nat.le_of_ble_eq_true rfl) rfl (Or.inl ew_451) (cShC_52 hsw10).1 (cShC_52 hsw10).2.1 (rShC_52_5 hsw10) ?_
      refine ea_iload (pc := 114) dX1_sort_114 5 rfl ?_
      refine ea_zald (pc := 116) dX1_sort_116 (cShC_57 hsw10).1 (cShC_57 hsw10).2.1 (ea_vpl (cShC_57 hsw10).2.2 z11) ?_
      refine ea_if_ne (pc := 117) (tgt := 149) dX1_sort_117 rfl (fun c18 => ?_) (fun c18 => ?_)
      · have E := (if_neg c18).symm.trans E
        refine ea_iinc (pc := 149) (v := 1) (lv' := [(0, vR (some 52)), (1, vI x1), (2, vI x2), (4, vI x4), (5, vI x5), (6, vI (x6 + (1 : Int32)))]) dX1_sort_149 5 rfl rfl (Nat.le_of_ble_eq_true rfl) [1, 2, 3, 4, 5, 0] rfl ?_
        refine ea_goto (pc := 152) (tgt := 91) dX1_sort_152 rfl ?_
        exact (kJ91 (x1 : Int32) (x2 : Int32) (x4 : Int32) (x5 : Int32) ((x6 + (1 : Int32)) : Int32) w10.2 _ _ E hsw10)
      · have E := (if_pos c18).symm.trans E
        obtain ⟨z12, E⟩ := gd_some E
        refine ea_aload_n (pc := 120) dX1_sort_120 rfl 0 rfl ?_
        refine ea_getR (pc := 121) dX1_sort_121 ec_1 (k := 3) (Nat.le_of_ble_eq_true rfl) rfl (Or.inl ew_447) (cShC_52 hsw10).1 (cShC_52 hsw10).2.1 (rShC_52_3 hsw10) ?_
        refine ea_iload (pc := 124) dX1_sort_124 5 rfl ?_
        refine ea_iald (pc := 126) dX1_sort_126 (cShC_55 hsw10).1 (cShC_55 hsw10).2.1 (ea_vpl (cShC_55 hsw10).2.2 z12) ?_
        refine ea_iload (pc := 127) dX1_sort_127 3 rfl ?_
        refine ea_icmp_ne (pc := 129) (tgt := 149) dX1_sort_129 rfl (fun c17 => ?_) (fun c17 => ?_)
        · have E := (if_neg c17).symm.trans E
          refine ea_iinc (pc := 149) (v := 1) (lv' := [(0, vR (some 52)), (1, vI x1), (2, vI x2), (4, vI x4), (5, vI x5), (6, vI (x6 + (1 : Int32)))]) dX1_sort_149 5 rfl rfl (Nat.le_of_ble_eq_true rfl) [1, 2, 3, 4, 5, 0] rfl ?_
          refine ea_goto (pc := 152) (tgt := 91) dX1_sort_152 rfl ?_
          exact (kJ91 (x1 : Int32) (x2 : Int32) (x4 : Int32) (x5 : Int32) ((x6 + (1 : Int32)) : Int32) w10.2 _ _ E hsw10)
        · have E := (if_pos c17).symm.trans E
          obtain ⟨w13, Ew13, E⟩ := bd_some E
          have hsw13 : ShC w13.2 := ShC_core ((kpX3_sortsOne _ _ _) _ Ew13) hsw10
          refine ea_aload_n (pc := 132) dX1_sort_132 rfl 0 rfl ?_
          refine ea_getR (pc := 133) dX1_sort_133 ec_1 (k := 5) (Nat.le_of_ble_eq_true rfl) rfl (Or.inl ew_451) (cShC_52 hsw10).1 (cShC_52 hsw10).2.1 (rShC_52_5 hsw10) ?_
          refine ea_iload (pc := 136) dX1_sort_136 5 rfl ?_
          refine ea_aload_n (pc := 138) dX1_sort_138 rfl 0 rfl ?_
          refine ea_getR (pc := 139) dX1_sort_139 ec_1 (k := 13) (Nat.le_of_ble_eq_true rfl) rfl (Or.inl ew_461) (cShC_52 hsw10).1 (cShC_52 hsw10).2.1 (rShC_52_13 hsw10) ?_
          refine ea_iload_n (pc := 142) dX1_sort_142 rfl 2 rfl ?_
          refine ea_iload (pc := 143) dX1_sort_143 4 rfl ?_
          refine ea_callV (pc := 145) (d' := d - 1) (As := [vI x2, vI x5]) (st := [vI x6, vR (some 57)]) dX1_sort_145 kX3_sortsOne (sX3_sortsOne (d := d - 1) (by omega) hsw10 Ew13) (by omega) rfl (Nat.le_of_ble_eq_true rfl) ew_900 ew_901 ew_902 (ci := 3) rfl (by decide) (cShC_18 hsw10).1 (cShC_18 hsw10).2.1 ?_
          obtain ⟨z14, E⟩ := gd_some E
          obtain ⟨z15, E⟩ := gd_some E
          obtain ⟨H16, eH16, E⟩ := let_some E
          refine ea_zast (pc := 148) dX1_sort_148 (y := w13.1) (ea_bn z15) (cShC_57 hsw13).1 (cShC_57 hsw13).2.1 (ea_vpl (cShC_57 hsw13).2.2 z14) ?_
          refine ea_nm eH16 ?_
          have hsH16 : ShC H16 := by rw [eH16]; exact hsw13
          refine ea_iinc (pc := 149) (v := 1) (lv' := [(0, vR (some 52)), (1, vI x1), (2, vI x2), (4, vI x4), (5, vI x5), (6, vI (x6 + (1 : Int32)))]) dX1_sort_149 5 rfl rfl (Nat.le_of_ble_eq_true rfl) [1, 2, 3, 4, 5, 0] rfl ?_
          refine ea_goto (pc := 152) (tgt := 91) dX1_sort_152 rfl ?_
          exact (kJ91 (x1 : Int32) (x2 : Int32) (x4 : Int32) (x5 : Int32) ((x6 + (1 : Int32)) : Int32) H16 _ _ E hsH16)
theorem kBX1_sort_at52_91 {J57 : Int32 → Int32 → Int32 → ea_H → Option (Unit × ea_H)} {J91 : Int32 → Int32 → Int32 → Int32 → Int32 → ea_H → Option (Unit × ea_H)}  (cJ57 : ∀ (x1 : Int32) (x2 : Int32) (x4 : Int32) (h : ea_H), kp (ea_core h) (J57 x1 x2 x4 h)) (cJ91 : ∀ (x1 : Int32) (x2 : Int32) (x4 : Int32) (x5 : Int32) (x6 : Int32) (h : ea_H), kp (ea_core h) (J91 x1 x2 x4 x5 x6 h)) {x1 : Int32} {x2 : Int32} {x4 : Int32} {x5 : Int32} {x6 : Int32} {h : ea_H} : kp (ea_core h) (BX1_sort_at52_91 J57 J91 x1 x2 x4 x5 x6 h) :=
  (kp_ite (kp_tw (cJ57 _ _ _ _) rfl) (kp_bind (kp_tw (kpX1_isAboard_at52 _ _ _) rfl) fun w10 hcw10 => (kp_ite (kp_tw (cJ91 _ _ _ _ _ _) hcw10) (kp_gd (kp_ite (kp_gd (kp_ite (kp_bind (kp_tw (kpX3_sortsOne _ _ _) hcw10) fun w13 hcw13 => (kp_gd (kp_gd (kp_let (kp_tw (cJ91 _ _ _ _ _ _) hcw13))))) (kp_tw (cJ91 _ _ _ _ _ _) hcw10))) (kp_tw (cJ91 _ _ _ _ _ _) hcw10))))))
theorem lBX1_sort_at52_91 {J57 : Int32 → Int32 → Int32 → ea_H → Option (Unit × ea_H)} {J91 : Int32 → Int32 → Int32 → Int32 → Int32 → ea_H → Option (Unit × ea_H)} {J57_ : Int32 → Int32 → Int32 → ea_H → Option (Unit × ea_H)} {J91_ : Int32 → Int32 → Int32 → Int32 → Int32 → ea_H → Option (Unit × ea_H)}  (mJ57 : ∀ (x1 : Int32) (x2 : Int32) (x4 : Int32) (h : ea_H), fle (J57 x1 x2 x4 h) (J57_ x1 x2 x4 h)) (mJ91 : ∀ (x1 : Int32) (x2 : Int32) (x4 : Int32) (x5 : Int32) (x6 : Int32) (h : ea_H), fle (J91 x1 x2 x4 x5 x6 h) (J91_ x1 x2 x4 x5 x6 h)) {x1 : Int32} {x2 : Int32} {x4 : Int32} {x5 : Int32} {x6 : Int32} {h : ea_H} : fle (BX1_sort_at52_91 J57 J91 x1 x2 x4 x5 x6 h) (BX1_sort_at52_91 J57_ J91_ x1 x2 x4 x5 x6 h) :=
  (fle_ite (mJ57 _ _ _ _) (fle_bind (fle_rfl _) fun _ => (fle_ite (mJ91 _ _ _ _ _ _) (fle_gd (fle_ite (fle_gd (fle_ite (fle_bind (fle_rfl _) fun _ => (fle_gd (fle_gd (fle_let fun _ => (mJ91 _ _ _ _ _ _))))) (mJ91 _ _ _ _ _ _))) (mJ91 _ _ _ _ _ _))))))
theorem nBX1_sort_at52_91 {J57 : Int32 → Int32 → Int32 → ea_H → Option (Unit × ea_H)} {J91 : Int32 → Int32 → Int32 → Int32 → Int32 → ea_H → Option (Unit × ea_H)} {J57_ : Nat → (Int32 → Int32 → Int32 → ea_H → Option (Unit × ea_H))} {J91_ : Nat → (Int32 → Int32 → Int32 → Int32 → Int32 → ea_H → Option (Unit × ea_H))}  (mJ57 : ∀ (x1 : Int32) (x2 : Int32) (x4 : Int32) (h : ea_H), fct (J57 x1 x2 x4 h) (fun f => J57_ f x1 x2 x4 h)) (mJ91 : ∀ (x1 : Int32) (x2 : Int32) (x4 : Int32) (x5 : Int32) (x6 : Int32) (h : ea_H), fct (J91 x1 x2 x4 x5 x6 h) (fun f => J91_ f x1 x2 x4 x5 x6 h)) {x1 : Int32} {x2 : Int32} {x4 : Int32} {x5 : Int32} {x6 : Int32} {h : ea_H} : fct (BX1_sort_at52_91 J57 J91 x1 x2 x4 x5 x6 h) (fun f => BX1_sort_at52_91 (J57_ f) (J91_ f) x1 x2 x4 x5 x6 h) :=
  (fct_ite (mJ57 _ _ _ _) (fct_bind (fct_rfl _) fun _ => (fct_ite (mJ91 _ _ _ _ _ _) (fct_gd (fct_ite (fct_gd (fct_ite (fct_bind (fct_rfl _) fun _ => (fct_gd (fct_gd (fct_let fun _ => (mJ91 _ _ _ _ _ _))))) (mJ91 _ _ _ _ _ _))) (mJ91 _ _ _ _ _ _))))))
noncomputable def gX1_sort_at52 : Nat → (Int32 → Int32 → Int32 → ea_H → Option (Unit × ea_H)) × (Int32 → Int32 → Int32 → ea_H → Option (Unit × ea_H)) × (Int32 → Int32 → Int32 → Int32 → Int32 → ea_H → Option (Unit × ea_H))
  | 0 => (fun _ _ _ _ => none, fun _ _ _ _ => none, fun _ _ _ _ _ _ => none)
  | f + 1 => (BX1_sort_at52_0 (gX1_sort_at52 f).2.1, BX1_sort_at52_57 (gX1_sort_at52 f).2.2, BX1_sort_at52_91 (gX1_sort_at52 f).2.1 (gX1_sort_at52 f).2.2)
theorem mgX1_sort_at52 : ∀ f : Nat, (∀ (x1 : Int32) (x2 : Int32) (x3 : Int32) (h : ea_H), fle ((gX1_sort_at52 f).1 x1 x2 x3 h) ((gX1_sort_at52 (f + 1)).1 x1 x2 x3 h)) ∧ (∀ (x1 : Int32) (x2 : Int32) (x4 : Int32) (h : ea_H), fle ((gX1_sort_at52 f).2.1 x1 x2 x4 h) ((gX1_sort_at52 (f + 1)).2.1 x1 x2 x4 h)) ∧ (∀ (x1 : Int32) (x2 : Int32) (x4 : Int32) (x5 : Int32) (x6 : Int32) (h : ea_H), fle ((gX1_sort_at52 f).2.2 x1 x2 x4 x5 x6 h) ((gX1_sort_at52 (f + 1)).2.2 x1 x2 x4 x5 x6 h)) := by
  intro f
  induction f with
  | zero => exact ⟨fun _ _ _ _ => fle_none _, fun _ _ _ _ => fle_none _, fun _ _ _ _ _ _ => fle_none _⟩
  | succ f ih => exact ⟨fun _ _ _ _ => lBX1_sort_at52_0 ih.2.1, fun _ _ _ _ => lBX1_sort_at52_57 ih.2.2, fun _ _ _ _ _ _ => lBX1_sort_at52_91 ih.2.1 ih.2.2⟩
noncomputable def qX1_sort_at52_0 (x1 : Int32) (x2 : Int32) (x3 : Int32) (h : ea_H) : Option (Unit × ea_H) := flim fun f => (gX1_sort_at52 f).1 x1 x2 x3 h
noncomputable def qX1_sort_at52_57 (x1 : Int32) (x2 : Int32) (x4 : Int32) (h : ea_H) : Option (Unit × ea_H) := flim fun f => (gX1_sort_at52 f).2.1 x1 x2 x4 h
noncomputable def qX1_sort_at52_91 (x1 : Int32) (x2 : Int32) (x4 : Int32) (x5 : Int32) (x6 : Int32) (h : ea_H) : Option (Unit × ea_H) := flim fun f => (gX1_sort_at52 f).2.2 x1 x2 x4 x5 x6 h
theorem fqX1_sort_at52_0 (x1 : Int32) (x2 : Int32) (x3 : Int32) (h : ea_H) : fct (qX1_sort_at52_0 x1 x2 x3 h) fun f => (gX1_sort_at52 f).1 x1 x2 x3 h := flim_ct fun f => (mgX1_sort_at52 f).1 x1 x2 x3 h
theorem fqX1_sort_at52_57 (x1 : Int32) (x2 : Int32) (x4 : Int32) (h : ea_H) : fct (qX1_sort_at52_57 x1 x2 x4 h) fun f => (gX1_sort_at52 f).2.1 x1 x2 x4 h := flim_ct fun f => (mgX1_sort_at52 f).2.1 x1 x2 x4 h
theorem fqX1_sort_at52_91 (x1 : Int32) (x2 : Int32) (x4 : Int32) (x5 : Int32) (x6 : Int32) (h : ea_H) : fct (qX1_sort_at52_91 x1 x2 x4 x5 x6 h) fun f => (gX1_sort_at52 f).2.2 x1 x2 x4 x5 x6 h := flim_ct fun f => (mgX1_sort_at52 f).2.2 x1 x2 x4 x5 x6 h
/-- how a block opens -/
theorem uqX1_sort_at52_0 {x1 : Int32} {x2 : Int32} {x3 : Int32} {h : ea_H} {P : Unit × ea_H → Prop} (H : sat (BX1_sort_at52_0 qX1_sort_at52_57 x1 x2 x3 h) P) : sat (qX1_sort_at52_0 x1 x2 x3 h) P := by
  obtain ⟨x, e, hp⟩ := H
  obtain ⟨n, hn⟩ := nBX1_sort_at52_0 fqX1_sort_at52_57 x e
  exact ⟨x, flim_at (fun f => (mgX1_sort_at52 f).1 x1 x2 x3 h) (f := n + 1) (hn n (Nat.le_refl _)), hp⟩
/-- how a block opens -/
theorem uqX1_sort_at52_57 {x1 : Int32} {x2 : Int32} {x4 : Int32} {h : ea_H} {P : Unit × ea_H → Prop} (H : sat (BX1_sort_at52_57 qX1_sort_at52_91 x1 x2 x4 h) P) : sat (qX1_sort_at52_57 x1 x2 x4 h) P := by
  obtain ⟨x, e, hp⟩ := H
  obtain ⟨n, hn⟩ := nBX1_sort_at52_57 fqX1_sort_at52_91 x e
  exact ⟨x, flim_at (fun f => (mgX1_sort_at52 f).2.1 x1 x2 x4 h) (f := n + 1) (hn n (Nat.le_refl _)), hp⟩
/-- how a block opens -/
theorem uqX1_sort_at52_91 {x1 : Int32} {x2 : Int32} {x4 : Int32} {x5 : Int32} {x6 : Int32} {h : ea_H} {P : Unit × ea_H → Prop} (H : sat (BX1_sort_at52_91 qX1_sort_at52_57 qX1_sort_at52_91 x1 x2 x4 x5 x6 h) P) : sat (qX1_sort_at52_91 x1 x2 x4 x5 x6 h) P := by
  obtain ⟨x, e, hp⟩ := H
  obtain ⟨n, hn⟩ := nBX1_sort_at52_91 fqX1_sort_at52_57 fqX1_sort_at52_91 x e
  exact ⟨x, flim_at (fun f => (mgX1_sort_at52 f).2.2 x1 x2 x4 x5 x6 h) (f := n + 1) (hn n (Nat.le_refl _)), hp⟩
theorem kgX1_sort_at52 : ∀ f : Nat, (∀ (x1 : Int32) (x2 : Int32) (x3 : Int32) (h : ea_H), kp (ea_core h) ((gX1_sort_at52 f).1 x1 x2 x3 h)) ∧ (∀ (x1 : Int32) (x2 : Int32) (x4 : Int32) (h : ea_H), kp (ea_core h) ((gX1_sort_at52 f).2.1 x1 x2 x4 h)) ∧ (∀ (x1 : Int32) (x2 : Int32) (x4 : Int32) (x5 : Int32) (x6 : Int32) (h : ea_H), kp (ea_core h) ((gX1_sort_at52 f).2.2 x1 x2 x4 x5 x6 h)) := by
  intro f
  induction f with
  | zero => exact ⟨fun _ _ _ _ => kp_none _, fun _ _ _ _ => kp_none _, fun _ _ _ _ _ _ => kp_none _⟩
  | succ f ih => exact ⟨fun _ _ _ _ => kBX1_sort_at52_0 ih.2.1, fun _ _ _ _ => kBX1_sort_at52_57 ih.2.2, fun _ _ _ _ _ _ => kBX1_sort_at52_91 ih.2.1 ih.2.2⟩
theorem tgX1_sort_at52 {d : Nat} {h0 : ea_H} (hd : 2 ≤ d) : ∀ f : Nat, (∀ (x1 : Int32) (x2 : Int32) (x3 : Int32) (h : ea_H) (r : Unit) (h' : ea_H), (gX1_sort_at52 f).1 x1 x2 x3 h = some (r, h') → ShC h → ea_W mX1_sort d h0 none h' 0 [(0, vR (some 52)), (1, vI x1), (2, vI x2), (3, vI x3)] [] h) ∧ (∀ (x1 : Int32) (x2 : Int32) (x4 : Int32) (h : ea_H) (r : Unit) (h' : ea_H), (gX1_sort_at52 f).2.1 x1 x2 x4 h = some (r, h') → ShC h → ea_W mX1_sort d h0 none h' 57 [(0, vR (some 52)), (1, vI x1), (2, vI x2), (4, vI x4)] [] h) ∧ (∀ (x1 : Int32) (x2 : Int32) (x4 : Int32) (x5 : Int32) (x6 : Int32) (h : ea_H) (r : Unit) (h' : ea_H), (gX1_sort_at52 f).2.2 x1 x2 x4 x5 x6 h = some (r, h') → ShC h → ea_W mX1_sort d h0 none h' 91 [(0, vR (some 52)), (1, vI x1), (2, vI x2), (4, vI x4), (5, vI x5), (6, vI x6)] [] h) := by
  intro f
  induction f with
  | zero => exact ⟨fun _ _ _ _ _ _ E => no_some E, fun _ _ _ _ _ _ E => no_some E, fun _ _ _ _ _ _ _ _ E => no_some E⟩
  | succ f ih => exact ⟨fun _ _ _ _ _ _ E hs => tBX1_sort_at52_0 hd ih.2.1 E hs, fun _ _ _ _ _ _ E hs => tBX1_sort_at52_57 hd ih.2.2 E hs, fun _ _ _ _ _ _ _ _ E hs => tBX1_sort_at52_91 hd ih.2.1 ih.2.2 E hs⟩
noncomputable def qX1_sort_at52 (x1 : Int32) (x2 : Int32) (x3 : Int32) (h : ea_H) : Option (Unit × ea_H) := qX1_sort_at52_0 x1 x2 x3 h
theorem sX1_sort_at52 {d : Nat} {x1 : Int32} {x2 : Int32} {x3 : Int32} {h : ea_H} {r : Unit} {h' : ea_H} (hd : 2 ≤ d) (hs : ShC h) (K : qX1_sort_at52 x1 x2 x3 h = some (r, h')) : ea_Met mX1_sort d [vR (some 52), vI x1, vI x2, vI x3] h none h' := by
  unfold qX1_sort_at52 at K
  obtain ⟨n, hn⟩ := fqX1_sort_at52_0 x1 x2 x3 h _ K
  have W := (tgX1_sort_at52 (d := d) (h0 := h) hd n).1 x1 x2 x3 h _ _ (hn n (Nat.le_refl _)) hs
  exact ea_enter rfl (Nat.le_of_ble_eq_true rfl) W
theorem kpX1_sort_at52 (x1 : Int32) (x2 : Int32) (x3 : Int32) (h : ea_H) : kp (ea_core h) (qX1_sort_at52 x1 x2 x3 h) := fun x e => by
  obtain ⟨n, hn⟩ := fqX1_sort_at52_0 x1 x2 x3 h x e
  exact (kgX1_sort_at52 n).1 x1 x2 x3 h x (hn n (Nat.le_refl _))
noncomputable def BX1_sort_at62_0 (J57 : Int32 → Int32 → Int32 → ea_H → Option (Unit × ea_H)) (x1 : Int32) (x2 : Int32) (x3 : Int32) (h : ea_H) : Option (Unit × ea_H) :=
  (gd (vp_in x2 10) (if (x3 + (1 : Int32)) < (ea_i h 6 (Int32.toNatClampNeg x2)) then (gd (vp_in ((((8 : Int32) * x2) + x3) + (1 : Int32)) 80) (gd (vp_in (((8 : Int32) * x2) + x3) 80) (Option.bind (qX3_begin (((ea_i h 8 (Int32.toNatClampNeg ((((8 : Int32) * x2) + x3) + (1 : Int32)))) - (ea_i h 9 (Int32.toNatClampNeg (((8 : Int32) * x2) + x3)))) : Int32) h) fun w4 => (J57 (x1 : Int32) (x2 : Int32) (0 : Int32) w4.2)))) else (some ((), h))))
theorem tBX1_sort_at62_0 {d : Nat} {h0 : ea_H} (hd : 2 ≤ d) {J57 : Int32 → Int32 → Int32 → ea_H → Option (Unit × ea_H)}  (kJ57 : ∀ (x1 : Int32) (x2 : Int32) (x4 : Int32) (h : ea_H) (r : Unit) (h' : ea_H), J57 x1 x2 x4 h = some (r, h') → ShC h → ea_W mX1_sort d h0 none h' 57 [(0, vR (some 62)), (1, vI x1), (2, vI x2), (4, vI x4)] [] h) {x1 : Int32} {x2 : Int32} {x3 : Int32} {h : ea_H} {r : Unit} {h' : ea_H} (E : BX1_sort_at62_0 J57 x1 x2 x3 h = some (r, h')) (hs : ShC h) : ea_W mX1_sort d h0 none h' 0 [(0, vR (some 62)), (1, vI x1), (2, vI x2), (3, vI x3)] [] h := by
  unfold BX1_sort_at62_0 at E
  obtain ⟨z1, E⟩ := gd_some E
  refine ea_iload_n (pc := 0) dX1_sort_0 rfl 3 rfl ?_
  refine ea_iconst (pc := 1) dX1_sort_1 (v := 1) rfl ?_
  refine ea_iadd (pc := 2) dX1_sort_2 ?_
  refine ea_aload_n (pc := 3) dX1_sort_3 rfl 0 rfl ?_
  refine ea_getR (pc := 4) dX1_sort_4 ec_1 (k := 11) (Nat.le_of_ble_eq_true rfl) rfl (Or.inl ew_459) (cShC_62 hs).1 (cShC_62 hs).2.1 (rShC_62_11 hs) ?_
  refine ea_getR (pc := 7) dX1_sort_7 ec_9 (k := 1) (Nat.le_of_ble_eq_true rfl) rfl (Or.inl ew_189) (cShC_5 hs).1 (cShC_5 hs).2.1 (rShC_5_1 hs) ?_
  refine ea_iload_n (pc := 10) dX1_sort_10 rfl 2 rfl ?_
  refine ea_iald (pc := 11) dX1_sort_11 (cShC_6 hs).1 (cShC_6 hs).2.1 (ea_vpl (cShC_6 hs).2.2 z1) ?_
  refine ea_icmp_lt (pc := 12) (tgt := 16) dX1_sort_12 rfl (fun c5 => ?_) (fun c5 => ?_)
  · have E := (if_pos c5).symm.trans E
    obtain ⟨z2, E⟩ := gd_some E
    refine ea_aload_n (pc := 16) dX1_sort_16 rfl 0 rfl ?_
    refine ea_getR (pc := 17) dX1_sort_17 ec_1 (k := 13) (Nat.le_of_ble_eq_true rfl) rfl (Or.inl ew_461) (cShC_62 hs).1 (cShC_62 hs).2.1 (rShC_62_13 hs) ?_
    refine ea_aload_n (pc := 20) dX1_sort_20 rfl 0 rfl ?_
    refine ea_getR (pc := 21) dX1_sort_21 ec_1 (k := 11) (Nat.le_of_ble_eq_true rfl) rfl (Or.inl ew_459) (cShC_62 hs).1 (cShC_62 hs).2.1 (rShC_62_11 hs) ?_
    refine ea_getR (pc := 24) dX1_sort_24 ec_9 (k := 3) (Nat.le_of_ble_eq_true rfl) rfl (Or.inl ew_198) (cShC_5 hs).1 (cShC_5 hs).2.1 (rShC_5_3 hs) ?_
    refine ea_bipush (pc := 27) dX1_sort_27 (v := 8) rfl ?_
    refine ea_iload_n (pc := 29) dX1_sort_29 rfl 2 rfl ?_
    refine ea_imul (pc := 30) dX1_sort_30 ?_
    refine ea_iload_n (pc := 31) dX1_sort_31 rfl 3 rfl ?_
    refine ea_iadd (pc := 32) dX1_sort_32 ?_
    refine ea_iconst (pc := 33) dX1_sort_33 (v := 1) rfl ?_
    refine ea_iadd (pc := 34) dX1_sort_34 ?_
    obtain ⟨z3, E⟩ := gd_some E
    refine ea_iald (pc := 35) dX1_sort_35 (cShC_8 hs).1 (cShC_8 hs).2.1 (ea_vpl (cShC_8 hs).2.2 z2) ?_
    refine ea_aload_n (pc := 36) dX1_sort_36 rfl 0 rfl ?_
    refine ea_getR (pc := 37) dX1_sort_37 ec_1 (k := 11) (Nat.le_of_ble_eq_true rfl) rfl (Or.inl ew_459) (cShC_62 hs).1 (cShC_62 hs).2.1 (rShC_62_11 hs) ?_
    refine ea_getR (pc := 40) dX1_sort_40 ec_9 (k := 4) (Nat.le_of_ble_eq_true rfl) rfl (Or.inl ew_201) (cShC_5 hs).1 (cShC_5 hs).2.1 (rShC_5_4 hs) ?_
    refine ea_bipush (pc := 43) dX1_sort_43 (v := 8) rfl ?_
    refine ea_iload_n (pc := 45) dX1_sort_45 rfl 2 rfl ?_
    refine ea_imul (pc := 46) dX1_sort_46 ?_
    refine ea_iload_n (pc := 47) dX1_sort_47 rfl 3 rfl ?_
    refine ea_iadd (pc := 48) dX1_sort_48 ?_
    obtain ⟨w4, Ew4, E⟩ := bd_some E
    have hsw4 : ShC w4.2 := ShC_core ((kpX3_begin _ _) _ Ew4) hs
    refine ea_iald (pc := 49) dX1_sort_49 (cShC_9 hs).1 (cShC_9 hs).2.1 (ea_vpl (cShC_9 hs).2.2 z3) ?_
    refine ea_isub (pc := 50) dX1_sort_50 ?_
    refine ea_callV (pc := 51) (d' := d - 1) (As := [vI ((ea_i h 8 (Int32.toNatClampNeg ((((8 : Int32) * x2) + x3) + (1 : Int32)))) - (ea_i h 9 (Int32.toNatClampNeg (((8 : Int32) * x2) + x3))))]) (st := []) dX1_sort_51 kX3_begin (sX3_begin (d := d - 1) (by omega) hs Ew4) (by omega) rfl (Nat.le_of_ble_eq_true rfl) ew_892 ew_893 ew_894 (ci := 3) rfl (by decide) (cShC_18 hs).1 (cShC_18 hs).2.1 ?_
    refine ea_iconst (pc := 54) dX1_sort_54 (v := 0) rfl ?_
    refine ea_istore (pc := 55) (lv' := [(0, vR (some 62)), (1, vI x1), (2, vI x2), (4, vI 0)]) dX1_sort_55 (Nat.le_of_ble_eq_true rfl) [1, 2, 3, 0] rfl ?_
    exact (kJ57 (x1 : Int32) (x2 : Int32) (0 : Int32) w4.2 _ _ E hsw4)
  · have E := (if_neg c5).symm.trans E
    exact ea_vretO (pc := 15) dX1_sort_15 rfl E
theorem kBX1_sort_at62_0 {J57 : Int32 → Int32 → Int32 → ea_H → Option (Unit × ea_H)}  (cJ57 : ∀ (x1 : Int32) (x2 : Int32) (x4 : Int32) (h : ea_H), kp (ea_core h) (J57 x1 x2 x4 h)) {x1 : Int32} {x2 : Int32} {x3 : Int32} {h : ea_H} : kp (ea_core h) (BX1_sort_at62_0 J57 x1 x2 x3 h) :=
  (kp_gd (kp_ite (kp_gd (kp_gd (kp_bind (kp_tw (kpX3_begin _ _) rfl) fun w4 hcw4 => (kp_tw (cJ57 _ _ _ _) hcw4)))) (kp_ret rfl)))
theorem lBX1_sort_at62_0 {J57 : Int32 → Int32 → Int32 → ea_H → Option (Unit × ea_H)} {J57_ : Int32 → Int32 → Int32 → ea_H → Option (Unit × ea_H)}  (mJ57 : ∀ (x1 : Int32) (x2 : Int32) (x4 : Int32) (h : ea_H), fle (J57 x1 x2 x4 h) (J57_ x1 x2 x4 h)) {x1 : Int32} {x2 : Int32} {x3 : Int32} {h : ea_H} : fle (BX1_sort_at62_0 J57 x1 x2 x3 h) (BX1_sort_at62_0 J57_ x1 x2 x3 h) :=
  (fle_gd (fle_ite (fle_gd (fle_gd (fle_bind (fle_rfl _) fun _ => (mJ57 _ _ _ _)))) (fle_rfl _)))
theorem nBX1_sort_at62_0 {J57 : Int32 → Int32 → Int32 → ea_H → Option (Unit × ea_H)} {J57_ : Nat → (Int32 → Int32 → Int32 → ea_H → Option (Unit × ea_H))}  (mJ57 : ∀ (x1 : Int32) (x2 : Int32) (x4 : Int32) (h : ea_H), fct (J57 x1 x2 x4 h) (fun f => J57_ f x1 x2 x4 h)) {x1 : Int32} {x2 : Int32} {x3 : Int32} {h : ea_H} : fct (BX1_sort_at62_0 J57 x1 x2 x3 h) (fun f => BX1_sort_at62_0 (J57_ f) x1 x2 x3 h) :=
  (fct_gd (fct_ite (fct_gd (fct_gd (fct_bind (fct_rfl _) fun _ => (mJ57 _ _ _ _)))) (fct_rfl _)))
noncomputable def BX1_sort_at62_57 (J91 : Int32 → Int32 → Int32 → Int32 → Int32 → ea_H → Option (Unit × ea_H)) (x1 : Int32) (x2 : Int32) (x4 : Int32) (h : ea_H) : Option (Unit × ea_H) :=
  (gd (vp_in x2 10) (if (ea_i h 6 (Int32.toNatClampNeg x2)) ≤ x4 then (some ((), h)) else (gd (vp_in (((8 : Int32) * x2) + x4) 80) (ea_let (ea_i h 7 (Int32.toNatClampNeg (((8 : Int32) * x2) + x4))) fun (v8 : Int32) => (J91 (x1 : Int32) (x2 : Int32) (x4 : Int32) (v8 : Int32) (0 : Int32) h)))))
theorem tBX1_sort_at62_57 {d : Nat} {h0 : ea_H} (hd : 2 ≤ d) {J91 : Int32 → Int32 → Int32 → Int32 → Int32 → ea_H → Option (Unit × ea_H)}  (kJ91 : ∀ (x1 : Int32) (x2 : Int32) (x4 : Int32) (x5 : Int32) (x6 : Int32) (h : ea_H) (r : Unit) (h' : ea_H), J91 x1 x2 x4 x5 x6 h = some (r, h') → ShC h → ea_W mX1_sort d h0 none h' 91 [(0, vR (some 62)), (1, vI x1), (2, vI x2), (4, vI x4), (5, vI x5), (6, vI x6)] [] h) {x1 : Int32} {x2 : Int32} {x4 : Int32} {h : ea_H} {r : Unit} {h' : ea_H} (E : BX1_sort_at62_57 J91 x1 x2 x4 h = some (r, h')) (hs : ShC h) : ea_W mX1_sort d h0 none h' 57 [(0, vR (some 62)), (1, vI x1), (2, vI x2), (4, vI x4)] [] h := by
  unfold BX1_sort_at62_57 at E
  obtain ⟨z6, E⟩ := gd_some E
  refine ea_iload (pc := 57) dX1_sort_57 3 rfl ?_
  refine ea_aload_n (pc := 59) dX1_sort_59 rfl 0 rfl ?_
  refine ea_getR (pc := 60) dX1_sort_60 ec_1 (k := 11) (Nat.le_of_ble_eq_true rfl) rfl (Or.inl ew_459) (cShC_62 hs).1 (cShC_62 hs).2.1 (rShC_62_11 hs) ?_
  refine ea_getR (pc := 63) dX1_sort_63 ec_9 (k := 1) (Nat.le_of_ble_eq_true rfl) rfl (Or.inl ew_189) (cShC_5 hs).1 (cShC_5 hs).2.1 (rShC_5_1 hs) ?_
  refine ea_iload_n (pc := 66) dX1_sort_66 rfl 2 rfl ?_
  refine ea_iald (pc := 67) dX1_sort_67 (cShC_6 hs).1 (cShC_6 hs).2.1 (ea_vpl (cShC_6 hs).2.2 z6) ?_
  refine ea_icmp_ge (pc := 68) (tgt := 161) dX1_sort_68 rfl (fun c9 => ?_) (fun c9 => ?_)
  · have E := (if_pos c9).symm.trans E
    exact ea_vretO (pc := 161) dX1_sort_161 rfl E
  · have E := (if_neg c9).symm.trans E
    obtain ⟨z7, E⟩ := gd_some E
    refine ea_aload_n (pc := 71) dX1_sort_71 rfl 0 rfl ?_
    refine ea_getR (pc := 72) dX1_sort_72 ec_1 (k := 11) (Nat.le_of_ble_eq_true rfl) rfl (Or.inl ew_459) (cShC_62 hs).1 (cShC_62 hs).2.1 (rShC_62_11 hs) ?_
    refine ea_getR (pc := 75) dX1_sort_75 ec_9 (k := 2) (Nat.le_of_ble_eq_true rfl) rfl (Or.inl ew_194) (cShC_5 hs).1 (cShC_5 hs).2.1 (rShC_5_2 hs) ?_
    refine ea_bipush (pc := 78) dX1_sort_78 (v := 8) rfl ?_
    refine ea_iload_n (pc := 80) dX1_sort_80 rfl 2 rfl ?_
    refine ea_imul (pc := 81) dX1_sort_81 ?_
    refine ea_iload (pc := 82) dX1_sort_82 3 rfl ?_
    refine ea_iadd (pc := 84) dX1_sort_84 ?_
    obtain ⟨v8, ev8, E⟩ := let_some E
    refine ea_iald (pc := 85) dX1_sort_85 (cShC_7 hs).1 (cShC_7 hs).2.1 (ea_vpl (cShC_7 hs).2.2 z7) ?_
    refine ea_istore (pc := 86) (lv' := [(0, vR (some 62)), (1, vI x1), (2, vI x2), (4, vI x4), (5, vI v8)]) dX1_sort_86 (Nat.le_of_ble_eq_true rfl) [1, 2, 3, 4, 0] (by rw [ev8]; rfl) ?_
    refine ea_iconst (pc := 88) dX1_sort_88 (v := 0) rfl ?_
    refine ea_istore (pc := 89) (lv' := [(0, vR (some 62)), (1, vI x1), (2, vI x2), (4, vI x4), (5, vI v8), (6, vI 0)]) dX1_sort_89 (Nat.le_of_ble_eq_true rfl) [1, 2, 3, 4, 5, 0] rfl ?_
    exact (kJ91 (x1 : Int32) (x2 : Int32) (x4 : Int32) (v8 : Int32) (0 : Int32) h _ _ E hs)
theorem kBX1_sort_at62_57 {J91 : Int32 → Int32 → Int32 → Int32 → Int32 → ea_H → Option (Unit × ea_H)}  (cJ91 : ∀ (x1 : Int32) (x2 : Int32) (x4 : Int32) (x5 : Int32) (x6 : Int32) (h : ea_H), kp (ea_core h) (J91 x1 x2 x4 x5 x6 h)) {x1 : Int32} {x2 : Int32} {x4 : Int32} {h : ea_H} : kp (ea_core h) (BX1_sort_at62_57 J91 x1 x2 x4 h) :=
  (kp_gd (kp_ite (kp_ret rfl) (kp_gd (kp_let (kp_tw (cJ91 _ _ _ _ _ _) rfl)))))
theorem lBX1_sort_at62_57 {J91 : Int32 → Int32 → Int32 → Int32 → Int32 → ea_H → Option (Unit × ea_H)} {J91_ : Int32 → Int32 → Int32 → Int32 → Int32 → ea_H → Option (Unit × ea_H)}  (mJ91 : ∀ (x1 : Int32) (x2 : Int32) (x4 : Int32) (x5 : Int32) (x6 : Int32) (h : ea_H), fle (J91 x1 x2 x4 x5 x6 h) (J91_ x1 x2 x4 x5 x6 h)) {x1 : Int32} {x2 : Int32} {x4 : Int32} {h : ea_H} : fle (BX1_sort_at62_57 J91 x1 x2 x4 h) (BX1_sort_at62_57 J91_ x1 x2 x4 h) :=
  (fle_gd (fle_ite (fle_rfl _) (fle_gd (fle_let fun _ => (mJ91 _ _ _ _ _ _)))))
theorem nBX1_sort_at62_57 {J91 : Int32 → Int32 → Int32 → Int32 → Int32 → ea_H → Option (Unit × ea_H)} {J91_ : Nat → (Int32 → Int32 → Int32 → Int32 → Int32 → ea_H → Option (Unit × ea_H))}  (mJ91 : ∀ (x1 : Int32) (x2 : Int32) (x4 : Int32) (x5 : Int32) (x6 : Int32) (h : ea_H), fct (J91 x1 x2 x4 x5 x6 h) (fun f => J91_ f x1 x2 x4 x5 x6 h)) {x1 : Int32} {x2 : Int32} {x4 : Int32} {h : ea_H} : fct (BX1_sort_at62_57 J91 x1 x2 x4 h) (fun f => BX1_sort_at62_57 (J91_ f) x1 x2 x4 h) :=
  (fct_gd (fct_ite (fct_rfl _) (fct_gd (fct_let fun _ => (mJ91 _ _ _ _ _ _)))))
noncomputable def BX1_sort_at62_91 (J57 : Int32 → Int32 → Int32 → ea_H → Option (Unit × ea_H)) (J91 : Int32 → Int32 → Int32 → Int32 → Int32 → ea_H → Option (Unit × ea_H)) (x1 : Int32) (x2 : Int32) (x4 : Int32) (x5 : Int32) (x6 : Int32) (h : ea_H) : Option (Unit × ea_H) :=
  (if (ea_i h 62 0) ≤ x6 then (J57 (x1 : Int32) (x2 : Int32) ((x4 + (1 : Int32)) : Int32) h) else (Option.bind (qX1_isAboard_at62 (x6 : Int32) (x1 : Int32) h) fun w10 => (if w10.1 = (0 : Int32) then (J91 (x1 : Int32) (x2 : Int32) (x4 : Int32) (x5 : Int32) ((x6 + (1 : Int32)) : Int32) w10.2) else (gd (vp_in x6 120) (if (ea_i w10.2 67 (Int32.toNatClampNeg x6)) = (0 : Int32) then (gd (vp_in x6 120) (if (ea_i w10.2 65 (Int32.toNatClampNeg x6)) = x4 then (Option.bind (qX3_sortsOne (x2 : Int32) (x5 : Int32) w10.2) fun w13 => (gd (vp_in x6 120) (gd ((w13.1 = 0 ∨ w13.1 = 1)) (ea_let (ea_wi w13.2 67 (Int32.toNatClampNeg x6) w13.1) fun H16 => (J91 (x1 : Int32) (x2 : Int32) (x4 : Int32) (x5 : Int32) ((x6 + (1 : Int32)) : Int32) H16))))) else (J91 (x1 : Int32) (x2 : Int32) (x4 : Int32) (x5 : Int32) ((x6 + (1 : Int32)) : Int32) w10.2))) else (J91 (x1 : Int32) (x2 : Int32) (x4 : Int32) (x5 : Int32) ((x6 + (1 : Int32)) : Int32) w10.2))))))
theorem tBX1_sort_at62_91 {d : Nat} {h0 : ea_H} (hd : 2 ≤ d) {J57 : Int32 → Int32 → Int32 → ea_H → Option (Unit × ea_H)} {J91 : Int32 → Int32 → Int32 → Int32 → Int32 → ea_H → Option (Unit × ea_H)}  (kJ57 : ∀ (x1 : Int32) (x2 : Int32) (x4 : Int32) (h : ea_H) (r : Unit) (h' : ea_H), J57 x1 x2 x4 h = some (r, h') → ShC h → ea_W mX1_sort d h0 none h' 57 [(0, vR (some 62)), (1, vI x1), (2, vI x2), (4, vI x4)] [] h) (kJ91 : ∀ (x1 : Int32) (x2 : Int32) (x4 : Int32) (x5 : Int32) (x6 : Int32) (h : ea_H) (r : Unit) (h' : ea_H), J91 x1 x2 x4 x5 x6 h = some (r, h') → ShC h → ea_W mX1_sort d h0 none h' 91 [(0, vR (some 62)), (1, vI x1), (2, vI x2), (4, vI x4), (5, vI x5), (6, vI x6)] [] h) {x1 : Int32} {x2 : Int32} {x4 : Int32} {x5 : Int32} {x6 : Int32} {h : ea_H} {r : Unit} {h' : ea_H} (E : BX1_sort_at62_91 J57 J91 x1 x2 x4 x5 x6 h = some (r, h')) (hs : ShC h) : ea_W mX1_sort d h0 none h' 91 [(0, vR (some 62)), (1, vI x1), (2, vI x2), (4, vI x4), (5, vI x5), (6, vI x6)] [] h := by
  unfold BX1_sort_at62_91 at E
  refine ea_iload (pc := 91) dX1_sort_91 5 rfl ?_
  refine ea_aload_n (pc := 93) dX1_sort_93 rfl 0 rfl ?_
  refine ea_getI (pc := 94) dX1_sort_94 ec_1 (k := 0) (Nat.le_of_ble_eq_true rfl) rfl (Or.inl ew_441) (cShC_62 hs).1 (cShC_62 hs).2.1 ?_
  refine ea_icmp_ge (pc := 97) (tgt := 155) dX1_sort_97 rfl (fun c20 => ?_) (fun c20 => ?_)
  · have E := (if_pos c20).symm.trans E
    refine ea_iinc (pc := 155) (v := 1) (lv' := [(0, vR (some 62)), (1, vI x1), (2, vI x2), (4, vI (x4 + (1 : Int32)))]) dX1_sort_155 3 rfl rfl (Nat.le_of_ble_eq_true rfl) [1, 2, 3, 0] rfl ?_
    refine ea_goto (pc := 158) (tgt := 57) dX1_sort_158 rfl ?_
    exact (kJ57 (x1 : Int32) (x2 : Int32) ((x4 + (1 : Int32)) : Int32) h _ _ E hs)
  · have E := (if_neg c20).symm.trans E
    obtain ⟨w10, Ew10, E⟩ := bd_some E
    have hsw10 : ShC w10.2 := ShC_core ((kpX1_isAboard_at62 _ _ _) _ Ew10) hs
    refine ea_aload_n (pc := 100) dX1_sort_100 rfl 0 rfl ?_
    refine ea_iload (pc := 101) dX1_sort_101 5 rfl ?_
    refine ea_iload_n (pc := 103) dX1_sort_103 rfl 1 rfl ?_
    refine ea_callV (pc := 104) (d' := d - 1) (As := [vI x6, vI x1]) (st := []) dX1_sort_104 kX1_isAboard (sX1_isAboard_at62 (d := d - 1) (by omega) hs Ew10) (by omega) rfl (Nat.le_of_ble_eq_true rfl) ew_896 ew_897 ew_898 (ci := 1) rfl (by decide) (cShC_62 hs).1 (cShC_62 hs).2.1 ?_
    refine ea_if_eq (pc := 107) (tgt := 149) dX1_sort_107 rfl (fun c19 => ?_) (fun c19 => ?_)
    · have E := (if_pos c19).symm.trans E
      refine ea_iinc (pc := 149) (v := 1) (lv' := [(0, vR (some 62)), (1, vI x1), (2, vI x2), (4, vI x4), (5, vI x5), (6, vI (x6 + (1 : Int32)))]) dX1_sort_149 5 rfl rfl (Nat.le_of_ble_eq_true rfl) [1, 2, 3, 4, 5, 0] rfl ?_
      refine ea_goto (pc := 152) (tgt := 91) dX1_sort_152 rfl ?_
      exact (kJ91 (x1 : Int32) (x2 : Int32) (x4 : Int32) (x5 : Int32) ((x6 + (1 : Int32)) : Int32) w10.2 _ _ E hsw10)
    · have E := (if_neg c19).symm.trans E
      obtain ⟨z11, E⟩ := gd_some E
      refine ea_aload_n (pc := 110) dX1_sort_110 rfl 0 rfl ?_
      refine ea_getR (pc := 111) dX1_sort_111 ec_1 (k := 5) (Nat.le_of_ble_eq_true rfl) rfl (Or.inl ew_451) (cShC_62 hsw10).1 (cShC_62 hsw10).2.1 (rShC_62_5 hsw10) ?_
      refine ea_iload (pc := 114) dX1_sort_114 5 rfl ?_
      refine ea_zald (pc := 116) dX1_sort_116 (cShC_67 hsw10).1 (cShC_67 hsw10).2.1 (ea_vpl (cShC_67 hsw10).2.2 z11) ?_
      refine ea_if_ne (pc := 117) (tgt := 149) dX1_sort_117 rfl (fun c18 => ?_) (fun c18 => ?_)
      · have E := (if_neg c18).symm.trans E
        refine ea_iinc (pc := 149) (v := 1) (lv' := [(0, vR (some 62)), (1, vI x1), (2, vI x2), (4, vI x4), (5, vI x5), (6, vI (x6 + (1 : Int32)))]) dX1_sort_149 5 rfl rfl (Nat.le_of_ble_eq_true rfl) [1, 2, 3, 4, 5, 0] rfl ?_
        refine ea_goto (pc := 152) (tgt := 91) dX1_sort_152 rfl ?_
        exact (kJ91 (x1 : Int32) (x2 : Int32) (x4 : Int32) (x5 : Int32) ((x6 + (1 : Int32)) : Int32) w10.2 _ _ E hsw10)
      · have E := (if_pos c18).symm.trans E
        obtain ⟨z12, E⟩ := gd_some E
        refine ea_aload_n (pc := 120) dX1_sort_120 rfl 0 rfl ?_
        refine ea_getR (pc := 121) dX1_sort_121 ec_1 (k := 3) (Nat.le_of_ble_eq_true rfl) rfl (Or.inl ew_447) (cShC_62 hsw10).1 (cShC_62 hsw10).2.1 (rShC_62_3 hsw10) ?_
        refine ea_iload (pc := 124) dX1_sort_124 5 rfl ?_
        refine ea_iald (pc := 126) dX1_sort_126 (cShC_65 hsw10).1 (cShC_65 hsw10).2.1 (ea_vpl (cShC_65 hsw10).2.2 z12) ?_
        refine ea_iload (pc := 127) dX1_sort_127 3 rfl ?_
        refine ea_icmp_ne (pc := 129) (tgt := 149) dX1_sort_129 rfl (fun c17 => ?_) (fun c17 => ?_)
        · have E := (if_neg c17).symm.trans E
          refine ea_iinc (pc := 149) (v := 1) (lv' := [(0, vR (some 62)), (1, vI x1), (2, vI x2), (4, vI x4), (5, vI x5), (6, vI (x6 + (1 : Int32)))]) dX1_sort_149 5 rfl rfl (Nat.le_of_ble_eq_true rfl) [1, 2, 3, 4, 5, 0] rfl ?_
          refine ea_goto (pc := 152) (tgt := 91) dX1_sort_152 rfl ?_
          exact (kJ91 (x1 : Int32) (x2 : Int32) (x4 : Int32) (x5 : Int32) ((x6 + (1 : Int32)) : Int32) w10.2 _ _ E hsw10)
        · have E := (if_pos c17).symm.trans E
          obtain ⟨w13, Ew13, E⟩ := bd_some E
          have hsw13 : ShC w13.2 := ShC_core ((kpX3_sortsOne _ _ _) _ Ew13) hsw10
          refine ea_aload_n (pc := 132) dX1_sort_132 rfl 0 rfl ?_
          refine ea_getR (pc := 133) dX1_sort_133 ec_1 (k := 5) (Nat.le_of_ble_eq_true rfl) rfl (Or.inl ew_451) (cShC_62 hsw10).1 (cShC_62 hsw10).2.1 (rShC_62_5 hsw10) ?_
          refine ea_iload (pc := 136) dX1_sort_136 5 rfl ?_
          refine ea_aload_n (pc := 138) dX1_sort_138 rfl 0 rfl ?_
          refine ea_getR (pc := 139) dX1_sort_139 ec_1 (k := 13) (Nat.le_of_ble_eq_true rfl) rfl (Or.inl ew_461) (cShC_62 hsw10).1 (cShC_62 hsw10).2.1 (rShC_62_13 hsw10) ?_
          refine ea_iload_n (pc := 142) dX1_sort_142 rfl 2 rfl ?_
          refine ea_iload (pc := 143) dX1_sort_143 4 rfl ?_
          refine ea_callV (pc := 145) (d' := d - 1) (As := [vI x2, vI x5]) (st := [vI x6, vR (some 67)]) dX1_sort_145 kX3_sortsOne (sX3_sortsOne (d := d - 1) (by omega) hsw10 Ew13) (by omega) rfl (Nat.le_of_ble_eq_true rfl) ew_900 ew_901 ew_902 (ci := 3) rfl (by decide) (cShC_18 hsw10).1 (cShC_18 hsw10).2.1 ?_
          obtain ⟨z14, E⟩ := gd_some E
          obtain ⟨z15, E⟩ := gd_some E
          obtain ⟨H16, eH16, E⟩ := let_some E
          refine ea_zast (pc := 148) dX1_sort_148 (y := w13.1) (ea_bn z15) (cShC_67 hsw13).1 (cShC_67 hsw13).2.1 (ea_vpl (cShC_67 hsw13).2.2 z14) ?_
          refine ea_nm eH16 ?_
          have hsH16 : ShC H16 := by rw [eH16]; exact hsw13
          refine ea_iinc (pc := 149) (v := 1) (lv' := [(0, vR (some 62)), (1, vI x1), (2, vI x2), (4, vI x4), (5, vI x5), (6, vI (x6 + (1 : Int32)))]) dX1_sort_149 5 rfl rfl (Nat.le_of_ble_eq_true rfl) [1, 2, 3, 4, 5, 0] rfl ?_
          refine ea_goto (pc := 152) (tgt := 91) dX1_sort_152 rfl ?_
          exact (kJ91 (x1 : Int32) (x2 : Int32) (x4 : Int32) (x5 : Int32) ((x6 + (1 : Int32)) : Int32) H16 _ _ E hsH16)
theorem kBX1_sort_at62_91 {J57 : Int32 → Int32 → Int32 → ea_H → Option (Unit × ea_H)} {J91 : Int32 → Int32 → Int32 → Int32 → Int32 → ea_H → Option (Unit × ea_H)}  (cJ57 : ∀ (x1 : Int32) (x2 : Int32) (x4 : Int32) (h : ea_H), kp (ea_core h) (J57 x1 x2 x4 h)) (cJ91 : ∀ (x1 : Int32) (x2 : Int32) (x4 : Int32) (x5 : Int32) (x6 : Int32) (h : ea_H), kp (ea_core h) (J91 x1 x2 x4 x5 x6 h)) {x1 : Int32} {x2 : Int32} {x4 : Int32} {x5 : Int32} {x6 : Int32} {h : ea_H} : kp (ea_core h) (BX1_sort_at62_91 J57 J91 x1 x2 x4 x5 x6 h) :=
  (kp_ite (kp_tw (cJ57 _ _ _ _) rfl) (kp_bind (kp_tw (kpX1_isAboard_at62 _ _ _) rfl) fun w10 hcw10 => (kp_ite (kp_tw (cJ91 _ _ _ _ _ _) hcw10) (kp_gd (kp_ite (kp_gd (kp_ite (kp_bind (kp_tw (kpX3_sortsOne _ _ _) hcw10) fun w13 hcw13 => (kp_gd (kp_gd (kp_let (kp_tw (cJ91 _ _ _ _ _ _) hcw13))))) (kp_tw (cJ91 _ _ _ _ _ _) hcw10))) (kp_tw (cJ91 _ _ _ _ _ _) hcw10))))))
theorem lBX1_sort_at62_91 {J57 : Int32 → Int32 → Int32 → ea_H → Option (Unit × ea_H)} {J91 : Int32 → Int32 → Int32 → Int32 → Int32 → ea_H → Option (Unit × ea_H)} {J57_ : Int32 → Int32 → Int32 → ea_H → Option (Unit × ea_H)} {J91_ : Int32 → Int32 → Int32 → Int32 → Int32 → ea_H → Option (Unit × ea_H)}  (mJ57 : ∀ (x1 : Int32) (x2 : Int32) (x4 : Int32) (h : ea_H), fle (J57 x1 x2 x4 h) (J57_ x1 x2 x4 h)) (mJ91 : ∀ (x1 : Int32) (x2 : Int32) (x4 : Int32) (x5 : Int32) (x6 : Int32) (h : ea_H), fle (J91 x1 x2 x4 x5 x6 h) (J91_ x1 x2 x4 x5 x6 h)) {x1 : Int32} {x2 : Int32} {x4 : Int32} {x5 : Int32} {x6 : Int32} {h : ea_H} : fle (BX1_sort_at62_91 J57 J91 x1 x2 x4 x5 x6 h) (BX1_sort_at62_91 J57_ J91_ x1 x2 x4 x5 x6 h) :=
  (fle_ite (mJ57 _ _ _ _) (fle_bind (fle_rfl _) fun _ => (fle_ite (mJ91 _ _ _ _ _ _) (fle_gd (fle_ite (fle_gd (fle_ite (fle_bind (fle_rfl _) fun _ => (fle_gd (fle_gd (fle_let fun _ => (mJ91 _ _ _ _ _ _))))) (mJ91 _ _ _ _ _ _))) (mJ91 _ _ _ _ _ _))))))
theorem nBX1_sort_at62_91 {J57 : Int32 → Int32 → Int32 → ea_H → Option (Unit × ea_H)} {J91 : Int32 → Int32 → Int32 → Int32 → Int32 → ea_H → Option (Unit × ea_H)} {J57_ : Nat → (Int32 → Int32 → Int32 → ea_H → Option (Unit × ea_H))} {J91_ : Nat → (Int32 → Int32 → Int32 → Int32 → Int32 → ea_H → Option (Unit × ea_H))}  (mJ57 : ∀ (x1 : Int32) (x2 : Int32) (x4 : Int32) (h : ea_H), fct (J57 x1 x2 x4 h) (fun f => J57_ f x1 x2 x4 h)) (mJ91 : ∀ (x1 : Int32) (x2 : Int32) (x4 : Int32) (x5 : Int32) (x6 : Int32) (h : ea_H), fct (J91 x1 x2 x4 x5 x6 h) (fun f => J91_ f x1 x2 x4 x5 x6 h)) {x1 : Int32} {x2 : Int32} {x4 : Int32} {x5 : Int32} {x6 : Int32} {h : ea_H} : fct (BX1_sort_at62_91 J57 J91 x1 x2 x4 x5 x6 h) (fun f => BX1_sort_at62_91 (J57_ f) (J91_ f) x1 x2 x4 x5 x6 h) :=
  (fct_ite (mJ57 _ _ _ _) (fct_bind (fct_rfl _) fun _ => (fct_ite (mJ91 _ _ _ _ _ _) (fct_gd (fct_ite (fct_gd (fct_ite (fct_bind (fct_rfl _) fun _ => (fct_gd (fct_gd (fct_let fun _ => (mJ91 _ _ _ _ _ _))))) (mJ91 _ _ _ _ _ _))) (mJ91 _ _ _ _ _ _))))))
noncomputable def gX1_sort_at62 : Nat → (Int32 → Int32 → Int32 → ea_H → Option (Unit × ea_H)) × (Int32 → Int32 → Int32 → ea_H → Option (Unit × ea_H)) × (Int32 → Int32 → Int32 → Int32 → Int32 → ea_H → Option (Unit × ea_H))
  | 0 => (fun _ _ _ _ => none, fun _ _ _ _ => none, fun _ _ _ _ _ _ => none)
  | f + 1 => (BX1_sort_at62_0 (gX1_sort_at62 f).2.1, BX1_sort_at62_57 (gX1_sort_at62 f).2.2, BX1_sort_at62_91 (gX1_sort_at62 f).2.1 (gX1_sort_at62 f).2.2)
theorem mgX1_sort_at62 : ∀ f : Nat, (∀ (x1 : Int32) (x2 : Int32) (x3 : Int32) (h : ea_H), fle ((gX1_sort_at62 f).1 x1 x2 x3 h) ((gX1_sort_at62 (f + 1)).1 x1 x2 x3 h)) ∧ (∀ (x1 : Int32) (x2 : Int32) (x4 : Int32) (h : ea_H), fle ((gX1_sort_at62 f).2.1 x1 x2 x4 h) ((gX1_sort_at62 (f + 1)).2.1 x1 x2 x4 h)) ∧ (∀ (x1 : Int32) (x2 : Int32) (x4 : Int32) (x5 : Int32) (x6 : Int32) (h : ea_H), fle ((gX1_sort_at62 f).2.2 x1 x2 x4 x5 x6 h) ((gX1_sort_at62 (f + 1)).2.2 x1 x2 x4 x5 x6 h)) := by
  intro f
  induction f with
  | zero => exact ⟨fun _ _ _ _ => fle_none _, fun _ _ _ _ => fle_none _, fun _ _ _ _ _ _ => fle_none _⟩
  | succ f ih => exact ⟨fun _ _ _ _ => lBX1_sort_at62_0 ih.2.1, fun _ _ _ _ => lBX1_sort_at62_57 ih.2.2, fun _ _ _ _ _ _ => lBX1_sort_at62_91 ih.2.1 ih.2.2⟩
noncomputable def qX1_sort_at62_0 (x1 : Int32) (x2 : Int32) (x3 : Int32) (h : ea_H) : Option (Unit × ea_H) := flim fun f => (gX1_sort_at62 f).1 x1 x2 x3 h
noncomputable def qX1_sort_at62_57 (x1 : Int32) (x2 : Int32) (x4 : Int32) (h : ea_H) : Option (Unit × ea_H) := flim fun f => (gX1_sort_at62 f).2.1 x1 x2 x4 h
noncomputable def qX1_sort_at62_91 (x1 : Int32) (x2 : Int32) (x4 : Int32) (x5 : Int32) (x6 : Int32) (h : ea_H) : Option (Unit × ea_H) := flim fun f => (gX1_sort_at62 f).2.2 x1 x2 x4 x5 x6 h
theorem fqX1_sort_at62_0 (x1 : Int32) (x2 : Int32) (x3 : Int32) (h : ea_H) : fct (qX1_sort_at62_0 x1 x2 x3 h) fun f => (gX1_sort_at62 f).1 x1 x2 x3 h := flim_ct fun f => (mgX1_sort_at62 f).1 x1 x2 x3 h
theorem fqX1_sort_at62_57 (x1 : Int32) (x2 : Int32) (x4 : Int32) (h : ea_H) : fct (qX1_sort_at62_57 x1 x2 x4 h) fun f => (gX1_sort_at62 f).2.1 x1 x2 x4 h := flim_ct fun f => (mgX1_sort_at62 f).2.1 x1 x2 x4 h
theorem fqX1_sort_at62_91 (x1 : Int32) (x2 : Int32) (x4 : Int32) (x5 : Int32) (x6 : Int32) (h : ea_H) : fct (qX1_sort_at62_91 x1 x2 x4 x5 x6 h) fun f => (gX1_sort_at62 f).2.2 x1 x2 x4 x5 x6 h := flim_ct fun f => (mgX1_sort_at62 f).2.2 x1 x2 x4 x5 x6 h
/-- how a block opens -/
theorem uqX1_sort_at62_0 {x1 : Int32} {x2 : Int32} {x3 : Int32} {h : ea_H} {P : Unit × ea_H → Prop} (H : sat (BX1_sort_at62_0 qX1_sort_at62_57 x1 x2 x3 h) P) : sat (qX1_sort_at62_0 x1 x2 x3 h) P := by
  obtain ⟨x, e, hp⟩ := H
  obtain ⟨n, hn⟩ := nBX1_sort_at62_0 fqX1_sort_at62_57 x e
  exact ⟨x, flim_at (fun f => (mgX1_sort_at62 f).1 x1 x2 x3 h) (f := n + 1) (hn n (Nat.le_refl _)), hp⟩
/-- how a block opens -/
theorem uqX1_sort_at62_57 {x1 : Int32} {x2 : Int32} {x4 : Int32} {h : ea_H} {P : Unit × ea_H → Prop} (H : sat (BX1_sort_at62_57 qX1_sort_at62_91 x1 x2 x4 h) P) : sat (qX1_sort_at62_57 x1 x2 x4 h) P := by
  obtain ⟨x, e, hp⟩ := H
  obtain ⟨n, hn⟩ := nBX1_sort_at62_57 fqX1_sort_at62_91 x e
  exact ⟨x, flim_at (fun f => (mgX1_sort_at62 f).2.1 x1 x2 x4 h) (f := n + 1) (hn n (Nat.le_refl _)), hp⟩
/-- how a block opens -/
theorem uqX1_sort_at62_91 {x1 : Int32} {x2 : Int32} {x4 : Int32} {x5 : Int32} {x6 : Int32} {h : ea_H} {P : Unit × ea_H → Prop} (H : sat (BX1_sort_at62_91 qX1_sort_at62_57 qX1_sort_at62_91 x1 x2 x4 x5 x6 h) P) : sat (qX1_sort_at62_91 x1 x2 x4 x5 x6 h) P := by
  obtain ⟨x, e, hp⟩ := H
  obtain ⟨n, hn⟩ := nBX1_sort_at62_91 fqX1_sort_at62_57 fqX1_sort_at62_91 x e
  exact ⟨x, flim_at (fun f => (mgX1_sort_at62 f).2.2 x1 x2 x4 x5 x6 h) (f := n + 1) (hn n (Nat.le_refl _)), hp⟩
theorem kgX1_sort_at62 : ∀ f : Nat, (∀ (x1 : Int32) (x2 : Int32) (x3 : Int32) (h : ea_H), kp (ea_core h) ((gX1_sort_at62 f).1 x1 x2 x3 h)) ∧ (∀ (x1 : Int32) (x2 : Int32) (x4 : Int32) (h : ea_H), kp (ea_core h) ((gX1_sort_at62 f).2.1 x1 x2 x4 h)) ∧ (∀ (x1 : Int32) (x2 : Int32) (x4 : Int32) (x5 : Int32) (x6 : Int32) (h : ea_H), kp (ea_core h) ((gX1_sort_at62 f).2.2 x1 x2 x4 x5 x6 h)) := by
  intro f
  induction f with
  | zero => exact ⟨fun _ _ _ _ => kp_none _, fun _ _ _ _ => kp_none _, fun _ _ _ _ _ _ => kp_none _⟩
  | succ f ih => exact ⟨fun _ _ _ _ => kBX1_sort_at62_0 ih.2.1, fun _ _ _ _ => kBX1_sort_at62_57 ih.2.2, fun _ _ _ _ _ _ => kBX1_sort_at62_91 ih.2.1 ih.2.2⟩
theorem tgX1_sort_at62 {d : Nat} {h0 : ea_H} (hd : 2 ≤ d) : ∀ f : Nat, (∀ (x1 : Int32) (x2 : Int32) (x3 : Int32) (h : ea_H) (r : Unit) (h' : ea_H), (gX1_sort_at62 f).1 x1 x2 x3 h = some (r, h') → ShC h → ea_W mX1_sort d h0 none h' 0 [(0, vR (some 62)), (1, vI x1), (2, vI x2), (3, vI x3)] [] h) ∧ (∀ (x1 : Int32) (x2 : Int32) (x4 : Int32) (h : ea_H) (r : Unit) (h' : ea_H), (gX1_sort_at62 f).2.1 x1 x2 x4 h = some (r, h') → ShC h → ea_W mX1_sort d h0 none h' 57 [(0, vR (some 62)), (1, vI x1), (2, vI x2), (4, vI x4)] [] h) ∧ (∀ (x1 : Int32) (x2 : Int32) (x4 : Int32) (x5 : Int32) (x6 : Int32) (h : ea_H) (r : Unit) (h' : ea_H), (gX1_sort_at62 f).2.2 x1 x2 x4 x5 x6 h = some (r, h') → ShC h → ea_W mX1_sort d h0 none h' 91 [(0, vR (some 62)), (1, vI x1), (2, vI x2), (4, vI x4), (5, vI x5), (6, vI x6)] [] h) := by
  intro f
  induction f with
  | zero => exact ⟨fun _ _ _ _ _ _ E => no_some E, fun _ _ _ _ _ _ E => no_some E, fun _ _ _ _ _ _ _ _ E => no_some E⟩
  | succ f ih => exact ⟨fun _ _ _ _ _ _ E hs => tBX1_sort_at62_0 hd ih.2.1 E hs, fun _ _ _ _ _ _ E hs => tBX1_sort_at62_57 hd ih.2.2 E hs, fun _ _ _ _ _ _ _ _ E hs => tBX1_sort_at62_91 hd ih.2.1 ih.2.2 E hs⟩
noncomputable def qX1_sort_at62 (x1 : Int32) (x2 : Int32) (x3 : Int32) (h : ea_H) : Option (Unit × ea_H) := qX1_sort_at62_0 x1 x2 x3 h
theorem sX1_sort_at62 {d : Nat} {x1 : Int32} {x2 : Int32} {x3 : Int32} {h : ea_H} {r : Unit} {h' : ea_H} (hd : 2 ≤ d) (hs : ShC h) (K : qX1_sort_at62 x1 x2 x3 h = some (r, h')) : ea_Met mX1_sort d [vR (some 62), vI x1, vI x2, vI x3] h none h' := by
  unfold qX1_sort_at62 at K
  obtain ⟨n, hn⟩ := fqX1_sort_at62_0 x1 x2 x3 h _ K
  have W := (tgX1_sort_at62 (d := d) (h0 := h) hd n).1 x1 x2 x3 h _ _ (hn n (Nat.le_refl _)) hs
  exact ea_enter rfl (Nat.le_of_ble_eq_true rfl) W
theorem kpX1_sort_at62 (x1 : Int32) (x2 : Int32) (x3 : Int32) (h : ea_H) : kp (ea_core h) (qX1_sort_at62 x1 x2 x3 h) := fun x e => by
  obtain ⟨n, hn⟩ := fqX1_sort_at62_0 x1 x2 x3 h x e
  exact (kgX1_sort_at62 n).1 x1 x2 x3 h x (hn n (Nat.le_refl _))
noncomputable def BX4_wordOf_0 (J18 : Int32 → Int32 → Int32 → ea_H → Option (Int32 × ea_H)) (x0 : Int32) (x1 : Int32) (h : ea_H) : Option (Int32 × ea_H) :=
  (Option.bind (qX10_slotIn (x0 : Int32) h) fun w1 => (Option.bind (qX10_isGoing (x0 : Int32) w1.2) fun w2 => (if w2.1 = (0 : Int32) then (J18 (x1 : Int32) (0 : Int32) (((2 : Int32) * w1.1) : Int32) w2.2) else (J18 (x1 : Int32) (1 : Int32) (((2 : Int32) * w1.1) : Int32) w2.2))))
theorem tBX4_wordOf_0 {d : Nat} {h0 : ea_H} (hd : 2 ≤ d) {J18 : Int32 → Int32 → Int32 → ea_H → Option (Int32 × ea_H)}  (kJ18 : ∀ (x1 : Int32) (sx0 : Int32) (sx1 : Int32) (h : ea_H) (r : Int32) (h' : ea_H), J18 x1 sx0 sx1 h = some (r, h') → ea_W mX4_wordOf d h0 (some (vI r)) h' 18 [(1, vI x1)] [vI sx0, vI sx1] h) {x0 : Int32} {x1 : Int32} {h : ea_H} {r : Int32} {h' : ea_H} (E : BX4_wordOf_0 J18 x0 x1 h = some (r, h')) : ea_W mX4_wordOf d h0 (some (vI r)) h' 0 [(0, vI x0), (1, vI x1)] [] h := by
  unfold BX4_wordOf_0 at E
  obtain ⟨w1, Ew1, E⟩ := bd_some E
  refine ea_iconst (pc := 0) dX4_wordOf_0 (v := 2) rfl ?_
  refine ea_iload_n (pc := 1) dX4_wordOf_1 rfl 0 rfl ?_
  refine ea_callS (pc := 2) (d' := d - 1) (As := [vI x0]) (st := [vI 2]) dX4_wordOf_2 kX10_slotIn (sX10_slotIn (d := d - 1) (by omega) Ew1) (by omega) rfl (Nat.le_of_ble_eq_true rfl) ew_882 ew_796 ?_
  obtain ⟨w2, Ew2, E⟩ := bd_some E
  refine ea_imul (pc := 5) dX4_wordOf_5 ?_
  refine ea_iload_n (pc := 6) dX4_wordOf_6 rfl 0 rfl ?_
  refine ea_callS (pc := 7) (d' := d - 1) (As := [vI x0]) (st := [vI ((2 : Int32) * w1.1)]) dX4_wordOf_7 kX10_isGoing (sX10_isGoing (d := d - 1) (by omega) Ew2) (by omega) rfl (Nat.le_of_ble_eq_true rfl) ew_883 ew_779 ?_
  refine ea_if_eq (pc := 10) (tgt := 17) dX4_wordOf_10 rfl (fun c3 => ?_) (fun c3 => ?_)
  · have E := (if_pos c3).symm.trans E
    refine ea_iconst (pc := 17) dX4_wordOf_17 (v := 0) rfl ?_
    exact ea_fewer [1] rfl (kJ18 (x1 : Int32) (0 : Int32) (((2 : Int32) * w1.1) : Int32) w2.2 _ _ E)
  · have E := (if_neg c3).symm.trans E
    refine ea_iconst (pc := 13) dX4_wordOf_13 (v := 1) rfl ?_
    refine ea_goto (pc := 14) (tgt := 18) dX4_wordOf_14 rfl ?_
    exact ea_fewer [1] rfl (kJ18 (x1 : Int32) (1 : Int32) (((2 : Int32) * w1.1) : Int32) w2.2 _ _ E)
theorem kBX4_wordOf_0 {J18 : Int32 → Int32 → Int32 → ea_H → Option (Int32 × ea_H)}  (cJ18 : ∀ (x1 : Int32) (sx0 : Int32) (sx1 : Int32) (h : ea_H), kp (ea_core h) (J18 x1 sx0 sx1 h)) {x0 : Int32} {x1 : Int32} {h : ea_H} : kp (ea_core h) (BX4_wordOf_0 J18 x0 x1 h) :=
  (kp_bind (kp_tw (kpX10_slotIn _ _) rfl) fun w1 hcw1 => (kp_bind (kp_tw (kpX10_isGoing _ _) hcw1) fun w2 hcw2 => (kp_ite (kp_tw (cJ18 _ _ _ _) hcw2) (kp_tw (cJ18 _ _ _ _) hcw2))))
theorem lBX4_wordOf_0 {J18 : Int32 → Int32 → Int32 → ea_H → Option (Int32 × ea_H)} {J18_ : Int32 → Int32 → Int32 → ea_H → Option (Int32 × ea_H)}  (mJ18 : ∀ (x1 : Int32) (sx0 : Int32) (sx1 : Int32) (h : ea_H), fle (J18 x1 sx0 sx1 h) (J18_ x1 sx0 sx1 h)) {x0 : Int32} {x1 : Int32} {h : ea_H} : fle (BX4_wordOf_0 J18 x0 x1 h) (BX4_wordOf_0 J18_ x0 x1 h) :=
  (fle_bind (fle_rfl _) fun _ => (fle_bind (fle_rfl _) fun _ => (fle_ite (mJ18 _ _ _ _) (mJ18 _ _ _ _))))
theorem nBX4_wordOf_0 {J18 : Int32 → Int32 → Int32 → ea_H → Option (Int32 × ea_H)} {J18_ : Nat → (Int32 → Int32 → Int32 → ea_H → Option (Int32 × ea_H))}  (mJ18 : ∀ (x1 : Int32) (sx0 : Int32) (sx1 : Int32) (h : ea_H), fct (J18 x1 sx0 sx1 h) (fun f => J18_ f x1 sx0 sx1 h)) {x0 : Int32} {x1 : Int32} {h : ea_H} : fct (BX4_wordOf_0 J18 x0 x1 h) (fun f => BX4_wordOf_0 (J18_ f) x0 x1 h) :=
  (fct_bind (fct_rfl _) fun _ => (fct_bind (fct_rfl _) fun _ => (fct_ite (mJ18 _ _ _ _) (mJ18 _ _ _ _))))
noncomputable def BX4_wordOf_18 (x1 : Int32) (sx0 : Int32) (sx1 : Int32) (h : ea_H) : Option (Int32 × ea_H) :=
  (some ((((2 : Int32) * (sx1 + sx0)) + (x1 / (64 : Int32))), h))
theorem tBX4_wordOf_18 {d : Nat} {h0 : ea_H} (hd : 2 ≤ d)  {x1 : Int32} {sx0 : Int32} {sx1 : Int32} {h : ea_H} {r : Int32} {h' : ea_H} (E : BX4_wordOf_18 x1 sx0 sx1 h = some (r, h')) : ea_W mX4_wordOf d h0 (some (vI r)) h' 18 [(1, vI x1)] [vI sx0, vI sx1] h := by
  unfold BX4_wordOf_18 at E
  refine ea_iadd (pc := 18) dX4_wordOf_18 ?_
  refine ea_istore_n (pc := 19) (lv' := [(1, vI x1), (2, vI (sx1 + sx0))]) dX4_wordOf_19 rfl (Nat.le_of_ble_eq_true rfl) [1, 0] rfl ?_
  refine ea_iconst (pc := 20) dX4_wordOf_20 (v := 2) rfl ?_
  refine ea_iload_n (pc := 21) dX4_wordOf_21 rfl 1 rfl ?_
  refine ea_imul (pc := 22) dX4_wordOf_22 ?_
  refine ea_iload_n (pc := 23) dX4_wordOf_23 rfl 0 rfl ?_
  refine ea_bipush (pc := 24) dX4_wordOf_24 (v := 64) rfl ?_
  refine ea_idiv (pc := 26) dX4_wordOf_26 (by decide) ?_
  refine ea_iadd (pc := 27) dX4_wordOf_27 ?_
  exact ea_iretO (pc := 28) dX4_wordOf_28 rfl rfl E
theorem kBX4_wordOf_18  {x1 : Int32} {sx0 : Int32} {sx1 : Int32} {h : ea_H} : kp (ea_core h) (BX4_wordOf_18 x1 sx0 sx1 h) :=
  (kp_ret rfl)
theorem lBX4_wordOf_18  {x1 : Int32} {sx0 : Int32} {sx1 : Int32} {h : ea_H} : fle (BX4_wordOf_18 x1 sx0 sx1 h) (BX4_wordOf_18 x1 sx0 sx1 h) :=
  (fle_rfl _)
theorem nBX4_wordOf_18  {x1 : Int32} {sx0 : Int32} {sx1 : Int32} {h : ea_H} : fct (BX4_wordOf_18 x1 sx0 sx1 h) (fun f => BX4_wordOf_18 x1 sx0 sx1 h) :=
  (fct_rfl _)
noncomputable def gX4_wordOf : Nat → (Int32 → Int32 → ea_H → Option (Int32 × ea_H)) × (Int32 → Int32 → Int32 → ea_H → Option (Int32 × ea_H))
  | 0 => (fun _ _ _ => none, fun _ _ _ _ => none)
  | f + 1 => (BX4_wordOf_0 (gX4_wordOf f).2, BX4_wordOf_18)
theorem mgX4_wordOf : ∀ f : Nat, (∀ (x0 : Int32) (x1 : Int32) (h : ea_H), fle ((gX4_wordOf f).1 x0 x1 h) ((gX4_wordOf (f + 1)).1 x0 x1 h)) ∧ (∀ (x1 : Int32) (sx0 : Int32) (sx1 : Int32) (h : ea_H), fle ((gX4_wordOf f).2 x1 sx0 sx1 h) ((gX4_wordOf (f + 1)).2 x1 sx0 sx1 h)) := by
  intro f
  induction f with
  | zero => exact ⟨fun _ _ _ => fle_none _, fun _ _ _ _ => fle_none _⟩
  | succ f ih => exact ⟨fun _ _ _ => lBX4_wordOf_0 ih.2, fun _ _ _ _ => lBX4_wordOf_18⟩
noncomputable def qX4_wordOf_0 (x0 : Int32) (x1 : Int32) (h : ea_H) : Option (Int32 × ea_H) := flim fun f => (gX4_wordOf f).1 x0 x1 h
noncomputable def qX4_wordOf_18 (x1 : Int32) (sx0 : Int32) (sx1 : Int32) (h : ea_H) : Option (Int32 × ea_H) := flim fun f => (gX4_wordOf f).2 x1 sx0 sx1 h
theorem fqX4_wordOf_0 (x0 : Int32) (x1 : Int32) (h : ea_H) : fct (qX4_wordOf_0 x0 x1 h) fun f => (gX4_wordOf f).1 x0 x1 h := flim_ct fun f => (mgX4_wordOf f).1 x0 x1 h
theorem fqX4_wordOf_18 (x1 : Int32) (sx0 : Int32) (sx1 : Int32) (h : ea_H) : fct (qX4_wordOf_18 x1 sx0 sx1 h) fun f => (gX4_wordOf f).2 x1 sx0 sx1 h := flim_ct fun f => (mgX4_wordOf f).2 x1 sx0 sx1 h
/-- how a block opens -/
theorem uqX4_wordOf_0 {x0 : Int32} {x1 : Int32} {h : ea_H} {P : Int32 × ea_H → Prop} (H : sat (BX4_wordOf_0 qX4_wordOf_18 x0 x1 h) P) : sat (qX4_wordOf_0 x0 x1 h) P := by
  obtain ⟨x, e, hp⟩ := H
  obtain ⟨n, hn⟩ := nBX4_wordOf_0 fqX4_wordOf_18 x e
  exact ⟨x, flim_at (fun f => (mgX4_wordOf f).1 x0 x1 h) (f := n + 1) (hn n (Nat.le_refl _)), hp⟩
/-- how a block opens -/
theorem uqX4_wordOf_18 {x1 : Int32} {sx0 : Int32} {sx1 : Int32} {h : ea_H} {P : Int32 × ea_H → Prop} (H : sat (BX4_wordOf_18 x1 sx0 sx1 h) P) : sat (qX4_wordOf_18 x1 sx0 sx1 h) P := by
  obtain ⟨x, e, hp⟩ := H
  obtain ⟨n, hn⟩ := nBX4_wordOf_18 x e
  exact ⟨x, flim_at (fun f => (mgX4_wordOf f).2 x1 sx0 sx1 h) (f := n + 1) (hn n (Nat.le_refl _)), hp⟩
theorem kgX4_wordOf : ∀ f : Nat, (∀ (x0 : Int32) (x1 : Int32) (h : ea_H), kp (ea_core h) ((gX4_wordOf f).1 x0 x1 h)) ∧ (∀ (x1 : Int32) (sx0 : Int32) (sx1 : Int32) (h : ea_H), kp (ea_core h) ((gX4_wordOf f).2 x1 sx0 sx1 h)) := by
  intro f
  induction f with
  | zero => exact ⟨fun _ _ _ => kp_none _, fun _ _ _ _ => kp_none _⟩
  | succ f ih => exact ⟨fun _ _ _ => kBX4_wordOf_0 ih.2, fun _ _ _ _ => kBX4_wordOf_18⟩
theorem tgX4_wordOf {d : Nat} {h0 : ea_H} (hd : 2 ≤ d) : ∀ f : Nat, (∀ (x0 : Int32) (x1 : Int32) (h : ea_H) (r : Int32) (h' : ea_H), (gX4_wordOf f).1 x0 x1 h = some (r, h') → ea_W mX4_wordOf d h0 (some (vI r)) h' 0 [(0, vI x0), (1, vI x1)] [] h) ∧ (∀ (x1 : Int32) (sx0 : Int32) (sx1 : Int32) (h : ea_H) (r : Int32) (h' : ea_H), (gX4_wordOf f).2 x1 sx0 sx1 h = some (r, h') → ea_W mX4_wordOf d h0 (some (vI r)) h' 18 [(1, vI x1)] [vI sx0, vI sx1] h) := by
  intro f
  induction f with
  | zero => exact ⟨fun _ _ _ _ _ E => no_some E, fun _ _ _ _ _ _ E => no_some E⟩
  | succ f ih => exact ⟨fun _ _ _ _ _ E => tBX4_wordOf_0 hd ih.2 E, fun _ _ _ _ _ _ E => tBX4_wordOf_18 hd E⟩
noncomputable def qX4_wordOf (x0 : Int32) (x1 : Int32) (h : ea_H) : Option (Int32 × ea_H) := qX4_wordOf_0 x0 x1 h
theorem sX4_wordOf {d : Nat} {x0 : Int32} {x1 : Int32} {h : ea_H} {r : Int32} {h' : ea_H} (hd : 2 ≤ d) (K : qX4_wordOf x0 x1 h = some (r, h')) : ea_Met mX4_wordOf d [vI x0, vI x1] h (some (vI r)) h' := by
  unfold qX4_wordOf at K
  obtain ⟨n, hn⟩ := fqX4_wordOf_0 x0 x1 h _ K
  have W := (tgX4_wordOf (d := d) (h0 := h) hd n).1 x0 x1 h _ _ (hn n (Nat.le_refl _))
  exact ea_enter rfl (Nat.le_of_ble_eq_true rfl) W
theorem kpX4_wordOf (x0 : Int32) (x1 : Int32) (h : ea_H) : kp (ea_core h) (qX4_wordOf x0 x1 h) := fun x e => by
  obtain ⟨n, hn⟩ := fqX4_wordOf_0 x0 x1 h x e
  exact (kgX4_wordOf n).1 x0 x1 h x (hn n (Nat.le_refl _))
noncomputable def BX4_rowBy_0 (x1 : Int32) (r2 : Option Nat) (h : ea_H) : Option (Int32 × ea_H) :=
  (Option.bind (qX10_trainIn (x1 : Int32) h) fun w1 => (Option.bind (qX10_isGoing (x1 : Int32) w1.2) fun w2 => (if w2.1 = (0 : Int32) then (Option.bind (qX10_stopIn (x1 : Int32) w2.2) fun w3 => (gd (vp_in (((8 : Int32) * w1.1) + w3.1) 80) (ea_let (ea_i w3.2 7 (Int32.toNatClampNeg (((8 : Int32) * w1.1) + w3.1))) fun (v5 : Int32) => (Option.bind (qX10_minuteIn (x1 : Int32) w3.2) fun w6 => (gd (r2 = some (Option.getD r2 0)) (gd (((Option.getD r2 0) < ea_n w6.2 ∧ ea_c w6.2 (Option.getD r2 0) = 5)) (Option.bind (qX5_stateIn (Option.getD r2 0) (v5 : Int32) w6.2) fun w7 => (Option.bind (qX5_row (w6.1 : Int32) (w7.1 : Int32) (v5 : Int32) w7.2) fun w10 => (some (w10.1, w10.2)))))))))) else (Option.bind (qX10_minuteIn (x1 : Int32) w2.2) fun w11 => (Option.bind (qX10_dayIn (x1 : Int32) w11.2) fun w12 => (Option.bind (qX5_row (w11.1 : Int32) (1 : Int32) ((((10 : Int32) * w12.1) + w1.1) : Int32) w12.2) fun w13 => (some (w13.1, w13.2))))))))
theorem tBX4_rowBy_0 {d : Nat} {h0 : ea_H} (hd : 2 ≤ d)  {x1 : Int32} {r2 : Option Nat} {h : ea_H} {r : Int32} {h' : ea_H} (E : BX4_rowBy_0 x1 r2 h = some (r, h')) (hs : ShC h) : ea_W mX4_rowBy d h0 (some (vI r)) h' 0 [(0, vR (some 50)), (1, vI x1), (2, vR r2)] [] h := by
  unfold BX4_rowBy_0 at E
  obtain ⟨w1, Ew1, E⟩ := bd_some E
  have hsw1 : ShC w1.2 := ShC_core ((kpX10_trainIn _ _) _ Ew1) hs
  refine ea_iload_n (pc := 0) dX4_rowBy_0 rfl 1 rfl ?_
  refine ea_callS (pc := 1) (d' := d - 1) (As := [vI x1]) (st := []) dX4_rowBy_1 kX10_trainIn (sX10_trainIn (d := d - 1) (by omega) Ew1) (by omega) rfl (Nat.le_of_ble_eq_true rfl) ew_1193 ew_786 ?_
  obtain ⟨w2, Ew2, E⟩ := bd_some E
  have hsw2 : ShC w2.2 := ShC_core ((kpX10_isGoing _ _) _ Ew2) hsw1
  refine ea_istore_n (pc := 4) (lv' := [(0, vR (some 50)), (1, vI x1), (2, vR r2), (3, vI w1.1)]) dX4_rowBy_4 rfl (Nat.le_of_ble_eq_true rfl) [1, 2, 3, 0] rfl ?_
  refine ea_iload_n (pc := 5) dX4_rowBy_5 rfl 1 rfl ?_
  refine ea_callS (pc := 6) (d' := d - 1) (As := [vI x1]) (st := []) dX4_rowBy_6 kX10_isGoing (sX10_isGoing (d := d - 1) (by omega) Ew2) (by omega) rfl (Nat.le_of_ble_eq_true rfl) ew_883 ew_779 ?_
  refine ea_if_eq (pc := 9) (tgt := 30) dX4_rowBy_9 rfl (fun c14 => ?_) (fun c14 => ?_)
  · have E := (if_pos c14).symm.trans E
    obtain ⟨w3, Ew3, E⟩ := bd_some E
    have hsw3 : ShC w3.2 := ShC_core ((kpX10_stopIn _ _) _ Ew3) hsw2
    refine ea_aload_n (pc := 30) dX4_rowBy_30 rfl 0 rfl ?_
    refine ea_getR (pc := 31) dX4_rowBy_31 ec_4 (k := 1) (Nat.le_of_ble_eq_true rfl) rfl (Or.inl ew_423) (cShC_50 hsw2).1 (cShC_50 hsw2).2.1 (rShC_50_1 hsw2) ?_
    refine ea_getR (pc := 34) dX4_rowBy_34 ec_9 (k := 2) (Nat.le_of_ble_eq_true rfl) rfl (Or.inl ew_192) (cShC_5 hsw2).1 (cShC_5 hsw2).2.1 (rShC_5_2 hsw2) ?_
    refine ea_bipush (pc := 37) dX4_rowBy_37 (v := 8) rfl ?_
    refine ea_iload_n (pc := 39) dX4_rowBy_39 rfl 3 rfl ?_
    refine ea_imul (pc := 40) dX4_rowBy_40 ?_
    refine ea_iload_n (pc := 41) dX4_rowBy_41 rfl 1 rfl ?_
    refine ea_callS (pc := 42) (d' := d - 1) (As := [vI x1]) (st := [vI ((8 : Int32) * w1.1), vR (some 7)]) dX4_rowBy_42 kX10_stopIn (sX10_stopIn (d := d - 1) (by omega) Ew3) (by omega) rfl (Nat.le_of_ble_eq_true rfl) ew_1195 ew_789 ?_
    obtain ⟨z4, E⟩ := gd_some E
    refine ea_iadd (pc := 45) dX4_rowBy_45 ?_
    obtain ⟨v5, ev5, E⟩ := let_some E
    refine ea_iald (pc := 46) dX4_rowBy_46 (cShC_7 hsw3).1 (cShC_7 hsw3).2.1 (ea_vpl (cShC_7 hsw3).2.2 z4) ?_
    obtain ⟨w6, Ew6, E⟩ := bd_some E
    have hsw6 : ShC w6.2 := ShC_core ((kpX10_minuteIn _ _) _ Ew6) hsw3
    refine ea_istore (pc := 47) (lv' := [(1, vI x1), (2, vR r2), (4, vI v5)]) dX4_rowBy_47 (Nat.le_of_ble_eq_true rfl) [2, 3, 0] (by rw [ev5]; rfl) ?_
    refine ea_iload_n (pc := 49) dX4_rowBy_49 rfl 0 rfl ?_
    refine ea_callS (pc := 50) (d' := d - 1) (As := [vI x1]) (st := []) dX4_rowBy_50 kX10_minuteIn (sX10_minuteIn (d := d - 1) (by omega) Ew6) (by omega) rfl (Nat.le_of_ble_eq_true rfl) ew_1184 ew_812 ?_
    obtain ⟨e8, E⟩ := gd_some E
    refine ea_aload_n (pc := 53) dX4_rowBy_53 rfl 1 rfl ?_
    refine ea_iload (pc := 54) dX4_rowBy_54 2 rfl ?_
    obtain ⟨f9, E⟩ := gd_some E
    obtain ⟨w7, Ew7, E⟩ := bd_some E
    have hsw7 : ShC w7.2 := ShC_core ((kpX5_stateIn _ _ _) _ Ew7) hsw6
    refine ea_deref1 e8 ?_
    refine ea_callV (pc := 56) (d' := d - 1) (As := [vI v5]) (st := [vI w6.1]) dX4_rowBy_56 kX5_stateIn (sX5_stateIn (d := d - 1) (by omega) Ew7) (by omega) rfl (Nat.le_of_ble_eq_true rfl) ew_1196 ew_909 ew_910 (ci := 5) rfl (by decide) f9.1 f9.2 ?_
    obtain ⟨w10, Ew10, E⟩ := bd_some E
    have hsw10 : ShC w10.2 := ShC_core ((kpX5_row _ _ _ _) _ Ew10) hsw7
    refine ea_iload (pc := 59) dX4_rowBy_59 2 rfl ?_
    refine ea_callS (pc := 61) (d' := d - 1) (As := [vI w6.1, vI w7.1, vI v5]) (st := []) dX4_rowBy_61 kX5_row (sX5_row (d := d - 1) (by omega) Ew10) (by omega) rfl (Nat.le_of_ble_eq_true rfl) ew_1181 ew_860 ?_
    exact ea_iretO (pc := 64) dX4_rowBy_64 rfl rfl E
  · have E := (if_neg c14).symm.trans E
    obtain ⟨w11, Ew11, E⟩ := bd_some E
    have hsw11 : ShC w11.2 := ShC_core ((kpX10_minuteIn _ _) _ Ew11) hsw2
    refine ea_iload_n (pc := 12) dX4_rowBy_12 rfl 1 rfl ?_
    refine ea_callS (pc := 13) (d' := d - 1) (As := [vI x1]) (st := []) dX4_rowBy_13 kX10_minuteIn (sX10_minuteIn (d := d - 1) (by omega) Ew11) (by omega) rfl (Nat.le_of_ble_eq_true rfl) ew_1184 ew_812 ?_
    obtain ⟨w12, Ew12, E⟩ := bd_some E
    have hsw12 : ShC w12.2 := ShC_core ((kpX10_dayIn _ _) _ Ew12) hsw11
    refine ea_iconst (pc := 16) dX4_rowBy_16 (v := 1) rfl ?_
    refine ea_bipush (pc := 17) dX4_rowBy_17 (v := 10) rfl ?_
    refine ea_iload_n (pc := 19) dX4_rowBy_19 rfl 1 rfl ?_
    refine ea_callS (pc := 20) (d' := d - 1) (As := [vI x1]) (st := [vI 10, vI 1, vI w11.1]) dX4_rowBy_20 kX10_dayIn (sX10_dayIn (d := d - 1) (by omega) Ew12) (by omega) rfl (Nat.le_of_ble_eq_true rfl) ew_1194 ew_827 ?_
    obtain ⟨w13, Ew13, E⟩ := bd_some E
    have hsw13 : ShC w13.2 := ShC_core ((kpX5_row _ _ _ _) _ Ew13) hsw12
    refine ea_imul (pc := 23) dX4_rowBy_23 ?_
    refine ea_iload_n (pc := 24) dX4_rowBy_24 rfl 3 rfl ?_
    refine ea_iadd (pc := 25) dX4_rowBy_25 ?_
    refine ea_callS (pc := 26) (d' := d - 1) (As := [vI w11.1, vI 1, vI (((10 : Int32) * w12.1) + w1.1)]) (st := []) dX4_rowBy_26 kX5_row (sX5_row (d := d - 1) (by omega) Ew13) (by omega) rfl (Nat.le_of_ble_eq_true rfl) ew_1181 ew_860 ?_
    exact ea_iretO (pc := 29) dX4_rowBy_29 rfl rfl E
theorem kBX4_rowBy_0  {x1 : Int32} {r2 : Option Nat} {h : ea_H} : kp (ea_core h) (BX4_rowBy_0 x1 r2 h) :=
  (kp_bind (kp_tw (kpX10_trainIn _ _) rfl) fun w1 hcw1 => (kp_bind (kp_tw (kpX10_isGoing _ _) hcw1) fun w2 hcw2 => (kp_ite (kp_bind (kp_tw (kpX10_stopIn _ _) hcw2) fun w3 hcw3 => (kp_gd (kp_let (kp_bind (kp_tw (kpX10_minuteIn _ _) hcw3) fun w6 hcw6 => (kp_gd (kp_gd (kp_bind (kp_tw (kpX5_stateIn _ _ _) hcw6) fun w7 hcw7 => (kp_bind (kp_tw (kpX5_row _ _ _ _) hcw7) fun w10 hcw10 => (kp_ret hcw10))))))))) (kp_bind (kp_tw (kpX10_minuteIn _ _) hcw2) fun w11 hcw11 => (kp_bind (kp_tw (kpX10_dayIn _ _) hcw11) fun w12 hcw12 => (kp_bind (kp_tw (kpX5_row _ _ _ _) hcw12) fun w13 hcw13 => (kp_ret hcw13)))))))
noncomputable def qX4_rowBy (x1 : Int32) (r2 : Option Nat) (h : ea_H) : Option (Int32 × ea_H) := BX4_rowBy_0 x1 r2 h
theorem sX4_rowBy {d : Nat} {x1 : Int32} {r2 : Option Nat} {h : ea_H} {r : Int32} {h' : ea_H} (hd : 2 ≤ d) (hs : ShC h) (K : qX4_rowBy x1 r2 h = some (r, h')) : ea_Met mX4_rowBy d [vR (some 50), vI x1, vR r2] h (some (vI r)) h' := by
  unfold qX4_rowBy at K
  have W := tBX4_rowBy_0 hd (h0 := h) K hs
  exact ea_enter rfl (Nat.le_of_ble_eq_true rfl) W
theorem kpX4_rowBy (x1 : Int32) (r2 : Option Nat) (h : ea_H) : kp (ea_core h) (qX4_rowBy x1 r2 h) := kBX4_rowBy_0
noncomputable def BX5_note_0 (a0 : Nat) (x1 : Int32) (x2 : Int32) (x3 : Int32) (h : ea_H) : Option (Unit × ea_H) :=
  (Option.bind (qX5_row (x1 : Int32) (x2 : Int32) (x3 : Int32) h) fun w1 => (gd ((a0 < ea_n w1.2 ∧ ea_c w1.2 a0 = 5)) (ea_let (ea_wi w1.2 a0 17 w1.1) fun H3 => (gd ((a0 < ea_n H3 ∧ ea_c H3 a0 = 5)) (gd ((a0 < ea_n H3 ∧ ea_c H3 a0 = 5)) (ea_let (ea_wi H3 a0 16 ((ea_i H3 a0 16) + (1 : Int32))) fun H6 => (some ((), H6))))))))
theorem tBX5_note_0 {d : Nat} {a0 : Nat} {h0 : ea_H} (hd : 2 ≤ d)  {x1 : Int32} {x2 : Int32} {x3 : Int32} {h : ea_H} {r : Unit} {h' : ea_H} (E : BX5_note_0 a0 x1 x2 x3 h = some (r, h')) : ea_W mX5_note d h0 none h' 0 [(0, vR (some a0)), (1, vI x1), (2, vI x2), (3, vI x3)] [] h := by
  unfold BX5_note_0 at E
  obtain ⟨w1, Ew1, E⟩ := bd_some E
  refine ea_aload_n (pc := 0) dX5_note_0 rfl 0 rfl ?_
  refine ea_iload_n (pc := 1) dX5_note_1 rfl 1 rfl ?_
  refine ea_iload_n (pc := 2) dX5_note_2 rfl 2 rfl ?_
  refine ea_iload_n (pc := 3) dX5_note_3 rfl 3 rfl ?_
  refine ea_callS (pc := 4) (d' := d - 1) (As := [vI x1, vI x2, vI x3]) (st := [vR (some a0)]) dX5_note_4 kX5_row (sX5_row (d := d - 1) (by omega) Ew1) (by omega) rfl (Nat.le_of_ble_eq_true rfl) ew_859 ew_860 ?_
  obtain ⟨f2, E⟩ := gd_some E
  obtain ⟨H3, eH3, E⟩ := let_some E
  refine ea_putI (pc := 7) dX5_note_7 ec_5 (k := 17) (Nat.le_of_ble_eq_true rfl) rfl (Or.inl ⟨rfl, Or.inl ew_550⟩) rfl rfl f2.1 f2.2 ?_
  refine ea_nm eH3 ?_
  obtain ⟨f4, E⟩ := gd_some E
  refine ea_aload_n (pc := 10) dX5_note_10 rfl 0 rfl ?_
  refine ea_dup (pc := 11) dX5_note_11 rfl ?_
  obtain ⟨f5, E⟩ := gd_some E
  refine ea_getI (pc := 12) dX5_note_12 ec_5 (k := 16) (Nat.le_of_ble_eq_true rfl) rfl (Or.inl ew_548) f4.1 f4.2 ?_
  refine ea_iconst (pc := 15) dX5_note_15 (v := 1) rfl ?_
  refine ea_iadd (pc := 16) dX5_note_16 ?_
  obtain ⟨H6, eH6, E⟩ := let_some E
  refine ea_putI (pc := 17) dX5_note_17 ec_5 (k := 16) (Nat.le_of_ble_eq_true rfl) rfl (Or.inl ⟨rfl, Or.inl ew_548⟩) rfl rfl f5.1 f5.2 ?_
  refine ea_nm eH6 ?_
  exact ea_vretO (pc := 20) dX5_note_20 rfl E
theorem kBX5_note_0 {a0 : Nat}  {x1 : Int32} {x2 : Int32} {x3 : Int32} {h : ea_H} : kp (ea_core h) (BX5_note_0 a0 x1 x2 x3 h) :=
  (kp_bind (kp_tw (kpX5_row _ _ _ _) rfl) fun w1 hcw1 => (kp_gd (kp_let (kp_gd (kp_gd (kp_let (kp_ret hcw1)))))))
noncomputable def qX5_note (a0 : Nat) (x1 : Int32) (x2 : Int32) (x3 : Int32) (h : ea_H) : Option (Unit × ea_H) := BX5_note_0 a0 x1 x2 x3 h
theorem sX5_note {d : Nat} {a0 : Nat} {x1 : Int32} {x2 : Int32} {x3 : Int32} {h : ea_H} {r : Unit} {h' : ea_H} (hd : 2 ≤ d) (K : qX5_note a0 x1 x2 x3 h = some (r, h')) : ea_Met mX5_note d [vR (some a0), vI x1, vI x2, vI x3] h none h' := by
  unfold qX5_note at K
  have W := tBX5_note_0 hd (h0 := h) K
  exact ea_enter rfl (Nat.le_of_ble_eq_true rfl) W
theorem kpX5_note (a0 : Nat) (x1 : Int32) (x2 : Int32) (x3 : Int32) (h : ea_H) : kp (ea_core h) (qX5_note a0 x1 x2 x3 h) := kBX5_note_0
noncomputable def BX6_readNots_0 (J2 : Int32 → ea_H → Option (Int32 × ea_H)) (h : ea_H) : Option (Int32 × ea_H) :=
  (J2 (0 : Int32) h)
theorem tBX6_readNots_0 {d : Nat} {h0 : ea_H} (hd : 2 ≤ d) {J2 : Int32 → ea_H → Option (Int32 × ea_H)}  (kJ2 : ∀ (x1 : Int32) (h : ea_H) (r : Int32) (h' : ea_H), J2 x1 h = some (r, h') → ShC h → ea_W mX6_readNots d h0 (some (vI r)) h' 2 [(0, vR (some 24)), (1, vI x1)] [] h) {h : ea_H} {r : Int32} {h' : ea_H} (E : BX6_readNots_0 J2 h = some (r, h')) (hs : ShC h) : ea_W mX6_readNots d h0 (some (vI r)) h' 0 [(0, vR (some 24))] [] h := by
  unfold BX6_readNots_0 at E
  refine ea_iconst (pc := 0) dX6_readNots_0 (v := 0) rfl ?_
  refine ea_istore_n (pc := 1) (lv' := [(0, vR (some 24)), (1, vI 0)]) dX6_readNots_1 rfl (Nat.le_of_ble_eq_true rfl) [1, 0] rfl ?_
  exact (kJ2 (0 : Int32) h _ _ E hs)
theorem kBX6_readNots_0 {J2 : Int32 → ea_H → Option (Int32 × ea_H)}  (cJ2 : ∀ (x1 : Int32) (h : ea_H), kp (ea_core h) (J2 x1 h)) {h : ea_H} : kp (ea_core h) (BX6_readNots_0 J2 h) :=
  (kp_tw (cJ2 _ _) rfl)
theorem lBX6_readNots_0 {J2 : Int32 → ea_H → Option (Int32 × ea_H)} {J2_ : Int32 → ea_H → Option (Int32 × ea_H)}  (mJ2 : ∀ (x1 : Int32) (h : ea_H), fle (J2 x1 h) (J2_ x1 h)) {h : ea_H} : fle (BX6_readNots_0 J2 h) (BX6_readNots_0 J2_ h) :=
  (mJ2 _ _)
theorem nBX6_readNots_0 {J2 : Int32 → ea_H → Option (Int32 × ea_H)} {J2_ : Nat → (Int32 → ea_H → Option (Int32 × ea_H))}  (mJ2 : ∀ (x1 : Int32) (h : ea_H), fct (J2 x1 h) (fun f => J2_ f x1 h)) {h : ea_H} : fct (BX6_readNots_0 J2 h) (fun f => BX6_readNots_0 (J2_ f) h) :=
  (mJ2 _ _)
noncomputable def BX6_readNots_2 (J2 : Int32 → ea_H → Option (Int32 × ea_H)) (x1 : Int32) (h : ea_H) : Option (Int32 × ea_H) :=
  (if (8 : Int32) < x1 then (some (x1, h)) else (if (ea_i h 24 7) = (15 : Int32) then (if x1 = (8 : Int32) then (Option.bind (qX6_refuse (3 : Int32) h) fun w2 => (some (((-1) : Int32), w2.2))) else (Option.bind (qX6_step  h) fun w1 => (J2 ((x1 + (1 : Int32)) : Int32) w1.2))) else (some (x1, h))))
theorem tBX6_readNots_2 {d : Nat} {h0 : ea_H} (hd : 2 ≤ d) {J2 : Int32 → ea_H → Option (Int32 × ea_H)}  (kJ2 : ∀ (x1 : Int32) (h : ea_H) (r : Int32) (h' : ea_H), J2 x1 h = some (r, h') → ShC h → ea_W mX6_readNots d h0 (some (vI r)) h' 2 [(0, vR (some 24)), (1, vI x1)] [] h) {x1 : Int32} {h : ea_H} {r : Int32} {h' : ea_H} (E : BX6_readNots_2 J2 x1 h = some (r, h')) (hs : ShC h) : ea_W mX6_readNots d h0 (some (vI r)) h' 2 [(0, vR (some 24)), (1, vI x1)] [] h := by
  unfold BX6_readNots_2 at E
  refine ea_iload_n (pc := 2) dX6_readNots_2 rfl 1 rfl ?_
  refine ea_bipush (pc := 3) dX6_readNots_3 (v := 8) rfl ?_
  refine ea_icmp_gt (pc := 5) (tgt := 41) dX6_readNots_5 rfl (fun c5 => ?_) (fun c5 => ?_)
  · have E := (if_pos c5).symm.trans E
    refine ea_iload_n (pc := 41) dX6_readNots_41 rfl 1 rfl ?_
    exact ea_iretO (pc := 42) dX6_readNots_42 rfl rfl E
  · have E := (if_neg c5).symm.trans E
    refine ea_aload_n (pc := 8) dX6_readNots_8 rfl 0 rfl ?_
    refine ea_getI (pc := 9) dX6_readNots_9 ec_6 (k := 7) (Nat.le_of_ble_eq_true rfl) rfl (Or.inl ew_304) (cShC_24 hs).1 (cShC_24 hs).2.1 ?_
    refine ea_bipush (pc := 12) dX6_readNots_12 (v := 15) rfl ?_
    refine ea_icmp_ne (pc := 14) (tgt := 41) dX6_readNots_14 rfl (fun c4 => ?_) (fun c4 => ?_)
    · have E := (if_neg c4).symm.trans E
      refine ea_iload_n (pc := 41) dX6_readNots_41 rfl 1 rfl ?_
      exact ea_iretO (pc := 42) dX6_readNots_42 rfl rfl E
    · have E := (if_pos c4).symm.trans E
      refine ea_iload_n (pc := 17) dX6_readNots_17 rfl 1 rfl ?_
      refine ea_bipush (pc := 18) dX6_readNots_18 (v := 8) rfl ?_
      refine ea_icmp_ne (pc := 20) (tgt := 31) dX6_readNots_20 rfl (fun c3 => ?_) (fun c3 => ?_)
      · have E := (if_neg c3).symm.trans E
        obtain ⟨w1, Ew1, E⟩ := bd_some E
        have hsw1 : ShC w1.2 := ShC_core ((kpX6_step _) _ Ew1) hs
        refine ea_aload_n (pc := 31) dX6_readNots_31 rfl 0 rfl ?_
        refine ea_callV (pc := 32) (d' := d - 1) (As := []) (st := []) dX6_readNots_32 kX6_step (sX6_step (d := d - 1) (by omega) hs Ew1) (by omega) rfl (Nat.le_of_ble_eq_true rfl) ew_996 ew_998 ew_21 (ci := 6) rfl (by decide) (cShC_24 hs).1 (cShC_24 hs).2.1 ?_
        refine ea_iinc (pc := 35) (v := 1) (lv' := [(0, vR (some 24)), (1, vI (x1 + (1 : Int32)))]) dX6_readNots_35 1 rfl rfl (Nat.le_of_ble_eq_true rfl) [1, 0] rfl ?_
        refine ea_goto (pc := 38) (tgt := 2) dX6_readNots_38 rfl ?_
        exact (kJ2 ((x1 + (1 : Int32)) : Int32) w1.2 _ _ E hsw1)
      · have E := (if_pos c3).symm.trans E
        obtain ⟨w2, Ew2, E⟩ := bd_some E
        have hsw2 : ShC w2.2 := ShC_core ((kpX6_refuse _ _) _ Ew2) hs
        refine ea_aload_n (pc := 23) dX6_readNots_23 rfl 0 rfl ?_
        refine ea_iconst (pc := 24) dX6_readNots_24 (v := 3) rfl ?_
        refine ea_callV (pc := 25) (d' := d - 1) (As := [vI 3]) (st := []) dX6_readNots_25 kX6_refuse (sX6_refuse (d := d - 1) (by omega) hs Ew2) (by omega) rfl (Nat.le_of_ble_eq_true rfl) ew_988 ew_990 ew_19 (ci := 6) rfl (by decide) (cShC_24 hs).1 (cShC_24 hs).2.1 ?_
        refine ea_pop (pc := 28) dX6_readNots_28 rfl ?_
        refine ea_iconst (pc := 29) dX6_readNots_29 (v := (-1)) rfl ?_
        exact ea_iretO (pc := 30) dX6_readNots_30 rfl rfl E
theorem kBX6_readNots_2 {J2 : Int32 → ea_H → Option (Int32 × ea_H)}  (cJ2 : ∀ (x1 : Int32) (h : ea_H), kp (ea_core h) (J2 x1 h)) {x1 : Int32} {h : ea_H} : kp (ea_core h) (BX6_readNots_2 J2 x1 h) :=
  (kp_ite (kp_ret rfl) (kp_ite (kp_ite (kp_bind (kp_tw (kpX6_refuse _ _) rfl) fun w2 hcw2 => (kp_ret hcw2)) (kp_bind (kp_tw (kpX6_step _) rfl) fun w1 hcw1 => (kp_tw (cJ2 _ _) hcw1))) (kp_ret rfl)))
theorem lBX6_readNots_2 {J2 : Int32 → ea_H → Option (Int32 × ea_H)} {J2_ : Int32 → ea_H → Option (Int32 × ea_H)}  (mJ2 : ∀ (x1 : Int32) (h : ea_H), fle (J2 x1 h) (J2_ x1 h)) {x1 : Int32} {h : ea_H} : fle (BX6_readNots_2 J2 x1 h) (BX6_readNots_2 J2_ x1 h) :=
  (fle_ite (fle_rfl _) (fle_ite (fle_ite (fle_rfl _) (fle_bind (fle_rfl _) fun _ => (mJ2 _ _))) (fle_rfl _)))
theorem nBX6_readNots_2 {J2 : Int32 → ea_H → Option (Int32 × ea_H)} {J2_ : Nat → (Int32 → ea_H → Option (Int32 × ea_H))}  (mJ2 : ∀ (x1 : Int32) (h : ea_H), fct (J2 x1 h) (fun f => J2_ f x1 h)) {x1 : Int32} {h : ea_H} : fct (BX6_readNots_2 J2 x1 h) (fun f => BX6_readNots_2 (J2_ f) x1 h) :=
  (fct_ite (fct_rfl _) (fct_ite (fct_ite (fct_rfl _) (fct_bind (fct_rfl _) fun _ => (mJ2 _ _))) (fct_rfl _)))
noncomputable def gX6_readNots : Nat → (ea_H → Option (Int32 × ea_H)) × (Int32 → ea_H → Option (Int32 × ea_H))
  | 0 => (fun _ => none, fun _ _ => none)
  | f + 1 => (BX6_readNots_0 (gX6_readNots f).2, BX6_readNots_2 (gX6_readNots f).2)
theorem mgX6_readNots : ∀ f : Nat, (∀ (h : ea_H), fle ((gX6_readNots f).1 h) ((gX6_readNots (f + 1)).1 h)) ∧ (∀ (x1 : Int32) (h : ea_H), fle ((gX6_readNots f).2 x1 h) ((gX6_readNots (f + 1)).2 x1 h)) := by
  intro f
  induction f with
  | zero => exact ⟨fun _ => fle_none _, fun _ _ => fle_none _⟩
  | succ f ih => exact ⟨fun _ => lBX6_readNots_0 ih.2, fun _ _ => lBX6_readNots_2 ih.2⟩
noncomputable def qX6_readNots_0 (h : ea_H) : Option (Int32 × ea_H) := flim fun f => (gX6_readNots f).1 h
noncomputable def qX6_readNots_2 (x1 : Int32) (h : ea_H) : Option (Int32 × ea_H) := flim fun f => (gX6_readNots f).2 x1 h
theorem fqX6_readNots_0 (h : ea_H) : fct (qX6_readNots_0 h) fun f => (gX6_readNots f).1 h := flim_ct fun f => (mgX6_readNots f).1 h
theorem fqX6_readNots_2 (x1 : Int32) (h : ea_H) : fct (qX6_readNots_2 x1 h) fun f => (gX6_readNots f).2 x1 h := flim_ct fun f => (mgX6_readNots f).2 x1 h
/-- how a block opens -/
theorem uqX6_readNots_0 {h : ea_H} {P : Int32 × ea_H → Prop} (H : sat (BX6_readNots_0 qX6_readNots_2 h) P) : sat (qX6_readNots_0 h) P := by
  obtain ⟨x, e, hp⟩ := H
  obtain ⟨n, hn⟩ := nBX6_readNots_0 fqX6_readNots_2 x e
  exact ⟨x, flim_at (fun f => (mgX6_readNots f).1 h) (f := n + 1) (hn n (Nat.le_refl _)), hp⟩
/-- how a block opens -/
theorem uqX6_readNots_2 {x1 : Int32} {h : ea_H} {P : Int32 × ea_H → Prop} (H : sat (BX6_readNots_2 qX6_readNots_2 x1 h) P) : sat (qX6_readNots_2 x1 h) P := by
  obtain ⟨x, e, hp⟩ := H
  obtain ⟨n, hn⟩ := nBX6_readNots_2 fqX6_readNots_2 x e
  exact ⟨x, flim_at (fun f => (mgX6_readNots f).2 x1 h) (f := n + 1) (hn n (Nat.le_refl _)), hp⟩
theorem kgX6_readNots : ∀ f : Nat, (∀ (h : ea_H), kp (ea_core h) ((gX6_readNots f).1 h)) ∧ (∀ (x1 : Int32) (h : ea_H), kp (ea_core h) ((gX6_readNots f).2 x1 h)) := by
  intro f
  induction f with
  | zero => exact ⟨fun _ => kp_none _, fun _ _ => kp_none _⟩
  | succ f ih => exact ⟨fun _ => kBX6_readNots_0 ih.2, fun _ _ => kBX6_readNots_2 ih.2⟩
theorem tgX6_readNots {d : Nat} {h0 : ea_H} (hd : 2 ≤ d) : ∀ f : Nat, (∀ (h : ea_H) (r : Int32) (h' : ea_H), (gX6_readNots f).1 h = some (r, h') → ShC h → ea_W mX6_readNots d h0 (some (vI r)) h' 0 [(0, vR (some 24))] [] h) ∧ (∀ (x1 : Int32) (h : ea_H) (r : Int32) (h' : ea_H), (gX6_readNots f).2 x1 h = some (r, h') → ShC h → ea_W mX6_readNots d h0 (some (vI r)) h' 2 [(0, vR (some 24)), (1, vI x1)] [] h) := by
  intro f
  induction f with
  | zero => exact ⟨fun _ _ _ E => no_some E, fun _ _ _ _ E => no_some E⟩
  | succ f ih => exact ⟨fun _ _ _ E hs => tBX6_readNots_0 hd ih.2 E hs, fun _ _ _ _ E hs => tBX6_readNots_2 hd ih.2 E hs⟩
noncomputable def qX6_readNots (h : ea_H) : Option (Int32 × ea_H) := qX6_readNots_0  h
theorem sX6_readNots {d : Nat} {h : ea_H} {r : Int32} {h' : ea_H} (hd : 2 ≤ d) (hs : ShC h) (K : qX6_readNots h = some (r, h')) : ea_Met mX6_readNots d [vR (some 24)] h (some (vI r)) h' := by
  unfold qX6_readNots at K
  obtain ⟨n, hn⟩ := fqX6_readNots_0  h _ K
  have W := (tgX6_readNots (d := d) (h0 := h) hd n).1  h _ _ (hn n (Nat.le_refl _)) hs
  exact ea_enter rfl (Nat.le_of_ble_eq_true rfl) W
theorem kpX6_readNots (h : ea_H) : kp (ea_core h) (qX6_readNots h) := fun x e => by
  obtain ⟨n, hn⟩ := fqX6_readNots_0  h x e
  exact (kgX6_readNots n).1  h x (hn n (Nat.le_refl _))
noncomputable def BX6_skip_0 (x1 : Int32) (h : ea_H) : Option (Int32 × ea_H) :=
  (if (ea_i h 24 7) = x1 then (Option.bind (qX6_step  h) fun w1 => (some ((1 : Int32), w1.2))) else (Option.bind (qX6_refuse (1 : Int32) h) fun w2 => (gd ((w2.1 = 0 ∨ w2.1 = 1)) (some (w2.1, w2.2)))))
theorem tBX6_skip_0 {d : Nat} {h0 : ea_H} (hd : 2 ≤ d)  {x1 : Int32} {h : ea_H} {r : Int32} {h' : ea_H} (E : BX6_skip_0 x1 h = some (r, h')) (hs : ShC h) : ea_W mX6_skip d h0 (some (vI r)) h' 0 [(0, vR (some 24)), (1, vI x1)] [] h := by
  unfold BX6_skip_0 at E
  refine ea_aload_n (pc := 0) dX6_skip_0 rfl 0 rfl ?_
  refine ea_getI (pc := 1) dX6_skip_1 ec_6 (k := 7) (Nat.le_of_ble_eq_true rfl) rfl (Or.inl ew_304) (cShC_24 hs).1 (cShC_24 hs).2.1 ?_
  refine ea_iload_n (pc := 4) dX6_skip_4 rfl 1 rfl ?_
  refine ea_icmp_eq (pc := 5) (tgt := 14) dX6_skip_5 rfl (fun c4 => ?_) (fun c4 => ?_)
  · have E := (if_pos c4).symm.trans E
    obtain ⟨w1, Ew1, E⟩ := bd_some E
    have hsw1 : ShC w1.2 := ShC_core ((kpX6_step _) _ Ew1) hs
    refine ea_aload_n (pc := 14) dX6_skip_14 rfl 0 rfl ?_
    refine ea_callV (pc := 15) (d' := d - 1) (As := []) (st := []) dX6_skip_15 kX6_step (sX6_step (d := d - 1) (by omega) hs Ew1) (by omega) rfl (Nat.le_of_ble_eq_true rfl) ew_996 ew_998 ew_21 (ci := 6) rfl (by decide) (cShC_24 hs).1 (cShC_24 hs).2.1 ?_
    refine ea_iconst (pc := 18) dX6_skip_18 (v := 1) rfl ?_
    exact ea_iretO (pc := 19) dX6_skip_19 rfl (ea_bn (Or.inr rfl)) E
  · have E := (if_neg c4).symm.trans E
    obtain ⟨w2, Ew2, E⟩ := bd_some E
    have hsw2 : ShC w2.2 := ShC_core ((kpX6_refuse _ _) _ Ew2) hs
    refine ea_aload_n (pc := 8) dX6_skip_8 rfl 0 rfl ?_
    refine ea_iconst (pc := 9) dX6_skip_9 (v := 1) rfl ?_
    refine ea_callV (pc := 10) (d' := d - 1) (As := [vI 1]) (st := []) dX6_skip_10 kX6_refuse (sX6_refuse (d := d - 1) (by omega) hs Ew2) (by omega) rfl (Nat.le_of_ble_eq_true rfl) ew_988 ew_990 ew_19 (ci := 6) rfl (by decide) (cShC_24 hs).1 (cShC_24 hs).2.1 ?_
    obtain ⟨z3, E⟩ := gd_some E
    exact ea_iretO (pc := 13) dX6_skip_13 rfl (ea_bn z3) E
theorem kBX6_skip_0  {x1 : Int32} {h : ea_H} : kp (ea_core h) (BX6_skip_0 x1 h) :=
  (kp_ite (kp_bind (kp_tw (kpX6_step _) rfl) fun w1 hcw1 => (kp_ret hcw1)) (kp_bind (kp_tw (kpX6_refuse _ _) rfl) fun w2 hcw2 => (kp_gd (kp_ret hcw2))))
noncomputable def qX6_skip (x1 : Int32) (h : ea_H) : Option (Int32 × ea_H) := BX6_skip_0 x1 h
theorem sX6_skip {d : Nat} {x1 : Int32} {h : ea_H} {r : Int32} {h' : ea_H} (hd : 2 ≤ d) (hs : ShC h) (K : qX6_skip x1 h = some (r, h')) : ea_Met mX6_skip d [vR (some 24), vI x1] h (some (vI r)) h' := by
  unfold qX6_skip at K
  have W := tBX6_skip_0 hd (h0 := h) K hs
  exact ea_enter rfl (Nat.le_of_ble_eq_true rfl) W
theorem kpX6_skip (x1 : Int32) (h : ea_H) : kp (ea_core h) (qX6_skip x1 h) := kBX6_skip_0
noncomputable def BX6_scanWord_0 (J5 : Int32 → Int64 → Int32 → ea_H → Option (Unit × ea_H)) (x1 : Int32) (h : ea_H) : Option (Unit × ea_H) :=
  (J5 (x1 : Int32) (0 : Int64) (x1 : Int32) h)
theorem tBX6_scanWord_0 {d : Nat} {h0 : ea_H} (hd : 2 ≤ d) {J5 : Int32 → Int64 → Int32 → ea_H → Option (Unit × ea_H)}  (kJ5 : ∀ (x1 : Int32) (y2 : Int64) (x4 : Int32) (h : ea_H) (r : Unit) (h' : ea_H), J5 x1 y2 x4 h = some (r, h') → ShC h → ea_W mX6_scanWord d h0 none h' 5 [(0, vR (some 24)), (1, vI x1), (2, vJ y2), (4, vI x4)] [] h) {x1 : Int32} {h : ea_H} {r : Unit} {h' : ea_H} (E : BX6_scanWord_0 J5 x1 h = some (r, h')) (hs : ShC h) : ea_W mX6_scanWord d h0 none h' 0 [(0, vR (some 24)), (1, vI x1)] [] h := by
  unfold BX6_scanWord_0 at E
  refine ea_lconst (pc := 0) dX6_scanWord_0 (v := 0) rfl ?_
  refine ea_lstore_n (pc := 1) (lv' := [(0, vR (some 24)), (1, vI x1), (2, vJ 0)]) dX6_scanWord_1 rfl (Nat.le_of_ble_eq_true rfl) [1, 2, 0] rfl ?_
  refine ea_iload_n (pc := 2) dX6_scanWord_2 rfl 1 rfl ?_
  refine ea_istore (pc := 3) (lv' := [(0, vR (some 24)), (1, vI x1), (2, vJ 0), (4, vI x1)]) dX6_scanWord_3 (Nat.le_of_ble_eq_true rfl) [1, 2, 3, 0] rfl ?_
  exact (kJ5 (x1 : Int32) (0 : Int64) (x1 : Int32) h _ _ E hs)
theorem kBX6_scanWord_0 {J5 : Int32 → Int64 → Int32 → ea_H → Option (Unit × ea_H)}  (cJ5 : ∀ (x1 : Int32) (y2 : Int64) (x4 : Int32) (h : ea_H), kp (ea_core h) (J5 x1 y2 x4 h)) {x1 : Int32} {h : ea_H} : kp (ea_core h) (BX6_scanWord_0 J5 x1 h) :=
  (kp_tw (cJ5 _ _ _ _) rfl)
theorem lBX6_scanWord_0 {J5 : Int32 → Int64 → Int32 → ea_H → Option (Unit × ea_H)} {J5_ : Int32 → Int64 → Int32 → ea_H → Option (Unit × ea_H)}  (mJ5 : ∀ (x1 : Int32) (y2 : Int64) (x4 : Int32) (h : ea_H), fle (J5 x1 y2 x4 h) (J5_ x1 y2 x4 h)) {x1 : Int32} {h : ea_H} : fle (BX6_scanWord_0 J5 x1 h) (BX6_scanWord_0 J5_ x1 h) :=
  (mJ5 _ _ _ _)
theorem nBX6_scanWord_0 {J5 : Int32 → Int64 → Int32 → ea_H → Option (Unit × ea_H)} {J5_ : Nat → (Int32 → Int64 → Int32 → ea_H → Option (Unit × ea_H))}  (mJ5 : ∀ (x1 : Int32) (y2 : Int64) (x4 : Int32) (h : ea_H), fct (J5 x1 y2 x4 h) (fun f => J5_ f x1 y2 x4 h)) {x1 : Int32} {h : ea_H} : fct (BX6_scanWord_0 J5 x1 h) (fun f => BX6_scanWord_0 (J5_ f) x1 h) :=
  (mJ5 _ _ _ _)
noncomputable def BX6_scanWord_5 (J5 : Int32 → Int64 → Int32 → ea_H → Option (Unit × ea_H)) (J69 : Int32 → Int64 → Int32 → Int32 → ea_H → Option (Unit × ea_H)) (x1 : Int32) (y2 : Int64) (x4 : Int32) (h : ea_H) : Option (Unit × ea_H) :=
  (if (ea_i h 24 0) ≤ x4 then (J69 (x1 : Int32) (y2 : Int64) (20 : Int32) (0 : Int32) h) else (gd (vp_in x4 600) (Option.bind (qX6_isLetter ((ea_i h 25 (Int32.toNatClampNeg x4)) : Int32) h) fun w2 => (if w2.1 = (0 : Int32) then (J69 (x1 : Int32) (y2 : Int64) (20 : Int32) (0 : Int32) w2.2) else (if (6 : Int32) ≤ (x4 - x1) then (J5 (x1 : Int32) ((-1) : Int64) ((x4 + (1 : Int32)) : Int32) w2.2) else (gd (vp_in x4 600) (ea_let ((y2 <<< (Int32.toInt64 8 &&& 63)) ||| (Int32.toInt64 (ea_i w2.2 25 (Int32.toNatClampNeg x4)))) fun (v4 : Int64) => (J5 (x1 : Int32) (v4 : Int64) ((x4 + (1 : Int32)) : Int32) w2.2))))))))
theorem tBX6_scanWord_5 {d : Nat} {h0 : ea_H} (hd : 2 ≤ d) {J5 : Int32 → Int64 → Int32 → ea_H → Option (Unit × ea_H)} {J69 : Int32 → Int64 → Int32 → Int32 → ea_H → Option (Unit × ea_H)}  (kJ5 : ∀ (x1 : Int32) (y2 : Int64) (x4 : Int32) (h : ea_H) (r : Unit) (h' : ea_H), J5 x1 y2 x4 h = some (r, h') → ShC h → ea_W mX6_scanWord d h0 none h' 5 [(0, vR (some 24)), (1, vI x1), (2, vJ y2), (4, vI x4)] [] h) (kJ69 : ∀ (x1 : Int32) (y2 : Int64) (x4 : Int32) (x5 : Int32) (h : ea_H) (r : Unit) (h' : ea_H), J69 x1 y2 x4 x5 h = some (r, h') → ShC h → ea_W mX6_scanWord d h0 none h' 69 [(0, vR (some 24)), (1, vI x1), (2, vJ y2), (4, vI x4), (5, vI x5)] [] h) {x1 : Int32} {y2 : Int64} {x4 : Int32} {h : ea_H} {r : Unit} {h' : ea_H} (E : BX6_scanWord_5 J5 J69 x1 y2 x4 h = some (r, h')) (hs : ShC h) : ea_W mX6_scanWord d h0 none h' 5 [(0, vR (some 24)), (1, vI x1), (2, vJ y2), (4, vI x4)] [] h := by
  unfold BX6_scanWord_5 at E
  refine ea_iload (pc := 5) dX6_scanWord_5 3 rfl ?_
  refine ea_aload_n (pc := 7) dX6_scanWord_7 rfl 0 rfl ?_
  refine ea_getI (pc := 8) dX6_scanWord_8 ec_6 (k := 0) (Nat.le_of_ble_eq_true rfl) rfl (Or.inl ew_294) (cShC_24 hs).1 (cShC_24 hs).2.1 ?_
  refine ea_icmp_ge (pc := 11) (tgt := 62) dX6_scanWord_11 rfl (fun c7 => ?_) (fun c7 => ?_)
  · have E := (if_pos c7).symm.trans E
    refine ea_bipush (pc := 62) dX6_scanWord_62 (v := 20) rfl ?_
    refine ea_istore (pc := 64) (lv' := [(0, vR (some 24)), (1, vI x1), (2, vJ y2), (4, vI 20)]) dX6_scanWord_64 (Nat.le_of_ble_eq_true rfl) [1, 2, 3, 0] rfl ?_
    refine ea_iconst (pc := 66) dX6_scanWord_66 (v := 0) rfl ?_
    refine ea_istore (pc := 67) (lv' := [(0, vR (some 24)), (1, vI x1), (2, vJ y2), (4, vI 20), (5, vI 0)]) dX6_scanWord_67 (Nat.le_of_ble_eq_true rfl) [1, 2, 3, 4, 0] rfl ?_
    exact (kJ69 (x1 : Int32) (y2 : Int64) (20 : Int32) (0 : Int32) h _ _ E hs)
  · have E := (if_neg c7).symm.trans E
    obtain ⟨z1, E⟩ := gd_some E
    refine ea_aload_n (pc := 14) dX6_scanWord_14 rfl 0 rfl ?_
    refine ea_getR (pc := 15) dX6_scanWord_15 ec_6 (k := 3) (Nat.le_of_ble_eq_true rfl) rfl (Or.inl ew_300) (cShC_24 hs).1 (cShC_24 hs).2.1 (rShC_24_3 hs) ?_
    refine ea_iload (pc := 18) dX6_scanWord_18 3 rfl ?_
    obtain ⟨w2, Ew2, E⟩ := bd_some E
    have hsw2 : ShC w2.2 := ShC_core ((kpX6_isLetter _ _) _ Ew2) hs
    refine ea_iald (pc := 20) dX6_scanWord_20 (cShC_25 hs).1 (cShC_25 hs).2.1 (ea_vpl (cShC_25 hs).2.2 z1) ?_
    refine ea_callS (pc := 21) (d' := d - 1) (As := [vI (ea_i h 25 (Int32.toNatClampNeg x4))]) (st := []) dX6_scanWord_21 kX6_isLetter (sX6_isLetter (d := d - 1) (by omega) Ew2) (by omega) rfl (Nat.le_of_ble_eq_true rfl) ew_960 ew_961 ?_
    refine ea_if_eq (pc := 24) (tgt := 62) dX6_scanWord_24 rfl (fun c6 => ?_) (fun c6 => ?_)
    · have E := (if_pos c6).symm.trans E
      refine ea_bipush (pc := 62) dX6_scanWord_62 (v := 20) rfl ?_
      refine ea_istore (pc := 64) (lv' := [(0, vR (some 24)), (1, vI x1), (2, vJ y2), (4, vI 20)]) dX6_scanWord_64 (Nat.le_of_ble_eq_true rfl) [1, 2, 3, 0] rfl ?_
      refine ea_iconst (pc := 66) dX6_scanWord_66 (v := 0) rfl ?_
      refine ea_istore (pc := 67) (lv' := [(0, vR (some 24)), (1, vI x1), (2, vJ y2), (4, vI 20), (5, vI 0)]) dX6_scanWord_67 (Nat.le_of_ble_eq_true rfl) [1, 2, 3, 4, 0] rfl ?_
      exact (kJ69 (x1 : Int32) (y2 : Int64) (20 : Int32) (0 : Int32) w2.2 _ _ E hsw2)
    · have E := (if_neg c6).symm.trans E
      refine ea_iload (pc := 27) dX6_scanWord_27 3 rfl ?_
      refine ea_iload_n (pc := 29) dX6_scanWord_29 rfl 1 rfl ?_
      refine ea_isub (pc := 30) dX6_scanWord_30 ?_
      refine ea_bipush (pc := 31) dX6_scanWord_31 (v := 6) rfl ?_
      refine ea_icmp_ge (pc := 33) (tgt := 52) dX6_scanWord_33 rfl (fun c5 => ?_) (fun c5 => ?_)
      · have E := (if_pos c5).symm.trans E
        refine ea_ldc2 (pc := 52) dX6_scanWord_52 ew_967 ?_
        refine ea_lstore_n (pc := 55) (lv' := [(0, vR (some 24)), (1, vI x1), (2, vJ (-1)), (4, vI x4)]) dX6_scanWord_55 rfl (Nat.le_of_ble_eq_true rfl) [1, 2, 0, 3] rfl ?_
        refine ea_iinc (pc := 56) (v := 1) (lv' := [(0, vR (some 24)), (1, vI x1), (2, vJ (-1)), (4, vI (x4 + (1 : Int32)))]) dX6_scanWord_56 3 rfl rfl (Nat.le_of_ble_eq_true rfl) [1, 2, 3, 0] rfl ?_
        refine ea_goto (pc := 59) (tgt := 5) dX6_scanWord_59 rfl ?_
        exact (kJ5 (x1 : Int32) ((-1) : Int64) ((x4 + (1 : Int32)) : Int32) w2.2 _ _ E hsw2)
      · have E := (if_neg c5).symm.trans E
        obtain ⟨z3, E⟩ := gd_some E
        refine ea_lload_n (pc := 36) dX6_scanWord_36 rfl 2 rfl ?_
        refine ea_bipush (pc := 37) dX6_scanWord_37 (v := 8) rfl ?_
        refine ea_lshl (pc := 39) dX6_scanWord_39 ?_
        refine ea_aload_n (pc := 40) dX6_scanWord_40 rfl 0 rfl ?_
        refine ea_getR (pc := 41) dX6_scanWord_41 ec_6 (k := 3) (Nat.le_of_ble_eq_true rfl) rfl (Or.inl ew_300) (cShC_24 hsw2).1 (cShC_24 hsw2).2.1 (rShC_24_3 hsw2) ?_
        refine ea_iload (pc := 44) dX6_scanWord_44 3 rfl ?_
        obtain ⟨v4, ev4, E⟩ := let_some E
        refine ea_iald (pc := 46) dX6_scanWord_46 (cShC_25 hsw2).1 (cShC_25 hsw2).2.1 (ea_vpl (cShC_25 hsw2).2.2 z3) ?_
        refine ea_i2l (pc := 47) dX6_scanWord_47 ?_
        refine ea_lor (pc := 48) dX6_scanWord_48 ?_
        refine ea_goto (pc := 49) (tgt := 55) dX6_scanWord_49 rfl ?_
        refine ea_lstore_n (pc := 55) (lv' := [(0, vR (some 24)), (1, vI x1), (2, vJ v4), (4, vI x4)]) dX6_scanWord_55 rfl (Nat.le_of_ble_eq_true rfl) [1, 2, 0, 3] (by rw [ev4]; rfl) ?_
        refine ea_iinc (pc := 56) (v := 1) (lv' := [(0, vR (some 24)), (1, vI x1), (2, vJ v4), (4, vI (x4 + (1 : Int32)))]) dX6_scanWord_56 3 rfl rfl (Nat.le_of_ble_eq_true rfl) [1, 2, 3, 0] rfl ?_
        refine ea_goto (pc := 59) (tgt := 5) dX6_scanWord_59 rfl ?_
        exact (kJ5 (x1 : Int32) (v4 : Int64) ((x4 + (1 : Int32)) : Int32) w2.2 _ _ E hsw2)
theorem kBX6_scanWord_5 {J5 : Int32 → Int64 → Int32 → ea_H → Option (Unit × ea_H)} {J69 : Int32 → Int64 → Int32 → Int32 → ea_H → Option (Unit × ea_H)}  (cJ5 : ∀ (x1 : Int32) (y2 : Int64) (x4 : Int32) (h : ea_H), kp (ea_core h) (J5 x1 y2 x4 h)) (cJ69 : ∀ (x1 : Int32) (y2 : Int64) (x4 : Int32) (x5 : Int32) (h : ea_H), kp (ea_core h) (J69 x1 y2 x4 x5 h)) {x1 : Int32} {y2 : Int64} {x4 : Int32} {h : ea_H} : kp (ea_core h) (BX6_scanWord_5 J5 J69 x1 y2 x4 h) :=
  (kp_ite (kp_tw (cJ69 _ _ _ _ _) rfl) (kp_gd (kp_bind (kp_tw (kpX6_isLetter _ _) rfl) fun w2 hcw2 => (kp_ite (kp_tw (cJ69 _ _ _ _ _) hcw2) (kp_ite (kp_tw (cJ5 _ _ _ _) hcw2) (kp_gd (kp_let (kp_tw (cJ5 _ _ _ _) hcw2))))))))
theorem lBX6_scanWord_5 {J5 : Int32 → Int64 → Int32 → ea_H → Option (Unit × ea_H)} {J69 : Int32 → Int64 → Int32 → Int32 → ea_H → Option (Unit × ea_H)} {J5_ : Int32 → Int64 → Int32 → ea_H → Option (Unit × ea_H)} {J69_ : Int32 → Int64 → Int32 → Int32 → ea_H → Option (Unit × ea_H)}  (mJ5 : ∀ (x1 : Int32) (y2 : Int64) (x4 : Int32) (h : ea_H), fle (J5 x1 y2 x4 h) (J5_ x1 y2 x4 h)) (mJ69 : ∀ (x1 : Int32) (y2 : Int64) (x4 : Int32) (x5 : Int32) (h : ea_H), fle (J69 x1 y2 x4 x5 h) (J69_ x1 y2 x4 x5 h)) {x1 : Int32} {y2 : Int64} {x4 : Int32} {h : ea_H} : fle (BX6_scanWord_5 J5 J69 x1 y2 x4 h) (BX6_scanWord_5 J5_ J69_ x1 y2 x4 h) :=
  (fle_ite (mJ69 _ _ _ _ _) (fle_gd (fle_bind (fle_rfl _) fun _ => (fle_ite (mJ69 _ _ _ _ _) (fle_ite (mJ5 _ _ _ _) (fle_gd (fle_let fun _ => (mJ5 _ _ _ _))))))))
theorem nBX6_scanWord_5 {J5 : Int32 → Int64 → Int32 → ea_H → Option (Unit × ea_H)} {J69 : Int32 → Int64 → Int32 → Int32 → ea_H → Option (Unit × ea_H)} {J5_ : Nat → (Int32 → Int64 → Int32 → ea_H → Option (Unit × ea_H))} {J69_ : Nat → (Int32 → Int64 → Int32 → Int32 → ea_H → Option (Unit × ea_H))}  (mJ5 : ∀ (x1 : Int32) (y2 : Int64) (x4 : Int32) (h : ea_H), fct (J5 x1 y2 x4 h) (fun f => J5_ f x1 y2 x4 h)) (mJ69 : ∀ (x1 : Int32) (y2 : Int64) (x4 : Int32) (x5 : Int32) (h : ea_H), fct (J69 x1 y2 x4 x5 h) (fun f => J69_ f x1 y2 x4 x5 h)) {x1 : Int32} {y2 : Int64} {x4 : Int32} {h : ea_H} : fct (BX6_scanWord_5 J5 J69 x1 y2 x4 h) (fun f => BX6_scanWord_5 (J5_ f) (J69_ f) x1 y2 x4 h) :=
  (fct_ite (mJ69 _ _ _ _ _) (fct_gd (fct_bind (fct_rfl _) fun _ => (fct_ite (mJ69 _ _ _ _ _) (fct_ite (mJ5 _ _ _ _) (fct_gd (fct_let fun _ => (mJ5 _ _ _ _))))))))
noncomputable def BX6_scanWord_69 (J69 : Int32 → Int64 → Int32 → Int32 → ea_H → Option (Unit × ea_H)) (x1 : Int32) (y2 : Int64) (x4 : Int32) (x5 : Int32) (h : ea_H) : Option (Unit × ea_H) :=
  (if (18 : Int32) ≤ x5 then (Option.bind (qX6_addToken (x4 : Int32) (x1 : Int32) (0 : Int32) h) fun w8 => (some ((), w8.2))) else (gd (vp_in x5 18) (if (lg_cmp (ea_wd.getD (Int32.toNatClampNeg x5) 0) y2) = (0 : Int32) then (J69 (x1 : Int32) (y2 : Int64) (x5 : Int32) ((x5 + (1 : Int32)) : Int32) h) else (J69 (x1 : Int32) (y2 : Int64) (x4 : Int32) ((x5 + (1 : Int32)) : Int32) h))))
theorem tBX6_scanWord_69 {d : Nat} {h0 : ea_H} (hd : 2 ≤ d) {J69 : Int32 → Int64 → Int32 → Int32 → ea_H → Option (Unit × ea_H)}  (kJ69 : ∀ (x1 : Int32) (y2 : Int64) (x4 : Int32) (x5 : Int32) (h : ea_H) (r : Unit) (h' : ea_H), J69 x1 y2 x4 x5 h = some (r, h') → ShC h → ea_W mX6_scanWord d h0 none h' 69 [(0, vR (some 24)), (1, vI x1), (2, vJ y2), (4, vI x4), (5, vI x5)] [] h) {x1 : Int32} {y2 : Int64} {x4 : Int32} {x5 : Int32} {h : ea_H} {r : Unit} {h' : ea_H} (E : BX6_scanWord_69 J69 x1 y2 x4 x5 h = some (r, h')) (hs : ShC h) : ea_W mX6_scanWord d h0 none h' 69 [(0, vR (some 24)), (1, vI x1), (2, vJ y2), (4, vI x4), (5, vI x5)] [] h := by
  unfold BX6_scanWord_69 at E
  refine ea_iload (pc := 69) dX6_scanWord_69 4 rfl ?_
  refine ea_getsW (pc := 71) dX6_scanWord_71 ew_968 ?_
  refine ea_wlen (pc := 74) dX6_scanWord_74 ?_
  refine ea_icmp_ge (pc := 75) (tgt := 99) dX6_scanWord_75 rfl (fun c11 => ?_) (fun c11 => ?_)
  · have E := (if_pos c11).symm.trans E
    obtain ⟨w8, Ew8, E⟩ := bd_some E
    have hsw8 : ShC w8.2 := ShC_core ((kpX6_addToken _ _ _ _) _ Ew8) hs
    refine ea_aload_n (pc := 99) dX6_scanWord_99 rfl 0 rfl ?_
    refine ea_iload (pc := 100) dX6_scanWord_100 3 rfl ?_
    refine ea_iload_n (pc := 102) dX6_scanWord_102 rfl 1 rfl ?_
    refine ea_iconst (pc := 103) dX6_scanWord_103 (v := 0) rfl ?_
    refine ea_callV (pc := 104) (d' := d - 1) (As := [vI x4, vI x1, vI 0]) (st := []) dX6_scanWord_104 kX6_addToken (sX6_addToken (d := d - 1) (by omega) hs Ew8) (by omega) rfl (Nat.le_of_ble_eq_true rfl) ew_970 ew_972 ew_17 (ci := 6) rfl (by decide) (cShC_24 hs).1 (cShC_24 hs).2.1 ?_
    exact ea_vretO (pc := 107) dX6_scanWord_107 rfl E
  · have E := (if_neg c11).symm.trans E
    obtain ⟨z9, E⟩ := gd_some E
    refine ea_getsW (pc := 78) dX6_scanWord_78 ew_968 ?_
    refine ea_iload (pc := 81) dX6_scanWord_81 4 rfl ?_
    refine ea_wld (pc := 83) dX6_scanWord_83 z9 ?_
    refine ea_lload_n (pc := 84) dX6_scanWord_84 rfl 2 rfl ?_
    refine ea_lcmp (pc := 85) dX6_scanWord_85 ?_
    refine ea_if_ne (pc := 86) (tgt := 93) dX6_scanWord_86 rfl (fun c10 => ?_) (fun c10 => ?_)
    · have E := (if_neg c10).symm.trans E
      refine ea_iinc (pc := 93) (v := 1) (lv' := [(0, vR (some 24)), (1, vI x1), (2, vJ y2), (4, vI x4), (5, vI (x5 + (1 : Int32)))]) dX6_scanWord_93 4 rfl rfl (Nat.le_of_ble_eq_true rfl) [1, 2, 3, 4, 0] rfl ?_
      refine ea_goto (pc := 96) (tgt := 69) dX6_scanWord_96 rfl ?_
      exact (kJ69 (x1 : Int32) (y2 : Int64) (x4 : Int32) ((x5 + (1 : Int32)) : Int32) h _ _ E hs)
    · have E := (if_pos c10).symm.trans E
      refine ea_iload (pc := 89) dX6_scanWord_89 4 rfl ?_
      refine ea_istore (pc := 91) (lv' := [(0, vR (some 24)), (1, vI x1), (2, vJ y2), (4, vI x5), (5, vI x5)]) dX6_scanWord_91 (Nat.le_of_ble_eq_true rfl) [1, 2, 3, 0, 4] rfl ?_
      refine ea_iinc (pc := 93) (v := 1) (lv' := [(0, vR (some 24)), (1, vI x1), (2, vJ y2), (4, vI x5), (5, vI (x5 + (1 : Int32)))]) dX6_scanWord_93 4 rfl rfl (Nat.le_of_ble_eq_true rfl) [1, 2, 3, 4, 0] rfl ?_
      refine ea_goto (pc := 96) (tgt := 69) dX6_scanWord_96 rfl ?_
      exact (kJ69 (x1 : Int32) (y2 : Int64) (x5 : Int32) ((x5 + (1 : Int32)) : Int32) h _ _ E hs)
theorem kBX6_scanWord_69 {J69 : Int32 → Int64 → Int32 → Int32 → ea_H → Option (Unit × ea_H)}  (cJ69 : ∀ (x1 : Int32) (y2 : Int64) (x4 : Int32) (x5 : Int32) (h : ea_H), kp (ea_core h) (J69 x1 y2 x4 x5 h)) {x1 : Int32} {y2 : Int64} {x4 : Int32} {x5 : Int32} {h : ea_H} : kp (ea_core h) (BX6_scanWord_69 J69 x1 y2 x4 x5 h) :=
  (kp_ite (kp_bind (kp_tw (kpX6_addToken _ _ _ _) rfl) fun w8 hcw8 => (kp_ret hcw8)) (kp_gd (kp_ite (kp_tw (cJ69 _ _ _ _ _) rfl) (kp_tw (cJ69 _ _ _ _ _) rfl))))
theorem lBX6_scanWord_69 {J69 : Int32 → Int64 → Int32 → Int32 → ea_H → Option (Unit × ea_H)} {J69_ : Int32 → Int64 → Int32 → Int32 → ea_H → Option (Unit × ea_H)}  (mJ69 : ∀ (x1 : Int32) (y2 : Int64) (x4 : Int32) (x5 : Int32) (h : ea_H), fle (J69 x1 y2 x4 x5 h) (J69_ x1 y2 x4 x5 h)) {x1 : Int32} {y2 : Int64} {x4 : Int32} {x5 : Int32} {h : ea_H} : fle (BX6_scanWord_69 J69 x1 y2 x4 x5 h) (BX6_scanWord_69 J69_ x1 y2 x4 x5 h) :=
  (fle_ite (fle_rfl _) (fle_gd (fle_ite (mJ69 _ _ _ _ _) (mJ69 _ _ _ _ _))))
theorem nBX6_scanWord_69 {J69 : Int32 → Int64 → Int32 → Int32 → ea_H → Option (Unit × ea_H)} {J69_ : Nat → (Int32 → Int64 → Int32 → Int32 → ea_H → Option (Unit × ea_H))}  (mJ69 : ∀ (x1 : Int32) (y2 : Int64) (x4 : Int32) (x5 : Int32) (h : ea_H), fct (J69 x1 y2 x4 x5 h) (fun f => J69_ f x1 y2 x4 x5 h)) {x1 : Int32} {y2 : Int64} {x4 : Int32} {x5 : Int32} {h : ea_H} : fct (BX6_scanWord_69 J69 x1 y2 x4 x5 h) (fun f => BX6_scanWord_69 (J69_ f) x1 y2 x4 x5 h) :=
  (fct_ite (fct_rfl _) (fct_gd (fct_ite (mJ69 _ _ _ _ _) (mJ69 _ _ _ _ _))))
noncomputable def gX6_scanWord : Nat → (Int32 → ea_H → Option (Unit × ea_H)) × (Int32 → Int64 → Int32 → ea_H → Option (Unit × ea_H)) × (Int32 → Int64 → Int32 → Int32 → ea_H → Option (Unit × ea_H))
  | 0 => (fun _ _ => none, fun _ _ _ _ => none, fun _ _ _ _ _ => none)
  | f + 1 => (BX6_scanWord_0 (gX6_scanWord f).2.1, BX6_scanWord_5 (gX6_scanWord f).2.1 (gX6_scanWord f).2.2, BX6_scanWord_69 (gX6_scanWord f).2.2)
theorem mgX6_scanWord : ∀ f : Nat, (∀ (x1 : Int32) (h : ea_H), fle ((gX6_scanWord f).1 x1 h) ((gX6_scanWord (f + 1)).1 x1 h)) ∧ (∀ (x1 : Int32) (y2 : Int64) (x4 : Int32) (h : ea_H), fle ((gX6_scanWord f).2.1 x1 y2 x4 h) ((gX6_scanWord (f + 1)).2.1 x1 y2 x4 h)) ∧ (∀ (x1 : Int32) (y2 : Int64) (x4 : Int32) (x5 : Int32) (h : ea_H), fle ((gX6_scanWord f).2.2 x1 y2 x4 x5 h) ((gX6_scanWord (f + 1)).2.2 x1 y2 x4 x5 h)) := by
  intro f
  induction f with
  | zero => exact ⟨fun _ _ => fle_none _, fun _ _ _ _ => fle_none _, fun _ _ _ _ _ => fle_none _⟩
  | succ f ih => exact ⟨fun _ _ => lBX6_scanWord_0 ih.2.1, fun _ _ _ _ => lBX6_scanWord_5 ih.2.1 ih.2.2, fun _ _ _ _ _ => lBX6_scanWord_69 ih.2.2⟩
noncomputable def qX6_scanWord_0 (x1 : Int32) (h : ea_H) : Option (Unit × ea_H) := flim fun f => (gX6_scanWord f).1 x1 h
noncomputable def qX6_scanWord_5 (x1 : Int32) (y2 : Int64) (x4 : Int32) (h : ea_H) : Option (Unit × ea_H) := flim fun f => (gX6_scanWord f).2.1 x1 y2 x4 h
noncomputable def qX6_scanWord_69 (x1 : Int32) (y2 : Int64) (x4 : Int32) (x5 : Int32) (h : ea_H) : Option (Unit × ea_H) := flim fun f => (gX6_scanWord f).2.2 x1 y2 x4 x5 h
theorem fqX6_scanWord_0 (x1 : Int32) (h : ea_H) : fct (qX6_scanWord_0 x1 h) fun f => (gX6_scanWord f).1 x1 h := flim_ct fun f => (mgX6_scanWord f).1 x1 h
theorem fqX6_scanWord_5 (x1 : Int32) (y2 : Int64) (x4 : Int32) (h : ea_H) : fct (qX6_scanWord_5 x1 y2 x4 h) fun f => (gX6_scanWord f).2.1 x1 y2 x4 h := flim_ct fun f => (mgX6_scanWord f).2.1 x1 y2 x4 h
theorem fqX6_scanWord_69 (x1 : Int32) (y2 : Int64) (x4 : Int32) (x5 : Int32) (h : ea_H) : fct (qX6_scanWord_69 x1 y2 x4 x5 h) fun f => (gX6_scanWord f).2.2 x1 y2 x4 x5 h := flim_ct fun f => (mgX6_scanWord f).2.2 x1 y2 x4 x5 h
/-- how a block opens -/
theorem uqX6_scanWord_0 {x1 : Int32} {h : ea_H} {P : Unit × ea_H → Prop} (H : sat (BX6_scanWord_0 qX6_scanWord_5 x1 h) P) : sat (qX6_scanWord_0 x1 h) P := by
  obtain ⟨x, e, hp⟩ := H
  obtain ⟨n, hn⟩ := nBX6_scanWord_0 fqX6_scanWord_5 x e
  exact ⟨x, flim_at (fun f => (mgX6_scanWord f).1 x1 h) (f := n + 1) (hn n (Nat.le_refl _)), hp⟩
/-- how a block opens -/
theorem uqX6_scanWord_5 {x1 : Int32} {y2 : Int64} {x4 : Int32} {h : ea_H} {P : Unit × ea_H → Prop} (H : sat (BX6_scanWord_5 qX6_scanWord_5 qX6_scanWord_69 x1 y2 x4 h) P) : sat (qX6_scanWord_5 x1 y2 x4 h) P := by
  obtain ⟨x, e, hp⟩ := H
  obtain ⟨n, hn⟩ := nBX6_scanWord_5 fqX6_scanWord_5 fqX6_scanWord_69 x e
  exact ⟨x, flim_at (fun f => (mgX6_scanWord f).2.1 x1 y2 x4 h) (f := n + 1) (hn n (Nat.le_refl _)), hp⟩
/-- how a block opens -/
theorem uqX6_scanWord_69 {x1 : Int32} {y2 : Int64} {x4 : Int32} {x5 : Int32} {h : ea_H} {P : Unit × ea_H → Prop} (H : sat (BX6_scanWord_69 qX6_scanWord_69 x1 y2 x4 x5 h) P) : sat (qX6_scanWord_69 x1 y2 x4 x5 h) P := by
  obtain ⟨x, e, hp⟩ := H
  obtain ⟨n, hn⟩ := nBX6_scanWord_69 fqX6_scanWord_69 x e
  exact ⟨x, flim_at (fun f => (mgX6_scanWord f).2.2 x1 y2 x4 x5 h) (f := n + 1) (hn n (Nat.le_refl _)), hp⟩
theorem kgX6_scanWord : ∀ f : Nat, (∀ (x1 : Int32) (h : ea_H), kp (ea_core h) ((gX6_scanWord f).1 x1 h)) ∧ (∀ (x1 : Int32) (y2 : Int64) (x4 : Int32) (h : ea_H), kp (ea_core h) ((gX6_scanWord f).2.1 x1 y2 x4 h)) ∧ (∀ (x1 : Int32) (y2 : Int64) (x4 : Int32) (x5 : Int32) (h : ea_H), kp (ea_core h) ((gX6_scanWord f).2.2 x1 y2 x4 x5 h)) := by
  intro f
  induction f with
  | zero => exact ⟨fun _ _ => kp_none _, fun _ _ _ _ => kp_none _, fun _ _ _ _ _ => kp_none _⟩
  | succ f ih => exact ⟨fun _ _ => kBX6_scanWord_0 ih.2.1, fun _ _ _ _ => kBX6_scanWord_5 ih.2.1 ih.2.2, fun _ _ _ _ _ => kBX6_scanWord_69 ih.2.2⟩
theorem tgX6_scanWord {d : Nat} {h0 : ea_H} (hd : 2 ≤ d) : ∀ f : Nat, (∀ (x1 : Int32) (h : ea_H) (r : Unit) (h' : ea_H), (gX6_scanWord f).1 x1 h = some (r, h') → ShC h → ea_W mX6_scanWord d h0 none h' 0 [(0, vR (some 24)), (1, vI x1)] [] h) ∧ (∀ (x1 : Int32) (y2 : Int64) (x4 : Int32) (h : ea_H) (r : Unit) (h' : ea_H), (gX6_scanWord f).2.1 x1 y2 x4 h = some (r, h') → ShC h → ea_W mX6_scanWord d h0 none h' 5 [(0, vR (some 24)), (1, vI x1), (2, vJ y2), (4, vI x4)] [] h) ∧ (∀ (x1 : Int32) (y2 : Int64) (x4 : Int32) (x5 : Int32) (h : ea_H) (r : Unit) (h' : ea_H), (gX6_scanWord f).2.2 x1 y2 x4 x5 h = some (r, h') → ShC h → ea_W mX6_scanWord d h0 none h' 69 [(0, vR (some 24)), (1, vI x1), (2, vJ y2), (4, vI x4), (5, vI x5)] [] h) := by
  intro f
  induction f with
  | zero => exact ⟨fun _ _ _ _ E => no_some E, fun _ _ _ _ _ _ E => no_some E, fun _ _ _ _ _ _ _ E => no_some E⟩
  | succ f ih => exact ⟨fun _ _ _ _ E hs => tBX6_scanWord_0 hd ih.2.1 E hs, fun _ _ _ _ _ _ E hs => tBX6_scanWord_5 hd ih.2.1 ih.2.2 E hs, fun _ _ _ _ _ _ _ E hs => tBX6_scanWord_69 hd ih.2.2 E hs⟩
noncomputable def qX6_scanWord (x1 : Int32) (h : ea_H) : Option (Unit × ea_H) := qX6_scanWord_0 x1 h
theorem sX6_scanWord {d : Nat} {x1 : Int32} {h : ea_H} {r : Unit} {h' : ea_H} (hd : 2 ≤ d) (hs : ShC h) (K : qX6_scanWord x1 h = some (r, h')) : ea_Met mX6_scanWord d [vR (some 24), vI x1] h none h' := by
  unfold qX6_scanWord at K
  obtain ⟨n, hn⟩ := fqX6_scanWord_0 x1 h _ K
  have W := (tgX6_scanWord (d := d) (h0 := h) hd n).1 x1 h _ _ (hn n (Nat.le_refl _)) hs
  exact ea_enter rfl (Nat.le_of_ble_eq_true rfl) W
theorem kpX6_scanWord (x1 : Int32) (h : ea_H) : kp (ea_core h) (qX6_scanWord x1 h) := fun x e => by
  obtain ⟨n, hn⟩ := fqX6_scanWord_0 x1 h x e
  exact (kgX6_scanWord n).1 x1 h x (hn n (Nat.le_refl _))
noncomputable def BX6_scanNumber_0 (J4 : Int32 → Int32 → Int32 → ea_H → Option (Unit × ea_H)) (x1 : Int32) (h : ea_H) : Option (Unit × ea_H) :=
  (J4 (x1 : Int32) (0 : Int32) (x1 : Int32) h)
theorem tBX6_scanNumber_0 {d : Nat} {h0 : ea_H} (hd : 2 ≤ d) {J4 : Int32 → Int32 → Int32 → ea_H → Option (Unit × ea_H)}  (kJ4 : ∀ (x1 : Int32) (x2 : Int32) (x3 : Int32) (h : ea_H) (r : Unit) (h' : ea_H), J4 x1 x2 x3 h = some (r, h') → ShC h → ea_W mX6_scanNumber d h0 none h' 4 [(0, vR (some 24)), (1, vI x1), (2, vI x2), (3, vI x3)] [] h) {x1 : Int32} {h : ea_H} {r : Unit} {h' : ea_H} (E : BX6_scanNumber_0 J4 x1 h = some (r, h')) (hs : ShC h) : ea_W mX6_scanNumber d h0 none h' 0 [(0, vR (some 24)), (1, vI x1)] [] h := by
  unfold BX6_scanNumber_0 at E
  refine ea_iconst (pc := 0) dX6_scanNumber_0 (v := 0) rfl ?_
  refine ea_istore_n (pc := 1) (lv' := [(0, vR (some 24)), (1, vI x1), (2, vI 0)]) dX6_scanNumber_1 rfl (Nat.le_of_ble_eq_true rfl) [1, 2, 0] rfl ?_
  refine ea_iload_n (pc := 2) dX6_scanNumber_2 rfl 1 rfl ?_
  refine ea_istore_n (pc := 3) (lv' := [(0, vR (some 24)), (1, vI x1), (2, vI 0), (3, vI x1)]) dX6_scanNumber_3 rfl (Nat.le_of_ble_eq_true rfl) [1, 2, 3, 0] rfl ?_
  exact (kJ4 (x1 : Int32) (0 : Int32) (x1 : Int32) h _ _ E hs)
theorem kBX6_scanNumber_0 {J4 : Int32 → Int32 → Int32 → ea_H → Option (Unit × ea_H)}  (cJ4 : ∀ (x1 : Int32) (x2 : Int32) (x3 : Int32) (h : ea_H), kp (ea_core h) (J4 x1 x2 x3 h)) {x1 : Int32} {h : ea_H} : kp (ea_core h) (BX6_scanNumber_0 J4 x1 h) :=
  (kp_tw (cJ4 _ _ _ _) rfl)
theorem lBX6_scanNumber_0 {J4 : Int32 → Int32 → Int32 → ea_H → Option (Unit × ea_H)} {J4_ : Int32 → Int32 → Int32 → ea_H → Option (Unit × ea_H)}  (mJ4 : ∀ (x1 : Int32) (x2 : Int32) (x3 : Int32) (h : ea_H), fle (J4 x1 x2 x3 h) (J4_ x1 x2 x3 h)) {x1 : Int32} {h : ea_H} : fle (BX6_scanNumber_0 J4 x1 h) (BX6_scanNumber_0 J4_ x1 h) :=
  (mJ4 _ _ _ _)
theorem nBX6_scanNumber_0 {J4 : Int32 → Int32 → Int32 → ea_H → Option (Unit × ea_H)} {J4_ : Nat → (Int32 → Int32 → Int32 → ea_H → Option (Unit × ea_H))}  (mJ4 : ∀ (x1 : Int32) (x2 : Int32) (x3 : Int32) (h : ea_H), fct (J4 x1 x2 x3 h) (fun f => J4_ f x1 x2 x3 h)) {x1 : Int32} {h : ea_H} : fct (BX6_scanNumber_0 J4 x1 h) (fun f => BX6_scanNumber_0 (J4_ f) x1 h) :=
  (mJ4 _ _ _ _)
noncomputable def BX6_scanNumber_4 (J4 : Int32 → Int32 → Int32 → ea_H → Option (Unit × ea_H)) (J56 : Int32 → Int32 → ea_H → Option (Unit × ea_H)) (x1 : Int32) (x2 : Int32) (x3 : Int32) (h : ea_H) : Option (Unit × ea_H) :=
  (if (ea_i h 24 0) ≤ x3 then (J56 (x1 : Int32) (x2 : Int32) h) else (gd (vp_in x3 600) (Option.bind (qX6_isDigit ((ea_i h 25 (Int32.toNatClampNeg x3)) : Int32) h) fun w2 => (if w2.1 = (0 : Int32) then (J56 (x1 : Int32) (x2 : Int32) w2.2) else (if (4 : Int32) ≤ (x3 - x1) then (J4 (x1 : Int32) ((-1) : Int32) ((x3 + (1 : Int32)) : Int32) w2.2) else (gd (vp_in x3 600) (ea_let (((x2 * (10 : Int32)) + (ea_i w2.2 25 (Int32.toNatClampNeg x3))) - (48 : Int32)) fun (v4 : Int32) => (J4 (x1 : Int32) (v4 : Int32) ((x3 + (1 : Int32)) : Int32) w2.2))))))))
theorem tBX6_scanNumber_4 {d : Nat} {h0 : ea_H} (hd : 2 ≤ d) {J4 : Int32 → Int32 → Int32 → ea_H → Option (Unit × ea_H)} {J56 : Int32 → Int32 → ea_H → Option (Unit × ea_H)}  (kJ4 : ∀ (x1 : Int32) (x2 : Int32) (x3 : Int32) (h : ea_H) (r : Unit) (h' : ea_H), J4 x1 x2 x3 h = some (r, h') → ShC h → ea_W mX6_scanNumber d h0 none h' 4 [(0, vR (some 24)), (1, vI x1), (2, vI x2), (3, vI x3)] [] h) (kJ56 : ∀ (x1 : Int32) (x2 : Int32) (h : ea_H) (r : Unit) (h' : ea_H), J56 x1 x2 h = some (r, h') → ShC h → ea_W mX6_scanNumber d h0 none h' 56 [(0, vR (some 24)), (1, vI x1), (2, vI x2)] [] h) {x1 : Int32} {x2 : Int32} {x3 : Int32} {h : ea_H} {r : Unit} {h' : ea_H} (E : BX6_scanNumber_4 J4 J56 x1 x2 x3 h = some (r, h')) (hs : ShC h) : ea_W mX6_scanNumber d h0 none h' 4 [(0, vR (some 24)), (1, vI x1), (2, vI x2), (3, vI x3)] [] h := by
  unfold BX6_scanNumber_4 at E
  refine ea_iload_n (pc := 4) dX6_scanNumber_4 rfl 3 rfl ?_
  refine ea_aload_n (pc := 5) dX6_scanNumber_5 rfl 0 rfl ?_
  refine ea_getI (pc := 6) dX6_scanNumber_6 ec_6 (k := 0) (Nat.le_of_ble_eq_true rfl) rfl (Or.inl ew_294) (cShC_24 hs).1 (cShC_24 hs).2.1 ?_
  refine ea_icmp_ge (pc := 9) (tgt := 56) dX6_scanNumber_9 rfl (fun c7 => ?_) (fun c7 => ?_)
  · have E := (if_pos c7).symm.trans E
    exact ea_fewer [0, 1, 2] rfl (kJ56 (x1 : Int32) (x2 : Int32) h _ _ E hs)
  · have E := (if_neg c7).symm.trans E
    obtain ⟨z1, E⟩ := gd_some E
    refine ea_aload_n (pc := 12) dX6_scanNumber_12 rfl 0 rfl ?_
    refine ea_getR (pc := 13) dX6_scanNumber_13 ec_6 (k := 3) (Nat.le_of_ble_eq_true rfl) rfl (Or.inl ew_300) (cShC_24 hs).1 (cShC_24 hs).2.1 (rShC_24_3 hs) ?_
    refine ea_iload_n (pc := 16) dX6_scanNumber_16 rfl 3 rfl ?_
    obtain ⟨w2, Ew2, E⟩ := bd_some E
    have hsw2 : ShC w2.2 := ShC_core ((kpX6_isDigit _ _) _ Ew2) hs
    refine ea_iald (pc := 17) dX6_scanNumber_17 (cShC_25 hs).1 (cShC_25 hs).2.1 (ea_vpl (cShC_25 hs).2.2 z1) ?_
    refine ea_callS (pc := 18) (d' := d - 1) (As := [vI (ea_i h 25 (Int32.toNatClampNeg x3))]) (st := []) dX6_scanNumber_18 kX6_isDigit (sX6_isDigit (d := d - 1) (by omega) Ew2) (by omega) rfl (Nat.le_of_ble_eq_true rfl) ew_974 ew_975 ?_
    refine ea_if_eq (pc := 21) (tgt := 56) dX6_scanNumber_21 rfl (fun c6 => ?_) (fun c6 => ?_)
    · have E := (if_pos c6).symm.trans E
      exact ea_fewer [0, 1, 2] rfl (kJ56 (x1 : Int32) (x2 : Int32) w2.2 _ _ E hsw2)
    · have E := (if_neg c6).symm.trans E
      refine ea_iload_n (pc := 24) dX6_scanNumber_24 rfl 3 rfl ?_
      refine ea_iload_n (pc := 25) dX6_scanNumber_25 rfl 1 rfl ?_
      refine ea_isub (pc := 26) dX6_scanNumber_26 ?_
      refine ea_iconst (pc := 27) dX6_scanNumber_27 (v := 4) rfl ?_
      refine ea_icmp_ge (pc := 28) (tgt := 48) dX6_scanNumber_28 rfl (fun c5 => ?_) (fun c5 => ?_)
      · have E := (if_pos c5).symm.trans E
        refine ea_iconst (pc := 48) dX6_scanNumber_48 (v := (-1)) rfl ?_
        refine ea_istore_n (pc := 49) (lv' := [(0, vR (some 24)), (1, vI x1), (2, vI (-1)), (3, vI x3)]) dX6_scanNumber_49 rfl (Nat.le_of_ble_eq_true rfl) [1, 2, 0, 3] rfl ?_
        refine ea_iinc (pc := 50) (v := 1) (lv' := [(0, vR (some 24)), (1, vI x1), (2, vI (-1)), (3, vI (x3 + (1 : Int32)))]) dX6_scanNumber_50 3 rfl rfl (Nat.le_of_ble_eq_true rfl) [1, 2, 3, 0] rfl ?_
        refine ea_goto (pc := 53) (tgt := 4) dX6_scanNumber_53 rfl ?_
        exact (kJ4 (x1 : Int32) ((-1) : Int32) ((x3 + (1 : Int32)) : Int32) w2.2 _ _ E hsw2)
      · have E := (if_neg c5).symm.trans E
        obtain ⟨z3, E⟩ := gd_some E
        refine ea_iload_n (pc := 31) dX6_scanNumber_31 rfl 2 rfl ?_
        refine ea_bipush (pc := 32) dX6_scanNumber_32 (v := 10) rfl ?_
        refine ea_imul (pc := 34) dX6_scanNumber_34 ?_
        refine ea_aload_n (pc := 35) dX6_scanNumber_35 rfl 0 rfl ?_
        refine ea_getR (pc := 36) dX6_scanNumber_36 ec_6 (k := 3) (Nat.le_of_ble_eq_true rfl) rfl (Or.inl ew_300) (cShC_24 hsw2).1 (cShC_24 hsw2).2.1 (rShC_24_3 hsw2) ?_
        refine ea_iload_n (pc := 39) dX6_scanNumber_39 rfl 3 rfl ?_
        obtain ⟨v4, ev4, E⟩ := let_some E
        refine ea_iald (pc := 40) dX6_scanNumber_40 (cShC_25 hsw2).1 (cShC_25 hsw2).2.1 (ea_vpl (cShC_25 hsw2).2.2 z3) ?_
        refine ea_iadd (pc := 41) dX6_scanNumber_41 ?_
        refine ea_bipush (pc := 42) dX6_scanNumber_42 (v := 48) rfl ?_
        refine ea_isub (pc := 44) dX6_scanNumber_44 ?_
        refine ea_goto (pc := 45) (tgt := 49) dX6_scanNumber_45 rfl ?_
        refine ea_istore_n (pc := 49) (lv' := [(0, vR (some 24)), (1, vI x1), (2, vI v4), (3, vI x3)]) dX6_scanNumber_49 rfl (Nat.le_of_ble_eq_true rfl) [1, 2, 0, 3] (by rw [ev4]; rfl) ?_
        refine ea_iinc (pc := 50) (v := 1) (lv' := [(0, vR (some 24)), (1, vI x1), (2, vI v4), (3, vI (x3 + (1 : Int32)))]) dX6_scanNumber_50 3 rfl rfl (Nat.le_of_ble_eq_true rfl) [1, 2, 3, 0] rfl ?_
        refine ea_goto (pc := 53) (tgt := 4) dX6_scanNumber_53 rfl ?_
        exact (kJ4 (x1 : Int32) (v4 : Int32) ((x3 + (1 : Int32)) : Int32) w2.2 _ _ E hsw2)
theorem kBX6_scanNumber_4 {J4 : Int32 → Int32 → Int32 → ea_H → Option (Unit × ea_H)} {J56 : Int32 → Int32 → ea_H → Option (Unit × ea_H)}  (cJ4 : ∀ (x1 : Int32) (x2 : Int32) (x3 : Int32) (h : ea_H), kp (ea_core h) (J4 x1 x2 x3 h)) (cJ56 : ∀ (x1 : Int32) (x2 : Int32) (h : ea_H), kp (ea_core h) (J56 x1 x2 h)) {x1 : Int32} {x2 : Int32} {x3 : Int32} {h : ea_H} : kp (ea_core h) (BX6_scanNumber_4 J4 J56 x1 x2 x3 h) :=
  (kp_ite (kp_tw (cJ56 _ _ _) rfl) (kp_gd (kp_bind (kp_tw (kpX6_isDigit _ _) rfl) fun w2 hcw2 => (kp_ite (kp_tw (cJ56 _ _ _) hcw2) (kp_ite (kp_tw (cJ4 _ _ _ _) hcw2) (kp_gd (kp_let (kp_tw (cJ4 _ _ _ _) hcw2))))))))
theorem lBX6_scanNumber_4 {J4 : Int32 → Int32 → Int32 → ea_H → Option (Unit × ea_H)} {J56 : Int32 → Int32 → ea_H → Option (Unit × ea_H)} {J4_ : Int32 → Int32 → Int32 → ea_H → Option (Unit × ea_H)} {J56_ : Int32 → Int32 → ea_H → Option (Unit × ea_H)}  (mJ4 : ∀ (x1 : Int32) (x2 : Int32) (x3 : Int32) (h : ea_H), fle (J4 x1 x2 x3 h) (J4_ x1 x2 x3 h)) (mJ56 : ∀ (x1 : Int32) (x2 : Int32) (h : ea_H), fle (J56 x1 x2 h) (J56_ x1 x2 h)) {x1 : Int32} {x2 : Int32} {x3 : Int32} {h : ea_H} : fle (BX6_scanNumber_4 J4 J56 x1 x2 x3 h) (BX6_scanNumber_4 J4_ J56_ x1 x2 x3 h) :=
  (fle_ite (mJ56 _ _ _) (fle_gd (fle_bind (fle_rfl _) fun _ => (fle_ite (mJ56 _ _ _) (fle_ite (mJ4 _ _ _ _) (fle_gd (fle_let fun _ => (mJ4 _ _ _ _))))))))
theorem nBX6_scanNumber_4 {J4 : Int32 → Int32 → Int32 → ea_H → Option (Unit × ea_H)} {J56 : Int32 → Int32 → ea_H → Option (Unit × ea_H)} {J4_ : Nat → (Int32 → Int32 → Int32 → ea_H → Option (Unit × ea_H))} {J56_ : Nat → (Int32 → Int32 → ea_H → Option (Unit × ea_H))}  (mJ4 : ∀ (x1 : Int32) (x2 : Int32) (x3 : Int32) (h : ea_H), fct (J4 x1 x2 x3 h) (fun f => J4_ f x1 x2 x3 h)) (mJ56 : ∀ (x1 : Int32) (x2 : Int32) (h : ea_H), fct (J56 x1 x2 h) (fun f => J56_ f x1 x2 h)) {x1 : Int32} {x2 : Int32} {x3 : Int32} {h : ea_H} : fct (BX6_scanNumber_4 J4 J56 x1 x2 x3 h) (fun f => BX6_scanNumber_4 (J4_ f) (J56_ f) x1 x2 x3 h) :=
  (fct_ite (mJ56 _ _ _) (fct_gd (fct_bind (fct_rfl _) fun _ => (fct_ite (mJ56 _ _ _) (fct_ite (mJ4 _ _ _ _) (fct_gd (fct_let fun _ => (mJ4 _ _ _ _))))))))
noncomputable def BX6_scanNumber_56 (x1 : Int32) (x2 : Int32) (h : ea_H) : Option (Unit × ea_H) :=
  (if x2 = ((-1) : Int32) then (Option.bind (qX6_addToken (20 : Int32) (x1 : Int32) ((if x2 < (0 : Int32) then (0 : Int32) else x2) : Int32) h) fun w9 => (some ((), w9.2))) else (Option.bind (qX6_addToken (18 : Int32) (x1 : Int32) ((if x2 < (0 : Int32) then (0 : Int32) else x2) : Int32) h) fun w8 => (some ((), w8.2))))
theorem tBX6_scanNumber_56 {d : Nat} {h0 : ea_H} (hd : 2 ≤ d)  {x1 : Int32} {x2 : Int32} {h : ea_H} {r : Unit} {h' : ea_H} (E : BX6_scanNumber_56 x1 x2 h = some (r, h')) (hs : ShC h) : ea_W mX6_scanNumber d h0 none h' 56 [(0, vR (some 24)), (1, vI x1), (2, vI x2)] [] h := by
  unfold BX6_scanNumber_56 at E
  refine ea_aload_n (pc := 56) dX6_scanNumber_56 rfl 0 rfl ?_
  refine ea_iload_n (pc := 57) dX6_scanNumber_57 rfl 2 rfl ?_
  refine ea_iconst (pc := 58) dX6_scanNumber_58 (v := (-1)) rfl ?_
  refine ea_icmp_ne (pc := 59) (tgt := 67) dX6_scanNumber_59 rfl (fun c10 => ?_) (fun c10 => ?_)
  · have E := (if_neg c10).symm.trans E
    obtain ⟨w8, Ew8, E⟩ := bd_some E
    have hsw8 : ShC w8.2 := ShC_core ((kpX6_addToken _ _ _ _) _ Ew8) hs
    refine ea_bipush (pc := 67) dX6_scanNumber_67 (v := 18) rfl ?_
    refine ea_iload_n (pc := 69) dX6_scanNumber_69 rfl 1 rfl ?_
    refine ea_iload_n (pc := 70) dX6_scanNumber_70 rfl 2 rfl ?_
    refine ea_iconst (pc := 71) dX6_scanNumber_71 (v := 0) rfl ?_
    refine ea_mmaxI (pc := 72) dX6_scanNumber_72 ew_981 ew_982 ew_119 ew_983 (by omega) (Nat.le_of_ble_eq_true rfl) ?_
    refine ea_callV (pc := 75) (d' := d - 1) (As := [vI 18, vI x1, vI (if x2 < (0 : Int32) then (0 : Int32) else x2)]) (st := []) dX6_scanNumber_75 kX6_addToken (sX6_addToken (d := d - 1) (by omega) hs Ew8) (by omega) rfl (Nat.le_of_ble_eq_true rfl) ew_970 ew_972 ew_17 (ci := 6) rfl (by decide) (cShC_24 hs).1 (cShC_24 hs).2.1 ?_
    exact ea_vretO (pc := 78) dX6_scanNumber_78 rfl E
  · have E := (if_pos c10).symm.trans E
    obtain ⟨w9, Ew9, E⟩ := bd_some E
    have hsw9 : ShC w9.2 := ShC_core ((kpX6_addToken _ _ _ _) _ Ew9) hs
    refine ea_bipush (pc := 62) dX6_scanNumber_62 (v := 20) rfl ?_
    refine ea_goto (pc := 64) (tgt := 69) dX6_scanNumber_64 rfl ?_
    refine ea_iload_n (pc := 69) dX6_scanNumber_69 rfl 1 rfl ?_
    refine ea_iload_n (pc := 70) dX6_scanNumber_70 rfl 2 rfl ?_
    refine ea_iconst (pc := 71) dX6_scanNumber_71 (v := 0) rfl ?_
    refine ea_mmaxI (pc := 72) dX6_scanNumber_72 ew_981 ew_982 ew_119 ew_983 (by omega) (Nat.le_of_ble_eq_true rfl) ?_
    refine ea_callV (pc := 75) (d' := d - 1) (As := [vI 20, vI x1, vI (if x2 < (0 : Int32) then (0 : Int32) else x2)]) (st := []) dX6_scanNumber_75 kX6_addToken (sX6_addToken (d := d - 1) (by omega) hs Ew9) (by omega) rfl (Nat.le_of_ble_eq_true rfl) ew_970 ew_972 ew_17 (ci := 6) rfl (by decide) (cShC_24 hs).1 (cShC_24 hs).2.1 ?_
    exact ea_vretO (pc := 78) dX6_scanNumber_78 rfl E
theorem kBX6_scanNumber_56  {x1 : Int32} {x2 : Int32} {h : ea_H} : kp (ea_core h) (BX6_scanNumber_56 x1 x2 h) :=
  (kp_ite (kp_bind (kp_tw (kpX6_addToken _ _ _ _) rfl) fun w9 hcw9 => (kp_ret hcw9)) (kp_bind (kp_tw (kpX6_addToken _ _ _ _) rfl) fun w8 hcw8 => (kp_ret hcw8)))
theorem lBX6_scanNumber_56  {x1 : Int32} {x2 : Int32} {h : ea_H} : fle (BX6_scanNumber_56 x1 x2 h) (BX6_scanNumber_56 x1 x2 h) :=
  (fle_rfl _)
theorem nBX6_scanNumber_56  {x1 : Int32} {x2 : Int32} {h : ea_H} : fct (BX6_scanNumber_56 x1 x2 h) (fun f => BX6_scanNumber_56 x1 x2 h) :=
  (fct_rfl _)
noncomputable def gX6_scanNumber : Nat → (Int32 → ea_H → Option (Unit × ea_H)) × (Int32 → Int32 → Int32 → ea_H → Option (Unit × ea_H)) × (Int32 → Int32 → ea_H → Option (Unit × ea_H))
  | 0 => (fun _ _ => none, fun _ _ _ _ => none, fun _ _ _ => none)
  | f + 1 => (BX6_scanNumber_0 (gX6_scanNumber f).2.1, BX6_scanNumber_4 (gX6_scanNumber f).2.1 (gX6_scanNumber f).2.2, BX6_scanNumber_56)
theorem mgX6_scanNumber : ∀ f : Nat, (∀ (x1 : Int32) (h : ea_H), fle ((gX6_scanNumber f).1 x1 h) ((gX6_scanNumber (f + 1)).1 x1 h)) ∧ (∀ (x1 : Int32) (x2 : Int32) (x3 : Int32) (h : ea_H), fle ((gX6_scanNumber f).2.1 x1 x2 x3 h) ((gX6_scanNumber (f + 1)).2.1 x1 x2 x3 h)) ∧ (∀ (x1 : Int32) (x2 : Int32) (h : ea_H), fle ((gX6_scanNumber f).2.2 x1 x2 h) ((gX6_scanNumber (f + 1)).2.2 x1 x2 h)) := by
  intro f
  induction f with
  | zero => exact ⟨fun _ _ => fle_none _, fun _ _ _ _ => fle_none _, fun _ _ _ => fle_none _⟩
  | succ f ih => exact ⟨fun _ _ => lBX6_scanNumber_0 ih.2.1, fun _ _ _ _ => lBX6_scanNumber_4 ih.2.1 ih.2.2, fun _ _ _ => lBX6_scanNumber_56⟩
noncomputable def qX6_scanNumber_0 (x1 : Int32) (h : ea_H) : Option (Unit × ea_H) := flim fun f => (gX6_scanNumber f).1 x1 h
noncomputable def qX6_scanNumber_4 (x1 : Int32) (x2 : Int32) (x3 : Int32) (h : ea_H) : Option (Unit × ea_H) := flim fun f => (gX6_scanNumber f).2.1 x1 x2 x3 h
noncomputable def qX6_scanNumber_56 (x1 : Int32) (x2 : Int32) (h : ea_H) : Option (Unit × ea_H) := flim fun f => (gX6_scanNumber f).2.2 x1 x2 h
theorem fqX6_scanNumber_0 (x1 : Int32) (h : ea_H) : fct (qX6_scanNumber_0 x1 h) fun f => (gX6_scanNumber f).1 x1 h := flim_ct fun f => (mgX6_scanNumber f).1 x1 h
theorem fqX6_scanNumber_4 (x1 : Int32) (x2 : Int32) (x3 : Int32) (h : ea_H) : fct (qX6_scanNumber_4 x1 x2 x3 h) fun f => (gX6_scanNumber f).2.1 x1 x2 x3 h := flim_ct fun f => (mgX6_scanNumber f).2.1 x1 x2 x3 h
theorem fqX6_scanNumber_56 (x1 : Int32) (x2 : Int32) (h : ea_H) : fct (qX6_scanNumber_56 x1 x2 h) fun f => (gX6_scanNumber f).2.2 x1 x2 h := flim_ct fun f => (mgX6_scanNumber f).2.2 x1 x2 h
/-- how a block opens -/
theorem uqX6_scanNumber_0 {x1 : Int32} {h : ea_H} {P : Unit × ea_H → Prop} (H : sat (BX6_scanNumber_0 qX6_scanNumber_4 x1 h) P) : sat (qX6_scanNumber_0 x1 h) P := by
  obtain ⟨x, e, hp⟩ := H
  obtain ⟨n, hn⟩ := nBX6_scanNumber_0 fqX6_scanNumber_4 x e
  exact ⟨x, flim_at (fun f => (mgX6_scanNumber f).1 x1 h) (f := n + 1) (hn n (Nat.le_refl _)), hp⟩
/-- how a block opens -/
theorem uqX6_scanNumber_4 {x1 : Int32} {x2 : Int32} {x3 : Int32} {h : ea_H} {P : Unit × ea_H → Prop} (H : sat (BX6_scanNumber_4 qX6_scanNumber_4 qX6_scanNumber_56 x1 x2 x3 h) P) : sat (qX6_scanNumber_4 x1 x2 x3 h) P := by
  obtain ⟨x, e, hp⟩ := H
  obtain ⟨n, hn⟩ := nBX6_scanNumber_4 fqX6_scanNumber_4 fqX6_scanNumber_56 x e
  exact ⟨x, flim_at (fun f => (mgX6_scanNumber f).2.1 x1 x2 x3 h) (f := n + 1) (hn n (Nat.le_refl _)), hp⟩
/-- how a block opens -/
theorem uqX6_scanNumber_56 {x1 : Int32} {x2 : Int32} {h : ea_H} {P : Unit × ea_H → Prop} (H : sat (BX6_scanNumber_56 x1 x2 h) P) : sat (qX6_scanNumber_56 x1 x2 h) P := by
  obtain ⟨x, e, hp⟩ := H
  obtain ⟨n, hn⟩ := nBX6_scanNumber_56 x e
  exact ⟨x, flim_at (fun f => (mgX6_scanNumber f).2.2 x1 x2 h) (f := n + 1) (hn n (Nat.le_refl _)), hp⟩
theorem kgX6_scanNumber : ∀ f : Nat, (∀ (x1 : Int32) (h : ea_H), kp (ea_core h) ((gX6_scanNumber f).1 x1 h)) ∧ (∀ (x1 : Int32) (x2 : Int32) (x3 : Int32) (h : ea_H), kp (ea_core h) ((gX6_scanNumber f).2.1 x1 x2 x3 h)) ∧ (∀ (x1 : Int32) (x2 : Int32) (h : ea_H), kp (ea_core h) ((gX6_scanNumber f).2.2 x1 x2 h)) := by
  intro f
  induction f with
  | zero => exact ⟨fun _ _ => kp_none _, fun _ _ _ _ => kp_none _, fun _ _ _ => kp_none _⟩
  | succ f ih => exact ⟨fun _ _ => kBX6_scanNumber_0 ih.2.1, fun _ _ _ _ => kBX6_scanNumber_4 ih.2.1 ih.2.2, fun _ _ _ => kBX6_scanNumber_56⟩
theorem tgX6_scanNumber {d : Nat} {h0 : ea_H} (hd : 2 ≤ d) : ∀ f : Nat, (∀ (x1 : Int32) (h : ea_H) (r : Unit) (h' : ea_H), (gX6_scanNumber f).1 x1 h = some (r, h') → ShC h → ea_W mX6_scanNumber d h0 none h' 0 [(0, vR (some 24)), (1, vI x1)] [] h) ∧ (∀ (x1 : Int32) (x2 : Int32) (x3 : Int32) (h : ea_H) (r : Unit) (h' : ea_H), (gX6_scanNumber f).2.1 x1 x2 x3 h = some (r, h') → ShC h → ea_W mX6_scanNumber d h0 none h' 4 [(0, vR (some 24)), (1, vI x1), (2, vI x2), (3, vI x3)] [] h) ∧ (∀ (x1 : Int32) (x2 : Int32) (h : ea_H) (r : Unit) (h' : ea_H), (gX6_scanNumber f).2.2 x1 x2 h = some (r, h') → ShC h → ea_W mX6_scanNumber d h0 none h' 56 [(0, vR (some 24)), (1, vI x1), (2, vI x2)] [] h) := by
  intro f
  induction f with
  | zero => exact ⟨fun _ _ _ _ E => no_some E, fun _ _ _ _ _ _ E => no_some E, fun _ _ _ _ _ E => no_some E⟩
  | succ f ih => exact ⟨fun _ _ _ _ E hs => tBX6_scanNumber_0 hd ih.2.1 E hs, fun _ _ _ _ _ _ E hs => tBX6_scanNumber_4 hd ih.2.1 ih.2.2 E hs, fun _ _ _ _ _ E hs => tBX6_scanNumber_56 hd E hs⟩
noncomputable def qX6_scanNumber (x1 : Int32) (h : ea_H) : Option (Unit × ea_H) := qX6_scanNumber_0 x1 h
theorem sX6_scanNumber {d : Nat} {x1 : Int32} {h : ea_H} {r : Unit} {h' : ea_H} (hd : 2 ≤ d) (hs : ShC h) (K : qX6_scanNumber x1 h = some (r, h')) : ea_Met mX6_scanNumber d [vR (some 24), vI x1] h none h' := by
  unfold qX6_scanNumber at K
  obtain ⟨n, hn⟩ := fqX6_scanNumber_0 x1 h _ K
  have W := (tgX6_scanNumber (d := d) (h0 := h) hd n).1 x1 h _ _ (hn n (Nat.le_refl _)) hs
  exact ea_enter rfl (Nat.le_of_ble_eq_true rfl) W
theorem kpX6_scanNumber (x1 : Int32) (h : ea_H) : kp (ea_core h) (qX6_scanNumber x1 h) := fun x e => by
  obtain ⟨n, hn⟩ := fqX6_scanNumber_0 x1 h x e
  exact (kgX6_scanNumber n).1 x1 h x (hn n (Nat.le_refl _))
noncomputable def BX7_init_0 (a0 : Nat) (J42 : Int32 → ea_H → Option (Unit × ea_H)) (h : ea_H) : Option (Unit × ea_H) :=
  (ea_let (ea_new h 20 144 144) fun H1 => (gd ((a0 < ea_n H1 ∧ ea_c H1 a0 = 7)) (ea_let (ea_wr H1 a0 1 (some (ea_n h))) fun H3 => (ea_let (ea_new H3 20 144 144) fun H4 => (gd ((a0 < ea_n H4 ∧ ea_c H4 a0 = 7)) (ea_let (ea_wr H4 a0 2 (some (ea_n H3))) fun H6 => (ea_let (ea_new H6 20 144 144) fun H7 => (gd ((a0 < ea_n H7 ∧ ea_c H7 a0 = 7)) (ea_let (ea_wr H7 a0 3 (some (ea_n H6))) fun H9 => (gd ((a0 < ea_n H9 ∧ ea_c H9 a0 = 7)) (Option.bind (qJ7_fill_53178 ((ea_r H9 a0 1) : Option Nat) (1000000 : Int32) H9) fun w11 => (J42 (0 : Int32) w11.2))))))))))))
theorem tBX7_init_0 {d : Nat} {a0 : Nat} {h0 : ea_H} (hd : 3 ≤ d) {J42 : Int32 → ea_H → Option (Unit × ea_H)}  (kJ42 : ∀ (x1 : Int32) (h : ea_H) (r : Unit) (h' : ea_H), J42 x1 h = some (r, h') → ea_W mX7_init d h0 none h' 42 [(0, vR (some a0)), (1, vI x1)] [] h) {h : ea_H} {r : Unit} {h' : ea_H} (E : BX7_init_0 a0 J42 h = some (r, h')) : ea_W mX7_init d h0 none h' 0 [(0, vR (some a0))] [] h := by
  unfold BX7_init_0 at E
  obtain ⟨H1, eH1, E⟩ := let_some E
  refine ea_aload_n (pc := 0) dX7_init_0 rfl 0 rfl ?_
  refine ea_objInit (pc := 1) dX7_init_1 ew_148 ew_141 ew_142 (by omega) (Nat.le_of_ble_eq_true rfl) ?_
  refine ea_aload_n (pc := 4) dX7_init_4 rfl 0 rfl ?_
  refine ea_sipush (pc := 5) dX7_init_5 (v := 144) rfl ?_
  refine ea_newI (pc := 8) (N := 144) dX7_init_8 ew_177 (by decide) rfl (Nat.le_of_ble_eq_true rfl) ?_
  refine ea_nm eH1 ?_
  obtain ⟨f2, E⟩ := gd_some E
  obtain ⟨H3, eH3, E⟩ := let_some E
  refine ea_putR (pc := 10) dX7_init_10 ec_7 (k := 1) (Nat.le_of_ble_eq_true rfl) rfl (Or.inr ⟨rfl, rfl, rfl, ew_165⟩) f2.1 f2.2 ?_
  refine ea_nm eH3 ?_
  obtain ⟨H4, eH4, E⟩ := let_some E
  refine ea_aload_n (pc := 13) dX7_init_13 rfl 0 rfl ?_
  refine ea_sipush (pc := 14) dX7_init_14 (v := 144) rfl ?_
  refine ea_newI (pc := 17) (N := 144) dX7_init_17 ew_177 (by decide) rfl (Nat.le_of_ble_eq_true rfl) ?_
  refine ea_nm eH4 ?_
  obtain ⟨f5, E⟩ := gd_some E
  obtain ⟨H6, eH6, E⟩ := let_some E
  refine ea_putR (pc := 19) dX7_init_19 ec_7 (k := 2) (Nat.le_of_ble_eq_true rfl) rfl (Or.inr ⟨rfl, rfl, rfl, ew_166⟩) f5.1 f5.2 ?_
  refine ea_nm eH6 ?_
  obtain ⟨H7, eH7, E⟩ := let_some E
  refine ea_aload_n (pc := 22) dX7_init_22 rfl 0 rfl ?_
  refine ea_sipush (pc := 23) dX7_init_23 (v := 144) rfl ?_
  refine ea_newI (pc := 26) (N := 144) dX7_init_26 ew_177 (by decide) rfl (Nat.le_of_ble_eq_true rfl) ?_
  refine ea_nm eH7 ?_
  obtain ⟨f8, E⟩ := gd_some E
  obtain ⟨H9, eH9, E⟩ := let_some E
  refine ea_putR (pc := 28) dX7_init_28 ec_7 (k := 3) (Nat.le_of_ble_eq_true rfl) rfl (Or.inr ⟨rfl, rfl, rfl, ew_167⟩) f8.1 f8.2 ?_
  refine ea_nm eH9 ?_
  obtain ⟨f10, E⟩ := gd_some E
  refine ea_aload_n (pc := 31) dX7_init_31 rfl 0 rfl ?_
  obtain ⟨w11, Ew11, E⟩ := bd_some E
  refine ea_getR (pc := 32) dX7_init_32 ec_7 (k := 1) (Nat.le_of_ble_eq_true rfl) rfl (Or.inl ew_165) f10.1 f10.2 rfl ?_
  refine ea_ldc (pc := 35) dX7_init_35 ew_149 ?_
  refine ea_callS (pc := 37) (d' := d - 1) (As := [vR (ea_r H9 a0 1), vI 1000000]) (st := []) dX7_init_37 kJ7_fill_53178 (sJ7_fill_53178 (d := d - 1) (by omega) Ew11) (by omega) rfl (Nat.le_of_ble_eq_true rfl) ew_150 ew_151 ?_
  refine ea_iconst (pc := 40) dX7_init_40 (v := 0) rfl ?_
  refine ea_istore_n (pc := 41) (lv' := [(0, vR (some a0)), (1, vI 0)]) dX7_init_41 rfl (Nat.le_of_ble_eq_true rfl) [1, 0] rfl ?_
  exact (kJ42 (0 : Int32) w11.2 _ _ E)
theorem lBX7_init_0 {a0 : Nat} {J42 : Int32 → ea_H → Option (Unit × ea_H)} {J42_ : Int32 → ea_H → Option (Unit × ea_H)}  (mJ42 : ∀ (x1 : Int32) (h : ea_H), fle (J42 x1 h) (J42_ x1 h)) {h : ea_H} : fle (BX7_init_0 a0 J42 h) (BX7_init_0 a0 J42_ h) :=
  (fle_let fun _ => (fle_gd (fle_let fun _ => (fle_let fun _ => (fle_gd (fle_let fun _ => (fle_let fun _ => (fle_gd (fle_let fun _ => (fle_gd (fle_bind (fle_rfl _) fun _ => (mJ42 _ _))))))))))))
theorem nBX7_init_0 {a0 : Nat} {J42 : Int32 → ea_H → Option (Unit × ea_H)} {J42_ : Nat → (Int32 → ea_H → Option (Unit × ea_H))}  (mJ42 : ∀ (x1 : Int32) (h : ea_H), fct (J42 x1 h) (fun f => J42_ f x1 h)) {h : ea_H} : fct (BX7_init_0 a0 J42 h) (fun f => BX7_init_0 a0 (J42_ f) h) :=
  (fct_let fun _ => (fct_gd (fct_let fun _ => (fct_let fun _ => (fct_gd (fct_let fun _ => (fct_let fun _ => (fct_gd (fct_let fun _ => (fct_gd (fct_bind (fct_rfl _) fun _ => (mJ42 _ _))))))))))))
noncomputable def BX7_init_42 (a0 : Nat) (J42 : Int32 → ea_H → Option (Unit × ea_H)) (x1 : Int32) (h : ea_H) : Option (Unit × ea_H) :=
  (if (12 : Int32) ≤ x1 then (gd ((a0 < ea_n h ∧ ea_c h a0 = 7)) (gd ((a0 < ea_n h ∧ ea_c h a0 = 7)) (Option.bind (qX7_reckon_dyn a0 ((ea_r h a0 2) : Option Nat) (0 : Int32) h) fun w13 => (gd ((a0 < ea_n w13.2 ∧ ea_c w13.2 a0 = 7)) (gd ((a0 < ea_n w13.2 ∧ ea_c w13.2 a0 = 7)) (Option.bind (qX7_reckon_dyn a0 ((ea_r w13.2 a0 3) : Option Nat) (1 : Int32) w13.2) fun w16 => (some ((), w16.2)))))))) else (gd ((a0 < ea_n h ∧ ea_c h a0 = 7)) (gd ((ea_r h a0 1) = some (Option.getD (ea_r h a0 1) 0)) (gd (((Option.getD (ea_r h a0 1) 0) < ea_n h ∧ ea_c h (Option.getD (ea_r h a0 1) 0) = 20)) (gd (vp_in (((12 : Int32) * x1) + x1) (ea_l h (Option.getD (ea_r h a0 1) 0))) (ea_let (ea_wi h (Option.getD (ea_r h a0 1) 0) (Int32.toNatClampNeg (((12 : Int32) * x1) + x1)) 0) fun H22 => (J42 ((x1 + (1 : Int32)) : Int32) H22)))))))
theorem tBX7_init_42 {d : Nat} {a0 : Nat} {h0 : ea_H} (hd : 3 ≤ d) {J42 : Int32 → ea_H → Option (Unit × ea_H)}  (kJ42 : ∀ (x1 : Int32) (h : ea_H) (r : Unit) (h' : ea_H), J42 x1 h = some (r, h') → ea_W mX7_init d h0 none h' 42 [(0, vR (some a0)), (1, vI x1)] [] h) {x1 : Int32} {h : ea_H} {r : Unit} {h' : ea_H} (E : BX7_init_42 a0 J42 x1 h = some (r, h')) : ea_W mX7_init d h0 none h' 42 [(0, vR (some a0)), (1, vI x1)] [] h := by
  unfold BX7_init_42 at E
  refine ea_iload_n (pc := 42) dX7_init_42 rfl 1 rfl ?_
  refine ea_bipush (pc := 43) dX7_init_43 (v := 12) rfl ?_
  refine ea_icmp_ge (pc := 45) (tgt := 66) dX7_init_45 rfl (fun c23 => ?_) (fun c23 => ?_)
  · have E := (if_pos c23).symm.trans E
    obtain ⟨f12, E⟩ := gd_some E
    refine ea_aload_n (pc := 66) dX7_init_66 rfl 0 rfl ?_
    refine ea_aload_n (pc := 67) dX7_init_67 rfl 0 rfl ?_
    obtain ⟨f14, E⟩ := gd_some E
    refine ea_getR (pc := 68) dX7_init_68 ec_7 (k := 2) (Nat.le_of_ble_eq_true rfl) rfl (Or.inl ew_166) f12.1 f12.2 rfl ?_
    refine ea_iconst (pc := 71) dX7_init_71 (v := 0) rfl ?_
    obtain ⟨w13, Ew13, E⟩ := bd_some E
    refine ea_callV (pc := 72) (d' := d - 1) (As := [vR (ea_r h a0 2), vI 0]) (st := []) dX7_init_72 kX7_reckon (sX7_reckon_dyn (d := d - 1) (by omega) Ew13) (by omega) rfl (Nat.le_of_ble_eq_true rfl) ew_153 ew_155 ew_0 (ci := 7) rfl (by decide) f14.1 f14.2 ?_
    obtain ⟨f15, E⟩ := gd_some E
    refine ea_aload_n (pc := 75) dX7_init_75 rfl 0 rfl ?_
    refine ea_aload_n (pc := 76) dX7_init_76 rfl 0 rfl ?_
    obtain ⟨f17, E⟩ := gd_some E
    refine ea_getR (pc := 77) dX7_init_77 ec_7 (k := 3) (Nat.le_of_ble_eq_true rfl) rfl (Or.inl ew_167) f15.1 f15.2 rfl ?_
    refine ea_iconst (pc := 80) dX7_init_80 (v := 1) rfl ?_
    obtain ⟨w16, Ew16, E⟩ := bd_some E
    refine ea_callV (pc := 81) (d' := d - 1) (As := [vR (ea_r w13.2 a0 3), vI 1]) (st := []) dX7_init_81 kX7_reckon (sX7_reckon_dyn (d := d - 1) (by omega) Ew16) (by omega) rfl (Nat.le_of_ble_eq_true rfl) ew_153 ew_155 ew_0 (ci := 7) rfl (by decide) f17.1 f17.2 ?_
    exact ea_vretO (pc := 84) dX7_init_84 rfl E
  · have E := (if_neg c23).symm.trans E
    obtain ⟨f18, E⟩ := gd_some E
    refine ea_aload_n (pc := 48) dX7_init_48 rfl 0 rfl ?_
    obtain ⟨e19, E⟩ := gd_some E
    refine ea_getR (pc := 49) dX7_init_49 ec_7 (k := 1) (Nat.le_of_ble_eq_true rfl) rfl (Or.inl ew_165) f18.1 f18.2 rfl ?_
    refine ea_bipush (pc := 52) dX7_init_52 (v := 12) rfl ?_
    refine ea_iload_n (pc := 54) dX7_init_54 rfl 1 rfl ?_
    refine ea_imul (pc := 55) dX7_init_55 ?_
    refine ea_iload_n (pc := 56) dX7_init_56 rfl 1 rfl ?_
    refine ea_iadd (pc := 57) dX7_init_57 ?_
    refine ea_iconst (pc := 58) dX7_init_58 (v := 0) rfl ?_
    obtain ⟨f20, E⟩ := gd_some E
    obtain ⟨z21, E⟩ := gd_some E
    obtain ⟨H22, eH22, E⟩ := let_some E
    refine ea_deref2 e19 ?_
    refine ea_iast (pc := 59) dX7_init_59 f20.1 f20.2 z21 ?_
    refine ea_nm eH22 ?_
    refine ea_iinc (pc := 60) (v := 1) (lv' := [(0, vR (some a0)), (1, vI (x1 + (1 : Int32)))]) dX7_init_60 1 rfl rfl (Nat.le_of_ble_eq_true rfl) [1, 0] rfl ?_
    refine ea_goto (pc := 63) (tgt := 42) dX7_init_63 rfl ?_
    exact (kJ42 ((x1 + (1 : Int32)) : Int32) H22 _ _ E)
theorem lBX7_init_42 {a0 : Nat} {J42 : Int32 → ea_H → Option (Unit × ea_H)} {J42_ : Int32 → ea_H → Option (Unit × ea_H)}  (mJ42 : ∀ (x1 : Int32) (h : ea_H), fle (J42 x1 h) (J42_ x1 h)) {x1 : Int32} {h : ea_H} : fle (BX7_init_42 a0 J42 x1 h) (BX7_init_42 a0 J42_ x1 h) :=
  (fle_ite (fle_rfl _) (fle_gd (fle_gd (fle_gd (fle_gd (fle_let fun _ => (mJ42 _ _)))))))
theorem nBX7_init_42 {a0 : Nat} {J42 : Int32 → ea_H → Option (Unit × ea_H)} {J42_ : Nat → (Int32 → ea_H → Option (Unit × ea_H))}  (mJ42 : ∀ (x1 : Int32) (h : ea_H), fct (J42 x1 h) (fun f => J42_ f x1 h)) {x1 : Int32} {h : ea_H} : fct (BX7_init_42 a0 J42 x1 h) (fun f => BX7_init_42 a0 (J42_ f) x1 h) :=
  (fct_ite (fct_rfl _) (fct_gd (fct_gd (fct_gd (fct_gd (fct_let fun _ => (mJ42 _ _)))))))
noncomputable def gX7_init (a0 : Nat) : Nat → (ea_H → Option (Unit × ea_H)) × (Int32 → ea_H → Option (Unit × ea_H))
  | 0 => (fun _ => none, fun _ _ => none)
  | f + 1 => (BX7_init_0 a0 (gX7_init a0 f).2, BX7_init_42 a0 (gX7_init a0 f).2)
theorem mgX7_init (a0 : Nat) : ∀ f : Nat, (∀ (h : ea_H), fle ((gX7_init a0 f).1 h) ((gX7_init a0 (f + 1)).1 h)) ∧ (∀ (x1 : Int32) (h : ea_H), fle ((gX7_init a0 f).2 x1 h) ((gX7_init a0 (f + 1)).2 x1 h)) := by
  intro f
  induction f with
  | zero => exact ⟨fun _ => fle_none _, fun _ _ => fle_none _⟩
  | succ f ih => exact ⟨fun _ => lBX7_init_0 (a0 := a0) ih.2, fun _ _ => lBX7_init_42 (a0 := a0) ih.2⟩
noncomputable def qX7_init_0 (a0 : Nat) (h : ea_H) : Option (Unit × ea_H) := flim fun f => (gX7_init a0 f).1 h
noncomputable def qX7_init_42 (a0 : Nat) (x1 : Int32) (h : ea_H) : Option (Unit × ea_H) := flim fun f => (gX7_init a0 f).2 x1 h
theorem fqX7_init_0 (a0 : Nat) (h : ea_H) : fct (qX7_init_0 a0 h) fun f => (gX7_init a0 f).1 h := flim_ct fun f => (mgX7_init a0 f).1 h
theorem fqX7_init_42 (a0 : Nat) (x1 : Int32) (h : ea_H) : fct (qX7_init_42 a0 x1 h) fun f => (gX7_init a0 f).2 x1 h := flim_ct fun f => (mgX7_init a0 f).2 x1 h
/-- how a block opens -/
theorem uqX7_init_0 {a0 : Nat} {h : ea_H} {P : Unit × ea_H → Prop} (H : sat (BX7_init_0 a0 (qX7_init_42 a0) h) P) : sat (qX7_init_0 a0 h) P := by
  obtain ⟨x, e, hp⟩ := H
  obtain ⟨n, hn⟩ := nBX7_init_0 (a0 := a0) (fqX7_init_42 a0) x e
  exact ⟨x, flim_at (fun f => (mgX7_init a0 f).1 h) (f := n + 1) (hn n (Nat.le_refl _)), hp⟩
/-- how a block opens -/
theorem uqX7_init_42 {a0 : Nat} {x1 : Int32} {h : ea_H} {P : Unit × ea_H → Prop} (H : sat (BX7_init_42 a0 (qX7_init_42 a0) x1 h) P) : sat (qX7_init_42 a0 x1 h) P := by
  obtain ⟨x, e, hp⟩ := H
  obtain ⟨n, hn⟩ := nBX7_init_42 (a0 := a0) (fqX7_init_42 a0) x e
  exact ⟨x, flim_at (fun f => (mgX7_init a0 f).2 x1 h) (f := n + 1) (hn n (Nat.le_refl _)), hp⟩
theorem tgX7_init {d : Nat} {a0 : Nat} {h0 : ea_H} (hd : 3 ≤ d) : ∀ f : Nat, (∀ (h : ea_H) (r : Unit) (h' : ea_H), (gX7_init a0 f).1 h = some (r, h') → ea_W mX7_init d h0 none h' 0 [(0, vR (some a0))] [] h) ∧ (∀ (x1 : Int32) (h : ea_H) (r : Unit) (h' : ea_H), (gX7_init a0 f).2 x1 h = some (r, h') → ea_W mX7_init d h0 none h' 42 [(0, vR (some a0)), (1, vI x1)] [] h) := by
  intro f
  induction f with
  | zero => exact ⟨fun _ _ _ E => no_some E, fun _ _ _ _ E => no_some E⟩
  | succ f ih => exact ⟨fun _ _ _ E => tBX7_init_0 (a0 := a0) hd ih.2 E, fun _ _ _ _ E => tBX7_init_42 (a0 := a0) hd ih.2 E⟩
noncomputable def qX7_init (a0 : Nat) (h : ea_H) : Option (Unit × ea_H) := qX7_init_0 a0  h
theorem sX7_init {d : Nat} {a0 : Nat} {h : ea_H} {r : Unit} {h' : ea_H} (hd : 3 ≤ d) (K : qX7_init a0 h = some (r, h')) : ea_Met mX7_init d [vR (some a0)] h none h' := by
  unfold qX7_init at K
  obtain ⟨n, hn⟩ := fqX7_init_0 a0  h _ K
  have W := (tgX7_init (d := d) (h0 := h) hd n).1  h _ _ (hn n (Nat.le_refl _))
  exact ea_enter rfl (Nat.le_of_ble_eq_true rfl) W
noncomputable def BX7_lay_0 (x1 : Int32) (x2 : Int32) (x3 : Int32) (h : ea_H) : Option (Unit × ea_H) :=
  (gd (vp_in (((12 : Int32) * x1) + x2) 144) (ea_let (ea_wi h 2 (Int32.toNatClampNeg (((12 : Int32) * x1) + x2)) x3) fun H2 => (gd (vp_in (((12 : Int32) * x2) + x1) 144) (ea_let (ea_wi H2 2 (Int32.toNatClampNeg (((12 : Int32) * x2) + x1)) x3) fun H4 => (Option.bind (qX7_reckon ((some 3) : Option Nat) (0 : Int32) H4) fun w5 => (Option.bind (qX7_reckon ((some 4) : Option Nat) (1 : Int32) w5.2) fun w6 => (some ((), w6.2))))))))
theorem tBX7_lay_0 {d : Nat} {h0 : ea_H} (hd : 3 ≤ d)  {x1 : Int32} {x2 : Int32} {x3 : Int32} {h : ea_H} {r : Unit} {h' : ea_H} (E : BX7_lay_0 x1 x2 x3 h = some (r, h')) (hs : ShC h) : ea_W mX7_lay d h0 none h' 0 [(0, vR (some 1)), (1, vI x1), (2, vI x2), (3, vI x3)] [] h := by
  unfold BX7_lay_0 at E
  obtain ⟨z1, E⟩ := gd_some E
  refine ea_aload_n (pc := 0) dX7_lay_0 rfl 0 rfl ?_
  refine ea_getR (pc := 1) dX7_lay_1 ec_7 (k := 1) (Nat.le_of_ble_eq_true rfl) rfl (Or.inl ew_165) (cShC_1 hs).1 (cShC_1 hs).2.1 (rShC_1_1 hs) ?_
  refine ea_bipush (pc := 4) dX7_lay_4 (v := 12) rfl ?_
  refine ea_iload_n (pc := 6) dX7_lay_6 rfl 1 rfl ?_
  refine ea_imul (pc := 7) dX7_lay_7 ?_
  refine ea_iload_n (pc := 8) dX7_lay_8 rfl 2 rfl ?_
  refine ea_iadd (pc := 9) dX7_lay_9 ?_
  refine ea_iload_n (pc := 10) dX7_lay_10 rfl 3 rfl ?_
  obtain ⟨H2, eH2, E⟩ := let_some E
  refine ea_iast (pc := 11) dX7_lay_11 (cShC_2 hs).1 (cShC_2 hs).2.1 (ea_vpl (cShC_2 hs).2.2 z1) ?_
  refine ea_nm eH2 ?_
  have hsH2 : ShC H2 := by rw [eH2]; exact hs
  obtain ⟨z3, E⟩ := gd_some E
  refine ea_aload_n (pc := 12) dX7_lay_12 rfl 0 rfl ?_
  refine ea_getR (pc := 13) dX7_lay_13 ec_7 (k := 1) (Nat.le_of_ble_eq_true rfl) rfl (Or.inl ew_165) (cShC_1 hsH2).1 (cShC_1 hsH2).2.1 (rShC_1_1 hsH2) ?_
  refine ea_bipush (pc := 16) dX7_lay_16 (v := 12) rfl ?_
  refine ea_iload_n (pc := 18) dX7_lay_18 rfl 2 rfl ?_
  refine ea_imul (pc := 19) dX7_lay_19 ?_
  refine ea_iload_n (pc := 20) dX7_lay_20 rfl 1 rfl ?_
  refine ea_iadd (pc := 21) dX7_lay_21 ?_
  refine ea_iload_n (pc := 22) dX7_lay_22 rfl 3 rfl ?_
  obtain ⟨H4, eH4, E⟩ := let_some E
  refine ea_iast (pc := 23) dX7_lay_23 (cShC_2 hsH2).1 (cShC_2 hsH2).2.1 (ea_vpl (cShC_2 hsH2).2.2 z3) ?_
  refine ea_nm eH4 ?_
  have hsH4 : ShC H4 := by rw [eH4]; exact hsH2
  obtain ⟨w5, Ew5, E⟩ := bd_some E
  have hsw5 : ShC w5.2 := ShC_core ((kpX7_reckon _ _ _) _ Ew5) hsH4
  refine ea_aload_n (pc := 24) dX7_lay_24 rfl 0 rfl ?_
  refine ea_aload_n (pc := 25) dX7_lay_25 rfl 0 rfl ?_
  refine ea_getR (pc := 26) dX7_lay_26 ec_7 (k := 2) (Nat.le_of_ble_eq_true rfl) rfl (Or.inl ew_166) (cShC_1 hsH4).1 (cShC_1 hsH4).2.1 (rShC_1_2 hsH4) ?_
  refine ea_iconst (pc := 29) dX7_lay_29 (v := 0) rfl ?_
  refine ea_callV (pc := 30) (d' := d - 1) (As := [vR (some 3), vI 0]) (st := []) dX7_lay_30 kX7_reckon (sX7_reckon (d := d - 1) (by omega) hsH4 Ew5) (by omega) rfl (Nat.le_of_ble_eq_true rfl) ew_153 ew_155 ew_0 (ci := 7) rfl (by decide) (cShC_1 hsH4).1 (cShC_1 hsH4).2.1 ?_
  obtain ⟨w6, Ew6, E⟩ := bd_some E
  have hsw6 : ShC w6.2 := ShC_core ((kpX7_reckon _ _ _) _ Ew6) hsw5
  refine ea_aload_n (pc := 33) dX7_lay_33 rfl 0 rfl ?_
  refine ea_aload_n (pc := 34) dX7_lay_34 rfl 0 rfl ?_
  refine ea_getR (pc := 35) dX7_lay_35 ec_7 (k := 3) (Nat.le_of_ble_eq_true rfl) rfl (Or.inl ew_167) (cShC_1 hsw5).1 (cShC_1 hsw5).2.1 (rShC_1_3 hsw5) ?_
  refine ea_iconst (pc := 38) dX7_lay_38 (v := 1) rfl ?_
  refine ea_callV (pc := 39) (d' := d - 1) (As := [vR (some 4), vI 1]) (st := []) dX7_lay_39 kX7_reckon (sX7_reckon (d := d - 1) (by omega) hsw5 Ew6) (by omega) rfl (Nat.le_of_ble_eq_true rfl) ew_153 ew_155 ew_0 (ci := 7) rfl (by decide) (cShC_1 hsw5).1 (cShC_1 hsw5).2.1 ?_
  exact ea_vretO (pc := 42) dX7_lay_42 rfl E
theorem kBX7_lay_0  {x1 : Int32} {x2 : Int32} {x3 : Int32} {h : ea_H} : kp (ea_core h) (BX7_lay_0 x1 x2 x3 h) :=
  (kp_gd (kp_let (kp_gd (kp_let (kp_bind (kp_tw (kpX7_reckon _ _ _) rfl) fun w5 hcw5 => (kp_bind (kp_tw (kpX7_reckon _ _ _) hcw5) fun w6 hcw6 => (kp_ret hcw6)))))))
noncomputable def qX7_lay (x1 : Int32) (x2 : Int32) (x3 : Int32) (h : ea_H) : Option (Unit × ea_H) := BX7_lay_0 x1 x2 x3 h
theorem sX7_lay {d : Nat} {x1 : Int32} {x2 : Int32} {x3 : Int32} {h : ea_H} {r : Unit} {h' : ea_H} (hd : 3 ≤ d) (hs : ShC h) (K : qX7_lay x1 x2 x3 h = some (r, h')) : ea_Met mX7_lay d [vR (some 1), vI x1, vI x2, vI x3] h none h' := by
  unfold qX7_lay at K
  have W := tBX7_lay_0 hd (h0 := h) K hs
  exact ea_enter rfl (Nat.le_of_ble_eq_true rfl) W
theorem kpX7_lay (x1 : Int32) (x2 : Int32) (x3 : Int32) (h : ea_H) : kp (ea_core h) (qX7_lay x1 x2 x3 h) := kBX7_lay_0
noncomputable def BX8_worth_0 (J4 : Int32 → Int32 → ea_H → Option (Int32 × ea_H)) (x1 : Int32) (h : ea_H) : Option (Int32 × ea_H) :=
  (J4 (0 : Int32) (x1 : Int32) h)
theorem tBX8_worth_0 {d : Nat} {h0 : ea_H} (hd : 2 ≤ d) {J4 : Int32 → Int32 → ea_H → Option (Int32 × ea_H)}  (kJ4 : ∀ (x2 : Int32) (x3 : Int32) (h : ea_H) (r : Int32) (h' : ea_H), J4 x2 x3 h = some (r, h') → ShC h → ea_W mX8_worth d h0 (some (vI r)) h' 4 [(0, vR (some 23)), (2, vI x2), (3, vI x3)] [] h) {x1 : Int32} {h : ea_H} {r : Int32} {h' : ea_H} (E : BX8_worth_0 J4 x1 h = some (r, h')) (hs : ShC h) : ea_W mX8_worth d h0 (some (vI r)) h' 0 [(0, vR (some 23)), (1, vI x1)] [] h := by
  unfold BX8_worth_0 at E
  refine ea_iconst (pc := 0) dX8_worth_0 (v := 0) rfl ?_
  refine ea_istore_n (pc := 1) (lv' := [(0, vR (some 23)), (1, vI x1), (2, vI 0)]) dX8_worth_1 rfl (Nat.le_of_ble_eq_true rfl) [1, 2, 0] rfl ?_
  refine ea_iload_n (pc := 2) dX8_worth_2 rfl 1 rfl ?_
  refine ea_istore_n (pc := 3) (lv' := [(0, vR (some 23)), (2, vI 0), (3, vI x1)]) dX8_worth_3 rfl (Nat.le_of_ble_eq_true rfl) [1, 3, 0] rfl ?_
  exact (kJ4 (0 : Int32) (x1 : Int32) h _ _ E hs)
theorem kBX8_worth_0 {J4 : Int32 → Int32 → ea_H → Option (Int32 × ea_H)}  (cJ4 : ∀ (x2 : Int32) (x3 : Int32) (h : ea_H), kp (ea_core h) (J4 x2 x3 h)) {x1 : Int32} {h : ea_H} : kp (ea_core h) (BX8_worth_0 J4 x1 h) :=
  (kp_tw (cJ4 _ _ _) rfl)
theorem lBX8_worth_0 {J4 : Int32 → Int32 → ea_H → Option (Int32 × ea_H)} {J4_ : Int32 → Int32 → ea_H → Option (Int32 × ea_H)}  (mJ4 : ∀ (x2 : Int32) (x3 : Int32) (h : ea_H), fle (J4 x2 x3 h) (J4_ x2 x3 h)) {x1 : Int32} {h : ea_H} : fle (BX8_worth_0 J4 x1 h) (BX8_worth_0 J4_ x1 h) :=
  (mJ4 _ _ _)
theorem nBX8_worth_0 {J4 : Int32 → Int32 → ea_H → Option (Int32 × ea_H)} {J4_ : Nat → (Int32 → Int32 → ea_H → Option (Int32 × ea_H))}  (mJ4 : ∀ (x2 : Int32) (x3 : Int32) (h : ea_H), fct (J4 x2 x3 h) (fun f => J4_ f x2 x3 h)) {x1 : Int32} {h : ea_H} : fct (BX8_worth_0 J4 x1 h) (fun f => BX8_worth_0 (J4_ f) x1 h) :=
  (mJ4 _ _ _)
noncomputable def BX8_worth_4 (J4 : Int32 → Int32 → ea_H → Option (Int32 × ea_H)) (J127 : Int32 → Int32 → Int32 → ea_H → Option (Int32 × ea_H)) (J168 : Int32 → ea_H → Option (Int32 × ea_H)) (x2 : Int32) (x3 : Int32) (h : ea_H) : Option (Int32 × ea_H) :=
  (if (3600 : Int32) ≤ x3 then (J168 (x2 : Int32) h) else (Option.bind (qX6_codeAt (x3 : Int32) h) fun w1 => (if w1.1 = ((-100) : Int32) then (J168 (x2 : Int32) w1.2) else (Option.bind (qX6_codeAt (x3 : Int32) w1.2) fun w2 => (if w2.1 ≤ ((-10) : Int32) then (if w2.1 = ((-17) : Int32) then (if x2 ≤ (0 : Int32) then (J127 (x2 : Int32) (x3 : Int32) (w2.1 : Int32) w2.2) else (gd (vp_in (x2 - (1 : Int32)) 64) (gd (vp_in (x2 - (1 : Int32)) 64) (ea_let (ea_wi w2.2 30 (Int32.toNatClampNeg (x2 - (1 : Int32))) ((1 : Int32) - (ea_i w2.2 30 (Int32.toNatClampNeg (x2 - (1 : Int32)))))) fun H5 => (J4 (x2 : Int32) ((x3 + (1 : Int32)) : Int32) H5))))) else (J127 (x2 : Int32) (x3 : Int32) (w2.1 : Int32) w2.2)) else (if (64 : Int32) ≤ x2 then (some ((0 : Int32), w2.2)) else (if (((-1) : Int32) - w2.1) < (7 : Int32) then (if w2.1 < (0 : Int32) then (gd (vp_in (((-1) : Int32) - w2.1) 7) (gd (vp_in x2 64) (ea_let (ea_wi w2.2 30 (Int32.toNatClampNeg x2) (ea_i w2.2 29 (Int32.toNatClampNeg (((-1) : Int32) - w2.1)))) fun H10 => (J4 ((x2 + (1 : Int32)) : Int32) ((x3 + (1 : Int32)) : Int32) H10)))) else (gd (vp_in x2 64) (ea_let (ea_wi w2.2 30 (Int32.toNatClampNeg x2) w2.1) fun H12 => (J4 ((x2 + (1 : Int32)) : Int32) ((x3 + (1 : Int32)) : Int32) H12)))) else (some ((0 : Int32), w2.2)))))))))
theorem tBX8_worth_4 {d : Nat} {h0 : ea_H} (hd : 2 ≤ d) {J4 : Int32 → Int32 → ea_H → Option (Int32 × ea_H)} {J127 : Int32 → Int32 → Int32 → ea_H → Option (Int32 × ea_H)} {J168 : Int32 → ea_H → Option (Int32 × ea_H)}  (kJ4 : ∀ (x2 : Int32) (x3 : Int32) (h : ea_H) (r : Int32) (h' : ea_H), J4 x2 x3 h = some (r, h') → ShC h → ea_W mX8_worth d h0 (some (vI r)) h' 4 [(0, vR (some 23)), (2, vI x2), (3, vI x3)] [] h) (kJ127 : ∀ (x2 : Int32) (x3 : Int32) (x4 : Int32) (h : ea_H) (r : Int32) (h' : ea_H), J127 x2 x3 x4 h = some (r, h') → ShC h → ea_W mX8_worth d h0 (some (vI r)) h' 127 [(0, vR (some 23)), (2, vI x2), (3, vI x3), (4, vI x4)] [] h) (kJ168 : ∀ (x2 : Int32) (h : ea_H) (r : Int32) (h' : ea_H), J168 x2 h = some (r, h') → ShC h → ea_W mX8_worth d h0 (some (vI r)) h' 168 [(0, vR (some 23)), (2, vI x2)] [] h) {x2 : Int32} {x3 : Int32} {h : ea_H} {r : Int32} {h' : ea_H} (E : BX8_worth_4 J4 J127 J168 x2 x3 h = some (r, h')) (hs : ShC h) : ea_W mX8_worth d h0 (some (vI r)) h' 4 [(0, vR (some 23)), (2, vI x2), (3, vI x3)] [] h := by
  unfold BX8_worth_4 at E
  refine ea_iload_n (pc := 4) dX8_worth_4 rfl 2 rfl ?_
  refine ea_sipush (pc := 5) dX8_worth_5 (v := 3600) rfl ?_
  refine ea_icmp_ge (pc := 8) (tgt := 168) dX8_worth_8 rfl (fun c18 => ?_) (fun c18 => ?_)
  · have E := (if_pos c18).symm.trans E
    exact ea_fewer [0, 1] rfl (kJ168 (x2 : Int32) h _ _ E hs)
  · have E := (if_neg c18).symm.trans E
    obtain ⟨w1, Ew1, E⟩ := bd_some E
    have hsw1 : ShC w1.2 := ShC_core ((kpX6_codeAt _ _) _ Ew1) hs
    refine ea_aload_n (pc := 11) dX8_worth_11 rfl 0 rfl ?_
    refine ea_getR (pc := 12) dX8_worth_12 ec_8 (k := 0) (Nat.le_of_ble_eq_true rfl) rfl (Or.inl ew_396) (cShC_23 hs).1 (cShC_23 hs).2.1 (rShC_23_0 hs) ?_
    refine ea_iload_n (pc := 15) dX8_worth_15 rfl 2 rfl ?_
    refine ea_callV (pc := 16) (d' := d - 1) (As := [vI x3]) (st := []) dX8_worth_16 kX6_codeAt (sX6_codeAt (d := d - 1) (by omega) hs Ew1) (by omega) rfl (Nat.le_of_ble_eq_true rfl) ew_1112 ew_1113 ew_1114 (ci := 6) rfl (by decide) (cShC_24 hs).1 (cShC_24 hs).2.1 ?_
    refine ea_bipush (pc := 19) dX8_worth_19 (v := (-100)) rfl ?_
    refine ea_icmp_eq (pc := 21) (tgt := 168) dX8_worth_21 rfl (fun c17 => ?_) (fun c17 => ?_)
    · have E := (if_pos c17).symm.trans E
      exact ea_fewer [0, 1] rfl (kJ168 (x2 : Int32) w1.2 _ _ E hsw1)
    · have E := (if_neg c17).symm.trans E
      obtain ⟨w2, Ew2, E⟩ := bd_some E
      have hsw2 : ShC w2.2 := ShC_core ((kpX6_codeAt _ _) _ Ew2) hsw1
      refine ea_aload_n (pc := 24) dX8_worth_24 rfl 0 rfl ?_
      refine ea_getR (pc := 25) dX8_worth_25 ec_8 (k := 0) (Nat.le_of_ble_eq_true rfl) rfl (Or.inl ew_396) (cShC_23 hsw1).1 (cShC_23 hsw1).2.1 (rShC_23_0 hsw1) ?_
      refine ea_iload_n (pc := 28) dX8_worth_28 rfl 2 rfl ?_
      refine ea_callV (pc := 29) (d' := d - 1) (As := [vI x3]) (st := []) dX8_worth_29 kX6_codeAt (sX6_codeAt (d := d - 1) (by omega) hsw1 Ew2) (by omega) rfl (Nat.le_of_ble_eq_true rfl) ew_1112 ew_1113 ew_1114 (ci := 6) rfl (by decide) (cShC_24 hsw1).1 (cShC_24 hsw1).2.1 ?_
      refine ea_istore (pc := 32) (lv' := [(0, vR (some 23)), (2, vI x2), (3, vI x3), (4, vI w2.1)]) dX8_worth_32 (Nat.le_of_ble_eq_true rfl) [1, 2, 3, 0] rfl ?_
      refine ea_iload (pc := 34) dX8_worth_34 3 rfl ?_
      refine ea_bipush (pc := 36) dX8_worth_36 (v := (-10)) rfl ?_
      refine ea_icmp_le (pc := 38) (tgt := 95) dX8_worth_38 rfl (fun c16 => ?_) (fun c16 => ?_)
      · have E := (if_pos c16).symm.trans E
        refine ea_iload (pc := 95) dX8_worth_95 3 rfl ?_
        refine ea_bipush (pc := 97) dX8_worth_97 (v := (-17)) rfl ?_
        refine ea_icmp_ne (pc := 99) (tgt := 127) dX8_worth_99 rfl (fun c7 => ?_) (fun c7 => ?_)
        · have E := (if_neg c7).symm.trans E
          exact (kJ127 (x2 : Int32) (x3 : Int32) (w2.1 : Int32) w2.2 _ _ E hsw2)
        · have E := (if_pos c7).symm.trans E
          refine ea_iload_n (pc := 102) dX8_worth_102 rfl 1 rfl ?_
          refine ea_if_le (pc := 103) (tgt := 127) dX8_worth_103 rfl (fun c6 => ?_) (fun c6 => ?_)
          · have E := (if_pos c6).symm.trans E
            exact (kJ127 (x2 : Int32) (x3 : Int32) (w2.1 : Int32) w2.2 _ _ E hsw2)
          · have E := (if_neg c6).symm.trans E
            obtain ⟨z3, E⟩ := gd_some E
            refine ea_aload_n (pc := 106) dX8_worth_106 rfl 0 rfl ?_
            refine ea_getR (pc := 107) dX8_worth_107 ec_8 (k := 4) (Nat.le_of_ble_eq_true rfl) rfl (Or.inl ew_402) (cShC_23 hsw2).1 (cShC_23 hsw2).2.1 (rShC_23_4 hsw2) ?_
            refine ea_iload_n (pc := 110) dX8_worth_110 rfl 1 rfl ?_
            refine ea_iconst (pc := 111) dX8_worth_111 (v := 1) rfl ?_
            refine ea_isub (pc := 112) dX8_worth_112 ?_
            refine ea_iconst (pc := 113) dX8_worth_113 (v := 1) rfl ?_
            refine ea_aload_n (pc := 114) dX8_worth_114 rfl 0 rfl ?_
            refine ea_getR (pc := 115) dX8_worth_115 ec_8 (k := 4) (Nat.le_of_ble_eq_true rfl) rfl (Or.inl ew_402) (cShC_23 hsw2).1 (cShC_23 hsw2).2.1 (rShC_23_4 hsw2) ?_
            refine ea_iload_n (pc := 118) dX8_worth_118 rfl 1 rfl ?_
            refine ea_iconst (pc := 119) dX8_worth_119 (v := 1) rfl ?_
            refine ea_isub (pc := 120) dX8_worth_120 ?_
            obtain ⟨z4, E⟩ := gd_some E
            refine ea_iald (pc := 121) dX8_worth_121 (cShC_30 hsw2).1 (cShC_30 hsw2).2.1 (ea_vpl (cShC_30 hsw2).2.2 z3) ?_
            refine ea_isub (pc := 122) dX8_worth_122 ?_
            obtain ⟨H5, eH5, E⟩ := let_some E
            refine ea_iast (pc := 123) dX8_worth_123 (cShC_30 hsw2).1 (cShC_30 hsw2).2.1 (ea_vpl (cShC_30 hsw2).2.2 z4) ?_
            refine ea_nm eH5 ?_
            have hsH5 : ShC H5 := by rw [eH5]; exact hsw2
            refine ea_goto (pc := 124) (tgt := 162) dX8_worth_124 rfl ?_
            refine ea_iinc (pc := 162) (v := 1) (lv' := [(0, vR (some 23)), (2, vI x2), (3, vI (x3 + (1 : Int32)))]) dX8_worth_162 2 rfl rfl (Nat.le_of_ble_eq_true rfl) [1, 2, 0] rfl ?_
            refine ea_goto (pc := 165) (tgt := 4) dX8_worth_165 rfl ?_
            exact (kJ4 (x2 : Int32) ((x3 + (1 : Int32)) : Int32) H5 _ _ E hsH5)
      · have E := (if_neg c16).symm.trans E
        refine ea_iload_n (pc := 41) dX8_worth_41 rfl 1 rfl ?_
        refine ea_aload_n (pc := 42) dX8_worth_42 rfl 0 rfl ?_
        refine ea_getR (pc := 43) dX8_worth_43 ec_8 (k := 4) (Nat.le_of_ble_eq_true rfl) rfl (Or.inl ew_402) (cShC_23 hsw2).1 (cShC_23 hsw2).2.1 (rShC_23_4 hsw2) ?_
        refine ea_alen (pc := 46) dX8_worth_46 (cShC_30 hsw2).1 (cShC_30 hsw2).2.1 (by decide) (by decide) ?_
        refine ea_tops (by rw [(cShC_30 hsw2).2.2]; rfl : vI (Int32.ofNat (ea_l w2.2 30)) = vI 64) ?_
        refine ea_icmp_ge (pc := 47) (tgt := 62) dX8_worth_47 rfl (fun c15 => ?_) (fun c15 => ?_)
        · have E := (if_pos c15).symm.trans E
          refine ea_iconst (pc := 62) dX8_worth_62 (v := 0) rfl ?_
          exact ea_iretO (pc := 63) dX8_worth_63 rfl rfl E
        · have E := (if_neg c15).symm.trans E
          refine ea_iconst (pc := 50) dX8_worth_50 (v := (-1)) rfl ?_
          refine ea_iload (pc := 51) dX8_worth_51 3 rfl ?_
          refine ea_isub (pc := 53) dX8_worth_53 ?_
          refine ea_aload_n (pc := 54) dX8_worth_54 rfl 0 rfl ?_
          refine ea_getR (pc := 55) dX8_worth_55 ec_8 (k := 3) (Nat.le_of_ble_eq_true rfl) rfl (Or.inl ew_401) (cShC_23 hsw2).1 (cShC_23 hsw2).2.1 (rShC_23_3 hsw2) ?_
          refine ea_alen (pc := 58) dX8_worth_58 (cShC_29 hsw2).1 (cShC_29 hsw2).2.1 (by decide) (by decide) ?_
          refine ea_tops (by rw [(cShC_29 hsw2).2.2]; rfl : vI (Int32.ofNat (ea_l w2.2 29)) = vI 7) ?_
          refine ea_icmp_lt (pc := 59) (tgt := 64) dX8_worth_59 rfl (fun c14 => ?_) (fun c14 => ?_)
          · have E := (if_pos c14).symm.trans E
            refine ea_aload_n (pc := 64) dX8_worth_64 rfl 0 rfl ?_
            refine ea_getR (pc := 65) dX8_worth_65 ec_8 (k := 4) (Nat.le_of_ble_eq_true rfl) rfl (Or.inl ew_402) (cShC_23 hsw2).1 (cShC_23 hsw2).2.1 (rShC_23_4 hsw2) ?_
            refine ea_iload_n (pc := 68) dX8_worth_68 rfl 1 rfl ?_
            refine ea_iload (pc := 69) dX8_worth_69 3 rfl ?_
            refine ea_if_lt (pc := 71) (tgt := 79) dX8_worth_71 rfl (fun c13 => ?_) (fun c13 => ?_)
            · have E := (if_pos c13).symm.trans E
              obtain ⟨z8, E⟩ := gd_some E
              refine ea_aload_n (pc := 79) dX8_worth_79 rfl 0 rfl ?_
              refine ea_getR (pc := 80) dX8_worth_80 ec_8 (k := 3) (Nat.le_of_ble_eq_true rfl) rfl (Or.inl ew_401) (cShC_23 hsw2).1 (cShC_23 hsw2).2.1 (rShC_23_3 hsw2) ?_
              refine ea_iconst (pc := 83) dX8_worth_83 (v := (-1)) rfl ?_
              refine ea_iload (pc := 84) dX8_worth_84 3 rfl ?_
              refine ea_isub (pc := 86) dX8_worth_86 ?_
              obtain ⟨z9, E⟩ := gd_some E
              refine ea_iald (pc := 87) dX8_worth_87 (cShC_29 hsw2).1 (cShC_29 hsw2).2.1 (ea_vpl (cShC_29 hsw2).2.2 z8) ?_
              obtain ⟨H10, eH10, E⟩ := let_some E
              refine ea_iast (pc := 88) dX8_worth_88 (cShC_30 hsw2).1 (cShC_30 hsw2).2.1 (ea_vpl (cShC_30 hsw2).2.2 z9) ?_
              refine ea_nm eH10 ?_
              have hsH10 : ShC H10 := by rw [eH10]; exact hsw2
              refine ea_iinc (pc := 89) (v := 1) (lv' := [(0, vR (some 23)), (2, vI (x2 + (1 : Int32))), (3, vI x3)]) dX8_worth_89 1 rfl rfl (Nat.le_of_ble_eq_true rfl) [1, 0, 2] rfl ?_
              refine ea_goto (pc := 92) (tgt := 162) dX8_worth_92 rfl ?_
              refine ea_iinc (pc := 162) (v := 1) (lv' := [(0, vR (some 23)), (2, vI (x2 + (1 : Int32))), (3, vI (x3 + (1 : Int32)))]) dX8_worth_162 2 rfl rfl (Nat.le_of_ble_eq_true rfl) [1, 2, 0] rfl ?_
              refine ea_goto (pc := 165) (tgt := 4) dX8_worth_165 rfl ?_
              exact (kJ4 ((x2 + (1 : Int32)) : Int32) ((x3 + (1 : Int32)) : Int32) H10 _ _ E hsH10)
            · have E := (if_neg c13).symm.trans E
              obtain ⟨z11, E⟩ := gd_some E
              refine ea_iload (pc := 74) dX8_worth_74 3 rfl ?_
              refine ea_goto (pc := 76) (tgt := 88) dX8_worth_76 rfl ?_
              obtain ⟨H12, eH12, E⟩ := let_some E
              refine ea_iast (pc := 88) dX8_worth_88 (cShC_30 hsw2).1 (cShC_30 hsw2).2.1 (ea_vpl (cShC_30 hsw2).2.2 z11) ?_
              refine ea_nm eH12 ?_
              have hsH12 : ShC H12 := by rw [eH12]; exact hsw2
              refine ea_iinc (pc := 89) (v := 1) (lv' := [(0, vR (some 23)), (2, vI (x2 + (1 : Int32))), (3, vI x3)]) dX8_worth_89 1 rfl rfl (Nat.le_of_ble_eq_true rfl) [1, 0, 2] rfl ?_
              refine ea_goto (pc := 92) (tgt := 162) dX8_worth_92 rfl ?_
              refine ea_iinc (pc := 162) (v := 1) (lv' := [(0, vR (some 23)), (2, vI (x2 + (1 : Int32))), (3, vI (x3 + (1 : Int32)))]) dX8_worth_162 2 rfl rfl (Nat.le_of_ble_eq_true rfl) [1, 2, 0] rfl ?_
              refine ea_goto (pc := 165) (tgt := 4) dX8_worth_165 rfl ?_
              exact (kJ4 ((x2 + (1 : Int32)) : Int32) ((x3 + (1 : Int32)) : Int32) H12 _ _ E hsH12)
          · have E := (if_neg c14).symm.trans E
            refine ea_iconst (pc := 62) dX8_worth_62 (v := 0) rfl ?_
            exact ea_iretO (pc := 63) dX8_worth_63 rfl rfl E
theorem kBX8_worth_4 {J4 : Int32 → Int32 → ea_H → Option (Int32 × ea_H)} {J127 : Int32 → Int32 → Int32 → ea_H → Option (Int32 × ea_H)} {J168 : Int32 → ea_H → Option (Int32 × ea_H)}  (cJ4 : ∀ (x2 : Int32) (x3 : Int32) (h : ea_H), kp (ea_core h) (J4 x2 x3 h)) (cJ127 : ∀ (x2 : Int32) (x3 : Int32) (x4 : Int32) (h : ea_H), kp (ea_core h) (J127 x2 x3 x4 h)) (cJ168 : ∀ (x2 : Int32) (h : ea_H), kp (ea_core h) (J168 x2 h)) {x2 : Int32} {x3 : Int32} {h : ea_H} : kp (ea_core h) (BX8_worth_4 J4 J127 J168 x2 x3 h) :=
  (kp_ite (kp_tw (cJ168 _ _) rfl) (kp_bind (kp_tw (kpX6_codeAt _ _) rfl) fun w1 hcw1 => (kp_ite (kp_tw (cJ168 _ _) hcw1) (kp_bind (kp_tw (kpX6_codeAt _ _) hcw1) fun w2 hcw2 => (kp_ite (kp_ite (kp_ite (kp_tw (cJ127 _ _ _ _) hcw2) (kp_gd (kp_gd (kp_let (kp_tw (cJ4 _ _ _) hcw2))))) (kp_tw (cJ127 _ _ _ _) hcw2)) (kp_ite (kp_ret hcw2) (kp_ite (kp_ite (kp_gd (kp_gd (kp_let (kp_tw (cJ4 _ _ _) hcw2)))) (kp_gd (kp_let (kp_tw (cJ4 _ _ _) hcw2)))) (kp_ret hcw2))))))))
theorem lBX8_worth_4 {J4 : Int32 → Int32 → ea_H → Option (Int32 × ea_H)} {J127 : Int32 → Int32 → Int32 → ea_H → Option (Int32 × ea_H)} {J168 : Int32 → ea_H → Option (Int32 × ea_H)} {J4_ : Int32 → Int32 → ea_H → Option (Int32 × ea_H)} {J127_ : Int32 → Int32 → Int32 → ea_H → Option (Int32 × ea_H)} {J168_ : Int32 → ea_H → Option (Int32 × ea_H)}  (mJ4 : ∀ (x2 : Int32) (x3 : Int32) (h : ea_H), fle (J4 x2 x3 h) (J4_ x2 x3 h)) (mJ127 : ∀ (x2 : Int32) (x3 : Int32) (x4 : Int32) (h : ea_H), fle (J127 x2 x3 x4 h) (J127_ x2 x3 x4 h)) (mJ168 : ∀ (x2 : Int32) (h : ea_H), fle (J168 x2 h) (J168_ x2 h)) {x2 : Int32} {x3 : Int32} {h : ea_H} : fle (BX8_worth_4 J4 J127 J168 x2 x3 h) (BX8_worth_4 J4_ J127_ J168_ x2 x3 h) :=
  (fle_ite (mJ168 _ _) (fle_bind (fle_rfl _) fun _ => (fle_ite (mJ168 _ _) (fle_bind (fle_rfl _) fun _ => (fle_ite (fle_ite (fle_ite (mJ127 _ _ _ _) (fle_gd (fle_gd (fle_let fun _ => (mJ4 _ _ _))))) (mJ127 _ _ _ _)) (fle_ite (fle_rfl _) (fle_ite (fle_ite (fle_gd (fle_gd (fle_let fun _ => (mJ4 _ _ _)))) (fle_gd (fle_let fun _ => (mJ4 _ _ _)))) (fle_rfl _))))))))
theorem nBX8_worth_4 {J4 : Int32 → Int32 → ea_H → Option (Int32 × ea_H)} {J127 : Int32 → Int32 → Int32 → ea_H → Option (Int32 × ea_H)} {J168 : Int32 → ea_H → Option (Int32 × ea_H)} {J4_ : Nat → (Int32 → Int32 → ea_H → Option (Int32 × ea_H))} {J127_ : Nat → (Int32 → Int32 → Int32 → ea_H → Option (Int32 × ea_H))} {J168_ : Nat → (Int32 → ea_H → Option (Int32 × ea_H))}  (mJ4 : ∀ (x2 : Int32) (x3 : Int32) (h : ea_H), fct (J4 x2 x3 h) (fun f => J4_ f x2 x3 h)) (mJ127 : ∀ (x2 : Int32) (x3 : Int32) (x4 : Int32) (h : ea_H), fct (J127 x2 x3 x4 h) (fun f => J127_ f x2 x3 x4 h)) (mJ168 : ∀ (x2 : Int32) (h : ea_H), fct (J168 x2 h) (fun f => J168_ f x2 h)) {x2 : Int32} {x3 : Int32} {h : ea_H} : fct (BX8_worth_4 J4 J127 J168 x2 x3 h) (fun f => BX8_worth_4 (J4_ f) (J127_ f) (J168_ f) x2 x3 h) :=
  (fct_ite (mJ168 _ _) (fct_bind (fct_rfl _) fun _ => (fct_ite (mJ168 _ _) (fct_bind (fct_rfl _) fun _ => (fct_ite (fct_ite (fct_ite (mJ127 _ _ _ _) (fct_gd (fct_gd (fct_let fun _ => (mJ4 _ _ _))))) (mJ127 _ _ _ _)) (fct_ite (fct_rfl _) (fct_ite (fct_ite (fct_gd (fct_gd (fct_let fun _ => (mJ4 _ _ _)))) (fct_gd (fct_let fun _ => (mJ4 _ _ _)))) (fct_rfl _))))))))
noncomputable def BX8_worth_127 (J4 : Int32 → Int32 → ea_H → Option (Int32 × ea_H)) (x2 : Int32) (x3 : Int32) (x4 : Int32) (h : ea_H) : Option (Int32 × ea_H) :=
  (if x2 ≤ (1 : Int32) then (J4 (x2 : Int32) ((x3 + (1 : Int32)) : Int32) h) else (gd (vp_in ((x2 + ((-1) : Int32)) - (1 : Int32)) 64) (gd (vp_in (x2 + ((-1) : Int32)) 64) (Option.bind (qX8_joined (x4 : Int32) ((ea_i h 30 (Int32.toNatClampNeg ((x2 + ((-1) : Int32)) - (1 : Int32)))) : Int32) ((ea_i h 30 (Int32.toNatClampNeg (x2 + ((-1) : Int32)))) : Int32) h) fun w21 => (gd (vp_in ((x2 + ((-1) : Int32)) - (1 : Int32)) 64) (ea_let (ea_wi w21.2 30 (Int32.toNatClampNeg ((x2 + ((-1) : Int32)) - (1 : Int32))) w21.1) fun H23 => (J4 ((x2 + ((-1) : Int32)) : Int32) ((x3 + (1 : Int32)) : Int32) H23)))))))
theorem tBX8_worth_127 {d : Nat} {h0 : ea_H} (hd : 2 ≤ d) {J4 : Int32 → Int32 → ea_H → Option (Int32 × ea_H)}  (kJ4 : ∀ (x2 : Int32) (x3 : Int32) (h : ea_H) (r : Int32) (h' : ea_H), J4 x2 x3 h = some (r, h') → ShC h → ea_W mX8_worth d h0 (some (vI r)) h' 4 [(0, vR (some 23)), (2, vI x2), (3, vI x3)] [] h) {x2 : Int32} {x3 : Int32} {x4 : Int32} {h : ea_H} {r : Int32} {h' : ea_H} (E : BX8_worth_127 J4 x2 x3 x4 h = some (r, h')) (hs : ShC h) : ea_W mX8_worth d h0 (some (vI r)) h' 127 [(0, vR (some 23)), (2, vI x2), (3, vI x3), (4, vI x4)] [] h := by
  unfold BX8_worth_127 at E
  refine ea_iload_n (pc := 127) dX8_worth_127 rfl 1 rfl ?_
  refine ea_iconst (pc := 128) dX8_worth_128 (v := 1) rfl ?_
  refine ea_icmp_le (pc := 129) (tgt := 162) dX8_worth_129 rfl (fun c24 => ?_) (fun c24 => ?_)
  · have E := (if_pos c24).symm.trans E
    refine ea_iinc (pc := 162) (v := 1) (lv' := [(0, vR (some 23)), (2, vI x2), (3, vI (x3 + (1 : Int32)))]) dX8_worth_162 2 rfl rfl (Nat.le_of_ble_eq_true rfl) [1, 2, 0] rfl ?_
    refine ea_goto (pc := 165) (tgt := 4) dX8_worth_165 rfl ?_
    exact (kJ4 (x2 : Int32) ((x3 + (1 : Int32)) : Int32) h _ _ E hs)
  · have E := (if_neg c24).symm.trans E
    obtain ⟨z19, E⟩ := gd_some E
    refine ea_iinc (pc := 132) (v := (-1)) (lv' := [(0, vR (some 23)), (2, vI (x2 + ((-1) : Int32))), (3, vI x3), (4, vI x4)]) dX8_worth_132 1 rfl rfl (Nat.le_of_ble_eq_true rfl) [1, 0, 2, 3] rfl ?_
    refine ea_aload_n (pc := 135) dX8_worth_135 rfl 0 rfl ?_
    refine ea_getR (pc := 136) dX8_worth_136 ec_8 (k := 4) (Nat.le_of_ble_eq_true rfl) rfl (Or.inl ew_402) (cShC_23 hs).1 (cShC_23 hs).2.1 (rShC_23_4 hs) ?_
    refine ea_iload_n (pc := 139) dX8_worth_139 rfl 1 rfl ?_
    refine ea_iconst (pc := 140) dX8_worth_140 (v := 1) rfl ?_
    refine ea_isub (pc := 141) dX8_worth_141 ?_
    refine ea_iload (pc := 142) dX8_worth_142 3 rfl ?_
    refine ea_aload_n (pc := 144) dX8_worth_144 rfl 0 rfl ?_
    refine ea_getR (pc := 145) dX8_worth_145 ec_8 (k := 4) (Nat.le_of_ble_eq_true rfl) rfl (Or.inl ew_402) (cShC_23 hs).1 (cShC_23 hs).2.1 (rShC_23_4 hs) ?_
    refine ea_iload_n (pc := 148) dX8_worth_148 rfl 1 rfl ?_
    refine ea_iconst (pc := 149) dX8_worth_149 (v := 1) rfl ?_
    refine ea_isub (pc := 150) dX8_worth_150 ?_
    obtain ⟨z20, E⟩ := gd_some E
    refine ea_iald (pc := 151) dX8_worth_151 (cShC_30 hs).1 (cShC_30 hs).2.1 (ea_vpl (cShC_30 hs).2.2 z19) ?_
    refine ea_aload_n (pc := 152) dX8_worth_152 rfl 0 rfl ?_
    refine ea_getR (pc := 153) dX8_worth_153 ec_8 (k := 4) (Nat.le_of_ble_eq_true rfl) rfl (Or.inl ew_402) (cShC_23 hs).1 (cShC_23 hs).2.1 (rShC_23_4 hs) ?_
    refine ea_iload_n (pc := 156) dX8_worth_156 rfl 1 rfl ?_
    obtain ⟨w21, Ew21, E⟩ := bd_some E
    have hsw21 : ShC w21.2 := ShC_core ((kpX8_joined _ _ _ _) _ Ew21) hs
    refine ea_iald (pc := 157) dX8_worth_157 (cShC_30 hs).1 (cShC_30 hs).2.1 (ea_vpl (cShC_30 hs).2.2 z20) ?_
    refine ea_callS (pc := 158) (d' := d - 1) (As := [vI x4, vI (ea_i h 30 (Int32.toNatClampNeg ((x2 + ((-1) : Int32)) - (1 : Int32)))), vI (ea_i h 30 (Int32.toNatClampNeg (x2 + ((-1) : Int32))))]) (st := [vI ((x2 + ((-1) : Int32)) - (1 : Int32)), vR (some 30)]) dX8_worth_158 kX8_joined (sX8_joined (d := d - 1) (by omega) Ew21) (by omega) rfl (Nat.le_of_ble_eq_true rfl) ew_1116 ew_1117 ?_
    obtain ⟨z22, E⟩ := gd_some E
    obtain ⟨H23, eH23, E⟩ := let_some E
    refine ea_iast (pc := 161) dX8_worth_161 (cShC_30 hsw21).1 (cShC_30 hsw21).2.1 (ea_vpl (cShC_30 hsw21).2.2 z22) ?_
    refine ea_nm eH23 ?_
    have hsH23 : ShC H23 := by rw [eH23]; exact hsw21
    refine ea_iinc (pc := 162) (v := 1) (lv' := [(0, vR (some 23)), (2, vI (x2 + ((-1) : Int32))), (3, vI (x3 + (1 : Int32)))]) dX8_worth_162 2 rfl rfl (Nat.le_of_ble_eq_true rfl) [1, 2, 0] rfl ?_
    refine ea_goto (pc := 165) (tgt := 4) dX8_worth_165 rfl ?_
    exact (kJ4 ((x2 + ((-1) : Int32)) : Int32) ((x3 + (1 : Int32)) : Int32) H23 _ _ E hsH23)
theorem kBX8_worth_127 {J4 : Int32 → Int32 → ea_H → Option (Int32 × ea_H)}  (cJ4 : ∀ (x2 : Int32) (x3 : Int32) (h : ea_H), kp (ea_core h) (J4 x2 x3 h)) {x2 : Int32} {x3 : Int32} {x4 : Int32} {h : ea_H} : kp (ea_core h) (BX8_worth_127 J4 x2 x3 x4 h) :=
  (kp_ite (kp_tw (cJ4 _ _ _) rfl) (kp_gd (kp_gd (kp_bind (kp_tw (kpX8_joined _ _ _ _) rfl) fun w21 hcw21 => (kp_gd (kp_let (kp_tw (cJ4 _ _ _) hcw21)))))))
theorem lBX8_worth_127 {J4 : Int32 → Int32 → ea_H → Option (Int32 × ea_H)} {J4_ : Int32 → Int32 → ea_H → Option (Int32 × ea_H)}  (mJ4 : ∀ (x2 : Int32) (x3 : Int32) (h : ea_H), fle (J4 x2 x3 h) (J4_ x2 x3 h)) {x2 : Int32} {x3 : Int32} {x4 : Int32} {h : ea_H} : fle (BX8_worth_127 J4 x2 x3 x4 h) (BX8_worth_127 J4_ x2 x3 x4 h) :=
  (fle_ite (mJ4 _ _ _) (fle_gd (fle_gd (fle_bind (fle_rfl _) fun _ => (fle_gd (fle_let fun _ => (mJ4 _ _ _)))))))
theorem nBX8_worth_127 {J4 : Int32 → Int32 → ea_H → Option (Int32 × ea_H)} {J4_ : Nat → (Int32 → Int32 → ea_H → Option (Int32 × ea_H))}  (mJ4 : ∀ (x2 : Int32) (x3 : Int32) (h : ea_H), fct (J4 x2 x3 h) (fun f => J4_ f x2 x3 h)) {x2 : Int32} {x3 : Int32} {x4 : Int32} {h : ea_H} : fct (BX8_worth_127 J4 x2 x3 x4 h) (fun f => BX8_worth_127 (J4_ f) x2 x3 x4 h) :=
  (fct_ite (mJ4 _ _ _) (fct_gd (fct_gd (fct_bind (fct_rfl _) fun _ => (fct_gd (fct_let fun _ => (mJ4 _ _ _)))))))
noncomputable def BX8_worth_168 (x2 : Int32) (h : ea_H) : Option (Int32 × ea_H) :=
  (if x2 ≤ (0 : Int32) then (some ((0 : Int32), h)) else (gd (vp_in (x2 - (1 : Int32)) 64) (some ((ea_i h 30 (Int32.toNatClampNeg (x2 - (1 : Int32)))), h))))
theorem tBX8_worth_168 {d : Nat} {h0 : ea_H} (hd : 2 ≤ d)  {x2 : Int32} {h : ea_H} {r : Int32} {h' : ea_H} (E : BX8_worth_168 x2 h = some (r, h')) (hs : ShC h) : ea_W mX8_worth d h0 (some (vI r)) h' 168 [(0, vR (some 23)), (2, vI x2)] [] h := by
  unfold BX8_worth_168 at E
  refine ea_iload_n (pc := 168) dX8_worth_168 rfl 1 rfl ?_
  refine ea_if_le (pc := 169) (tgt := 183) dX8_worth_169 rfl (fun c26 => ?_) (fun c26 => ?_)
  · have E := (if_pos c26).symm.trans E
    refine ea_iconst (pc := 183) dX8_worth_183 (v := 0) rfl ?_
    exact ea_iretO (pc := 184) dX8_worth_184 rfl rfl E
  · have E := (if_neg c26).symm.trans E
    obtain ⟨z25, E⟩ := gd_some E
    refine ea_aload_n (pc := 172) dX8_worth_172 rfl 0 rfl ?_
    refine ea_getR (pc := 173) dX8_worth_173 ec_8 (k := 4) (Nat.le_of_ble_eq_true rfl) rfl (Or.inl ew_402) (cShC_23 hs).1 (cShC_23 hs).2.1 (rShC_23_4 hs) ?_
    refine ea_iload_n (pc := 176) dX8_worth_176 rfl 1 rfl ?_
    refine ea_iconst (pc := 177) dX8_worth_177 (v := 1) rfl ?_
    refine ea_isub (pc := 178) dX8_worth_178 ?_
    refine ea_iald (pc := 179) dX8_worth_179 (cShC_30 hs).1 (cShC_30 hs).2.1 (ea_vpl (cShC_30 hs).2.2 z25) ?_
    refine ea_goto (pc := 180) (tgt := 184) dX8_worth_180 rfl ?_
    exact ea_iretO (pc := 184) dX8_worth_184 rfl rfl E
theorem kBX8_worth_168  {x2 : Int32} {h : ea_H} : kp (ea_core h) (BX8_worth_168 x2 h) :=
  (kp_ite (kp_ret rfl) (kp_gd (kp_ret rfl)))
theorem lBX8_worth_168  {x2 : Int32} {h : ea_H} : fle (BX8_worth_168 x2 h) (BX8_worth_168 x2 h) :=
  (fle_rfl _)
theorem nBX8_worth_168  {x2 : Int32} {h : ea_H} : fct (BX8_worth_168 x2 h) (fun f => BX8_worth_168 x2 h) :=
  (fct_rfl _)
noncomputable def gX8_worth : Nat → (Int32 → ea_H → Option (Int32 × ea_H)) × (Int32 → Int32 → ea_H → Option (Int32 × ea_H)) × (Int32 → Int32 → Int32 → ea_H → Option (Int32 × ea_H)) × (Int32 → ea_H → Option (Int32 × ea_H))
  | 0 => (fun _ _ => none, fun _ _ _ => none, fun _ _ _ _ => none, fun _ _ => none)
  | f + 1 => (BX8_worth_0 (gX8_worth f).2.1, BX8_worth_4 (gX8_worth f).2.1 (gX8_worth f).2.2.1 (gX8_worth f).2.2.2, BX8_worth_127 (gX8_worth f).2.1, BX8_worth_168)
theorem mgX8_worth : ∀ f : Nat, (∀ (x1 : Int32) (h : ea_H), fle ((gX8_worth f).1 x1 h) ((gX8_worth (f + 1)).1 x1 h)) ∧ (∀ (x2 : Int32) (x3 : Int32) (h : ea_H), fle ((gX8_worth f).2.1 x2 x3 h) ((gX8_worth (f + 1)).2.1 x2 x3 h)) ∧ (∀ (x2 : Int32) (x3 : Int32) (x4 : Int32) (h : ea_H), fle ((gX8_worth f).2.2.1 x2 x3 x4 h) ((gX8_worth (f + 1)).2.2.1 x2 x3 x4 h)) ∧ (∀ (x2 : Int32) (h : ea_H), fle ((gX8_worth f).2.2.2 x2 h) ((gX8_worth (f + 1)).2.2.2 x2 h)) := by
  intro f
  induction f with
  | zero => exact ⟨fun _ _ => fle_none _, fun _ _ _ => fle_none _, fun _ _ _ _ => fle_none _, fun _ _ => fle_none _⟩
  | succ f ih => exact ⟨fun _ _ => lBX8_worth_0 ih.2.1, fun _ _ _ => lBX8_worth_4 ih.2.1 ih.2.2.1 ih.2.2.2, fun _ _ _ _ => lBX8_worth_127 ih.2.1, fun _ _ => lBX8_worth_168⟩
noncomputable def qX8_worth_0 (x1 : Int32) (h : ea_H) : Option (Int32 × ea_H) := flim fun f => (gX8_worth f).1 x1 h
noncomputable def qX8_worth_4 (x2 : Int32) (x3 : Int32) (h : ea_H) : Option (Int32 × ea_H) := flim fun f => (gX8_worth f).2.1 x2 x3 h
noncomputable def qX8_worth_127 (x2 : Int32) (x3 : Int32) (x4 : Int32) (h : ea_H) : Option (Int32 × ea_H) := flim fun f => (gX8_worth f).2.2.1 x2 x3 x4 h
noncomputable def qX8_worth_168 (x2 : Int32) (h : ea_H) : Option (Int32 × ea_H) := flim fun f => (gX8_worth f).2.2.2 x2 h
theorem fqX8_worth_0 (x1 : Int32) (h : ea_H) : fct (qX8_worth_0 x1 h) fun f => (gX8_worth f).1 x1 h := flim_ct fun f => (mgX8_worth f).1 x1 h
theorem fqX8_worth_4 (x2 : Int32) (x3 : Int32) (h : ea_H) : fct (qX8_worth_4 x2 x3 h) fun f => (gX8_worth f).2.1 x2 x3 h := flim_ct fun f => (mgX8_worth f).2.1 x2 x3 h
theorem fqX8_worth_127 (x2 : Int32) (x3 : Int32) (x4 : Int32) (h : ea_H) : fct (qX8_worth_127 x2 x3 x4 h) fun f => (gX8_worth f).2.2.1 x2 x3 x4 h := flim_ct fun f => (mgX8_worth f).2.2.1 x2 x3 x4 h
theorem fqX8_worth_168 (x2 : Int32) (h : ea_H) : fct (qX8_worth_168 x2 h) fun f => (gX8_worth f).2.2.2 x2 h := flim_ct fun f => (mgX8_worth f).2.2.2 x2 h
/-- how a block opens -/
theorem uqX8_worth_0 {x1 : Int32} {h : ea_H} {P : Int32 × ea_H → Prop} (H : sat (BX8_worth_0 qX8_worth_4 x1 h) P) : sat (qX8_worth_0 x1 h) P := by
  obtain ⟨x, e, hp⟩ := H
  obtain ⟨n, hn⟩ := nBX8_worth_0 fqX8_worth_4 x e
  exact ⟨x, flim_at (fun f => (mgX8_worth f).1 x1 h) (f := n + 1) (hn n (Nat.le_refl _)), hp⟩
/-- how a block opens -/
theorem uqX8_worth_4 {x2 : Int32} {x3 : Int32} {h : ea_H} {P : Int32 × ea_H → Prop} (H : sat (BX8_worth_4 qX8_worth_4 qX8_worth_127 qX8_worth_168 x2 x3 h) P) : sat (qX8_worth_4 x2 x3 h) P := by
  obtain ⟨x, e, hp⟩ := H
  obtain ⟨n, hn⟩ := nBX8_worth_4 fqX8_worth_4 fqX8_worth_127 fqX8_worth_168 x e
  exact ⟨x, flim_at (fun f => (mgX8_worth f).2.1 x2 x3 h) (f := n + 1) (hn n (Nat.le_refl _)), hp⟩
/-- how a block opens -/
theorem uqX8_worth_127 {x2 : Int32} {x3 : Int32} {x4 : Int32} {h : ea_H} {P : Int32 × ea_H → Prop} (H : sat (BX8_worth_127 qX8_worth_4 x2 x3 x4 h) P) : sat (qX8_worth_127 x2 x3 x4 h) P := by
  obtain ⟨x, e, hp⟩ := H
  obtain ⟨n, hn⟩ := nBX8_worth_127 fqX8_worth_4 x e
  exact ⟨x, flim_at (fun f => (mgX8_worth f).2.2.1 x2 x3 x4 h) (f := n + 1) (hn n (Nat.le_refl _)), hp⟩
/-- how a block opens -/
theorem uqX8_worth_168 {x2 : Int32} {h : ea_H} {P : Int32 × ea_H → Prop} (H : sat (BX8_worth_168 x2 h) P) : sat (qX8_worth_168 x2 h) P := by
  obtain ⟨x, e, hp⟩ := H
  obtain ⟨n, hn⟩ := nBX8_worth_168 x e
  exact ⟨x, flim_at (fun f => (mgX8_worth f).2.2.2 x2 h) (f := n + 1) (hn n (Nat.le_refl _)), hp⟩
theorem kgX8_worth : ∀ f : Nat, (∀ (x1 : Int32) (h : ea_H), kp (ea_core h) ((gX8_worth f).1 x1 h)) ∧ (∀ (x2 : Int32) (x3 : Int32) (h : ea_H), kp (ea_core h) ((gX8_worth f).2.1 x2 x3 h)) ∧ (∀ (x2 : Int32) (x3 : Int32) (x4 : Int32) (h : ea_H), kp (ea_core h) ((gX8_worth f).2.2.1 x2 x3 x4 h)) ∧ (∀ (x2 : Int32) (h : ea_H), kp (ea_core h) ((gX8_worth f).2.2.2 x2 h)) := by
  intro f
  induction f with
  | zero => exact ⟨fun _ _ => kp_none _, fun _ _ _ => kp_none _, fun _ _ _ _ => kp_none _, fun _ _ => kp_none _⟩
  | succ f ih => exact ⟨fun _ _ => kBX8_worth_0 ih.2.1, fun _ _ _ => kBX8_worth_4 ih.2.1 ih.2.2.1 ih.2.2.2, fun _ _ _ _ => kBX8_worth_127 ih.2.1, fun _ _ => kBX8_worth_168⟩
theorem tgX8_worth {d : Nat} {h0 : ea_H} (hd : 2 ≤ d) : ∀ f : Nat, (∀ (x1 : Int32) (h : ea_H) (r : Int32) (h' : ea_H), (gX8_worth f).1 x1 h = some (r, h') → ShC h → ea_W mX8_worth d h0 (some (vI r)) h' 0 [(0, vR (some 23)), (1, vI x1)] [] h) ∧ (∀ (x2 : Int32) (x3 : Int32) (h : ea_H) (r : Int32) (h' : ea_H), (gX8_worth f).2.1 x2 x3 h = some (r, h') → ShC h → ea_W mX8_worth d h0 (some (vI r)) h' 4 [(0, vR (some 23)), (2, vI x2), (3, vI x3)] [] h) ∧ (∀ (x2 : Int32) (x3 : Int32) (x4 : Int32) (h : ea_H) (r : Int32) (h' : ea_H), (gX8_worth f).2.2.1 x2 x3 x4 h = some (r, h') → ShC h → ea_W mX8_worth d h0 (some (vI r)) h' 127 [(0, vR (some 23)), (2, vI x2), (3, vI x3), (4, vI x4)] [] h) ∧ (∀ (x2 : Int32) (h : ea_H) (r : Int32) (h' : ea_H), (gX8_worth f).2.2.2 x2 h = some (r, h') → ShC h → ea_W mX8_worth d h0 (some (vI r)) h' 168 [(0, vR (some 23)), (2, vI x2)] [] h) := by
  intro f
  induction f with
  | zero => exact ⟨fun _ _ _ _ E => no_some E, fun _ _ _ _ _ E => no_some E, fun _ _ _ _ _ _ E => no_some E, fun _ _ _ _ E => no_some E⟩
  | succ f ih => exact ⟨fun _ _ _ _ E hs => tBX8_worth_0 hd ih.2.1 E hs, fun _ _ _ _ _ E hs => tBX8_worth_4 hd ih.2.1 ih.2.2.1 ih.2.2.2 E hs, fun _ _ _ _ _ _ E hs => tBX8_worth_127 hd ih.2.1 E hs, fun _ _ _ _ E hs => tBX8_worth_168 hd E hs⟩
noncomputable def qX8_worth (x1 : Int32) (h : ea_H) : Option (Int32 × ea_H) := qX8_worth_0 x1 h
theorem sX8_worth {d : Nat} {x1 : Int32} {h : ea_H} {r : Int32} {h' : ea_H} (hd : 2 ≤ d) (hs : ShC h) (K : qX8_worth x1 h = some (r, h')) : ea_Met mX8_worth d [vR (some 23), vI x1] h (some (vI r)) h' := by
  unfold qX8_worth at K
  obtain ⟨n, hn⟩ := fqX8_worth_0 x1 h _ K
  have W := (tgX8_worth (d := d) (h0 := h) hd n).1 x1 h _ _ (hn n (Nat.le_refl _)) hs
  exact ea_enter rfl (Nat.le_of_ble_eq_true rfl) W
theorem kpX8_worth (x1 : Int32) (h : ea_H) : kp (ea_core h) (qX8_worth x1 h) := fun x e => by
  obtain ⟨n, hn⟩ := fqX8_worth_0 x1 h x e
  exact (kgX8_worth n).1 x1 h x (hn n (Nat.le_refl _))
noncomputable def BX10_firstBehind_0 (J2 : Int32 → Int32 → ea_H → Option (Int32 × ea_H)) (x1 : Int32) (h : ea_H) : Option (Int32 × ea_H) :=
  (J2 (x1 : Int32) (0 : Int32) h)
theorem tBX10_firstBehind_0 {d : Nat} {h0 : ea_H} (hd : 2 ≤ d) {J2 : Int32 → Int32 → ea_H → Option (Int32 × ea_H)}  (kJ2 : ∀ (x1 : Int32) (x2 : Int32) (h : ea_H) (r : Int32) (h' : ea_H), J2 x1 x2 h = some (r, h') → ShC h → ea_W mX10_firstBehind d h0 (some (vI r)) h' 2 [(0, vR (some 13)), (1, vI x1), (2, vI x2)] [] h) {x1 : Int32} {h : ea_H} {r : Int32} {h' : ea_H} (E : BX10_firstBehind_0 J2 x1 h = some (r, h')) (hs : ShC h) : ea_W mX10_firstBehind d h0 (some (vI r)) h' 0 [(0, vR (some 13)), (1, vI x1)] [] h := by
  unfold BX10_firstBehind_0 at E
  refine ea_iconst (pc := 0) dX10_firstBehind_0 (v := 0) rfl ?_
  refine ea_istore_n (pc := 1) (lv' := [(0, vR (some 13)), (1, vI x1), (2, vI 0)]) dX10_firstBehind_1 rfl (Nat.le_of_ble_eq_true rfl) [1, 2, 0] rfl ?_
  exact (kJ2 (x1 : Int32) (0 : Int32) h _ _ E hs)
theorem kBX10_firstBehind_0 {J2 : Int32 → Int32 → ea_H → Option (Int32 × ea_H)}  (cJ2 : ∀ (x1 : Int32) (x2 : Int32) (h : ea_H), kp (ea_core h) (J2 x1 x2 h)) {x1 : Int32} {h : ea_H} : kp (ea_core h) (BX10_firstBehind_0 J2 x1 h) :=
  (kp_tw (cJ2 _ _ _) rfl)
theorem lBX10_firstBehind_0 {J2 : Int32 → Int32 → ea_H → Option (Int32 × ea_H)} {J2_ : Int32 → Int32 → ea_H → Option (Int32 × ea_H)}  (mJ2 : ∀ (x1 : Int32) (x2 : Int32) (h : ea_H), fle (J2 x1 x2 h) (J2_ x1 x2 h)) {x1 : Int32} {h : ea_H} : fle (BX10_firstBehind_0 J2 x1 h) (BX10_firstBehind_0 J2_ x1 h) :=
  (mJ2 _ _ _)
theorem nBX10_firstBehind_0 {J2 : Int32 → Int32 → ea_H → Option (Int32 × ea_H)} {J2_ : Nat → (Int32 → Int32 → ea_H → Option (Int32 × ea_H))}  (mJ2 : ∀ (x1 : Int32) (x2 : Int32) (h : ea_H), fct (J2 x1 x2 h) (fun f => J2_ f x1 x2 h)) {x1 : Int32} {h : ea_H} : fct (BX10_firstBehind_0 J2 x1 h) (fun f => BX10_firstBehind_0 (J2_ f) x1 h) :=
  (mJ2 _ _ _)
noncomputable def BX10_firstBehind_2 (J2 : Int32 → Int32 → ea_H → Option (Int32 × ea_H)) (x1 : Int32) (x2 : Int32) (h : ea_H) : Option (Int32 × ea_H) :=
  (if (ea_i h 13 1) ≤ x2 then (some ((ea_i h 13 1), h)) else (Option.bind (qX10_keyAt (x2 : Int32) h) fun w1 => (Option.bind (qX10_minuteIn (w1.1 : Int32) w1.2) fun w2 => (if w2.1 ≤ x1 then (J2 (x1 : Int32) ((x2 + (1 : Int32)) : Int32) w2.2) else (some (x2, w2.2))))))
theorem tBX10_firstBehind_2 {d : Nat} {h0 : ea_H} (hd : 2 ≤ d) {J2 : Int32 → Int32 → ea_H → Option (Int32 × ea_H)}  (kJ2 : ∀ (x1 : Int32) (x2 : Int32) (h : ea_H) (r : Int32) (h' : ea_H), J2 x1 x2 h = some (r, h') → ShC h → ea_W mX10_firstBehind d h0 (some (vI r)) h' 2 [(0, vR (some 13)), (1, vI x1), (2, vI x2)] [] h) {x1 : Int32} {x2 : Int32} {h : ea_H} {r : Int32} {h' : ea_H} (E : BX10_firstBehind_2 J2 x1 x2 h = some (r, h')) (hs : ShC h) : ea_W mX10_firstBehind d h0 (some (vI r)) h' 2 [(0, vR (some 13)), (1, vI x1), (2, vI x2)] [] h := by
  unfold BX10_firstBehind_2 at E
  refine ea_iload_n (pc := 2) dX10_firstBehind_2 rfl 2 rfl ?_
  refine ea_aload_n (pc := 3) dX10_firstBehind_3 rfl 0 rfl ?_
  refine ea_getI (pc := 4) dX10_firstBehind_4 ec_10 (k := 1) (Nat.le_of_ble_eq_true rfl) rfl (Or.inl ew_235) (cShC_13 hs).1 (cShC_13 hs).2.1 ?_
  refine ea_icmp_ge (pc := 7) (tgt := 30) dX10_firstBehind_7 rfl (fun c4 => ?_) (fun c4 => ?_)
  · have E := (if_pos c4).symm.trans E
    refine ea_aload_n (pc := 30) dX10_firstBehind_30 rfl 0 rfl ?_
    refine ea_getI (pc := 31) dX10_firstBehind_31 ec_10 (k := 1) (Nat.le_of_ble_eq_true rfl) rfl (Or.inl ew_235) (cShC_13 hs).1 (cShC_13 hs).2.1 ?_
    exact ea_iretO (pc := 34) dX10_firstBehind_34 rfl rfl E
  · have E := (if_neg c4).symm.trans E
    obtain ⟨w1, Ew1, E⟩ := bd_some E
    have hsw1 : ShC w1.2 := ShC_core ((kpX10_keyAt _ _) _ Ew1) hs
    refine ea_aload_n (pc := 10) dX10_firstBehind_10 rfl 0 rfl ?_
    refine ea_iload_n (pc := 11) dX10_firstBehind_11 rfl 2 rfl ?_
    refine ea_callV (pc := 12) (d' := d - 1) (As := [vI x2]) (st := []) dX10_firstBehind_12 kX10_keyAt (sX10_keyAt (d := d - 1) (by omega) hs Ew1) (by omega) rfl (Nat.le_of_ble_eq_true rfl) ew_841 ew_842 ew_843 (ci := 10) rfl (by decide) (cShC_13 hs).1 (cShC_13 hs).2.1 ?_
    obtain ⟨w2, Ew2, E⟩ := bd_some E
    have hsw2 : ShC w2.2 := ShC_core ((kpX10_minuteIn _ _) _ Ew2) hsw1
    refine ea_callS (pc := 15) (d' := d - 1) (As := [vI w1.1]) (st := []) dX10_firstBehind_15 kX10_minuteIn (sX10_minuteIn (d := d - 1) (by omega) Ew2) (by omega) rfl (Nat.le_of_ble_eq_true rfl) ew_811 ew_812 ?_
    refine ea_iload_n (pc := 18) dX10_firstBehind_18 rfl 1 rfl ?_
    refine ea_icmp_le (pc := 19) (tgt := 24) dX10_firstBehind_19 rfl (fun c3 => ?_) (fun c3 => ?_)
    · have E := (if_pos c3).symm.trans E
      refine ea_iinc (pc := 24) (v := 1) (lv' := [(0, vR (some 13)), (1, vI x1), (2, vI (x2 + (1 : Int32)))]) dX10_firstBehind_24 2 rfl rfl (Nat.le_of_ble_eq_true rfl) [1, 2, 0] rfl ?_
      refine ea_goto (pc := 27) (tgt := 2) dX10_firstBehind_27 rfl ?_
      exact (kJ2 (x1 : Int32) ((x2 + (1 : Int32)) : Int32) w2.2 _ _ E hsw2)
    · have E := (if_neg c3).symm.trans E
      refine ea_iload_n (pc := 22) dX10_firstBehind_22 rfl 2 rfl ?_
      exact ea_iretO (pc := 23) dX10_firstBehind_23 rfl rfl E
theorem kBX10_firstBehind_2 {J2 : Int32 → Int32 → ea_H → Option (Int32 × ea_H)}  (cJ2 : ∀ (x1 : Int32) (x2 : Int32) (h : ea_H), kp (ea_core h) (J2 x1 x2 h)) {x1 : Int32} {x2 : Int32} {h : ea_H} : kp (ea_core h) (BX10_firstBehind_2 J2 x1 x2 h) :=
  (kp_ite (kp_ret rfl) (kp_bind (kp_tw (kpX10_keyAt _ _) rfl) fun w1 hcw1 => (kp_bind (kp_tw (kpX10_minuteIn _ _) hcw1) fun w2 hcw2 => (kp_ite (kp_tw (cJ2 _ _ _) hcw2) (kp_ret hcw2)))))
theorem lBX10_firstBehind_2 {J2 : Int32 → Int32 → ea_H → Option (Int32 × ea_H)} {J2_ : Int32 → Int32 → ea_H → Option (Int32 × ea_H)}  (mJ2 : ∀ (x1 : Int32) (x2 : Int32) (h : ea_H), fle (J2 x1 x2 h) (J2_ x1 x2 h)) {x1 : Int32} {x2 : Int32} {h : ea_H} : fle (BX10_firstBehind_2 J2 x1 x2 h) (BX10_firstBehind_2 J2_ x1 x2 h) :=
  (fle_ite (fle_rfl _) (fle_bind (fle_rfl _) fun _ => (fle_bind (fle_rfl _) fun _ => (fle_ite (mJ2 _ _ _) (fle_rfl _)))))
theorem nBX10_firstBehind_2 {J2 : Int32 → Int32 → ea_H → Option (Int32 × ea_H)} {J2_ : Nat → (Int32 → Int32 → ea_H → Option (Int32 × ea_H))}  (mJ2 : ∀ (x1 : Int32) (x2 : Int32) (h : ea_H), fct (J2 x1 x2 h) (fun f => J2_ f x1 x2 h)) {x1 : Int32} {x2 : Int32} {h : ea_H} : fct (BX10_firstBehind_2 J2 x1 x2 h) (fun f => BX10_firstBehind_2 (J2_ f) x1 x2 h) :=
  (fct_ite (fct_rfl _) (fct_bind (fct_rfl _) fun _ => (fct_bind (fct_rfl _) fun _ => (fct_ite (mJ2 _ _ _) (fct_rfl _)))))
noncomputable def gX10_firstBehind : Nat → (Int32 → ea_H → Option (Int32 × ea_H)) × (Int32 → Int32 → ea_H → Option (Int32 × ea_H))
  | 0 => (fun _ _ => none, fun _ _ _ => none)
  | f + 1 => (BX10_firstBehind_0 (gX10_firstBehind f).2, BX10_firstBehind_2 (gX10_firstBehind f).2)
theorem mgX10_firstBehind : ∀ f : Nat, (∀ (x1 : Int32) (h : ea_H), fle ((gX10_firstBehind f).1 x1 h) ((gX10_firstBehind (f + 1)).1 x1 h)) ∧ (∀ (x1 : Int32) (x2 : Int32) (h : ea_H), fle ((gX10_firstBehind f).2 x1 x2 h) ((gX10_firstBehind (f + 1)).2 x1 x2 h)) := by
  intro f
  induction f with
  | zero => exact ⟨fun _ _ => fle_none _, fun _ _ _ => fle_none _⟩
  | succ f ih => exact ⟨fun _ _ => lBX10_firstBehind_0 ih.2, fun _ _ _ => lBX10_firstBehind_2 ih.2⟩
noncomputable def qX10_firstBehind_0 (x1 : Int32) (h : ea_H) : Option (Int32 × ea_H) := flim fun f => (gX10_firstBehind f).1 x1 h
noncomputable def qX10_firstBehind_2 (x1 : Int32) (x2 : Int32) (h : ea_H) : Option (Int32 × ea_H) := flim fun f => (gX10_firstBehind f).2 x1 x2 h
theorem fqX10_firstBehind_0 (x1 : Int32) (h : ea_H) : fct (qX10_firstBehind_0 x1 h) fun f => (gX10_firstBehind f).1 x1 h := flim_ct fun f => (mgX10_firstBehind f).1 x1 h
theorem fqX10_firstBehind_2 (x1 : Int32) (x2 : Int32) (h : ea_H) : fct (qX10_firstBehind_2 x1 x2 h) fun f => (gX10_firstBehind f).2 x1 x2 h := flim_ct fun f => (mgX10_firstBehind f).2 x1 x2 h
/-- how a block opens -/
theorem uqX10_firstBehind_0 {x1 : Int32} {h : ea_H} {P : Int32 × ea_H → Prop} (H : sat (BX10_firstBehind_0 qX10_firstBehind_2 x1 h) P) : sat (qX10_firstBehind_0 x1 h) P := by
  obtain ⟨x, e, hp⟩ := H
  obtain ⟨n, hn⟩ := nBX10_firstBehind_0 fqX10_firstBehind_2 x e
  exact ⟨x, flim_at (fun f => (mgX10_firstBehind f).1 x1 h) (f := n + 1) (hn n (Nat.le_refl _)), hp⟩
/-- how a block opens -/
theorem uqX10_firstBehind_2 {x1 : Int32} {x2 : Int32} {h : ea_H} {P : Int32 × ea_H → Prop} (H : sat (BX10_firstBehind_2 qX10_firstBehind_2 x1 x2 h) P) : sat (qX10_firstBehind_2 x1 x2 h) P := by
  obtain ⟨x, e, hp⟩ := H
  obtain ⟨n, hn⟩ := nBX10_firstBehind_2 fqX10_firstBehind_2 x e
  exact ⟨x, flim_at (fun f => (mgX10_firstBehind f).2 x1 x2 h) (f := n + 1) (hn n (Nat.le_refl _)), hp⟩
theorem kgX10_firstBehind : ∀ f : Nat, (∀ (x1 : Int32) (h : ea_H), kp (ea_core h) ((gX10_firstBehind f).1 x1 h)) ∧ (∀ (x1 : Int32) (x2 : Int32) (h : ea_H), kp (ea_core h) ((gX10_firstBehind f).2 x1 x2 h)) := by
  intro f
  induction f with
  | zero => exact ⟨fun _ _ => kp_none _, fun _ _ _ => kp_none _⟩
  | succ f ih => exact ⟨fun _ _ => kBX10_firstBehind_0 ih.2, fun _ _ _ => kBX10_firstBehind_2 ih.2⟩
theorem tgX10_firstBehind {d : Nat} {h0 : ea_H} (hd : 2 ≤ d) : ∀ f : Nat, (∀ (x1 : Int32) (h : ea_H) (r : Int32) (h' : ea_H), (gX10_firstBehind f).1 x1 h = some (r, h') → ShC h → ea_W mX10_firstBehind d h0 (some (vI r)) h' 0 [(0, vR (some 13)), (1, vI x1)] [] h) ∧ (∀ (x1 : Int32) (x2 : Int32) (h : ea_H) (r : Int32) (h' : ea_H), (gX10_firstBehind f).2 x1 x2 h = some (r, h') → ShC h → ea_W mX10_firstBehind d h0 (some (vI r)) h' 2 [(0, vR (some 13)), (1, vI x1), (2, vI x2)] [] h) := by
  intro f
  induction f with
  | zero => exact ⟨fun _ _ _ _ E => no_some E, fun _ _ _ _ _ E => no_some E⟩
  | succ f ih => exact ⟨fun _ _ _ _ E hs => tBX10_firstBehind_0 hd ih.2 E hs, fun _ _ _ _ _ E hs => tBX10_firstBehind_2 hd ih.2 E hs⟩
noncomputable def qX10_firstBehind (x1 : Int32) (h : ea_H) : Option (Int32 × ea_H) := qX10_firstBehind_0 x1 h
theorem sX10_firstBehind {d : Nat} {x1 : Int32} {h : ea_H} {r : Int32} {h' : ea_H} (hd : 2 ≤ d) (hs : ShC h) (K : qX10_firstBehind x1 h = some (r, h')) : ea_Met mX10_firstBehind d [vR (some 13), vI x1] h (some (vI r)) h' := by
  unfold qX10_firstBehind at K
  obtain ⟨n, hn⟩ := fqX10_firstBehind_0 x1 h _ K
  have W := (tgX10_firstBehind (d := d) (h0 := h) hd n).1 x1 h _ _ (hn n (Nat.le_refl _)) hs
  exact ea_enter rfl (Nat.le_of_ble_eq_true rfl) W
theorem kpX10_firstBehind (x1 : Int32) (h : ea_H) : kp (ea_core h) (qX10_firstBehind x1 h) := fun x e => by
  obtain ⟨n, hn⟩ := fqX10_firstBehind_0 x1 h x e
  exact (kgX10_firstBehind n).1 x1 h x (hn n (Nat.le_refl _))
noncomputable def BX10_collect_0 (J7 : Int32 → ea_H → Option (Unit × ea_H)) (h : ea_H) : Option (Unit × ea_H) :=
  (ea_let (ea_wi h 13 1 0) fun H1 => (J7 (0 : Int32) H1))
theorem tBX10_collect_0 {d : Nat} {h0 : ea_H} (hd : 2 ≤ d) {J7 : Int32 → ea_H → Option (Unit × ea_H)}  (kJ7 : ∀ (x1 : Int32) (h : ea_H) (r : Unit) (h' : ea_H), J7 x1 h = some (r, h') → ShC h → ea_W mX10_collect d h0 none h' 7 [(0, vR (some 13)), (1, vI x1)] [] h) {h : ea_H} {r : Unit} {h' : ea_H} (E : BX10_collect_0 J7 h = some (r, h')) (hs : ShC h) : ea_W mX10_collect d h0 none h' 0 [(0, vR (some 13))] [] h := by
  unfold BX10_collect_0 at E
  obtain ⟨H1, eH1, E⟩ := let_some E
  refine ea_aload_n (pc := 0) dX10_collect_0 rfl 0 rfl ?_
  refine ea_iconst (pc := 1) dX10_collect_1 (v := 0) rfl ?_
  refine ea_putI (pc := 2) dX10_collect_2 ec_10 (k := 1) (Nat.le_of_ble_eq_true rfl) rfl (Or.inl ⟨rfl, Or.inl ew_235⟩) rfl rfl (cShC_13 hs).1 (cShC_13 hs).2.1 ?_
  refine ea_nm eH1 ?_
  have hsH1 : ShC H1 := by rw [eH1]; exact hs
  refine ea_iconst (pc := 5) dX10_collect_5 (v := 0) rfl ?_
  refine ea_istore_n (pc := 6) (lv' := [(0, vR (some 13)), (1, vI 0)]) dX10_collect_6 rfl (Nat.le_of_ble_eq_true rfl) [1, 0] rfl ?_
  exact (kJ7 (0 : Int32) H1 _ _ E hsH1)
theorem kBX10_collect_0 {J7 : Int32 → ea_H → Option (Unit × ea_H)}  (cJ7 : ∀ (x1 : Int32) (h : ea_H), kp (ea_core h) (J7 x1 h)) {h : ea_H} : kp (ea_core h) (BX10_collect_0 J7 h) :=
  (kp_let (kp_tw (cJ7 _ _) rfl))
theorem lBX10_collect_0 {J7 : Int32 → ea_H → Option (Unit × ea_H)} {J7_ : Int32 → ea_H → Option (Unit × ea_H)}  (mJ7 : ∀ (x1 : Int32) (h : ea_H), fle (J7 x1 h) (J7_ x1 h)) {h : ea_H} : fle (BX10_collect_0 J7 h) (BX10_collect_0 J7_ h) :=
  (fle_let fun _ => (mJ7 _ _))
theorem nBX10_collect_0 {J7 : Int32 → ea_H → Option (Unit × ea_H)} {J7_ : Nat → (Int32 → ea_H → Option (Unit × ea_H))}  (mJ7 : ∀ (x1 : Int32) (h : ea_H), fct (J7 x1 h) (fun f => J7_ f x1 h)) {h : ea_H} : fct (BX10_collect_0 J7 h) (fun f => BX10_collect_0 (J7_ f) h) :=
  (fct_let fun _ => (mJ7 _ _))
noncomputable def BX10_collect_7 (J20 : Int32 → Int32 → ea_H → Option (Unit × ea_H)) (x1 : Int32) (h : ea_H) : Option (Unit × ea_H) :=
  (if (ea_i h 5 0) ≤ x1 then (some ((), h)) else (J20 (x1 : Int32) (0 : Int32) h))
theorem tBX10_collect_7 {d : Nat} {h0 : ea_H} (hd : 2 ≤ d) {J20 : Int32 → Int32 → ea_H → Option (Unit × ea_H)}  (kJ20 : ∀ (x1 : Int32) (x2 : Int32) (h : ea_H) (r : Unit) (h' : ea_H), J20 x1 x2 h = some (r, h') → ShC h → ea_W mX10_collect d h0 none h' 20 [(0, vR (some 13)), (1, vI x1), (2, vI x2)] [] h) {x1 : Int32} {h : ea_H} {r : Unit} {h' : ea_H} (E : BX10_collect_7 J20 x1 h = some (r, h')) (hs : ShC h) : ea_W mX10_collect d h0 none h' 7 [(0, vR (some 13)), (1, vI x1)] [] h := by
  unfold BX10_collect_7 at E
  refine ea_iload_n (pc := 7) dX10_collect_7 rfl 1 rfl ?_
  refine ea_aload_n (pc := 8) dX10_collect_8 rfl 0 rfl ?_
  refine ea_getR (pc := 9) dX10_collect_9 ec_10 (k := 2) (Nat.le_of_ble_eq_true rfl) rfl (Or.inl ew_237) (cShC_13 hs).1 (cShC_13 hs).2.1 (rShC_13_2 hs) ?_
  refine ea_getI (pc := 12) dX10_collect_12 ec_9 (k := 0) (Nat.le_of_ble_eq_true rfl) rfl (Or.inl ew_186) (cShC_5 hs).1 (cShC_5 hs).2.1 ?_
  refine ea_icmp_ge (pc := 15) (tgt := 126) dX10_collect_15 rfl (fun c2 => ?_) (fun c2 => ?_)
  · have E := (if_pos c2).symm.trans E
    exact ea_vretO (pc := 126) dX10_collect_126 rfl E
  · have E := (if_neg c2).symm.trans E
    refine ea_iconst (pc := 18) dX10_collect_18 (v := 0) rfl ?_
    refine ea_istore_n (pc := 19) (lv' := [(0, vR (some 13)), (1, vI x1), (2, vI 0)]) dX10_collect_19 rfl (Nat.le_of_ble_eq_true rfl) [1, 2, 0] rfl ?_
    exact (kJ20 (x1 : Int32) (0 : Int32) h _ _ E hs)
theorem kBX10_collect_7 {J20 : Int32 → Int32 → ea_H → Option (Unit × ea_H)}  (cJ20 : ∀ (x1 : Int32) (x2 : Int32) (h : ea_H), kp (ea_core h) (J20 x1 x2 h)) {x1 : Int32} {h : ea_H} : kp (ea_core h) (BX10_collect_7 J20 x1 h) :=
  (kp_ite (kp_ret rfl) (kp_tw (cJ20 _ _ _) rfl))
theorem lBX10_collect_7 {J20 : Int32 → Int32 → ea_H → Option (Unit × ea_H)} {J20_ : Int32 → Int32 → ea_H → Option (Unit × ea_H)}  (mJ20 : ∀ (x1 : Int32) (x2 : Int32) (h : ea_H), fle (J20 x1 x2 h) (J20_ x1 x2 h)) {x1 : Int32} {h : ea_H} : fle (BX10_collect_7 J20 x1 h) (BX10_collect_7 J20_ x1 h) :=
  (fle_ite (fle_rfl _) (mJ20 _ _ _))
theorem nBX10_collect_7 {J20 : Int32 → Int32 → ea_H → Option (Unit × ea_H)} {J20_ : Nat → (Int32 → Int32 → ea_H → Option (Unit × ea_H))}  (mJ20 : ∀ (x1 : Int32) (x2 : Int32) (h : ea_H), fct (J20 x1 x2 h) (fun f => J20_ f x1 x2 h)) {x1 : Int32} {h : ea_H} : fct (BX10_collect_7 J20 x1 h) (fun f => BX10_collect_7 (J20_ f) x1 h) :=
  (fct_ite (fct_rfl _) (mJ20 _ _ _))
noncomputable def BX10_collect_20 (J7 : Int32 → ea_H → Option (Unit × ea_H)) (J28 : Int32 → Int32 → Int32 → ea_H → Option (Unit × ea_H)) (x1 : Int32) (x2 : Int32) (h : ea_H) : Option (Unit × ea_H) :=
  (if (7 : Int32) ≤ x2 then (J7 ((x1 + (1 : Int32)) : Int32) h) else (J28 (x1 : Int32) (x2 : Int32) (0 : Int32) h))
theorem tBX10_collect_20 {d : Nat} {h0 : ea_H} (hd : 2 ≤ d) {J7 : Int32 → ea_H → Option (Unit × ea_H)} {J28 : Int32 → Int32 → Int32 → ea_H → Option (Unit × ea_H)}  (kJ7 : ∀ (x1 : Int32) (h : ea_H) (r : Unit) (h' : ea_H), J7 x1 h = some (r, h') → ShC h → ea_W mX10_collect d h0 none h' 7 [(0, vR (some 13)), (1, vI x1)] [] h) (kJ28 : ∀ (x1 : Int32) (x2 : Int32) (x3 : Int32) (h : ea_H) (r : Unit) (h' : ea_H), J28 x1 x2 x3 h = some (r, h') → ShC h → ea_W mX10_collect d h0 none h' 28 [(0, vR (some 13)), (1, vI x1), (2, vI x2), (3, vI x3)] [] h) {x1 : Int32} {x2 : Int32} {h : ea_H} {r : Unit} {h' : ea_H} (E : BX10_collect_20 J7 J28 x1 x2 h = some (r, h')) (hs : ShC h) : ea_W mX10_collect d h0 none h' 20 [(0, vR (some 13)), (1, vI x1), (2, vI x2)] [] h := by
  unfold BX10_collect_20 at E
  refine ea_iload_n (pc := 20) dX10_collect_20 rfl 2 rfl ?_
  refine ea_bipush (pc := 21) dX10_collect_21 (v := 7) rfl ?_
  refine ea_icmp_ge (pc := 23) (tgt := 120) dX10_collect_23 rfl (fun c3 => ?_) (fun c3 => ?_)
  · have E := (if_pos c3).symm.trans E
    refine ea_iinc (pc := 120) (v := 1) (lv' := [(0, vR (some 13)), (1, vI (x1 + (1 : Int32)))]) dX10_collect_120 1 rfl rfl (Nat.le_of_ble_eq_true rfl) [1, 0] rfl ?_
    refine ea_goto (pc := 123) (tgt := 7) dX10_collect_123 rfl ?_
    exact (kJ7 ((x1 + (1 : Int32)) : Int32) h _ _ E hs)
  · have E := (if_neg c3).symm.trans E
    refine ea_iconst (pc := 26) dX10_collect_26 (v := 0) rfl ?_
    refine ea_istore_n (pc := 27) (lv' := [(0, vR (some 13)), (1, vI x1), (2, vI x2), (3, vI 0)]) dX10_collect_27 rfl (Nat.le_of_ble_eq_true rfl) [1, 2, 3, 0] rfl ?_
    exact (kJ28 (x1 : Int32) (x2 : Int32) (0 : Int32) h _ _ E hs)
theorem kBX10_collect_20 {J7 : Int32 → ea_H → Option (Unit × ea_H)} {J28 : Int32 → Int32 → Int32 → ea_H → Option (Unit × ea_H)}  (cJ7 : ∀ (x1 : Int32) (h : ea_H), kp (ea_core h) (J7 x1 h)) (cJ28 : ∀ (x1 : Int32) (x2 : Int32) (x3 : Int32) (h : ea_H), kp (ea_core h) (J28 x1 x2 x3 h)) {x1 : Int32} {x2 : Int32} {h : ea_H} : kp (ea_core h) (BX10_collect_20 J7 J28 x1 x2 h) :=
  (kp_ite (kp_tw (cJ7 _ _) rfl) (kp_tw (cJ28 _ _ _ _) rfl))
theorem lBX10_collect_20 {J7 : Int32 → ea_H → Option (Unit × ea_H)} {J28 : Int32 → Int32 → Int32 → ea_H → Option (Unit × ea_H)} {J7_ : Int32 → ea_H → Option (Unit × ea_H)} {J28_ : Int32 → Int32 → Int32 → ea_H → Option (Unit × ea_H)}  (mJ7 : ∀ (x1 : Int32) (h : ea_H), fle (J7 x1 h) (J7_ x1 h)) (mJ28 : ∀ (x1 : Int32) (x2 : Int32) (x3 : Int32) (h : ea_H), fle (J28 x1 x2 x3 h) (J28_ x1 x2 x3 h)) {x1 : Int32} {x2 : Int32} {h : ea_H} : fle (BX10_collect_20 J7 J28 x1 x2 h) (BX10_collect_20 J7_ J28_ x1 x2 h) :=
  (fle_ite (mJ7 _ _) (mJ28 _ _ _ _))
theorem nBX10_collect_20 {J7 : Int32 → ea_H → Option (Unit × ea_H)} {J28 : Int32 → Int32 → Int32 → ea_H → Option (Unit × ea_H)} {J7_ : Nat → (Int32 → ea_H → Option (Unit × ea_H))} {J28_ : Nat → (Int32 → Int32 → Int32 → ea_H → Option (Unit × ea_H))}  (mJ7 : ∀ (x1 : Int32) (h : ea_H), fct (J7 x1 h) (fun f => J7_ f x1 h)) (mJ28 : ∀ (x1 : Int32) (x2 : Int32) (x3 : Int32) (h : ea_H), fct (J28 x1 x2 x3 h) (fun f => J28_ f x1 x2 x3 h)) {x1 : Int32} {x2 : Int32} {h : ea_H} : fct (BX10_collect_20 J7 J28 x1 x2 h) (fun f => BX10_collect_20 (J7_ f) (J28_ f) x1 x2 h) :=
  (fct_ite (mJ7 _ _) (mJ28 _ _ _ _))
noncomputable def BX10_collect_28 (J20 : Int32 → Int32 → ea_H → Option (Unit × ea_H)) (J73 : Int32 → Int32 → Int32 → Int32 → ea_H → Option (Unit × ea_H)) (x1 : Int32) (x2 : Int32) (x3 : Int32) (h : ea_H) : Option (Unit × ea_H) :=
  (gd (vp_in x1 10) (if (ea_i h 6 (Int32.toNatClampNeg x1)) ≤ x3 then (J20 (x1 : Int32) ((x2 + (1 : Int32)) : Int32) h) else (ea_let (((x1 <<< ((6 : Int32) &&& 31)) ||| (x2 <<< ((3 : Int32) &&& 31))) ||| x3) fun (v5 : Int32) => (if x3 ≤ (0 : Int32) then (J73 (x1 : Int32) (x2 : Int32) (x3 : Int32) (v5 : Int32) h) else (Option.bind (qX9_comesAt (x1 : Int32) (x2 : Int32) (x3 : Int32) h) fun w6 => (Option.bind (qX10_addKey (w6.1 : Int32) (v5 : Int32) w6.2) fun w7 => (J73 (x1 : Int32) (x2 : Int32) (x3 : Int32) (v5 : Int32) w7.2)))))))
theorem tBX10_collect_28 {d : Nat} {h0 : ea_H} (hd : 2 ≤ d) {J20 : Int32 → Int32 → ea_H → Option (Unit × ea_H)} {J73 : Int32 → Int32 → Int32 → Int32 → ea_H → Option (Unit × ea_H)}  (kJ20 : ∀ (x1 : Int32) (x2 : Int32) (h : ea_H) (r : Unit) (h' : ea_H), J20 x1 x2 h = some (r, h') → ShC h → ea_W mX10_collect d h0 none h' 20 [(0, vR (some 13)), (1, vI x1), (2, vI x2)] [] h) (kJ73 : ∀ (x1 : Int32) (x2 : Int32) (x3 : Int32) (x4 : Int32) (h : ea_H) (r : Unit) (h' : ea_H), J73 x1 x2 x3 x4 h = some (r, h') → ShC h → ea_W mX10_collect d h0 none h' 73 [(0, vR (some 13)), (1, vI x1), (2, vI x2), (3, vI x3), (4, vI x4)] [] h) {x1 : Int32} {x2 : Int32} {x3 : Int32} {h : ea_H} {r : Unit} {h' : ea_H} (E : BX10_collect_28 J20 J73 x1 x2 x3 h = some (r, h')) (hs : ShC h) : ea_W mX10_collect d h0 none h' 28 [(0, vR (some 13)), (1, vI x1), (2, vI x2), (3, vI x3)] [] h := by
  unfold BX10_collect_28 at E
  obtain ⟨z4, E⟩ := gd_some E
  refine ea_iload_n (pc := 28) dX10_collect_28 rfl 3 rfl ?_
  refine ea_aload_n (pc := 29) dX10_collect_29 rfl 0 rfl ?_
  refine ea_getR (pc := 30) dX10_collect_30 ec_10 (k := 2) (Nat.le_of_ble_eq_true rfl) rfl (Or.inl ew_237) (cShC_13 hs).1 (cShC_13 hs).2.1 (rShC_13_2 hs) ?_
  refine ea_getR (pc := 33) dX10_collect_33 ec_9 (k := 1) (Nat.le_of_ble_eq_true rfl) rfl (Or.inl ew_190) (cShC_5 hs).1 (cShC_5 hs).2.1 (rShC_5_1 hs) ?_
  refine ea_iload_n (pc := 36) dX10_collect_36 rfl 1 rfl ?_
  refine ea_iald (pc := 37) dX10_collect_37 (cShC_6 hs).1 (cShC_6 hs).2.1 (ea_vpl (cShC_6 hs).2.2 z4) ?_
  refine ea_icmp_ge (pc := 38) (tgt := 114) dX10_collect_38 rfl (fun c9 => ?_) (fun c9 => ?_)
  · have E := (if_pos c9).symm.trans E
    refine ea_iinc (pc := 114) (v := 1) (lv' := [(0, vR (some 13)), (1, vI x1), (2, vI (x2 + (1 : Int32)))]) dX10_collect_114 2 rfl rfl (Nat.le_of_ble_eq_true rfl) [1, 2, 0] rfl ?_
    refine ea_goto (pc := 117) (tgt := 20) dX10_collect_117 rfl ?_
    exact (kJ20 (x1 : Int32) ((x2 + (1 : Int32)) : Int32) h _ _ E hs)
  · have E := (if_neg c9).symm.trans E
    obtain ⟨v5, ev5, E⟩ := let_some E
    refine ea_iload_n (pc := 41) dX10_collect_41 rfl 1 rfl ?_
    refine ea_bipush (pc := 42) dX10_collect_42 (v := 6) rfl ?_
    refine ea_ishl (pc := 44) dX10_collect_44 ?_
    refine ea_iload_n (pc := 45) dX10_collect_45 rfl 2 rfl ?_
    refine ea_iconst (pc := 46) dX10_collect_46 (v := 3) rfl ?_
    refine ea_ishl (pc := 47) dX10_collect_47 ?_
    refine ea_ior (pc := 48) dX10_collect_48 ?_
    refine ea_iload_n (pc := 49) dX10_collect_49 rfl 3 rfl ?_
    refine ea_ior (pc := 50) dX10_collect_50 ?_
    refine ea_istore (pc := 51) (lv' := [(0, vR (some 13)), (1, vI x1), (2, vI x2), (3, vI x3), (4, vI v5)]) dX10_collect_51 (Nat.le_of_ble_eq_true rfl) [1, 2, 3, 4, 0] (by rw [ev5]; rfl) ?_
    refine ea_iload_n (pc := 53) dX10_collect_53 rfl 3 rfl ?_
    refine ea_if_le (pc := 54) (tgt := 73) dX10_collect_54 rfl (fun c8 => ?_) (fun c8 => ?_)
    · have E := (if_pos c8).symm.trans E
      exact (kJ73 (x1 : Int32) (x2 : Int32) (x3 : Int32) (v5 : Int32) h _ _ E hs)
    · have E := (if_neg c8).symm.trans E
      obtain ⟨w6, Ew6, E⟩ := bd_some E
      have hsw6 : ShC w6.2 := ShC_core ((kpX9_comesAt _ _ _ _) _ Ew6) hs
      refine ea_aload_n (pc := 57) dX10_collect_57 rfl 0 rfl ?_
      refine ea_aload_n (pc := 58) dX10_collect_58 rfl 0 rfl ?_
      refine ea_getR (pc := 59) dX10_collect_59 ec_10 (k := 2) (Nat.le_of_ble_eq_true rfl) rfl (Or.inl ew_237) (cShC_13 hs).1 (cShC_13 hs).2.1 (rShC_13_2 hs) ?_
      refine ea_iload_n (pc := 62) dX10_collect_62 rfl 1 rfl ?_
      refine ea_iload_n (pc := 63) dX10_collect_63 rfl 2 rfl ?_
      refine ea_iload_n (pc := 64) dX10_collect_64 rfl 3 rfl ?_
      refine ea_callV (pc := 65) (d' := d - 1) (As := [vI x1, vI x2, vI x3]) (st := [vR (some 13)]) dX10_collect_65 kX9_comesAt (sX9_comesAt (d := d - 1) (by omega) hs Ew6) (by omega) rfl (Nat.le_of_ble_eq_true rfl) ew_757 ew_742 ew_743 (ci := 9) rfl (by decide) (cShC_5 hs).1 (cShC_5 hs).2.1 ?_
      obtain ⟨w7, Ew7, E⟩ := bd_some E
      have hsw7 : ShC w7.2 := ShC_core ((kpX10_addKey _ _ _) _ Ew7) hsw6
      refine ea_iload (pc := 68) dX10_collect_68 4 rfl ?_
      refine ea_callV (pc := 70) (d' := d - 1) (As := [vI w6.1, vI v5]) (st := []) dX10_collect_70 kX10_addKey (sX10_addKey (d := d - 1) (by omega) hsw6 Ew7) (by omega) rfl (Nat.le_of_ble_eq_true rfl) ew_758 ew_760 ew_4 (ci := 10) rfl (by decide) (cShC_13 hsw6).1 (cShC_13 hsw6).2.1 ?_
      exact (kJ73 (x1 : Int32) (x2 : Int32) (x3 : Int32) (v5 : Int32) w7.2 _ _ E hsw7)
theorem kBX10_collect_28 {J20 : Int32 → Int32 → ea_H → Option (Unit × ea_H)} {J73 : Int32 → Int32 → Int32 → Int32 → ea_H → Option (Unit × ea_H)}  (cJ20 : ∀ (x1 : Int32) (x2 : Int32) (h : ea_H), kp (ea_core h) (J20 x1 x2 h)) (cJ73 : ∀ (x1 : Int32) (x2 : Int32) (x3 : Int32) (x4 : Int32) (h : ea_H), kp (ea_core h) (J73 x1 x2 x3 x4 h)) {x1 : Int32} {x2 : Int32} {x3 : Int32} {h : ea_H} : kp (ea_core h) (BX10_collect_28 J20 J73 x1 x2 x3 h) :=
  (kp_gd (kp_ite (kp_tw (cJ20 _ _ _) rfl) (kp_let (kp_ite (kp_tw (cJ73 _ _ _ _ _) rfl) (kp_bind (kp_tw (kpX9_comesAt _ _ _ _) rfl) fun w6 hcw6 => (kp_bind (kp_tw (kpX10_addKey _ _ _) hcw6) fun w7 hcw7 => (kp_tw (cJ73 _ _ _ _ _) hcw7)))))))
theorem lBX10_collect_28 {J20 : Int32 → Int32 → ea_H → Option (Unit × ea_H)} {J73 : Int32 → Int32 → Int32 → Int32 → ea_H → Option (Unit × ea_H)} {J20_ : Int32 → Int32 → ea_H → Option (Unit × ea_H)} {J73_ : Int32 → Int32 → Int32 → Int32 → ea_H → Option (Unit × ea_H)}  (mJ20 : ∀ (x1 : Int32) (x2 : Int32) (h : ea_H), fle (J20 x1 x2 h) (J20_ x1 x2 h)) (mJ73 : ∀ (x1 : Int32) (x2 : Int32) (x3 : Int32) (x4 : Int32) (h : ea_H), fle (J73 x1 x2 x3 x4 h) (J73_ x1 x2 x3 x4 h)) {x1 : Int32} {x2 : Int32} {x3 : Int32} {h : ea_H} : fle (BX10_collect_28 J20 J73 x1 x2 x3 h) (BX10_collect_28 J20_ J73_ x1 x2 x3 h) :=
  (fle_gd (fle_ite (mJ20 _ _ _) (fle_let fun _ => (fle_ite (mJ73 _ _ _ _ _) (fle_bind (fle_rfl _) fun _ => (fle_bind (fle_rfl _) fun _ => (mJ73 _ _ _ _ _)))))))
theorem nBX10_collect_28 {J20 : Int32 → Int32 → ea_H → Option (Unit × ea_H)} {J73 : Int32 → Int32 → Int32 → Int32 → ea_H → Option (Unit × ea_H)} {J20_ : Nat → (Int32 → Int32 → ea_H → Option (Unit × ea_H))} {J73_ : Nat → (Int32 → Int32 → Int32 → Int32 → ea_H → Option (Unit × ea_H))}  (mJ20 : ∀ (x1 : Int32) (x2 : Int32) (h : ea_H), fct (J20 x1 x2 h) (fun f => J20_ f x1 x2 h)) (mJ73 : ∀ (x1 : Int32) (x2 : Int32) (x3 : Int32) (x4 : Int32) (h : ea_H), fct (J73 x1 x2 x3 x4 h) (fun f => J73_ f x1 x2 x3 x4 h)) {x1 : Int32} {x2 : Int32} {x3 : Int32} {h : ea_H} : fct (BX10_collect_28 J20 J73 x1 x2 x3 h) (fun f => BX10_collect_28 (J20_ f) (J73_ f) x1 x2 x3 h) :=
  (fct_gd (fct_ite (mJ20 _ _ _) (fct_let fun _ => (fct_ite (mJ73 _ _ _ _ _) (fct_bind (fct_rfl _) fun _ => (fct_bind (fct_rfl _) fun _ => (mJ73 _ _ _ _ _)))))))
noncomputable def BX10_collect_73 (J28 : Int32 → Int32 → Int32 → ea_H → Option (Unit × ea_H)) (x1 : Int32) (x2 : Int32) (x3 : Int32) (x4 : Int32) (h : ea_H) : Option (Unit × ea_H) :=
  (gd (vp_in x1 10) (if ((ea_i h 6 (Int32.toNatClampNeg x1)) - (1 : Int32)) ≤ x3 then (J28 (x1 : Int32) (x2 : Int32) ((x3 + (1 : Int32)) : Int32) h) else (Option.bind (qX9_goesAt (x1 : Int32) (x2 : Int32) (x3 : Int32) h) fun w11 => (Option.bind (qX10_addKey (w11.1 : Int32) (((1024 : Int32) ||| x4) : Int32) w11.2) fun w12 => (J28 (x1 : Int32) (x2 : Int32) ((x3 + (1 : Int32)) : Int32) w12.2)))))
theorem tBX10_collect_73 {d : Nat} {h0 : ea_H} (hd : 2 ≤ d) {J28 : Int32 → Int32 → Int32 → ea_H → Option (Unit × ea_H)}  (kJ28 : ∀ (x1 : Int32) (x2 : Int32) (x3 : Int32) (h : ea_H) (r : Unit) (h' : ea_H), J28 x1 x2 x3 h = some (r, h') → ShC h → ea_W mX10_collect d h0 none h' 28 [(0, vR (some 13)), (1, vI x1), (2, vI x2), (3, vI x3)] [] h) {x1 : Int32} {x2 : Int32} {x3 : Int32} {x4 : Int32} {h : ea_H} {r : Unit} {h' : ea_H} (E : BX10_collect_73 J28 x1 x2 x3 x4 h = some (r, h')) (hs : ShC h) : ea_W mX10_collect d h0 none h' 73 [(0, vR (some 13)), (1, vI x1), (2, vI x2), (3, vI x3), (4, vI x4)] [] h := by
  unfold BX10_collect_73 at E
  obtain ⟨z10, E⟩ := gd_some E
  refine ea_iload_n (pc := 73) dX10_collect_73 rfl 3 rfl ?_
  refine ea_aload_n (pc := 74) dX10_collect_74 rfl 0 rfl ?_
  refine ea_getR (pc := 75) dX10_collect_75 ec_10 (k := 2) (Nat.le_of_ble_eq_true rfl) rfl (Or.inl ew_237) (cShC_13 hs).1 (cShC_13 hs).2.1 (rShC_13_2 hs) ?_
  refine ea_getR (pc := 78) dX10_collect_78 ec_9 (k := 1) (Nat.le_of_ble_eq_true rfl) rfl (Or.inl ew_190) (cShC_5 hs).1 (cShC_5 hs).2.1 (rShC_5_1 hs) ?_
  refine ea_iload_n (pc := 81) dX10_collect_81 rfl 1 rfl ?_
  refine ea_iald (pc := 82) dX10_collect_82 (cShC_6 hs).1 (cShC_6 hs).2.1 (ea_vpl (cShC_6 hs).2.2 z10) ?_
  refine ea_iconst (pc := 83) dX10_collect_83 (v := 1) rfl ?_
  refine ea_isub (pc := 84) dX10_collect_84 ?_
  refine ea_icmp_ge (pc := 85) (tgt := 108) dX10_collect_85 rfl (fun c13 => ?_) (fun c13 => ?_)
  · have E := (if_pos c13).symm.trans E
    refine ea_iinc (pc := 108) (v := 1) (lv' := [(0, vR (some 13)), (1, vI x1), (2, vI x2), (3, vI (x3 + (1 : Int32)))]) dX10_collect_108 3 rfl rfl (Nat.le_of_ble_eq_true rfl) [1, 2, 3, 0] rfl ?_
    refine ea_goto (pc := 111) (tgt := 28) dX10_collect_111 rfl ?_
    exact (kJ28 (x1 : Int32) (x2 : Int32) ((x3 + (1 : Int32)) : Int32) h _ _ E hs)
  · have E := (if_neg c13).symm.trans E
    obtain ⟨w11, Ew11, E⟩ := bd_some E
    have hsw11 : ShC w11.2 := ShC_core ((kpX9_goesAt _ _ _ _) _ Ew11) hs
    refine ea_aload_n (pc := 88) dX10_collect_88 rfl 0 rfl ?_
    refine ea_aload_n (pc := 89) dX10_collect_89 rfl 0 rfl ?_
    refine ea_getR (pc := 90) dX10_collect_90 ec_10 (k := 2) (Nat.le_of_ble_eq_true rfl) rfl (Or.inl ew_237) (cShC_13 hs).1 (cShC_13 hs).2.1 (rShC_13_2 hs) ?_
    refine ea_iload_n (pc := 93) dX10_collect_93 rfl 1 rfl ?_
    refine ea_iload_n (pc := 94) dX10_collect_94 rfl 2 rfl ?_
    refine ea_iload_n (pc := 95) dX10_collect_95 rfl 3 rfl ?_
    refine ea_callV (pc := 96) (d' := d - 1) (As := [vI x1, vI x2, vI x3]) (st := [vR (some 13)]) dX10_collect_96 kX9_goesAt (sX9_goesAt (d := d - 1) (by omega) hs Ew11) (by omega) rfl (Nat.le_of_ble_eq_true rfl) ew_762 ew_763 ew_764 (ci := 9) rfl (by decide) (cShC_5 hs).1 (cShC_5 hs).2.1 ?_
    obtain ⟨w12, Ew12, E⟩ := bd_some E
    have hsw12 : ShC w12.2 := ShC_core ((kpX10_addKey _ _ _) _ Ew12) hsw11
    refine ea_sipush (pc := 99) dX10_collect_99 (v := 1024) rfl ?_
    refine ea_iload (pc := 102) dX10_collect_102 4 rfl ?_
    refine ea_ior (pc := 104) dX10_collect_104 ?_
    refine ea_callV (pc := 105) (d' := d - 1) (As := [vI w11.1, vI ((1024 : Int32) ||| x4)]) (st := []) dX10_collect_105 kX10_addKey (sX10_addKey (d := d - 1) (by omega) hsw11 Ew12) (by omega) rfl (Nat.le_of_ble_eq_true rfl) ew_758 ew_760 ew_4 (ci := 10) rfl (by decide) (cShC_13 hsw11).1 (cShC_13 hsw11).2.1 ?_
    refine ea_iinc (pc := 108) (v := 1) (lv' := [(0, vR (some 13)), (1, vI x1), (2, vI x2), (3, vI (x3 + (1 : Int32)))]) dX10_collect_108 3 rfl rfl (Nat.le_of_ble_eq_true rfl) [1, 2, 3, 0] rfl ?_
    refine ea_goto (pc := 111) (tgt := 28) dX10_collect_111 rfl ?_
    exact (kJ28 (x1 : Int32) (x2 : Int32) ((x3 + (1 : Int32)) : Int32) w12.2 _ _ E hsw12)
theorem kBX10_collect_73 {J28 : Int32 → Int32 → Int32 → ea_H → Option (Unit × ea_H)}  (cJ28 : ∀ (x1 : Int32) (x2 : Int32) (x3 : Int32) (h : ea_H), kp (ea_core h) (J28 x1 x2 x3 h)) {x1 : Int32} {x2 : Int32} {x3 : Int32} {x4 : Int32} {h : ea_H} : kp (ea_core h) (BX10_collect_73 J28 x1 x2 x3 x4 h) :=
  (kp_gd (kp_ite (kp_tw (cJ28 _ _ _ _) rfl) (kp_bind (kp_tw (kpX9_goesAt _ _ _ _) rfl) fun w11 hcw11 => (kp_bind (kp_tw (kpX10_addKey _ _ _) hcw11) fun w12 hcw12 => (kp_tw (cJ28 _ _ _ _) hcw12)))))
theorem lBX10_collect_73 {J28 : Int32 → Int32 → Int32 → ea_H → Option (Unit × ea_H)} {J28_ : Int32 → Int32 → Int32 → ea_H → Option (Unit × ea_H)}  (mJ28 : ∀ (x1 : Int32) (x2 : Int32) (x3 : Int32) (h : ea_H), fle (J28 x1 x2 x3 h) (J28_ x1 x2 x3 h)) {x1 : Int32} {x2 : Int32} {x3 : Int32} {x4 : Int32} {h : ea_H} : fle (BX10_collect_73 J28 x1 x2 x3 x4 h) (BX10_collect_73 J28_ x1 x2 x3 x4 h) :=
  (fle_gd (fle_ite (mJ28 _ _ _ _) (fle_bind (fle_rfl _) fun _ => (fle_bind (fle_rfl _) fun _ => (mJ28 _ _ _ _)))))
theorem nBX10_collect_73 {J28 : Int32 → Int32 → Int32 → ea_H → Option (Unit × ea_H)} {J28_ : Nat → (Int32 → Int32 → Int32 → ea_H → Option (Unit × ea_H))}  (mJ28 : ∀ (x1 : Int32) (x2 : Int32) (x3 : Int32) (h : ea_H), fct (J28 x1 x2 x3 h) (fun f => J28_ f x1 x2 x3 h)) {x1 : Int32} {x2 : Int32} {x3 : Int32} {x4 : Int32} {h : ea_H} : fct (BX10_collect_73 J28 x1 x2 x3 x4 h) (fun f => BX10_collect_73 (J28_ f) x1 x2 x3 x4 h) :=
  (fct_gd (fct_ite (mJ28 _ _ _ _) (fct_bind (fct_rfl _) fun _ => (fct_bind (fct_rfl _) fun _ => (mJ28 _ _ _ _)))))
noncomputable def gX10_collect : Nat → (ea_H → Option (Unit × ea_H)) × (Int32 → ea_H → Option (Unit × ea_H)) × (Int32 → Int32 → ea_H → Option (Unit × ea_H)) × (Int32 → Int32 → Int32 → ea_H → Option (Unit × ea_H)) × (Int32 → Int32 → Int32 → Int32 → ea_H → Option (Unit × ea_H))
  | 0 => (fun _ => none, fun _ _ => none, fun _ _ _ => none, fun _ _ _ _ => none, fun _ _ _ _ _ => none)
  | f + 1 => (BX10_collect_0 (gX10_collect f).2.1, BX10_collect_7 (gX10_collect f).2.2.1, BX10_collect_20 (gX10_collect f).2.1 (gX10_collect f).2.2.2.1, BX10_collect_28 (gX10_collect f).2.2.1 (gX10_collect f).2.2.2.2, BX10_collect_73 (gX10_collect f).2.2.2.1)
theorem mgX10_collect : ∀ f : Nat, (∀ (h : ea_H), fle ((gX10_collect f).1 h) ((gX10_collect (f + 1)).1 h)) ∧ (∀ (x1 : Int32) (h : ea_H), fle ((gX10_collect f).2.1 x1 h) ((gX10_collect (f + 1)).2.1 x1 h)) ∧ (∀ (x1 : Int32) (x2 : Int32) (h : ea_H), fle ((gX10_collect f).2.2.1 x1 x2 h) ((gX10_collect (f + 1)).2.2.1 x1 x2 h)) ∧ (∀ (x1 : Int32) (x2 : Int32) (x3 : Int32) (h : ea_H), fle ((gX10_collect f).2.2.2.1 x1 x2 x3 h) ((gX10_collect (f + 1)).2.2.2.1 x1 x2 x3 h)) ∧ (∀ (x1 : Int32) (x2 : Int32) (x3 : Int32) (x4 : Int32) (h : ea_H), fle ((gX10_collect f).2.2.2.2 x1 x2 x3 x4 h) ((gX10_collect (f + 1)).2.2.2.2 x1 x2 x3 x4 h)) := by
  intro f
  induction f with
  | zero => exact ⟨fun _ => fle_none _, fun _ _ => fle_none _, fun _ _ _ => fle_none _, fun _ _ _ _ => fle_none _, fun _ _ _ _ _ => fle_none _⟩
  | succ f ih => exact ⟨fun _ => lBX10_collect_0 ih.2.1, fun _ _ => lBX10_collect_7 ih.2.2.1, fun _ _ _ => lBX10_collect_20 ih.2.1 ih.2.2.2.1, fun _ _ _ _ => lBX10_collect_28 ih.2.2.1 ih.2.2.2.2, fun _ _ _ _ _ => lBX10_collect_73 ih.2.2.2.1⟩
noncomputable def qX10_collect_0 (h : ea_H) : Option (Unit × ea_H) := flim fun f => (gX10_collect f).1 h
noncomputable def qX10_collect_7 (x1 : Int32) (h : ea_H) : Option (Unit × ea_H) := flim fun f => (gX10_collect f).2.1 x1 h
noncomputable def qX10_collect_20 (x1 : Int32) (x2 : Int32) (h : ea_H) : Option (Unit × ea_H) := flim fun f => (gX10_collect f).2.2.1 x1 x2 h
noncomputable def qX10_collect_28 (x1 : Int32) (x2 : Int32) (x3 : Int32) (h : ea_H) : Option (Unit × ea_H) := flim fun f => (gX10_collect f).2.2.2.1 x1 x2 x3 h
noncomputable def qX10_collect_73 (x1 : Int32) (x2 : Int32) (x3 : Int32) (x4 : Int32) (h : ea_H) : Option (Unit × ea_H) := flim fun f => (gX10_collect f).2.2.2.2 x1 x2 x3 x4 h
theorem fqX10_collect_0 (h : ea_H) : fct (qX10_collect_0 h) fun f => (gX10_collect f).1 h := flim_ct fun f => (mgX10_collect f).1 h
theorem fqX10_collect_7 (x1 : Int32) (h : ea_H) : fct (qX10_collect_7 x1 h) fun f => (gX10_collect f).2.1 x1 h := flim_ct fun f => (mgX10_collect f).2.1 x1 h
theorem fqX10_collect_20 (x1 : Int32) (x2 : Int32) (h : ea_H) : fct (qX10_collect_20 x1 x2 h) fun f => (gX10_collect f).2.2.1 x1 x2 h := flim_ct fun f => (mgX10_collect f).2.2.1 x1 x2 h
theorem fqX10_collect_28 (x1 : Int32) (x2 : Int32) (x3 : Int32) (h : ea_H) : fct (qX10_collect_28 x1 x2 x3 h) fun f => (gX10_collect f).2.2.2.1 x1 x2 x3 h := flim_ct fun f => (mgX10_collect f).2.2.2.1 x1 x2 x3 h
theorem fqX10_collect_73 (x1 : Int32) (x2 : Int32) (x3 : Int32) (x4 : Int32) (h : ea_H) : fct (qX10_collect_73 x1 x2 x3 x4 h) fun f => (gX10_collect f).2.2.2.2 x1 x2 x3 x4 h := flim_ct fun f => (mgX10_collect f).2.2.2.2 x1 x2 x3 x4 h
/-- how a block opens -/
theorem uqX10_collect_0 {h : ea_H} {P : Unit × ea_H → Prop} (H : sat (BX10_collect_0 qX10_collect_7 h) P) : sat (qX10_collect_0 h) P := by
  obtain ⟨x, e, hp⟩ := H
  obtain ⟨n, hn⟩ := nBX10_collect_0 fqX10_collect_7 x e
  exact ⟨x, flim_at (fun f => (mgX10_collect f).1 h) (f := n + 1) (hn n (Nat.le_refl _)), hp⟩
/-- how a block opens -/
theorem uqX10_collect_7 {x1 : Int32} {h : ea_H} {P : Unit × ea_H → Prop} (H : sat (BX10_collect_7 qX10_collect_20 x1 h) P) : sat (qX10_collect_7 x1 h) P := by
  obtain ⟨x, e, hp⟩ := H
  obtain ⟨n, hn⟩ := nBX10_collect_7 fqX10_collect_20 x e
  exact ⟨x, flim_at (fun f => (mgX10_collect f).2.1 x1 h) (f := n + 1) (hn n (Nat.le_refl _)), hp⟩
/-- how a block opens -/
theorem uqX10_collect_20 {x1 : Int32} {x2 : Int32} {h : ea_H} {P : Unit × ea_H → Prop} (H : sat (BX10_collect_20 qX10_collect_7 qX10_collect_28 x1 x2 h) P) : sat (qX10_collect_20 x1 x2 h) P := by
  obtain ⟨x, e, hp⟩ := H
  obtain ⟨n, hn⟩ := nBX10_collect_20 fqX10_collect_7 fqX10_collect_28 x e
  exact ⟨x, flim_at (fun f => (mgX10_collect f).2.2.1 x1 x2 h) (f := n + 1) (hn n (Nat.le_refl _)), hp⟩
/-- how a block opens -/
theorem uqX10_collect_28 {x1 : Int32} {x2 : Int32} {x3 : Int32} {h : ea_H} {P : Unit × ea_H → Prop} (H : sat (BX10_collect_28 qX10_collect_20 qX10_collect_73 x1 x2 x3 h) P) : sat (qX10_collect_28 x1 x2 x3 h) P := by
  obtain ⟨x, e, hp⟩ := H
  obtain ⟨n, hn⟩ := nBX10_collect_28 fqX10_collect_20 fqX10_collect_73 x e
  exact ⟨x, flim_at (fun f => (mgX10_collect f).2.2.2.1 x1 x2 x3 h) (f := n + 1) (hn n (Nat.le_refl _)), hp⟩
/-- how a block opens -/
theorem uqX10_collect_73 {x1 : Int32} {x2 : Int32} {x3 : Int32} {x4 : Int32} {h : ea_H} {P : Unit × ea_H → Prop} (H : sat (BX10_collect_73 qX10_collect_28 x1 x2 x3 x4 h) P) : sat (qX10_collect_73 x1 x2 x3 x4 h) P := by
  obtain ⟨x, e, hp⟩ := H
  obtain ⟨n, hn⟩ := nBX10_collect_73 fqX10_collect_28 x e
  exact ⟨x, flim_at (fun f => (mgX10_collect f).2.2.2.2 x1 x2 x3 x4 h) (f := n + 1) (hn n (Nat.le_refl _)), hp⟩
theorem kgX10_collect : ∀ f : Nat, (∀ (h : ea_H), kp (ea_core h) ((gX10_collect f).1 h)) ∧ (∀ (x1 : Int32) (h : ea_H), kp (ea_core h) ((gX10_collect f).2.1 x1 h)) ∧ (∀ (x1 : Int32) (x2 : Int32) (h : ea_H), kp (ea_core h) ((gX10_collect f).2.2.1 x1 x2 h)) ∧ (∀ (x1 : Int32) (x2 : Int32) (x3 : Int32) (h : ea_H), kp (ea_core h) ((gX10_collect f).2.2.2.1 x1 x2 x3 h)) ∧ (∀ (x1 : Int32) (x2 : Int32) (x3 : Int32) (x4 : Int32) (h : ea_H), kp (ea_core h) ((gX10_collect f).2.2.2.2 x1 x2 x3 x4 h)) := by
  intro f
  induction f with
  | zero => exact ⟨fun _ => kp_none _, fun _ _ => kp_none _, fun _ _ _ => kp_none _, fun _ _ _ _ => kp_none _, fun _ _ _ _ _ => kp_none _⟩
  | succ f ih => exact ⟨fun _ => kBX10_collect_0 ih.2.1, fun _ _ => kBX10_collect_7 ih.2.2.1, fun _ _ _ => kBX10_collect_20 ih.2.1 ih.2.2.2.1, fun _ _ _ _ => kBX10_collect_28 ih.2.2.1 ih.2.2.2.2, fun _ _ _ _ _ => kBX10_collect_73 ih.2.2.2.1⟩
theorem tgX10_collect {d : Nat} {h0 : ea_H} (hd : 2 ≤ d) : ∀ f : Nat, (∀ (h : ea_H) (r : Unit) (h' : ea_H), (gX10_collect f).1 h = some (r, h') → ShC h → ea_W mX10_collect d h0 none h' 0 [(0, vR (some 13))] [] h) ∧ (∀ (x1 : Int32) (h : ea_H) (r : Unit) (h' : ea_H), (gX10_collect f).2.1 x1 h = some (r, h') → ShC h → ea_W mX10_collect d h0 none h' 7 [(0, vR (some 13)), (1, vI x1)] [] h) ∧ (∀ (x1 : Int32) (x2 : Int32) (h : ea_H) (r : Unit) (h' : ea_H), (gX10_collect f).2.2.1 x1 x2 h = some (r, h') → ShC h → ea_W mX10_collect d h0 none h' 20 [(0, vR (some 13)), (1, vI x1), (2, vI x2)] [] h) ∧ (∀ (x1 : Int32) (x2 : Int32) (x3 : Int32) (h : ea_H) (r : Unit) (h' : ea_H), (gX10_collect f).2.2.2.1 x1 x2 x3 h = some (r, h') → ShC h → ea_W mX10_collect d h0 none h' 28 [(0, vR (some 13)), (1, vI x1), (2, vI x2), (3, vI x3)] [] h) ∧ (∀ (x1 : Int32) (x2 : Int32) (x3 : Int32) (x4 : Int32) (h : ea_H) (r : Unit) (h' : ea_H), (gX10_collect f).2.2.2.2 x1 x2 x3 x4 h = some (r, h') → ShC h → ea_W mX10_collect d h0 none h' 73 [(0, vR (some 13)), (1, vI x1), (2, vI x2), (3, vI x3), (4, vI x4)] [] h) := by
  intro f
  induction f with
  | zero => exact ⟨fun _ _ _ E => no_some E, fun _ _ _ _ E => no_some E, fun _ _ _ _ _ E => no_some E, fun _ _ _ _ _ _ E => no_some E, fun _ _ _ _ _ _ _ E => no_some E⟩
  | succ f ih => exact ⟨fun _ _ _ E hs => tBX10_collect_0 hd ih.2.1 E hs, fun _ _ _ _ E hs => tBX10_collect_7 hd ih.2.2.1 E hs, fun _ _ _ _ _ E hs => tBX10_collect_20 hd ih.2.1 ih.2.2.2.1 E hs, fun _ _ _ _ _ _ E hs => tBX10_collect_28 hd ih.2.2.1 ih.2.2.2.2 E hs, fun _ _ _ _ _ _ _ E hs => tBX10_collect_73 hd ih.2.2.2.1 E hs⟩
noncomputable def qX10_collect (h : ea_H) : Option (Unit × ea_H) := qX10_collect_0  h
theorem sX10_collect {d : Nat} {h : ea_H} {r : Unit} {h' : ea_H} (hd : 2 ≤ d) (hs : ShC h) (K : qX10_collect h = some (r, h')) : ea_Met mX10_collect d [vR (some 13)] h none h' := by
  unfold qX10_collect at K
  obtain ⟨n, hn⟩ := fqX10_collect_0  h _ K
  have W := (tgX10_collect (d := d) (h0 := h) hd n).1  h _ _ (hn n (Nat.le_refl _)) hs
  exact ea_enter rfl (Nat.le_of_ble_eq_true rfl) W
theorem kpX10_collect (h : ea_H) : kp (ea_core h) (qX10_collect h) := fun x e => by
  obtain ⟨n, hn⟩ := fqX10_collect_0  h x e
  exact (kgX10_collect n).1  h x (hn n (Nat.le_refl _))
