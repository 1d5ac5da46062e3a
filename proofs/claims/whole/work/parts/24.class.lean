/-! the class, 4 -/
noncomputable def BX10_takeRun_0 (J8 : Int32 → Int32 → Int32 → Int32 → ea_H → Option (Unit × ea_H)) (x1 : Int32) (x2 : Int32) (h : ea_H) : Option (Unit × ea_H) :=
  (Option.bind (qX10_slotIn (x1 : Int32) h) fun w1 => (J8 (x1 : Int32) (x2 : Int32) (w1.1 : Int32) (0 : Int32) w1.2))
theorem tBX10_takeRun_0 {d : Nat} {h0 : ea_H} (hd : 3 ≤ d) {J8 : Int32 → Int32 → Int32 → Int32 → ea_H → Option (Unit × ea_H)}  (kJ8 : ∀ (x1 : Int32) (x2 : Int32) (x3 : Int32) (x4 : Int32) (h : ea_H) (r : Unit) (h' : ea_H), J8 x1 x2 x3 x4 h = some (r, h') → ShC h → ea_W mX10_takeRun d h0 none h' 8 [(0, vR (some 13)), (1, vI x1), (2, vI x2), (3, vI x3), (4, vI x4)] [] h) {x1 : Int32} {x2 : Int32} {h : ea_H} {r : Unit} {h' : ea_H} (E : BX10_takeRun_0 J8 x1 x2 h = some (r, h')) (hs : ShC h) : ea_W mX10_takeRun d h0 none h' 0 [(0, vR (some 13)), (1, vI x1), (2, vI x2)] [] h := by
  unfold BX10_takeRun_0 at E
  obtain ⟨w1, Ew1, E⟩ := bd_some E
  have hsw1 : ShC w1.2 := ShC_core ((kpX10_slotIn _ _) _ Ew1) hs
  refine ea_iload_n (pc := 0) dX10_takeRun_0 rfl 1 rfl ?_
  refine ea_callS (pc := 1) (d' := d - 1) (As := [vI x1]) (st := []) dX10_takeRun_1 kX10_slotIn (sX10_slotIn (d := d - 1) (by omega) Ew1) (by omega) rfl (Nat.le_of_ble_eq_true rfl) ew_795 ew_796 ?_
  refine ea_istore_n (pc := 4) (lv' := [(0, vR (some 13)), (1, vI x1), (2, vI x2), (3, vI w1.1)]) dX10_takeRun_4 rfl (Nat.le_of_ble_eq_true rfl) [1, 2, 3, 0] rfl ?_
  refine ea_iconst (pc := 5) dX10_takeRun_5 (v := 0) rfl ?_
  refine ea_istore (pc := 6) (lv' := [(0, vR (some 13)), (1, vI x1), (2, vI x2), (3, vI w1.1), (4, vI 0)]) dX10_takeRun_6 (Nat.le_of_ble_eq_true rfl) [1, 2, 3, 4, 0] rfl ?_
  exact (kJ8 (x1 : Int32) (x2 : Int32) (w1.1 : Int32) (0 : Int32) w1.2 _ _ E hsw1)
theorem kBX10_takeRun_0 {J8 : Int32 → Int32 → Int32 → Int32 → ea_H → Option (Unit × ea_H)}  (cJ8 : ∀ (x1 : Int32) (x2 : Int32) (x3 : Int32) (x4 : Int32) (h : ea_H), kp (ea_core h) (J8 x1 x2 x3 x4 h)) {x1 : Int32} {x2 : Int32} {h : ea_H} : kp (ea_core h) (BX10_takeRun_0 J8 x1 x2 h) :=
  (kp_bind (kp_tw (kpX10_slotIn _ _) rfl) fun w1 hcw1 => (kp_tw (cJ8 _ _ _ _ _) hcw1))
theorem lBX10_takeRun_0 {J8 : Int32 → Int32 → Int32 → Int32 → ea_H → Option (Unit × ea_H)} {J8_ : Int32 → Int32 → Int32 → Int32 → ea_H → Option (Unit × ea_H)}  (mJ8 : ∀ (x1 : Int32) (x2 : Int32) (x3 : Int32) (x4 : Int32) (h : ea_H), fle (J8 x1 x2 x3 x4 h) (J8_ x1 x2 x3 x4 h)) {x1 : Int32} {x2 : Int32} {h : ea_H} : fle (BX10_takeRun_0 J8 x1 x2 h) (BX10_takeRun_0 J8_ x1 x2 h) :=
  (fle_bind (fle_rfl _) fun _ => (mJ8 _ _ _ _ _))
theorem nBX10_takeRun_0 {J8 : Int32 → Int32 → Int32 → Int32 → ea_H → Option (Unit × ea_H)} {J8_ : Nat → (Int32 → Int32 → Int32 → Int32 → ea_H → Option (Unit × ea_H))}  (mJ8 : ∀ (x1 : Int32) (x2 : Int32) (x3 : Int32) (x4 : Int32) (h : ea_H), fct (J8 x1 x2 x3 x4 h) (fun f => J8_ f x1 x2 x3 x4 h)) {x1 : Int32} {x2 : Int32} {h : ea_H} : fct (BX10_takeRun_0 J8 x1 x2 h) (fun f => BX10_takeRun_0 (J8_ f) x1 x2 h) :=
  (fct_bind (fct_rfl _) fun _ => (mJ8 _ _ _ _ _))
noncomputable def BX10_takeRun_8 (J53 : Int32 → Int32 → Int32 → Int32 → Int64 → ea_H → Option (Unit × ea_H)) (x1 : Int32) (x2 : Int32) (x3 : Int32) (x4 : Int32) (h : ea_H) : Option (Unit × ea_H) :=
  (if (12 : Int32) ≤ x4 then (some ((), h)) else (gd (vp_in (((12 : Int32) * (x3 / (8 : Int32))) + x4) 840) (ea_let (ea_j h 16 (Int32.toNatClampNeg (((12 : Int32) * (x3 / (8 : Int32))) + x4))) fun (v3 : Int64) => (if (lg_cmp v3 (4611686018427387904 : Int64)) = (0 : Int32) then (J53 (x1 : Int32) (x2 : Int32) (x3 : Int32) (x4 : Int32) (v3 : Int64) h) else (Option.bind (qX10_stopIn (x1 : Int32) h) fun w4 => (ea_let (v3 + ((Int32.toInt64 w4.1) <<< (Int32.toInt64 3 &&& 63))) fun (v5 : Int64) => (J53 (x1 : Int32) (x2 : Int32) (x3 : Int32) (x4 : Int32) (v5 : Int64) w4.2)))))))
theorem tBX10_takeRun_8 {d : Nat} {h0 : ea_H} (hd : 3 ≤ d) {J53 : Int32 → Int32 → Int32 → Int32 → Int64 → ea_H → Option (Unit × ea_H)}  (kJ53 : ∀ (x1 : Int32) (x2 : Int32) (x3 : Int32) (x4 : Int32) (y5 : Int64) (h : ea_H) (r : Unit) (h' : ea_H), J53 x1 x2 x3 x4 y5 h = some (r, h') → ShC h → ea_W mX10_takeRun d h0 none h' 53 [(0, vR (some 13)), (1, vI x1), (2, vI x2), (3, vI x3), (4, vI x4), (5, vJ y5)] [] h) {x1 : Int32} {x2 : Int32} {x3 : Int32} {x4 : Int32} {h : ea_H} {r : Unit} {h' : ea_H} (E : BX10_takeRun_8 J53 x1 x2 x3 x4 h = some (r, h')) (hs : ShC h) : ea_W mX10_takeRun d h0 none h' 8 [(0, vR (some 13)), (1, vI x1), (2, vI x2), (3, vI x3), (4, vI x4)] [] h := by
  unfold BX10_takeRun_8 at E
  refine ea_iload (pc := 8) dX10_takeRun_8 4 rfl ?_
  refine ea_bipush (pc := 10) dX10_takeRun_10 (v := 12) rfl ?_
  refine ea_icmp_ge (pc := 12) (tgt := 158) dX10_takeRun_12 rfl (fun c7 => ?_) (fun c7 => ?_)
  · have E := (if_pos c7).symm.trans E
    exact ea_vretO (pc := 158) dX10_takeRun_158 rfl E
  · have E := (if_neg c7).symm.trans E
    obtain ⟨z2, E⟩ := gd_some E
    refine ea_aload_n (pc := 15) dX10_takeRun_15 rfl 0 rfl ?_
    refine ea_getR (pc := 16) dX10_takeRun_16 ec_10 (k := 5) (Nat.le_of_ble_eq_true rfl) rfl (Or.inl ew_240) (cShC_13 hs).1 (cShC_13 hs).2.1 (rShC_13_5 hs) ?_
    refine ea_bipush (pc := 19) dX10_takeRun_19 (v := 12) rfl ?_
    refine ea_iload_n (pc := 21) dX10_takeRun_21 rfl 3 rfl ?_
    refine ea_bipush (pc := 22) dX10_takeRun_22 (v := 8) rfl ?_
    refine ea_idiv (pc := 24) dX10_takeRun_24 (by decide) ?_
    refine ea_imul (pc := 25) dX10_takeRun_25 ?_
    refine ea_iload (pc := 26) dX10_takeRun_26 4 rfl ?_
    refine ea_iadd (pc := 28) dX10_takeRun_28 ?_
    obtain ⟨v3, ev3, E⟩ := let_some E
    refine ea_lald (pc := 29) dX10_takeRun_29 (cShC_16 hs).1 (cShC_16 hs).2.1 (ea_vpl (cShC_16 hs).2.2 z2) ?_
    refine ea_lstore (pc := 30) (lv' := [(0, vR (some 13)), (1, vI x1), (2, vI x2), (3, vI x3), (4, vI x4), (5, vJ v3)]) dX10_takeRun_30 (Nat.le_of_ble_eq_true rfl) [1, 2, 3, 4, 5, 0] (by rw [ev3]; rfl) ?_
    refine ea_lload (pc := 32) dX10_takeRun_32 5 rfl ?_
    refine ea_ldc2 (pc := 34) dX10_takeRun_34 ew_777 ?_
    refine ea_lcmp (pc := 37) dX10_takeRun_37 ?_
    refine ea_if_eq (pc := 38) (tgt := 53) dX10_takeRun_38 rfl (fun c6 => ?_) (fun c6 => ?_)
    · have E := (if_pos c6).symm.trans E
      exact (kJ53 (x1 : Int32) (x2 : Int32) (x3 : Int32) (x4 : Int32) (v3 : Int64) h _ _ E hs)
    · have E := (if_neg c6).symm.trans E
      obtain ⟨w4, Ew4, E⟩ := bd_some E
      have hsw4 : ShC w4.2 := ShC_core ((kpX10_stopIn _ _) _ Ew4) hs
      refine ea_lload (pc := 41) dX10_takeRun_41 5 rfl ?_
      refine ea_iload_n (pc := 43) dX10_takeRun_43 rfl 1 rfl ?_
      refine ea_callS (pc := 44) (d' := d - 1) (As := [vI x1]) (st := [vJ v3]) dX10_takeRun_44 kX10_stopIn (sX10_stopIn (d := d - 1) (by omega) Ew4) (by omega) rfl (Nat.le_of_ble_eq_true rfl) ew_788 ew_789 ?_
      obtain ⟨v5, ev5, E⟩ := let_some E
      refine ea_i2l (pc := 47) dX10_takeRun_47 ?_
      refine ea_iconst (pc := 48) dX10_takeRun_48 (v := 3) rfl ?_
      refine ea_lshl (pc := 49) dX10_takeRun_49 ?_
      refine ea_ladd (pc := 50) dX10_takeRun_50 ?_
      refine ea_lstore (pc := 51) (lv' := [(0, vR (some 13)), (1, vI x1), (2, vI x2), (3, vI x3), (4, vI x4), (5, vJ v5)]) dX10_takeRun_51 (Nat.le_of_ble_eq_true rfl) [1, 2, 3, 4, 5, 0] (by rw [ev5]; rfl) ?_
      exact (kJ53 (x1 : Int32) (x2 : Int32) (x3 : Int32) (x4 : Int32) (v5 : Int64) w4.2 _ _ E hsw4)
theorem kBX10_takeRun_8 {J53 : Int32 → Int32 → Int32 → Int32 → Int64 → ea_H → Option (Unit × ea_H)}  (cJ53 : ∀ (x1 : Int32) (x2 : Int32) (x3 : Int32) (x4 : Int32) (y5 : Int64) (h : ea_H), kp (ea_core h) (J53 x1 x2 x3 x4 y5 h)) {x1 : Int32} {x2 : Int32} {x3 : Int32} {x4 : Int32} {h : ea_H} : kp (ea_core h) (BX10_takeRun_8 J53 x1 x2 x3 x4 h) :=
  (kp_ite (kp_ret rfl) (kp_gd (kp_let (kp_ite (kp_tw (cJ53 _ _ _ _ _ _) rfl) (kp_bind (kp_tw (kpX10_stopIn _ _) rfl) fun w4 hcw4 => (kp_let (kp_tw (cJ53 _ _ _ _ _ _) hcw4)))))))
theorem lBX10_takeRun_8 {J53 : Int32 → Int32 → Int32 → Int32 → Int64 → ea_H → Option (Unit × ea_H)} {J53_ : Int32 → Int32 → Int32 → Int32 → Int64 → ea_H → Option (Unit × ea_H)}  (mJ53 : ∀ (x1 : Int32) (x2 : Int32) (x3 : Int32) (x4 : Int32) (y5 : Int64) (h : ea_H), fle (J53 x1 x2 x3 x4 y5 h) (J53_ x1 x2 x3 x4 y5 h)) {x1 : Int32} {x2 : Int32} {x3 : Int32} {x4 : Int32} {h : ea_H} : fle (BX10_takeRun_8 J53 x1 x2 x3 x4 h) (BX10_takeRun_8 J53_ x1 x2 x3 x4 h) :=
  (fle_ite (fle_rfl _) (fle_gd (fle_let fun _ => (fle_ite (mJ53 _ _ _ _ _ _) (fle_bind (fle_rfl _) fun _ => (fle_let fun _ => (mJ53 _ _ _ _ _ _)))))))
theorem nBX10_takeRun_8 {J53 : Int32 → Int32 → Int32 → Int32 → Int64 → ea_H → Option (Unit × ea_H)} {J53_ : Nat → (Int32 → Int32 → Int32 → Int32 → Int64 → ea_H → Option (Unit × ea_H))}  (mJ53 : ∀ (x1 : Int32) (x2 : Int32) (x3 : Int32) (x4 : Int32) (y5 : Int64) (h : ea_H), fct (J53 x1 x2 x3 x4 y5 h) (fun f => J53_ f x1 x2 x3 x4 y5 h)) {x1 : Int32} {x2 : Int32} {x3 : Int32} {x4 : Int32} {h : ea_H} : fct (BX10_takeRun_8 J53 x1 x2 x3 x4 h) (fun f => BX10_takeRun_8 (J53_ f) x1 x2 x3 x4 h) :=
  (fct_ite (fct_rfl _) (fct_gd (fct_let fun _ => (fct_ite (mJ53 _ _ _ _ _ _) (fct_bind (fct_rfl _) fun _ => (fct_let fun _ => (mJ53 _ _ _ _ _ _)))))))
noncomputable def BX10_takeRun_53 (J8 : Int32 → Int32 → Int32 → Int32 → ea_H → Option (Unit × ea_H)) (J123 : Int32 → Int32 → Int32 → Int32 → Int64 → Int32 → ea_H → Option (Unit × ea_H)) (x1 : Int32) (x2 : Int32) (x3 : Int32) (x4 : Int32) (y5 : Int64) (h : ea_H) : Option (Unit × ea_H) :=
  (ea_let (((12 : Int32) * x2) + x4) fun (v8 : Int32) => (gd (vp_in v8 144) (if (0 : Int32) ≤ (lg_cmp y5 (ea_j h 17 (Int32.toNatClampNeg v8))) then (J8 (x1 : Int32) (x2 : Int32) (x3 : Int32) ((x4 + (1 : Int32)) : Int32) h) else (gd (vp_in v8 144) (Option.bind (qX10_takenAt ((ea_j h 17 (Int32.toNatClampNeg v8)) : Int64) h) fun w11 => (Option.bind (qX10_minuteIn (x1 : Int32) w11.2) fun w12 => (if w11.1 = w12.1 then (gd (vp_in v8 144) (Option.bind (qX10_slotOf ((ea_j w12.2 17 (Int32.toNatClampNeg v8)) : Int64) w12.2) fun w14 => (gd (vp_in w14.1 560) (gd (vp_in w14.1 560) (ea_let (ea_wj w14.2 15 (Int32.toNatClampNeg w14.1) ((ea_j w14.2 15 (Int32.toNatClampNeg w14.1)) &&& (((7 : Int64) <<< (Int32.toInt64 ((3 : Int32) * x4) &&& 63)) ^^^ ((-1) : Int64)))) fun H17 => (J123 (x1 : Int32) (x2 : Int32) (x3 : Int32) (x4 : Int32) (y5 : Int64) (v8 : Int32) H17)))))) else (J123 (x1 : Int32) (x2 : Int32) (x3 : Int32) (x4 : Int32) (y5 : Int64) (v8 : Int32) w12.2))))))))
theorem tBX10_takeRun_53 {d : Nat} {h0 : ea_H} (hd : 3 ≤ d) {J8 : Int32 → Int32 → Int32 → Int32 → ea_H → Option (Unit × ea_H)} {J123 : Int32 → Int32 → Int32 → Int32 → Int64 → Int32 → ea_H → Option (Unit × ea_H)}  (kJ8 : ∀ (x1 : Int32) (x2 : Int32) (x3 : Int32) (x4 : Int32) (h : ea_H) (r : Unit) (h' : ea_H), J8 x1 x2 x3 x4 h = some (r, h') → ShC h → ea_W mX10_takeRun d h0 none h' 8 [(0, vR (some 13)), (1, vI x1), (2, vI x2), (3, vI x3), (4, vI x4)] [] h) (kJ123 : ∀ (x1 : Int32) (x2 : Int32) (x3 : Int32) (x4 : Int32) (y5 : Int64) (x7 : Int32) (h : ea_H) (r : Unit) (h' : ea_H), J123 x1 x2 x3 x4 y5 x7 h = some (r, h') → ShC h → ea_W mX10_takeRun d h0 none h' 123 [(0, vR (some 13)), (1, vI x1), (2, vI x2), (3, vI x3), (4, vI x4), (5, vJ y5), (7, vI x7)] [] h) {x1 : Int32} {x2 : Int32} {x3 : Int32} {x4 : Int32} {y5 : Int64} {h : ea_H} {r : Unit} {h' : ea_H} (E : BX10_takeRun_53 J8 J123 x1 x2 x3 x4 y5 h = some (r, h')) (hs : ShC h) : ea_W mX10_takeRun d h0 none h' 53 [(0, vR (some 13)), (1, vI x1), (2, vI x2), (3, vI x3), (4, vI x4), (5, vJ y5)] [] h := by
  unfold BX10_takeRun_53 at E
  obtain ⟨v8, ev8, E⟩ := let_some E
  refine ea_bipush (pc := 53) dX10_takeRun_53 (v := 12) rfl ?_
  refine ea_iload_n (pc := 55) dX10_takeRun_55 rfl 2 rfl ?_
  refine ea_imul (pc := 56) dX10_takeRun_56 ?_
  refine ea_iload (pc := 57) dX10_takeRun_57 4 rfl ?_
  refine ea_iadd (pc := 59) dX10_takeRun_59 ?_
  obtain ⟨z9, E⟩ := gd_some E
  refine ea_istore (pc := 60) (lv' := [(0, vR (some 13)), (1, vI x1), (2, vI x2), (3, vI x3), (4, vI x4), (5, vJ y5), (7, vI v8)]) dX10_takeRun_60 (Nat.le_of_ble_eq_true rfl) [1, 2, 3, 4, 5, 6, 0] (by rw [ev8]; rfl) ?_
  refine ea_lload (pc := 62) dX10_takeRun_62 5 rfl ?_
  refine ea_aload_n (pc := 64) dX10_takeRun_64 rfl 0 rfl ?_
  refine ea_getR (pc := 65) dX10_takeRun_65 ec_10 (k := 6) (Nat.le_of_ble_eq_true rfl) rfl (Or.inl ew_241) (cShC_13 hs).1 (cShC_13 hs).2.1 (rShC_13_6 hs) ?_
  refine ea_iload (pc := 68) dX10_takeRun_68 6 rfl ?_
  refine ea_lald (pc := 70) dX10_takeRun_70 (cShC_17 hs).1 (cShC_17 hs).2.1 (ea_vpl (cShC_17 hs).2.2 z9) ?_
  refine ea_lcmp (pc := 71) dX10_takeRun_71 ?_
  refine ea_if_ge (pc := 72) (tgt := 152) dX10_takeRun_72 rfl (fun c19 => ?_) (fun c19 => ?_)
  · have E := (if_pos c19).symm.trans E
    refine ea_iinc (pc := 152) (v := 1) (lv' := [(0, vR (some 13)), (1, vI x1), (2, vI x2), (3, vI x3), (4, vI (x4 + (1 : Int32)))]) dX10_takeRun_152 4 rfl rfl (Nat.le_of_ble_eq_true rfl) [1, 2, 3, 4, 0] rfl ?_
    refine ea_goto (pc := 155) (tgt := 8) dX10_takeRun_155 rfl ?_
    exact (kJ8 (x1 : Int32) (x2 : Int32) (x3 : Int32) ((x4 + (1 : Int32)) : Int32) h _ _ E hs)
  · have E := (if_neg c19).symm.trans E
    obtain ⟨z10, E⟩ := gd_some E
    refine ea_aload_n (pc := 75) dX10_takeRun_75 rfl 0 rfl ?_
    refine ea_aload_n (pc := 76) dX10_takeRun_76 rfl 0 rfl ?_
    refine ea_getR (pc := 77) dX10_takeRun_77 ec_10 (k := 6) (Nat.le_of_ble_eq_true rfl) rfl (Or.inl ew_241) (cShC_13 hs).1 (cShC_13 hs).2.1 (rShC_13_6 hs) ?_
    refine ea_iload (pc := 80) dX10_takeRun_80 6 rfl ?_
    obtain ⟨w11, Ew11, E⟩ := bd_some E
    have hsw11 : ShC w11.2 := ShC_core ((kpX10_takenAt _ _) _ Ew11) hs
    refine ea_lald (pc := 82) dX10_takeRun_82 (cShC_17 hs).1 (cShC_17 hs).2.1 (ea_vpl (cShC_17 hs).2.2 z10) ?_
    refine ea_callV (pc := 83) (d' := d - 1) (As := [vJ (ea_j h 17 (Int32.toNatClampNeg v8))]) (st := []) dX10_takeRun_83 kX10_takenAt (sX10_takenAt (d := d - 1) (by omega) hs Ew11) (by omega) rfl (Nat.le_of_ble_eq_true rfl) ew_798 ew_800 ew_9 (ci := 10) rfl (by decide) (cShC_13 hs).1 (cShC_13 hs).2.1 ?_
    obtain ⟨w12, Ew12, E⟩ := bd_some E
    have hsw12 : ShC w12.2 := ShC_core ((kpX10_minuteIn _ _) _ Ew12) hsw11
    refine ea_iload_n (pc := 86) dX10_takeRun_86 rfl 1 rfl ?_
    refine ea_callS (pc := 87) (d' := d - 1) (As := [vI x1]) (st := [vI w11.1]) dX10_takeRun_87 kX10_minuteIn (sX10_minuteIn (d := d - 1) (by omega) Ew12) (by omega) rfl (Nat.le_of_ble_eq_true rfl) ew_811 ew_812 ?_
    refine ea_icmp_ne (pc := 90) (tgt := 123) dX10_takeRun_90 rfl (fun c18 => ?_) (fun c18 => ?_)
    · have E := (if_neg c18).symm.trans E
      exact (kJ123 (x1 : Int32) (x2 : Int32) (x3 : Int32) (x4 : Int32) (y5 : Int64) (v8 : Int32) w12.2 _ _ E hsw12)
    · have E := (if_pos c18).symm.trans E
      obtain ⟨z13, E⟩ := gd_some E
      refine ea_aload_n (pc := 93) dX10_takeRun_93 rfl 0 rfl ?_
      refine ea_getR (pc := 94) dX10_takeRun_94 ec_10 (k := 4) (Nat.le_of_ble_eq_true rfl) rfl (Or.inl ew_239) (cShC_13 hsw12).1 (cShC_13 hsw12).2.1 (rShC_13_4 hsw12) ?_
      refine ea_aload_n (pc := 97) dX10_takeRun_97 rfl 0 rfl ?_
      refine ea_getR (pc := 98) dX10_takeRun_98 ec_10 (k := 6) (Nat.le_of_ble_eq_true rfl) rfl (Or.inl ew_241) (cShC_13 hsw12).1 (cShC_13 hsw12).2.1 (rShC_13_6 hsw12) ?_
      refine ea_iload (pc := 101) dX10_takeRun_101 6 rfl ?_
      obtain ⟨w14, Ew14, E⟩ := bd_some E
      have hsw14 : ShC w14.2 := ShC_core ((kpX10_slotOf _ _) _ Ew14) hsw12
      refine ea_lald (pc := 103) dX10_takeRun_103 (cShC_17 hsw12).1 (cShC_17 hsw12).2.1 (ea_vpl (cShC_17 hsw12).2.2 z13) ?_
      refine ea_callS (pc := 104) (d' := d - 1) (As := [vJ (ea_j w12.2 17 (Int32.toNatClampNeg v8))]) (st := [vR (some 15)]) dX10_takeRun_104 kX10_slotOf (sX10_slotOf (d := d - 1) (by omega) Ew14) (by omega) rfl (Nat.le_of_ble_eq_true rfl) ew_814 ew_815 ?_
      obtain ⟨z15, E⟩ := gd_some E
      refine ea_dup2 (pc := 107) dX10_takeRun_107 rfl rfl ?_
      obtain ⟨z16, E⟩ := gd_some E
      refine ea_lald (pc := 108) dX10_takeRun_108 (cShC_15 hsw14).1 (cShC_15 hsw14).2.1 (ea_vpl (cShC_15 hsw14).2.2 z15) ?_
      refine ea_ldc2 (pc := 109) dX10_takeRun_109 ew_817 ?_
      refine ea_iconst (pc := 112) dX10_takeRun_112 (v := 3) rfl ?_
      refine ea_iload (pc := 113) dX10_takeRun_113 4 rfl ?_
      refine ea_imul (pc := 115) dX10_takeRun_115 ?_
      refine ea_lshl (pc := 116) dX10_takeRun_116 ?_
      refine ea_ldc2 (pc := 117) dX10_takeRun_117 ew_818 ?_
      refine ea_lxor (pc := 120) dX10_takeRun_120 ?_
      refine ea_land (pc := 121) dX10_takeRun_121 ?_
      obtain ⟨H17, eH17, E⟩ := let_some E
      refine ea_last (pc := 122) dX10_takeRun_122 (cShC_15 hsw14).1 (cShC_15 hsw14).2.1 (ea_vpl (cShC_15 hsw14).2.2 z16) ?_
      refine ea_nm eH17 ?_
      have hsH17 : ShC H17 := by rw [eH17]; exact hsw14
      exact (kJ123 (x1 : Int32) (x2 : Int32) (x3 : Int32) (x4 : Int32) (y5 : Int64) (v8 : Int32) H17 _ _ E hsH17)
theorem kBX10_takeRun_53 {J8 : Int32 → Int32 → Int32 → Int32 → ea_H → Option (Unit × ea_H)} {J123 : Int32 → Int32 → Int32 → Int32 → Int64 → Int32 → ea_H → Option (Unit × ea_H)}  (cJ8 : ∀ (x1 : Int32) (x2 : Int32) (x3 : Int32) (x4 : Int32) (h : ea_H), kp (ea_core h) (J8 x1 x2 x3 x4 h)) (cJ123 : ∀ (x1 : Int32) (x2 : Int32) (x3 : Int32) (x4 : Int32) (y5 : Int64) (x7 : Int32) (h : ea_H), kp (ea_core h) (J123 x1 x2 x3 x4 y5 x7 h)) {x1 : Int32} {x2 : Int32} {x3 : Int32} {x4 : Int32} {y5 : Int64} {h : ea_H} : kp (ea_core h) (BX10_takeRun_53 J8 J123 x1 x2 x3 x4 y5 h) :=
  (kp_let (kp_gd (kp_ite (kp_tw (cJ8 _ _ _ _ _) rfl) (kp_gd (kp_bind (kp_tw (kpX10_takenAt _ _) rfl) fun w11 hcw11 => (kp_bind (kp_tw (kpX10_minuteIn _ _) hcw11) fun w12 hcw12 => (kp_ite (kp_gd (kp_bind (kp_tw (kpX10_slotOf _ _) hcw12) fun w14 hcw14 => (kp_gd (kp_gd (kp_let (kp_tw (cJ123 _ _ _ _ _ _ _) hcw14)))))) (kp_tw (cJ123 _ _ _ _ _ _ _) hcw12))))))))
theorem lBX10_takeRun_53 {J8 : Int32 → Int32 → Int32 → Int32 → ea_H → Option (Unit × ea_H)} {J123 : Int32 → Int32 → Int32 → Int32 → Int64 → Int32 → ea_H → Option (Unit × ea_H)} {J8_ : Int32 → Int32 → Int32 → Int32 → ea_H → Option (Unit × ea_H)} {J123_ : Int32 → Int32 → Int32 → Int32 → Int64 → Int32 → ea_H → Option (Unit × ea_H)}  (mJ8 : ∀ (x1 : Int32) (x2 : Int32) (x3 : Int32) (x4 : Int32) (h : ea_H), fle (J8 x1 x2 x3 x4 h) (J8_ x1 x2 x3 x4 h)) (mJ123 : ∀ (x1 : Int32) (x2 : Int32) (x3 : Int32) (x4 : Int32) (y5 : Int64) (x7 : Int32) (h : ea_H), fle (J123 x1 x2 x3 x4 y5 x7 h) (J123_ x1 x2 x3 x4 y5 x7 h)) {x1 : Int32} {x2 : Int32} {x3 : Int32} {x4 : Int32} {y5 : Int64} {h : ea_H} : fle (BX10_takeRun_53 J8 J123 x1 x2 x3 x4 y5 h) (BX10_takeRun_53 J8_ J123_ x1 x2 x3 x4 y5 h) :=
  (fle_let fun _ => (fle_gd (fle_ite (mJ8 _ _ _ _ _) (fle_gd (fle_bind (fle_rfl _) fun _ => (fle_bind (fle_rfl _) fun _ => (fle_ite (fle_gd (fle_bind (fle_rfl _) fun _ => (fle_gd (fle_gd (fle_let fun _ => (mJ123 _ _ _ _ _ _ _)))))) (mJ123 _ _ _ _ _ _ _))))))))
theorem nBX10_takeRun_53 {J8 : Int32 → Int32 → Int32 → Int32 → ea_H → Option (Unit × ea_H)} {J123 : Int32 → Int32 → Int32 → Int32 → Int64 → Int32 → ea_H → Option (Unit × ea_H)} {J8_ : Nat → (Int32 → Int32 → Int32 → Int32 → ea_H → Option (Unit × ea_H))} {J123_ : Nat → (Int32 → Int32 → Int32 → Int32 → Int64 → Int32 → ea_H → Option (Unit × ea_H))}  (mJ8 : ∀ (x1 : Int32) (x2 : Int32) (x3 : Int32) (x4 : Int32) (h : ea_H), fct (J8 x1 x2 x3 x4 h) (fun f => J8_ f x1 x2 x3 x4 h)) (mJ123 : ∀ (x1 : Int32) (x2 : Int32) (x3 : Int32) (x4 : Int32) (y5 : Int64) (x7 : Int32) (h : ea_H), fct (J123 x1 x2 x3 x4 y5 x7 h) (fun f => J123_ f x1 x2 x3 x4 y5 x7 h)) {x1 : Int32} {x2 : Int32} {x3 : Int32} {x4 : Int32} {y5 : Int64} {h : ea_H} : fct (BX10_takeRun_53 J8 J123 x1 x2 x3 x4 y5 h) (fun f => BX10_takeRun_53 (J8_ f) (J123_ f) x1 x2 x3 x4 y5 h) :=
  (fct_let fun _ => (fct_gd (fct_ite (mJ8 _ _ _ _ _) (fct_gd (fct_bind (fct_rfl _) fun _ => (fct_bind (fct_rfl _) fun _ => (fct_ite (fct_gd (fct_bind (fct_rfl _) fun _ => (fct_gd (fct_gd (fct_let fun _ => (mJ123 _ _ _ _ _ _ _)))))) (mJ123 _ _ _ _ _ _ _))))))))
noncomputable def BX10_takeRun_123 (J8 : Int32 → Int32 → Int32 → Int32 → ea_H → Option (Unit × ea_H)) (x1 : Int32) (x2 : Int32) (x3 : Int32) (x4 : Int32) (y5 : Int64) (x7 : Int32) (h : ea_H) : Option (Unit × ea_H) :=
  (gd (vp_in x3 560) (gd (vp_in x3 560) (ea_let (ea_wj h 15 (Int32.toNatClampNeg x3) ((ea_j h 15 (Int32.toNatClampNeg x3)) ||| ((y5 &&& (7 : Int64)) <<< (Int32.toInt64 ((3 : Int32) * x4) &&& 63)))) fun H22 => (gd (vp_in x7 144) (ea_let (ea_wj H22 17 (Int32.toNatClampNeg x7) y5) fun H24 => (J8 (x1 : Int32) (x2 : Int32) (x3 : Int32) ((x4 + (1 : Int32)) : Int32) H24))))))
theorem tBX10_takeRun_123 {d : Nat} {h0 : ea_H} (hd : 3 ≤ d) {J8 : Int32 → Int32 → Int32 → Int32 → ea_H → Option (Unit × ea_H)}  (kJ8 : ∀ (x1 : Int32) (x2 : Int32) (x3 : Int32) (x4 : Int32) (h : ea_H) (r : Unit) (h' : ea_H), J8 x1 x2 x3 x4 h = some (r, h') → ShC h → ea_W mX10_takeRun d h0 none h' 8 [(0, vR (some 13)), (1, vI x1), (2, vI x2), (3, vI x3), (4, vI x4)] [] h) {x1 : Int32} {x2 : Int32} {x3 : Int32} {x4 : Int32} {y5 : Int64} {x7 : Int32} {h : ea_H} {r : Unit} {h' : ea_H} (E : BX10_takeRun_123 J8 x1 x2 x3 x4 y5 x7 h = some (r, h')) (hs : ShC h) : ea_W mX10_takeRun d h0 none h' 123 [(0, vR (some 13)), (1, vI x1), (2, vI x2), (3, vI x3), (4, vI x4), (5, vJ y5), (7, vI x7)] [] h := by
  unfold BX10_takeRun_123 at E
  obtain ⟨z20, E⟩ := gd_some E
  refine ea_aload_n (pc := 123) dX10_takeRun_123 rfl 0 rfl ?_
  refine ea_getR (pc := 124) dX10_takeRun_124 ec_10 (k := 4) (Nat.le_of_ble_eq_true rfl) rfl (Or.inl ew_239) (cShC_13 hs).1 (cShC_13 hs).2.1 (rShC_13_4 hs) ?_
  refine ea_iload_n (pc := 127) dX10_takeRun_127 rfl 3 rfl ?_
  refine ea_dup2 (pc := 128) dX10_takeRun_128 rfl rfl ?_
  obtain ⟨z21, E⟩ := gd_some E
  refine ea_lald (pc := 129) dX10_takeRun_129 (cShC_15 hs).1 (cShC_15 hs).2.1 (ea_vpl (cShC_15 hs).2.2 z20) ?_
  refine ea_lload (pc := 130) dX10_takeRun_130 5 rfl ?_
  refine ea_ldc2 (pc := 132) dX10_takeRun_132 ew_817 ?_
  refine ea_land (pc := 135) dX10_takeRun_135 ?_
  refine ea_iconst (pc := 136) dX10_takeRun_136 (v := 3) rfl ?_
  refine ea_iload (pc := 137) dX10_takeRun_137 4 rfl ?_
  refine ea_imul (pc := 139) dX10_takeRun_139 ?_
  refine ea_lshl (pc := 140) dX10_takeRun_140 ?_
  refine ea_lor (pc := 141) dX10_takeRun_141 ?_
  obtain ⟨H22, eH22, E⟩ := let_some E
  refine ea_last (pc := 142) dX10_takeRun_142 (cShC_15 hs).1 (cShC_15 hs).2.1 (ea_vpl (cShC_15 hs).2.2 z21) ?_
  refine ea_nm eH22 ?_
  have hsH22 : ShC H22 := by rw [eH22]; exact hs
  obtain ⟨z23, E⟩ := gd_some E
  refine ea_aload_n (pc := 143) dX10_takeRun_143 rfl 0 rfl ?_
  refine ea_getR (pc := 144) dX10_takeRun_144 ec_10 (k := 6) (Nat.le_of_ble_eq_true rfl) rfl (Or.inl ew_241) (cShC_13 hsH22).1 (cShC_13 hsH22).2.1 (rShC_13_6 hsH22) ?_
  refine ea_iload (pc := 147) dX10_takeRun_147 6 rfl ?_
  refine ea_lload (pc := 149) dX10_takeRun_149 5 rfl ?_
  obtain ⟨H24, eH24, E⟩ := let_some E
  refine ea_last (pc := 151) dX10_takeRun_151 (cShC_17 hsH22).1 (cShC_17 hsH22).2.1 (ea_vpl (cShC_17 hsH22).2.2 z23) ?_
  refine ea_nm eH24 ?_
  have hsH24 : ShC H24 := by rw [eH24]; exact hsH22
  refine ea_iinc (pc := 152) (v := 1) (lv' := [(0, vR (some 13)), (1, vI x1), (2, vI x2), (3, vI x3), (4, vI (x4 + (1 : Int32)))]) dX10_takeRun_152 4 rfl rfl (Nat.le_of_ble_eq_true rfl) [1, 2, 3, 4, 0] rfl ?_
  refine ea_goto (pc := 155) (tgt := 8) dX10_takeRun_155 rfl ?_
  exact (kJ8 (x1 : Int32) (x2 : Int32) (x3 : Int32) ((x4 + (1 : Int32)) : Int32) H24 _ _ E hsH24)
theorem kBX10_takeRun_123 {J8 : Int32 → Int32 → Int32 → Int32 → ea_H → Option (Unit × ea_H)}  (cJ8 : ∀ (x1 : Int32) (x2 : Int32) (x3 : Int32) (x4 : Int32) (h : ea_H), kp (ea_core h) (J8 x1 x2 x3 x4 h)) {x1 : Int32} {x2 : Int32} {x3 : Int32} {x4 : Int32} {y5 : Int64} {x7 : Int32} {h : ea_H} : kp (ea_core h) (BX10_takeRun_123 J8 x1 x2 x3 x4 y5 x7 h) :=
  (kp_gd (kp_gd (kp_let (kp_gd (kp_let (kp_tw (cJ8 _ _ _ _ _) rfl))))))
theorem lBX10_takeRun_123 {J8 : Int32 → Int32 → Int32 → Int32 → ea_H → Option (Unit × ea_H)} {J8_ : Int32 → Int32 → Int32 → Int32 → ea_H → Option (Unit × ea_H)}  (mJ8 : ∀ (x1 : Int32) (x2 : Int32) (x3 : Int32) (x4 : Int32) (h : ea_H), fle (J8 x1 x2 x3 x4 h) (J8_ x1 x2 x3 x4 h)) {x1 : Int32} {x2 : Int32} {x3 : Int32} {x4 : Int32} {y5 : Int64} {x7 : Int32} {h : ea_H} : fle (BX10_takeRun_123 J8 x1 x2 x3 x4 y5 x7 h) (BX10_takeRun_123 J8_ x1 x2 x3 x4 y5 x7 h) :=
  (fle_gd (fle_gd (fle_let fun _ => (fle_gd (fle_let fun _ => (mJ8 _ _ _ _ _))))))
theorem nBX10_takeRun_123 {J8 : Int32 → Int32 → Int32 → Int32 → ea_H → Option (Unit × ea_H)} {J8_ : Nat → (Int32 → Int32 → Int32 → Int32 → ea_H → Option (Unit × ea_H))}  (mJ8 : ∀ (x1 : Int32) (x2 : Int32) (x3 : Int32) (x4 : Int32) (h : ea_H), fct (J8 x1 x2 x3 x4 h) (fun f => J8_ f x1 x2 x3 x4 h)) {x1 : Int32} {x2 : Int32} {x3 : Int32} {x4 : Int32} {y5 : Int64} {x7 : Int32} {h : ea_H} : fct (BX10_takeRun_123 J8 x1 x2 x3 x4 y5 x7 h) (fun f => BX10_takeRun_123 (J8_ f) x1 x2 x3 x4 y5 x7 h) :=
  (fct_gd (fct_gd (fct_let fun _ => (fct_gd (fct_let fun _ => (mJ8 _ _ _ _ _))))))
noncomputable def gX10_takeRun : Nat → (Int32 → Int32 → ea_H → Option (Unit × ea_H)) × (Int32 → Int32 → Int32 → Int32 → ea_H → Option (Unit × ea_H)) × (Int32 → Int32 → Int32 → Int32 → Int64 → ea_H → Option (Unit × ea_H)) × (Int32 → Int32 → Int32 → Int32 → Int64 → Int32 → ea_H → Option (Unit × ea_H))
  | 0 => (fun _ _ _ => none, fun _ _ _ _ _ => none, fun _ _ _ _ _ _ => none, fun _ _ _ _ _ _ _ => none)
  | f + 1 => (BX10_takeRun_0 (gX10_takeRun f).2.1, BX10_takeRun_8 (gX10_takeRun f).2.2.1, BX10_takeRun_53 (gX10_takeRun f).2.1 (gX10_takeRun f).2.2.2, BX10_takeRun_123 (gX10_takeRun f).2.1)
theorem mgX10_takeRun : ∀ f : Nat, (∀ (x1 : Int32) (x2 : Int32) (h : ea_H), fle ((gX10_takeRun f).1 x1 x2 h) ((gX10_takeRun (f + 1)).1 x1 x2 h)) ∧ (∀ (x1 : Int32) (x2 : Int32) (x3 : Int32) (x4 : Int32) (h : ea_H), fle ((gX10_takeRun f).2.1 x1 x2 x3 x4 h) ((gX10_takeRun (f + 1)).2.1 x1 x2 x3 x4 h)) ∧ (∀ (x1 : Int32) (x2 : Int32) (x3 : Int32) (x4 : Int32) (y5 : Int64) (h : ea_H), fle ((gX10_takeRun f).2.2.1 x1 x2 x3 x4 y5 h) ((gX10_takeRun (f + 1)).2.2.1 x1 x2 x3 x4 y5 h)) ∧ (∀ (x1 : Int32) (x2 : Int32) (x3 : Int32) (x4 : Int32) (y5 : Int64) (x7 : Int32) (h : ea_H), fle ((gX10_takeRun f).2.2.2 x1 x2 x3 x4 y5 x7 h) ((gX10_takeRun (f + 1)).2.2.2 x1 x2 x3 x4 y5 x7 h)) := by
  intro f
  induction f with
  | zero => exact ⟨fun _ _ _ => fle_none _, fun _ _ _ _ _ => fle_none _, fun _ _ _ _ _ _ => fle_none _, fun _ _ _ _ _ _ _ => fle_none _⟩
  | succ f ih => exact ⟨fun _ _ _ => lBX10_takeRun_0 ih.2.1, fun _ _ _ _ _ => lBX10_takeRun_8 ih.2.2.1, fun _ _ _ _ _ _ => lBX10_takeRun_53 ih.2.1 ih.2.2.2, fun _ _ _ _ _ _ _ => lBX10_takeRun_123 ih.2.1⟩
noncomputable def qX10_takeRun_0 (x1 : Int32) (x2 : Int32) (h : ea_H) : Option (Unit × ea_H) := flim fun f => (gX10_takeRun f).1 x1 x2 h
noncomputable def qX10_takeRun_8 (x1 : Int32) (x2 : Int32) (x3 : Int32) (x4 : Int32) (h : ea_H) : Option (Unit × ea_H) := flim fun f => (gX10_takeRun f).2.1 x1 x2 x3 x4 h
noncomputable def qX10_takeRun_53 (x1 : Int32) (x2 : Int32) (x3 : Int32) (x4 : Int32) (y5 : Int64) (h : ea_H) : Option (Unit × ea_H) := flim fun f => (gX10_takeRun f).2.2.1 x1 x2 x3 x4 y5 h
noncomputable def qX10_takeRun_123 (x1 : Int32) (x2 : Int32) (x3 : Int32) (x4 : Int32) (y5 : Int64) (x7 : Int32) (h : ea_H) : Option (Unit × ea_H) := flim fun f => (gX10_takeRun f).2.2.2 x1 x2 x3 x4 y5 x7 h
theorem fqX10_takeRun_0 (x1 : Int32) (x2 : Int32) (h : ea_H) : fct (qX10_takeRun_0 x1 x2 h) fun f => (gX10_takeRun f).1 x1 x2 h := flim_ct fun f => (mgX10_takeRun f).1 x1 x2 h
theorem fqX10_takeRun_8 (x1 : Int32) (x2 : Int32) (x3 : Int32) (x4 : Int32) (h : ea_H) : fct (qX10_takeRun_8 x1 x2 x3 x4 h) fun f => (gX10_takeRun f).2.1 x1 x2 x3 x4 h := flim_ct fun f => (mgX10_takeRun f).2.1 x1 x2 x3 x4 h
theorem fqX10_takeRun_53 (x1 : Int32) (x2 : Int32) (x3 : Int32) (x4 : Int32) (y5 : Int64) (h : ea_H) : fct (qX10_takeRun_53 x1 x2 x3 x4 y5 h) fun f => (gX10_takeRun f).2.2.1 x1 x2 x3 x4 y5 h := flim_ct fun f => (mgX10_takeRun f).2.2.1 x1 x2 x3 x4 y5 h
theorem fqX10_takeRun_123 (x1 : Int32) (x2 : Int32) (x3 : Int32) (x4 : Int32) (y5 : Int64) (x7 : Int32) (h : ea_H) : fct (qX10_takeRun_123 x1 x2 x3 x4 y5 x7 h) fun f => (gX10_takeRun f).2.2.2 x1 x2 x3 x4 y5 x7 h := flim_ct fun f => (mgX10_takeRun f).2.2.2 x1 x2 x3 x4 y5 x7 h
/-- how a block opens -/
theorem uqX10_takeRun_0 {x1 : Int32} {x2 : Int32} {h : ea_H} {P : Unit × ea_H → Prop} (H : sat (BX10_takeRun_0 qX10_takeRun_8 x1 x2 h) P) : sat (qX10_takeRun_0 x1 x2 h) P := by
  obtain ⟨x, e, hp⟩ := H
  obtain ⟨n, hn⟩ := nBX10_takeRun_0 fqX10_takeRun_8 x e
  exact ⟨x, flim_at (fun f => (mgX10_takeRun f).1 x1 x2 h) (f := n + 1) (hn n (Nat.le_refl _)), hp⟩
/-- how a block opens -/
theorem uqX10_takeRun_8 {x1 : Int32} {x2 : Int32} {x3 : Int32} {x4 : Int32} {h : ea_H} {P : Unit × ea_H → Prop} (H : sat (BX10_takeRun_8 qX10_takeRun_53 x1 x2 x3 x4 h) P) : sat (qX10_takeRun_8 x1 x2 x3 x4 h) P := by
  obtain ⟨x, e, hp⟩ := H
  obtain ⟨n, hn⟩ := nBX10_takeRun_8 fqX10_takeRun_53 x e
  exact ⟨x, flim_at (fun f => (mgX10_takeRun f).2.1 x1 x2 x3 x4 h) (f := n + 1) (hn n (Nat.le_refl _)), hp⟩
/-- how a block opens -/
theorem uqX10_takeRun_53 {x1 : Int32} {x2 : Int32} {x3 : Int32} {x4 : Int32} {y5 : Int64} {h : ea_H} {P : Unit × ea_H → Prop} (H : sat (BX10_takeRun_53 qX10_takeRun_8 qX10_takeRun_123 x1 x2 x3 x4 y5 h) P) : sat (qX10_takeRun_53 x1 x2 x3 x4 y5 h) P := by
  obtain ⟨x, e, hp⟩ := H
  obtain ⟨n, hn⟩ := nBX10_takeRun_53 fqX10_takeRun_8 fqX10_takeRun_123 x e
  exact ⟨x, flim_at (fun f => (mgX10_takeRun f).2.2.1 x1 x2 x3 x4 y5 h) (f := n + 1) (hn n (Nat.le_refl _)), hp⟩
/-- how a block opens -/
theorem uqX10_takeRun_123 {x1 : Int32} {x2 : Int32} {x3 : Int32} {x4 : Int32} {y5 : Int64} {x7 : Int32} {h : ea_H} {P : Unit × ea_H → Prop} (H : sat (BX10_takeRun_123 qX10_takeRun_8 x1 x2 x3 x4 y5 x7 h) P) : sat (qX10_takeRun_123 x1 x2 x3 x4 y5 x7 h) P := by
  obtain ⟨x, e, hp⟩ := H
  obtain ⟨n, hn⟩ := nBX10_takeRun_123 fqX10_takeRun_8 x e
  exact ⟨x, flim_at (fun f => (mgX10_takeRun f).2.2.2 x1 x2 x3 x4 y5 x7 h) (f := n + 1) (hn n (Nat.le_refl _)), hp⟩
theorem kgX10_takeRun : ∀ f : Nat, (∀ (x1 : Int32) (x2 : Int32) (h : ea_H), kp (ea_core h) ((gX10_takeRun f).1 x1 x2 h)) ∧ (∀ (x1 : Int32) (x2 : Int32) (x3 : Int32) (x4 : Int32) (h : ea_H), kp (ea_core h) ((gX10_takeRun f).2.1 x1 x2 x3 x4 h)) ∧ (∀ (x1 : Int32) (x2 : Int32) (x3 : Int32) (x4 : Int32) (y5 : Int64) (h : ea_H), kp (ea_core h) ((gX10_takeRun f).2.2.1 x1 x2 x3 x4 y5 h)) ∧ (∀ (x1 : Int32) (x2 : Int32) (x3 : Int32) (x4 : Int32) (y5 : Int64) (x7 : Int32) (h : ea_H), kp (ea_core h) ((gX10_takeRun f).2.2.2 x1 x2 x3 x4 y5 x7 h)) := by
  intro f
  induction f with
  | zero => exact ⟨fun _ _ _ => kp_none _, fun _ _ _ _ _ => kp_none _, fun _ _ _ _ _ _ => kp_none _, fun _ _ _ _ _ _ _ => kp_none _⟩
  | succ f ih => exact ⟨fun _ _ _ => kBX10_takeRun_0 ih.2.1, fun _ _ _ _ _ => kBX10_takeRun_8 ih.2.2.1, fun _ _ _ _ _ _ => kBX10_takeRun_53 ih.2.1 ih.2.2.2, fun _ _ _ _ _ _ _ => kBX10_takeRun_123 ih.2.1⟩
theorem tgX10_takeRun {d : Nat} {h0 : ea_H} (hd : 3 ≤ d) : ∀ f : Nat, (∀ (x1 : Int32) (x2 : Int32) (h : ea_H) (r : Unit) (h' : ea_H), (gX10_takeRun f).1 x1 x2 h = some (r, h') → ShC h → ea_W mX10_takeRun d h0 none h' 0 [(0, vR (some 13)), (1, vI x1), (2, vI x2)] [] h) ∧ (∀ (x1 : Int32) (x2 : Int32) (x3 : Int32) (x4 : Int32) (h : ea_H) (r : Unit) (h' : ea_H), (gX10_takeRun f).2.1 x1 x2 x3 x4 h = some (r, h') → ShC h → ea_W mX10_takeRun d h0 none h' 8 [(0, vR (some 13)), (1, vI x1), (2, vI x2), (3, vI x3), (4, vI x4)] [] h) ∧ (∀ (x1 : Int32) (x2 : Int32) (x3 : Int32) (x4 : Int32) (y5 : Int64) (h : ea_H) (r : Unit) (h' : ea_H), (gX10_takeRun f).2.2.1 x1 x2 x3 x4 y5 h = some (r, h') → ShC h → ea_W mX10_takeRun d h0 none h' 53 [(0, vR (some 13)), (1, vI x1), (2, vI x2), (3, vI x3), (4, vI x4), (5, vJ y5)] [] h) ∧ (∀ (x1 : Int32) (x2 : Int32) (x3 : Int32) (x4 : Int32) (y5 : Int64) (x7 : Int32) (h : ea_H) (r : Unit) (h' : ea_H), (gX10_takeRun f).2.2.2 x1 x2 x3 x4 y5 x7 h = some (r, h') → ShC h → ea_W mX10_takeRun d h0 none h' 123 [(0, vR (some 13)), (1, vI x1), (2, vI x2), (3, vI x3), (4, vI x4), (5, vJ y5), (7, vI x7)] [] h) := by
  intro f
  induction f with
  | zero => exact ⟨fun _ _ _ _ _ E => no_some E, fun _ _ _ _ _ _ _ E => no_some E, fun _ _ _ _ _ _ _ _ E => no_some E, fun _ _ _ _ _ _ _ _ _ E => no_some E⟩
  | succ f ih => exact ⟨fun _ _ _ _ _ E hs => tBX10_takeRun_0 hd ih.2.1 E hs, fun _ _ _ _ _ _ _ E hs => tBX10_takeRun_8 hd ih.2.2.1 E hs, fun _ _ _ _ _ _ _ _ E hs => tBX10_takeRun_53 hd ih.2.1 ih.2.2.2 E hs, fun _ _ _ _ _ _ _ _ _ E hs => tBX10_takeRun_123 hd ih.2.1 E hs⟩
noncomputable def qX10_takeRun (x1 : Int32) (x2 : Int32) (h : ea_H) : Option (Unit × ea_H) := qX10_takeRun_0 x1 x2 h
theorem sX10_takeRun {d : Nat} {x1 : Int32} {x2 : Int32} {h : ea_H} {r : Unit} {h' : ea_H} (hd : 3 ≤ d) (hs : ShC h) (K : qX10_takeRun x1 x2 h = some (r, h')) : ea_Met mX10_takeRun d [vR (some 13), vI x1, vI x2] h none h' := by
  unfold qX10_takeRun at K
  obtain ⟨n, hn⟩ := fqX10_takeRun_0 x1 x2 h _ K
  have W := (tgX10_takeRun (d := d) (h0 := h) hd n).1 x1 x2 h _ _ (hn n (Nat.le_refl _)) hs
  exact ea_enter rfl (Nat.le_of_ble_eq_true rfl) W
theorem kpX10_takeRun (x1 : Int32) (x2 : Int32) (h : ea_H) : kp (ea_core h) (qX10_takeRun x1 x2 h) := fun x e => by
  obtain ⟨n, hn⟩ := fqX10_takeRun_0 x1 x2 h x e
  exact (kgX10_takeRun n).1 x1 x2 h x (hn n (Nat.le_refl _))
noncomputable def BX11_init_0 (a0 : Nat) (J189 : Int32 → ea_H → Option (Unit × ea_H)) (h : ea_H) : Option (Unit × ea_H) :=
  (ea_let (ea_new h 7 0 4) fun H1 => (Option.bind (qX7_init (ea_n h) H1) fun w2 => (gd ((a0 < ea_n w2.2 ∧ ea_c w2.2 a0 = 11)) (ea_let (ea_wr w2.2 a0 0 (some (ea_n h))) fun H4 => (ea_let (ea_new H4 9 0 8) fun H5 => (Option.bind (qX9_init (ea_n H4) H5) fun w6 => (gd ((a0 < ea_n w6.2 ∧ ea_c w6.2 a0 = 11)) (ea_let (ea_wr w6.2 a0 1 (some (ea_n H4))) fun H8 => (ea_let (ea_new H8 10 0 7) fun H9 => (gd ((a0 < ea_n H9 ∧ ea_c H9 a0 = 11)) (Option.bind (qX10_init (ea_n H8) ((ea_r H9 a0 1) : Option Nat) H9) fun w11 => (gd ((a0 < ea_n w11.2 ∧ ea_c w11.2 a0 = 11)) (ea_let (ea_wr w11.2 a0 2 (some (ea_n H8))) fun H13 => (ea_let (ea_new H13 3 0 5) fun H14 => (Option.bind (qX3_init (ea_n H13) H14) fun w15 => (gd ((a0 < ea_n w15.2 ∧ ea_c w15.2 a0 = 11)) (ea_let (ea_wr w15.2 a0 3 (some (ea_n H13))) fun H17 => (ea_let (ea_new H17 8 0 5) fun H18 => (Option.bind (qX8_init (ea_n H17) H18) fun w19 => (gd ((a0 < ea_n w19.2 ∧ ea_c w19.2 a0 = 11)) (ea_let (ea_wr w19.2 a0 4 (some (ea_n H17))) fun H21 => (ea_let (ea_new H21 23 120 120) fun H22 => (gd ((a0 < ea_n H22 ∧ ea_c H22 a0 = 11)) (ea_let (ea_wr H22 a0 5 (some (ea_n H21))) fun H24 => (ea_let (ea_new H24 4 0 4) fun H25 => (gd ((a0 < ea_n H25 ∧ ea_c H25 a0 = 11)) (gd ((a0 < ea_n H25 ∧ ea_c H25 a0 = 11)) (gd ((a0 < ea_n H25 ∧ ea_c H25 a0 = 11)) (Option.bind (qX4_init (ea_n H24) ((ea_r H25 a0 1) : Option Nat) ((ea_r H25 a0 2) : Option Nat) ((ea_r H25 a0 5) : Option Nat) H25) fun w29 => (gd ((a0 < ea_n w29.2 ∧ ea_c w29.2 a0 = 11)) (ea_let (ea_wr w29.2 a0 6 (some (ea_n H24))) fun H31 => (ea_let (ea_new H31 1 0 16) fun H32 => (gd ((a0 < ea_n H32 ∧ ea_c H32 a0 = 11)) (gd ((a0 < ea_n H32 ∧ ea_c H32 a0 = 11)) (gd ((a0 < ea_n H32 ∧ ea_c H32 a0 = 11)) (gd ((a0 < ea_n H32 ∧ ea_c H32 a0 = 11)) (gd ((a0 < ea_n H32 ∧ ea_c H32 a0 = 11)) (Option.bind (qX1_init (ea_n H31) ((ea_r H32 a0 1) : Option Nat) ((ea_r H32 a0 2) : Option Nat) ((ea_r H32 a0 3) : Option Nat) ((ea_r H32 a0 5) : Option Nat) ((ea_r H32 a0 6) : Option Nat) H32) fun w38 => (gd ((a0 < ea_n w38.2 ∧ ea_c w38.2 a0 = 11)) (ea_let (ea_wr w38.2 a0 7 (some (ea_n H31))) fun H40 => (ea_let (ea_new H40 1 0 16) fun H41 => (gd ((a0 < ea_n H41 ∧ ea_c H41 a0 = 11)) (gd ((a0 < ea_n H41 ∧ ea_c H41 a0 = 11)) (gd ((a0 < ea_n H41 ∧ ea_c H41 a0 = 11)) (gd ((a0 < ea_n H41 ∧ ea_c H41 a0 = 11)) (Option.bind (qX1_init (ea_n H40) ((ea_r H41 a0 1) : Option Nat) ((ea_r H41 a0 2) : Option Nat) ((ea_r H41 a0 3) : Option Nat) ((ea_r H41 a0 5) : Option Nat) (none : Option Nat) H41) fun w46 => (gd ((a0 < ea_n w46.2 ∧ ea_c w46.2 a0 = 11)) (ea_let (ea_wr w46.2 a0 8 (some (ea_n H40))) fun H48 => (ea_let (ea_new H48 24 10 10) fun H49 => (gd ((a0 < ea_n H49 ∧ ea_c H49 a0 = 11)) (ea_let (ea_wr H49 a0 9 (some (ea_n H48))) fun H51 => (ea_let (ea_new H51 20 20 20) fun H52 => (gd ((a0 < ea_n H52 ∧ ea_c H52 a0 = 11)) (ea_let (ea_wr H52 a0 10 (some (ea_n H51))) fun H54 => (ea_let (ea_new H54 20 20 20) fun H55 => (gd ((a0 < ea_n H55 ∧ ea_c H55 a0 = 11)) (ea_let (ea_wr H55 a0 11 (some (ea_n H54))) fun H57 => (ea_let (ea_new H57 20 120 120) fun H58 => (gd ((a0 < ea_n H58 ∧ ea_c H58 a0 = 11)) (ea_let (ea_wr H58 a0 12 (some (ea_n H57))) fun H60 => (J189 (0 : Int32) H60)))))))))))))))))))))))))))))))))))))))))))))))))))))))))))))
theorem tBX11_init_0 {d : Nat} {a0 : Nat} {h0 : ea_H} (hd : 4 ≤ d) {J189 : Int32 → ea_H → Option (Unit × ea_H)}  (kJ189 : ∀ (x1 : Int32) (h : ea_H) (r : Unit) (h' : ea_H), J189 x1 h = some (r, h') → ea_W mX11_init d h0 none h' 189 [(0, vR (some a0)), (1, vI x1)] [] h) {h : ea_H} {r : Unit} {h' : ea_H} (E : BX11_init_0 a0 J189 h = some (r, h')) : ea_W mX11_init d h0 none h' 0 [(0, vR (some a0))] [] h := by
  unfold BX11_init_0 at E
  obtain ⟨H1, eH1, E⟩ := let_some E
  refine ea_aload_n (pc := 0) dX11_init_0 rfl 0 rfl ?_
  refine ea_objInit (pc := 1) dX11_init_1 ew_140 ew_141 ew_142 (by omega) (Nat.le_of_ble_eq_true rfl) ?_
  refine ea_aload_n (pc := 4) dX11_init_4 rfl 0 rfl ?_
  refine ea_newO (pc := 5) dX11_init_5 ec_7 ew_143 ew_144 ew_116 ?_
  refine ea_nm eH1 ?_
  obtain ⟨w2, Ew2, E⟩ := bd_some E
  refine ea_dup (pc := 8) dX11_init_8 rfl ?_
  refine ea_callI (pc := 9) (d' := d - 1) (As := []) (st := [vR (some (ea_n h)), vR (some a0)]) dX11_init_9 kX7_init (sX7_init (d := d - 1) (by omega) Ew2) (by omega) rfl (Nat.le_of_ble_eq_true rfl) ew_145 ew_146 rfl rfl ?_
  obtain ⟨f3, E⟩ := gd_some E
  obtain ⟨H4, eH4, E⟩ := let_some E
  refine ea_putR (pc := 12) dX11_init_12 ec_11 (k := 0) (Nat.le_of_ble_eq_true rfl) rfl (Or.inr ⟨rfl, rfl, rfl, ew_614⟩) f3.1 f3.2 ?_
  refine ea_nm eH4 ?_
  obtain ⟨H5, eH5, E⟩ := let_some E
  refine ea_aload_n (pc := 15) dX11_init_15 rfl 0 rfl ?_
  refine ea_newO (pc := 16) dX11_init_16 ec_9 ew_178 ew_179 ew_120 ?_
  refine ea_nm eH5 ?_
  obtain ⟨w6, Ew6, E⟩ := bd_some E
  refine ea_dup (pc := 19) dX11_init_19 rfl ?_
  refine ea_callIN (pc := 20) (d' := d - 1) (As := []) (st := [vR (some (ea_n H4)), vR (some a0)]) dX11_init_20 kX9_init (sX9_init (d := d - 1) (by omega) Ew6) (by omega) rfl (Nat.le_of_ble_eq_true rfl) ew_180 ew_181 rfl rfl ?_
  obtain ⟨f7, E⟩ := gd_some E
  obtain ⟨H8, eH8, E⟩ := let_some E
  refine ea_putR (pc := 23) dX11_init_23 ec_11 (k := 1) (Nat.le_of_ble_eq_true rfl) rfl (Or.inr ⟨rfl, rfl, rfl, ew_615⟩) f7.1 f7.2 ?_
  refine ea_nm eH8 ?_
  obtain ⟨H9, eH9, E⟩ := let_some E
  refine ea_aload_n (pc := 26) dX11_init_26 rfl 0 rfl ?_
  refine ea_newO (pc := 27) dX11_init_27 ec_10 ew_226 ew_227 ew_121 ?_
  refine ea_nm eH9 ?_
  obtain ⟨f10, E⟩ := gd_some E
  refine ea_dup (pc := 30) dX11_init_30 rfl ?_
  refine ea_aload_n (pc := 31) dX11_init_31 rfl 0 rfl ?_
  obtain ⟨w11, Ew11, E⟩ := bd_some E
  refine ea_getR (pc := 32) dX11_init_32 ec_11 (k := 1) (Nat.le_of_ble_eq_true rfl) rfl (Or.inl ew_615) f10.1 f10.2 rfl ?_
  refine ea_callI (pc := 35) (d' := d - 1) (As := [vR (ea_r H9 a0 1)]) (st := [vR (some (ea_n H8)), vR (some a0)]) dX11_init_35 kX10_init (sX10_init (d := d - 1) (by omega) Ew11) (by omega) rfl (Nat.le_of_ble_eq_true rfl) ew_228 ew_229 rfl rfl ?_
  obtain ⟨f12, E⟩ := gd_some E
  obtain ⟨H13, eH13, E⟩ := let_some E
  refine ea_putR (pc := 38) dX11_init_38 ec_11 (k := 2) (Nat.le_of_ble_eq_true rfl) rfl (Or.inr ⟨rfl, rfl, rfl, ew_616⟩) f12.1 f12.2 ?_
  refine ea_nm eH13 ?_
  obtain ⟨H14, eH14, E⟩ := let_some E
  refine ea_aload_n (pc := 41) dX11_init_41 rfl 0 rfl ?_
  refine ea_newO (pc := 42) dX11_init_42 ec_3 ew_258 ew_259 ew_122 ?_
  refine ea_nm eH14 ?_
  obtain ⟨w15, Ew15, E⟩ := bd_some E
  refine ea_dup (pc := 45) dX11_init_45 rfl ?_
  refine ea_callIN (pc := 46) (d' := d - 1) (As := []) (st := [vR (some (ea_n H13)), vR (some a0)]) dX11_init_46 kX3_init (sX3_init (d := d - 1) (by omega) Ew15) (by omega) rfl (Nat.le_of_ble_eq_true rfl) ew_260 ew_261 rfl rfl ?_
  obtain ⟨f16, E⟩ := gd_some E
  obtain ⟨H17, eH17, E⟩ := let_some E
  refine ea_putR (pc := 49) dX11_init_49 ec_11 (k := 3) (Nat.le_of_ble_eq_true rfl) rfl (Or.inr ⟨rfl, rfl, rfl, ew_617⟩) f16.1 f16.2 ?_
  refine ea_nm eH17 ?_
  obtain ⟨H18, eH18, E⟩ := let_some E
  refine ea_aload_n (pc := 52) dX11_init_52 rfl 0 rfl ?_
  refine ea_newO (pc := 53) dX11_init_53 ec_8 ew_282 ew_283 ew_123 ?_
  refine ea_nm eH18 ?_
  obtain ⟨w19, Ew19, E⟩ := bd_some E
  refine ea_dup (pc := 56) dX11_init_56 rfl ?_
  refine ea_callI (pc := 57) (d' := d - 1) (As := []) (st := [vR (some (ea_n H17)), vR (some a0)]) dX11_init_57 kX8_init (sX8_init (d := d - 1) (by omega) Ew19) (by omega) rfl (Nat.le_of_ble_eq_true rfl) ew_284 ew_285 rfl rfl ?_
  obtain ⟨f20, E⟩ := gd_some E
  obtain ⟨H21, eH21, E⟩ := let_some E
  refine ea_putR (pc := 60) dX11_init_60 ec_11 (k := 4) (Nat.le_of_ble_eq_true rfl) rfl (Or.inr ⟨rfl, rfl, rfl, ew_618⟩) f20.1 f20.2 ?_
  refine ea_nm eH21 ?_
  obtain ⟨H22, eH22, E⟩ := let_some E
  refine ea_aload_n (pc := 63) dX11_init_63 rfl 0 rfl ?_
  refine ea_bipush (pc := 64) dX11_init_64 (v := 120) rfl ?_
  refine ea_newR23 (pc := 66) (N := 120) dX11_init_66 ew_414 ew_415 (by decide) rfl (Nat.le_of_ble_eq_true rfl) ?_
  refine ea_nm eH22 ?_
  obtain ⟨f23, E⟩ := gd_some E
  obtain ⟨H24, eH24, E⟩ := let_some E
  refine ea_putR (pc := 69) dX11_init_69 ec_11 (k := 5) (Nat.le_of_ble_eq_true rfl) rfl (Or.inr ⟨rfl, rfl, rfl, ew_619⟩) f23.1 f23.2 ?_
  refine ea_nm eH24 ?_
  obtain ⟨H25, eH25, E⟩ := let_some E
  refine ea_aload_n (pc := 72) dX11_init_72 rfl 0 rfl ?_
  refine ea_newO (pc := 73) dX11_init_73 ec_4 ew_416 ew_417 ew_126 ?_
  refine ea_nm eH25 ?_
  obtain ⟨f26, E⟩ := gd_some E
  refine ea_dup (pc := 76) dX11_init_76 rfl ?_
  refine ea_aload_n (pc := 77) dX11_init_77 rfl 0 rfl ?_
  obtain ⟨f27, E⟩ := gd_some E
  refine ea_getR (pc := 78) dX11_init_78 ec_11 (k := 1) (Nat.le_of_ble_eq_true rfl) rfl (Or.inl ew_615) f26.1 f26.2 rfl ?_
  refine ea_aload_n (pc := 81) dX11_init_81 rfl 0 rfl ?_
  obtain ⟨f28, E⟩ := gd_some E
  refine ea_getR (pc := 82) dX11_init_82 ec_11 (k := 2) (Nat.le_of_ble_eq_true rfl) rfl (Or.inl ew_616) f27.1 f27.2 rfl ?_
  refine ea_aload_n (pc := 85) dX11_init_85 rfl 0 rfl ?_
  obtain ⟨w29, Ew29, E⟩ := bd_some E
  refine ea_getR (pc := 86) dX11_init_86 ec_11 (k := 5) (Nat.le_of_ble_eq_true rfl) rfl (Or.inl ew_619) f28.1 f28.2 rfl ?_
  refine ea_callI (pc := 89) (d' := d - 1) (As := [vR (ea_r H25 a0 1), vR (ea_r H25 a0 2), vR (ea_r H25 a0 5)]) (st := [vR (some (ea_n H24)), vR (some a0)]) dX11_init_89 kX4_init (sX4_init (d := d - 1) (by omega) Ew29) (by omega) rfl (Nat.le_of_ble_eq_true rfl) ew_418 ew_419 rfl rfl ?_
  obtain ⟨f30, E⟩ := gd_some E
  obtain ⟨H31, eH31, E⟩ := let_some E
  refine ea_putR (pc := 92) dX11_init_92 ec_11 (k := 6) (Nat.le_of_ble_eq_true rfl) rfl (Or.inr ⟨rfl, rfl, rfl, ew_620⟩) f30.1 f30.2 ?_
  refine ea_nm eH31 ?_
  obtain ⟨H32, eH32, E⟩ := let_some E
  refine ea_aload_n (pc := 95) dX11_init_95 rfl 0 rfl ?_
  refine ea_newO (pc := 96) dX11_init_96 ec_1 ew_435 ew_436 ew_127 ?_
  refine ea_nm eH32 ?_
  obtain ⟨f33, E⟩ := gd_some E
  refine ea_dup (pc := 99) dX11_init_99 rfl ?_
  refine ea_aload_n (pc := 100) dX11_init_100 rfl 0 rfl ?_
  obtain ⟨f34, E⟩ := gd_some E
  refine ea_getR (pc := 101) dX11_init_101 ec_11 (k := 1) (Nat.le_of_ble_eq_true rfl) rfl (Or.inl ew_615) f33.1 f33.2 rfl ?_
  refine ea_aload_n (pc := 104) dX11_init_104 rfl 0 rfl ?_
  obtain ⟨f35, E⟩ := gd_some E
  refine ea_getR (pc := 105) dX11_init_105 ec_11 (k := 2) (Nat.le_of_ble_eq_true rfl) rfl (Or.inl ew_616) f34.1 f34.2 rfl ?_
  refine ea_aload_n (pc := 108) dX11_init_108 rfl 0 rfl ?_
  obtain ⟨f36, E⟩ := gd_some E
  refine ea_getR (pc := 109) dX11_init_109 ec_11 (k := 3) (Nat.le_of_ble_eq_true rfl) rfl (Or.inl ew_617) f35.1 f35.2 rfl ?_
  refine ea_aload_n (pc := 112) dX11_init_112 rfl 0 rfl ?_
  obtain ⟨f37, E⟩ := gd_some E
  refine ea_getR (pc := 113) dX11_init_113 ec_11 (k := 5) (Nat.le_of_ble_eq_true rfl) rfl (Or.inl ew_619) f36.1 f36.2 rfl ?_
  refine ea_aload_n (pc := 116) dX11_init_116 rfl 0 rfl ?_
  obtain ⟨w38, Ew38, E⟩ := bd_some E
  refine ea_getR (pc := 117) dX11_init_117 ec_11 (k := 6) (Nat.le_of_ble_eq_true rfl) rfl (Or.inl ew_620) f37.1 f37.2 rfl ?_
  refine ea_callI (pc := 120) (d' := d - 1) (As := [vR (ea_r H32 a0 1), vR (ea_r H32 a0 2), vR (ea_r H32 a0 3), vR (ea_r H32 a0 5), vR (ea_r H32 a0 6)]) (st := [vR (some (ea_n H31)), vR (some a0)]) dX11_init_120 kX1_init (sX1_init (d := d - 1) (by omega) Ew38) (by omega) rfl (Nat.le_of_ble_eq_true rfl) ew_437 ew_438 rfl rfl ?_
  obtain ⟨f39, E⟩ := gd_some E
  obtain ⟨H40, eH40, E⟩ := let_some E
  refine ea_putR (pc := 123) dX11_init_123 ec_11 (k := 7) (Nat.le_of_ble_eq_true rfl) rfl (Or.inr ⟨rfl, rfl, rfl, ew_621⟩) f39.1 f39.2 ?_
  refine ea_nm eH40 ?_
  obtain ⟨H41, eH41, E⟩ := let_some E
  refine ea_aload_n (pc := 126) dX11_init_126 rfl 0 rfl ?_
  refine ea_newO (pc := 127) dX11_init_127 ec_1 ew_435 ew_436 ew_127 ?_
  refine ea_nm eH41 ?_
  obtain ⟨f42, E⟩ := gd_some E
  refine ea_dup (pc := 130) dX11_init_130 rfl ?_
  refine ea_aload_n (pc := 131) dX11_init_131 rfl 0 rfl ?_
  obtain ⟨f43, E⟩ := gd_some E
  refine ea_getR (pc := 132) dX11_init_132 ec_11 (k := 1) (Nat.le_of_ble_eq_true rfl) rfl (Or.inl ew_615) f42.1 f42.2 rfl ?_
  refine ea_aload_n (pc := 135) dX11_init_135 rfl 0 rfl ?_
  obtain ⟨f44, E⟩ := gd_some E
  refine ea_getR (pc := 136) dX11_init_136 ec_11 (k := 2) (Nat.le_of_ble_eq_true rfl) rfl (Or.inl ew_616) f43.1 f43.2 rfl ?_
  refine ea_aload_n (pc := 139) dX11_init_139 rfl 0 rfl ?_
  obtain ⟨f45, E⟩ := gd_some E
  refine ea_getR (pc := 140) dX11_init_140 ec_11 (k := 3) (Nat.le_of_ble_eq_true rfl) rfl (Or.inl ew_617) f44.1 f44.2 rfl ?_
  refine ea_aload_n (pc := 143) dX11_init_143 rfl 0 rfl ?_
  obtain ⟨w46, Ew46, E⟩ := bd_some E
  refine ea_getR (pc := 144) dX11_init_144 ec_11 (k := 5) (Nat.le_of_ble_eq_true rfl) rfl (Or.inl ew_619) f45.1 f45.2 rfl ?_
  refine ea_null (pc := 147) dX11_init_147 ?_
  refine ea_callI (pc := 148) (d' := d - 1) (As := [vR (ea_r H41 a0 1), vR (ea_r H41 a0 2), vR (ea_r H41 a0 3), vR (ea_r H41 a0 5), vR none]) (st := [vR (some (ea_n H40)), vR (some a0)]) dX11_init_148 kX1_init (sX1_init (d := d - 1) (by omega) Ew46) (by omega) rfl (Nat.le_of_ble_eq_true rfl) ew_437 ew_438 rfl rfl ?_
  obtain ⟨f47, E⟩ := gd_some E
  obtain ⟨H48, eH48, E⟩ := let_some E
  refine ea_putR (pc := 151) dX11_init_151 ec_11 (k := 8) (Nat.le_of_ble_eq_true rfl) rfl (Or.inr ⟨rfl, rfl, rfl, ew_622⟩) f47.1 f47.2 ?_
  refine ea_nm eH48 ?_
  obtain ⟨H49, eH49, E⟩ := let_some E
  refine ea_aload_n (pc := 154) dX11_init_154 rfl 0 rfl ?_
  refine ea_bipush (pc := 155) dX11_init_155 (v := 10) rfl ?_
  refine ea_newR24 (pc := 157) (N := 10) dX11_init_157 ew_497 ew_498 (by decide) rfl (Nat.le_of_ble_eq_true rfl) ?_
  refine ea_nm eH49 ?_
  obtain ⟨f50, E⟩ := gd_some E
  obtain ⟨H51, eH51, E⟩ := let_some E
  refine ea_putR (pc := 160) dX11_init_160 ec_11 (k := 9) (Nat.le_of_ble_eq_true rfl) rfl (Or.inr ⟨rfl, rfl, rfl, ew_623⟩) f50.1 f50.2 ?_
  refine ea_nm eH51 ?_
  obtain ⟨H52, eH52, E⟩ := let_some E
  refine ea_aload_n (pc := 163) dX11_init_163 rfl 0 rfl ?_
  refine ea_bipush (pc := 164) dX11_init_164 (v := 20) rfl ?_
  refine ea_newI (pc := 166) (N := 20) dX11_init_166 ew_177 (by decide) rfl (Nat.le_of_ble_eq_true rfl) ?_
  refine ea_nm eH52 ?_
  obtain ⟨f53, E⟩ := gd_some E
  obtain ⟨H54, eH54, E⟩ := let_some E
  refine ea_putR (pc := 168) dX11_init_168 ec_11 (k := 10) (Nat.le_of_ble_eq_true rfl) rfl (Or.inr ⟨rfl, rfl, rfl, ew_624⟩) f53.1 f53.2 ?_
  refine ea_nm eH54 ?_
  obtain ⟨H55, eH55, E⟩ := let_some E
  refine ea_aload_n (pc := 171) dX11_init_171 rfl 0 rfl ?_
  refine ea_bipush (pc := 172) dX11_init_172 (v := 20) rfl ?_
  refine ea_newI (pc := 174) (N := 20) dX11_init_174 ew_177 (by decide) rfl (Nat.le_of_ble_eq_true rfl) ?_
  refine ea_nm eH55 ?_
  obtain ⟨f56, E⟩ := gd_some E
  obtain ⟨H57, eH57, E⟩ := let_some E
  refine ea_putR (pc := 176) dX11_init_176 ec_11 (k := 11) (Nat.le_of_ble_eq_true rfl) rfl (Or.inr ⟨rfl, rfl, rfl, ew_625⟩) f56.1 f56.2 ?_
  refine ea_nm eH57 ?_
  obtain ⟨H58, eH58, E⟩ := let_some E
  refine ea_aload_n (pc := 179) dX11_init_179 rfl 0 rfl ?_
  refine ea_bipush (pc := 180) dX11_init_180 (v := 120) rfl ?_
  refine ea_newI (pc := 182) (N := 120) dX11_init_182 ew_177 (by decide) rfl (Nat.le_of_ble_eq_true rfl) ?_
  refine ea_nm eH58 ?_
  obtain ⟨f59, E⟩ := gd_some E
  obtain ⟨H60, eH60, E⟩ := let_some E
  refine ea_putR (pc := 184) dX11_init_184 ec_11 (k := 12) (Nat.le_of_ble_eq_true rfl) rfl (Or.inr ⟨rfl, rfl, rfl, ew_626⟩) f59.1 f59.2 ?_
  refine ea_nm eH60 ?_
  refine ea_iconst (pc := 187) dX11_init_187 (v := 0) rfl ?_
  refine ea_istore_n (pc := 188) (lv' := [(0, vR (some a0)), (1, vI 0)]) dX11_init_188 rfl (Nat.le_of_ble_eq_true rfl) [1, 0] rfl ?_
  exact (kJ189 (0 : Int32) H60 _ _ E)
theorem lBX11_init_0 {a0 : Nat} {J189 : Int32 → ea_H → Option (Unit × ea_H)} {J189_ : Int32 → ea_H → Option (Unit × ea_H)}  (mJ189 : ∀ (x1 : Int32) (h : ea_H), fle (J189 x1 h) (J189_ x1 h)) {h : ea_H} : fle (BX11_init_0 a0 J189 h) (BX11_init_0 a0 J189_ h) :=
  (fle_let fun _ => (fle_bind (fle_rfl _) fun _ => (fle_gd (fle_let fun _ => (fle_let fun _ => (fle_bind (fle_rfl _) fun _ => (fle_gd (fle_let fun _ => (fle_let fun _ => (fle_gd (fle_bind (fle_rfl _) fun _ => (fle_gd (fle_let fun _ => (fle_let fun _ => (fle_bind (fle_rfl _) fun _ => (fle_gd (fle_let fun _ => (fle_let fun _ => (fle_bind (fle_rfl _) fun _ => (fle_gd (fle_let fun _ => (fle_let fun _ => (fle_gd (fle_let fun _ => (fle_let fun _ => (fle_gd (fle_gd (fle_gd (fle_bind (fle_rfl _) fun _ => (fle_gd (fle_let fun _ => (fle_let fun _ => (fle_gd (fle_gd (fle_gd (fle_gd (fle_gd (fle_bind (fle_rfl _) fun _ => (fle_gd (fle_let fun _ => (fle_let fun _ => (fle_gd (fle_gd (fle_gd (fle_gd (fle_bind (fle_rfl _) fun _ => (fle_gd (fle_let fun _ => (fle_let fun _ => (fle_gd (fle_let fun _ => (fle_let fun _ => (fle_gd (fle_let fun _ => (fle_let fun _ => (fle_gd (fle_let fun _ => (fle_let fun _ => (fle_gd (fle_let fun _ => (mJ189 _ _)))))))))))))))))))))))))))))))))))))))))))))))))))))))))))))
theorem nBX11_init_0 {a0 : Nat} {J189 : Int32 → ea_H → Option (Unit × ea_H)} {J189_ : Nat → (Int32 → ea_H → Option (Unit × ea_H))}  (mJ189 : ∀ (x1 : Int32) (h : ea_H), fct (J189 x1 h) (fun f => J189_ f x1 h)) {h : ea_H} : fct (BX11_init_0 a0 J189 h) (fun f => BX11_init_0 a0 (J189_ f) h) :=
  (fct_let fun _ => (fct_bind (fct_rfl _) fun _ => (fct_gd (fct_let fun _ => (fct_let fun _ => (fct_bind (fct_rfl _) fun _ => (fct_gd (fct_let fun _ => (fct_let fun _ => (fct_gd (fct_bind (fct_rfl _) fun _ => (fct_gd (fct_let fun _ => (fct_let fun _ => (fct_bind (fct_rfl _) fun _ => (fct_gd (fct_let fun _ => (fct_let fun _ => (fct_bind (fct_rfl _) fun _ => (fct_gd (fct_let fun _ => (fct_let fun _ => (fct_gd (fct_let fun _ => (fct_let fun _ => (fct_gd (fct_gd (fct_gd (fct_bind (fct_rfl _) fun _ => (fct_gd (fct_let fun _ => (fct_let fun _ => (fct_gd (fct_gd (fct_gd (fct_gd (fct_gd (fct_bind (fct_rfl _) fun _ => (fct_gd (fct_let fun _ => (fct_let fun _ => (fct_gd (fct_gd (fct_gd (fct_gd (fct_bind (fct_rfl _) fun _ => (fct_gd (fct_let fun _ => (fct_let fun _ => (fct_gd (fct_let fun _ => (fct_let fun _ => (fct_gd (fct_let fun _ => (fct_let fun _ => (fct_gd (fct_let fun _ => (fct_let fun _ => (fct_gd (fct_let fun _ => (mJ189 _ _)))))))))))))))))))))))))))))))))))))))))))))))))))))))))))))
noncomputable def BX11_init_189 (a0 : Nat) (J189 : Int32 → ea_H → Option (Unit × ea_H)) (J216 : Int32 → ea_H → Option (Unit × ea_H)) (x1 : Int32) (h : ea_H) : Option (Unit × ea_H) :=
  (if (120 : Int32) ≤ x1 then (J216 (0 : Int32) h) else (gd ((a0 < ea_n h ∧ ea_c h a0 = 11)) (ea_let (ea_new h 5 0 20) fun H62 => (Option.bind (qX5_init (ea_n h) H62) fun w63 => (gd ((ea_r h a0 5) = some (Option.getD (ea_r h a0 5) 0)) (gd (((Option.getD (ea_r h a0 5) 0) < ea_n w63.2 ∧ ea_c w63.2 (Option.getD (ea_r h a0 5) 0) = 23)) (gd (vp_in x1 (ea_l w63.2 (Option.getD (ea_r h a0 5) 0))) (gd (((ea_n h) < ea_n w63.2 ∧ ea_c w63.2 (ea_n h) = 5)) (ea_let (ea_wr w63.2 (Option.getD (ea_r h a0 5) 0) (Int32.toNatClampNeg x1) (some (ea_n h))) fun H68 => (J189 ((x1 + (1 : Int32)) : Int32) H68))))))))))
theorem tBX11_init_189 {d : Nat} {a0 : Nat} {h0 : ea_H} (hd : 4 ≤ d) {J189 : Int32 → ea_H → Option (Unit × ea_H)} {J216 : Int32 → ea_H → Option (Unit × ea_H)}  (kJ189 : ∀ (x1 : Int32) (h : ea_H) (r : Unit) (h' : ea_H), J189 x1 h = some (r, h') → ea_W mX11_init d h0 none h' 189 [(0, vR (some a0)), (1, vI x1)] [] h) (kJ216 : ∀ (x1 : Int32) (h : ea_H) (r : Unit) (h' : ea_H), J216 x1 h = some (r, h') → ea_W mX11_init d h0 none h' 216 [(0, vR (some a0)), (1, vI x1)] [] h) {x1 : Int32} {h : ea_H} {r : Unit} {h' : ea_H} (E : BX11_init_189 a0 J189 J216 x1 h = some (r, h')) : ea_W mX11_init d h0 none h' 189 [(0, vR (some a0)), (1, vI x1)] [] h := by
  unfold BX11_init_189 at E
  refine ea_iload_n (pc := 189) dX11_init_189 rfl 1 rfl ?_
  refine ea_bipush (pc := 190) dX11_init_190 (v := 120) rfl ?_
  refine ea_icmp_ge (pc := 192) (tgt := 214) dX11_init_192 rfl (fun c69 => ?_) (fun c69 => ?_)
  · have E := (if_pos c69).symm.trans E
    refine ea_iconst (pc := 214) dX11_init_214 (v := 0) rfl ?_
    refine ea_istore_n (pc := 215) (lv' := [(0, vR (some a0)), (1, vI 0)]) dX11_init_215 rfl (Nat.le_of_ble_eq_true rfl) [1, 0] rfl ?_
    exact (kJ216 (0 : Int32) h _ _ E)
  · have E := (if_neg c69).symm.trans E
    obtain ⟨f61, E⟩ := gd_some E
    refine ea_aload_n (pc := 195) dX11_init_195 rfl 0 rfl ?_
    obtain ⟨H62, eH62, E⟩ := let_some E
    refine ea_getR (pc := 196) dX11_init_196 ec_11 (k := 5) (Nat.le_of_ble_eq_true rfl) rfl (Or.inl ew_619) f61.1 f61.2 rfl ?_
    refine ea_iload_n (pc := 199) dX11_init_199 rfl 1 rfl ?_
    refine ea_newO (pc := 200) dX11_init_200 ec_5 ew_414 ew_499 ew_128 ?_
    refine ea_nm eH62 ?_
    obtain ⟨w63, Ew63, E⟩ := bd_some E
    refine ea_dup (pc := 203) dX11_init_203 rfl ?_
    refine ea_callIN (pc := 204) (d' := d - 1) (As := []) (st := [vR (some (ea_n h)), vI x1, vR (ea_r h a0 5)]) dX11_init_204 kX5_init (sX5_init (d := d - 1) (by omega) Ew63) (by omega) rfl (Nat.le_of_ble_eq_true rfl) ew_500 ew_501 rfl rfl ?_
    obtain ⟨e64, E⟩ := gd_some E
    obtain ⟨f65, E⟩ := gd_some E
    obtain ⟨z66, E⟩ := gd_some E
    obtain ⟨f67, E⟩ := gd_some E
    obtain ⟨H68, eH68, E⟩ := let_some E
    refine ea_deref2 e64 ?_
    refine ea_aast23 (pc := 207) dX11_init_207 f65.1 f65.2 z66 f67.1 f67.2 ?_
    refine ea_nm eH68 ?_
    refine ea_iinc (pc := 208) (v := 1) (lv' := [(0, vR (some a0)), (1, vI (x1 + (1 : Int32)))]) dX11_init_208 1 rfl rfl (Nat.le_of_ble_eq_true rfl) [1, 0] rfl ?_
    refine ea_goto (pc := 211) (tgt := 189) dX11_init_211 rfl ?_
    exact (kJ189 ((x1 + (1 : Int32)) : Int32) H68 _ _ E)
theorem lBX11_init_189 {a0 : Nat} {J189 : Int32 → ea_H → Option (Unit × ea_H)} {J216 : Int32 → ea_H → Option (Unit × ea_H)} {J189_ : Int32 → ea_H → Option (Unit × ea_H)} {J216_ : Int32 → ea_H → Option (Unit × ea_H)}  (mJ189 : ∀ (x1 : Int32) (h : ea_H), fle (J189 x1 h) (J189_ x1 h)) (mJ216 : ∀ (x1 : Int32) (h : ea_H), fle (J216 x1 h) (J216_ x1 h)) {x1 : Int32} {h : ea_H} : fle (BX11_init_189 a0 J189 J216 x1 h) (BX11_init_189 a0 J189_ J216_ x1 h) :=
  (fle_ite (mJ216 _ _) (fle_gd (fle_let fun _ => (fle_bind (fle_rfl _) fun _ => (fle_gd (fle_gd (fle_gd (fle_gd (fle_let fun _ => (mJ189 _ _))))))))))
theorem nBX11_init_189 {a0 : Nat} {J189 : Int32 → ea_H → Option (Unit × ea_H)} {J216 : Int32 → ea_H → Option (Unit × ea_H)} {J189_ : Nat → (Int32 → ea_H → Option (Unit × ea_H))} {J216_ : Nat → (Int32 → ea_H → Option (Unit × ea_H))}  (mJ189 : ∀ (x1 : Int32) (h : ea_H), fct (J189 x1 h) (fun f => J189_ f x1 h)) (mJ216 : ∀ (x1 : Int32) (h : ea_H), fct (J216 x1 h) (fun f => J216_ f x1 h)) {x1 : Int32} {h : ea_H} : fct (BX11_init_189 a0 J189 J216 x1 h) (fun f => BX11_init_189 a0 (J189_ f) (J216_ f) x1 h) :=
  (fct_ite (mJ216 _ _) (fct_gd (fct_let fun _ => (fct_bind (fct_rfl _) fun _ => (fct_gd (fct_gd (fct_gd (fct_gd (fct_let fun _ => (mJ189 _ _))))))))))
noncomputable def BX11_init_216 (a0 : Nat) (J216 : Int32 → ea_H → Option (Unit × ea_H)) (x1 : Int32) (h : ea_H) : Option (Unit × ea_H) :=
  (if (10 : Int32) ≤ x1 then (some ((), h)) else (gd ((a0 < ea_n h ∧ ea_c h a0 = 11)) (ea_let (ea_new h 2 0 3) fun H71 => (Option.bind (qX2_init (ea_n h) H71) fun w72 => (gd ((ea_r h a0 9) = some (Option.getD (ea_r h a0 9) 0)) (gd (((Option.getD (ea_r h a0 9) 0) < ea_n w72.2 ∧ ea_c w72.2 (Option.getD (ea_r h a0 9) 0) = 24)) (gd (vp_in x1 (ea_l w72.2 (Option.getD (ea_r h a0 9) 0))) (gd (((ea_n h) < ea_n w72.2 ∧ ea_c w72.2 (ea_n h) = 2)) (ea_let (ea_wr w72.2 (Option.getD (ea_r h a0 9) 0) (Int32.toNatClampNeg x1) (some (ea_n h))) fun H77 => (J216 ((x1 + (1 : Int32)) : Int32) H77))))))))))
theorem tBX11_init_216 {d : Nat} {a0 : Nat} {h0 : ea_H} (hd : 4 ≤ d) {J216 : Int32 → ea_H → Option (Unit × ea_H)}  (kJ216 : ∀ (x1 : Int32) (h : ea_H) (r : Unit) (h' : ea_H), J216 x1 h = some (r, h') → ea_W mX11_init d h0 none h' 216 [(0, vR (some a0)), (1, vI x1)] [] h) {x1 : Int32} {h : ea_H} {r : Unit} {h' : ea_H} (E : BX11_init_216 a0 J216 x1 h = some (r, h')) : ea_W mX11_init d h0 none h' 216 [(0, vR (some a0)), (1, vI x1)] [] h := by
  unfold BX11_init_216 at E
  refine ea_iload_n (pc := 216) dX11_init_216 rfl 1 rfl ?_
  refine ea_bipush (pc := 217) dX11_init_217 (v := 10) rfl ?_
  refine ea_icmp_ge (pc := 219) (tgt := 241) dX11_init_219 rfl (fun c78 => ?_) (fun c78 => ?_)
  · have E := (if_pos c78).symm.trans E
    exact ea_vretO (pc := 241) dX11_init_241 rfl E
  · have E := (if_neg c78).symm.trans E
    obtain ⟨f70, E⟩ := gd_some E
    refine ea_aload_n (pc := 222) dX11_init_222 rfl 0 rfl ?_
    obtain ⟨H71, eH71, E⟩ := let_some E
    refine ea_getR (pc := 223) dX11_init_223 ec_11 (k := 9) (Nat.le_of_ble_eq_true rfl) rfl (Or.inl ew_623) f70.1 f70.2 rfl ?_
    refine ea_iload_n (pc := 226) dX11_init_226 rfl 1 rfl ?_
    refine ea_newO (pc := 227) dX11_init_227 ec_2 ew_497 ew_596 ew_129 ?_
    refine ea_nm eH71 ?_
    obtain ⟨w72, Ew72, E⟩ := bd_some E
    refine ea_dup (pc := 230) dX11_init_230 rfl ?_
    refine ea_callIN (pc := 231) (d' := d - 1) (As := []) (st := [vR (some (ea_n h)), vI x1, vR (ea_r h a0 9)]) dX11_init_231 kX2_init (sX2_init (d := d - 1) (by omega) Ew72) (by omega) rfl (Nat.le_of_ble_eq_true rfl) ew_597 ew_598 rfl rfl ?_
    obtain ⟨e73, E⟩ := gd_some E
    obtain ⟨f74, E⟩ := gd_some E
    obtain ⟨z75, E⟩ := gd_some E
    obtain ⟨f76, E⟩ := gd_some E
    obtain ⟨H77, eH77, E⟩ := let_some E
    refine ea_deref2 e73 ?_
    refine ea_aast24 (pc := 234) dX11_init_234 f74.1 f74.2 z75 f76.1 f76.2 ?_
    refine ea_nm eH77 ?_
    refine ea_iinc (pc := 235) (v := 1) (lv' := [(0, vR (some a0)), (1, vI (x1 + (1 : Int32)))]) dX11_init_235 1 rfl rfl (Nat.le_of_ble_eq_true rfl) [1, 0] rfl ?_
    refine ea_goto (pc := 238) (tgt := 216) dX11_init_238 rfl ?_
    exact (kJ216 ((x1 + (1 : Int32)) : Int32) H77 _ _ E)
theorem lBX11_init_216 {a0 : Nat} {J216 : Int32 → ea_H → Option (Unit × ea_H)} {J216_ : Int32 → ea_H → Option (Unit × ea_H)}  (mJ216 : ∀ (x1 : Int32) (h : ea_H), fle (J216 x1 h) (J216_ x1 h)) {x1 : Int32} {h : ea_H} : fle (BX11_init_216 a0 J216 x1 h) (BX11_init_216 a0 J216_ x1 h) :=
  (fle_ite (fle_rfl _) (fle_gd (fle_let fun _ => (fle_bind (fle_rfl _) fun _ => (fle_gd (fle_gd (fle_gd (fle_gd (fle_let fun _ => (mJ216 _ _))))))))))
theorem nBX11_init_216 {a0 : Nat} {J216 : Int32 → ea_H → Option (Unit × ea_H)} {J216_ : Nat → (Int32 → ea_H → Option (Unit × ea_H))}  (mJ216 : ∀ (x1 : Int32) (h : ea_H), fct (J216 x1 h) (fun f => J216_ f x1 h)) {x1 : Int32} {h : ea_H} : fct (BX11_init_216 a0 J216 x1 h) (fun f => BX11_init_216 a0 (J216_ f) x1 h) :=
  (fct_ite (fct_rfl _) (fct_gd (fct_let fun _ => (fct_bind (fct_rfl _) fun _ => (fct_gd (fct_gd (fct_gd (fct_gd (fct_let fun _ => (mJ216 _ _))))))))))
noncomputable def gX11_init (a0 : Nat) : Nat → (ea_H → Option (Unit × ea_H)) × (Int32 → ea_H → Option (Unit × ea_H)) × (Int32 → ea_H → Option (Unit × ea_H))
  | 0 => (fun _ => none, fun _ _ => none, fun _ _ => none)
  | f + 1 => (BX11_init_0 a0 (gX11_init a0 f).2.1, BX11_init_189 a0 (gX11_init a0 f).2.1 (gX11_init a0 f).2.2, BX11_init_216 a0 (gX11_init a0 f).2.2)
theorem mgX11_init (a0 : Nat) : ∀ f : Nat, (∀ (h : ea_H), fle ((gX11_init a0 f).1 h) ((gX11_init a0 (f + 1)).1 h)) ∧ (∀ (x1 : Int32) (h : ea_H), fle ((gX11_init a0 f).2.1 x1 h) ((gX11_init a0 (f + 1)).2.1 x1 h)) ∧ (∀ (x1 : Int32) (h : ea_H), fle ((gX11_init a0 f).2.2 x1 h) ((gX11_init a0 (f + 1)).2.2 x1 h)) := by
  intro f
  induction f with
  | zero => exact ⟨fun _ => fle_none _, fun _ _ => fle_none _, fun _ _ => fle_none _⟩
  | succ f ih => exact ⟨fun _ => lBX11_init_0 (a0 := a0) ih.2.1, fun _ _ => lBX11_init_189 (a0 := a0) ih.2.1 ih.2.2, fun _ _ => lBX11_init_216 (a0 := a0) ih.2.2⟩
noncomputable def qX11_init_0 (a0 : Nat) (h : ea_H) : Option (Unit × ea_H) := flim fun f => (gX11_init a0 f).1 h
noncomputable def qX11_init_189 (a0 : Nat) (x1 : Int32) (h : ea_H) : Option (Unit × ea_H) := flim fun f => (gX11_init a0 f).2.1 x1 h
noncomputable def qX11_init_216 (a0 : Nat) (x1 : Int32) (h : ea_H) : Option (Unit × ea_H) := flim fun f => (gX11_init a0 f).2.2 x1 h
theorem fqX11_init_0 (a0 : Nat) (h : ea_H) : fct (qX11_init_0 a0 h) fun f => (gX11_init a0 f).1 h := flim_ct fun f => (mgX11_init a0 f).1 h
theorem fqX11_init_189 (a0 : Nat) (x1 : Int32) (h : ea_H) : fct (qX11_init_189 a0 x1 h) fun f => (gX11_init a0 f).2.1 x1 h := flim_ct fun f => (mgX11_init a0 f).2.1 x1 h
theorem fqX11_init_216 (a0 : Nat) (x1 : Int32) (h : ea_H) : fct (qX11_init_216 a0 x1 h) fun f => (gX11_init a0 f).2.2 x1 h := flim_ct fun f => (mgX11_init a0 f).2.2 x1 h
/-- how a block opens -/
theorem uqX11_init_0 {a0 : Nat} {h : ea_H} {P : Unit × ea_H → Prop} (H : sat (BX11_init_0 a0 (qX11_init_189 a0) h) P) : sat (qX11_init_0 a0 h) P := by
  obtain ⟨x, e, hp⟩ := H
  obtain ⟨n, hn⟩ := nBX11_init_0 (a0 := a0) (fqX11_init_189 a0) x e
  exact ⟨x, flim_at (fun f => (mgX11_init a0 f).1 h) (f := n + 1) (hn n (Nat.le_refl _)), hp⟩
/-- how a block opens -/
theorem uqX11_init_189 {a0 : Nat} {x1 : Int32} {h : ea_H} {P : Unit × ea_H → Prop} (H : sat (BX11_init_189 a0 (qX11_init_189 a0) (qX11_init_216 a0) x1 h) P) : sat (qX11_init_189 a0 x1 h) P := by
  obtain ⟨x, e, hp⟩ := H
  obtain ⟨n, hn⟩ := nBX11_init_189 (a0 := a0) (fqX11_init_189 a0) (fqX11_init_216 a0) x e
  exact ⟨x, flim_at (fun f => (mgX11_init a0 f).2.1 x1 h) (f := n + 1) (hn n (Nat.le_refl _)), hp⟩
/-- how a block opens -/
theorem uqX11_init_216 {a0 : Nat} {x1 : Int32} {h : ea_H} {P : Unit × ea_H → Prop} (H : sat (BX11_init_216 a0 (qX11_init_216 a0) x1 h) P) : sat (qX11_init_216 a0 x1 h) P := by
  obtain ⟨x, e, hp⟩ := H
  obtain ⟨n, hn⟩ := nBX11_init_216 (a0 := a0) (fqX11_init_216 a0) x e
  exact ⟨x, flim_at (fun f => (mgX11_init a0 f).2.2 x1 h) (f := n + 1) (hn n (Nat.le_refl _)), hp⟩
theorem tgX11_init {d : Nat} {a0 : Nat} {h0 : ea_H} (hd : 4 ≤ d) : ∀ f : Nat, (∀ (h : ea_H) (r : Unit) (h' : ea_H), (gX11_init a0 f).1 h = some (r, h') → ea_W mX11_init d h0 none h' 0 [(0, vR (some a0))] [] h) ∧ (∀ (x1 : Int32) (h : ea_H) (r : Unit) (h' : ea_H), (gX11_init a0 f).2.1 x1 h = some (r, h') → ea_W mX11_init d h0 none h' 189 [(0, vR (some a0)), (1, vI x1)] [] h) ∧ (∀ (x1 : Int32) (h : ea_H) (r : Unit) (h' : ea_H), (gX11_init a0 f).2.2 x1 h = some (r, h') → ea_W mX11_init d h0 none h' 216 [(0, vR (some a0)), (1, vI x1)] [] h) := by
  intro f
  induction f with
  | zero => exact ⟨fun _ _ _ E => no_some E, fun _ _ _ _ E => no_some E, fun _ _ _ _ E => no_some E⟩
  | succ f ih => exact ⟨fun _ _ _ E => tBX11_init_0 (a0 := a0) hd ih.2.1 E, fun _ _ _ _ E => tBX11_init_189 (a0 := a0) hd ih.2.1 ih.2.2 E, fun _ _ _ _ E => tBX11_init_216 (a0 := a0) hd ih.2.2 E⟩
noncomputable def qX11_init (a0 : Nat) (h : ea_H) : Option (Unit × ea_H) := qX11_init_0 a0  h
theorem sX11_init {d : Nat} {a0 : Nat} {h : ea_H} {r : Unit} {h' : ea_H} (hd : 4 ≤ d) (K : qX11_init a0 h = some (r, h')) : ea_Met mX11_init d [vR (some a0)] h none h' := by
  unfold qX11_init at K
  obtain ⟨n, hn⟩ := fqX11_init_0 a0  h _ K
  have W := (tgX11_init (d := d) (h0 := h) hd n).1  h _ _ (hn n (Nat.le_refl _))
  exact ea_enter rfl (Nat.le_of_ble_eq_true rfl) W
noncomputable def BX11_road_0 (x1 : Int32) (x2 : Int32) (x3 : Int32) (h : ea_H) : Option (Int32 × ea_H) :=
  (Option.bind (qX7_has (x1 : Int32) h) fun w1 => (if w1.1 = (0 : Int32) then (some ((0 : Int32), w1.2)) else (Option.bind (qX7_has (x2 : Int32) w1.2) fun w2 => (if w2.1 = (0 : Int32) then (some ((0 : Int32), w2.2)) else (if x1 = x2 then (some ((0 : Int32), w2.2)) else (if x3 < (1 : Int32) then (some ((0 : Int32), w2.2)) else (if x3 ≤ (999 : Int32) then (Option.bind (qX7_lay (x1 : Int32) (x2 : Int32) (x3 : Int32) w2.2) fun w3 => (some ((1 : Int32), w3.2))) else (some ((0 : Int32), w2.2)))))))))
theorem tBX11_road_0 {d : Nat} {h0 : ea_H} (hd : 4 ≤ d)  {x1 : Int32} {x2 : Int32} {x3 : Int32} {h : ea_H} {r : Int32} {h' : ea_H} (E : BX11_road_0 x1 x2 x3 h = some (r, h')) (hs : ShC h) : ea_W mX11_road d h0 (some (vI r)) h' 0 [(0, vR (some 0)), (1, vI x1), (2, vI x2), (3, vI x3)] [] h := by
  unfold BX11_road_0 at E
  obtain ⟨w1, Ew1, E⟩ := bd_some E
  have hsw1 : ShC w1.2 := ShC_core ((kpX7_has _ _) _ Ew1) hs
  refine ea_aload_n (pc := 0) dX11_road_0 rfl 0 rfl ?_
  refine ea_getR (pc := 1) dX11_road_1 ec_11 (k := 0) (Nat.le_of_ble_eq_true rfl) rfl (Or.inl ew_614) (cShC_0 hs).1 (cShC_0 hs).2.1 (rShC_0_0 hs) ?_
  refine ea_iload_n (pc := 4) dX11_road_4 rfl 1 rfl ?_
  refine ea_callV (pc := 5) (d' := d - 1) (As := [vI x1]) (st := []) dX11_road_5 kX7_has (sX7_has (d := d - 1) (by omega) hs Ew1) (by omega) rfl (Nat.le_of_ble_eq_true rfl) ew_680 ew_681 ew_682 (ci := 7) rfl (by decide) (cShC_1 hs).1 (cShC_1 hs).2.1 ?_
  refine ea_if_eq (pc := 8) (tgt := 39) dX11_road_8 rfl (fun c8 => ?_) (fun c8 => ?_)
  · have E := (if_pos c8).symm.trans E
    refine ea_iconst (pc := 39) dX11_road_39 (v := 0) rfl ?_
    exact ea_iretO (pc := 40) dX11_road_40 rfl (ea_bn (Or.inl rfl)) E
  · have E := (if_neg c8).symm.trans E
    obtain ⟨w2, Ew2, E⟩ := bd_some E
    have hsw2 : ShC w2.2 := ShC_core ((kpX7_has _ _) _ Ew2) hsw1
    refine ea_aload_n (pc := 11) dX11_road_11 rfl 0 rfl ?_
    refine ea_getR (pc := 12) dX11_road_12 ec_11 (k := 0) (Nat.le_of_ble_eq_true rfl) rfl (Or.inl ew_614) (cShC_0 hsw1).1 (cShC_0 hsw1).2.1 (rShC_0_0 hsw1) ?_
    refine ea_iload_n (pc := 15) dX11_road_15 rfl 2 rfl ?_
    refine ea_callV (pc := 16) (d' := d - 1) (As := [vI x2]) (st := []) dX11_road_16 kX7_has (sX7_has (d := d - 1) (by omega) hsw1 Ew2) (by omega) rfl (Nat.le_of_ble_eq_true rfl) ew_680 ew_681 ew_682 (ci := 7) rfl (by decide) (cShC_1 hsw1).1 (cShC_1 hsw1).2.1 ?_
    refine ea_if_eq (pc := 19) (tgt := 39) dX11_road_19 rfl (fun c7 => ?_) (fun c7 => ?_)
    · have E := (if_pos c7).symm.trans E
      refine ea_iconst (pc := 39) dX11_road_39 (v := 0) rfl ?_
      exact ea_iretO (pc := 40) dX11_road_40 rfl (ea_bn (Or.inl rfl)) E
    · have E := (if_neg c7).symm.trans E
      refine ea_iload_n (pc := 22) dX11_road_22 rfl 1 rfl ?_
      refine ea_iload_n (pc := 23) dX11_road_23 rfl 2 rfl ?_
      refine ea_icmp_eq (pc := 24) (tgt := 39) dX11_road_24 rfl (fun c6 => ?_) (fun c6 => ?_)
      · have E := (if_pos c6).symm.trans E
        refine ea_iconst (pc := 39) dX11_road_39 (v := 0) rfl ?_
        exact ea_iretO (pc := 40) dX11_road_40 rfl (ea_bn (Or.inl rfl)) E
      · have E := (if_neg c6).symm.trans E
        refine ea_iload_n (pc := 27) dX11_road_27 rfl 3 rfl ?_
        refine ea_iconst (pc := 28) dX11_road_28 (v := 1) rfl ?_
        refine ea_icmp_lt (pc := 29) (tgt := 39) dX11_road_29 rfl (fun c5 => ?_) (fun c5 => ?_)
        · have E := (if_pos c5).symm.trans E
          refine ea_iconst (pc := 39) dX11_road_39 (v := 0) rfl ?_
          exact ea_iretO (pc := 40) dX11_road_40 rfl (ea_bn (Or.inl rfl)) E
        · have E := (if_neg c5).symm.trans E
          refine ea_iload_n (pc := 32) dX11_road_32 rfl 3 rfl ?_
          refine ea_sipush (pc := 33) dX11_road_33 (v := 999) rfl ?_
          refine ea_icmp_le (pc := 36) (tgt := 41) dX11_road_36 rfl (fun c4 => ?_) (fun c4 => ?_)
          · have E := (if_pos c4).symm.trans E
            obtain ⟨w3, Ew3, E⟩ := bd_some E
            have hsw3 : ShC w3.2 := ShC_core ((kpX7_lay _ _ _ _) _ Ew3) hsw2
            refine ea_aload_n (pc := 41) dX11_road_41 rfl 0 rfl ?_
            refine ea_getR (pc := 42) dX11_road_42 ec_11 (k := 0) (Nat.le_of_ble_eq_true rfl) rfl (Or.inl ew_614) (cShC_0 hsw2).1 (cShC_0 hsw2).2.1 (rShC_0_0 hsw2) ?_
            refine ea_iload_n (pc := 45) dX11_road_45 rfl 1 rfl ?_
            refine ea_iload_n (pc := 46) dX11_road_46 rfl 2 rfl ?_
            refine ea_iload_n (pc := 47) dX11_road_47 rfl 3 rfl ?_
            refine ea_callV (pc := 48) (d' := d - 1) (As := [vI x1, vI x2, vI x3]) (st := []) dX11_road_48 kX7_lay (sX7_lay (d := d - 1) (by omega) hsw2 Ew3) (by omega) rfl (Nat.le_of_ble_eq_true rfl) ew_684 ew_685 ew_686 (ci := 7) rfl (by decide) (cShC_1 hsw2).1 (cShC_1 hsw2).2.1 ?_
            refine ea_iconst (pc := 51) dX11_road_51 (v := 1) rfl ?_
            exact ea_iretO (pc := 52) dX11_road_52 rfl (ea_bn (Or.inr rfl)) E
          · have E := (if_neg c4).symm.trans E
            refine ea_iconst (pc := 39) dX11_road_39 (v := 0) rfl ?_
            exact ea_iretO (pc := 40) dX11_road_40 rfl (ea_bn (Or.inl rfl)) E
theorem kBX11_road_0  {x1 : Int32} {x2 : Int32} {x3 : Int32} {h : ea_H} : kp (ea_core h) (BX11_road_0 x1 x2 x3 h) :=
  (kp_bind (kp_tw (kpX7_has _ _) rfl) fun w1 hcw1 => (kp_ite (kp_ret hcw1) (kp_bind (kp_tw (kpX7_has _ _) hcw1) fun w2 hcw2 => (kp_ite (kp_ret hcw2) (kp_ite (kp_ret hcw2) (kp_ite (kp_ret hcw2) (kp_ite (kp_bind (kp_tw (kpX7_lay _ _ _ _) hcw2) fun w3 hcw3 => (kp_ret hcw3)) (kp_ret hcw2))))))))
noncomputable def qX11_road (x1 : Int32) (x2 : Int32) (x3 : Int32) (h : ea_H) : Option (Int32 × ea_H) := BX11_road_0 x1 x2 x3 h
theorem sX11_road {d : Nat} {x1 : Int32} {x2 : Int32} {x3 : Int32} {h : ea_H} {r : Int32} {h' : ea_H} (hd : 4 ≤ d) (hs : ShC h) (K : qX11_road x1 x2 x3 h = some (r, h')) : ea_Met mX11_road d [vR (some 0), vI x1, vI x2, vI x3] h (some (vI r)) h' := by
  unfold qX11_road at K
  have W := tBX11_road_0 hd (h0 := h) K hs
  exact ea_enter rfl (Nat.le_of_ble_eq_true rfl) W
theorem kpX11_road (x1 : Int32) (x2 : Int32) (x3 : Int32) (h : ea_H) : kp (ea_core h) (qX11_road x1 x2 x3 h) := kBX11_road_0
noncomputable def BX11_late_0 (x1 : Int32) (x2 : Int32) (x3 : Int32) (h : ea_H) : Option (Int32 × ea_H) :=
  (Option.bind (qX11_mayBeTold (x1 : Int32) (x2 : Int32) (x3 : Int32) h) fun w1 => (if w1.1 = (0 : Int32) then (some ((0 : Int32), w1.2)) else (gd (vp_in (((10 : Int32) * x2) + x1) 70) (ea_let (ea_wi w1.2 11 (Int32.toNatClampNeg (((10 : Int32) * x2) + x1)) x3) fun H3 => (Option.bind (qX11_tableChanged  H3) fun w4 => (some ((1 : Int32), w4.2)))))))
theorem tBX11_late_0 {d : Nat} {h0 : ea_H} (hd : 4 ≤ d)  {x1 : Int32} {x2 : Int32} {x3 : Int32} {h : ea_H} {r : Int32} {h' : ea_H} (E : BX11_late_0 x1 x2 x3 h = some (r, h')) (hs : ShC h) : ea_W mX11_late d h0 (some (vI r)) h' 0 [(0, vR (some 0)), (1, vI x1), (2, vI x2), (3, vI x3)] [] h := by
  unfold BX11_late_0 at E
  obtain ⟨w1, Ew1, E⟩ := bd_some E
  have hsw1 : ShC w1.2 := ShC_core ((kpX11_mayBeTold _ _ _ _) _ Ew1) hs
  refine ea_aload_n (pc := 0) dX11_late_0 rfl 0 rfl ?_
  refine ea_iload_n (pc := 1) dX11_late_1 rfl 1 rfl ?_
  refine ea_iload_n (pc := 2) dX11_late_2 rfl 2 rfl ?_
  refine ea_iload_n (pc := 3) dX11_late_3 rfl 3 rfl ?_
  refine ea_callV (pc := 4) (d' := d - 1) (As := [vI x1, vI x2, vI x3]) (st := []) dX11_late_4 kX11_mayBeTold (sX11_mayBeTold (d := d - 1) (by omega) hs Ew1) (by omega) rfl (Nat.le_of_ble_eq_true rfl) ew_724 ew_726 ew_2 (ci := 11) rfl (by decide) (cShC_0 hs).1 (cShC_0 hs).2.1 ?_
  refine ea_if_ne (pc := 7) (tgt := 12) dX11_late_7 rfl (fun c5 => ?_) (fun c5 => ?_)
  · have E := (if_neg c5).symm.trans E
    obtain ⟨z2, E⟩ := gd_some E
    refine ea_aload_n (pc := 12) dX11_late_12 rfl 0 rfl ?_
    refine ea_getR (pc := 13) dX11_late_13 ec_11 (k := 1) (Nat.le_of_ble_eq_true rfl) rfl (Or.inl ew_615) (cShC_0 hsw1).1 (cShC_0 hsw1).2.1 (rShC_0_1 hsw1) ?_
    refine ea_getR (pc := 16) dX11_late_16 ec_9 (k := 6) (Nat.le_of_ble_eq_true rfl) rfl (Or.inl ew_205) (cShC_5 hsw1).1 (cShC_5 hsw1).2.1 (rShC_5_6 hsw1) ?_
    refine ea_bipush (pc := 19) dX11_late_19 (v := 10) rfl ?_
    refine ea_iload_n (pc := 21) dX11_late_21 rfl 2 rfl ?_
    refine ea_imul (pc := 22) dX11_late_22 ?_
    refine ea_iload_n (pc := 23) dX11_late_23 rfl 1 rfl ?_
    refine ea_iadd (pc := 24) dX11_late_24 ?_
    refine ea_iload_n (pc := 25) dX11_late_25 rfl 3 rfl ?_
    obtain ⟨H3, eH3, E⟩ := let_some E
    refine ea_iast (pc := 26) dX11_late_26 (cShC_11 hsw1).1 (cShC_11 hsw1).2.1 (ea_vpl (cShC_11 hsw1).2.2 z2) ?_
    refine ea_nm eH3 ?_
    have hsH3 : ShC H3 := by rw [eH3]; exact hsw1
    obtain ⟨w4, Ew4, E⟩ := bd_some E
    have hsw4 : ShC w4.2 := ShC_core ((kpX11_tableChanged _) _ Ew4) hsH3
    refine ea_aload_n (pc := 27) dX11_late_27 rfl 0 rfl ?_
    refine ea_callV (pc := 28) (d' := d - 1) (As := []) (st := []) dX11_late_28 kX11_tableChanged (sX11_tableChanged (d := d - 1) (by omega) hsH3 Ew4) (by omega) rfl (Nat.le_of_ble_eq_true rfl) ew_712 ew_714 ew_1 (ci := 11) rfl (by decide) (cShC_0 hsH3).1 (cShC_0 hsH3).2.1 ?_
    refine ea_iconst (pc := 31) dX11_late_31 (v := 1) rfl ?_
    exact ea_iretO (pc := 32) dX11_late_32 rfl (ea_bn (Or.inr rfl)) E
  · have E := (if_pos c5).symm.trans E
    refine ea_iconst (pc := 10) dX11_late_10 (v := 0) rfl ?_
    exact ea_iretO (pc := 11) dX11_late_11 rfl (ea_bn (Or.inl rfl)) E
theorem kBX11_late_0  {x1 : Int32} {x2 : Int32} {x3 : Int32} {h : ea_H} : kp (ea_core h) (BX11_late_0 x1 x2 x3 h) :=
  (kp_bind (kp_tw (kpX11_mayBeTold _ _ _ _) rfl) fun w1 hcw1 => (kp_ite (kp_ret hcw1) (kp_gd (kp_let (kp_bind (kp_tw (kpX11_tableChanged _) hcw1) fun w4 hcw4 => (kp_ret hcw4))))))
noncomputable def qX11_late (x1 : Int32) (x2 : Int32) (x3 : Int32) (h : ea_H) : Option (Int32 × ea_H) := BX11_late_0 x1 x2 x3 h
theorem sX11_late {d : Nat} {x1 : Int32} {x2 : Int32} {x3 : Int32} {h : ea_H} {r : Int32} {h' : ea_H} (hd : 4 ≤ d) (hs : ShC h) (K : qX11_late x1 x2 x3 h = some (r, h')) : ea_Met mX11_late d [vR (some 0), vI x1, vI x2, vI x3] h (some (vI r)) h' := by
  unfold qX11_late at K
  have W := tBX11_late_0 hd (h0 := h) K hs
  exact ea_enter rfl (Nat.le_of_ble_eq_true rfl) W
theorem kpX11_late (x1 : Int32) (x2 : Int32) (x3 : Int32) (h : ea_H) : kp (ea_core h) (qX11_late x1 x2 x3 h) := kBX11_late_0
noncomputable def BX11_account_0 (x1 : Int32) (x2 : Int32) (x3 : Int32) (h : ea_H) : Option (Int32 × ea_H) :=
  (Option.bind (qX7_has (x1 : Int32) h) fun w1 => (if w1.1 = (0 : Int32) then (some (((-1) : Int32), w1.2)) else (Option.bind (qX7_has (x2 : Int32) w1.2) fun w2 => (if w2.1 = (0 : Int32) then (some (((-1) : Int32), w2.2)) else (if x1 = x2 then (some (((-1) : Int32), w2.2)) else (if Int32.toInt x3 = 0 then (Option.bind (qX11_owedBetween (x1 : Int32) (x2 : Int32) (0 : Int32) w2.2) fun w7 => (some (w7.1, w7.2))) else (if Int32.toInt x3 = 1 then (Option.bind (qX11_owedBetween (x1 : Int32) (x2 : Int32) (1 : Int32) w2.2) fun w6 => (some (w6.1, w6.2))) else (if Int32.toInt x3 = 2 then (Option.bind (qX11_differing (x1 : Int32) (x2 : Int32) w2.2) fun w5 => (some (w5.1, w5.2))) else (if (10 : Int32) ≤ x3 then (Option.bind (qX11_differingLetter (x1 : Int32) (x2 : Int32) ((x3 - (10 : Int32)) : Int32) w2.2) fun w3 => (some (w3.1, w3.2))) else (some (((-1) : Int32), w2.2)))))))))))
theorem tBX11_account_0 {d : Nat} {h0 : ea_H} (hd : 4 ≤ d)  {x1 : Int32} {x2 : Int32} {x3 : Int32} {h : ea_H} {r : Int32} {h' : ea_H} (E : BX11_account_0 x1 x2 x3 h = some (r, h')) (hs : ShC h) : ea_W mX11_account d h0 (some (vI r)) h' 0 [(0, vR (some 0)), (1, vI x1), (2, vI x2), (3, vI x3)] [] h := by
  unfold BX11_account_0 at E
  obtain ⟨w1, Ew1, E⟩ := bd_some E
  have hsw1 : ShC w1.2 := ShC_core ((kpX7_has _ _) _ Ew1) hs
  refine ea_aload_n (pc := 0) dX11_account_0 rfl 0 rfl ?_
  refine ea_getR (pc := 1) dX11_account_1 ec_11 (k := 0) (Nat.le_of_ble_eq_true rfl) rfl (Or.inl ew_614) (cShC_0 hs).1 (cShC_0 hs).2.1 (rShC_0_0 hs) ?_
  refine ea_iload_n (pc := 4) dX11_account_4 rfl 1 rfl ?_
  refine ea_callV (pc := 5) (d' := d - 1) (As := [vI x1]) (st := []) dX11_account_5 kX7_has (sX7_has (d := d - 1) (by omega) hs Ew1) (by omega) rfl (Nat.le_of_ble_eq_true rfl) ew_680 ew_681 ew_682 (ci := 7) rfl (by decide) (cShC_1 hs).1 (cShC_1 hs).2.1 ?_
  refine ea_if_eq (pc := 8) (tgt := 27) dX11_account_8 rfl (fun c10 => ?_) (fun c10 => ?_)
  · have E := (if_pos c10).symm.trans E
    refine ea_iconst (pc := 27) dX11_account_27 (v := (-1)) rfl ?_
    exact ea_iretO (pc := 28) dX11_account_28 rfl rfl E
  · have E := (if_neg c10).symm.trans E
    obtain ⟨w2, Ew2, E⟩ := bd_some E
    have hsw2 : ShC w2.2 := ShC_core ((kpX7_has _ _) _ Ew2) hsw1
    refine ea_aload_n (pc := 11) dX11_account_11 rfl 0 rfl ?_
    refine ea_getR (pc := 12) dX11_account_12 ec_11 (k := 0) (Nat.le_of_ble_eq_true rfl) rfl (Or.inl ew_614) (cShC_0 hsw1).1 (cShC_0 hsw1).2.1 (rShC_0_0 hsw1) ?_
    refine ea_iload_n (pc := 15) dX11_account_15 rfl 2 rfl ?_
    refine ea_callV (pc := 16) (d' := d - 1) (As := [vI x2]) (st := []) dX11_account_16 kX7_has (sX7_has (d := d - 1) (by omega) hsw1 Ew2) (by omega) rfl (Nat.le_of_ble_eq_true rfl) ew_680 ew_681 ew_682 (ci := 7) rfl (by decide) (cShC_1 hsw1).1 (cShC_1 hsw1).2.1 ?_
    refine ea_if_eq (pc := 19) (tgt := 27) dX11_account_19 rfl (fun c9 => ?_) (fun c9 => ?_)
    · have E := (if_pos c9).symm.trans E
      refine ea_iconst (pc := 27) dX11_account_27 (v := (-1)) rfl ?_
      exact ea_iretO (pc := 28) dX11_account_28 rfl rfl E
    · have E := (if_neg c9).symm.trans E
      refine ea_iload_n (pc := 22) dX11_account_22 rfl 1 rfl ?_
      refine ea_iload_n (pc := 23) dX11_account_23 rfl 2 rfl ?_
      refine ea_icmp_ne (pc := 24) (tgt := 29) dX11_account_24 rfl (fun c8 => ?_) (fun c8 => ?_)
      · have E := (if_neg c8).symm.trans E
        refine ea_iload_n (pc := 29) dX11_account_29 rfl 3 rfl ?_
        by_cases q30_0 : Int32.toInt x3 = 0
        · have E := (if_pos q30_0).symm.trans E
          obtain ⟨w7, Ew7, E⟩ := bd_some E
          have hsw7 : ShC w7.2 := ShC_core ((kpX11_owedBetween _ _ _ _) _ Ew7) hsw2
          refine ea_tswIn (pc := 30) (tgt := 56) dX11_account_30 (by rw [q30_0]; decide) (by rw [q30_0]; decide) (by rw [q30_0]; rfl) rfl ?_
          refine ea_aload_n (pc := 56) dX11_account_56 rfl 0 rfl ?_
          refine ea_iload_n (pc := 57) dX11_account_57 rfl 1 rfl ?_
          refine ea_iload_n (pc := 58) dX11_account_58 rfl 2 rfl ?_
          refine ea_iconst (pc := 59) dX11_account_59 (v := 0) rfl ?_
          refine ea_callV (pc := 60) (d' := d - 1) (As := [vI x1, vI x2, vI 0]) (st := []) dX11_account_60 kX11_owedBetween (sX11_owedBetween (d := d - 1) (by omega) hsw2 Ew7) (by omega) rfl (Nat.le_of_ble_eq_true rfl) ew_1237 ew_1239 ew_41 (ci := 11) rfl (by decide) (cShC_0 hsw2).1 (cShC_0 hsw2).2.1 ?_
          exact ea_iretO (pc := 63) dX11_account_63 rfl rfl E
        have E := (if_neg q30_0).symm.trans E
        by_cases q30_1 : Int32.toInt x3 = 1
        · have E := (if_pos q30_1).symm.trans E
          obtain ⟨w6, Ew6, E⟩ := bd_some E
          have hsw6 : ShC w6.2 := ShC_core ((kpX11_owedBetween _ _ _ _) _ Ew6) hsw2
          refine ea_tswIn (pc := 30) (tgt := 64) dX11_account_30 (by rw [q30_1]; decide) (by rw [q30_1]; decide) (by rw [q30_1]; rfl) rfl ?_
          refine ea_aload_n (pc := 64) dX11_account_64 rfl 0 rfl ?_
          refine ea_iload_n (pc := 65) dX11_account_65 rfl 1 rfl ?_
          refine ea_iload_n (pc := 66) dX11_account_66 rfl 2 rfl ?_
          refine ea_iconst (pc := 67) dX11_account_67 (v := 1) rfl ?_
          refine ea_callV (pc := 68) (d' := d - 1) (As := [vI x1, vI x2, vI 1]) (st := []) dX11_account_68 kX11_owedBetween (sX11_owedBetween (d := d - 1) (by omega) hsw2 Ew6) (by omega) rfl (Nat.le_of_ble_eq_true rfl) ew_1237 ew_1239 ew_41 (ci := 11) rfl (by decide) (cShC_0 hsw2).1 (cShC_0 hsw2).2.1 ?_
          exact ea_iretO (pc := 71) dX11_account_71 rfl rfl E
        have E := (if_neg q30_1).symm.trans E
        by_cases q30_2 : Int32.toInt x3 = 2
        · have E := (if_pos q30_2).symm.trans E
          obtain ⟨w5, Ew5, E⟩ := bd_some E
          have hsw5 : ShC w5.2 := ShC_core ((kpX11_differing _ _ _) _ Ew5) hsw2
          refine ea_tswIn (pc := 30) (tgt := 72) dX11_account_30 (by rw [q30_2]; decide) (by rw [q30_2]; decide) (by rw [q30_2]; rfl) rfl ?_
          refine ea_aload_n (pc := 72) dX11_account_72 rfl 0 rfl ?_
          refine ea_iload_n (pc := 73) dX11_account_73 rfl 1 rfl ?_
          refine ea_iload_n (pc := 74) dX11_account_74 rfl 2 rfl ?_
          refine ea_callV (pc := 75) (d' := d - 1) (As := [vI x1, vI x2]) (st := []) dX11_account_75 kX11_differing (sX11_differing (d := d - 1) (by omega) hsw2 Ew5) (by omega) rfl (Nat.le_of_ble_eq_true rfl) ew_1245 ew_1247 ew_43 (ci := 11) rfl (by decide) (cShC_0 hsw2).1 (cShC_0 hsw2).2.1 ?_
          exact ea_iretO (pc := 78) dX11_account_78 rfl rfl E
        have E := (if_neg q30_2).symm.trans E
        refine ea_tswOut (pc := 30) (tgt := 79) dX11_account_30 (ea_sw_0_2 q30_0 q30_1 q30_2) rfl ?_
        refine ea_iload_n (pc := 79) dX11_account_79 rfl 3 rfl ?_
        refine ea_bipush (pc := 80) dX11_account_80 (v := 10) rfl ?_
        refine ea_icmp_ge (pc := 82) (tgt := 89) dX11_account_82 rfl (fun c4 => ?_) (fun c4 => ?_)
        · have E := (if_pos c4).symm.trans E
          obtain ⟨w3, Ew3, E⟩ := bd_some E
          have hsw3 : ShC w3.2 := ShC_core ((kpX11_differingLetter _ _ _ _) _ Ew3) hsw2
          refine ea_aload_n (pc := 89) dX11_account_89 rfl 0 rfl ?_
          refine ea_iload_n (pc := 90) dX11_account_90 rfl 1 rfl ?_
          refine ea_iload_n (pc := 91) dX11_account_91 rfl 2 rfl ?_
          refine ea_iload_n (pc := 92) dX11_account_92 rfl 3 rfl ?_
          refine ea_bipush (pc := 93) dX11_account_93 (v := 10) rfl ?_
          refine ea_isub (pc := 95) dX11_account_95 ?_
          refine ea_callV (pc := 96) (d' := d - 1) (As := [vI x1, vI x2, vI (x3 - (10 : Int32))]) (st := []) dX11_account_96 kX11_differingLetter (sX11_differingLetter (d := d - 1) (by omega) hsw2 Ew3) (by omega) rfl (Nat.le_of_ble_eq_true rfl) ew_1253 ew_1255 ew_45 (ci := 11) rfl (by decide) (cShC_0 hsw2).1 (cShC_0 hsw2).2.1 ?_
          exact ea_iretO (pc := 99) dX11_account_99 rfl rfl E
        · have E := (if_neg c4).symm.trans E
          refine ea_iconst (pc := 85) dX11_account_85 (v := (-1)) rfl ?_
          refine ea_goto (pc := 86) (tgt := 99) dX11_account_86 rfl ?_
          exact ea_iretO (pc := 99) dX11_account_99 rfl rfl E
      · have E := (if_pos c8).symm.trans E
        refine ea_iconst (pc := 27) dX11_account_27 (v := (-1)) rfl ?_
        exact ea_iretO (pc := 28) dX11_account_28 rfl rfl E
theorem kBX11_account_0  {x1 : Int32} {x2 : Int32} {x3 : Int32} {h : ea_H} : kp (ea_core h) (BX11_account_0 x1 x2 x3 h) :=
  (kp_bind (kp_tw (kpX7_has _ _) rfl) fun w1 hcw1 => (kp_ite (kp_ret hcw1) (kp_bind (kp_tw (kpX7_has _ _) hcw1) fun w2 hcw2 => (kp_ite (kp_ret hcw2) (kp_ite (kp_ret hcw2) (kp_ite (kp_bind (kp_tw (kpX11_owedBetween _ _ _ _) hcw2) fun w7 hcw7 => (kp_ret hcw7)) (kp_ite (kp_bind (kp_tw (kpX11_owedBetween _ _ _ _) hcw2) fun w6 hcw6 => (kp_ret hcw6)) (kp_ite (kp_bind (kp_tw (kpX11_differing _ _ _) hcw2) fun w5 hcw5 => (kp_ret hcw5)) (kp_ite (kp_bind (kp_tw (kpX11_differingLetter _ _ _ _) hcw2) fun w3 hcw3 => (kp_ret hcw3)) (kp_ret hcw2))))))))))
noncomputable def qX11_account (x1 : Int32) (x2 : Int32) (x3 : Int32) (h : ea_H) : Option (Int32 × ea_H) := BX11_account_0 x1 x2 x3 h
theorem sX11_account {d : Nat} {x1 : Int32} {x2 : Int32} {x3 : Int32} {h : ea_H} {r : Int32} {h' : ea_H} (hd : 4 ≤ d) (hs : ShC h) (K : qX11_account x1 x2 x3 h = some (r, h')) : ea_Met mX11_account d [vR (some 0), vI x1, vI x2, vI x3] h (some (vI r)) h' := by
  unfold qX11_account at K
  have W := tBX11_account_0 hd (h0 := h) K hs
  exact ea_enter rfl (Nat.le_of_ble_eq_true rfl) W
theorem kpX11_account (x1 : Int32) (x2 : Int32) (x3 : Int32) (h : ea_H) : kp (ea_core h) (qX11_account x1 x2 x3 h) := kBX11_account_0
noncomputable def BX11_robbery_0 (x1 : Int32) (x2 : Int32) (h : ea_H) : Option (Int32 × ea_H) :=
  (if x1 < (0 : Int32) then (some (((-1) : Int32), h)) else (if x1 < (ea_i h 0 13) then (if Int32.toInt x2 = 0 then (gd (vp_in x1 20) (some ((ea_i h 73 (Int32.toNatClampNeg x1)), h))) else (if Int32.toInt x2 = 1 then (gd (vp_in x1 20) (some ((ea_i h 74 (Int32.toNatClampNeg x1)), h))) else (if Int32.toInt x2 = 2 then (Option.bind (qX11_taken (x1 : Int32) h) fun w4 => (some (w4.1, w4.2))) else (if Int32.toInt x2 = 3 then (Option.bind (qX11_owedOfTaken (x1 : Int32) h) fun w3 => (some (w3.1, w3.2))) else (if (10 : Int32) ≤ x2 then (Option.bind (qX11_takenLetter (x1 : Int32) ((x2 - (10 : Int32)) : Int32) h) fun w1 => (some (w1.1, w1.2))) else (some (((-1) : Int32), h))))))) else (some (((-1) : Int32), h))))
theorem tBX11_robbery_0 {d : Nat} {h0 : ea_H} (hd : 3 ≤ d)  {x1 : Int32} {x2 : Int32} {h : ea_H} {r : Int32} {h' : ea_H} (E : BX11_robbery_0 x1 x2 h = some (r, h')) (hs : ShC h) : ea_W mX11_robbery d h0 (some (vI r)) h' 0 [(0, vR (some 0)), (1, vI x1), (2, vI x2)] [] h := by
  unfold BX11_robbery_0 at E
  refine ea_iload_n (pc := 0) dX11_robbery_0 rfl 1 rfl ?_
  refine ea_if_lt (pc := 1) (tgt := 12) dX11_robbery_1 rfl (fun c8 => ?_) (fun c8 => ?_)
  · have E := (if_pos c8).symm.trans E
    refine ea_iconst (pc := 12) dX11_robbery_12 (v := (-1)) rfl ?_
    exact ea_iretO (pc := 13) dX11_robbery_13 rfl rfl E
  · have E := (if_neg c8).symm.trans E
    refine ea_iload_n (pc := 4) dX11_robbery_4 rfl 1 rfl ?_
    refine ea_aload_n (pc := 5) dX11_robbery_5 rfl 0 rfl ?_
    refine ea_getI (pc := 6) dX11_robbery_6 ec_11 (k := 13) (Nat.le_of_ble_eq_true rfl) rfl (Or.inl ew_627) (cShC_0 hs).1 (cShC_0 hs).2.1 ?_
    refine ea_icmp_lt (pc := 9) (tgt := 14) dX11_robbery_9 rfl (fun c7 => ?_) (fun c7 => ?_)
    · have E := (if_pos c7).symm.trans E
      refine ea_iload_n (pc := 14) dX11_robbery_14 rfl 2 rfl ?_
      by_cases q15_0 : Int32.toInt x2 = 0
      · have E := (if_pos q15_0).symm.trans E
        obtain ⟨z6, E⟩ := gd_some E
        refine ea_tswIn (pc := 15) (tgt := 44) dX11_robbery_15 (by rw [q15_0]; decide) (by rw [q15_0]; decide) (by rw [q15_0]; rfl) rfl ?_
        refine ea_aload_n (pc := 44) dX11_robbery_44 rfl 0 rfl ?_
        refine ea_getR (pc := 45) dX11_robbery_45 ec_11 (k := 10) (Nat.le_of_ble_eq_true rfl) rfl (Or.inl ew_624) (cShC_0 hs).1 (cShC_0 hs).2.1 (rShC_0_10 hs) ?_
        refine ea_iload_n (pc := 48) dX11_robbery_48 rfl 1 rfl ?_
        refine ea_iald (pc := 49) dX11_robbery_49 (cShC_73 hs).1 (cShC_73 hs).2.1 (ea_vpl (cShC_73 hs).2.2 z6) ?_
        exact ea_iretO (pc := 50) dX11_robbery_50 rfl rfl E
      have E := (if_neg q15_0).symm.trans E
      by_cases q15_1 : Int32.toInt x2 = 1
      · have E := (if_pos q15_1).symm.trans E
        obtain ⟨z5, E⟩ := gd_some E
        refine ea_tswIn (pc := 15) (tgt := 51) dX11_robbery_15 (by rw [q15_1]; decide) (by rw [q15_1]; decide) (by rw [q15_1]; rfl) rfl ?_
        refine ea_aload_n (pc := 51) dX11_robbery_51 rfl 0 rfl ?_
        refine ea_getR (pc := 52) dX11_robbery_52 ec_11 (k := 11) (Nat.le_of_ble_eq_true rfl) rfl (Or.inl ew_625) (cShC_0 hs).1 (cShC_0 hs).2.1 (rShC_0_11 hs) ?_
        refine ea_iload_n (pc := 55) dX11_robbery_55 rfl 1 rfl ?_
        refine ea_iald (pc := 56) dX11_robbery_56 (cShC_74 hs).1 (cShC_74 hs).2.1 (ea_vpl (cShC_74 hs).2.2 z5) ?_
        exact ea_iretO (pc := 57) dX11_robbery_57 rfl rfl E
      have E := (if_neg q15_1).symm.trans E
      by_cases q15_2 : Int32.toInt x2 = 2
      · have E := (if_pos q15_2).symm.trans E
        obtain ⟨w4, Ew4, E⟩ := bd_some E
        have hsw4 : ShC w4.2 := ShC_core ((kpX11_taken _ _) _ Ew4) hs
        refine ea_tswIn (pc := 15) (tgt := 58) dX11_robbery_15 (by rw [q15_2]; decide) (by rw [q15_2]; decide) (by rw [q15_2]; rfl) rfl ?_
        refine ea_aload_n (pc := 58) dX11_robbery_58 rfl 0 rfl ?_
        refine ea_iload_n (pc := 59) dX11_robbery_59 rfl 1 rfl ?_
        refine ea_callV (pc := 60) (d' := d - 1) (As := [vI x1]) (st := []) dX11_robbery_60 kX11_taken (sX11_taken (d := d - 1) (by omega) hs Ew4) (by omega) rfl (Nat.le_of_ble_eq_true rfl) ew_1313 ew_1315 ew_47 (ci := 11) rfl (by decide) (cShC_0 hs).1 (cShC_0 hs).2.1 ?_
        exact ea_iretO (pc := 63) dX11_robbery_63 rfl rfl E
      have E := (if_neg q15_2).symm.trans E
      by_cases q15_3 : Int32.toInt x2 = 3
      · have E := (if_pos q15_3).symm.trans E
        obtain ⟨w3, Ew3, E⟩ := bd_some E
        have hsw3 : ShC w3.2 := ShC_core ((kpX11_owedOfTaken _ _) _ Ew3) hs
        refine ea_tswIn (pc := 15) (tgt := 64) dX11_robbery_15 (by rw [q15_3]; decide) (by rw [q15_3]; decide) (by rw [q15_3]; rfl) rfl ?_
        refine ea_aload_n (pc := 64) dX11_robbery_64 rfl 0 rfl ?_
        refine ea_iload_n (pc := 65) dX11_robbery_65 rfl 1 rfl ?_
        refine ea_callV (pc := 66) (d' := d - 1) (As := [vI x1]) (st := []) dX11_robbery_66 kX11_owedOfTaken (sX11_owedOfTaken (d := d - 1) (by omega) hs Ew3) (by omega) rfl (Nat.le_of_ble_eq_true rfl) ew_1321 ew_1323 ew_49 (ci := 11) rfl (by decide) (cShC_0 hs).1 (cShC_0 hs).2.1 ?_
        exact ea_iretO (pc := 69) dX11_robbery_69 rfl rfl E
      have E := (if_neg q15_3).symm.trans E
      refine ea_tswOut (pc := 15) (tgt := 70) dX11_robbery_15 (ea_sw_0_3 q15_0 q15_1 q15_2 q15_3) rfl ?_
      refine ea_iload_n (pc := 70) dX11_robbery_70 rfl 2 rfl ?_
      refine ea_bipush (pc := 71) dX11_robbery_71 (v := 10) rfl ?_
      refine ea_icmp_ge (pc := 73) (tgt := 80) dX11_robbery_73 rfl (fun c2 => ?_) (fun c2 => ?_)
      · have E := (if_pos c2).symm.trans E
        obtain ⟨w1, Ew1, E⟩ := bd_some E
        have hsw1 : ShC w1.2 := ShC_core ((kpX11_takenLetter _ _ _) _ Ew1) hs
        refine ea_aload_n (pc := 80) dX11_robbery_80 rfl 0 rfl ?_
        refine ea_iload_n (pc := 81) dX11_robbery_81 rfl 1 rfl ?_
        refine ea_iload_n (pc := 82) dX11_robbery_82 rfl 2 rfl ?_
        refine ea_bipush (pc := 83) dX11_robbery_83 (v := 10) rfl ?_
        refine ea_isub (pc := 85) dX11_robbery_85 ?_
        refine ea_callV (pc := 86) (d' := d - 1) (As := [vI x1, vI (x2 - (10 : Int32))]) (st := []) dX11_robbery_86 kX11_takenLetter (sX11_takenLetter (d := d - 1) (by omega) hs Ew1) (by omega) rfl (Nat.le_of_ble_eq_true rfl) ew_1325 ew_1327 ew_50 (ci := 11) rfl (by decide) (cShC_0 hs).1 (cShC_0 hs).2.1 ?_
        exact ea_iretO (pc := 89) dX11_robbery_89 rfl rfl E
      · have E := (if_neg c2).symm.trans E
        refine ea_iconst (pc := 76) dX11_robbery_76 (v := (-1)) rfl ?_
        refine ea_goto (pc := 77) (tgt := 89) dX11_robbery_77 rfl ?_
        exact ea_iretO (pc := 89) dX11_robbery_89 rfl rfl E
    · have E := (if_neg c7).symm.trans E
      refine ea_iconst (pc := 12) dX11_robbery_12 (v := (-1)) rfl ?_
      exact ea_iretO (pc := 13) dX11_robbery_13 rfl rfl E
theorem kBX11_robbery_0  {x1 : Int32} {x2 : Int32} {h : ea_H} : kp (ea_core h) (BX11_robbery_0 x1 x2 h) :=
  (kp_ite (kp_ret rfl) (kp_ite (kp_ite (kp_gd (kp_ret rfl)) (kp_ite (kp_gd (kp_ret rfl)) (kp_ite (kp_bind (kp_tw (kpX11_taken _ _) rfl) fun w4 hcw4 => (kp_ret hcw4)) (kp_ite (kp_bind (kp_tw (kpX11_owedOfTaken _ _) rfl) fun w3 hcw3 => (kp_ret hcw3)) (kp_ite (kp_bind (kp_tw (kpX11_takenLetter _ _ _) rfl) fun w1 hcw1 => (kp_ret hcw1)) (kp_ret rfl)))))) (kp_ret rfl)))
noncomputable def qX11_robbery (x1 : Int32) (x2 : Int32) (h : ea_H) : Option (Int32 × ea_H) := BX11_robbery_0 x1 x2 h
theorem sX11_robbery {d : Nat} {x1 : Int32} {x2 : Int32} {h : ea_H} {r : Int32} {h' : ea_H} (hd : 3 ≤ d) (hs : ShC h) (K : qX11_robbery x1 x2 h = some (r, h')) : ea_Met mX11_robbery d [vR (some 0), vI x1, vI x2] h (some (vI r)) h' := by
  unfold qX11_robbery at K
  have W := tBX11_robbery_0 hd (h0 := h) K hs
  exact ea_enter rfl (Nat.le_of_ble_eq_true rfl) W
theorem kpX11_robbery (x1 : Int32) (x2 : Int32) (h : ea_H) : kp (ea_core h) (qX11_robbery x1 x2 h) := kBX11_robbery_0
noncomputable def BX1_begin_at52_0 (x1 : Int32) (x2 : Int32) (h : ea_H) : Option (Unit × ea_H) :=
  (ea_let (ea_wi h 52 0 ((ea_i h 52 0) + (1 : Int32))) fun H1 => (ea_let (ea_wi H1 52 10 ((ea_i H1 52 10) + (1 : Int32))) fun H2 => (gd (vp_in x2 12) (gd (vp_in x2 12) (ea_let (ea_wi H2 60 (Int32.toNatClampNeg x2) ((ea_i H2 60 (Int32.toNatClampNeg x2)) + (1 : Int32))) fun H5 => (gd (vp_in (ea_i h 52 0) 120) (ea_let (ea_wi H5 53 (Int32.toNatClampNeg (ea_i h 52 0)) 0) fun H7 => (gd (vp_in (ea_i h 52 0) 120) (ea_let (ea_wi H7 54 (Int32.toNatClampNeg (ea_i h 52 0)) x2) fun H9 => (gd (vp_in (ea_i h 52 0) 120) (gd ((ea_r H9 49 (Int32.toNatClampNeg (ea_i h 52 0))) = some (Option.getD (ea_r H9 49 (Int32.toNatClampNeg (ea_i h 52 0))) 0)) (gd (((Option.getD (ea_r H9 49 (Int32.toNatClampNeg (ea_i h 52 0))) 0) < ea_n H9 ∧ ea_c H9 (Option.getD (ea_r H9 49 (Int32.toNatClampNeg (ea_i h 52 0))) 0) = 5)) (Option.bind (qX5_note (Option.getD (ea_r H9 49 (Int32.toNatClampNeg (ea_i h 52 0))) 0) (x1 : Int32) (0 : Int32) (x2 : Int32) H9) fun w11 => (some ((), w11.2)))))))))))))))
theorem tBX1_begin_at52_0 {d : Nat} {h0 : ea_H} (hd : 3 ≤ d)  {x1 : Int32} {x2 : Int32} {h : ea_H} {r : Unit} {h' : ea_H} (E : BX1_begin_at52_0 x1 x2 h = some (r, h')) (hs : ShC h) : ea_W mX1_begin d h0 none h' 0 [(0, vR (some 52)), (1, vI x1), (2, vI x2)] [] h := by
  unfold BX1_begin_at52_0 at E
  obtain ⟨H1, eH1, E⟩ := let_some E
  refine ea_aload_n (pc := 0) dX1_begin_0 rfl 0 rfl ?_
  refine ea_getI (pc := 1) dX1_begin_1 ec_1 (k := 0) (Nat.le_of_ble_eq_true rfl) rfl (Or.inl ew_441) (cShC_52 hs).1 (cShC_52 hs).2.1 ?_
  refine ea_istore_n (pc := 4) (lv' := [(0, vR (some 52)), (1, vI x1), (2, vI x2), (3, vI (ea_i h 52 0))]) dX1_begin_4 rfl (Nat.le_of_ble_eq_true rfl) [1, 2, 3, 0] rfl ?_
  refine ea_aload_n (pc := 5) dX1_begin_5 rfl 0 rfl ?_
  refine ea_dup (pc := 6) dX1_begin_6 rfl ?_
  refine ea_getI (pc := 7) dX1_begin_7 ec_1 (k := 0) (Nat.le_of_ble_eq_true rfl) rfl (Or.inl ew_441) (cShC_52 hs).1 (cShC_52 hs).2.1 ?_
  refine ea_iconst (pc := 10) dX1_begin_10 (v := 1) rfl ?_
  refine ea_iadd (pc := 11) dX1_begin_11 ?_
  refine ea_putI (pc := 12) dX1_begin_12 ec_1 (k := 0) (Nat.le_of_ble_eq_true rfl) rfl (Or.inl ⟨rfl, Or.inl ew_441⟩) rfl rfl (cShC_52 hs).1 (cShC_52 hs).2.1 ?_
  refine ea_nm eH1 ?_
  have hsH1 : ShC H1 := by rw [eH1]; exact hs
  obtain ⟨H2, eH2, E⟩ := let_some E
  refine ea_aload_n (pc := 15) dX1_begin_15 rfl 0 rfl ?_
  refine ea_dup (pc := 16) dX1_begin_16 rfl ?_
  refine ea_getI (pc := 17) dX1_begin_17 ec_1 (k := 10) (Nat.le_of_ble_eq_true rfl) rfl (Or.inl ew_458) (cShC_52 hsH1).1 (cShC_52 hsH1).2.1 ?_
  refine ea_iconst (pc := 20) dX1_begin_20 (v := 1) rfl ?_
  refine ea_iadd (pc := 21) dX1_begin_21 ?_
  refine ea_putI (pc := 22) dX1_begin_22 ec_1 (k := 10) (Nat.le_of_ble_eq_true rfl) rfl (Or.inl ⟨rfl, Or.inl ew_458⟩) rfl rfl (cShC_52 hsH1).1 (cShC_52 hsH1).2.1 ?_
  refine ea_nm eH2 ?_
  have hsH2 : ShC H2 := by rw [eH2]; exact hsH1
  obtain ⟨z3, E⟩ := gd_some E
  refine ea_aload_n (pc := 25) dX1_begin_25 rfl 0 rfl ?_
  refine ea_getR (pc := 26) dX1_begin_26 ec_1 (k := 8) (Nat.le_of_ble_eq_true rfl) rfl (Or.inl ew_456) (cShC_52 hsH2).1 (cShC_52 hsH2).2.1 (rShC_52_8 hsH2) ?_
  refine ea_iload_n (pc := 29) dX1_begin_29 rfl 2 rfl ?_
  refine ea_dup2 (pc := 30) dX1_begin_30 rfl rfl ?_
  obtain ⟨z4, E⟩ := gd_some E
  refine ea_iald (pc := 31) dX1_begin_31 (cShC_60 hsH2).1 (cShC_60 hsH2).2.1 (ea_vpl (cShC_60 hsH2).2.2 z3) ?_
  refine ea_iconst (pc := 32) dX1_begin_32 (v := 1) rfl ?_
  refine ea_iadd (pc := 33) dX1_begin_33 ?_
  obtain ⟨H5, eH5, E⟩ := let_some E
  refine ea_iast (pc := 34) dX1_begin_34 (cShC_60 hsH2).1 (cShC_60 hsH2).2.1 (ea_vpl (cShC_60 hsH2).2.2 z4) ?_
  refine ea_nm eH5 ?_
  have hsH5 : ShC H5 := by rw [eH5]; exact hsH2
  obtain ⟨z6, E⟩ := gd_some E
  refine ea_aload_n (pc := 35) dX1_begin_35 rfl 0 rfl ?_
  refine ea_getR (pc := 36) dX1_begin_36 ec_1 (k := 1) (Nat.le_of_ble_eq_true rfl) rfl (Or.inl ew_443) (cShC_52 hsH5).1 (cShC_52 hsH5).2.1 (rShC_52_1 hsH5) ?_
  refine ea_iload_n (pc := 39) dX1_begin_39 rfl 3 rfl ?_
  refine ea_iconst (pc := 40) dX1_begin_40 (v := 0) rfl ?_
  obtain ⟨H7, eH7, E⟩ := let_some E
  refine ea_iast (pc := 41) dX1_begin_41 (cShC_53 hsH5).1 (cShC_53 hsH5).2.1 (ea_vpl (cShC_53 hsH5).2.2 z6) ?_
  refine ea_nm eH7 ?_
  have hsH7 : ShC H7 := by rw [eH7]; exact hsH5
  obtain ⟨z8, E⟩ := gd_some E
  refine ea_aload_n (pc := 42) dX1_begin_42 rfl 0 rfl ?_
  refine ea_getR (pc := 43) dX1_begin_43 ec_1 (k := 2) (Nat.le_of_ble_eq_true rfl) rfl (Or.inl ew_445) (cShC_52 hsH7).1 (cShC_52 hsH7).2.1 (rShC_52_2 hsH7) ?_
  refine ea_iload_n (pc := 46) dX1_begin_46 rfl 3 rfl ?_
  refine ea_iload_n (pc := 47) dX1_begin_47 rfl 2 rfl ?_
  obtain ⟨H9, eH9, E⟩ := let_some E
  refine ea_iast (pc := 48) dX1_begin_48 (cShC_54 hsH7).1 (cShC_54 hsH7).2.1 (ea_vpl (cShC_54 hsH7).2.2 z8) ?_
  refine ea_nm eH9 ?_
  have hsH9 : ShC H9 := by rw [eH9]; exact hsH7
  obtain ⟨z10, E⟩ := gd_some E
  refine ea_aload_n (pc := 49) dX1_begin_49 rfl 0 rfl ?_
  refine ea_getR (pc := 50) dX1_begin_50 ec_1 (k := 14) (Nat.le_of_ble_eq_true rfl) rfl (Or.inl ew_462) (cShC_52 hsH9).1 (cShC_52 hsH9).2.1 (rShC_52_14 hsH9) ?_
  refine ea_iload_n (pc := 53) dX1_begin_53 rfl 3 rfl ?_
  obtain ⟨e12, E⟩ := gd_some E
  refine ea_aald23 (pc := 54) dX1_begin_54 (cShC_49 hsH9).1 (cShC_49 hsH9).2.1 (ea_vpl (cShC_49 hsH9).2.2 z10) rfl ?_
  refine ea_iload_n (pc := 55) dX1_begin_55 rfl 1 rfl ?_
  refine ea_iconst (pc := 56) dX1_begin_56 (v := 0) rfl ?_
  refine ea_iload_n (pc := 57) dX1_begin_57 rfl 2 rfl ?_
  obtain ⟨f13, E⟩ := gd_some E
  obtain ⟨w11, Ew11, E⟩ := bd_some E
  have hsw11 : ShC w11.2 := ShC_core ((kpX5_note _ _ _ _ _) _ Ew11) hsH9
  refine ea_deref3 e12 ?_
  refine ea_callV (pc := 58) (d' := d - 1) (As := [vI x1, vI 0, vI x2]) (st := []) dX1_begin_58 kX5_note (sX5_note (d := d - 1) (by omega) Ew11) (by omega) rfl (Nat.le_of_ble_eq_true rfl) ew_855 ew_856 ew_857 (ci := 5) rfl (by decide) f13.1 f13.2 ?_
  exact ea_vretO (pc := 61) dX1_begin_61 rfl E
theorem kBX1_begin_at52_0  {x1 : Int32} {x2 : Int32} {h : ea_H} : kp (ea_core h) (BX1_begin_at52_0 x1 x2 h) :=
  (kp_let (kp_let (kp_gd (kp_gd (kp_let (kp_gd (kp_let (kp_gd (kp_let (kp_gd (kp_gd (kp_gd (kp_bind (kp_tw (kpX5_note _ _ _ _ _) rfl) fun w11 hcw11 => (kp_ret hcw11))))))))))))))
noncomputable def qX1_begin_at52 (x1 : Int32) (x2 : Int32) (h : ea_H) : Option (Unit × ea_H) := BX1_begin_at52_0 x1 x2 h
theorem sX1_begin_at52 {d : Nat} {x1 : Int32} {x2 : Int32} {h : ea_H} {r : Unit} {h' : ea_H} (hd : 3 ≤ d) (hs : ShC h) (K : qX1_begin_at52 x1 x2 h = some (r, h')) : ea_Met mX1_begin d [vR (some 52), vI x1, vI x2] h none h' := by
  unfold qX1_begin_at52 at K
  have W := tBX1_begin_at52_0 hd (h0 := h) K hs
  exact ea_enter rfl (Nat.le_of_ble_eq_true rfl) W
theorem kpX1_begin_at52 (x1 : Int32) (x2 : Int32) (h : ea_H) : kp (ea_core h) (qX1_begin_at52 x1 x2 h) := kBX1_begin_at52_0
noncomputable def BX1_begin_at62_0 (x1 : Int32) (x2 : Int32) (h : ea_H) : Option (Unit × ea_H) :=
  (ea_let (ea_wi h 62 0 ((ea_i h 62 0) + (1 : Int32))) fun H1 => (ea_let (ea_wi H1 62 10 ((ea_i H1 62 10) + (1 : Int32))) fun H2 => (gd (vp_in x2 12) (gd (vp_in x2 12) (ea_let (ea_wi H2 70 (Int32.toNatClampNeg x2) ((ea_i H2 70 (Int32.toNatClampNeg x2)) + (1 : Int32))) fun H5 => (gd (vp_in (ea_i h 62 0) 120) (ea_let (ea_wi H5 63 (Int32.toNatClampNeg (ea_i h 62 0)) 0) fun H7 => (gd (vp_in (ea_i h 62 0) 120) (ea_let (ea_wi H7 64 (Int32.toNatClampNeg (ea_i h 62 0)) x2) fun H9 => (gd (vp_in (ea_i h 62 0) 120) (gd ((ea_r H9 49 (Int32.toNatClampNeg (ea_i h 62 0))) = some (Option.getD (ea_r H9 49 (Int32.toNatClampNeg (ea_i h 62 0))) 0)) (gd (((Option.getD (ea_r H9 49 (Int32.toNatClampNeg (ea_i h 62 0))) 0) < ea_n H9 ∧ ea_c H9 (Option.getD (ea_r H9 49 (Int32.toNatClampNeg (ea_i h 62 0))) 0) = 5)) (Option.bind (qX5_note (Option.getD (ea_r H9 49 (Int32.toNatClampNeg (ea_i h 62 0))) 0) (x1 : Int32) (0 : Int32) (x2 : Int32) H9) fun w11 => (some ((), w11.2)))))))))))))))
theorem tBX1_begin_at62_0 {d : Nat} {h0 : ea_H} (hd : 3 ≤ d)  {x1 : Int32} {x2 : Int32} {h : ea_H} {r : Unit} {h' : ea_H} (E : BX1_begin_at62_0 x1 x2 h = some (r, h')) (hs : ShC h) : ea_W mX1_begin d h0 none h' 0 [(0, vR (some 62)), (1, vI x1), (2, vI x2)] [] h := by
  unfold BX1_begin_at62_0 at E
  obtain ⟨H1, eH1, E⟩ := let_some E
  refine ea_aload_n (pc := 0) dX1_begin_0 rfl 0 rfl ?_
  refine ea_getI (pc := 1) dX1_begin_1 ec_1 (k := 0) (Nat.le_of_ble_eq_true rfl) rfl (Or.inl ew_441) (cShC_62 hs).1 (cShC_62 hs).2.1 ?_
  refine ea_istore_n (pc := 4) (lv' := [(0, vR (some 62)), (1, vI x1), (2, vI x2), (3, vI (ea_i h 62 0))]) dX1_begin_4 rfl (Nat.le_of_ble_eq_true rfl) [1, 2, 3, 0] rfl ?_
  refine ea_aload_n (pc := 5) dX1_begin_5 rfl 0 rfl ?_
  refine ea_dup (pc := 6) dX1_begin_6 rfl ?_
  refine ea_getI (pc := 7) dX1_begin_7 ec_1 (k := 0) (Nat.le_of_ble_eq_true rfl) rfl (Or.inl ew_441) (cShC_62 hs).1 (cShC_62 hs).2.1 ?_
  refine ea_iconst (pc := 10) dX1_begin_10 (v := 1) rfl ?_
  refine ea_iadd (pc := 11) dX1_begin_11 ?_
  refine ea_putI (pc := 12) dX1_begin_12 ec_1 (k := 0) (Nat.le_of_ble_eq_true rfl) rfl (Or.inl ⟨rfl, Or.inl ew_441⟩) rfl rfl (cShC_62 hs).1 (cShC_62 hs).2.1 ?_
  refine ea_nm eH1 ?_
  have hsH1 : ShC H1 := by rw [eH1]; exact hs
  obtain ⟨H2, eH2, E⟩ := let_some E
  refine ea_aload_n (pc := 15) dX1_begin_15 rfl 0 rfl ?_
  refine ea_dup (pc := 16) dX1_begin_16 rfl ?_
  refine ea_getI (pc := 17) dX1_begin_17 ec_1 (k := 10) (Nat.le_of_ble_eq_true rfl) rfl (Or.inl ew_458) (cShC_62 hsH1).1 (cShC_62 hsH1).2.1 ?_
  refine ea_iconst (pc := 20) dX1_begin_20 (v := 1) rfl ?_
  refine ea_iadd (pc := 21) dX1_begin_21 ?_
  refine ea_putI (pc := 22) dX1_begin_22 ec_1 (k := 10) (Nat.le_of_ble_eq_true rfl) rfl (Or.inl ⟨rfl, Or.inl ew_458⟩) rfl rfl (cShC_62 hsH1).1 (cShC_62 hsH1).2.1 ?_
  refine ea_nm eH2 ?_
  have hsH2 : ShC H2 := by rw [eH2]; exact hsH1
  obtain ⟨z3, E⟩ := gd_some E
  refine ea_aload_n (pc := 25) dX1_begin_25 rfl 0 rfl ?_
  refine ea_getR (pc := 26) dX1_begin_26 ec_1 (k := 8) (Nat.le_of_ble_eq_true rfl) rfl (Or.inl ew_456) (cShC_62 hsH2).1 (cShC_62 hsH2).2.1 (rShC_62_8 hsH2) ?_
  refine ea_iload_n (pc := 29) dX1_begin_29 rfl 2 rfl ?_
  refine ea_dup2 (pc := 30) dX1_begin_30 rfl rfl ?_
  obtain ⟨z4, E⟩ := gd_some E
  refine ea_iald (pc := 31) dX1_begin_31 (cShC_70 hsH2).1 (cShC_70 hsH2).2.1 (ea_vpl (cShC_70 hsH2).2.2 z3) ?_
  refine ea_iconst (pc := 32) dX1_begin_32 (v := 1) rfl ?_
  refine ea_iadd (pc := 33) dX1_begin_33 ?_
  obtain ⟨H5, eH5, E⟩ := let_some E
  refine ea_iast (pc := 34) dX1_begin_34 (cShC_70 hsH2).1 (cShC_70 hsH2).2.1 (ea_vpl (cShC_70 hsH2).2.2 z4) ?_
  refine ea_nm eH5 ?_
  have hsH5 : ShC H5 := by rw [eH5]; exact hsH2
  obtain ⟨z6, E⟩ := gd_some E
  refine ea_aload_n (pc := 35) dX1_begin_35 rfl 0 rfl ?_
  refine ea_getR (pc := 36) dX1_begin_36 ec_1 (k := 1) (Nat.le_of_ble_eq_true rfl) rfl (Or.inl ew_443) (cShC_62 hsH5).1 (cShC_62 hsH5).2.1 (rShC_62_1 hsH5) ?_
  refine ea_iload_n (pc := 39) dX1_begin_39 rfl 3 rfl ?_
  refine ea_iconst (pc := 40) dX1_begin_40 (v := 0) rfl ?_
  obtain ⟨H7, eH7, E⟩ := let_some E
  refine ea_iast (pc := 41) dX1_begin_41 (cShC_63 hsH5).1 (cShC_63 hsH5).2.1 (ea_vpl (cShC_63 hsH5).2.2 z6) ?_
  refine ea_nm eH7 ?_
  have hsH7 : ShC H7 := by rw [eH7]; exact hsH5
  obtain ⟨z8, E⟩ := gd_some E
  refine ea_aload_n (pc := 42) dX1_begin_42 rfl 0 rfl ?_
  refine ea_getR (pc := 43) dX1_begin_43 ec_1 (k := 2) (Nat.le_of_ble_eq_true rfl) rfl (Or.inl ew_445) (cShC_62 hsH7).1 (cShC_62 hsH7).2.1 (rShC_62_2 hsH7) ?_
  refine ea_iload_n (pc := 46) dX1_begin_46 rfl 3 rfl ?_
  refine ea_iload_n (pc := 47) dX1_begin_47 rfl 2 rfl ?_
  obtain ⟨H9, eH9, E⟩ := let_some E
  refine ea_iast (pc := 48) dX1_begin_48 (cShC_64 hsH7).1 (cShC_64 hsH7).2.1 (ea_vpl (cShC_64 hsH7).2.2 z8) ?_
  refine ea_nm eH9 ?_
  have hsH9 : ShC H9 := by rw [eH9]; exact hsH7
  obtain ⟨z10, E⟩ := gd_some E
  refine ea_aload_n (pc := 49) dX1_begin_49 rfl 0 rfl ?_
  refine ea_getR (pc := 50) dX1_begin_50 ec_1 (k := 14) (Nat.le_of_ble_eq_true rfl) rfl (Or.inl ew_462) (cShC_62 hsH9).1 (cShC_62 hsH9).2.1 (rShC_62_14 hsH9) ?_
  refine ea_iload_n (pc := 53) dX1_begin_53 rfl 3 rfl ?_
  obtain ⟨e12, E⟩ := gd_some E
  refine ea_aald23 (pc := 54) dX1_begin_54 (cShC_49 hsH9).1 (cShC_49 hsH9).2.1 (ea_vpl (cShC_49 hsH9).2.2 z10) rfl ?_
  refine ea_iload_n (pc := 55) dX1_begin_55 rfl 1 rfl ?_
  refine ea_iconst (pc := 56) dX1_begin_56 (v := 0) rfl ?_
  refine ea_iload_n (pc := 57) dX1_begin_57 rfl 2 rfl ?_
  obtain ⟨f13, E⟩ := gd_some E
  obtain ⟨w11, Ew11, E⟩ := bd_some E
  have hsw11 : ShC w11.2 := ShC_core ((kpX5_note _ _ _ _ _) _ Ew11) hsH9
  refine ea_deref3 e12 ?_
  refine ea_callV (pc := 58) (d' := d - 1) (As := [vI x1, vI 0, vI x2]) (st := []) dX1_begin_58 kX5_note (sX5_note (d := d - 1) (by omega) Ew11) (by omega) rfl (Nat.le_of_ble_eq_true rfl) ew_855 ew_856 ew_857 (ci := 5) rfl (by decide) f13.1 f13.2 ?_
  exact ea_vretO (pc := 61) dX1_begin_61 rfl E
theorem kBX1_begin_at62_0  {x1 : Int32} {x2 : Int32} {h : ea_H} : kp (ea_core h) (BX1_begin_at62_0 x1 x2 h) :=
  (kp_let (kp_let (kp_gd (kp_gd (kp_let (kp_gd (kp_let (kp_gd (kp_let (kp_gd (kp_gd (kp_gd (kp_bind (kp_tw (kpX5_note _ _ _ _ _) rfl) fun w11 hcw11 => (kp_ret hcw11))))))))))))))
noncomputable def qX1_begin_at62 (x1 : Int32) (x2 : Int32) (h : ea_H) : Option (Unit × ea_H) := BX1_begin_at62_0 x1 x2 h
theorem sX1_begin_at62 {d : Nat} {x1 : Int32} {x2 : Int32} {h : ea_H} {r : Unit} {h' : ea_H} (hd : 3 ≤ d) (hs : ShC h) (K : qX1_begin_at62 x1 x2 h = some (r, h')) : ea_Met mX1_begin d [vR (some 62), vI x1, vI x2] h none h' := by
  unfold qX1_begin_at62 at K
  have W := tBX1_begin_at62_0 hd (h0 := h) K hs
  exact ea_enter rfl (Nat.le_of_ble_eq_true rfl) W
theorem kpX1_begin_at62 (x1 : Int32) (x2 : Int32) (h : ea_H) : kp (ea_core h) (qX1_begin_at62 x1 x2 h) := kBX1_begin_at62_0
noncomputable def BX1_move_at52_0 (J72 : Int32 → Int32 → Int32 → Int32 → ea_H → Option (Unit × ea_H)) (x1 : Int32) (x2 : Int32) (x3 : Int32) (x4 : Int32) (h : ea_H) : Option (Unit × ea_H) :=
  (gd (vp_in x1 120) (if (ea_i h 53 (Int32.toNatClampNeg x1)) = (0 : Int32) then (gd (vp_in x1 120) (gd (vp_in (ea_i h 54 (Int32.toNatClampNeg x1)) 12) (gd (vp_in (ea_i h 54 (Int32.toNatClampNeg x1)) 12) (ea_let (ea_wi h 60 (Int32.toNatClampNeg (ea_i h 54 (Int32.toNatClampNeg x1))) ((ea_i h 60 (Int32.toNatClampNeg (ea_i h 54 (Int32.toNatClampNeg x1)))) - (1 : Int32))) fun H12 => (ea_let (ea_wi H12 52 10 ((ea_i H12 52 10) - (1 : Int32))) fun H13 => (J72 (x1 : Int32) (x2 : Int32) (x3 : Int32) (x4 : Int32) H13)))))) else (gd (vp_in x1 120) (if (ea_i h 53 (Int32.toNatClampNeg x1)) = (1 : Int32) then (gd (vp_in x1 120) (gd (vp_in (ea_i h 54 (Int32.toNatClampNeg x1)) 70) (gd (vp_in (ea_i h 54 (Int32.toNatClampNeg x1)) 70) (ea_let (ea_wi h 61 (Int32.toNatClampNeg (ea_i h 54 (Int32.toNatClampNeg x1))) ((ea_i h 61 (Int32.toNatClampNeg (ea_i h 54 (Int32.toNatClampNeg x1)))) - (1 : Int32))) fun H6 => (ea_let (ea_wi H6 52 10 ((ea_i H6 52 10) - (1 : Int32))) fun H7 => (J72 (x1 : Int32) (x2 : Int32) (x3 : Int32) (x4 : Int32) H7)))))) else (J72 (x1 : Int32) (x2 : Int32) (x3 : Int32) (x4 : Int32) h)))))
theorem tBX1_move_at52_0 {d : Nat} {h0 : ea_H} (hd : 3 ≤ d) {J72 : Int32 → Int32 → Int32 → Int32 → ea_H → Option (Unit × ea_H)}  (kJ72 : ∀ (x1 : Int32) (x2 : Int32) (x3 : Int32) (x4 : Int32) (h : ea_H) (r : Unit) (h' : ea_H), J72 x1 x2 x3 x4 h = some (r, h') → ShC h → ea_W mX1_move d h0 none h' 72 [(0, vR (some 52)), (1, vI x1), (2, vI x2), (3, vI x3), (4, vI x4)] [] h) {x1 : Int32} {x2 : Int32} {x3 : Int32} {x4 : Int32} {h : ea_H} {r : Unit} {h' : ea_H} (E : BX1_move_at52_0 J72 x1 x2 x3 x4 h = some (r, h')) (hs : ShC h) : ea_W mX1_move d h0 none h' 0 [(0, vR (some 52)), (1, vI x1), (2, vI x2), (3, vI x3), (4, vI x4)] [] h := by
  unfold BX1_move_at52_0 at E
  obtain ⟨z1, E⟩ := gd_some E
  refine ea_aload_n (pc := 0) dX1_move_0 rfl 0 rfl ?_
  refine ea_getR (pc := 1) dX1_move_1 ec_1 (k := 1) (Nat.le_of_ble_eq_true rfl) rfl (Or.inl ew_443) (cShC_52 hs).1 (cShC_52 hs).2.1 (rShC_52_1 hs) ?_
  refine ea_iload_n (pc := 4) dX1_move_4 rfl 1 rfl ?_
  refine ea_iald (pc := 5) dX1_move_5 (cShC_53 hs).1 (cShC_53 hs).2.1 (ea_vpl (cShC_53 hs).2.2 z1) ?_
  refine ea_if_ne (pc := 6) (tgt := 37) dX1_move_6 rfl (fun c14 => ?_) (fun c14 => ?_)
  · have E := (if_neg c14).symm.trans E
    obtain ⟨z2, E⟩ := gd_some E
    refine ea_aload_n (pc := 37) dX1_move_37 rfl 0 rfl ?_
    refine ea_getR (pc := 38) dX1_move_38 ec_1 (k := 1) (Nat.le_of_ble_eq_true rfl) rfl (Or.inl ew_443) (cShC_52 hs).1 (cShC_52 hs).2.1 (rShC_52_1 hs) ?_
    refine ea_iload_n (pc := 41) dX1_move_41 rfl 1 rfl ?_
    refine ea_iald (pc := 42) dX1_move_42 (cShC_53 hs).1 (cShC_53 hs).2.1 (ea_vpl (cShC_53 hs).2.2 z2) ?_
    refine ea_iconst (pc := 43) dX1_move_43 (v := 1) rfl ?_
    refine ea_icmp_ne (pc := 44) (tgt := 72) dX1_move_44 rfl (fun c8 => ?_) (fun c8 => ?_)
    · have E := (if_neg c8).symm.trans E
      exact (kJ72 (x1 : Int32) (x2 : Int32) (x3 : Int32) (x4 : Int32) h _ _ E hs)
    · have E := (if_pos c8).symm.trans E
      obtain ⟨z3, E⟩ := gd_some E
      refine ea_aload_n (pc := 47) dX1_move_47 rfl 0 rfl ?_
      refine ea_getR (pc := 48) dX1_move_48 ec_1 (k := 9) (Nat.le_of_ble_eq_true rfl) rfl (Or.inl ew_457) (cShC_52 hs).1 (cShC_52 hs).2.1 (rShC_52_9 hs) ?_
      refine ea_aload_n (pc := 51) dX1_move_51 rfl 0 rfl ?_
      refine ea_getR (pc := 52) dX1_move_52 ec_1 (k := 2) (Nat.le_of_ble_eq_true rfl) rfl (Or.inl ew_445) (cShC_52 hs).1 (cShC_52 hs).2.1 (rShC_52_2 hs) ?_
      refine ea_iload_n (pc := 55) dX1_move_55 rfl 1 rfl ?_
      obtain ⟨z4, E⟩ := gd_some E
      refine ea_iald (pc := 56) dX1_move_56 (cShC_54 hs).1 (cShC_54 hs).2.1 (ea_vpl (cShC_54 hs).2.2 z3) ?_
      refine ea_dup2 (pc := 57) dX1_move_57 rfl rfl ?_
      obtain ⟨z5, E⟩ := gd_some E
      refine ea_iald (pc := 58) dX1_move_58 (cShC_61 hs).1 (cShC_61 hs).2.1 (ea_vpl (cShC_61 hs).2.2 z4) ?_
      refine ea_iconst (pc := 59) dX1_move_59 (v := 1) rfl ?_
      refine ea_isub (pc := 60) dX1_move_60 ?_
      obtain ⟨H6, eH6, E⟩ := let_some E
      refine ea_iast (pc := 61) dX1_move_61 (cShC_61 hs).1 (cShC_61 hs).2.1 (ea_vpl (cShC_61 hs).2.2 z5) ?_
      refine ea_nm eH6 ?_
      have hsH6 : ShC H6 := by rw [eH6]; exact hs
      obtain ⟨H7, eH7, E⟩ := let_some E
      refine ea_aload_n (pc := 62) dX1_move_62 rfl 0 rfl ?_
      refine ea_dup (pc := 63) dX1_move_63 rfl ?_
      refine ea_getI (pc := 64) dX1_move_64 ec_1 (k := 10) (Nat.le_of_ble_eq_true rfl) rfl (Or.inl ew_458) (cShC_52 hsH6).1 (cShC_52 hsH6).2.1 ?_
      refine ea_iconst (pc := 67) dX1_move_67 (v := 1) rfl ?_
      refine ea_isub (pc := 68) dX1_move_68 ?_
      refine ea_putI (pc := 69) dX1_move_69 ec_1 (k := 10) (Nat.le_of_ble_eq_true rfl) rfl (Or.inl ⟨rfl, Or.inl ew_458⟩) rfl rfl (cShC_52 hsH6).1 (cShC_52 hsH6).2.1 ?_
      refine ea_nm eH7 ?_
      have hsH7 : ShC H7 := by rw [eH7]; exact hsH6
      exact (kJ72 (x1 : Int32) (x2 : Int32) (x3 : Int32) (x4 : Int32) H7 _ _ E hsH7)
  · have E := (if_pos c14).symm.trans E
    obtain ⟨z9, E⟩ := gd_some E
    refine ea_aload_n (pc := 9) dX1_move_9 rfl 0 rfl ?_
    refine ea_getR (pc := 10) dX1_move_10 ec_1 (k := 8) (Nat.le_of_ble_eq_true rfl) rfl (Or.inl ew_456) (cShC_52 hs).1 (cShC_52 hs).2.1 (rShC_52_8 hs) ?_
    refine ea_aload_n (pc := 13) dX1_move_13 rfl 0 rfl ?_
    refine ea_getR (pc := 14) dX1_move_14 ec_1 (k := 2) (Nat.le_of_ble_eq_true rfl) rfl (Or.inl ew_445) (cShC_52 hs).1 (cShC_52 hs).2.1 (rShC_52_2 hs) ?_
    refine ea_iload_n (pc := 17) dX1_move_17 rfl 1 rfl ?_
    obtain ⟨z10, E⟩ := gd_some E
    refine ea_iald (pc := 18) dX1_move_18 (cShC_54 hs).1 (cShC_54 hs).2.1 (ea_vpl (cShC_54 hs).2.2 z9) ?_
    refine ea_dup2 (pc := 19) dX1_move_19 rfl rfl ?_
    obtain ⟨z11, E⟩ := gd_some E
    refine ea_iald (pc := 20) dX1_move_20 (cShC_60 hs).1 (cShC_60 hs).2.1 (ea_vpl (cShC_60 hs).2.2 z10) ?_
    refine ea_iconst (pc := 21) dX1_move_21 (v := 1) rfl ?_
    refine ea_isub (pc := 22) dX1_move_22 ?_
    obtain ⟨H12, eH12, E⟩ := let_some E
    refine ea_iast (pc := 23) dX1_move_23 (cShC_60 hs).1 (cShC_60 hs).2.1 (ea_vpl (cShC_60 hs).2.2 z11) ?_
    refine ea_nm eH12 ?_
    have hsH12 : ShC H12 := by rw [eH12]; exact hs
    obtain ⟨H13, eH13, E⟩ := let_some E
    refine ea_aload_n (pc := 24) dX1_move_24 rfl 0 rfl ?_
    refine ea_dup (pc := 25) dX1_move_25 rfl ?_
    refine ea_getI (pc := 26) dX1_move_26 ec_1 (k := 10) (Nat.le_of_ble_eq_true rfl) rfl (Or.inl ew_458) (cShC_52 hsH12).1 (cShC_52 hsH12).2.1 ?_
    refine ea_iconst (pc := 29) dX1_move_29 (v := 1) rfl ?_
    refine ea_isub (pc := 30) dX1_move_30 ?_
    refine ea_putI (pc := 31) dX1_move_31 ec_1 (k := 10) (Nat.le_of_ble_eq_true rfl) rfl (Or.inl ⟨rfl, Or.inl ew_458⟩) rfl rfl (cShC_52 hsH12).1 (cShC_52 hsH12).2.1 ?_
    refine ea_nm eH13 ?_
    have hsH13 : ShC H13 := by rw [eH13]; exact hsH12
    refine ea_goto (pc := 34) (tgt := 72) dX1_move_34 rfl ?_
    exact (kJ72 (x1 : Int32) (x2 : Int32) (x3 : Int32) (x4 : Int32) H13 _ _ E hsH13)
theorem kBX1_move_at52_0 {J72 : Int32 → Int32 → Int32 → Int32 → ea_H → Option (Unit × ea_H)}  (cJ72 : ∀ (x1 : Int32) (x2 : Int32) (x3 : Int32) (x4 : Int32) (h : ea_H), kp (ea_core h) (J72 x1 x2 x3 x4 h)) {x1 : Int32} {x2 : Int32} {x3 : Int32} {x4 : Int32} {h : ea_H} : kp (ea_core h) (BX1_move_at52_0 J72 x1 x2 x3 x4 h) :=
  (kp_gd (kp_ite (kp_gd (kp_gd (kp_gd (kp_let (kp_let (kp_tw (cJ72 _ _ _ _ _) rfl)))))) (kp_gd (kp_ite (kp_gd (kp_gd (kp_gd (kp_let (kp_let (kp_tw (cJ72 _ _ _ _ _) rfl)))))) (kp_tw (cJ72 _ _ _ _ _) rfl)))))
theorem lBX1_move_at52_0 {J72 : Int32 → Int32 → Int32 → Int32 → ea_H → Option (Unit × ea_H)} {J72_ : Int32 → Int32 → Int32 → Int32 → ea_H → Option (Unit × ea_H)}  (mJ72 : ∀ (x1 : Int32) (x2 : Int32) (x3 : Int32) (x4 : Int32) (h : ea_H), fle (J72 x1 x2 x3 x4 h) (J72_ x1 x2 x3 x4 h)) {x1 : Int32} {x2 : Int32} {x3 : Int32} {x4 : Int32} {h : ea_H} : fle (BX1_move_at52_0 J72 x1 x2 x3 x4 h) (BX1_move_at52_0 J72_ x1 x2 x3 x4 h) :=
  (fle_gd (fle_ite (fle_gd (fle_gd (fle_gd (fle_let fun _ => (fle_let fun _ => (mJ72 _ _ _ _ _)))))) (fle_gd (fle_ite (fle_gd (fle_gd (fle_gd (fle_let fun _ => (fle_let fun _ => (mJ72 _ _ _ _ _)))))) (mJ72 _ _ _ _ _)))))
theorem nBX1_move_at52_0 {J72 : Int32 → Int32 → Int32 → Int32 → ea_H → Option (Unit × ea_H)} {J72_ : Nat → (Int32 → Int32 → Int32 → Int32 → ea_H → Option (Unit × ea_H))}  (mJ72 : ∀ (x1 : Int32) (x2 : Int32) (x3 : Int32) (x4 : Int32) (h : ea_H), fct (J72 x1 x2 x3 x4 h) (fun f => J72_ f x1 x2 x3 x4 h)) {x1 : Int32} {x2 : Int32} {x3 : Int32} {x4 : Int32} {h : ea_H} : fct (BX1_move_at52_0 J72 x1 x2 x3 x4 h) (fun f => BX1_move_at52_0 (J72_ f) x1 x2 x3 x4 h) :=
  (fct_gd (fct_ite (fct_gd (fct_gd (fct_gd (fct_let fun _ => (fct_let fun _ => (mJ72 _ _ _ _ _)))))) (fct_gd (fct_ite (fct_gd (fct_gd (fct_gd (fct_let fun _ => (fct_let fun _ => (mJ72 _ _ _ _ _)))))) (mJ72 _ _ _ _ _)))))
noncomputable def BX1_move_at52_72 (J126 : Int32 → Int32 → Int32 → Int32 → ea_H → Option (Unit × ea_H)) (x1 : Int32) (x2 : Int32) (x3 : Int32) (x4 : Int32) (h : ea_H) : Option (Unit × ea_H) :=
  (if x3 = (0 : Int32) then (gd (vp_in x4 12) (gd (vp_in x4 12) (ea_let (ea_wi h 60 (Int32.toNatClampNeg x4) ((ea_i h 60 (Int32.toNatClampNeg x4)) + (1 : Int32))) fun H22 => (ea_let (ea_wi H22 52 10 ((ea_i H22 52 10) + (1 : Int32))) fun H23 => (J126 (x1 : Int32) (x2 : Int32) (x3 : Int32) (x4 : Int32) H23))))) else (if x3 = (1 : Int32) then (gd (vp_in x4 70) (gd (vp_in x4 70) (ea_let (ea_wi h 61 (Int32.toNatClampNeg x4) ((ea_i h 61 (Int32.toNatClampNeg x4)) + (1 : Int32))) fun H17 => (ea_let (ea_wi H17 52 10 ((ea_i H17 52 10) + (1 : Int32))) fun H18 => (J126 (x1 : Int32) (x2 : Int32) (x3 : Int32) (x4 : Int32) H18))))) else (J126 (x1 : Int32) (x2 : Int32) (x3 : Int32) (x4 : Int32) h)))
theorem tBX1_move_at52_72 {d : Nat} {h0 : ea_H} (hd : 3 ≤ d) {J126 : Int32 → Int32 → Int32 → Int32 → ea_H → Option (Unit × ea_H)}  (kJ126 : ∀ (x1 : Int32) (x2 : Int32) (x3 : Int32) (x4 : Int32) (h : ea_H) (r : Unit) (h' : ea_H), J126 x1 x2 x3 x4 h = some (r, h') → ShC h → ea_W mX1_move d h0 none h' 126 [(0, vR (some 52)), (1, vI x1), (2, vI x2), (3, vI x3), (4, vI x4)] [] h) {x1 : Int32} {x2 : Int32} {x3 : Int32} {x4 : Int32} {h : ea_H} {r : Unit} {h' : ea_H} (E : BX1_move_at52_72 J126 x1 x2 x3 x4 h = some (r, h')) (hs : ShC h) : ea_W mX1_move d h0 none h' 72 [(0, vR (some 52)), (1, vI x1), (2, vI x2), (3, vI x3), (4, vI x4)] [] h := by
  unfold BX1_move_at52_72 at E
  refine ea_iload_n (pc := 72) dX1_move_72 rfl 3 rfl ?_
  refine ea_if_ne (pc := 73) (tgt := 100) dX1_move_73 rfl (fun c24 => ?_) (fun c24 => ?_)
  · have E := (if_neg c24).symm.trans E
    refine ea_iload_n (pc := 100) dX1_move_100 rfl 3 rfl ?_
    refine ea_iconst (pc := 101) dX1_move_101 (v := 1) rfl ?_
    refine ea_icmp_ne (pc := 102) (tgt := 126) dX1_move_102 rfl (fun c19 => ?_) (fun c19 => ?_)
    · have E := (if_neg c19).symm.trans E
      exact (kJ126 (x1 : Int32) (x2 : Int32) (x3 : Int32) (x4 : Int32) h _ _ E hs)
    · have E := (if_pos c19).symm.trans E
      obtain ⟨z15, E⟩ := gd_some E
      refine ea_aload_n (pc := 105) dX1_move_105 rfl 0 rfl ?_
      refine ea_getR (pc := 106) dX1_move_106 ec_1 (k := 9) (Nat.le_of_ble_eq_true rfl) rfl (Or.inl ew_457) (cShC_52 hs).1 (cShC_52 hs).2.1 (rShC_52_9 hs) ?_
      refine ea_iload (pc := 109) dX1_move_109 4 rfl ?_
      refine ea_dup2 (pc := 111) dX1_move_111 rfl rfl ?_
      obtain ⟨z16, E⟩ := gd_some E
      refine ea_iald (pc := 112) dX1_move_112 (cShC_61 hs).1 (cShC_61 hs).2.1 (ea_vpl (cShC_61 hs).2.2 z15) ?_
      refine ea_iconst (pc := 113) dX1_move_113 (v := 1) rfl ?_
      refine ea_iadd (pc := 114) dX1_move_114 ?_
      obtain ⟨H17, eH17, E⟩ := let_some E
      refine ea_iast (pc := 115) dX1_move_115 (cShC_61 hs).1 (cShC_61 hs).2.1 (ea_vpl (cShC_61 hs).2.2 z16) ?_
      refine ea_nm eH17 ?_
      have hsH17 : ShC H17 := by rw [eH17]; exact hs
      obtain ⟨H18, eH18, E⟩ := let_some E
      refine ea_aload_n (pc := 116) dX1_move_116 rfl 0 rfl ?_
      refine ea_dup (pc := 117) dX1_move_117 rfl ?_
      refine ea_getI (pc := 118) dX1_move_118 ec_1 (k := 10) (Nat.le_of_ble_eq_true rfl) rfl (Or.inl ew_458) (cShC_52 hsH17).1 (cShC_52 hsH17).2.1 ?_
      refine ea_iconst (pc := 121) dX1_move_121 (v := 1) rfl ?_
      refine ea_iadd (pc := 122) dX1_move_122 ?_
      refine ea_putI (pc := 123) dX1_move_123 ec_1 (k := 10) (Nat.le_of_ble_eq_true rfl) rfl (Or.inl ⟨rfl, Or.inl ew_458⟩) rfl rfl (cShC_52 hsH17).1 (cShC_52 hsH17).2.1 ?_
      refine ea_nm eH18 ?_
      have hsH18 : ShC H18 := by rw [eH18]; exact hsH17
      exact (kJ126 (x1 : Int32) (x2 : Int32) (x3 : Int32) (x4 : Int32) H18 _ _ E hsH18)
  · have E := (if_pos c24).symm.trans E
    obtain ⟨z20, E⟩ := gd_some E
    refine ea_aload_n (pc := 76) dX1_move_76 rfl 0 rfl ?_
    refine ea_getR (pc := 77) dX1_move_77 ec_1 (k := 8) (Nat.le_of_ble_eq_true rfl) rfl (Or.inl ew_456) (cShC_52 hs).1 (cShC_52 hs).2.1 (rShC_52_8 hs) ?_
    refine ea_iload (pc := 80) dX1_move_80 4 rfl ?_
    refine ea_dup2 (pc := 82) dX1_move_82 rfl rfl ?_
    obtain ⟨z21, E⟩ := gd_some E
    refine ea_iald (pc := 83) dX1_move_83 (cShC_60 hs).1 (cShC_60 hs).2.1 (ea_vpl (cShC_60 hs).2.2 z20) ?_
    refine ea_iconst (pc := 84) dX1_move_84 (v := 1) rfl ?_
    refine ea_iadd (pc := 85) dX1_move_85 ?_
    obtain ⟨H22, eH22, E⟩ := let_some E
    refine ea_iast (pc := 86) dX1_move_86 (cShC_60 hs).1 (cShC_60 hs).2.1 (ea_vpl (cShC_60 hs).2.2 z21) ?_
    refine ea_nm eH22 ?_
    have hsH22 : ShC H22 := by rw [eH22]; exact hs
    obtain ⟨H23, eH23, E⟩ := let_some E
    refine ea_aload_n (pc := 87) dX1_move_87 rfl 0 rfl ?_
    refine ea_dup (pc := 88) dX1_move_88 rfl ?_
    refine ea_getI (pc := 89) dX1_move_89 ec_1 (k := 10) (Nat.le_of_ble_eq_true rfl) rfl (Or.inl ew_458) (cShC_52 hsH22).1 (cShC_52 hsH22).2.1 ?_
    refine ea_iconst (pc := 92) dX1_move_92 (v := 1) rfl ?_
    refine ea_iadd (pc := 93) dX1_move_93 ?_
    refine ea_putI (pc := 94) dX1_move_94 ec_1 (k := 10) (Nat.le_of_ble_eq_true rfl) rfl (Or.inl ⟨rfl, Or.inl ew_458⟩) rfl rfl (cShC_52 hsH22).1 (cShC_52 hsH22).2.1 ?_
    refine ea_nm eH23 ?_
    have hsH23 : ShC H23 := by rw [eH23]; exact hsH22
    refine ea_goto (pc := 97) (tgt := 126) dX1_move_97 rfl ?_
    exact (kJ126 (x1 : Int32) (x2 : Int32) (x3 : Int32) (x4 : Int32) H23 _ _ E hsH23)
theorem kBX1_move_at52_72 {J126 : Int32 → Int32 → Int32 → Int32 → ea_H → Option (Unit × ea_H)}  (cJ126 : ∀ (x1 : Int32) (x2 : Int32) (x3 : Int32) (x4 : Int32) (h : ea_H), kp (ea_core h) (J126 x1 x2 x3 x4 h)) {x1 : Int32} {x2 : Int32} {x3 : Int32} {x4 : Int32} {h : ea_H} : kp (ea_core h) (BX1_move_at52_72 J126 x1 x2 x3 x4 h) :=
  (kp_ite (kp_gd (kp_gd (kp_let (kp_let (kp_tw (cJ126 _ _ _ _ _) rfl))))) (kp_ite (kp_gd (kp_gd (kp_let (kp_let (kp_tw (cJ126 _ _ _ _ _) rfl))))) (kp_tw (cJ126 _ _ _ _ _) rfl)))
theorem lBX1_move_at52_72 {J126 : Int32 → Int32 → Int32 → Int32 → ea_H → Option (Unit × ea_H)} {J126_ : Int32 → Int32 → Int32 → Int32 → ea_H → Option (Unit × ea_H)}  (mJ126 : ∀ (x1 : Int32) (x2 : Int32) (x3 : Int32) (x4 : Int32) (h : ea_H), fle (J126 x1 x2 x3 x4 h) (J126_ x1 x2 x3 x4 h)) {x1 : Int32} {x2 : Int32} {x3 : Int32} {x4 : Int32} {h : ea_H} : fle (BX1_move_at52_72 J126 x1 x2 x3 x4 h) (BX1_move_at52_72 J126_ x1 x2 x3 x4 h) :=
  (fle_ite (fle_gd (fle_gd (fle_let fun _ => (fle_let fun _ => (mJ126 _ _ _ _ _))))) (fle_ite (fle_gd (fle_gd (fle_let fun _ => (fle_let fun _ => (mJ126 _ _ _ _ _))))) (mJ126 _ _ _ _ _)))
theorem nBX1_move_at52_72 {J126 : Int32 → Int32 → Int32 → Int32 → ea_H → Option (Unit × ea_H)} {J126_ : Nat → (Int32 → Int32 → Int32 → Int32 → ea_H → Option (Unit × ea_H))}  (mJ126 : ∀ (x1 : Int32) (x2 : Int32) (x3 : Int32) (x4 : Int32) (h : ea_H), fct (J126 x1 x2 x3 x4 h) (fun f => J126_ f x1 x2 x3 x4 h)) {x1 : Int32} {x2 : Int32} {x3 : Int32} {x4 : Int32} {h : ea_H} : fct (BX1_move_at52_72 J126 x1 x2 x3 x4 h) (fun f => BX1_move_at52_72 (J126_ f) x1 x2 x3 x4 h) :=
  (fct_ite (fct_gd (fct_gd (fct_let fun _ => (fct_let fun _ => (mJ126 _ _ _ _ _))))) (fct_ite (fct_gd (fct_gd (fct_let fun _ => (fct_let fun _ => (mJ126 _ _ _ _ _))))) (mJ126 _ _ _ _ _)))
noncomputable def BX1_move_at52_126 (x1 : Int32) (x2 : Int32) (x3 : Int32) (x4 : Int32) (h : ea_H) : Option (Unit × ea_H) :=
  (gd (vp_in x1 120) (ea_let (ea_wi h 53 (Int32.toNatClampNeg x1) x3) fun H26 => (gd (vp_in x1 120) (ea_let (ea_wi H26 54 (Int32.toNatClampNeg x1) x4) fun H28 => (gd (vp_in x1 120) (ea_let (ea_wi H28 59 (Int32.toNatClampNeg x1) x2) fun H30 => (gd (vp_in x1 120) (ea_let (ea_wi H30 57 (Int32.toNatClampNeg x1) 0) fun H32 => (gd (vp_in x1 120) (gd ((ea_r H32 49 (Int32.toNatClampNeg x1)) = some (Option.getD (ea_r H32 49 (Int32.toNatClampNeg x1)) 0)) (gd (((Option.getD (ea_r H32 49 (Int32.toNatClampNeg x1)) 0) < ea_n H32 ∧ ea_c H32 (Option.getD (ea_r H32 49 (Int32.toNatClampNeg x1)) 0) = 5)) (Option.bind (qX5_note (Option.getD (ea_r H32 49 (Int32.toNatClampNeg x1)) 0) (x2 : Int32) (x3 : Int32) (x4 : Int32) H32) fun w34 => (some ((), w34.2))))))))))))))
theorem tBX1_move_at52_126 {d : Nat} {h0 : ea_H} (hd : 3 ≤ d)  {x1 : Int32} {x2 : Int32} {x3 : Int32} {x4 : Int32} {h : ea_H} {r : Unit} {h' : ea_H} (E : BX1_move_at52_126 x1 x2 x3 x4 h = some (r, h')) (hs : ShC h) : ea_W mX1_move d h0 none h' 126 [(0, vR (some 52)), (1, vI x1), (2, vI x2), (3, vI x3), (4, vI x4)] [] h := by
  unfold BX1_move_at52_126 at E
  obtain ⟨z25, E⟩ := gd_some E
  refine ea_aload_n (pc := 126) dX1_move_126 rfl 0 rfl ?_
  refine ea_getR (pc := 127) dX1_move_127 ec_1 (k := 1) (Nat.le_of_ble_eq_true rfl) rfl (Or.inl ew_443) (cShC_52 hs).1 (cShC_52 hs).2.1 (rShC_52_1 hs) ?_
  refine ea_iload_n (pc := 130) dX1_move_130 rfl 1 rfl ?_
  refine ea_iload_n (pc := 131) dX1_move_131 rfl 3 rfl ?_
  obtain ⟨H26, eH26, E⟩ := let_some E
  refine ea_iast (pc := 132) dX1_move_132 (cShC_53 hs).1 (cShC_53 hs).2.1 (ea_vpl (cShC_53 hs).2.2 z25) ?_
  refine ea_nm eH26 ?_
  have hsH26 : ShC H26 := by rw [eH26]; exact hs
  obtain ⟨z27, E⟩ := gd_some E
  refine ea_aload_n (pc := 133) dX1_move_133 rfl 0 rfl ?_
  refine ea_getR (pc := 134) dX1_move_134 ec_1 (k := 2) (Nat.le_of_ble_eq_true rfl) rfl (Or.inl ew_445) (cShC_52 hsH26).1 (cShC_52 hsH26).2.1 (rShC_52_2 hsH26) ?_
  refine ea_iload_n (pc := 137) dX1_move_137 rfl 1 rfl ?_
  refine ea_iload (pc := 138) dX1_move_138 4 rfl ?_
  obtain ⟨H28, eH28, E⟩ := let_some E
  refine ea_iast (pc := 140) dX1_move_140 (cShC_54 hsH26).1 (cShC_54 hsH26).2.1 (ea_vpl (cShC_54 hsH26).2.2 z27) ?_
  refine ea_nm eH28 ?_
  have hsH28 : ShC H28 := by rw [eH28]; exact hsH26
  obtain ⟨z29, E⟩ := gd_some E
  refine ea_aload_n (pc := 141) dX1_move_141 rfl 0 rfl ?_
  refine ea_getR (pc := 142) dX1_move_142 ec_1 (k := 7) (Nat.le_of_ble_eq_true rfl) rfl (Or.inl ew_455) (cShC_52 hsH28).1 (cShC_52 hsH28).2.1 (rShC_52_7 hsH28) ?_
  refine ea_iload_n (pc := 145) dX1_move_145 rfl 1 rfl ?_
  refine ea_iload_n (pc := 146) dX1_move_146 rfl 2 rfl ?_
  obtain ⟨H30, eH30, E⟩ := let_some E
  refine ea_iast (pc := 147) dX1_move_147 (cShC_59 hsH28).1 (cShC_59 hsH28).2.1 (ea_vpl (cShC_59 hsH28).2.2 z29) ?_
  refine ea_nm eH30 ?_
  have hsH30 : ShC H30 := by rw [eH30]; exact hsH28
  obtain ⟨z31, E⟩ := gd_some E
  refine ea_aload_n (pc := 148) dX1_move_148 rfl 0 rfl ?_
  refine ea_getR (pc := 149) dX1_move_149 ec_1 (k := 5) (Nat.le_of_ble_eq_true rfl) rfl (Or.inl ew_451) (cShC_52 hsH30).1 (cShC_52 hsH30).2.1 (rShC_52_5 hsH30) ?_
  refine ea_iload_n (pc := 152) dX1_move_152 rfl 1 rfl ?_
  refine ea_iconst (pc := 153) dX1_move_153 (v := 0) rfl ?_
  obtain ⟨H32, eH32, E⟩ := let_some E
  refine ea_zast (pc := 154) dX1_move_154 (y := 0) (ea_bn (Or.inl rfl)) (cShC_57 hsH30).1 (cShC_57 hsH30).2.1 (ea_vpl (cShC_57 hsH30).2.2 z31) ?_
  refine ea_nm eH32 ?_
  have hsH32 : ShC H32 := by rw [eH32]; exact hsH30
  obtain ⟨z33, E⟩ := gd_some E
  refine ea_aload_n (pc := 155) dX1_move_155 rfl 0 rfl ?_
  refine ea_getR (pc := 156) dX1_move_156 ec_1 (k := 15) (Nat.le_of_ble_eq_true rfl) rfl (Or.inl ew_463) (cShC_52 hsH32).1 (cShC_52 hsH32).2.1 (rShC_52_15 hsH32) ?_
  refine ea_ifnull (pc := 159) (tgt := 175) dX1_move_159 rfl (fun q => nomatch q) (fun _ _ => ?_)
  refine ea_aload_n (pc := 162) dX1_move_162 rfl 0 rfl ?_
  refine ea_getR (pc := 163) dX1_move_163 ec_1 (k := 14) (Nat.le_of_ble_eq_true rfl) rfl (Or.inl ew_462) (cShC_52 hsH32).1 (cShC_52 hsH32).2.1 (rShC_52_14 hsH32) ?_
  refine ea_iload_n (pc := 166) dX1_move_166 rfl 1 rfl ?_
  obtain ⟨e35, E⟩ := gd_some E
  refine ea_aald23 (pc := 167) dX1_move_167 (cShC_49 hsH32).1 (cShC_49 hsH32).2.1 (ea_vpl (cShC_49 hsH32).2.2 z33) rfl ?_
  refine ea_iload_n (pc := 168) dX1_move_168 rfl 2 rfl ?_
  refine ea_iload_n (pc := 169) dX1_move_169 rfl 3 rfl ?_
  refine ea_iload (pc := 170) dX1_move_170 4 rfl ?_
  obtain ⟨f36, E⟩ := gd_some E
  obtain ⟨w34, Ew34, E⟩ := bd_some E
  have hsw34 : ShC w34.2 := ShC_core ((kpX5_note _ _ _ _ _) _ Ew34) hsH32
  refine ea_deref3 e35 ?_
  refine ea_callV (pc := 172) (d' := d - 1) (As := [vI x2, vI x3, vI x4]) (st := []) dX1_move_172 kX5_note (sX5_note (d := d - 1) (by omega) Ew34) (by omega) rfl (Nat.le_of_ble_eq_true rfl) ew_855 ew_856 ew_857 (ci := 5) rfl (by decide) f36.1 f36.2 ?_
  exact ea_vretO (pc := 175) dX1_move_175 rfl E
theorem kBX1_move_at52_126  {x1 : Int32} {x2 : Int32} {x3 : Int32} {x4 : Int32} {h : ea_H} : kp (ea_core h) (BX1_move_at52_126 x1 x2 x3 x4 h) :=
  (kp_gd (kp_let (kp_gd (kp_let (kp_gd (kp_let (kp_gd (kp_let (kp_gd (kp_gd (kp_gd (kp_bind (kp_tw (kpX5_note _ _ _ _ _) rfl) fun w34 hcw34 => (kp_ret hcw34)))))))))))))
theorem lBX1_move_at52_126  {x1 : Int32} {x2 : Int32} {x3 : Int32} {x4 : Int32} {h : ea_H} : fle (BX1_move_at52_126 x1 x2 x3 x4 h) (BX1_move_at52_126 x1 x2 x3 x4 h) :=
  (fle_rfl _)
theorem nBX1_move_at52_126  {x1 : Int32} {x2 : Int32} {x3 : Int32} {x4 : Int32} {h : ea_H} : fct (BX1_move_at52_126 x1 x2 x3 x4 h) (fun f => BX1_move_at52_126 x1 x2 x3 x4 h) :=
  (fct_rfl _)
noncomputable def gX1_move_at52 : Nat → (Int32 → Int32 → Int32 → Int32 → ea_H → Option (Unit × ea_H)) × (Int32 → Int32 → Int32 → Int32 → ea_H → Option (Unit × ea_H)) × (Int32 → Int32 → Int32 → Int32 → ea_H → Option (Unit × ea_H))
  | 0 => (fun _ _ _ _ _ => none, fun _ _ _ _ _ => none, fun _ _ _ _ _ => none)
  | f + 1 => (BX1_move_at52_0 (gX1_move_at52 f).2.1, BX1_move_at52_72 (gX1_move_at52 f).2.2, BX1_move_at52_126)
theorem mgX1_move_at52 : ∀ f : Nat, (∀ (x1 : Int32) (x2 : Int32) (x3 : Int32) (x4 : Int32) (h : ea_H), fle ((gX1_move_at52 f).1 x1 x2 x3 x4 h) ((gX1_move_at52 (f + 1)).1 x1 x2 x3 x4 h)) ∧ (∀ (x1 : Int32) (x2 : Int32) (x3 : Int32) (x4 : Int32) (h : ea_H), fle ((gX1_move_at52 f).2.1 x1 x2 x3 x4 h) ((gX1_move_at52 (f + 1)).2.1 x1 x2 x3 x4 h)) ∧ (∀ (x1 : Int32) (x2 : Int32) (x3 : Int32) (x4 : Int32) (h : ea_H), fle ((gX1_move_at52 f).2.2 x1 x2 x3 x4 h) ((gX1_move_at52 (f + 1)).2.2 x1 x2 x3 x4 h)) := by
  intro f
  induction f with
  | zero => exact ⟨fun _ _ _ _ _ => fle_none _, fun _ _ _ _ _ => fle_none _, fun _ _ _ _ _ => fle_none _⟩
  | succ f ih => exact ⟨fun _ _ _ _ _ => lBX1_move_at52_0 ih.2.1, fun _ _ _ _ _ => lBX1_move_at52_72 ih.2.2, fun _ _ _ _ _ => lBX1_move_at52_126⟩
noncomputable def qX1_move_at52_0 (x1 : Int32) (x2 : Int32) (x3 : Int32) (x4 : Int32) (h : ea_H) : Option (Unit × ea_H) := flim fun f => (gX1_move_at52 f).1 x1 x2 x3 x4 h
noncomputable def qX1_move_at52_72 (x1 : Int32) (x2 : Int32) (x3 : Int32) (x4 : Int32) (h : ea_H) : Option (Unit × ea_H) := flim fun f => (gX1_move_at52 f).2.1 x1 x2 x3 x4 h
noncomputable def qX1_move_at52_126 (x1 : Int32) (x2 : Int32) (x3 : Int32) (x4 : Int32) (h : ea_H) : Option (Unit × ea_H) := flim fun f => (gX1_move_at52 f).2.2 x1 x2 x3 x4 h
theorem fqX1_move_at52_0 (x1 : Int32) (x2 : Int32) (x3 : Int32) (x4 : Int32) (h : ea_H) : fct (qX1_move_at52_0 x1 x2 x3 x4 h) fun f => (gX1_move_at52 f).1 x1 x2 x3 x4 h := flim_ct fun f => (mgX1_move_at52 f).1 x1 x2 x3 x4 h
theorem fqX1_move_at52_72 (x1 : Int32) (x2 : Int32) (x3 : Int32) (x4 : Int32) (h : ea_H) : fct (qX1_move_at52_72 x1 x2 x3 x4 h) fun f => (gX1_move_at52 f).2.1 x1 x2 x3 x4 h := flim_ct fun f => (mgX1_move_at52 f).2.1 x1 x2 x3 x4 h
theorem fqX1_move_at52_126 (x1 : Int32) (x2 : Int32) (x3 : Int32) (x4 : Int32) (h : ea_H) : fct (qX1_move_at52_126 x1 x2 x3 x4 h) fun f => (gX1_move_at52 f).2.2 x1 x2 x3 x4 h := flim_ct fun f => (mgX1_move_at52 f).2.2 x1 x2 x3 x4 h
/-- how a block opens -/
theorem uqX1_move_at52_0 {x1 : Int32} {x2 : Int32} {x3 : Int32} {x4 : Int32} {h : ea_H} {P : Unit × ea_H → Prop} (H : sat (BX1_move_at52_0 qX1_move_at52_72 x1 x2 x3 x4 h) P) : sat (qX1_move_at52_0 x1 x2 x3 x4 h) P := by
  obtain ⟨x, e, hp⟩ := H
  obtain ⟨n, hn⟩ := nBX1_move_at52_0 fqX1_move_at52_72 x e
  exact ⟨x, flim_at (fun f => (mgX1_move_at52 f).1 x1 x2 x3 x4 h) (f := n + 1) (hn n (Nat.le_refl _)), hp⟩
/-- how a block opens -/
theorem uqX1_move_at52_72 {x1 : Int32} {x2 : Int32} {x3 : Int32} {x4 : Int32} {h : ea_H} {P : Unit × ea_H → Prop} (H : sat (BX1_move_at52_72 qX1_move_at52_126 x1 x2 x3 x4 h) P) : sat (qX1_move_at52_72 x1 x2 x3 x4 h) P := by
  obtain ⟨x, e, hp⟩ := H
  obtain ⟨n, hn⟩ := nBX1_move_at52_72 fqX1_move_at52_126 x e
  exact ⟨x, flim_at (fun f => (mgX1_move_at52 f).2.1 x1 x2 x3 x4 h) (f := n + 1) (hn n (Nat.le_refl _)), hp⟩
/-- how a block opens -/
theorem uqX1_move_at52_126 {x1 : Int32} {x2 : Int32} {x3 : Int32} {x4 : Int32} {h : ea_H} {P : Unit × ea_H → Prop} (H : sat (BX1_move_at52_126 x1 x2 x3 x4 h) P) : sat (qX1_move_at52_126 x1 x2 x3 x4 h) P := by
  obtain ⟨x, e, hp⟩ := H
  obtain ⟨n, hn⟩ := nBX1_move_at52_126 x e
  exact ⟨x, flim_at (fun f => (mgX1_move_at52 f).2.2 x1 x2 x3 x4 h) (f := n + 1) (hn n (Nat.le_refl _)), hp⟩
theorem kgX1_move_at52 : ∀ f : Nat, (∀ (x1 : Int32) (x2 : Int32) (x3 : Int32) (x4 : Int32) (h : ea_H), kp (ea_core h) ((gX1_move_at52 f).1 x1 x2 x3 x4 h)) ∧ (∀ (x1 : Int32) (x2 : Int32) (x3 : Int32) (x4 : Int32) (h : ea_H), kp (ea_core h) ((gX1_move_at52 f).2.1 x1 x2 x3 x4 h)) ∧ (∀ (x1 : Int32) (x2 : Int32) (x3 : Int32) (x4 : Int32) (h : ea_H), kp (ea_core h) ((gX1_move_at52 f).2.2 x1 x2 x3 x4 h)) := by
  intro f
  induction f with
  | zero => exact ⟨fun _ _ _ _ _ => kp_none _, fun _ _ _ _ _ => kp_none _, fun _ _ _ _ _ => kp_none _⟩
  | succ f ih => exact ⟨fun _ _ _ _ _ => kBX1_move_at52_0 ih.2.1, fun _ _ _ _ _ => kBX1_move_at52_72 ih.2.2, fun _ _ _ _ _ => kBX1_move_at52_126⟩
theorem tgX1_move_at52 {d : Nat} {h0 : ea_H} (hd : 3 ≤ d) : ∀ f : Nat, (∀ (x1 : Int32) (x2 : Int32) (x3 : Int32) (x4 : Int32) (h : ea_H) (r : Unit) (h' : ea_H), (gX1_move_at52 f).1 x1 x2 x3 x4 h = some (r, h') → ShC h → ea_W mX1_move d h0 none h' 0 [(0, vR (some 52)), (1, vI x1), (2, vI x2), (3, vI x3), (4, vI x4)] [] h) ∧ (∀ (x1 : Int32) (x2 : Int32) (x3 : Int32) (x4 : Int32) (h : ea_H) (r : Unit) (h' : ea_H), (gX1_move_at52 f).2.1 x1 x2 x3 x4 h = some (r, h') → ShC h → ea_W mX1_move d h0 none h' 72 [(0, vR (some 52)), (1, vI x1), (2, vI x2), (3, vI x3), (4, vI x4)] [] h) ∧ (∀ (x1 : Int32) (x2 : Int32) (x3 : Int32) (x4 : Int32) (h : ea_H) (r : Unit) (h' : ea_H), (gX1_move_at52 f).2.2 x1 x2 x3 x4 h = some (r, h') → ShC h → ea_W mX1_move d h0 none h' 126 [(0, vR (some 52)), (1, vI x1), (2, vI x2), (3, vI x3), (4, vI x4)] [] h) := by
  intro f
  induction f with
  | zero => exact ⟨fun _ _ _ _ _ _ _ E => no_some E, fun _ _ _ _ _ _ _ E => no_some E, fun _ _ _ _ _ _ _ E => no_some E⟩
  | succ f ih => exact ⟨fun _ _ _ _ _ _ _ E hs => tBX1_move_at52_0 hd ih.2.1 E hs, fun _ _ _ _ _ _ _ E hs => tBX1_move_at52_72 hd ih.2.2 E hs, fun _ _ _ _ _ _ _ E hs => tBX1_move_at52_126 hd E hs⟩
noncomputable def qX1_move_at52 (x1 : Int32) (x2 : Int32) (x3 : Int32) (x4 : Int32) (h : ea_H) : Option (Unit × ea_H) := qX1_move_at52_0 x1 x2 x3 x4 h
theorem sX1_move_at52 {d : Nat} {x1 : Int32} {x2 : Int32} {x3 : Int32} {x4 : Int32} {h : ea_H} {r : Unit} {h' : ea_H} (hd : 3 ≤ d) (hs : ShC h) (K : qX1_move_at52 x1 x2 x3 x4 h = some (r, h')) : ea_Met mX1_move d [vR (some 52), vI x1, vI x2, vI x3, vI x4] h none h' := by
  unfold qX1_move_at52 at K
  obtain ⟨n, hn⟩ := fqX1_move_at52_0 x1 x2 x3 x4 h _ K
  have W := (tgX1_move_at52 (d := d) (h0 := h) hd n).1 x1 x2 x3 x4 h _ _ (hn n (Nat.le_refl _)) hs
  exact ea_enter rfl (Nat.le_of_ble_eq_true rfl) W
theorem kpX1_move_at52 (x1 : Int32) (x2 : Int32) (x3 : Int32) (x4 : Int32) (h : ea_H) : kp (ea_core h) (qX1_move_at52 x1 x2 x3 x4 h) := fun x e => by
  obtain ⟨n, hn⟩ := fqX1_move_at52_0 x1 x2 x3 x4 h x e
  exact (kgX1_move_at52 n).1 x1 x2 x3 x4 h x (hn n (Nat.le_refl _))
noncomputable def BX1_move_at62_0 (J72 : Int32 → Int32 → Int32 → Int32 → ea_H → Option (Unit × ea_H)) (x1 : Int32) (x2 : Int32) (x3 : Int32) (x4 : Int32) (h : ea_H) : Option (Unit × ea_H) :=
  (gd (vp_in x1 120) (if (ea_i h 63 (Int32.toNatClampNeg x1)) = (0 : Int32) then (gd (vp_in x1 120) (gd (vp_in (ea_i h 64 (Int32.toNatClampNeg x1)) 12) (gd (vp_in (ea_i h 64 (Int32.toNatClampNeg x1)) 12) (ea_let (ea_wi h 70 (Int32.toNatClampNeg (ea_i h 64 (Int32.toNatClampNeg x1))) ((ea_i h 70 (Int32.toNatClampNeg (ea_i h 64 (Int32.toNatClampNeg x1)))) - (1 : Int32))) fun H12 => (ea_let (ea_wi H12 62 10 ((ea_i H12 62 10) - (1 : Int32))) fun H13 => (J72 (x1 : Int32) (x2 : Int32) (x3 : Int32) (x4 : Int32) H13)))))) else (gd (vp_in x1 120) (if (ea_i h 63 (Int32.toNatClampNeg x1)) = (1 : Int32) then (gd (vp_in x1 120) (gd (vp_in (ea_i h 64 (Int32.toNatClampNeg x1)) 70) (gd (vp_in (ea_i h 64 (Int32.toNatClampNeg x1)) 70) (ea_let (ea_wi h 71 (Int32.toNatClampNeg (ea_i h 64 (Int32.toNatClampNeg x1))) ((ea_i h 71 (Int32.toNatClampNeg (ea_i h 64 (Int32.toNatClampNeg x1)))) - (1 : Int32))) fun H6 => (ea_let (ea_wi H6 62 10 ((ea_i H6 62 10) - (1 : Int32))) fun H7 => (J72 (x1 : Int32) (x2 : Int32) (x3 : Int32) (x4 : Int32) H7)))))) else (J72 (x1 : Int32) (x2 : Int32) (x3 : Int32) (x4 : Int32) h)))))
theorem tBX1_move_at62_0 {d : Nat} {h0 : ea_H} (hd : 3 ≤ d) {J72 : Int32 → Int32 → Int32 → Int32 → ea_H → Option (Unit × ea_H)}  (kJ72 : ∀ (x1 : Int32) (x2 : Int32) (x3 : Int32) (x4 : Int32) (h : ea_H) (r : Unit) (h' : ea_H), J72 x1 x2 x3 x4 h = some (r, h') → ShC h → ea_W mX1_move d h0 none h' 72 [(0, vR (some 62)), (1, vI x1), (2, vI x2), (3, vI x3), (4, vI x4)] [] h) {x1 : Int32} {x2 : Int32} {x3 : Int32} {x4 : Int32} {h : ea_H} {r : Unit} {h' : ea_H} (E : BX1_move_at62_0 J72 x1 x2 x3 x4 h = some (r, h')) (hs : ShC h) : ea_W mX1_move d h0 none h' 0 [(0, vR (some 62)), (1, vI x1), (2, vI x2), (3, vI x3), (4, vI x4)] [] h := by
  unfold BX1_move_at62_0 at E
  obtain ⟨z1, E⟩ := gd_some E
  refine ea_aload_n (pc := 0) dX1_move_0 rfl 0 rfl ?_
  refine ea_getR (pc := 1) dX1_move_1 ec_1 (k := 1) (Nat.le_of_ble_eq_true rfl) rfl (Or.inl ew_443) (cShC_62 hs).1 (cShC_62 hs).2.1 (rShC_62_1 hs) ?_
  refine ea_iload_n (pc := 4) dX1_move_4 rfl 1 rfl ?_
  refine ea_iald (pc := 5) dX1_move_5 (cShC_63 hs).1 (cShC_63 hs).2.1 (ea_vpl (cShC_63 hs).2.2 z1) ?_
  refine ea_if_ne (pc := 6) (tgt := 37) dX1_move_6 rfl (fun c14 => ?_) (fun c14 => ?_)
  · have E := (if_neg c14).symm.trans E
    obtain ⟨z2, E⟩ := gd_some E
    refine ea_aload_n (pc := 37) dX1_move_37 rfl 0 rfl ?_
    refine ea_getR (pc := 38) dX1_move_38 ec_1 (k := 1) (Nat.le_of_ble_eq_true rfl) rfl (Or.inl ew_443) (cShC_62 hs).1 (cShC_62 hs).2.1 (rShC_62_1 hs) ?_
    refine ea_iload_n (pc := 41) dX1_move_41 rfl 1 rfl ?_
    refine ea_iald (pc := 42) dX1_move_42 (cShC_63 hs).1 (cShC_63 hs).2.1 (ea_vpl (cShC_63 hs).2.2 z2) ?_
    refine ea_iconst (pc := 43) dX1_move_43 (v := 1) rfl ?_
    refine ea_icmp_ne (pc := 44) (tgt := 72) dX1_move_44 rfl (fun c8 => ?_) (fun c8 => ?_)
    · have E := (if_neg c8).symm.trans E
      exact (kJ72 (x1 : Int32) (x2 : Int32) (x3 : Int32) (x4 : Int32) h _ _ E hs)
    · have E := (if_pos c8).symm.trans E
      obtain ⟨z3, E⟩ := gd_some E
      refine ea_aload_n (pc := 47) dX1_move_47 rfl 0 rfl ?_
      refine ea_getR (pc := 48) dX1_move_48 ec_1 (k := 9) (Nat.le_of_ble_eq_true rfl) rfl (Or.inl ew_457) (cShC_62 hs).1 (cShC_62 hs).2.1 (rShC_62_9 hs) ?_
      refine ea_aload_n (pc := 51) dX1_move_51 rfl 0 rfl ?_
      refine ea_getR (pc := 52) dX1_move_52 ec_1 (k := 2) (Nat.le_of_ble_eq_true rfl) rfl (Or.inl ew_445) (cShC_62 hs).1 (cShC_62 hs).2.1 (rShC_62_2 hs) ?_
      refine ea_iload_n (pc := 55) dX1_move_55 rfl 1 rfl ?_
      obtain ⟨z4, E⟩ := gd_some E
      refine ea_iald (pc := 56) dX1_move_56 (cShC_64 hs).1 (cShC_64 hs).2.1 (ea_vpl (cShC_64 hs).2.2 z3) ?_
      refine ea_dup2 (pc := 57) dX1_move_57 rfl rfl ?_
      obtain ⟨z5, E⟩ := gd_some E
      refine ea_iald (pc := 58) dX1_move_58 (cShC_71 hs).1 (cShC_71 hs).2.1 (ea_vpl (cShC_71 hs).2.2 z4) ?_
      refine ea_iconst (pc := 59) dX1_move_59 (v := 1) rfl ?_
      refine ea_isub (pc := 60) dX1_move_60 ?_
      obtain ⟨H6, eH6, E⟩ := let_some E
      refine ea_iast (pc := 61) dX1_move_61 (cShC_71 hs).1 (cShC_71 hs).2.1 (ea_vpl (cShC_71 hs).2.2 z5) ?_
      refine ea_nm eH6 ?_
      have hsH6 : ShC H6 := by rw [eH6]; exact hs
      obtain ⟨H7, eH7, E⟩ := let_some E
      refine ea_aload_n (pc := 62) dX1_move_62 rfl 0 rfl ?_
      refine ea_dup (pc := 63) dX1_move_63 rfl ?_
      refine ea_getI (pc := 64) dX1_move_64 ec_1 (k := 10) (Nat.le_of_ble_eq_true rfl) rfl (Or.inl ew_458) (cShC_62 hsH6).1 (cShC_62 hsH6).2.1 ?_
      refine ea_iconst (pc := 67) dX1_move_67 (v := 1) rfl ?_
      refine ea_isub (pc := 68) dX1_move_68 ?_
      refine ea_putI (pc := 69) dX1_move_69 ec_1 (k := 10) (Nat.le_of_ble_eq_true rfl) rfl (Or.inl ⟨rfl, Or.inl ew_458⟩) rfl rfl (cShC_62 hsH6).1 (cShC_62 hsH6).2.1 ?_
      refine ea_nm eH7 ?_
      have hsH7 : ShC H7 := by rw [eH7]; exact hsH6
      exact (kJ72 (x1 : Int32) (x2 : Int32) (x3 : Int32) (x4 : Int32) H7 _ _ E hsH7)
  · have E := (if_pos c14).symm.trans E
    obtain ⟨z9, E⟩ := gd_some E
    refine ea_aload_n (pc := 9) dX1_move_9 rfl 0 rfl ?_
    refine ea_getR (pc := 10) dX1_move_10 ec_1 (k := 8) (Nat.le_of_ble_eq_true rfl) rfl (Or.inl ew_456) (cShC_62 hs).1 (cShC_62 hs).2.1 (rShC_62_8 hs) ?_
    refine ea_aload_n (pc := 13) dX1_move_13 rfl 0 rfl ?_
    refine ea_getR (pc := 14) dX1_move_14 ec_1 (k := 2) (Nat.le_of_ble_eq_true rfl) rfl (Or.inl ew_445) (cShC_62 hs).1 (cShC_62 hs).2.1 (rShC_62_2 hs) ?_
    refine ea_iload_n (pc := 17) dX1_move_17 rfl 1 rfl ?_
    obtain ⟨z10, E⟩ := gd_some E
    refine ea_iald (pc := 18) dX1_move_18 (cShC_64 hs).1 (cShC_64 hs).2.1 (ea_vpl (cShC_64 hs).2.2 z9) ?_
    refine ea_dup2 (pc := 19) dX1_move_19 rfl rfl ?_
    obtain ⟨z11, E⟩ := gd_some E
    refine ea_iald (pc := 20) dX1_move_20 (cShC_70 hs).1 (cShC_70 hs).2.1 (ea_vpl (cShC_70 hs).2.2 z10) ?_
    refine ea_iconst (pc := 21) dX1_move_21 (v := 1) rfl ?_
    refine ea_isub (pc := 22) dX1_move_22 ?_
    obtain ⟨H12, eH12, E⟩ := let_some E
    refine ea_iast (pc := 23) dX1_move_23 (cShC_70 hs).1 (cShC_70 hs).2.1 (ea_vpl (cShC_70 hs).2.2 z11) ?_
    refine ea_nm eH12 ?_
    have hsH12 : ShC H12 := by rw [eH12]; exact hs
    obtain ⟨H13, eH13, E⟩ := let_some E
    refine ea_aload_n (pc := 24) dX1_move_24 rfl 0 rfl ?_
    refine ea_dup (pc := 25) dX1_move_25 rfl ?_
    refine ea_getI (pc := 26) dX1_move_26 ec_1 (k := 10) (Nat.le_of_ble_eq_true rfl) rfl (Or.inl ew_458) (cShC_62 hsH12).1 (cShC_62 hsH12).2.1 ?_
    refine ea_iconst (pc := 29) dX1_move_29 (v := 1) rfl ?_
    refine ea_isub (pc := 30) dX1_move_30 ?_
    refine ea_putI (pc := 31) dX1_move_31 ec_1 (k := 10) (Nat.le_of_ble_eq_true rfl) rfl (Or.inl ⟨rfl, Or.inl ew_458⟩) rfl rfl (cShC_62 hsH12).1 (cShC_62 hsH12).2.1 ?_
    refine ea_nm eH13 ?_
    have hsH13 : ShC H13 := by rw [eH13]; exact hsH12
    refine ea_goto (pc := 34) (tgt := 72) dX1_move_34 rfl ?_
    exact (kJ72 (x1 : Int32) (x2 : Int32) (x3 : Int32) (x4 : Int32) H13 _ _ E hsH13)
theorem kBX1_move_at62_0 {J72 : Int32 → Int32 → Int32 → Int32 → ea_H → Option (Unit × ea_H)}  (cJ72 : ∀ (x1 : Int32) (x2 : Int32) (x3 : Int32) (x4 : Int32) (h : ea_H), kp (ea_core h) (J72 x1 x2 x3 x4 h)) {x1 : Int32} {x2 : Int32} {x3 : Int32} {x4 : Int32} {h : ea_H} : kp (ea_core h) (BX1_move_at62_0 J72 x1 x2 x3 x4 h) :=
  (kp_gd (kp_ite (kp_gd (kp_gd (kp_gd (kp_let (kp_let (kp_tw (cJ72 _ _ _ _ _) rfl)))))) (kp_gd (kp_ite (kp_gd (kp_gd (kp_gd (kp_let (kp_let (kp_tw (cJ72 _ _ _ _ _) rfl)))))) (kp_tw (cJ72 _ _ _ _ _) rfl)))))
theorem lBX1_move_at62_0 {J72 : Int32 → Int32 → Int32 → Int32 → ea_H → Option (Unit × ea_H)} {J72_ : Int32 → Int32 → Int32 → Int32 → ea_H → Option (Unit × ea_H)}  (mJ72 : ∀ (x1 : Int32) (x2 : Int32) (x3 : Int32) (x4 : Int32) (h : ea_H), fle (J72 x1 x2 x3 x4 h) (J72_ x1 x2 x3 x4 h)) {x1 : Int32} {x2 : Int32} {x3 : Int32} {x4 : Int32} {h : ea_H} : fle (BX1_move_at62_0 J72 x1 x2 x3 x4 h) (BX1_move_at62_0 J72_ x1 x2 x3 x4 h) :=
  (fle_gd (fle_ite (fle_gd (fle_gd (fle_gd (fle_let fun _ => (fle_let fun _ => (mJ72 _ _ _ _ _)))))) (fle_gd (fle_ite (fle_gd (fle_gd (fle_gd (fle_let fun _ => (fle_let fun _ => (mJ72 _ _ _ _ _)))))) (mJ72 _ _ _ _ _)))))
theorem nBX1_move_at62_0 {J72 : Int32 → Int32 → Int32 → Int32 → ea_H → Option (Unit × ea_H)} {J72_ : Nat → (Int32 → Int32 → Int32 → Int32 → ea_H → Option (Unit × ea_H))}  (mJ72 : ∀ (x1 : Int32) (x2 : Int32) (x3 : Int32) (x4 : Int32) (h : ea_H), fct (J72 x1 x2 x3 x4 h) (fun f => J72_ f x1 x2 x3 x4 h)) {x1 : Int32} {x2 : Int32} {x3 : Int32} {x4 : Int32} {h : ea_H} : fct (BX1_move_at62_0 J72 x1 x2 x3 x4 h) (fun f => BX1_move_at62_0 (J72_ f) x1 x2 x3 x4 h) :=
  (fct_gd (fct_ite (fct_gd (fct_gd (fct_gd (fct_let fun _ => (fct_let fun _ => (mJ72 _ _ _ _ _)))))) (fct_gd (fct_ite (fct_gd (fct_gd (fct_gd (fct_let fun _ => (fct_let fun _ => (mJ72 _ _ _ _ _)))))) (mJ72 _ _ _ _ _)))))
noncomputable def BX1_move_at62_72 (J126 : Int32 → Int32 → Int32 → Int32 → ea_H → Option (Unit × ea_H)) (x1 : Int32) (x2 : Int32) (x3 : Int32) (x4 : Int32) (h : ea_H) : Option (Unit × ea_H) :=
  (if x3 = (0 : Int32) then (gd (vp_in x4 12) (gd (vp_in x4 12) (ea_let (ea_wi h 70 (Int32.toNatClampNeg x4) ((ea_i h 70 (Int32.toNatClampNeg x4)) + (1 : Int32))) fun H22 => (ea_let (ea_wi H22 62 10 ((ea_i H22 62 10) + (1 : Int32))) fun H23 => (J126 (x1 : Int32) (x2 : Int32) (x3 : Int32) (x4 : Int32) H23))))) else (if x3 = (1 : Int32) then (gd (vp_in x4 70) (gd (vp_in x4 70) (ea_let (ea_wi h 71 (Int32.toNatClampNeg x4) ((ea_i h 71 (Int32.toNatClampNeg x4)) + (1 : Int32))) fun H17 => (ea_let (ea_wi H17 62 10 ((ea_i H17 62 10) + (1 : Int32))) fun H18 => (J126 (x1 : Int32) (x2 : Int32) (x3 : Int32) (x4 : Int32) H18))))) else (J126 (x1 : Int32) (x2 : Int32) (x3 : Int32) (x4 : Int32) h)))
theorem tBX1_move_at62_72 {d : Nat} {h0 : ea_H} (hd : 3 ≤ d) {J126 : Int32 → Int32 → Int32 → Int32 → ea_H → Option (Unit × ea_H)}  (kJ126 : ∀ (x1 : Int32) (x2 : Int32) (x3 : Int32) (x4 : Int32) (h : ea_H) (r : Unit) (h' : ea_H), J126 x1 x2 x3 x4 h = some (r, h') → ShC h → ea_W mX1_move d h0 none h' 126 [(0, vR (some 62)), (1, vI x1), (2, vI x2), (3, vI x3), (4, vI x4)] [] h) {x1 : Int32} {x2 : Int32} {x3 : Int32} {x4 : Int32} {h : ea_H} {r : Unit} {h' : ea_H} (E : BX1_move_at62_72 J126 x1 x2 x3 x4 h = some (r, h')) (hs : ShC h) : ea_W mX1_move d h0 none h' 72 [(0, vR (some 62)), (1, vI x1), (2, vI x2), (3, vI x3), (4, vI x4)] [] h := by
  unfold BX1_move_at62_72 at E
  refine ea_iload_n (pc := 72) dX1_move_72 rfl 3 rfl ?_
  refine ea_if_ne (pc := 73) (tgt := 100) dX1_move_73 rfl (fun c24 => ?_) (fun c24 => ?_)
  · have E := (if_neg c24).symm.trans E
    refine ea_iload_n (pc := 100) dX1_move_100 rfl 3 rfl ?_
    refine ea_iconst (pc := 101) dX1_move_101 (v := 1) rfl ?_
    refine ea_icmp_ne (pc := 102) (tgt := 126) dX1_move_102 rfl (fun c19 => ?_) (fun c19 => ?_)
    · have E := (if_neg c19).symm.trans E
      exact (kJ126 (x1 : Int32) (x2 : Int32) (x3 : Int32) (x4 : Int32) h _ _ E hs)
    · have E := (if_pos c19).symm.trans E
      obtain ⟨z15, E⟩ := gd_some E
      refine ea_aload_n (pc := 105) dX1_move_105 rfl 0 rfl ?_
      refine ea_getR (pc := 106) dX1_move_106 ec_1 (k := 9) (Nat.le_of_ble_eq_true rfl) rfl (Or.inl ew_457) (cShC_62 hs).1 (cShC_62 hs).2.1 (rShC_62_9 hs) ?_
      refine ea_iload (pc := 109) dX1_move_109 4 rfl ?_
      refine ea_dup2 (pc := 111) dX1_move_111 rfl rfl ?_
      obtain ⟨z16, E⟩ := gd_some E
      refine ea_iald (pc := 112) dX1_move_112 (cShC_71 hs).1 (cShC_71 hs).2.1 (ea_vpl (cShC_71 hs).2.2 z15) ?_
      refine ea_iconst (pc := 113) dX1_move_113 (v := 1) rfl ?_
      refine ea_iadd (pc := 114) dX1_move_114 ?_
      obtain ⟨H17, eH17, E⟩ := let_some E
      refine ea_iast (pc := 115) dX1_move_115 (cShC_71 hs).1 (cShC_71 hs).2.1 (ea_vpl (cShC_71 hs).2.2 z16) ?_
      refine ea_nm eH17 ?_
      have hsH17 : ShC H17 := by rw [eH17]; exact hs
      obtain ⟨H18, eH18, E⟩ := let_some E
      refine ea_aload_n (pc := 116) dX1_move_116 rfl 0 rfl ?_
      refine ea_dup (pc := 117) dX1_move_117 rfl ?_
      refine ea_getI (pc := 118) dX1_move_118 ec_1 (k := 10) (Nat.le_of_ble_eq_true rfl) rfl (Or.inl ew_458) (cShC_62 hsH17).1 (cShC_62 hsH17).2.1 ?_
      refine ea_iconst (pc := 121) dX1_move_121 (v := 1) rfl ?_
      refine ea_iadd (pc := 122) dX1_move_122 ?_
      refine ea_putI (pc := 123) dX1_move_123 ec_1 (k := 10) (Nat.le_of_ble_eq_true rfl) rfl (Or.inl ⟨rfl, Or.inl ew_458⟩) rfl rfl (cShC_62 hsH17).1 (cShC_62 hsH17).2.1 ?_
      refine ea_nm eH18 ?_
      have hsH18 : ShC H18 := by rw [eH18]; exact hsH17
      exact (kJ126 (x1 : Int32) (x2 : Int32) (x3 : Int32) (x4 : Int32) H18 _ _ E hsH18)
  · have E := (if_pos c24).symm.trans E
    obtain ⟨z20, E⟩ := gd_some E
    refine ea_aload_n (pc := 76) dX1_move_76 rfl 0 rfl ?_
    refine ea_getR (pc := 77) dX1_move_77 ec_1 (k := 8) (Nat.le_of_ble_eq_true rfl) rfl (Or.inl ew_456) (cShC_62 hs).1 (cShC_62 hs).2.1 (rShC_62_8 hs) ?_
    refine ea_iload (pc := 80) dX1_move_80 4 rfl ?_
    refine ea_dup2 (pc := 82) dX1_move_82 rfl rfl ?_
    obtain ⟨z21, E⟩ := gd_some E
    refine ea_iald (pc := 83) dX1_move_83 (cShC_70 hs).1 (cShC_70 hs).2.1 (ea_vpl (cShC_70 hs).2.2 z20) ?_
    refine ea_iconst (pc := 84) dX1_move_84 (v := 1) rfl ?_
    refine ea_iadd (pc := 85) dX1_move_85 ?_
    obtain ⟨H22, eH22, E⟩ := let_some E
    refine ea_iast (pc := 86) dX1_move_86 (cShC_70 hs).1 (cShC_70 hs).2.1 (ea_vpl (cShC_70 hs).2.2 z21) ?_
    refine ea_nm eH22 ?_
    have hsH22 : ShC H22 := by rw [eH22]; exact hs
    obtain ⟨H23, eH23, E⟩ := let_some E
    refine ea_aload_n (pc := 87) dX1_move_87 rfl 0 rfl ?_
    refine ea_dup (pc := 88) dX1_move_88 rfl ?_
    refine ea_getI (pc := 89) dX1_move_89 ec_1 (k := 10) (Nat.le_of_ble_eq_true rfl) rfl (Or.inl ew_458) (cShC_62 hsH22).1 (cShC_62 hsH22).2.1 ?_
    refine ea_iconst (pc := 92) dX1_move_92 (v := 1) rfl ?_
    refine ea_iadd (pc := 93) dX1_move_93 ?_
    refine ea_putI (pc := 94) dX1_move_94 ec_1 (k := 10) (Nat.le_of_ble_eq_true rfl) rfl (Or.inl ⟨rfl, Or.inl ew_458⟩) rfl rfl (cShC_62 hsH22).1 (cShC_62 hsH22).2.1 ?_
    refine ea_nm eH23 ?_
    have hsH23 : ShC H23 := by rw [eH23]; exact hsH22
    refine ea_goto (pc := 97) (tgt := 126) dX1_move_97 rfl ?_
    exact (kJ126 (x1 : Int32) (x2 : Int32) (x3 : Int32) (x4 : Int32) H23 _ _ E hsH23)
theorem kBX1_move_at62_72 {J126 : Int32 → Int32 → Int32 → Int32 → ea_H → Option (Unit × ea_H)}  (cJ126 : ∀ (x1 : Int32) (x2 : Int32) (x3 : Int32) (x4 : Int32) (h : ea_H), kp (ea_core h) (J126 x1 x2 x3 x4 h)) {x1 : Int32} {x2 : Int32} {x3 : Int32} {x4 : Int32} {h : ea_H} : kp (ea_core h) (BX1_move_at62_72 J126 x1 x2 x3 x4 h) :=
  (kp_ite (kp_gd (kp_gd (kp_let (kp_let (kp_tw (cJ126 _ _ _ _ _) rfl))))) (kp_ite (kp_gd (kp_gd (kp_let (kp_let (kp_tw (cJ126 _ _ _ _ _) rfl))))) (kp_tw (cJ126 _ _ _ _ _) rfl)))
theorem lBX1_move_at62_72 {J126 : Int32 → Int32 → Int32 → Int32 → ea_H → Option (Unit × ea_H)} {J126_ : Int32 → Int32 → Int32 → Int32 → ea_H → Option (Unit × ea_H)}  (mJ126 : ∀ (x1 : Int32) (x2 : Int32) (x3 : Int32) (x4 : Int32) (h : ea_H), fle (J126 x1 x2 x3 x4 h) (J126_ x1 x2 x3 x4 h)) {x1 : Int32} {x2 : Int32} {x3 : Int32} {x4 : Int32} {h : ea_H} : fle (BX1_move_at62_72 J126 x1 x2 x3 x4 h) (BX1_move_at62_72 J126_ x1 x2 x3 x4 h) :=
  (fle_ite (fle_gd (fle_gd (fle_let fun _ => (fle_let fun _ => (mJ126 _ _ _ _ _))))) (fle_ite (fle_gd (fle_gd (fle_let fun _ => (fle_let fun _ => (mJ126 _ _ _ _ _))))) (mJ126 _ _ _ _ _)))
theorem nBX1_move_at62_72 {J126 : Int32 → Int32 → Int32 → Int32 → ea_H → Option (Unit × ea_H)} {J126_ : Nat → (Int32 → Int32 → Int32 → Int32 → ea_H → Option (Unit × ea_H))}  (mJ126 : ∀ (x1 : Int32) (x2 : Int32) (x3 : Int32) (x4 : Int32) (h : ea_H), fct (J126 x1 x2 x3 x4 h) (fun f => J126_ f x1 x2 x3 x4 h)) {x1 : Int32} {x2 : Int32} {x3 : Int32} {x4 : Int32} {h : ea_H} : fct (BX1_move_at62_72 J126 x1 x2 x3 x4 h) (fun f => BX1_move_at62_72 (J126_ f) x1 x2 x3 x4 h) :=
  (fct_ite (fct_gd (fct_gd (fct_let fun _ => (fct_let fun _ => (mJ126 _ _ _ _ _))))) (fct_ite (fct_gd (fct_gd (fct_let fun _ => (fct_let fun _ => (mJ126 _ _ _ _ _))))) (mJ126 _ _ _ _ _)))
noncomputable def BX1_move_at62_126 (x1 : Int32) (x2 : Int32) (x3 : Int32) (x4 : Int32) (h : ea_H) : Option (Unit × ea_H) :=
  (gd (vp_in x1 120) (ea_let (ea_wi h 63 (Int32.toNatClampNeg x1) x3) fun H26 => (gd (vp_in x1 120) (ea_let (ea_wi H26 64 (Int32.toNatClampNeg x1) x4) fun H28 => (gd (vp_in x1 120) (ea_let (ea_wi H28 69 (Int32.toNatClampNeg x1) x2) fun H30 => (gd (vp_in x1 120) (ea_let (ea_wi H30 67 (Int32.toNatClampNeg x1) 0) fun H32 => (some ((), H32))))))))))
theorem tBX1_move_at62_126 {d : Nat} {h0 : ea_H} (hd : 3 ≤ d)  {x1 : Int32} {x2 : Int32} {x3 : Int32} {x4 : Int32} {h : ea_H} {r : Unit} {h' : ea_H} (E : BX1_move_at62_126 x1 x2 x3 x4 h = some (r, h')) (hs : ShC h) : ea_W mX1_move d h0 none h' 126 [(0, vR (some 62)), (1, vI x1), (2, vI x2), (3, vI x3), (4, vI x4)] [] h := by
  unfold BX1_move_at62_126 at E
  obtain ⟨z25, E⟩ := gd_some E
  refine ea_aload_n (pc := 126) dX1_move_126 rfl 0 rfl ?_
  refine ea_getR (pc := 127) dX1_move_127 ec_1 (k := 1) (Nat.le_of_ble_eq_true rfl) rfl (Or.inl ew_443) (cShC_62 hs).1 (cShC_62 hs).2.1 (rShC_62_1 hs) ?_
  refine ea_iload_n (pc := 130) dX1_move_130 rfl 1 rfl ?_
  refine ea_iload_n (pc := 131) dX1_move_131 rfl 3 rfl ?_
  obtain ⟨H26, eH26, E⟩ := let_some E
  refine ea_iast (pc := 132) dX1_move_132 (cShC_63 hs).1 (cShC_63 hs).2.1 (ea_vpl (cShC_63 hs).2.2 z25) ?_
  refine ea_nm eH26 ?_
  have hsH26 : ShC H26 := by rw [eH26]; exact hs
  obtain ⟨z27, E⟩ := gd_some E
  refine ea_aload_n (pc := 133) dX1_move_133 rfl 0 rfl ?_
  refine ea_getR (pc := 134) dX1_move_134 ec_1 (k := 2) (Nat.le_of_ble_eq_true rfl) rfl (Or.inl ew_445) (cShC_62 hsH26).1 (cShC_62 hsH26).2.1 (rShC_62_2 hsH26) ?_
  refine ea_iload_n (pc := 137) dX1_move_137 rfl 1 rfl ?_
  refine ea_iload (pc := 138) dX1_move_138 4 rfl ?_
  obtain ⟨H28, eH28, E⟩ := let_some E
  refine ea_iast (pc := 140) dX1_move_140 (cShC_64 hsH26).1 (cShC_64 hsH26).2.1 (ea_vpl (cShC_64 hsH26).2.2 z27) ?_
  refine ea_nm eH28 ?_
  have hsH28 : ShC H28 := by rw [eH28]; exact hsH26
  obtain ⟨z29, E⟩ := gd_some E
  refine ea_aload_n (pc := 141) dX1_move_141 rfl 0 rfl ?_
  refine ea_getR (pc := 142) dX1_move_142 ec_1 (k := 7) (Nat.le_of_ble_eq_true rfl) rfl (Or.inl ew_455) (cShC_62 hsH28).1 (cShC_62 hsH28).2.1 (rShC_62_7 hsH28) ?_
  refine ea_iload_n (pc := 145) dX1_move_145 rfl 1 rfl ?_
  refine ea_iload_n (pc := 146) dX1_move_146 rfl 2 rfl ?_
  obtain ⟨H30, eH30, E⟩ := let_some E
  refine ea_iast (pc := 147) dX1_move_147 (cShC_69 hsH28).1 (cShC_69 hsH28).2.1 (ea_vpl (cShC_69 hsH28).2.2 z29) ?_
  refine ea_nm eH30 ?_
  have hsH30 : ShC H30 := by rw [eH30]; exact hsH28
  obtain ⟨z31, E⟩ := gd_some E
  refine ea_aload_n (pc := 148) dX1_move_148 rfl 0 rfl ?_
  refine ea_getR (pc := 149) dX1_move_149 ec_1 (k := 5) (Nat.le_of_ble_eq_true rfl) rfl (Or.inl ew_451) (cShC_62 hsH30).1 (cShC_62 hsH30).2.1 (rShC_62_5 hsH30) ?_
  refine ea_iload_n (pc := 152) dX1_move_152 rfl 1 rfl ?_
  refine ea_iconst (pc := 153) dX1_move_153 (v := 0) rfl ?_
  obtain ⟨H32, eH32, E⟩ := let_some E
  refine ea_zast (pc := 154) dX1_move_154 (y := 0) (ea_bn (Or.inl rfl)) (cShC_67 hsH30).1 (cShC_67 hsH30).2.1 (ea_vpl (cShC_67 hsH30).2.2 z31) ?_
  refine ea_nm eH32 ?_
  have hsH32 : ShC H32 := by rw [eH32]; exact hsH30
  refine ea_aload_n (pc := 155) dX1_move_155 rfl 0 rfl ?_
  refine ea_getR (pc := 156) dX1_move_156 ec_1 (k := 15) (Nat.le_of_ble_eq_true rfl) rfl (Or.inl ew_463) (cShC_62 hsH32).1 (cShC_62 hsH32).2.1 (rShC_62_15 hsH32) ?_
  refine ea_ifnull (pc := 159) (tgt := 175) dX1_move_159 rfl (fun _ => ?_) (fun _ q => nomatch q)
  exact ea_vretO (pc := 175) dX1_move_175 rfl E
theorem kBX1_move_at62_126  {x1 : Int32} {x2 : Int32} {x3 : Int32} {x4 : Int32} {h : ea_H} : kp (ea_core h) (BX1_move_at62_126 x1 x2 x3 x4 h) :=
  (kp_gd (kp_let (kp_gd (kp_let (kp_gd (kp_let (kp_gd (kp_let (kp_ret rfl)))))))))
theorem lBX1_move_at62_126  {x1 : Int32} {x2 : Int32} {x3 : Int32} {x4 : Int32} {h : ea_H} : fle (BX1_move_at62_126 x1 x2 x3 x4 h) (BX1_move_at62_126 x1 x2 x3 x4 h) :=
  (fle_rfl _)
theorem nBX1_move_at62_126  {x1 : Int32} {x2 : Int32} {x3 : Int32} {x4 : Int32} {h : ea_H} : fct (BX1_move_at62_126 x1 x2 x3 x4 h) (fun f => BX1_move_at62_126 x1 x2 x3 x4 h) :=
  (fct_rfl _)
noncomputable def gX1_move_at62 : Nat → (Int32 → Int32 → Int32 → Int32 → ea_H → Option (Unit × ea_H)) × (Int32 → Int32 → Int32 → Int32 → ea_H → Option (Unit × ea_H)) × (Int32 → Int32 → Int32 → Int32 → ea_H → Option (Unit × ea_H))
  | 0 => (fun _ _ _ _ _ => none, fun _ _ _ _ _ => none, fun _ _ _ _ _ => none)
  | f + 1 => (BX1_move_at62_0 (gX1_move_at62 f).2.1, BX1_move_at62_72 (gX1_move_at62 f).2.2, BX1_move_at62_126)
theorem mgX1_move_at62 : ∀ f : Nat, (∀ (x1 : Int32) (x2 : Int32) (x3 : Int32) (x4 : Int32) (h : ea_H), fle ((gX1_move_at62 f).1 x1 x2 x3 x4 h) ((gX1_move_at62 (f + 1)).1 x1 x2 x3 x4 h)) ∧ (∀ (x1 : Int32) (x2 : Int32) (x3 : Int32) (x4 : Int32) (h : ea_H), fle ((gX1_move_at62 f).2.1 x1 x2 x3 x4 h) ((gX1_move_at62 (f + 1)).2.1 x1 x2 x3 x4 h)) ∧ (∀ (x1 : Int32) (x2 : Int32) (x3 : Int32) (x4 : Int32) (h : ea_H), fle ((gX1_move_at62 f).2.2 x1 x2 x3 x4 h) ((gX1_move_at62 (f + 1)).2.2 x1 x2 x3 x4 h)) := by
  intro f
  induction f with
  | zero => exact ⟨fun _ _ _ _ _ => fle_none _, fun _ _ _ _ _ => fle_none _, fun _ _ _ _ _ => fle_none _⟩
  | succ f ih => exact ⟨fun _ _ _ _ _ => lBX1_move_at62_0 ih.2.1, fun _ _ _ _ _ => lBX1_move_at62_72 ih.2.2, fun _ _ _ _ _ => lBX1_move_at62_126⟩
noncomputable def qX1_move_at62_0 (x1 : Int32) (x2 : Int32) (x3 : Int32) (x4 : Int32) (h : ea_H) : Option (Unit × ea_H) := flim fun f => (gX1_move_at62 f).1 x1 x2 x3 x4 h
noncomputable def qX1_move_at62_72 (x1 : Int32) (x2 : Int32) (x3 : Int32) (x4 : Int32) (h : ea_H) : Option (Unit × ea_H) := flim fun f => (gX1_move_at62 f).2.1 x1 x2 x3 x4 h
noncomputable def qX1_move_at62_126 (x1 : Int32) (x2 : Int32) (x3 : Int32) (x4 : Int32) (h : ea_H) : Option (Unit × ea_H) := flim fun f => (gX1_move_at62 f).2.2 x1 x2 x3 x4 h
theorem fqX1_move_at62_0 (x1 : Int32) (x2 : Int32) (x3 : Int32) (x4 : Int32) (h : ea_H) : fct (qX1_move_at62_0 x1 x2 x3 x4 h) fun f => (gX1_move_at62 f).1 x1 x2 x3 x4 h := flim_ct fun f => (mgX1_move_at62 f).1 x1 x2 x3 x4 h
theorem fqX1_move_at62_72 (x1 : Int32) (x2 : Int32) (x3 : Int32) (x4 : Int32) (h : ea_H) : fct (qX1_move_at62_72 x1 x2 x3 x4 h) fun f => (gX1_move_at62 f).2.1 x1 x2 x3 x4 h := flim_ct fun f => (mgX1_move_at62 f).2.1 x1 x2 x3 x4 h
theorem fqX1_move_at62_126 (x1 : Int32) (x2 : Int32) (x3 : Int32) (x4 : Int32) (h : ea_H) : fct (qX1_move_at62_126 x1 x2 x3 x4 h) fun f => (gX1_move_at62 f).2.2 x1 x2 x3 x4 h := flim_ct fun f => (mgX1_move_at62 f).2.2 x1 x2 x3 x4 h
/-- how a block opens -/
theorem uqX1_move_at62_0 {x1 : Int32} {x2 : Int32} {x3 : Int32} {x4 : Int32} {h : ea_H} {P : Unit × ea_H → Prop} (H : sat (BX1_move_at62_0 qX1_move_at62_72 x1 x2 x3 x4 h) P) : sat (qX1_move_at62_0 x1 x2 x3 x4 h) P := by
  obtain ⟨x, e, hp⟩ := H
  obtain ⟨n, hn⟩ := nBX1_move_at62_0 fqX1_move_at62_72 x e
  exact ⟨x, flim_at (fun f => (mgX1_move_at62 f).1 x1 x2 x3 x4 h) (f := n + 1) (hn n (Nat.le_refl _)), hp⟩
/-- how a block opens -/
theorem uqX1_move_at62_72 {x1 : Int32} {x2 : Int32} {x3 : Int32} {x4 : Int32} {h : ea_H} {P : Unit × ea_H → Prop} (H : sat (BX1_move_at62_72 qX1_move_at62_126 x1 x2 x3 x4 h) P) : sat (qX1_move_at62_72 x1 x2 x3 x4 h) P := by
  obtain ⟨x, e, hp⟩ := H
  obtain ⟨n, hn⟩ := nBX1_move_at62_72 fqX1_move_at62_126 x e
  exact ⟨x, flim_at (fun f => (mgX1_move_at62 f).2.1 x1 x2 x3 x4 h) (f := n + 1) (hn n (Nat.le_refl _)), hp⟩
/-- how a block opens -/
theorem uqX1_move_at62_126 {x1 : Int32} {x2 : Int32} {x3 : Int32} {x4 : Int32} {h : ea_H} {P : Unit × ea_H → Prop} (H : sat (BX1_move_at62_126 x1 x2 x3 x4 h) P) : sat (qX1_move_at62_126 x1 x2 x3 x4 h) P := by
  obtain ⟨x, e, hp⟩ := H
  obtain ⟨n, hn⟩ := nBX1_move_at62_126 x e
  exact ⟨x, flim_at (fun f => (mgX1_move_at62 f).2.2 x1 x2 x3 x4 h) (f := n + 1) (hn n (Nat.le_refl _)), hp⟩
theorem kgX1_move_at62 : ∀ f : Nat, (∀ (x1 : Int32) (x2 : Int32) (x3 : Int32) (x4 : Int32) (h : ea_H), kp (ea_core h) ((gX1_move_at62 f).1 x1 x2 x3 x4 h)) ∧ (∀ (x1 : Int32) (x2 : Int32) (x3 : Int32) (x4 : Int32) (h : ea_H), kp (ea_core h) ((gX1_move_at62 f).2.1 x1 x2 x3 x4 h)) ∧ (∀ (x1 : Int32) (x2 : Int32) (x3 : Int32) (x4 : Int32) (h : ea_H), kp (ea_core h) ((gX1_move_at62 f).2.2 x1 x2 x3 x4 h)) := by
  intro f
  induction f with
  | zero => exact ⟨fun _ _ _ _ _ => kp_none _, fun _ _ _ _ _ => kp_none _, fun _ _ _ _ _ => kp_none _⟩
  | succ f ih => exact ⟨fun _ _ _ _ _ => kBX1_move_at62_0 ih.2.1, fun _ _ _ _ _ => kBX1_move_at62_72 ih.2.2, fun _ _ _ _ _ => kBX1_move_at62_126⟩
theorem tgX1_move_at62 {d : Nat} {h0 : ea_H} (hd : 3 ≤ d) : ∀ f : Nat, (∀ (x1 : Int32) (x2 : Int32) (x3 : Int32) (x4 : Int32) (h : ea_H) (r : Unit) (h' : ea_H), (gX1_move_at62 f).1 x1 x2 x3 x4 h = some (r, h') → ShC h → ea_W mX1_move d h0 none h' 0 [(0, vR (some 62)), (1, vI x1), (2, vI x2), (3, vI x3), (4, vI x4)] [] h) ∧ (∀ (x1 : Int32) (x2 : Int32) (x3 : Int32) (x4 : Int32) (h : ea_H) (r : Unit) (h' : ea_H), (gX1_move_at62 f).2.1 x1 x2 x3 x4 h = some (r, h') → ShC h → ea_W mX1_move d h0 none h' 72 [(0, vR (some 62)), (1, vI x1), (2, vI x2), (3, vI x3), (4, vI x4)] [] h) ∧ (∀ (x1 : Int32) (x2 : Int32) (x3 : Int32) (x4 : Int32) (h : ea_H) (r : Unit) (h' : ea_H), (gX1_move_at62 f).2.2 x1 x2 x3 x4 h = some (r, h') → ShC h → ea_W mX1_move d h0 none h' 126 [(0, vR (some 62)), (1, vI x1), (2, vI x2), (3, vI x3), (4, vI x4)] [] h) := by
  intro f
  induction f with
  | zero => exact ⟨fun _ _ _ _ _ _ _ E => no_some E, fun _ _ _ _ _ _ _ E => no_some E, fun _ _ _ _ _ _ _ E => no_some E⟩
  | succ f ih => exact ⟨fun _ _ _ _ _ _ _ E hs => tBX1_move_at62_0 hd ih.2.1 E hs, fun _ _ _ _ _ _ _ E hs => tBX1_move_at62_72 hd ih.2.2 E hs, fun _ _ _ _ _ _ _ E hs => tBX1_move_at62_126 hd E hs⟩
noncomputable def qX1_move_at62 (x1 : Int32) (x2 : Int32) (x3 : Int32) (x4 : Int32) (h : ea_H) : Option (Unit × ea_H) := qX1_move_at62_0 x1 x2 x3 x4 h
theorem sX1_move_at62 {d : Nat} {x1 : Int32} {x2 : Int32} {x3 : Int32} {x4 : Int32} {h : ea_H} {r : Unit} {h' : ea_H} (hd : 3 ≤ d) (hs : ShC h) (K : qX1_move_at62 x1 x2 x3 x4 h = some (r, h')) : ea_Met mX1_move d [vR (some 62), vI x1, vI x2, vI x3, vI x4] h none h' := by
  unfold qX1_move_at62 at K
  obtain ⟨n, hn⟩ := fqX1_move_at62_0 x1 x2 x3 x4 h _ K
  have W := (tgX1_move_at62 (d := d) (h0 := h) hd n).1 x1 x2 x3 x4 h _ _ (hn n (Nat.le_refl _)) hs
  exact ea_enter rfl (Nat.le_of_ble_eq_true rfl) W
theorem kpX1_move_at62 (x1 : Int32) (x2 : Int32) (x3 : Int32) (x4 : Int32) (h : ea_H) : kp (ea_core h) (qX1_move_at62 x1 x2 x3 x4 h) := fun x e => by
  obtain ⟨n, hn⟩ := fqX1_move_at62_0 x1 x2 x3 x4 h x e
  exact (kgX1_move_at62 n).1 x1 x2 x3 x4 h x (hn n (Nat.le_refl _))
noncomputable def BX1_burn_at52_0 (J2 : Int32 → Int32 → ea_H → Option (Unit × ea_H)) (x1 : Int32) (h : ea_H) : Option (Unit × ea_H) :=
  (J2 (x1 : Int32) (0 : Int32) h)
theorem tBX1_burn_at52_0 {d : Nat} {h0 : ea_H} (hd : 4 ≤ d) {J2 : Int32 → Int32 → ea_H → Option (Unit × ea_H)}  (kJ2 : ∀ (x1 : Int32) (x2 : Int32) (h : ea_H) (r : Unit) (h' : ea_H), J2 x1 x2 h = some (r, h') → ShC h → ea_W mX1_burn d h0 none h' 2 [(0, vR (some 52)), (1, vI x1), (2, vI x2)] [] h) {x1 : Int32} {h : ea_H} {r : Unit} {h' : ea_H} (E : BX1_burn_at52_0 J2 x1 h = some (r, h')) (hs : ShC h) : ea_W mX1_burn d h0 none h' 0 [(0, vR (some 52)), (1, vI x1)] [] h := by
  unfold BX1_burn_at52_0 at E
  refine ea_iconst (pc := 0) dX1_burn_0 (v := 0) rfl ?_
  refine ea_istore_n (pc := 1) (lv' := [(0, vR (some 52)), (1, vI x1), (2, vI 0)]) dX1_burn_1 rfl (Nat.le_of_ble_eq_true rfl) [1, 2, 0] rfl ?_
  exact (kJ2 (x1 : Int32) (0 : Int32) h _ _ E hs)
theorem kBX1_burn_at52_0 {J2 : Int32 → Int32 → ea_H → Option (Unit × ea_H)}  (cJ2 : ∀ (x1 : Int32) (x2 : Int32) (h : ea_H), kp (ea_core h) (J2 x1 x2 h)) {x1 : Int32} {h : ea_H} : kp (ea_core h) (BX1_burn_at52_0 J2 x1 h) :=
  (kp_tw (cJ2 _ _ _) rfl)
theorem lBX1_burn_at52_0 {J2 : Int32 → Int32 → ea_H → Option (Unit × ea_H)} {J2_ : Int32 → Int32 → ea_H → Option (Unit × ea_H)}  (mJ2 : ∀ (x1 : Int32) (x2 : Int32) (h : ea_H), fle (J2 x1 x2 h) (J2_ x1 x2 h)) {x1 : Int32} {h : ea_H} : fle (BX1_burn_at52_0 J2 x1 h) (BX1_burn_at52_0 J2_ x1 h) :=
  (mJ2 _ _ _)
theorem nBX1_burn_at52_0 {J2 : Int32 → Int32 → ea_H → Option (Unit × ea_H)} {J2_ : Nat → (Int32 → Int32 → ea_H → Option (Unit × ea_H))}  (mJ2 : ∀ (x1 : Int32) (x2 : Int32) (h : ea_H), fct (J2 x1 x2 h) (fun f => J2_ f x1 x2 h)) {x1 : Int32} {h : ea_H} : fct (BX1_burn_at52_0 J2 x1 h) (fun f => BX1_burn_at52_0 (J2_ f) x1 h) :=
  (mJ2 _ _ _)
noncomputable def BX1_burn_at52_2 (J2 : Int32 → Int32 → ea_H → Option (Unit × ea_H)) (x1 : Int32) (x2 : Int32) (h : ea_H) : Option (Unit × ea_H) :=
  (if (ea_i h 52 0) ≤ x2 then (some ((), h)) else (gd (vp_in x2 120) (if (ea_i h 53 (Int32.toNatClampNeg x2)) = (3 : Int32) then (gd (vp_in x2 120) (gd (vp_in x2 120) (gd ((ea_r h 49 (Int32.toNatClampNeg x2)) = some (Option.getD (ea_r h 49 (Int32.toNatClampNeg x2)) 0)) (gd (((Option.getD (ea_r h 49 (Int32.toNatClampNeg x2)) 0) < ea_n h ∧ ea_c h (Option.getD (ea_r h 49 (Int32.toNatClampNeg x2)) 0) = 5)) (if (x1 - ((ea_i h 59 (Int32.toNatClampNeg x2)) / (1440 : Int32))) < (ea_i h (Option.getD (ea_r h 49 (Int32.toNatClampNeg x2)) 0) 14) then (J2 (x1 : Int32) ((x2 + (1 : Int32)) : Int32) h) else (gd (vp_in x2 120) (Option.bind (qX1_move_at52 (x2 : Int32) ((x1 * (1440 : Int32)) : Int32) (6 : Int32) ((ea_i h 54 (Int32.toNatClampNeg x2)) : Int32) h) fun w7 => (J2 (x1 : Int32) ((x2 + (1 : Int32)) : Int32) w7.2)))))))) else (J2 (x1 : Int32) ((x2 + (1 : Int32)) : Int32) h))))
theorem tBX1_burn_at52_2 {d : Nat} {h0 : ea_H} (hd : 4 ≤ d) {J2 : Int32 → Int32 → ea_H → Option (Unit × ea_H)}  (kJ2 : ∀ (x1 : Int32) (x2 : Int32) (h : ea_H) (r : Unit) (h' : ea_H), J2 x1 x2 h = some (r, h') → ShC h → ea_W mX1_burn d h0 none h' 2 [(0, vR (some 52)), (1, vI x1), (2, vI x2)] [] h) {x1 : Int32} {x2 : Int32} {h : ea_H} {r : Unit} {h' : ea_H} (E : BX1_burn_at52_2 J2 x1 x2 h = some (r, h')) (hs : ShC h) : ea_W mX1_burn d h0 none h' 2 [(0, vR (some 52)), (1, vI x1), (2, vI x2)] [] h := by
  unfold BX1_burn_at52_2 at E
  refine ea_iload_n (pc := 2) dX1_burn_2 rfl 2 rfl ?_
  refine ea_aload_n (pc := 3) dX1_burn_3 rfl 0 rfl ?_
  refine ea_getI (pc := 4) dX1_burn_4 ec_1 (k := 0) (Nat.le_of_ble_eq_true rfl) rfl (Or.inl ew_441) (cShC_52 hs).1 (cShC_52 hs).2.1 ?_
  refine ea_icmp_ge (pc := 7) (tgt := 68) dX1_burn_7 rfl (fun c10 => ?_) (fun c10 => ?_)
  · have E := (if_pos c10).symm.trans E
    exact ea_vretO (pc := 68) dX1_burn_68 rfl E
  · have E := (if_neg c10).symm.trans E
    obtain ⟨z1, E⟩ := gd_some E
    refine ea_aload_n (pc := 10) dX1_burn_10 rfl 0 rfl ?_
    refine ea_getR (pc := 11) dX1_burn_11 ec_1 (k := 1) (Nat.le_of_ble_eq_true rfl) rfl (Or.inl ew_443) (cShC_52 hs).1 (cShC_52 hs).2.1 (rShC_52_1 hs) ?_
    refine ea_iload_n (pc := 14) dX1_burn_14 rfl 2 rfl ?_
    refine ea_iald (pc := 15) dX1_burn_15 (cShC_53 hs).1 (cShC_53 hs).2.1 (ea_vpl (cShC_53 hs).2.2 z1) ?_
    refine ea_iconst (pc := 16) dX1_burn_16 (v := 3) rfl ?_
    refine ea_icmp_ne (pc := 17) (tgt := 62) dX1_burn_17 rfl (fun c9 => ?_) (fun c9 => ?_)
    · have E := (if_neg c9).symm.trans E
      refine ea_iinc (pc := 62) (v := 1) (lv' := [(0, vR (some 52)), (1, vI x1), (2, vI (x2 + (1 : Int32)))]) dX1_burn_62 2 rfl rfl (Nat.le_of_ble_eq_true rfl) [1, 2, 0] rfl ?_
      refine ea_goto (pc := 65) (tgt := 2) dX1_burn_65 rfl ?_
      exact (kJ2 (x1 : Int32) ((x2 + (1 : Int32)) : Int32) h _ _ E hs)
    · have E := (if_pos c9).symm.trans E
      obtain ⟨z2, E⟩ := gd_some E
      refine ea_iload_n (pc := 20) dX1_burn_20 rfl 1 rfl ?_
      refine ea_aload_n (pc := 21) dX1_burn_21 rfl 0 rfl ?_
      refine ea_getR (pc := 22) dX1_burn_22 ec_1 (k := 7) (Nat.le_of_ble_eq_true rfl) rfl (Or.inl ew_455) (cShC_52 hs).1 (cShC_52 hs).2.1 (rShC_52_7 hs) ?_
      refine ea_iload_n (pc := 25) dX1_burn_25 rfl 2 rfl ?_
      obtain ⟨z3, E⟩ := gd_some E
      refine ea_iald (pc := 26) dX1_burn_26 (cShC_59 hs).1 (cShC_59 hs).2.1 (ea_vpl (cShC_59 hs).2.2 z2) ?_
      refine ea_sipush (pc := 27) dX1_burn_27 (v := 1440) rfl ?_
      refine ea_idiv (pc := 30) dX1_burn_30 (by decide) ?_
      refine ea_isub (pc := 31) dX1_burn_31 ?_
      refine ea_aload_n (pc := 32) dX1_burn_32 rfl 0 rfl ?_
      refine ea_getR (pc := 33) dX1_burn_33 ec_1 (k := 14) (Nat.le_of_ble_eq_true rfl) rfl (Or.inl ew_462) (cShC_52 hs).1 (cShC_52 hs).2.1 (rShC_52_14 hs) ?_
      refine ea_iload_n (pc := 36) dX1_burn_36 rfl 2 rfl ?_
      obtain ⟨e4, E⟩ := gd_some E
      refine ea_aald23 (pc := 37) dX1_burn_37 (cShC_49 hs).1 (cShC_49 hs).2.1 (ea_vpl (cShC_49 hs).2.2 z3) rfl ?_
      obtain ⟨f5, E⟩ := gd_some E
      refine ea_deref0 e4 ?_
      refine ea_getI (pc := 38) dX1_burn_38 ec_5 (k := 14) (Nat.le_of_ble_eq_true rfl) rfl (Or.inl ew_544) f5.1 f5.2 ?_
      refine ea_icmp_lt (pc := 41) (tgt := 62) dX1_burn_41 rfl (fun c8 => ?_) (fun c8 => ?_)
      · have E := (if_pos c8).symm.trans E
        refine ea_iinc (pc := 62) (v := 1) (lv' := [(0, vR (some 52)), (1, vI x1), (2, vI (x2 + (1 : Int32)))]) dX1_burn_62 2 rfl rfl (Nat.le_of_ble_eq_true rfl) [1, 2, 0] rfl ?_
        refine ea_goto (pc := 65) (tgt := 2) dX1_burn_65 rfl ?_
        exact (kJ2 (x1 : Int32) ((x2 + (1 : Int32)) : Int32) h _ _ E hs)
      · have E := (if_neg c8).symm.trans E
        obtain ⟨z6, E⟩ := gd_some E
        refine ea_aload_n (pc := 44) dX1_burn_44 rfl 0 rfl ?_
        refine ea_iload_n (pc := 45) dX1_burn_45 rfl 2 rfl ?_
        refine ea_iload_n (pc := 46) dX1_burn_46 rfl 1 rfl ?_
        refine ea_sipush (pc := 47) dX1_burn_47 (v := 1440) rfl ?_
        refine ea_imul (pc := 50) dX1_burn_50 ?_
        refine ea_bipush (pc := 51) dX1_burn_51 (v := 6) rfl ?_
        refine ea_aload_n (pc := 53) dX1_burn_53 rfl 0 rfl ?_
        refine ea_getR (pc := 54) dX1_burn_54 ec_1 (k := 2) (Nat.le_of_ble_eq_true rfl) rfl (Or.inl ew_445) (cShC_52 hs).1 (cShC_52 hs).2.1 (rShC_52_2 hs) ?_
        refine ea_iload_n (pc := 57) dX1_burn_57 rfl 2 rfl ?_
        obtain ⟨w7, Ew7, E⟩ := bd_some E
        have hsw7 : ShC w7.2 := ShC_core ((kpX1_move_at52 _ _ _ _ _) _ Ew7) hs
        refine ea_iald (pc := 58) dX1_burn_58 (cShC_54 hs).1 (cShC_54 hs).2.1 (ea_vpl (cShC_54 hs).2.2 z6) ?_
        refine ea_callV (pc := 59) (d' := d - 1) (As := [vI x2, vI (x1 * (1440 : Int32)), vI 6, vI (ea_i h 54 (Int32.toNatClampNeg x2))]) (st := []) dX1_burn_59 kX1_move (sX1_move_at52 (d := d - 1) (by omega) hs Ew7) (by omega) rfl (Nat.le_of_ble_eq_true rfl) ew_851 ew_852 ew_853 (ci := 1) rfl (by decide) (cShC_52 hs).1 (cShC_52 hs).2.1 ?_
        refine ea_iinc (pc := 62) (v := 1) (lv' := [(0, vR (some 52)), (1, vI x1), (2, vI (x2 + (1 : Int32)))]) dX1_burn_62 2 rfl rfl (Nat.le_of_ble_eq_true rfl) [1, 2, 0] rfl ?_
        refine ea_goto (pc := 65) (tgt := 2) dX1_burn_65 rfl ?_
        exact (kJ2 (x1 : Int32) ((x2 + (1 : Int32)) : Int32) w7.2 _ _ E hsw7)
theorem kBX1_burn_at52_2 {J2 : Int32 → Int32 → ea_H → Option (Unit × ea_H)}  (cJ2 : ∀ (x1 : Int32) (x2 : Int32) (h : ea_H), kp (ea_core h) (J2 x1 x2 h)) {x1 : Int32} {x2 : Int32} {h : ea_H} : kp (ea_core h) (BX1_burn_at52_2 J2 x1 x2 h) :=
  (kp_ite (kp_ret rfl) (kp_gd (kp_ite (kp_gd (kp_gd (kp_gd (kp_gd (kp_ite (kp_tw (cJ2 _ _ _) rfl) (kp_gd (kp_bind (kp_tw (kpX1_move_at52 _ _ _ _ _) rfl) fun w7 hcw7 => (kp_tw (cJ2 _ _ _) hcw7)))))))) (kp_tw (cJ2 _ _ _) rfl))))
theorem lBX1_burn_at52_2 {J2 : Int32 → Int32 → ea_H → Option (Unit × ea_H)} {J2_ : Int32 → Int32 → ea_H → Option (Unit × ea_H)}  (mJ2 : ∀ (x1 : Int32) (x2 : Int32) (h : ea_H), fle (J2 x1 x2 h) (J2_ x1 x2 h)) {x1 : Int32} {x2 : Int32} {h : ea_H} : fle (BX1_burn_at52_2 J2 x1 x2 h) (BX1_burn_at52_2 J2_ x1 x2 h) :=
  (fle_ite (fle_rfl _) (fle_gd (fle_ite (fle_gd (fle_gd (fle_gd (fle_gd (fle_ite (mJ2 _ _ _) (fle_gd (fle_bind (fle_rfl _) fun _ => (mJ2 _ _ _)))))))) (mJ2 _ _ _))))
theorem nBX1_burn_at52_2 {J2 : Int32 → Int32 → ea_H → Option (Unit × ea_H)} {J2_ : Nat → (Int32 → Int32 → ea_H → Option (Unit × ea_H))}  (mJ2 : ∀ (x1 : Int32) (x2 : Int32) (h : ea_H), fct (J2 x1 x2 h) (fun f => J2_ f x1 x2 h)) {x1 : Int32} {x2 : Int32} {h : ea_H} : fct (BX1_burn_at52_2 J2 x1 x2 h) (fun f => BX1_burn_at52_2 (J2_ f) x1 x2 h) :=
  (fct_ite (fct_rfl _) (fct_gd (fct_ite (fct_gd (fct_gd (fct_gd (fct_gd (fct_ite (mJ2 _ _ _) (fct_gd (fct_bind (fct_rfl _) fun _ => (mJ2 _ _ _)))))))) (mJ2 _ _ _))))
noncomputable def gX1_burn_at52 : Nat → (Int32 → ea_H → Option (Unit × ea_H)) × (Int32 → Int32 → ea_H → Option (Unit × ea_H))
  | 0 => (fun _ _ => none, fun _ _ _ => none)
  | f + 1 => (BX1_burn_at52_0 (gX1_burn_at52 f).2, BX1_burn_at52_2 (gX1_burn_at52 f).2)
theorem mgX1_burn_at52 : ∀ f : Nat, (∀ (x1 : Int32) (h : ea_H), fle ((gX1_burn_at52 f).1 x1 h) ((gX1_burn_at52 (f + 1)).1 x1 h)) ∧ (∀ (x1 : Int32) (x2 : Int32) (h : ea_H), fle ((gX1_burn_at52 f).2 x1 x2 h) ((gX1_burn_at52 (f + 1)).2 x1 x2 h)) := by
  intro f
  induction f with
  | zero => exact ⟨fun _ _ => fle_none _, fun _ _ _ => fle_none _⟩
  | succ f ih => exact ⟨fun _ _ => lBX1_burn_at52_0 ih.2, fun _ _ _ => lBX1_burn_at52_2 ih.2⟩
noncomputable def qX1_burn_at52_0 (x1 : Int32) (h : ea_H) : Option (Unit × ea_H) := flim fun f => (gX1_burn_at52 f).1 x1 h
noncomputable def qX1_burn_at52_2 (x1 : Int32) (x2 : Int32) (h : ea_H) : Option (Unit × ea_H) := flim fun f => (gX1_burn_at52 f).2 x1 x2 h
theorem fqX1_burn_at52_0 (x1 : Int32) (h : ea_H) : fct (qX1_burn_at52_0 x1 h) fun f => (gX1_burn_at52 f).1 x1 h := flim_ct fun f => (mgX1_burn_at52 f).1 x1 h
theorem fqX1_burn_at52_2 (x1 : Int32) (x2 : Int32) (h : ea_H) : fct (qX1_burn_at52_2 x1 x2 h) fun f => (gX1_burn_at52 f).2 x1 x2 h := flim_ct fun f => (mgX1_burn_at52 f).2 x1 x2 h
/-- how a block opens -/
theorem uqX1_burn_at52_0 {x1 : Int32} {h : ea_H} {P : Unit × ea_H → Prop} (H : sat (BX1_burn_at52_0 qX1_burn_at52_2 x1 h) P) : sat (qX1_burn_at52_0 x1 h) P := by
  obtain ⟨x, e, hp⟩ := H
  obtain ⟨n, hn⟩ := nBX1_burn_at52_0 fqX1_burn_at52_2 x e
  exact ⟨x, flim_at (fun f => (mgX1_burn_at52 f).1 x1 h) (f := n + 1) (hn n (Nat.le_refl _)), hp⟩
/-- how a block opens -/
theorem uqX1_burn_at52_2 {x1 : Int32} {x2 : Int32} {h : ea_H} {P : Unit × ea_H → Prop} (H : sat (BX1_burn_at52_2 qX1_burn_at52_2 x1 x2 h) P) : sat (qX1_burn_at52_2 x1 x2 h) P := by
  obtain ⟨x, e, hp⟩ := H
  obtain ⟨n, hn⟩ := nBX1_burn_at52_2 fqX1_burn_at52_2 x e
  exact ⟨x, flim_at (fun f => (mgX1_burn_at52 f).2 x1 x2 h) (f := n + 1) (hn n (Nat.le_refl _)), hp⟩
theorem kgX1_burn_at52 : ∀ f : Nat, (∀ (x1 : Int32) (h : ea_H), kp (ea_core h) ((gX1_burn_at52 f).1 x1 h)) ∧ (∀ (x1 : Int32) (x2 : Int32) (h : ea_H), kp (ea_core h) ((gX1_burn_at52 f).2 x1 x2 h)) := by
  intro f
  induction f with
  | zero => exact ⟨fun _ _ => kp_none _, fun _ _ _ => kp_none _⟩
  | succ f ih => exact ⟨fun _ _ => kBX1_burn_at52_0 ih.2, fun _ _ _ => kBX1_burn_at52_2 ih.2⟩
theorem tgX1_burn_at52 {d : Nat} {h0 : ea_H} (hd : 4 ≤ d) : ∀ f : Nat, (∀ (x1 : Int32) (h : ea_H) (r : Unit) (h' : ea_H), (gX1_burn_at52 f).1 x1 h = some (r, h') → ShC h → ea_W mX1_burn d h0 none h' 0 [(0, vR (some 52)), (1, vI x1)] [] h) ∧ (∀ (x1 : Int32) (x2 : Int32) (h : ea_H) (r : Unit) (h' : ea_H), (gX1_burn_at52 f).2 x1 x2 h = some (r, h') → ShC h → ea_W mX1_burn d h0 none h' 2 [(0, vR (some 52)), (1, vI x1), (2, vI x2)] [] h) := by
  intro f
  induction f with
  | zero => exact ⟨fun _ _ _ _ E => no_some E, fun _ _ _ _ _ E => no_some E⟩
  | succ f ih => exact ⟨fun _ _ _ _ E hs => tBX1_burn_at52_0 hd ih.2 E hs, fun _ _ _ _ _ E hs => tBX1_burn_at52_2 hd ih.2 E hs⟩
noncomputable def qX1_burn_at52 (x1 : Int32) (h : ea_H) : Option (Unit × ea_H) := qX1_burn_at52_0 x1 h
theorem sX1_burn_at52 {d : Nat} {x1 : Int32} {h : ea_H} {r : Unit} {h' : ea_H} (hd : 4 ≤ d) (hs : ShC h) (K : qX1_burn_at52 x1 h = some (r, h')) : ea_Met mX1_burn d [vR (some 52), vI x1] h none h' := by
  unfold qX1_burn_at52 at K
  obtain ⟨n, hn⟩ := fqX1_burn_at52_0 x1 h _ K
  have W := (tgX1_burn_at52 (d := d) (h0 := h) hd n).1 x1 h _ _ (hn n (Nat.le_refl _)) hs
  exact ea_enter rfl (Nat.le_of_ble_eq_true rfl) W
theorem kpX1_burn_at52 (x1 : Int32) (h : ea_H) : kp (ea_core h) (qX1_burn_at52 x1 h) := fun x e => by
  obtain ⟨n, hn⟩ := fqX1_burn_at52_0 x1 h x e
  exact (kgX1_burn_at52 n).1 x1 h x (hn n (Nat.le_refl _))
noncomputable def BX1_burn_at62_0 (J2 : Int32 → Int32 → ea_H → Option (Unit × ea_H)) (x1 : Int32) (h : ea_H) : Option (Unit × ea_H) :=
  (J2 (x1 : Int32) (0 : Int32) h)
theorem tBX1_burn_at62_0 {d : Nat} {h0 : ea_H} (hd : 4 ≤ d) {J2 : Int32 → Int32 → ea_H → Option (Unit × ea_H)}  (kJ2 : ∀ (x1 : Int32) (x2 : Int32) (h : ea_H) (r : Unit) (h' : ea_H), J2 x1 x2 h = some (r, h') → ShC h → ea_W mX1_burn d h0 none h' 2 [(0, vR (some 62)), (1, vI x1), (2, vI x2)] [] h) {x1 : Int32} {h : ea_H} {r : Unit} {h' : ea_H} (E : BX1_burn_at62_0 J2 x1 h = some (r, h')) (hs : ShC h) : ea_W mX1_burn d h0 none h' 0 [(0, vR (some 62)), (1, vI x1)] [] h := by
  unfold BX1_burn_at62_0 at E
  refine ea_iconst (pc := 0) dX1_burn_0 (v := 0) rfl ?_
  refine ea_istore_n (pc := 1) (lv' := [(0, vR (some 62)), (1, vI x1), (2, vI 0)]) dX1_burn_1 rfl (Nat.le_of_ble_eq_true rfl) [1, 2, 0] rfl ?_
  exact (kJ2 (x1 : Int32) (0 : Int32) h _ _ E hs)
theorem kBX1_burn_at62_0 {J2 : Int32 → Int32 → ea_H → Option (Unit × ea_H)}  (cJ2 : ∀ (x1 : Int32) (x2 : Int32) (h : ea_H), kp (ea_core h) (J2 x1 x2 h)) {x1 : Int32} {h : ea_H} : kp (ea_core h) (BX1_burn_at62_0 J2 x1 h) :=
  (kp_tw (cJ2 _ _ _) rfl)
theorem lBX1_burn_at62_0 {J2 : Int32 → Int32 → ea_H → Option (Unit × ea_H)} {J2_ : Int32 → Int32 → ea_H → Option (Unit × ea_H)}  (mJ2 : ∀ (x1 : Int32) (x2 : Int32) (h : ea_H), fle (J2 x1 x2 h) (J2_ x1 x2 h)) {x1 : Int32} {h : ea_H} : fle (BX1_burn_at62_0 J2 x1 h) (BX1_burn_at62_0 J2_ x1 h) :=
  (mJ2 _ _ _)
theorem nBX1_burn_at62_0 {J2 : Int32 → Int32 → ea_H → Option (Unit × ea_H)} {J2_ : Nat → (Int32 → Int32 → ea_H → Option (Unit × ea_H))}  (mJ2 : ∀ (x1 : Int32) (x2 : Int32) (h : ea_H), fct (J2 x1 x2 h) (fun f => J2_ f x1 x2 h)) {x1 : Int32} {h : ea_H} : fct (BX1_burn_at62_0 J2 x1 h) (fun f => BX1_burn_at62_0 (J2_ f) x1 h) :=
  (mJ2 _ _ _)
noncomputable def BX1_burn_at62_2 (J2 : Int32 → Int32 → ea_H → Option (Unit × ea_H)) (x1 : Int32) (x2 : Int32) (h : ea_H) : Option (Unit × ea_H) :=
  (if (ea_i h 62 0) ≤ x2 then (some ((), h)) else (gd (vp_in x2 120) (if (ea_i h 63 (Int32.toNatClampNeg x2)) = (3 : Int32) then (gd (vp_in x2 120) (gd (vp_in x2 120) (gd ((ea_r h 49 (Int32.toNatClampNeg x2)) = some (Option.getD (ea_r h 49 (Int32.toNatClampNeg x2)) 0)) (gd (((Option.getD (ea_r h 49 (Int32.toNatClampNeg x2)) 0) < ea_n h ∧ ea_c h (Option.getD (ea_r h 49 (Int32.toNatClampNeg x2)) 0) = 5)) (if (x1 - ((ea_i h 69 (Int32.toNatClampNeg x2)) / (1440 : Int32))) < (ea_i h (Option.getD (ea_r h 49 (Int32.toNatClampNeg x2)) 0) 14) then (J2 (x1 : Int32) ((x2 + (1 : Int32)) : Int32) h) else (gd (vp_in x2 120) (Option.bind (qX1_move_at62 (x2 : Int32) ((x1 * (1440 : Int32)) : Int32) (6 : Int32) ((ea_i h 64 (Int32.toNatClampNeg x2)) : Int32) h) fun w7 => (J2 (x1 : Int32) ((x2 + (1 : Int32)) : Int32) w7.2)))))))) else (J2 (x1 : Int32) ((x2 + (1 : Int32)) : Int32) h))))
theorem tBX1_burn_at62_2 {d : Nat} {h0 : ea_H} (hd : 4 ≤ d) {J2 : Int32 → Int32 → ea_H → Option (Unit × ea_H)}  (kJ2 : ∀ (x1 : Int32) (x2 : Int32) (h : ea_H) (r : Unit) (h' : ea_H), J2 x1 x2 h = some (r, h') → ShC h → ea_W mX1_burn d h0 none h' 2 [(0, vR (some 62)), (1, vI x1), (2, vI x2)] [] h) {x1 : Int32} {x2 : Int32} {h : ea_H} {r : Unit} {h' : ea_H} (E : BX1_burn_at62_2 J2 x1 x2 h = some (r, h')) (hs : ShC h) : ea_W mX1_burn d h0 none h' 2 [(0, vR (some 62)), (1, vI x1), (2, vI x2)] [] h := by
  unfold BX1_burn_at62_2 at E
  refine ea_iload_n (pc := 2) dX1_burn_2 rfl 2 rfl ?_
  refine ea_aload_n (pc := 3) dX1_burn_3 rfl 0 rfl ?_
  refine ea_getI (pc := 4) dX1_burn_4 ec_1 (k := 0) (Nat.le_of_ble_eq_true rfl) rfl (Or.inl ew_441) (cShC_62 hs).1 (cShC_62 hs).2.1 ?_
  refine ea_icmp_ge (pc := 7) (tgt := 68) dX1_burn_7 rfl (fun c10 => ?_) (fun c10 => ?_)
  · have E := (if_pos c10).symm.trans E
    exact ea_vretO (pc := 68) dX1_burn_68 rfl E
  · have E := (if_neg c10).symm.trans E
    obtain ⟨z1, E⟩ := gd_some E
    refine ea_aload_n (pc := 10) dX1_burn_10 rfl 0 rfl ?_
    refine ea_getR (pc := 11) dX1_burn_11 ec_1 (k := 1) (Nat.le_of_ble_eq_true rfl) rfl (Or.inl ew_443) (cShC_62 hs).1 (cShC_62 hs).2.1 (rShC_62_1 hs) ?_
    refine ea_iload_n (pc := 14) dX1_burn_14 rfl 2 rfl ?_
    refine ea_iald (pc := 15) dX1_burn_15 (cShC_63 hs).1 (cShC_63 hs).2.1 (ea_vpl (cShC_63 hs).2.2 z1) ?_
    refine ea_iconst (pc := 16) dX1_burn_16 (v := 3) rfl ?_
    refine ea_icmp_ne (pc := 17) (tgt := 62) dX1_burn_17 rfl (fun c9 => ?_) (fun c9 => ?_)
    · have E := (if_neg c9).symm.trans E
      refine ea_iinc (pc := 62) (v := 1) (lv' := [(0, vR (some 62)), (1, vI x1), (2, vI (x2 + (1 : Int32)))]) dX1_burn_62 2 rfl rfl (Nat.le_of_ble_eq_true rfl) [1, 2, 0] rfl ?_
      refine ea_goto (pc := 65) (tgt := 2) dX1_burn_65 rfl ?_
      exact (kJ2 (x1 : Int32) ((x2 + (1 : Int32)) : Int32) h _ _ E hs)
    · have E := (if_pos c9).symm.trans E
      obtain ⟨z2, E⟩ := gd_some E
      refine ea_iload_n (pc := 20) dX1_burn_20 rfl 1 rfl ?_
      refine ea_aload_n (pc := 21) dX1_burn_21 rfl 0 rfl ?_
      refine ea_getR (pc := 22) dX1_burn_22 ec_1 (k := 7) (Nat.le_of_ble_eq_true rfl) rfl (Or.inl ew_455) (cShC_62 hs).1 (cShC_62 hs).2.1 (rShC_62_7 hs) ?_
      refine ea_iload_n (pc := 25) dX1_burn_25 rfl 2 rfl ?_
      obtain ⟨z3, E⟩ := gd_some E
      refine ea_iald (pc := 26) dX1_burn_26 (cShC_69 hs).1 (cShC_69 hs).2.1 (ea_vpl (cShC_69 hs).2.2 z2) ?_
      refine ea_sipush (pc := 27) dX1_burn_27 (v := 1440) rfl ?_
      refine ea_idiv (pc := 30) dX1_burn_30 (by decide) ?_
      refine ea_isub (pc := 31) dX1_burn_31 ?_
      refine ea_aload_n (pc := 32) dX1_burn_32 rfl 0 rfl ?_
      refine ea_getR (pc := 33) dX1_burn_33 ec_1 (k := 14) (Nat.le_of_ble_eq_true rfl) rfl (Or.inl ew_462) (cShC_62 hs).1 (cShC_62 hs).2.1 (rShC_62_14 hs) ?_
      refine ea_iload_n (pc := 36) dX1_burn_36 rfl 2 rfl ?_
      obtain ⟨e4, E⟩ := gd_some E
      refine ea_aald23 (pc := 37) dX1_burn_37 (cShC_49 hs).1 (cShC_49 hs).2.1 (ea_vpl (cShC_49 hs).2.2 z3) rfl ?_
      obtain ⟨f5, E⟩ := gd_some E
      refine ea_deref0 e4 ?_
      refine ea_getI (pc := 38) dX1_burn_38 ec_5 (k := 14) (Nat.le_of_ble_eq_true rfl) rfl (Or.inl ew_544) f5.1 f5.2 ?_
      refine ea_icmp_lt (pc := 41) (tgt := 62) dX1_burn_41 rfl (fun c8 => ?_) (fun c8 => ?_)
      · have E := (if_pos c8).symm.trans E
        refine ea_iinc (pc := 62) (v := 1) (lv' := [(0, vR (some 62)), (1, vI x1), (2, vI (x2 + (1 : Int32)))]) dX1_burn_62 2 rfl rfl (Nat.le_of_ble_eq_true rfl) [1, 2, 0] rfl ?_
        refine ea_goto (pc := 65) (tgt := 2) dX1_burn_65 rfl ?_
        exact (kJ2 (x1 : Int32) ((x2 + (1 : Int32)) : Int32) h _ _ E hs)
      · have E := (if_neg c8).symm.trans E
        obtain ⟨z6, E⟩ := gd_some E
        refine ea_aload_n (pc := 44) dX1_burn_44 rfl 0 rfl ?_
        refine ea_iload_n (pc := 45) dX1_burn_45 rfl 2 rfl ?_
        refine ea_iload_n (pc := 46) dX1_burn_46 rfl 1 rfl ?_
        refine ea_sipush (pc := 47) dX1_burn_47 (v := 1440) rfl ?_
        refine ea_imul (pc := 50) dX1_burn_50 ?_
        refine ea_bipush (pc := 51) dX1_burn_51 (v := 6) rfl ?_
        refine ea_aload_n (pc := 53) dX1_burn_53 rfl 0 rfl ?_
        refine ea_getR (pc := 54) dX1_burn_54 ec_1 (k := 2) (Nat.le_of_ble_eq_true rfl) rfl (Or.inl ew_445) (cShC_62 hs).1 (cShC_62 hs).2.1 (rShC_62_2 hs) ?_
        refine ea_iload_n (pc := 57) dX1_burn_57 rfl 2 rfl ?_
        obtain ⟨w7, Ew7, E⟩ := bd_some E
        have hsw7 : ShC w7.2 := ShC_core ((kpX1_move_at62 _ _ _ _ _) _ Ew7) hs
        refine ea_iald (pc := 58) dX1_burn_58 (cShC_64 hs).1 (cShC_64 hs).2.1 (ea_vpl (cShC_64 hs).2.2 z6) ?_
        refine ea_callV (pc := 59) (d' := d - 1) (As := [vI x2, vI (x1 * (1440 : Int32)), vI 6, vI (ea_i h 64 (Int32.toNatClampNeg x2))]) (st := []) dX1_burn_59 kX1_move (sX1_move_at62 (d := d - 1) (by omega) hs Ew7) (by omega) rfl (Nat.le_of_ble_eq_true rfl) ew_851 ew_852 ew_853 (ci := 1) rfl (by decide) (cShC_62 hs).1 (cShC_62 hs).2.1 ?_
        refine ea_iinc (pc := 62) (v := 1) (lv' := [(0, vR (some 62)), (1, vI x1), (2, vI (x2 + (1 : Int32)))]) dX1_burn_62 2 rfl rfl (Nat.le_of_ble_eq_true rfl) [1, 2, 0] rfl ?_
        refine ea_goto (pc := 65) (tgt := 2) dX1_burn_65 rfl ?_
        exact (kJ2 (x1 : Int32) ((x2 + (1 : Int32)) : Int32) w7.2 _ _ E hsw7)
theorem kBX1_burn_at62_2 {J2 : Int32 → Int32 → ea_H → Option (Unit × ea_H)}  (cJ2 : ∀ (x1 : Int32) (x2 : Int32) (h : ea_H), kp (ea_core h) (J2 x1 x2 h)) {x1 : Int32} {x2 : Int32} {h : ea_H} : kp (ea_core h) (BX1_burn_at62_2 J2 x1 x2 h) :=
  (kp_ite (kp_ret rfl) (kp_gd (kp_ite (kp_gd (kp_gd (kp_gd (kp_gd (kp_ite (kp_tw (cJ2 _ _ _) rfl) (kp_gd (kp_bind (kp_tw (kpX1_move_at62 _ _ _ _ _) rfl) fun w7 hcw7 => (kp_tw (cJ2 _ _ _) hcw7)))))))) (kp_tw (cJ2 _ _ _) rfl))))
theorem lBX1_burn_at62_2 {J2 : Int32 → Int32 → ea_H → Option (Unit × ea_H)} {J2_ : Int32 → Int32 → ea_H → Option (Unit × ea_H)}  (mJ2 : ∀ (x1 : Int32) (x2 : Int32) (h : ea_H), fle (J2 x1 x2 h) (J2_ x1 x2 h)) {x1 : Int32} {x2 : Int32} {h : ea_H} : fle (BX1_burn_at62_2 J2 x1 x2 h) (BX1_burn_at62_2 J2_ x1 x2 h) :=
  (fle_ite (fle_rfl _) (fle_gd (fle_ite (fle_gd (fle_gd (fle_gd (fle_gd (fle_ite (mJ2 _ _ _) (fle_gd (fle_bind (fle_rfl _) fun _ => (mJ2 _ _ _)))))))) (mJ2 _ _ _))))
theorem nBX1_burn_at62_2 {J2 : Int32 → Int32 → ea_H → Option (Unit × ea_H)} {J2_ : Nat → (Int32 → Int32 → ea_H → Option (Unit × ea_H))}  (mJ2 : ∀ (x1 : Int32) (x2 : Int32) (h : ea_H), fct (J2 x1 x2 h) (fun f => J2_ f x1 x2 h)) {x1 : Int32} {x2 : Int32} {h : ea_H} : fct (BX1_burn_at62_2 J2 x1 x2 h) (fun f => BX1_burn_at62_2 (J2_ f) x1 x2 h) :=
  (fct_ite (fct_rfl _) (fct_gd (fct_ite (fct_gd (fct_gd (fct_gd (fct_gd (fct_ite (mJ2 _ _ _) (fct_gd (fct_bind (fct_rfl _) fun _ => (mJ2 _ _ _)))))))) (mJ2 _ _ _))))
noncomputable def gX1_burn_at62 : Nat → (Int32 → ea_H → Option (Unit × ea_H)) × (Int32 → Int32 → ea_H → Option (Unit × ea_H))
  | 0 => (fun _ _ => none, fun _ _ _ => none)
  | f + 1 => (BX1_burn_at62_0 (gX1_burn_at62 f).2, BX1_burn_at62_2 (gX1_burn_at62 f).2)
theorem mgX1_burn_at62 : ∀ f : Nat, (∀ (x1 : Int32) (h : ea_H), fle ((gX1_burn_at62 f).1 x1 h) ((gX1_burn_at62 (f + 1)).1 x1 h)) ∧ (∀ (x1 : Int32) (x2 : Int32) (h : ea_H), fle ((gX1_burn_at62 f).2 x1 x2 h) ((gX1_burn_at62 (f + 1)).2 x1 x2 h)) := by
  intro f
  induction f with
  | zero => exact ⟨fun _ _ => fle_none _, fun _ _ _ => fle_none _⟩
  | succ f ih => exact ⟨fun _ _ => lBX1_burn_at62_0 ih.2, fun _ _ _ => lBX1_burn_at62_2 ih.2⟩
noncomputable def qX1_burn_at62_0 (x1 : Int32) (h : ea_H) : Option (Unit × ea_H) := flim fun f => (gX1_burn_at62 f).1 x1 h
noncomputable def qX1_burn_at62_2 (x1 : Int32) (x2 : Int32) (h : ea_H) : Option (Unit × ea_H) := flim fun f => (gX1_burn_at62 f).2 x1 x2 h
theorem fqX1_burn_at62_0 (x1 : Int32) (h : ea_H) : fct (qX1_burn_at62_0 x1 h) fun f => (gX1_burn_at62 f).1 x1 h := flim_ct fun f => (mgX1_burn_at62 f).1 x1 h
theorem fqX1_burn_at62_2 (x1 : Int32) (x2 : Int32) (h : ea_H) : fct (qX1_burn_at62_2 x1 x2 h) fun f => (gX1_burn_at62 f).2 x1 x2 h := flim_ct fun f => (mgX1_burn_at62 f).2 x1 x2 h
/-- how a block opens -/
theorem uqX1_burn_at62_0 {x1 : Int32} {h : ea_H} {P : Unit × ea_H → Prop} (H : sat (BX1_burn_at62_0 qX1_burn_at62_2 x1 h) P) : sat (qX1_burn_at62_0 x1 h) P := by
  obtain ⟨x, e, hp⟩ := H
  obtain ⟨n, hn⟩ := nBX1_burn_at62_0 fqX1_burn_at62_2 x e
  exact ⟨x, flim_at (fun f => (mgX1_burn_at62 f).1 x1 h) (f := n + 1) (hn n (Nat.le_refl _)), hp⟩
/-- how a block opens -/
theorem uqX1_burn_at62_2 {x1 : Int32} {x2 : Int32} {h : ea_H} {P : Unit × ea_H → Prop} (H : sat (BX1_burn_at62_2 qX1_burn_at62_2 x1 x2 h) P) : sat (qX1_burn_at62_2 x1 x2 h) P := by
  obtain ⟨x, e, hp⟩ := H
  obtain ⟨n, hn⟩ := nBX1_burn_at62_2 fqX1_burn_at62_2 x e
  exact ⟨x, flim_at (fun f => (mgX1_burn_at62 f).2 x1 x2 h) (f := n + 1) (hn n (Nat.le_refl _)), hp⟩
theorem kgX1_burn_at62 : ∀ f : Nat, (∀ (x1 : Int32) (h : ea_H), kp (ea_core h) ((gX1_burn_at62 f).1 x1 h)) ∧ (∀ (x1 : Int32) (x2 : Int32) (h : ea_H), kp (ea_core h) ((gX1_burn_at62 f).2 x1 x2 h)) := by
  intro f
  induction f with
  | zero => exact ⟨fun _ _ => kp_none _, fun _ _ _ => kp_none _⟩
  | succ f ih => exact ⟨fun _ _ => kBX1_burn_at62_0 ih.2, fun _ _ _ => kBX1_burn_at62_2 ih.2⟩
theorem tgX1_burn_at62 {d : Nat} {h0 : ea_H} (hd : 4 ≤ d) : ∀ f : Nat, (∀ (x1 : Int32) (h : ea_H) (r : Unit) (h' : ea_H), (gX1_burn_at62 f).1 x1 h = some (r, h') → ShC h → ea_W mX1_burn d h0 none h' 0 [(0, vR (some 62)), (1, vI x1)] [] h) ∧ (∀ (x1 : Int32) (x2 : Int32) (h : ea_H) (r : Unit) (h' : ea_H), (gX1_burn_at62 f).2 x1 x2 h = some (r, h') → ShC h → ea_W mX1_burn d h0 none h' 2 [(0, vR (some 62)), (1, vI x1), (2, vI x2)] [] h) := by
  intro f
  induction f with
  | zero => exact ⟨fun _ _ _ _ E => no_some E, fun _ _ _ _ _ E => no_some E⟩
  | succ f ih => exact ⟨fun _ _ _ _ E hs => tBX1_burn_at62_0 hd ih.2 E hs, fun _ _ _ _ _ E hs => tBX1_burn_at62_2 hd ih.2 E hs⟩
noncomputable def qX1_burn_at62 (x1 : Int32) (h : ea_H) : Option (Unit × ea_H) := qX1_burn_at62_0 x1 h
theorem sX1_burn_at62 {d : Nat} {x1 : Int32} {h : ea_H} {r : Unit} {h' : ea_H} (hd : 4 ≤ d) (hs : ShC h) (K : qX1_burn_at62 x1 h = some (r, h')) : ea_Met mX1_burn d [vR (some 62), vI x1] h none h' := by
  unfold qX1_burn_at62 at K
  obtain ⟨n, hn⟩ := fqX1_burn_at62_0 x1 h _ K
  have W := (tgX1_burn_at62 (d := d) (h0 := h) hd n).1 x1 h _ _ (hn n (Nat.le_refl _)) hs
  exact ea_enter rfl (Nat.le_of_ble_eq_true rfl) W
theorem kpX1_burn_at62 (x1 : Int32) (h : ea_H) : kp (ea_core h) (qX1_burn_at62 x1 h) := fun x e => by
  obtain ⟨n, hn⟩ := fqX1_burn_at62_0 x1 h x e
  exact (kgX1_burn_at62 n).1 x1 h x (hn n (Nat.le_refl _))
noncomputable def BX4_mark_0 (x1 : Int32) (x2 : Int32) (h : ea_H) : Option (Unit × ea_H) :=
  (Option.bind (qX4_wordOf (x1 : Int32) (x2 : Int32) h) fun w1 => (gd (vp_in w1.1 2240) (gd (vp_in w1.1 2240) (ea_let (ea_wj w1.2 51 (Int32.toNatClampNeg w1.1) ((ea_j w1.2 51 (Int32.toNatClampNeg w1.1)) ||| ((1 : Int64) <<< (Int32.toInt64 (x2 - x2 / (64 : Int32) * (64 : Int32)) &&& 63)))) fun H4 => (some ((), H4))))))
theorem tBX4_mark_0 {d : Nat} {h0 : ea_H} (hd : 3 ≤ d)  {x1 : Int32} {x2 : Int32} {h : ea_H} {r : Unit} {h' : ea_H} (E : BX4_mark_0 x1 x2 h = some (r, h')) (hs : ShC h) : ea_W mX4_mark d h0 none h' 0 [(0, vR (some 50)), (1, vI x1), (2, vI x2)] [] h := by
  unfold BX4_mark_0 at E
  obtain ⟨w1, Ew1, E⟩ := bd_some E
  have hsw1 : ShC w1.2 := ShC_core ((kpX4_wordOf _ _ _) _ Ew1) hs
  refine ea_aload_n (pc := 0) dX4_mark_0 rfl 0 rfl ?_
  refine ea_getR (pc := 1) dX4_mark_1 ec_4 (k := 0) (Nat.le_of_ble_eq_true rfl) rfl (Or.inl ew_422) (cShC_50 hs).1 (cShC_50 hs).2.1 (rShC_50_0 hs) ?_
  refine ea_iload_n (pc := 4) dX4_mark_4 rfl 1 rfl ?_
  refine ea_iload_n (pc := 5) dX4_mark_5 rfl 2 rfl ?_
  refine ea_callS (pc := 6) (d' := d - 1) (As := [vI x1, vI x2]) (st := [vR (some 51)]) dX4_mark_6 kX4_wordOf (sX4_wordOf (d := d - 1) (by omega) Ew1) (by omega) rfl (Nat.le_of_ble_eq_true rfl) ew_879 ew_880 ?_
  obtain ⟨z2, E⟩ := gd_some E
  refine ea_dup2 (pc := 9) dX4_mark_9 rfl rfl ?_
  obtain ⟨z3, E⟩ := gd_some E
  refine ea_lald (pc := 10) dX4_mark_10 (cShC_51 hsw1).1 (cShC_51 hsw1).2.1 (ea_vpl (cShC_51 hsw1).2.2 z2) ?_
  refine ea_lconst (pc := 11) dX4_mark_11 (v := 1) rfl ?_
  refine ea_iload_n (pc := 12) dX4_mark_12 rfl 2 rfl ?_
  refine ea_bipush (pc := 13) dX4_mark_13 (v := 64) rfl ?_
  refine ea_irem (pc := 15) dX4_mark_15 (by decide) ?_
  refine ea_lshl (pc := 16) dX4_mark_16 ?_
  refine ea_lor (pc := 17) dX4_mark_17 ?_
  obtain ⟨H4, eH4, E⟩ := let_some E
  refine ea_last (pc := 18) dX4_mark_18 (cShC_51 hsw1).1 (cShC_51 hsw1).2.1 (ea_vpl (cShC_51 hsw1).2.2 z3) ?_
  refine ea_nm eH4 ?_
  have hsH4 : ShC H4 := by rw [eH4]; exact hsw1
  exact ea_vretO (pc := 19) dX4_mark_19 rfl E
theorem kBX4_mark_0  {x1 : Int32} {x2 : Int32} {h : ea_H} : kp (ea_core h) (BX4_mark_0 x1 x2 h) :=
  (kp_bind (kp_tw (kpX4_wordOf _ _ _) rfl) fun w1 hcw1 => (kp_gd (kp_gd (kp_let (kp_ret hcw1)))))
noncomputable def qX4_mark (x1 : Int32) (x2 : Int32) (h : ea_H) : Option (Unit × ea_H) := BX4_mark_0 x1 x2 h
theorem sX4_mark {d : Nat} {x1 : Int32} {x2 : Int32} {h : ea_H} {r : Unit} {h' : ea_H} (hd : 3 ≤ d) (hs : ShC h) (K : qX4_mark x1 x2 h = some (r, h')) : ea_Met mX4_mark d [vR (some 50), vI x1, vI x2] h none h' := by
  unfold qX4_mark at K
  have W := tBX4_mark_0 hd (h0 := h) K hs
  exact ea_enter rfl (Nat.le_of_ble_eq_true rfl) W
theorem kpX4_mark (x1 : Int32) (x2 : Int32) (h : ea_H) : kp (ea_core h) (qX4_mark x1 x2 h) := kBX4_mark_0
noncomputable def BX4_isMarked_0 (x1 : Int32) (x2 : Int32) (h : ea_H) : Option (Int32 × ea_H) :=
  (Option.bind (qX4_wordOf (x1 : Int32) (x2 : Int32) h) fun w1 => (gd (vp_in w1.1 2240) (if (lg_cmp (((ea_j w1.2 51 (Int32.toNatClampNeg w1.1)) >>> (Int32.toInt64 (x2 - x2 / (64 : Int32) * (64 : Int32)) &&& 63)) &&& (1 : Int64)) (1 : Int64)) = (0 : Int32) then (some ((1 : Int32), w1.2)) else (some ((0 : Int32), w1.2)))))
theorem tBX4_isMarked_0 {d : Nat} {h0 : ea_H} (hd : 3 ≤ d)  {x1 : Int32} {x2 : Int32} {h : ea_H} {r : Int32} {h' : ea_H} (E : BX4_isMarked_0 x1 x2 h = some (r, h')) (hs : ShC h) : ea_W mX4_isMarked d h0 (some (vI r)) h' 0 [(0, vR (some 50)), (1, vI x1), (2, vI x2)] [] h := by
  unfold BX4_isMarked_0 at E
  obtain ⟨w1, Ew1, E⟩ := bd_some E
  have hsw1 : ShC w1.2 := ShC_core ((kpX4_wordOf _ _ _) _ Ew1) hs
  refine ea_aload_n (pc := 0) dX4_isMarked_0 rfl 0 rfl ?_
  refine ea_getR (pc := 1) dX4_isMarked_1 ec_4 (k := 0) (Nat.le_of_ble_eq_true rfl) rfl (Or.inl ew_422) (cShC_50 hs).1 (cShC_50 hs).2.1 (rShC_50_0 hs) ?_
  refine ea_iload_n (pc := 4) dX4_isMarked_4 rfl 1 rfl ?_
  refine ea_iload_n (pc := 5) dX4_isMarked_5 rfl 2 rfl ?_
  refine ea_callS (pc := 6) (d' := d - 1) (As := [vI x1, vI x2]) (st := [vR (some 51)]) dX4_isMarked_6 kX4_wordOf (sX4_wordOf (d := d - 1) (by omega) Ew1) (by omega) rfl (Nat.le_of_ble_eq_true rfl) ew_879 ew_880 ?_
  obtain ⟨z2, E⟩ := gd_some E
  refine ea_lald (pc := 9) dX4_isMarked_9 (cShC_51 hsw1).1 (cShC_51 hsw1).2.1 (ea_vpl (cShC_51 hsw1).2.2 z2) ?_
  refine ea_iload_n (pc := 10) dX4_isMarked_10 rfl 2 rfl ?_
  refine ea_bipush (pc := 11) dX4_isMarked_11 (v := 64) rfl ?_
  refine ea_irem (pc := 13) dX4_isMarked_13 (by decide) ?_
  refine ea_lshr (pc := 14) dX4_isMarked_14 ?_
  refine ea_lconst (pc := 15) dX4_isMarked_15 (v := 1) rfl ?_
  refine ea_land (pc := 16) dX4_isMarked_16 ?_
  refine ea_lconst (pc := 17) dX4_isMarked_17 (v := 1) rfl ?_
  refine ea_lcmp (pc := 18) dX4_isMarked_18 ?_
  refine ea_if_ne (pc := 19) (tgt := 26) dX4_isMarked_19 rfl (fun c3 => ?_) (fun c3 => ?_)
  · have E := (if_neg c3).symm.trans E
    refine ea_iconst (pc := 26) dX4_isMarked_26 (v := 0) rfl ?_
    exact ea_iretO (pc := 27) dX4_isMarked_27 rfl (ea_bn (Or.inl rfl)) E
  · have E := (if_pos c3).symm.trans E
    refine ea_iconst (pc := 22) dX4_isMarked_22 (v := 1) rfl ?_
    refine ea_goto (pc := 23) (tgt := 27) dX4_isMarked_23 rfl ?_
    exact ea_iretO (pc := 27) dX4_isMarked_27 rfl (ea_bn (Or.inr rfl)) E
theorem kBX4_isMarked_0  {x1 : Int32} {x2 : Int32} {h : ea_H} : kp (ea_core h) (BX4_isMarked_0 x1 x2 h) :=
  (kp_bind (kp_tw (kpX4_wordOf _ _ _) rfl) fun w1 hcw1 => (kp_gd (kp_ite (kp_ret hcw1) (kp_ret hcw1))))
noncomputable def qX4_isMarked (x1 : Int32) (x2 : Int32) (h : ea_H) : Option (Int32 × ea_H) := BX4_isMarked_0 x1 x2 h
theorem sX4_isMarked {d : Nat} {x1 : Int32} {x2 : Int32} {h : ea_H} {r : Int32} {h' : ea_H} (hd : 3 ≤ d) (hs : ShC h) (K : qX4_isMarked x1 x2 h = some (r, h')) : ea_Met mX4_isMarked d [vR (some 50), vI x1, vI x2] h (some (vI r)) h' := by
  unfold qX4_isMarked at K
  have W := tBX4_isMarked_0 hd (h0 := h) K hs
  exact ea_enter rfl (Nat.le_of_ble_eq_true rfl) W
theorem kpX4_isMarked (x1 : Int32) (x2 : Int32) (h : ea_H) : kp (ea_core h) (qX4_isMarked x1 x2 h) := kBX4_isMarked_0
noncomputable def BX6_readAfter_0 (r1 : Option Nat) (x2 : Int32) (h : ea_H) : Option (Int32 × ea_H) :=
  (Option.bind (qX6_skip (14 : Int32) h) fun w1 => (if w1.1 = (0 : Int32) then (some ((0 : Int32), w1.2)) else (if (ea_i w1.2 24 7) = (18 : Int32) then (Option.bind (qX6_value  w1.2) fun w2 => (if w2.1 ≤ (1439 : Int32) then (gd (r1 = some (Option.getD r1 0)) (gd (((Option.getD r1 0) < ea_n w2.2 ∧ ea_c w2.2 (Option.getD r1 0) = 0)) (ea_let (ea_wi w2.2 (Option.getD r1 0) 2 x2) fun H5 => (Option.bind (qX6_value  H5) fun w6 => (gd (r1 = some (Option.getD r1 0)) (gd (((Option.getD r1 0) < ea_n w6.2 ∧ ea_c w6.2 (Option.getD r1 0) = 0)) (ea_let (ea_wi w6.2 (Option.getD r1 0) 3 w6.1) fun H9 => (Option.bind (qX6_step  H9) fun w10 => (some ((1 : Int32), w10.2)))))))))) else (Option.bind (qX6_refuse (2 : Int32) w2.2) fun w11 => (gd ((w11.1 = 0 ∨ w11.1 = 1)) (some (w11.1, w11.2)))))) else (Option.bind (qX6_refuse (1 : Int32) w1.2) fun w14 => (gd ((w14.1 = 0 ∨ w14.1 = 1)) (some (w14.1, w14.2)))))))
theorem tBX6_readAfter_0 {d : Nat} {h0 : ea_H} (hd : 3 ≤ d)  {r1 : Option Nat} {x2 : Int32} {h : ea_H} {r : Int32} {h' : ea_H} (E : BX6_readAfter_0 r1 x2 h = some (r, h')) (hs : ShC h) : ea_W mX6_readAfter d h0 (some (vI r)) h' 0 [(0, vR (some 24)), (1, vR r1), (2, vI x2)] [] h := by
  unfold BX6_readAfter_0 at E
  obtain ⟨w1, Ew1, E⟩ := bd_some E
  have hsw1 : ShC w1.2 := ShC_core ((kpX6_skip _ _) _ Ew1) hs
  refine ea_aload_n (pc := 0) dX6_readAfter_0 rfl 0 rfl ?_
  refine ea_bipush (pc := 1) dX6_readAfter_1 (v := 14) rfl ?_
  refine ea_callV (pc := 3) (d' := d - 1) (As := [vI 14]) (st := []) dX6_readAfter_3 kX6_skip (sX6_skip (d := d - 1) (by omega) hs Ew1) (by omega) rfl (Nat.le_of_ble_eq_true rfl) ew_1041 ew_1043 ew_32 (ci := 6) rfl (by decide) (cShC_24 hs).1 (cShC_24 hs).2.1 ?_
  refine ea_if_ne (pc := 6) (tgt := 11) dX6_readAfter_6 rfl (fun c17 => ?_) (fun c17 => ?_)
  · have E := (if_neg c17).symm.trans E
    refine ea_aload_n (pc := 11) dX6_readAfter_11 rfl 0 rfl ?_
    refine ea_getI (pc := 12) dX6_readAfter_12 ec_6 (k := 7) (Nat.le_of_ble_eq_true rfl) rfl (Or.inl ew_304) (cShC_24 hsw1).1 (cShC_24 hsw1).2.1 ?_
    refine ea_bipush (pc := 15) dX6_readAfter_15 (v := 18) rfl ?_
    refine ea_icmp_eq (pc := 17) (tgt := 26) dX6_readAfter_17 rfl (fun c16 => ?_) (fun c16 => ?_)
    · have E := (if_pos c16).symm.trans E
      obtain ⟨w2, Ew2, E⟩ := bd_some E
      have hsw2 : ShC w2.2 := ShC_core ((kpX6_value _) _ Ew2) hsw1
      refine ea_aload_n (pc := 26) dX6_readAfter_26 rfl 0 rfl ?_
      refine ea_callV (pc := 27) (d' := d - 1) (As := []) (st := []) dX6_readAfter_27 kX6_value (sX6_value (d := d - 1) (by omega) hsw1 Ew2) (by omega) rfl (Nat.le_of_ble_eq_true rfl) ew_1012 ew_1014 ew_25 (ci := 6) rfl (by decide) (cShC_24 hsw1).1 (cShC_24 hsw1).2.1 ?_
      refine ea_sipush (pc := 30) dX6_readAfter_30 (v := 1439) rfl ?_
      refine ea_icmp_le (pc := 33) (tgt := 42) dX6_readAfter_33 rfl (fun c13 => ?_) (fun c13 => ?_)
      · have E := (if_pos c13).symm.trans E
        obtain ⟨e3, E⟩ := gd_some E
        refine ea_aload_n (pc := 42) dX6_readAfter_42 rfl 1 rfl ?_
        refine ea_iload_n (pc := 43) dX6_readAfter_43 rfl 2 rfl ?_
        obtain ⟨f4, E⟩ := gd_some E
        obtain ⟨H5, eH5, E⟩ := let_some E
        refine ea_deref1 e3 ?_
        refine ea_putI (pc := 44) dX6_readAfter_44 ec_0 (k := 2) (Nat.le_of_ble_eq_true rfl) rfl (Or.inl ⟨rfl, Or.inl ew_341⟩) rfl rfl f4.1 f4.2 ?_
        refine ea_nm eH5 ?_
        have hsH5 : ShC H5 := by rw [eH5]; exact hsw2
        obtain ⟨w6, Ew6, E⟩ := bd_some E
        have hsw6 : ShC w6.2 := ShC_core ((kpX6_value _) _ Ew6) hsH5
        refine ea_aload_n (pc := 47) dX6_readAfter_47 rfl 1 rfl ?_
        refine ea_aload_n (pc := 48) dX6_readAfter_48 rfl 0 rfl ?_
        refine ea_callV (pc := 49) (d' := d - 1) (As := []) (st := [vR r1]) dX6_readAfter_49 kX6_value (sX6_value (d := d - 1) (by omega) hsH5 Ew6) (by omega) rfl (Nat.le_of_ble_eq_true rfl) ew_1012 ew_1014 ew_25 (ci := 6) rfl (by decide) (cShC_24 hsH5).1 (cShC_24 hsH5).2.1 ?_
        obtain ⟨e7, E⟩ := gd_some E
        obtain ⟨f8, E⟩ := gd_some E
        obtain ⟨H9, eH9, E⟩ := let_some E
        refine ea_deref1 e7 ?_
        refine ea_putI (pc := 52) dX6_readAfter_52 ec_0 (k := 3) (Nat.le_of_ble_eq_true rfl) rfl (Or.inl ⟨rfl, Or.inl ew_345⟩) rfl rfl f8.1 f8.2 ?_
        refine ea_nm eH9 ?_
        have hsH9 : ShC H9 := by rw [eH9]; exact hsw6
        obtain ⟨w10, Ew10, E⟩ := bd_some E
        have hsw10 : ShC w10.2 := ShC_core ((kpX6_step _) _ Ew10) hsH9
        refine ea_aload_n (pc := 55) dX6_readAfter_55 rfl 0 rfl ?_
        refine ea_callV (pc := 56) (d' := d - 1) (As := []) (st := []) dX6_readAfter_56 kX6_step (sX6_step (d := d - 1) (by omega) hsH9 Ew10) (by omega) rfl (Nat.le_of_ble_eq_true rfl) ew_996 ew_998 ew_21 (ci := 6) rfl (by decide) (cShC_24 hsH9).1 (cShC_24 hsH9).2.1 ?_
        refine ea_iconst (pc := 59) dX6_readAfter_59 (v := 1) rfl ?_
        exact ea_iretO (pc := 60) dX6_readAfter_60 rfl (ea_bn (Or.inr rfl)) E
      · have E := (if_neg c13).symm.trans E
        obtain ⟨w11, Ew11, E⟩ := bd_some E
        have hsw11 : ShC w11.2 := ShC_core ((kpX6_refuse _ _) _ Ew11) hsw2
        refine ea_aload_n (pc := 36) dX6_readAfter_36 rfl 0 rfl ?_
        refine ea_iconst (pc := 37) dX6_readAfter_37 (v := 2) rfl ?_
        refine ea_callV (pc := 38) (d' := d - 1) (As := [vI 2]) (st := []) dX6_readAfter_38 kX6_refuse (sX6_refuse (d := d - 1) (by omega) hsw2 Ew11) (by omega) rfl (Nat.le_of_ble_eq_true rfl) ew_988 ew_990 ew_19 (ci := 6) rfl (by decide) (cShC_24 hsw2).1 (cShC_24 hsw2).2.1 ?_
        obtain ⟨z12, E⟩ := gd_some E
        exact ea_iretO (pc := 41) dX6_readAfter_41 rfl (ea_bn z12) E
    · have E := (if_neg c16).symm.trans E
      obtain ⟨w14, Ew14, E⟩ := bd_some E
      have hsw14 : ShC w14.2 := ShC_core ((kpX6_refuse _ _) _ Ew14) hsw1
      refine ea_aload_n (pc := 20) dX6_readAfter_20 rfl 0 rfl ?_
      refine ea_iconst (pc := 21) dX6_readAfter_21 (v := 1) rfl ?_
      refine ea_callV (pc := 22) (d' := d - 1) (As := [vI 1]) (st := []) dX6_readAfter_22 kX6_refuse (sX6_refuse (d := d - 1) (by omega) hsw1 Ew14) (by omega) rfl (Nat.le_of_ble_eq_true rfl) ew_988 ew_990 ew_19 (ci := 6) rfl (by decide) (cShC_24 hsw1).1 (cShC_24 hsw1).2.1 ?_
      obtain ⟨z15, E⟩ := gd_some E
      exact ea_iretO (pc := 25) dX6_readAfter_25 rfl (ea_bn z15) E
  · have E := (if_pos c17).symm.trans E
    refine ea_iconst (pc := 9) dX6_readAfter_9 (v := 0) rfl ?_
    exact ea_iretO (pc := 10) dX6_readAfter_10 rfl (ea_bn (Or.inl rfl)) E
theorem kBX6_readAfter_0  {r1 : Option Nat} {x2 : Int32} {h : ea_H} : kp (ea_core h) (BX6_readAfter_0 r1 x2 h) :=
  (kp_bind (kp_tw (kpX6_skip _ _) rfl) fun w1 hcw1 => (kp_ite (kp_ret hcw1) (kp_ite (kp_bind (kp_tw (kpX6_value _) hcw1) fun w2 hcw2 => (kp_ite (kp_gd (kp_gd (kp_let (kp_bind (kp_tw (kpX6_value _) hcw2) fun w6 hcw6 => (kp_gd (kp_gd (kp_let (kp_bind (kp_tw (kpX6_step _) hcw6) fun w10 hcw10 => (kp_ret hcw10))))))))) (kp_bind (kp_tw (kpX6_refuse _ _) hcw2) fun w11 hcw11 => (kp_gd (kp_ret hcw11))))) (kp_bind (kp_tw (kpX6_refuse _ _) hcw1) fun w14 hcw14 => (kp_gd (kp_ret hcw14))))))
noncomputable def qX6_readAfter (r1 : Option Nat) (x2 : Int32) (h : ea_H) : Option (Int32 × ea_H) := BX6_readAfter_0 r1 x2 h
theorem sX6_readAfter {d : Nat} {r1 : Option Nat} {x2 : Int32} {h : ea_H} {r : Int32} {h' : ea_H} (hd : 3 ≤ d) (hs : ShC h) (K : qX6_readAfter r1 x2 h = some (r, h')) : ea_Met mX6_readAfter d [vR (some 24), vR r1, vI x2] h (some (vI r)) h' := by
  unfold qX6_readAfter at K
  have W := tBX6_readAfter_0 hd (h0 := h) K hs
  exact ea_enter rfl (Nat.le_of_ble_eq_true rfl) W
theorem kpX6_readAfter (r1 : Option Nat) (x2 : Int32) (h : ea_H) : kp (ea_core h) (qX6_readAfter r1 x2 h) := kBX6_readAfter_0
noncomputable def BX6_scan_0 (J7 : Int32 → ea_H → Option (Unit × ea_H)) (h : ea_H) : Option (Unit × ea_H) :=
  (ea_let (ea_wi h 24 5 0) fun H1 => (J7 (0 : Int32) H1))
theorem tBX6_scan_0 {d : Nat} {h0 : ea_H} (hd : 3 ≤ d) {J7 : Int32 → ea_H → Option (Unit × ea_H)}  (kJ7 : ∀ (x1 : Int32) (h : ea_H) (r : Unit) (h' : ea_H), J7 x1 h = some (r, h') → ShC h → ea_W mX6_scan d h0 none h' 7 [(0, vR (some 24)), (1, vI x1)] [] h) {h : ea_H} {r : Unit} {h' : ea_H} (E : BX6_scan_0 J7 h = some (r, h')) (hs : ShC h) : ea_W mX6_scan d h0 none h' 0 [(0, vR (some 24))] [] h := by
  unfold BX6_scan_0 at E
  obtain ⟨H1, eH1, E⟩ := let_some E
  refine ea_aload_n (pc := 0) dX6_scan_0 rfl 0 rfl ?_
  refine ea_iconst (pc := 1) dX6_scan_1 (v := 0) rfl ?_
  refine ea_putI (pc := 2) dX6_scan_2 ec_6 (k := 5) (Nat.le_of_ble_eq_true rfl) rfl (Or.inl ⟨rfl, Or.inl ew_302⟩) rfl rfl (cShC_24 hs).1 (cShC_24 hs).2.1 ?_
  refine ea_nm eH1 ?_
  have hsH1 : ShC H1 := by rw [eH1]; exact hs
  refine ea_iconst (pc := 5) dX6_scan_5 (v := 0) rfl ?_
  refine ea_istore_n (pc := 6) (lv' := [(0, vR (some 24)), (1, vI 0)]) dX6_scan_6 rfl (Nat.le_of_ble_eq_true rfl) [1, 0] rfl ?_
  exact (kJ7 (0 : Int32) H1 _ _ E hsH1)
theorem kBX6_scan_0 {J7 : Int32 → ea_H → Option (Unit × ea_H)}  (cJ7 : ∀ (x1 : Int32) (h : ea_H), kp (ea_core h) (J7 x1 h)) {h : ea_H} : kp (ea_core h) (BX6_scan_0 J7 h) :=
  (kp_let (kp_tw (cJ7 _ _) rfl))
theorem lBX6_scan_0 {J7 : Int32 → ea_H → Option (Unit × ea_H)} {J7_ : Int32 → ea_H → Option (Unit × ea_H)}  (mJ7 : ∀ (x1 : Int32) (h : ea_H), fle (J7 x1 h) (J7_ x1 h)) {h : ea_H} : fle (BX6_scan_0 J7 h) (BX6_scan_0 J7_ h) :=
  (fle_let fun _ => (mJ7 _ _))
theorem nBX6_scan_0 {J7 : Int32 → ea_H → Option (Unit × ea_H)} {J7_ : Nat → (Int32 → ea_H → Option (Unit × ea_H))}  (mJ7 : ∀ (x1 : Int32) (h : ea_H), fct (J7 x1 h) (fun f => J7_ f x1 h)) {h : ea_H} : fct (BX6_scan_0 J7 h) (fun f => BX6_scan_0 (J7_ f) h) :=
  (fct_let fun _ => (mJ7 _ _))
noncomputable def BX6_scan_7 (J7 : Int32 → ea_H → Option (Unit × ea_H)) (x1 : Int32) (h : ea_H) : Option (Unit × ea_H) :=
  (if (ea_i h 24 0) ≤ x1 then (Option.bind (qX6_addToken (19 : Int32) ((ea_i h 24 0) : Int32) (0 : Int32) h) fun w2 => (some ((), w2.2))) else (gd (vp_in x1 600) (ea_let (ea_i h 25 (Int32.toNatClampNeg x1)) fun (v4 : Int32) => (Option.bind (qX6_isLetter (v4 : Int32) h) fun w5 => (if w5.1 = (0 : Int32) then (Option.bind (qX6_isDigit (v4 : Int32) w5.2) fun w6 => (if w6.1 = (0 : Int32) then (if v4 = (32 : Int32) then (J7 ((x1 + (1 : Int32)) : Int32) w6.2) else (if v4 = (10 : Int32) then (J7 ((x1 + (1 : Int32)) : Int32) w6.2) else (Option.bind (qX6_isSign (v4 : Int32) w6.2) fun w7 => (if w7.1 = (0 : Int32) then (Option.bind (qX6_addToken (20 : Int32) (x1 : Int32) (0 : Int32) w7.2) fun w8 => (J7 ((x1 + (1 : Int32)) : Int32) w8.2)) else (Option.bind (qX6_addToken (v4 : Int32) (x1 : Int32) (0 : Int32) w7.2) fun w9 => (J7 ((x1 + (1 : Int32)) : Int32) w9.2)))))) else (if x1 = (0 : Int32) then (Option.bind (qX6_scanNumber (x1 : Int32) w6.2) fun w13 => (J7 ((x1 + (1 : Int32)) : Int32) w13.2)) else (gd (vp_in (x1 - (1 : Int32)) 600) (Option.bind (qX6_isDigit ((ea_i w6.2 25 (Int32.toNatClampNeg (x1 - (1 : Int32)))) : Int32) w6.2) fun w15 => (if w15.1 = (0 : Int32) then (Option.bind (qX6_scanNumber (x1 : Int32) w15.2) fun w16 => (J7 ((x1 + (1 : Int32)) : Int32) w16.2)) else (J7 ((x1 + (1 : Int32)) : Int32) w15.2))))))) else (if x1 = (0 : Int32) then (Option.bind (qX6_scanWord (x1 : Int32) w5.2) fun w20 => (J7 ((x1 + (1 : Int32)) : Int32) w20.2)) else (gd (vp_in (x1 - (1 : Int32)) 600) (Option.bind (qX6_isLetter ((ea_i w5.2 25 (Int32.toNatClampNeg (x1 - (1 : Int32)))) : Int32) w5.2) fun w22 => (if w22.1 = (0 : Int32) then (Option.bind (qX6_scanWord (x1 : Int32) w22.2) fun w23 => (J7 ((x1 + (1 : Int32)) : Int32) w23.2)) else (J7 ((x1 + (1 : Int32)) : Int32) w22.2))))))))))
theorem tBX6_scan_7 {d : Nat} {h0 : ea_H} (hd : 3 ≤ d) {J7 : Int32 → ea_H → Option (Unit × ea_H)}  (kJ7 : ∀ (x1 : Int32) (h : ea_H) (r : Unit) (h' : ea_H), J7 x1 h = some (r, h') → ShC h → ea_W mX6_scan d h0 none h' 7 [(0, vR (some 24)), (1, vI x1)] [] h) {x1 : Int32} {h : ea_H} {r : Unit} {h' : ea_H} (E : BX6_scan_7 J7 x1 h = some (r, h')) (hs : ShC h) : ea_W mX6_scan d h0 none h' 7 [(0, vR (some 24)), (1, vI x1)] [] h := by
  unfold BX6_scan_7 at E
  refine ea_iload_n (pc := 7) dX6_scan_7 rfl 1 rfl ?_
  refine ea_aload_n (pc := 8) dX6_scan_8 rfl 0 rfl ?_
  refine ea_getI (pc := 9) dX6_scan_9 ec_6 (k := 0) (Nat.le_of_ble_eq_true rfl) rfl (Or.inl ew_294) (cShC_24 hs).1 (cShC_24 hs).2.1 ?_
  refine ea_icmp_ge (pc := 12) (tgt := 125) dX6_scan_12 rfl (fun c27 => ?_) (fun c27 => ?_)
  · have E := (if_pos c27).symm.trans E
    obtain ⟨w2, Ew2, E⟩ := bd_some E
    have hsw2 : ShC w2.2 := ShC_core ((kpX6_addToken _ _ _ _) _ Ew2) hs
    refine ea_aload_n (pc := 125) dX6_scan_125 rfl 0 rfl ?_
    refine ea_bipush (pc := 126) dX6_scan_126 (v := 19) rfl ?_
    refine ea_aload_n (pc := 128) dX6_scan_128 rfl 0 rfl ?_
    refine ea_getI (pc := 129) dX6_scan_129 ec_6 (k := 0) (Nat.le_of_ble_eq_true rfl) rfl (Or.inl ew_294) (cShC_24 hs).1 (cShC_24 hs).2.1 ?_
    refine ea_iconst (pc := 132) dX6_scan_132 (v := 0) rfl ?_
    refine ea_callV (pc := 133) (d' := d - 1) (As := [vI 19, vI (ea_i h 24 0), vI 0]) (st := []) dX6_scan_133 kX6_addToken (sX6_addToken (d := d - 1) (by omega) hs Ew2) (by omega) rfl (Nat.le_of_ble_eq_true rfl) ew_970 ew_972 ew_17 (ci := 6) rfl (by decide) (cShC_24 hs).1 (cShC_24 hs).2.1 ?_
    exact ea_vretO (pc := 136) dX6_scan_136 rfl E
  · have E := (if_neg c27).symm.trans E
    obtain ⟨z3, E⟩ := gd_some E
    refine ea_aload_n (pc := 15) dX6_scan_15 rfl 0 rfl ?_
    refine ea_getR (pc := 16) dX6_scan_16 ec_6 (k := 3) (Nat.le_of_ble_eq_true rfl) rfl (Or.inl ew_300) (cShC_24 hs).1 (cShC_24 hs).2.1 (rShC_24_3 hs) ?_
    refine ea_iload_n (pc := 19) dX6_scan_19 rfl 1 rfl ?_
    obtain ⟨v4, ev4, E⟩ := let_some E
    refine ea_iald (pc := 20) dX6_scan_20 (cShC_25 hs).1 (cShC_25 hs).2.1 (ea_vpl (cShC_25 hs).2.2 z3) ?_
    obtain ⟨w5, Ew5, E⟩ := bd_some E
    have hsw5 : ShC w5.2 := ShC_core ((kpX6_isLetter _ _) _ Ew5) hs
    refine ea_istore_n (pc := 21) (lv' := [(0, vR (some 24)), (1, vI x1), (2, vI v4)]) dX6_scan_21 rfl (Nat.le_of_ble_eq_true rfl) [1, 2, 0] (by rw [ev4]; rfl) ?_
    refine ea_iload_n (pc := 22) dX6_scan_22 rfl 2 rfl ?_
    refine ea_callS (pc := 23) (d' := d - 1) (As := [vI v4]) (st := []) dX6_scan_23 kX6_isLetter (sX6_isLetter (d := d - 1) (by omega) Ew5) (by omega) rfl (Nat.le_of_ble_eq_true rfl) ew_960 ew_961 ?_
    refine ea_if_eq (pc := 26) (tgt := 55) dX6_scan_26 rfl (fun c26 => ?_) (fun c26 => ?_)
    · have E := (if_pos c26).symm.trans E
      obtain ⟨w6, Ew6, E⟩ := bd_some E
      have hsw6 : ShC w6.2 := ShC_core ((kpX6_isDigit _ _) _ Ew6) hsw5
      refine ea_iload_n (pc := 55) dX6_scan_55 rfl 2 rfl ?_
      refine ea_callS (pc := 56) (d' := d - 1) (As := [vI v4]) (st := []) dX6_scan_56 kX6_isDigit (sX6_isDigit (d := d - 1) (by omega) Ew6) (by omega) rfl (Nat.le_of_ble_eq_true rfl) ew_974 ew_975 ?_
      refine ea_if_eq (pc := 59) (tgt := 88) dX6_scan_59 rfl (fun c19 => ?_) (fun c19 => ?_)
      · have E := (if_pos c19).symm.trans E
        refine ea_iload_n (pc := 88) dX6_scan_88 rfl 2 rfl ?_
        refine ea_bipush (pc := 89) dX6_scan_89 (v := 32) rfl ?_
        refine ea_icmp_eq (pc := 91) (tgt := 119) dX6_scan_91 rfl (fun c12 => ?_) (fun c12 => ?_)
        · have E := (if_pos c12).symm.trans E
          refine ea_iinc (pc := 119) (v := 1) (lv' := [(0, vR (some 24)), (1, vI (x1 + (1 : Int32)))]) dX6_scan_119 1 rfl rfl (Nat.le_of_ble_eq_true rfl) [1, 0] rfl ?_
          refine ea_goto (pc := 122) (tgt := 7) dX6_scan_122 rfl ?_
          exact (kJ7 ((x1 + (1 : Int32)) : Int32) w6.2 _ _ E hsw6)
        · have E := (if_neg c12).symm.trans E
          refine ea_iload_n (pc := 94) dX6_scan_94 rfl 2 rfl ?_
          refine ea_bipush (pc := 95) dX6_scan_95 (v := 10) rfl ?_
          refine ea_icmp_eq (pc := 97) (tgt := 119) dX6_scan_97 rfl (fun c11 => ?_) (fun c11 => ?_)
          · have E := (if_pos c11).symm.trans E
            refine ea_iinc (pc := 119) (v := 1) (lv' := [(0, vR (some 24)), (1, vI (x1 + (1 : Int32)))]) dX6_scan_119 1 rfl rfl (Nat.le_of_ble_eq_true rfl) [1, 0] rfl ?_
            refine ea_goto (pc := 122) (tgt := 7) dX6_scan_122 rfl ?_
            exact (kJ7 ((x1 + (1 : Int32)) : Int32) w6.2 _ _ E hsw6)
          · have E := (if_neg c11).symm.trans E
            obtain ⟨w7, Ew7, E⟩ := bd_some E
            have hsw7 : ShC w7.2 := ShC_core ((kpX6_isSign _ _) _ Ew7) hsw6
            refine ea_aload_n (pc := 100) dX6_scan_100 rfl 0 rfl ?_
            refine ea_iload_n (pc := 101) dX6_scan_101 rfl 2 rfl ?_
            refine ea_callS (pc := 102) (d' := d - 1) (As := [vI v4]) (st := [vR (some 24)]) dX6_scan_102 kX6_isSign (sX6_isSign (d := d - 1) (by omega) Ew7) (by omega) rfl (Nat.le_of_ble_eq_true rfl) ew_984 ew_985 ?_
            refine ea_if_eq (pc := 105) (tgt := 112) dX6_scan_105 rfl (fun c10 => ?_) (fun c10 => ?_)
            · have E := (if_pos c10).symm.trans E
              obtain ⟨w8, Ew8, E⟩ := bd_some E
              have hsw8 : ShC w8.2 := ShC_core ((kpX6_addToken _ _ _ _) _ Ew8) hsw7
              refine ea_bipush (pc := 112) dX6_scan_112 (v := 20) rfl ?_
              refine ea_iload_n (pc := 114) dX6_scan_114 rfl 1 rfl ?_
              refine ea_iconst (pc := 115) dX6_scan_115 (v := 0) rfl ?_
              refine ea_callV (pc := 116) (d' := d - 1) (As := [vI 20, vI x1, vI 0]) (st := []) dX6_scan_116 kX6_addToken (sX6_addToken (d := d - 1) (by omega) hsw7 Ew8) (by omega) rfl (Nat.le_of_ble_eq_true rfl) ew_970 ew_972 ew_17 (ci := 6) rfl (by decide) (cShC_24 hsw7).1 (cShC_24 hsw7).2.1 ?_
              refine ea_iinc (pc := 119) (v := 1) (lv' := [(0, vR (some 24)), (1, vI (x1 + (1 : Int32)))]) dX6_scan_119 1 rfl rfl (Nat.le_of_ble_eq_true rfl) [1, 0] rfl ?_
              refine ea_goto (pc := 122) (tgt := 7) dX6_scan_122 rfl ?_
              exact (kJ7 ((x1 + (1 : Int32)) : Int32) w8.2 _ _ E hsw8)
            · have E := (if_neg c10).symm.trans E
              obtain ⟨w9, Ew9, E⟩ := bd_some E
              have hsw9 : ShC w9.2 := ShC_core ((kpX6_addToken _ _ _ _) _ Ew9) hsw7
              refine ea_iload_n (pc := 108) dX6_scan_108 rfl 2 rfl ?_
              refine ea_goto (pc := 109) (tgt := 114) dX6_scan_109 rfl ?_
              refine ea_iload_n (pc := 114) dX6_scan_114 rfl 1 rfl ?_
              refine ea_iconst (pc := 115) dX6_scan_115 (v := 0) rfl ?_
              refine ea_callV (pc := 116) (d' := d - 1) (As := [vI v4, vI x1, vI 0]) (st := []) dX6_scan_116 kX6_addToken (sX6_addToken (d := d - 1) (by omega) hsw7 Ew9) (by omega) rfl (Nat.le_of_ble_eq_true rfl) ew_970 ew_972 ew_17 (ci := 6) rfl (by decide) (cShC_24 hsw7).1 (cShC_24 hsw7).2.1 ?_
              refine ea_iinc (pc := 119) (v := 1) (lv' := [(0, vR (some 24)), (1, vI (x1 + (1 : Int32)))]) dX6_scan_119 1 rfl rfl (Nat.le_of_ble_eq_true rfl) [1, 0] rfl ?_
              refine ea_goto (pc := 122) (tgt := 7) dX6_scan_122 rfl ?_
              exact (kJ7 ((x1 + (1 : Int32)) : Int32) w9.2 _ _ E hsw9)
      · have E := (if_neg c19).symm.trans E
        refine ea_iload_n (pc := 62) dX6_scan_62 rfl 1 rfl ?_
        refine ea_if_eq (pc := 63) (tgt := 80) dX6_scan_63 rfl (fun c18 => ?_) (fun c18 => ?_)
        · have E := (if_pos c18).symm.trans E
          obtain ⟨w13, Ew13, E⟩ := bd_some E
          have hsw13 : ShC w13.2 := ShC_core ((kpX6_scanNumber _ _) _ Ew13) hsw6
          refine ea_aload_n (pc := 80) dX6_scan_80 rfl 0 rfl ?_
          refine ea_iload_n (pc := 81) dX6_scan_81 rfl 1 rfl ?_
          refine ea_callV (pc := 82) (d' := d - 1) (As := [vI x1]) (st := []) dX6_scan_82 kX6_scanNumber (sX6_scanNumber (d := d - 1) (by omega) hsw6 Ew13) (by omega) rfl (Nat.le_of_ble_eq_true rfl) ew_977 ew_979 ew_18 (ci := 6) rfl (by decide) (cShC_24 hsw6).1 (cShC_24 hsw6).2.1 ?_
          refine ea_goto (pc := 85) (tgt := 119) dX6_scan_85 rfl ?_
          refine ea_iinc (pc := 119) (v := 1) (lv' := [(0, vR (some 24)), (1, vI (x1 + (1 : Int32)))]) dX6_scan_119 1 rfl rfl (Nat.le_of_ble_eq_true rfl) [1, 0] rfl ?_
          refine ea_goto (pc := 122) (tgt := 7) dX6_scan_122 rfl ?_
          exact (kJ7 ((x1 + (1 : Int32)) : Int32) w13.2 _ _ E hsw13)
        · have E := (if_neg c18).symm.trans E
          obtain ⟨z14, E⟩ := gd_some E
          refine ea_aload_n (pc := 66) dX6_scan_66 rfl 0 rfl ?_
          refine ea_getR (pc := 67) dX6_scan_67 ec_6 (k := 3) (Nat.le_of_ble_eq_true rfl) rfl (Or.inl ew_300) (cShC_24 hsw6).1 (cShC_24 hsw6).2.1 (rShC_24_3 hsw6) ?_
          refine ea_iload_n (pc := 70) dX6_scan_70 rfl 1 rfl ?_
          refine ea_iconst (pc := 71) dX6_scan_71 (v := 1) rfl ?_
          refine ea_isub (pc := 72) dX6_scan_72 ?_
          obtain ⟨w15, Ew15, E⟩ := bd_some E
          have hsw15 : ShC w15.2 := ShC_core ((kpX6_isDigit _ _) _ Ew15) hsw6
          refine ea_iald (pc := 73) dX6_scan_73 (cShC_25 hsw6).1 (cShC_25 hsw6).2.1 (ea_vpl (cShC_25 hsw6).2.2 z14) ?_
          refine ea_callS (pc := 74) (d' := d - 1) (As := [vI (ea_i w6.2 25 (Int32.toNatClampNeg (x1 - (1 : Int32))))]) (st := []) dX6_scan_74 kX6_isDigit (sX6_isDigit (d := d - 1) (by omega) Ew15) (by omega) rfl (Nat.le_of_ble_eq_true rfl) ew_974 ew_975 ?_
          refine ea_if_ne (pc := 77) (tgt := 119) dX6_scan_77 rfl (fun c17 => ?_) (fun c17 => ?_)
          · have E := (if_neg c17).symm.trans E
            refine ea_iinc (pc := 119) (v := 1) (lv' := [(0, vR (some 24)), (1, vI (x1 + (1 : Int32)))]) dX6_scan_119 1 rfl rfl (Nat.le_of_ble_eq_true rfl) [1, 0] rfl ?_
            refine ea_goto (pc := 122) (tgt := 7) dX6_scan_122 rfl ?_
            exact (kJ7 ((x1 + (1 : Int32)) : Int32) w15.2 _ _ E hsw15)
          · have E := (if_pos c17).symm.trans E
            obtain ⟨w16, Ew16, E⟩ := bd_some E
            have hsw16 : ShC w16.2 := ShC_core ((kpX6_scanNumber _ _) _ Ew16) hsw15
            refine ea_aload_n (pc := 80) dX6_scan_80 rfl 0 rfl ?_
            refine ea_iload_n (pc := 81) dX6_scan_81 rfl 1 rfl ?_
            refine ea_callV (pc := 82) (d' := d - 1) (As := [vI x1]) (st := []) dX6_scan_82 kX6_scanNumber (sX6_scanNumber (d := d - 1) (by omega) hsw15 Ew16) (by omega) rfl (Nat.le_of_ble_eq_true rfl) ew_977 ew_979 ew_18 (ci := 6) rfl (by decide) (cShC_24 hsw15).1 (cShC_24 hsw15).2.1 ?_
            refine ea_goto (pc := 85) (tgt := 119) dX6_scan_85 rfl ?_
            refine ea_iinc (pc := 119) (v := 1) (lv' := [(0, vR (some 24)), (1, vI (x1 + (1 : Int32)))]) dX6_scan_119 1 rfl rfl (Nat.le_of_ble_eq_true rfl) [1, 0] rfl ?_
            refine ea_goto (pc := 122) (tgt := 7) dX6_scan_122 rfl ?_
            exact (kJ7 ((x1 + (1 : Int32)) : Int32) w16.2 _ _ E hsw16)
    · have E := (if_neg c26).symm.trans E
      refine ea_iload_n (pc := 29) dX6_scan_29 rfl 1 rfl ?_
      refine ea_if_eq (pc := 30) (tgt := 47) dX6_scan_30 rfl (fun c25 => ?_) (fun c25 => ?_)
      · have E := (if_pos c25).symm.trans E
        obtain ⟨w20, Ew20, E⟩ := bd_some E
        have hsw20 : ShC w20.2 := ShC_core ((kpX6_scanWord _ _) _ Ew20) hsw5
        refine ea_aload_n (pc := 47) dX6_scan_47 rfl 0 rfl ?_
        refine ea_iload_n (pc := 48) dX6_scan_48 rfl 1 rfl ?_
        refine ea_callV (pc := 49) (d' := d - 1) (As := [vI x1]) (st := []) dX6_scan_49 kX6_scanWord (sX6_scanWord (d := d - 1) (by omega) hsw5 Ew20) (by omega) rfl (Nat.le_of_ble_eq_true rfl) ew_963 ew_965 ew_16 (ci := 6) rfl (by decide) (cShC_24 hsw5).1 (cShC_24 hsw5).2.1 ?_
        refine ea_goto (pc := 52) (tgt := 119) dX6_scan_52 rfl ?_
        refine ea_iinc (pc := 119) (v := 1) (lv' := [(0, vR (some 24)), (1, vI (x1 + (1 : Int32)))]) dX6_scan_119 1 rfl rfl (Nat.le_of_ble_eq_true rfl) [1, 0] rfl ?_
        refine ea_goto (pc := 122) (tgt := 7) dX6_scan_122 rfl ?_
        exact (kJ7 ((x1 + (1 : Int32)) : Int32) w20.2 _ _ E hsw20)
      · have E := (if_neg c25).symm.trans E
        obtain ⟨z21, E⟩ := gd_some E
        refine ea_aload_n (pc := 33) dX6_scan_33 rfl 0 rfl ?_
        refine ea_getR (pc := 34) dX6_scan_34 ec_6 (k := 3) (Nat.le_of_ble_eq_true rfl) rfl (Or.inl ew_300) (cShC_24 hsw5).1 (cShC_24 hsw5).2.1 (rShC_24_3 hsw5) ?_
        refine ea_iload_n (pc := 37) dX6_scan_37 rfl 1 rfl ?_
        refine ea_iconst (pc := 38) dX6_scan_38 (v := 1) rfl ?_
        refine ea_isub (pc := 39) dX6_scan_39 ?_
        obtain ⟨w22, Ew22, E⟩ := bd_some E
        have hsw22 : ShC w22.2 := ShC_core ((kpX6_isLetter _ _) _ Ew22) hsw5
        refine ea_iald (pc := 40) dX6_scan_40 (cShC_25 hsw5).1 (cShC_25 hsw5).2.1 (ea_vpl (cShC_25 hsw5).2.2 z21) ?_
        refine ea_callS (pc := 41) (d' := d - 1) (As := [vI (ea_i w5.2 25 (Int32.toNatClampNeg (x1 - (1 : Int32))))]) (st := []) dX6_scan_41 kX6_isLetter (sX6_isLetter (d := d - 1) (by omega) Ew22) (by omega) rfl (Nat.le_of_ble_eq_true rfl) ew_960 ew_961 ?_
        refine ea_if_ne (pc := 44) (tgt := 119) dX6_scan_44 rfl (fun c24 => ?_) (fun c24 => ?_)
        · have E := (if_neg c24).symm.trans E
          refine ea_iinc (pc := 119) (v := 1) (lv' := [(0, vR (some 24)), (1, vI (x1 + (1 : Int32)))]) dX6_scan_119 1 rfl rfl (Nat.le_of_ble_eq_true rfl) [1, 0] rfl ?_
          refine ea_goto (pc := 122) (tgt := 7) dX6_scan_122 rfl ?_
          exact (kJ7 ((x1 + (1 : Int32)) : Int32) w22.2 _ _ E hsw22)
        · have E := (if_pos c24).symm.trans E
          obtain ⟨w23, Ew23, E⟩ := bd_some E
          have hsw23 : ShC w23.2 := ShC_core ((kpX6_scanWord _ _) _ Ew23) hsw22
          refine ea_aload_n (pc := 47) dX6_scan_47 rfl 0 rfl ?_
          refine ea_iload_n (pc := 48) dX6_scan_48 rfl 1 rfl ?_
          refine ea_callV (pc := 49) (d' := d - 1) (As := [vI x1]) (st := []) dX6_scan_49 kX6_scanWord (sX6_scanWord (d := d - 1) (by omega) hsw22 Ew23) (by omega) rfl (Nat.le_of_ble_eq_true rfl) ew_963 ew_965 ew_16 (ci := 6) rfl (by decide) (cShC_24 hsw22).1 (cShC_24 hsw22).2.1 ?_
          refine ea_goto (pc := 52) (tgt := 119) dX6_scan_52 rfl ?_
          refine ea_iinc (pc := 119) (v := 1) (lv' := [(0, vR (some 24)), (1, vI (x1 + (1 : Int32)))]) dX6_scan_119 1 rfl rfl (Nat.le_of_ble_eq_true rfl) [1, 0] rfl ?_
          refine ea_goto (pc := 122) (tgt := 7) dX6_scan_122 rfl ?_
          exact (kJ7 ((x1 + (1 : Int32)) : Int32) w23.2 _ _ E hsw23)
theorem kBX6_scan_7 {J7 : Int32 → ea_H → Option (Unit × ea_H)}  (cJ7 : ∀ (x1 : Int32) (h : ea_H), kp (ea_core h) (J7 x1 h)) {x1 : Int32} {h : ea_H} : kp (ea_core h) (BX6_scan_7 J7 x1 h) :=
  (kp_ite (kp_bind (kp_tw (kpX6_addToken _ _ _ _) rfl) fun w2 hcw2 => (kp_ret hcw2)) (kp_gd (kp_let (kp_bind (kp_tw (kpX6_isLetter _ _) rfl) fun w5 hcw5 => (kp_ite (kp_bind (kp_tw (kpX6_isDigit _ _) hcw5) fun w6 hcw6 => (kp_ite (kp_ite (kp_tw (cJ7 _ _) hcw6) (kp_ite (kp_tw (cJ7 _ _) hcw6) (kp_bind (kp_tw (kpX6_isSign _ _) hcw6) fun w7 hcw7 => (kp_ite (kp_bind (kp_tw (kpX6_addToken _ _ _ _) hcw7) fun w8 hcw8 => (kp_tw (cJ7 _ _) hcw8)) (kp_bind (kp_tw (kpX6_addToken _ _ _ _) hcw7) fun w9 hcw9 => (kp_tw (cJ7 _ _) hcw9)))))) (kp_ite (kp_bind (kp_tw (kpX6_scanNumber _ _) hcw6) fun w13 hcw13 => (kp_tw (cJ7 _ _) hcw13)) (kp_gd (kp_bind (kp_tw (kpX6_isDigit _ _) hcw6) fun w15 hcw15 => (kp_ite (kp_bind (kp_tw (kpX6_scanNumber _ _) hcw15) fun w16 hcw16 => (kp_tw (cJ7 _ _) hcw16)) (kp_tw (cJ7 _ _) hcw15))))))) (kp_ite (kp_bind (kp_tw (kpX6_scanWord _ _) hcw5) fun w20 hcw20 => (kp_tw (cJ7 _ _) hcw20)) (kp_gd (kp_bind (kp_tw (kpX6_isLetter _ _) hcw5) fun w22 hcw22 => (kp_ite (kp_bind (kp_tw (kpX6_scanWord _ _) hcw22) fun w23 hcw23 => (kp_tw (cJ7 _ _) hcw23)) (kp_tw (cJ7 _ _) hcw22))))))))))
theorem lBX6_scan_7 {J7 : Int32 → ea_H → Option (Unit × ea_H)} {J7_ : Int32 → ea_H → Option (Unit × ea_H)}  (mJ7 : ∀ (x1 : Int32) (h : ea_H), fle (J7 x1 h) (J7_ x1 h)) {x1 : Int32} {h : ea_H} : fle (BX6_scan_7 J7 x1 h) (BX6_scan_7 J7_ x1 h) :=
  (fle_ite (fle_rfl _) (fle_gd (fle_let fun _ => (fle_bind (fle_rfl _) fun _ => (fle_ite (fle_bind (fle_rfl _) fun _ => (fle_ite (fle_ite (mJ7 _ _) (fle_ite (mJ7 _ _) (fle_bind (fle_rfl _) fun _ => (fle_ite (fle_bind (fle_rfl _) fun _ => (mJ7 _ _)) (fle_bind (fle_rfl _) fun _ => (mJ7 _ _)))))) (fle_ite (fle_bind (fle_rfl _) fun _ => (mJ7 _ _)) (fle_gd (fle_bind (fle_rfl _) fun _ => (fle_ite (fle_bind (fle_rfl _) fun _ => (mJ7 _ _)) (mJ7 _ _))))))) (fle_ite (fle_bind (fle_rfl _) fun _ => (mJ7 _ _)) (fle_gd (fle_bind (fle_rfl _) fun _ => (fle_ite (fle_bind (fle_rfl _) fun _ => (mJ7 _ _)) (mJ7 _ _))))))))))
theorem nBX6_scan_7 {J7 : Int32 → ea_H → Option (Unit × ea_H)} {J7_ : Nat → (Int32 → ea_H → Option (Unit × ea_H))}  (mJ7 : ∀ (x1 : Int32) (h : ea_H), fct (J7 x1 h) (fun f => J7_ f x1 h)) {x1 : Int32} {h : ea_H} : fct (BX6_scan_7 J7 x1 h) (fun f => BX6_scan_7 (J7_ f) x1 h) :=
  (fct_ite (fct_rfl _) (fct_gd (fct_let fun _ => (fct_bind (fct_rfl _) fun _ => (fct_ite (fct_bind (fct_rfl _) fun _ => (fct_ite (fct_ite (mJ7 _ _) (fct_ite (mJ7 _ _) (fct_bind (fct_rfl _) fun _ => (fct_ite (fct_bind (fct_rfl _) fun _ => (mJ7 _ _)) (fct_bind (fct_rfl _) fun _ => (mJ7 _ _)))))) (fct_ite (fct_bind (fct_rfl _) fun _ => (mJ7 _ _)) (fct_gd (fct_bind (fct_rfl _) fun _ => (fct_ite (fct_bind (fct_rfl _) fun _ => (mJ7 _ _)) (mJ7 _ _))))))) (fct_ite (fct_bind (fct_rfl _) fun _ => (mJ7 _ _)) (fct_gd (fct_bind (fct_rfl _) fun _ => (fct_ite (fct_bind (fct_rfl _) fun _ => (mJ7 _ _)) (mJ7 _ _))))))))))
noncomputable def gX6_scan : Nat → (ea_H → Option (Unit × ea_H)) × (Int32 → ea_H → Option (Unit × ea_H))
  | 0 => (fun _ => none, fun _ _ => none)
  | f + 1 => (BX6_scan_0 (gX6_scan f).2, BX6_scan_7 (gX6_scan f).2)
theorem mgX6_scan : ∀ f : Nat, (∀ (h : ea_H), fle ((gX6_scan f).1 h) ((gX6_scan (f + 1)).1 h)) ∧ (∀ (x1 : Int32) (h : ea_H), fle ((gX6_scan f).2 x1 h) ((gX6_scan (f + 1)).2 x1 h)) := by
  intro f
  induction f with
  | zero => exact ⟨fun _ => fle_none _, fun _ _ => fle_none _⟩
  | succ f ih => exact ⟨fun _ => lBX6_scan_0 ih.2, fun _ _ => lBX6_scan_7 ih.2⟩
noncomputable def qX6_scan_0 (h : ea_H) : Option (Unit × ea_H) := flim fun f => (gX6_scan f).1 h
noncomputable def qX6_scan_7 (x1 : Int32) (h : ea_H) : Option (Unit × ea_H) := flim fun f => (gX6_scan f).2 x1 h
theorem fqX6_scan_0 (h : ea_H) : fct (qX6_scan_0 h) fun f => (gX6_scan f).1 h := flim_ct fun f => (mgX6_scan f).1 h
theorem fqX6_scan_7 (x1 : Int32) (h : ea_H) : fct (qX6_scan_7 x1 h) fun f => (gX6_scan f).2 x1 h := flim_ct fun f => (mgX6_scan f).2 x1 h
/-- how a block opens -/
theorem uqX6_scan_0 {h : ea_H} {P : Unit × ea_H → Prop} (H : sat (BX6_scan_0 qX6_scan_7 h) P) : sat (qX6_scan_0 h) P := by
  obtain ⟨x, e, hp⟩ := H
  obtain ⟨n, hn⟩ := nBX6_scan_0 fqX6_scan_7 x e
  exact ⟨x, flim_at (fun f => (mgX6_scan f).1 h) (f := n + 1) (hn n (Nat.le_refl _)), hp⟩
/-- how a block opens -/
theorem uqX6_scan_7 {x1 : Int32} {h : ea_H} {P : Unit × ea_H → Prop} (H : sat (BX6_scan_7 qX6_scan_7 x1 h) P) : sat (qX6_scan_7 x1 h) P := by
  obtain ⟨x, e, hp⟩ := H
  obtain ⟨n, hn⟩ := nBX6_scan_7 fqX6_scan_7 x e
  exact ⟨x, flim_at (fun f => (mgX6_scan f).2 x1 h) (f := n + 1) (hn n (Nat.le_refl _)), hp⟩
theorem kgX6_scan : ∀ f : Nat, (∀ (h : ea_H), kp (ea_core h) ((gX6_scan f).1 h)) ∧ (∀ (x1 : Int32) (h : ea_H), kp (ea_core h) ((gX6_scan f).2 x1 h)) := by
  intro f
  induction f with
  | zero => exact ⟨fun _ => kp_none _, fun _ _ => kp_none _⟩
  | succ f ih => exact ⟨fun _ => kBX6_scan_0 ih.2, fun _ _ => kBX6_scan_7 ih.2⟩
theorem tgX6_scan {d : Nat} {h0 : ea_H} (hd : 3 ≤ d) : ∀ f : Nat, (∀ (h : ea_H) (r : Unit) (h' : ea_H), (gX6_scan f).1 h = some (r, h') → ShC h → ea_W mX6_scan d h0 none h' 0 [(0, vR (some 24))] [] h) ∧ (∀ (x1 : Int32) (h : ea_H) (r : Unit) (h' : ea_H), (gX6_scan f).2 x1 h = some (r, h') → ShC h → ea_W mX6_scan d h0 none h' 7 [(0, vR (some 24)), (1, vI x1)] [] h) := by
  intro f
  induction f with
  | zero => exact ⟨fun _ _ _ E => no_some E, fun _ _ _ _ E => no_some E⟩
  | succ f ih => exact ⟨fun _ _ _ E hs => tBX6_scan_0 hd ih.2 E hs, fun _ _ _ _ E hs => tBX6_scan_7 hd ih.2 E hs⟩
noncomputable def qX6_scan (h : ea_H) : Option (Unit × ea_H) := qX6_scan_0  h
theorem sX6_scan {d : Nat} {h : ea_H} {r : Unit} {h' : ea_H} (hd : 3 ≤ d) (hs : ShC h) (K : qX6_scan h = some (r, h')) : ea_Met mX6_scan d [vR (some 24)] h none h' := by
  unfold qX6_scan at K
  obtain ⟨n, hn⟩ := fqX6_scan_0  h _ K
  have W := (tgX6_scan (d := d) (h0 := h) hd n).1  h _ _ (hn n (Nat.le_refl _)) hs
  exact ea_enter rfl (Nat.le_of_ble_eq_true rfl) W
theorem kpX6_scan (h : ea_H) : kp (ea_core h) (qX6_scan h) := fun x e => by
  obtain ⟨n, hn⟩ := fqX6_scan_0  h x e
  exact (kgX6_scan n).1  h x (hn n (Nat.le_refl _))
noncomputable def BX8_lineFor_0 (J7 : Option Nat → Int32 → ea_H → Option (Int32 × ea_H)) (r1 : Option Nat) (r2 : Option Nat) (h : ea_H) : Option (Int32 × ea_H) :=
  (Option.bind (qX8_ask (r2 : Option Nat) h) fun w1 => (J7 (r1 : Option Nat) (0 : Int32) w1.2))
theorem tBX8_lineFor_0 {d : Nat} {h0 : ea_H} (hd : 3 ≤ d) {J7 : Option Nat → Int32 → ea_H → Option (Int32 × ea_H)}  (kJ7 : ∀ (r1 : Option Nat) (x3 : Int32) (h : ea_H) (r : Int32) (h' : ea_H), J7 r1 x3 h = some (r, h') → ShC h → ea_W mX8_lineFor d h0 (some (vI r)) h' 7 [(0, vR (some 23)), (1, vR r1), (3, vI x3)] [] h) {r1 : Option Nat} {r2 : Option Nat} {h : ea_H} {r : Int32} {h' : ea_H} (E : BX8_lineFor_0 J7 r1 r2 h = some (r, h')) (hs : ShC h) : ea_W mX8_lineFor d h0 (some (vI r)) h' 0 [(0, vR (some 23)), (1, vR r1), (2, vR r2)] [] h := by
  unfold BX8_lineFor_0 at E
  obtain ⟨w1, Ew1, E⟩ := bd_some E
  have hsw1 : ShC w1.2 := ShC_core ((kpX8_ask _ _) _ Ew1) hs
  refine ea_aload_n (pc := 0) dX8_lineFor_0 rfl 0 rfl ?_
  refine ea_aload_n (pc := 1) dX8_lineFor_1 rfl 2 rfl ?_
  refine ea_callV (pc := 2) (d' := d - 1) (As := [vR r2]) (st := []) dX8_lineFor_2 kX8_ask (sX8_ask (d := d - 1) (by omega) hs Ew1) (by omega) rfl (Nat.le_of_ble_eq_true rfl) ew_1104 ew_1106 ew_35 (ci := 8) rfl (by decide) (cShC_23 hs).1 (cShC_23 hs).2.1 ?_
  refine ea_iconst (pc := 5) dX8_lineFor_5 (v := 0) rfl ?_
  refine ea_istore_n (pc := 6) (lv' := [(0, vR (some 23)), (1, vR r1), (3, vI 0)]) dX8_lineFor_6 rfl (Nat.le_of_ble_eq_true rfl) [1, 2, 0] rfl ?_
  exact (kJ7 (r1 : Option Nat) (0 : Int32) w1.2 _ _ E hsw1)
theorem kBX8_lineFor_0 {J7 : Option Nat → Int32 → ea_H → Option (Int32 × ea_H)}  (cJ7 : ∀ (r1 : Option Nat) (x3 : Int32) (h : ea_H), kp (ea_core h) (J7 r1 x3 h)) {r1 : Option Nat} {r2 : Option Nat} {h : ea_H} : kp (ea_core h) (BX8_lineFor_0 J7 r1 r2 h) :=
  (kp_bind (kp_tw (kpX8_ask _ _) rfl) fun w1 hcw1 => (kp_tw (cJ7 _ _ _) hcw1))
theorem lBX8_lineFor_0 {J7 : Option Nat → Int32 → ea_H → Option (Int32 × ea_H)} {J7_ : Option Nat → Int32 → ea_H → Option (Int32 × ea_H)}  (mJ7 : ∀ (r1 : Option Nat) (x3 : Int32) (h : ea_H), fle (J7 r1 x3 h) (J7_ r1 x3 h)) {r1 : Option Nat} {r2 : Option Nat} {h : ea_H} : fle (BX8_lineFor_0 J7 r1 r2 h) (BX8_lineFor_0 J7_ r1 r2 h) :=
  (fle_bind (fle_rfl _) fun _ => (mJ7 _ _ _))
theorem nBX8_lineFor_0 {J7 : Option Nat → Int32 → ea_H → Option (Int32 × ea_H)} {J7_ : Nat → (Option Nat → Int32 → ea_H → Option (Int32 × ea_H))}  (mJ7 : ∀ (r1 : Option Nat) (x3 : Int32) (h : ea_H), fct (J7 r1 x3 h) (fun f => J7_ f r1 x3 h)) {r1 : Option Nat} {r2 : Option Nat} {h : ea_H} : fct (BX8_lineFor_0 J7 r1 r2 h) (fun f => BX8_lineFor_0 (J7_ f) r1 r2 h) :=
  (fct_bind (fct_rfl _) fun _ => (mJ7 _ _ _))
noncomputable def BX8_lineFor_7 (J7 : Option Nat → Int32 → ea_H → Option (Int32 × ea_H)) (r1 : Option Nat) (x3 : Int32) (h : ea_H) : Option (Int32 × ea_H) :=
  (gd (r1 = some (Option.getD r1 0)) (gd (((Option.getD r1 0) < ea_n h ∧ ea_c h (Option.getD r1 0) = 0)) (if (ea_i h (Option.getD r1 0) 8) ≤ x3 then (some (((-1) : Int32), h)) else (gd (r1 = some (Option.getD r1 0)) (gd (((Option.getD r1 0) < ea_n h ∧ ea_c h (Option.getD r1 0) = 0)) (gd ((ea_r h (Option.getD r1 0) 10) = some (Option.getD (ea_r h (Option.getD r1 0) 10) 0)) (gd (((Option.getD (ea_r h (Option.getD r1 0) 10) 0) < ea_n h ∧ ea_c h (Option.getD (ea_r h (Option.getD r1 0) 10) 0) = 20)) (gd (vp_in x3 (ea_l h (Option.getD (ea_r h (Option.getD r1 0) 10) 0))) (if (ea_i h (Option.getD (ea_r h (Option.getD r1 0) 10) 0) (Int32.toNatClampNeg x3)) = ((-1) : Int32) then (some (x3, h)) else (gd (r1 = some (Option.getD r1 0)) (gd (((Option.getD r1 0) < ea_n h ∧ ea_c h (Option.getD r1 0) = 0)) (gd ((ea_r h (Option.getD r1 0) 10) = some (Option.getD (ea_r h (Option.getD r1 0) 10) 0)) (gd (((Option.getD (ea_r h (Option.getD r1 0) 10) 0) < ea_n h ∧ ea_c h (Option.getD (ea_r h (Option.getD r1 0) 10) 0) = 20)) (gd (vp_in x3 (ea_l h (Option.getD (ea_r h (Option.getD r1 0) 10) 0))) (Option.bind (qX8_worth ((ea_i h (Option.getD (ea_r h (Option.getD r1 0) 10) 0) (Int32.toNatClampNeg x3)) : Int32) h) fun w14 => (if w14.1 = (0 : Int32) then (J7 (r1 : Option Nat) ((x3 + (1 : Int32)) : Int32) w14.2) else (some (x3, w14.2))))))))))))))))))
theorem tBX8_lineFor_7 {d : Nat} {h0 : ea_H} (hd : 3 ≤ d) {J7 : Option Nat → Int32 → ea_H → Option (Int32 × ea_H)}  (kJ7 : ∀ (r1 : Option Nat) (x3 : Int32) (h : ea_H) (r : Int32) (h' : ea_H), J7 r1 x3 h = some (r, h') → ShC h → ea_W mX8_lineFor d h0 (some (vI r)) h' 7 [(0, vR (some 23)), (1, vR r1), (3, vI x3)] [] h) {r1 : Option Nat} {x3 : Int32} {h : ea_H} {r : Int32} {h' : ea_H} (E : BX8_lineFor_7 J7 r1 x3 h = some (r, h')) (hs : ShC h) : ea_W mX8_lineFor d h0 (some (vI r)) h' 7 [(0, vR (some 23)), (1, vR r1), (3, vI x3)] [] h := by
  unfold BX8_lineFor_7 at E
  obtain ⟨e2, E⟩ := gd_some E
  refine ea_iload_n (pc := 7) dX8_lineFor_7 rfl 2 rfl ?_
  refine ea_aload_n (pc := 8) dX8_lineFor_8 rfl 1 rfl ?_
  obtain ⟨f3, E⟩ := gd_some E
  refine ea_deref0 e2 ?_
  refine ea_getI (pc := 9) dX8_lineFor_9 ec_0 (k := 8) (Nat.le_of_ble_eq_true rfl) rfl (Or.inl ew_366) f3.1 f3.2 ?_
  refine ea_icmp_ge (pc := 12) (tgt := 46) dX8_lineFor_12 rfl (fun c17 => ?_) (fun c17 => ?_)
  · have E := (if_pos c17).symm.trans E
    refine ea_iconst (pc := 46) dX8_lineFor_46 (v := (-1)) rfl ?_
    exact ea_iretO (pc := 47) dX8_lineFor_47 rfl rfl E
  · have E := (if_neg c17).symm.trans E
    obtain ⟨e4, E⟩ := gd_some E
    refine ea_aload_n (pc := 15) dX8_lineFor_15 rfl 1 rfl ?_
    obtain ⟨f5, E⟩ := gd_some E
    obtain ⟨e6, E⟩ := gd_some E
    refine ea_deref0 e4 ?_
    refine ea_getR (pc := 16) dX8_lineFor_16 ec_0 (k := 10) (Nat.le_of_ble_eq_true rfl) rfl (Or.inl ew_372) f5.1 f5.2 rfl ?_
    refine ea_iload_n (pc := 19) dX8_lineFor_19 rfl 2 rfl ?_
    obtain ⟨f7, E⟩ := gd_some E
    obtain ⟨z8, E⟩ := gd_some E
    refine ea_deref1 e6 ?_
    refine ea_iald (pc := 20) dX8_lineFor_20 f7.1 f7.2 z8 ?_
    refine ea_iconst (pc := 21) dX8_lineFor_21 (v := (-1)) rfl ?_
    refine ea_icmp_eq (pc := 22) (tgt := 38) dX8_lineFor_22 rfl (fun c16 => ?_) (fun c16 => ?_)
    · have E := (if_pos c16).symm.trans E
      refine ea_iload_n (pc := 38) dX8_lineFor_38 rfl 2 rfl ?_
      exact ea_iretO (pc := 39) dX8_lineFor_39 rfl rfl E
    · have E := (if_neg c16).symm.trans E
      obtain ⟨e9, E⟩ := gd_some E
      refine ea_aload_n (pc := 25) dX8_lineFor_25 rfl 0 rfl ?_
      refine ea_aload_n (pc := 26) dX8_lineFor_26 rfl 1 rfl ?_
      obtain ⟨f10, E⟩ := gd_some E
      obtain ⟨e11, E⟩ := gd_some E
      refine ea_deref0 e9 ?_
      refine ea_getR (pc := 27) dX8_lineFor_27 ec_0 (k := 10) (Nat.le_of_ble_eq_true rfl) rfl (Or.inl ew_372) f10.1 f10.2 rfl ?_
      refine ea_iload_n (pc := 30) dX8_lineFor_30 rfl 2 rfl ?_
      obtain ⟨f12, E⟩ := gd_some E
      obtain ⟨z13, E⟩ := gd_some E
      obtain ⟨w14, Ew14, E⟩ := bd_some E
      have hsw14 : ShC w14.2 := ShC_core ((kpX8_worth _ _) _ Ew14) hs
      refine ea_deref1 e11 ?_
      refine ea_iald (pc := 31) dX8_lineFor_31 f12.1 f12.2 z13 ?_
      refine ea_callV (pc := 32) (d' := d - 1) (As := [vI (ea_i h (Option.getD (ea_r h (Option.getD r1 0) 10) 0) (Int32.toNatClampNeg x3))]) (st := []) dX8_lineFor_32 kX8_worth (sX8_worth (d := d - 1) (by omega) hs Ew14) (by omega) rfl (Nat.le_of_ble_eq_true rfl) ew_1108 ew_1110 ew_36 (ci := 8) rfl (by decide) (cShC_23 hs).1 (cShC_23 hs).2.1 ?_
      refine ea_if_eq (pc := 35) (tgt := 40) dX8_lineFor_35 rfl (fun c15 => ?_) (fun c15 => ?_)
      · have E := (if_pos c15).symm.trans E
        refine ea_iinc (pc := 40) (v := 1) (lv' := [(0, vR (some 23)), (1, vR r1), (3, vI (x3 + (1 : Int32)))]) dX8_lineFor_40 2 rfl rfl (Nat.le_of_ble_eq_true rfl) [1, 2, 0] rfl ?_
        refine ea_goto (pc := 43) (tgt := 7) dX8_lineFor_43 rfl ?_
        exact (kJ7 (r1 : Option Nat) ((x3 + (1 : Int32)) : Int32) w14.2 _ _ E hsw14)
      · have E := (if_neg c15).symm.trans E
        refine ea_iload_n (pc := 38) dX8_lineFor_38 rfl 2 rfl ?_
        exact ea_iretO (pc := 39) dX8_lineFor_39 rfl rfl E
theorem kBX8_lineFor_7 {J7 : Option Nat → Int32 → ea_H → Option (Int32 × ea_H)}  (cJ7 : ∀ (r1 : Option Nat) (x3 : Int32) (h : ea_H), kp (ea_core h) (J7 r1 x3 h)) {r1 : Option Nat} {x3 : Int32} {h : ea_H} : kp (ea_core h) (BX8_lineFor_7 J7 r1 x3 h) :=
  (kp_gd (kp_gd (kp_ite (kp_ret rfl) (kp_gd (kp_gd (kp_gd (kp_gd (kp_gd (kp_ite (kp_ret rfl) (kp_gd (kp_gd (kp_gd (kp_gd (kp_gd (kp_bind (kp_tw (kpX8_worth _ _) rfl) fun w14 hcw14 => (kp_ite (kp_tw (cJ7 _ _ _) hcw14) (kp_ret hcw14)))))))))))))))))
theorem lBX8_lineFor_7 {J7 : Option Nat → Int32 → ea_H → Option (Int32 × ea_H)} {J7_ : Option Nat → Int32 → ea_H → Option (Int32 × ea_H)}  (mJ7 : ∀ (r1 : Option Nat) (x3 : Int32) (h : ea_H), fle (J7 r1 x3 h) (J7_ r1 x3 h)) {r1 : Option Nat} {x3 : Int32} {h : ea_H} : fle (BX8_lineFor_7 J7 r1 x3 h) (BX8_lineFor_7 J7_ r1 x3 h) :=
  (fle_gd (fle_gd (fle_ite (fle_rfl _) (fle_gd (fle_gd (fle_gd (fle_gd (fle_gd (fle_ite (fle_rfl _) (fle_gd (fle_gd (fle_gd (fle_gd (fle_gd (fle_bind (fle_rfl _) fun _ => (fle_ite (mJ7 _ _ _) (fle_rfl _)))))))))))))))))
theorem nBX8_lineFor_7 {J7 : Option Nat → Int32 → ea_H → Option (Int32 × ea_H)} {J7_ : Nat → (Option Nat → Int32 → ea_H → Option (Int32 × ea_H))}  (mJ7 : ∀ (r1 : Option Nat) (x3 : Int32) (h : ea_H), fct (J7 r1 x3 h) (fun f => J7_ f r1 x3 h)) {r1 : Option Nat} {x3 : Int32} {h : ea_H} : fct (BX8_lineFor_7 J7 r1 x3 h) (fun f => BX8_lineFor_7 (J7_ f) r1 x3 h) :=
  (fct_gd (fct_gd (fct_ite (fct_rfl _) (fct_gd (fct_gd (fct_gd (fct_gd (fct_gd (fct_ite (fct_rfl _) (fct_gd (fct_gd (fct_gd (fct_gd (fct_gd (fct_bind (fct_rfl _) fun _ => (fct_ite (mJ7 _ _ _) (fct_rfl _)))))))))))))))))
noncomputable def gX8_lineFor : Nat → (Option Nat → Option Nat → ea_H → Option (Int32 × ea_H)) × (Option Nat → Int32 → ea_H → Option (Int32 × ea_H))
  | 0 => (fun _ _ _ => none, fun _ _ _ => none)
  | f + 1 => (BX8_lineFor_0 (gX8_lineFor f).2, BX8_lineFor_7 (gX8_lineFor f).2)
theorem mgX8_lineFor : ∀ f : Nat, (∀ (r1 : Option Nat) (r2 : Option Nat) (h : ea_H), fle ((gX8_lineFor f).1 r1 r2 h) ((gX8_lineFor (f + 1)).1 r1 r2 h)) ∧ (∀ (r1 : Option Nat) (x3 : Int32) (h : ea_H), fle ((gX8_lineFor f).2 r1 x3 h) ((gX8_lineFor (f + 1)).2 r1 x3 h)) := by
  intro f
  induction f with
  | zero => exact ⟨fun _ _ _ => fle_none _, fun _ _ _ => fle_none _⟩
  | succ f ih => exact ⟨fun _ _ _ => lBX8_lineFor_0 ih.2, fun _ _ _ => lBX8_lineFor_7 ih.2⟩
noncomputable def qX8_lineFor_0 (r1 : Option Nat) (r2 : Option Nat) (h : ea_H) : Option (Int32 × ea_H) := flim fun f => (gX8_lineFor f).1 r1 r2 h
noncomputable def qX8_lineFor_7 (r1 : Option Nat) (x3 : Int32) (h : ea_H) : Option (Int32 × ea_H) := flim fun f => (gX8_lineFor f).2 r1 x3 h
theorem fqX8_lineFor_0 (r1 : Option Nat) (r2 : Option Nat) (h : ea_H) : fct (qX8_lineFor_0 r1 r2 h) fun f => (gX8_lineFor f).1 r1 r2 h := flim_ct fun f => (mgX8_lineFor f).1 r1 r2 h
theorem fqX8_lineFor_7 (r1 : Option Nat) (x3 : Int32) (h : ea_H) : fct (qX8_lineFor_7 r1 x3 h) fun f => (gX8_lineFor f).2 r1 x3 h := flim_ct fun f => (mgX8_lineFor f).2 r1 x3 h
/-- how a block opens -/
theorem uqX8_lineFor_0 {r1 : Option Nat} {r2 : Option Nat} {h : ea_H} {P : Int32 × ea_H → Prop} (H : sat (BX8_lineFor_0 qX8_lineFor_7 r1 r2 h) P) : sat (qX8_lineFor_0 r1 r2 h) P := by
  obtain ⟨x, e, hp⟩ := H
  obtain ⟨n, hn⟩ := nBX8_lineFor_0 fqX8_lineFor_7 x e
  exact ⟨x, flim_at (fun f => (mgX8_lineFor f).1 r1 r2 h) (f := n + 1) (hn n (Nat.le_refl _)), hp⟩
/-- how a block opens -/
theorem uqX8_lineFor_7 {r1 : Option Nat} {x3 : Int32} {h : ea_H} {P : Int32 × ea_H → Prop} (H : sat (BX8_lineFor_7 qX8_lineFor_7 r1 x3 h) P) : sat (qX8_lineFor_7 r1 x3 h) P := by
  obtain ⟨x, e, hp⟩ := H
  obtain ⟨n, hn⟩ := nBX8_lineFor_7 fqX8_lineFor_7 x e
  exact ⟨x, flim_at (fun f => (mgX8_lineFor f).2 r1 x3 h) (f := n + 1) (hn n (Nat.le_refl _)), hp⟩
theorem kgX8_lineFor : ∀ f : Nat, (∀ (r1 : Option Nat) (r2 : Option Nat) (h : ea_H), kp (ea_core h) ((gX8_lineFor f).1 r1 r2 h)) ∧ (∀ (r1 : Option Nat) (x3 : Int32) (h : ea_H), kp (ea_core h) ((gX8_lineFor f).2 r1 x3 h)) := by
  intro f
  induction f with
  | zero => exact ⟨fun _ _ _ => kp_none _, fun _ _ _ => kp_none _⟩
  | succ f ih => exact ⟨fun _ _ _ => kBX8_lineFor_0 ih.2, fun _ _ _ => kBX8_lineFor_7 ih.2⟩
theorem tgX8_lineFor {d : Nat} {h0 : ea_H} (hd : 3 ≤ d) : ∀ f : Nat, (∀ (r1 : Option Nat) (r2 : Option Nat) (h : ea_H) (r : Int32) (h' : ea_H), (gX8_lineFor f).1 r1 r2 h = some (r, h') → ShC h → ea_W mX8_lineFor d h0 (some (vI r)) h' 0 [(0, vR (some 23)), (1, vR r1), (2, vR r2)] [] h) ∧ (∀ (r1 : Option Nat) (x3 : Int32) (h : ea_H) (r : Int32) (h' : ea_H), (gX8_lineFor f).2 r1 x3 h = some (r, h') → ShC h → ea_W mX8_lineFor d h0 (some (vI r)) h' 7 [(0, vR (some 23)), (1, vR r1), (3, vI x3)] [] h) := by
  intro f
  induction f with
  | zero => exact ⟨fun _ _ _ _ _ E => no_some E, fun _ _ _ _ _ E => no_some E⟩
  | succ f ih => exact ⟨fun _ _ _ _ _ E hs => tBX8_lineFor_0 hd ih.2 E hs, fun _ _ _ _ _ E hs => tBX8_lineFor_7 hd ih.2 E hs⟩
noncomputable def qX8_lineFor (r1 : Option Nat) (r2 : Option Nat) (h : ea_H) : Option (Int32 × ea_H) := qX8_lineFor_0 r1 r2 h
theorem sX8_lineFor {d : Nat} {r1 : Option Nat} {r2 : Option Nat} {h : ea_H} {r : Int32} {h' : ea_H} (hd : 3 ≤ d) (hs : ShC h) (K : qX8_lineFor r1 r2 h = some (r, h')) : ea_Met mX8_lineFor d [vR (some 23), vR r1, vR r2] h (some (vI r)) h' := by
  unfold qX8_lineFor at K
  obtain ⟨n, hn⟩ := fqX8_lineFor_0 r1 r2 h _ K
  have W := (tgX8_lineFor (d := d) (h0 := h) hd n).1 r1 r2 h _ _ (hn n (Nat.le_refl _)) hs
  exact ea_enter rfl (Nat.le_of_ble_eq_true rfl) W
theorem kpX8_lineFor (r1 : Option Nat) (r2 : Option Nat) (h : ea_H) : kp (ea_core h) (qX8_lineFor r1 r2 h) := fun x e => by
  obtain ⟨n, hn⟩ := fqX8_lineFor_0 r1 r2 h x e
  exact (kgX8_lineFor n).1 r1 r2 h x (hn n (Nat.le_refl _))
noncomputable def BX10_trace_0 (J35 : Int32 → ea_H → Option (Unit × ea_H)) (h : ea_H) : Option (Unit × ea_H) :=
  (Option.bind (qJ7_fill_d0a16 ((some 15) : Option Nat) (0 : Int64) h) fun w1 => (Option.bind (qJ7_fill_d0a16 ((some 16) : Option Nat) (4611686018427387904 : Int64) w1.2) fun w2 => (Option.bind (qJ7_fill_d0a16 ((some 17) : Option Nat) (4611686018427387904 : Int64) w2.2) fun w3 => (ea_let ((ea_i w3.2 13 1) - (1 : Int32)) fun (v4 : Int32) => (J35 (v4 : Int32) w3.2)))))
theorem tBX10_trace_0 {d : Nat} {h0 : ea_H} (hd : 4 ≤ d) {J35 : Int32 → ea_H → Option (Unit × ea_H)}  (kJ35 : ∀ (x1 : Int32) (h : ea_H) (r : Unit) (h' : ea_H), J35 x1 h = some (r, h') → ShC h → ea_W mX10_trace d h0 none h' 35 [(0, vR (some 13)), (1, vI x1)] [] h) {h : ea_H} {r : Unit} {h' : ea_H} (E : BX10_trace_0 J35 h = some (r, h')) (hs : ShC h) : ea_W mX10_trace d h0 none h' 0 [(0, vR (some 13))] [] h := by
  unfold BX10_trace_0 at E
  obtain ⟨w1, Ew1, E⟩ := bd_some E
  have hsw1 : ShC w1.2 := ShC_core ((kpJ7_fill_d0a16 _ _ _) _ Ew1) hs
  refine ea_aload_n (pc := 0) dX10_trace_0 rfl 0 rfl ?_
  refine ea_getR (pc := 1) dX10_trace_1 ec_10 (k := 4) (Nat.le_of_ble_eq_true rfl) rfl (Or.inl ew_239) (cShC_13 hs).1 (cShC_13 hs).2.1 (rShC_13_4 hs) ?_
  refine ea_lconst (pc := 4) dX10_trace_4 (v := 0) rfl ?_
  refine ea_callS (pc := 5) (d' := d - 1) (As := [vR (some 15), vJ 0]) (st := []) dX10_trace_5 kJ7_fill_d0a16 (sJ7_fill_d0a16 (d := d - 1) (by omega) Ew1) (by omega) rfl (Nat.le_of_ble_eq_true rfl) ew_774 ew_775 ?_
  obtain ⟨w2, Ew2, E⟩ := bd_some E
  have hsw2 : ShC w2.2 := ShC_core ((kpJ7_fill_d0a16 _ _ _) _ Ew2) hsw1
  refine ea_aload_n (pc := 8) dX10_trace_8 rfl 0 rfl ?_
  refine ea_getR (pc := 9) dX10_trace_9 ec_10 (k := 5) (Nat.le_of_ble_eq_true rfl) rfl (Or.inl ew_240) (cShC_13 hsw1).1 (cShC_13 hsw1).2.1 (rShC_13_5 hsw1) ?_
  refine ea_ldc2 (pc := 12) dX10_trace_12 ew_777 ?_
  refine ea_callS (pc := 15) (d' := d - 1) (As := [vR (some 16), vJ 4611686018427387904]) (st := []) dX10_trace_15 kJ7_fill_d0a16 (sJ7_fill_d0a16 (d := d - 1) (by omega) Ew2) (by omega) rfl (Nat.le_of_ble_eq_true rfl) ew_774 ew_775 ?_
  obtain ⟨w3, Ew3, E⟩ := bd_some E
  have hsw3 : ShC w3.2 := ShC_core ((kpJ7_fill_d0a16 _ _ _) _ Ew3) hsw2
  refine ea_aload_n (pc := 18) dX10_trace_18 rfl 0 rfl ?_
  refine ea_getR (pc := 19) dX10_trace_19 ec_10 (k := 6) (Nat.le_of_ble_eq_true rfl) rfl (Or.inl ew_241) (cShC_13 hsw2).1 (cShC_13 hsw2).2.1 (rShC_13_6 hsw2) ?_
  refine ea_ldc2 (pc := 22) dX10_trace_22 ew_777 ?_
  refine ea_callS (pc := 25) (d' := d - 1) (As := [vR (some 17), vJ 4611686018427387904]) (st := []) dX10_trace_25 kJ7_fill_d0a16 (sJ7_fill_d0a16 (d := d - 1) (by omega) Ew3) (by omega) rfl (Nat.le_of_ble_eq_true rfl) ew_774 ew_775 ?_
  obtain ⟨v4, ev4, E⟩ := let_some E
  refine ea_aload_n (pc := 28) dX10_trace_28 rfl 0 rfl ?_
  refine ea_getI (pc := 29) dX10_trace_29 ec_10 (k := 1) (Nat.le_of_ble_eq_true rfl) rfl (Or.inl ew_235) (cShC_13 hsw3).1 (cShC_13 hsw3).2.1 ?_
  refine ea_iconst (pc := 32) dX10_trace_32 (v := 1) rfl ?_
  refine ea_isub (pc := 33) dX10_trace_33 ?_
  refine ea_istore_n (pc := 34) (lv' := [(0, vR (some 13)), (1, vI v4)]) dX10_trace_34 rfl (Nat.le_of_ble_eq_true rfl) [1, 0] (by rw [ev4]; rfl) ?_
  exact (kJ35 (v4 : Int32) w3.2 _ _ E hsw3)
theorem kBX10_trace_0 {J35 : Int32 → ea_H → Option (Unit × ea_H)}  (cJ35 : ∀ (x1 : Int32) (h : ea_H), kp (ea_core h) (J35 x1 h)) {h : ea_H} : kp (ea_core h) (BX10_trace_0 J35 h) :=
  (kp_bind (kp_tw (kpJ7_fill_d0a16 _ _ _) rfl) fun w1 hcw1 => (kp_bind (kp_tw (kpJ7_fill_d0a16 _ _ _) hcw1) fun w2 hcw2 => (kp_bind (kp_tw (kpJ7_fill_d0a16 _ _ _) hcw2) fun w3 hcw3 => (kp_let (kp_tw (cJ35 _ _) hcw3)))))
theorem lBX10_trace_0 {J35 : Int32 → ea_H → Option (Unit × ea_H)} {J35_ : Int32 → ea_H → Option (Unit × ea_H)}  (mJ35 : ∀ (x1 : Int32) (h : ea_H), fle (J35 x1 h) (J35_ x1 h)) {h : ea_H} : fle (BX10_trace_0 J35 h) (BX10_trace_0 J35_ h) :=
  (fle_bind (fle_rfl _) fun _ => (fle_bind (fle_rfl _) fun _ => (fle_bind (fle_rfl _) fun _ => (fle_let fun _ => (mJ35 _ _)))))
theorem nBX10_trace_0 {J35 : Int32 → ea_H → Option (Unit × ea_H)} {J35_ : Nat → (Int32 → ea_H → Option (Unit × ea_H))}  (mJ35 : ∀ (x1 : Int32) (h : ea_H), fct (J35 x1 h) (fun f => J35_ f x1 h)) {h : ea_H} : fct (BX10_trace_0 J35 h) (fun f => BX10_trace_0 (J35_ f) h) :=
  (fct_bind (fct_rfl _) fun _ => (fct_bind (fct_rfl _) fun _ => (fct_bind (fct_rfl _) fun _ => (fct_let fun _ => (mJ35 _ _)))))
noncomputable def BX10_trace_35 (J35 : Int32 → ea_H → Option (Unit × ea_H)) (x1 : Int32) (h : ea_H) : Option (Unit × ea_H) :=
  (if x1 < (0 : Int32) then (some ((), h)) else (gd (vp_in x1 980) (ea_let (ea_i h 14 (Int32.toNatClampNeg x1)) fun (v6 : Int32) => (Option.bind (qX10_isGoing (v6 : Int32) h) fun w7 => (if w7.1 = (0 : Int32) then (Option.bind (qX10_townIn (v6 : Int32) w7.2) fun w8 => (Option.bind (qX10_leaveRun (v6 : Int32) (w8.1 : Int32) w8.2) fun w9 => (J35 ((x1 + ((-1) : Int32)) : Int32) w9.2))) else (Option.bind (qX10_townIn (v6 : Int32) w7.2) fun w10 => (Option.bind (qX10_takeRun (v6 : Int32) (w10.1 : Int32) w10.2) fun w11 => (J35 ((x1 + ((-1) : Int32)) : Int32) w11.2))))))))
theorem tBX10_trace_35 {d : Nat} {h0 : ea_H} (hd : 4 ≤ d) {J35 : Int32 → ea_H → Option (Unit × ea_H)}  (kJ35 : ∀ (x1 : Int32) (h : ea_H) (r : Unit) (h' : ea_H), J35 x1 h = some (r, h') → ShC h → ea_W mX10_trace d h0 none h' 35 [(0, vR (some 13)), (1, vI x1)] [] h) {x1 : Int32} {h : ea_H} {r : Unit} {h' : ea_H} (E : BX10_trace_35 J35 x1 h = some (r, h')) (hs : ShC h) : ea_W mX10_trace d h0 none h' 35 [(0, vR (some 13)), (1, vI x1)] [] h := by
  unfold BX10_trace_35 at E
  refine ea_iload_n (pc := 35) dX10_trace_35 rfl 1 rfl ?_
  refine ea_if_lt (pc := 36) (tgt := 82) dX10_trace_36 rfl (fun c13 => ?_) (fun c13 => ?_)
  · have E := (if_pos c13).symm.trans E
    exact ea_vretO (pc := 82) dX10_trace_82 rfl E
  · have E := (if_neg c13).symm.trans E
    obtain ⟨z5, E⟩ := gd_some E
    refine ea_aload_n (pc := 39) dX10_trace_39 rfl 0 rfl ?_
    refine ea_getR (pc := 40) dX10_trace_40 ec_10 (k := 3) (Nat.le_of_ble_eq_true rfl) rfl (Or.inl ew_238) (cShC_13 hs).1 (cShC_13 hs).2.1 (rShC_13_3 hs) ?_
    refine ea_iload_n (pc := 43) dX10_trace_43 rfl 1 rfl ?_
    obtain ⟨v6, ev6, E⟩ := let_some E
    refine ea_iald (pc := 44) dX10_trace_44 (cShC_14 hs).1 (cShC_14 hs).2.1 (ea_vpl (cShC_14 hs).2.2 z5) ?_
    obtain ⟨w7, Ew7, E⟩ := bd_some E
    have hsw7 : ShC w7.2 := ShC_core ((kpX10_isGoing _ _) _ Ew7) hs
    refine ea_istore_n (pc := 45) (lv' := [(0, vR (some 13)), (1, vI x1), (2, vI v6)]) dX10_trace_45 rfl (Nat.le_of_ble_eq_true rfl) [1, 2, 0] (by rw [ev6]; rfl) ?_
    refine ea_iload_n (pc := 46) dX10_trace_46 rfl 2 rfl ?_
    refine ea_callS (pc := 47) (d' := d - 1) (As := [vI v6]) (st := []) dX10_trace_47 kX10_isGoing (sX10_isGoing (d := d - 1) (by omega) Ew7) (by omega) rfl (Nat.le_of_ble_eq_true rfl) ew_778 ew_779 ?_
    refine ea_if_eq (pc := 50) (tgt := 66) dX10_trace_50 rfl (fun c12 => ?_) (fun c12 => ?_)
    · have E := (if_pos c12).symm.trans E
      obtain ⟨w8, Ew8, E⟩ := bd_some E
      have hsw8 : ShC w8.2 := ShC_core ((kpX10_townIn _ _) _ Ew8) hsw7
      refine ea_aload_n (pc := 66) dX10_trace_66 rfl 0 rfl ?_
      refine ea_iload_n (pc := 67) dX10_trace_67 rfl 2 rfl ?_
      refine ea_aload_n (pc := 68) dX10_trace_68 rfl 0 rfl ?_
      refine ea_iload_n (pc := 69) dX10_trace_69 rfl 2 rfl ?_
      refine ea_callV (pc := 70) (d' := d - 1) (As := [vI v6]) (st := [vI v6, vR (some 13)]) dX10_trace_70 kX10_townIn (sX10_townIn (d := d - 1) (by omega) hsw7 Ew8) (by omega) rfl (Nat.le_of_ble_eq_true rfl) ew_781 ew_783 ew_7 (ci := 10) rfl (by decide) (cShC_13 hsw7).1 (cShC_13 hsw7).2.1 ?_
      obtain ⟨w9, Ew9, E⟩ := bd_some E
      have hsw9 : ShC w9.2 := ShC_core ((kpX10_leaveRun _ _ _) _ Ew9) hsw8
      refine ea_callV (pc := 73) (d' := d - 1) (As := [vI v6, vI w8.1]) (st := []) dX10_trace_73 kX10_leaveRun (sX10_leaveRun (d := d - 1) (by omega) hsw8 Ew9) (by omega) rfl (Nat.le_of_ble_eq_true rfl) ew_819 ew_821 ew_10 (ci := 10) rfl (by decide) (cShC_13 hsw8).1 (cShC_13 hsw8).2.1 ?_
      refine ea_iinc (pc := 76) (v := (-1)) (lv' := [(0, vR (some 13)), (1, vI (x1 + ((-1) : Int32)))]) dX10_trace_76 1 rfl rfl (Nat.le_of_ble_eq_true rfl) [1, 0] rfl ?_
      refine ea_goto (pc := 79) (tgt := 35) dX10_trace_79 rfl ?_
      exact (kJ35 ((x1 + ((-1) : Int32)) : Int32) w9.2 _ _ E hsw9)
    · have E := (if_neg c12).symm.trans E
      obtain ⟨w10, Ew10, E⟩ := bd_some E
      have hsw10 : ShC w10.2 := ShC_core ((kpX10_townIn _ _) _ Ew10) hsw7
      refine ea_aload_n (pc := 53) dX10_trace_53 rfl 0 rfl ?_
      refine ea_iload_n (pc := 54) dX10_trace_54 rfl 2 rfl ?_
      refine ea_aload_n (pc := 55) dX10_trace_55 rfl 0 rfl ?_
      refine ea_iload_n (pc := 56) dX10_trace_56 rfl 2 rfl ?_
      refine ea_callV (pc := 57) (d' := d - 1) (As := [vI v6]) (st := [vI v6, vR (some 13)]) dX10_trace_57 kX10_townIn (sX10_townIn (d := d - 1) (by omega) hsw7 Ew10) (by omega) rfl (Nat.le_of_ble_eq_true rfl) ew_781 ew_783 ew_7 (ci := 10) rfl (by decide) (cShC_13 hsw7).1 (cShC_13 hsw7).2.1 ?_
      obtain ⟨w11, Ew11, E⟩ := bd_some E
      have hsw11 : ShC w11.2 := ShC_core ((kpX10_takeRun _ _ _) _ Ew11) hsw10
      refine ea_callV (pc := 60) (d' := d - 1) (As := [vI v6, vI w10.1]) (st := []) dX10_trace_60 kX10_takeRun (sX10_takeRun (d := d - 1) (by omega) hsw10 Ew11) (by omega) rfl (Nat.le_of_ble_eq_true rfl) ew_791 ew_793 ew_8 (ci := 10) rfl (by decide) (cShC_13 hsw10).1 (cShC_13 hsw10).2.1 ?_
      refine ea_goto (pc := 63) (tgt := 76) dX10_trace_63 rfl ?_
      refine ea_iinc (pc := 76) (v := (-1)) (lv' := [(0, vR (some 13)), (1, vI (x1 + ((-1) : Int32)))]) dX10_trace_76 1 rfl rfl (Nat.le_of_ble_eq_true rfl) [1, 0] rfl ?_
      refine ea_goto (pc := 79) (tgt := 35) dX10_trace_79 rfl ?_
      exact (kJ35 ((x1 + ((-1) : Int32)) : Int32) w11.2 _ _ E hsw11)
theorem kBX10_trace_35 {J35 : Int32 → ea_H → Option (Unit × ea_H)}  (cJ35 : ∀ (x1 : Int32) (h : ea_H), kp (ea_core h) (J35 x1 h)) {x1 : Int32} {h : ea_H} : kp (ea_core h) (BX10_trace_35 J35 x1 h) :=
  (kp_ite (kp_ret rfl) (kp_gd (kp_let (kp_bind (kp_tw (kpX10_isGoing _ _) rfl) fun w7 hcw7 => (kp_ite (kp_bind (kp_tw (kpX10_townIn _ _) hcw7) fun w8 hcw8 => (kp_bind (kp_tw (kpX10_leaveRun _ _ _) hcw8) fun w9 hcw9 => (kp_tw (cJ35 _ _) hcw9))) (kp_bind (kp_tw (kpX10_townIn _ _) hcw7) fun w10 hcw10 => (kp_bind (kp_tw (kpX10_takeRun _ _ _) hcw10) fun w11 hcw11 => (kp_tw (cJ35 _ _) hcw11))))))))
theorem lBX10_trace_35 {J35 : Int32 → ea_H → Option (Unit × ea_H)} {J35_ : Int32 → ea_H → Option (Unit × ea_H)}  (mJ35 : ∀ (x1 : Int32) (h : ea_H), fle (J35 x1 h) (J35_ x1 h)) {x1 : Int32} {h : ea_H} : fle (BX10_trace_35 J35 x1 h) (BX10_trace_35 J35_ x1 h) :=
  (fle_ite (fle_rfl _) (fle_gd (fle_let fun _ => (fle_bind (fle_rfl _) fun _ => (fle_ite (fle_bind (fle_rfl _) fun _ => (fle_bind (fle_rfl _) fun _ => (mJ35 _ _))) (fle_bind (fle_rfl _) fun _ => (fle_bind (fle_rfl _) fun _ => (mJ35 _ _))))))))
theorem nBX10_trace_35 {J35 : Int32 → ea_H → Option (Unit × ea_H)} {J35_ : Nat → (Int32 → ea_H → Option (Unit × ea_H))}  (mJ35 : ∀ (x1 : Int32) (h : ea_H), fct (J35 x1 h) (fun f => J35_ f x1 h)) {x1 : Int32} {h : ea_H} : fct (BX10_trace_35 J35 x1 h) (fun f => BX10_trace_35 (J35_ f) x1 h) :=
  (fct_ite (fct_rfl _) (fct_gd (fct_let fun _ => (fct_bind (fct_rfl _) fun _ => (fct_ite (fct_bind (fct_rfl _) fun _ => (fct_bind (fct_rfl _) fun _ => (mJ35 _ _))) (fct_bind (fct_rfl _) fun _ => (fct_bind (fct_rfl _) fun _ => (mJ35 _ _))))))))
noncomputable def gX10_trace : Nat → (ea_H → Option (Unit × ea_H)) × (Int32 → ea_H → Option (Unit × ea_H))
  | 0 => (fun _ => none, fun _ _ => none)
  | f + 1 => (BX10_trace_0 (gX10_trace f).2, BX10_trace_35 (gX10_trace f).2)
theorem mgX10_trace : ∀ f : Nat, (∀ (h : ea_H), fle ((gX10_trace f).1 h) ((gX10_trace (f + 1)).1 h)) ∧ (∀ (x1 : Int32) (h : ea_H), fle ((gX10_trace f).2 x1 h) ((gX10_trace (f + 1)).2 x1 h)) := by
  intro f
  induction f with
  | zero => exact ⟨fun _ => fle_none _, fun _ _ => fle_none _⟩
  | succ f ih => exact ⟨fun _ => lBX10_trace_0 ih.2, fun _ _ => lBX10_trace_35 ih.2⟩
noncomputable def qX10_trace_0 (h : ea_H) : Option (Unit × ea_H) := flim fun f => (gX10_trace f).1 h
noncomputable def qX10_trace_35 (x1 : Int32) (h : ea_H) : Option (Unit × ea_H) := flim fun f => (gX10_trace f).2 x1 h
theorem fqX10_trace_0 (h : ea_H) : fct (qX10_trace_0 h) fun f => (gX10_trace f).1 h := flim_ct fun f => (mgX10_trace f).1 h
theorem fqX10_trace_35 (x1 : Int32) (h : ea_H) : fct (qX10_trace_35 x1 h) fun f => (gX10_trace f).2 x1 h := flim_ct fun f => (mgX10_trace f).2 x1 h
/-- how a block opens -/
theorem uqX10_trace_0 {h : ea_H} {P : Unit × ea_H → Prop} (H : sat (BX10_trace_0 qX10_trace_35 h) P) : sat (qX10_trace_0 h) P := by
  obtain ⟨x, e, hp⟩ := H
  obtain ⟨n, hn⟩ := nBX10_trace_0 fqX10_trace_35 x e
  exact ⟨x, flim_at (fun f => (mgX10_trace f).1 h) (f := n + 1) (hn n (Nat.le_refl _)), hp⟩
/-- how a block opens -/
theorem uqX10_trace_35 {x1 : Int32} {h : ea_H} {P : Unit × ea_H → Prop} (H : sat (BX10_trace_35 qX10_trace_35 x1 h) P) : sat (qX10_trace_35 x1 h) P := by
  obtain ⟨x, e, hp⟩ := H
  obtain ⟨n, hn⟩ := nBX10_trace_35 fqX10_trace_35 x e
  exact ⟨x, flim_at (fun f => (mgX10_trace f).2 x1 h) (f := n + 1) (hn n (Nat.le_refl _)), hp⟩
theorem kgX10_trace : ∀ f : Nat, (∀ (h : ea_H), kp (ea_core h) ((gX10_trace f).1 h)) ∧ (∀ (x1 : Int32) (h : ea_H), kp (ea_core h) ((gX10_trace f).2 x1 h)) := by
  intro f
  induction f with
  | zero => exact ⟨fun _ => kp_none _, fun _ _ => kp_none _⟩
  | succ f ih => exact ⟨fun _ => kBX10_trace_0 ih.2, fun _ _ => kBX10_trace_35 ih.2⟩
theorem tgX10_trace {d : Nat} {h0 : ea_H} (hd : 4 ≤ d) : ∀ f : Nat, (∀ (h : ea_H) (r : Unit) (h' : ea_H), (gX10_trace f).1 h = some (r, h') → ShC h → ea_W mX10_trace d h0 none h' 0 [(0, vR (some 13))] [] h) ∧ (∀ (x1 : Int32) (h : ea_H) (r : Unit) (h' : ea_H), (gX10_trace f).2 x1 h = some (r, h') → ShC h → ea_W mX10_trace d h0 none h' 35 [(0, vR (some 13)), (1, vI x1)] [] h) := by
  intro f
  induction f with
  | zero => exact ⟨fun _ _ _ E => no_some E, fun _ _ _ _ E => no_some E⟩
  | succ f ih => exact ⟨fun _ _ _ E hs => tBX10_trace_0 hd ih.2 E hs, fun _ _ _ _ E hs => tBX10_trace_35 hd ih.2 E hs⟩
noncomputable def qX10_trace (h : ea_H) : Option (Unit × ea_H) := qX10_trace_0  h
theorem sX10_trace {d : Nat} {h : ea_H} {r : Unit} {h' : ea_H} (hd : 4 ≤ d) (hs : ShC h) (K : qX10_trace h = some (r, h')) : ea_Met mX10_trace d [vR (some 13)] h none h' := by
  unfold qX10_trace at K
  obtain ⟨n, hn⟩ := fqX10_trace_0  h _ K
  have W := (tgX10_trace (d := d) (h0 := h) hd n).1  h _ _ (hn n (Nat.le_refl _)) hs
  exact ea_enter rfl (Nat.le_of_ble_eq_true rfl) W
theorem kpX10_trace (h : ea_H) : kp (ea_core h) (qX10_trace h) := fun x e => by
  obtain ⟨n, hn⟩ := fqX10_trace_0  h x e
  exact (kgX10_trace n).1  h x (hn n (Nat.le_refl _))
noncomputable def BX11_found_0 (x1 : Int32) (x2 : Int32) (h : ea_H) : Option (Int32 × ea_H) :=
  (Option.bind (qX11_letterOf (x1 : Int32) h) fun w1 => (if w1.1 = none then (some ((0 : Int32), w1.2)) else (gd (vp_in x1 120) (if (ea_i w1.2 53 (Int32.toNatClampNeg x1)) = (3 : Int32) then (gd (w1.1 = some (Option.getD w1.1 0)) (gd (((Option.getD w1.1 0) < ea_n w1.2 ∧ ea_c w1.2 (Option.getD w1.1 0) = 5)) (Option.bind (qX5_rowOfPlace (Option.getD w1.1 0) (x2 : Int32) w1.2) fun w3 => (if w3.1 = ((-1) : Int32) then (some ((0 : Int32), w3.2)) else (Option.bind (qX1_move_at52 (x1 : Int32) ((ea_i w3.2 0 14) : Int32) (5 : Int32) (x2 : Int32) w3.2) fun w6 => (ea_let (ea_wi w6.2 0 15 0) fun H7 => (some ((1 : Int32), H7)))))))) else (some ((0 : Int32), w1.2))))))
theorem tBX11_found_0 {d : Nat} {h0 : ea_H} (hd : 4 ≤ d)  {x1 : Int32} {x2 : Int32} {h : ea_H} {r : Int32} {h' : ea_H} (E : BX11_found_0 x1 x2 h = some (r, h')) (hs : ShC h) : ea_W mX11_found d h0 (some (vI r)) h' 0 [(0, vR (some 0)), (1, vI x1), (2, vI x2)] [] h := by
  unfold BX11_found_0 at E
  obtain ⟨w1, Ew1, E⟩ := bd_some E
  have hsw1 : ShC w1.2 := ShC_core ((kpX11_letterOf _ _) _ Ew1) hs
  refine ea_aload_n (pc := 0) dX11_found_0 rfl 0 rfl ?_
  refine ea_iload_n (pc := 1) dX11_found_1 rfl 1 rfl ?_
  refine ea_callV (pc := 2) (d' := d - 1) (As := [vI x1]) (st := []) dX11_found_2 kX11_letterOf (sX11_letterOf (d := d - 1) (by omega) hs Ew1) (by omega) rfl (Nat.le_of_ble_eq_true rfl) ew_1130 ew_1132 ew_37 (ci := 11) rfl (by decide) (cShC_0 hs).1 (cShC_0 hs).2.1 ?_
  refine ea_astore_n (pc := 5) (lv' := [(0, vR (some 0)), (1, vI x1), (2, vI x2), (3, vR w1.1)]) dX11_found_5 rfl (Nat.le_of_ble_eq_true rfl) [1, 2, 3, 0] rfl ?_
  refine ea_aload_n (pc := 6) dX11_found_6 rfl 3 rfl ?_
  refine ea_ifnull (pc := 7) (tgt := 32) dX11_found_7 rfl (fun c10 => ?_) (fun a11 c10 => ?_)
  · have E := (if_pos c10).symm.trans E
    refine ea_iconst (pc := 32) dX11_found_32 (v := 0) rfl ?_
    exact ea_iretO (pc := 33) dX11_found_33 rfl (ea_bn (Or.inl rfl)) E
  · have c10n : ¬ w1.1 = none := by rw [c10]; exact fun q => nomatch q
    have E := (if_neg c10n).symm.trans E
    obtain ⟨z2, E⟩ := gd_some E
    refine ea_aload_n (pc := 10) dX11_found_10 rfl 0 rfl ?_
    refine ea_getR (pc := 11) dX11_found_11 ec_11 (k := 7) (Nat.le_of_ble_eq_true rfl) rfl (Or.inl ew_621) (cShC_0 hsw1).1 (cShC_0 hsw1).2.1 (rShC_0_7 hsw1) ?_
    refine ea_getR (pc := 14) dX11_found_14 ec_1 (k := 1) (Nat.le_of_ble_eq_true rfl) rfl (Or.inl ew_444) (cShC_52 hsw1).1 (cShC_52 hsw1).2.1 (rShC_52_1 hsw1) ?_
    refine ea_iload_n (pc := 17) dX11_found_17 rfl 1 rfl ?_
    refine ea_iald (pc := 18) dX11_found_18 (cShC_53 hsw1).1 (cShC_53 hsw1).2.1 (ea_vpl (cShC_53 hsw1).2.2 z2) ?_
    refine ea_iconst (pc := 19) dX11_found_19 (v := 3) rfl ?_
    refine ea_icmp_ne (pc := 20) (tgt := 32) dX11_found_20 rfl (fun c9 => ?_) (fun c9 => ?_)
    · have E := (if_neg c9).symm.trans E
      refine ea_iconst (pc := 32) dX11_found_32 (v := 0) rfl ?_
      exact ea_iretO (pc := 33) dX11_found_33 rfl (ea_bn (Or.inl rfl)) E
    · have E := (if_pos c9).symm.trans E
      obtain ⟨e4, E⟩ := gd_some E
      refine ea_aload_n (pc := 23) dX11_found_23 rfl 3 rfl ?_
      refine ea_iload_n (pc := 24) dX11_found_24 rfl 2 rfl ?_
      obtain ⟨f5, E⟩ := gd_some E
      obtain ⟨w3, Ew3, E⟩ := bd_some E
      have hsw3 : ShC w3.2 := ShC_core ((kpX5_rowOfPlace _ _ _) _ Ew3) hsw1
      refine ea_deref1 e4 ?_
      refine ea_callV (pc := 25) (d' := d - 1) (As := [vI x2]) (st := []) dX11_found_25 kX5_rowOfPlace (sX5_rowOfPlace (d := d - 1) (by omega) Ew3) (by omega) rfl (Nat.le_of_ble_eq_true rfl) ew_1298 ew_1270 ew_1271 (ci := 5) rfl (by decide) f5.1 f5.2 ?_
      refine ea_iconst (pc := 28) dX11_found_28 (v := (-1)) rfl ?_
      refine ea_icmp_ne (pc := 29) (tgt := 34) dX11_found_29 rfl (fun c8 => ?_) (fun c8 => ?_)
      · have E := (if_neg c8).symm.trans E
        obtain ⟨w6, Ew6, E⟩ := bd_some E
        have hsw6 : ShC w6.2 := ShC_core ((kpX1_move_at52 _ _ _ _ _) _ Ew6) hsw3
        refine ea_aload_n (pc := 34) dX11_found_34 rfl 0 rfl ?_
        refine ea_getR (pc := 35) dX11_found_35 ec_11 (k := 7) (Nat.le_of_ble_eq_true rfl) rfl (Or.inl ew_621) (cShC_0 hsw3).1 (cShC_0 hsw3).2.1 (rShC_0_7 hsw3) ?_
        refine ea_iload_n (pc := 38) dX11_found_38 rfl 1 rfl ?_
        refine ea_aload_n (pc := 39) dX11_found_39 rfl 0 rfl ?_
        refine ea_getI (pc := 40) dX11_found_40 ec_11 (k := 14) (Nat.le_of_ble_eq_true rfl) rfl (Or.inl ew_628) (cShC_0 hsw3).1 (cShC_0 hsw3).2.1 ?_
        refine ea_iconst (pc := 43) dX11_found_43 (v := 5) rfl ?_
        refine ea_iload_n (pc := 44) dX11_found_44 rfl 2 rfl ?_
        refine ea_callV (pc := 45) (d' := d - 1) (As := [vI x1, vI (ea_i w3.2 0 14), vI 5, vI x2]) (st := []) dX11_found_45 kX1_move (sX1_move_at52 (d := d - 1) (by omega) hsw3 Ew6) (by omega) rfl (Nat.le_of_ble_eq_true rfl) ew_1299 ew_852 ew_853 (ci := 1) rfl (by decide) (cShC_52 hsw3).1 (cShC_52 hsw3).2.1 ?_
        obtain ⟨H7, eH7, E⟩ := let_some E
        refine ea_aload_n (pc := 48) dX11_found_48 rfl 0 rfl ?_
        refine ea_iconst (pc := 49) dX11_found_49 (v := 0) rfl ?_
        refine ea_putI (pc := 50) dX11_found_50 ec_11 (k := 15) (Nat.le_of_ble_eq_true rfl) rfl (Or.inl ⟨rfl, Or.inl ew_629⟩) (ea_bn (Or.inl rfl)) (ea_bf (Or.inl rfl)) (cShC_0 hsw6).1 (cShC_0 hsw6).2.1 ?_
        refine ea_nm eH7 ?_
        have hsH7 : ShC H7 := by rw [eH7]; exact hsw6
        refine ea_iconst (pc := 53) dX11_found_53 (v := 1) rfl ?_
        exact ea_iretO (pc := 54) dX11_found_54 rfl (ea_bn (Or.inr rfl)) E
      · have E := (if_pos c8).symm.trans E
        refine ea_iconst (pc := 32) dX11_found_32 (v := 0) rfl ?_
        exact ea_iretO (pc := 33) dX11_found_33 rfl (ea_bn (Or.inl rfl)) E
theorem kBX11_found_0  {x1 : Int32} {x2 : Int32} {h : ea_H} : kp (ea_core h) (BX11_found_0 x1 x2 h) :=
  (kp_bind (kp_tw (kpX11_letterOf _ _) rfl) fun w1 hcw1 => (kp_ite (kp_ret hcw1) (kp_gd (kp_ite (kp_gd (kp_gd (kp_bind (kp_tw (kpX5_rowOfPlace _ _ _) hcw1) fun w3 hcw3 => (kp_ite (kp_ret hcw3) (kp_bind (kp_tw (kpX1_move_at52 _ _ _ _ _) hcw3) fun w6 hcw6 => (kp_let (kp_ret hcw6))))))) (kp_ret hcw1)))))
noncomputable def qX11_found (x1 : Int32) (x2 : Int32) (h : ea_H) : Option (Int32 × ea_H) := BX11_found_0 x1 x2 h
theorem sX11_found {d : Nat} {x1 : Int32} {x2 : Int32} {h : ea_H} {r : Int32} {h' : ea_H} (hd : 4 ≤ d) (hs : ShC h) (K : qX11_found x1 x2 h = some (r, h')) : ea_Met mX11_found d [vR (some 0), vI x1, vI x2] h (some (vI r)) h' := by
  unfold qX11_found at K
  have W := tBX11_found_0 hd (h0 := h) K hs
  exact ea_enter rfl (Nat.le_of_ble_eq_true rfl) W
theorem kpX11_found (x1 : Int32) (x2 : Int32) (h : ea_H) : kp (ea_core h) (qX11_found x1 x2 h) := kBX11_found_0
noncomputable def BX11_rob_0 (J77 : Int32 → Int32 → Int32 → ea_H → Option (Int32 × ea_H)) (x1 : Int32) (x2 : Int32) (h : ea_H) : Option (Int32 × ea_H) :=
  (Option.bind (qX9_hasRun (x1 : Int32) (x2 : Int32) h) fun w1 => (if w1.1 = (0 : Int32) then (some (((-1) : Int32), w1.2)) else (if (20 : Int32) ≤ (ea_i w1.2 0 13) then (some (((-1) : Int32), w1.2)) else (Option.bind (qX11_isUnderWay (x1 : Int32) (x2 : Int32) w1.2) fun w2 => (if w2.1 = (0 : Int32) then (some (((-1) : Int32), w2.2)) else (ea_let (((10 : Int32) * x2) + x1) fun (v3 : Int32) => (ea_let (ea_i w2.2 0 13) fun (v4 : Int32) => (gd (vp_in v4 20) (ea_let (ea_wi w2.2 73 (Int32.toNatClampNeg v4) v3) fun H6 => (gd (vp_in v4 20) (ea_let (ea_wi H6 74 (Int32.toNatClampNeg v4) (ea_i H6 0 14)) fun H8 => (ea_let (ea_wi H8 0 13 ((ea_i H8 0 13) + (1 : Int32))) fun H9 => (J77 (v3 : Int32) (v4 : Int32) (0 : Int32) H9)))))))))))))
theorem tBX11_rob_0 {d : Nat} {h0 : ea_H} (hd : 4 ≤ d) {J77 : Int32 → Int32 → Int32 → ea_H → Option (Int32 × ea_H)}  (kJ77 : ∀ (x3 : Int32) (x4 : Int32) (x5 : Int32) (h : ea_H) (r : Int32) (h' : ea_H), J77 x3 x4 x5 h = some (r, h') → ShC h → ea_W mX11_rob d h0 (some (vI r)) h' 77 [(0, vR (some 0)), (3, vI x3), (4, vI x4), (5, vI x5)] [] h) {x1 : Int32} {x2 : Int32} {h : ea_H} {r : Int32} {h' : ea_H} (E : BX11_rob_0 J77 x1 x2 h = some (r, h')) (hs : ShC h) : ea_W mX11_rob d h0 (some (vI r)) h' 0 [(0, vR (some 0)), (1, vI x1), (2, vI x2)] [] h := by
  unfold BX11_rob_0 at E
  obtain ⟨w1, Ew1, E⟩ := bd_some E
  have hsw1 : ShC w1.2 := ShC_core ((kpX9_hasRun _ _ _) _ Ew1) hs
  refine ea_aload_n (pc := 0) dX11_rob_0 rfl 0 rfl ?_
  refine ea_getR (pc := 1) dX11_rob_1 ec_11 (k := 1) (Nat.le_of_ble_eq_true rfl) rfl (Or.inl ew_615) (cShC_0 hs).1 (cShC_0 hs).2.1 (rShC_0_1 hs) ?_
  refine ea_iload_n (pc := 4) dX11_rob_4 rfl 1 rfl ?_
  refine ea_iload_n (pc := 5) dX11_rob_5 rfl 2 rfl ?_
  refine ea_callV (pc := 6) (d' := d - 1) (As := [vI x1, vI x2]) (st := []) dX11_rob_6 kX9_hasRun (sX9_hasRun (d := d - 1) (by omega) hs Ew1) (by omega) rfl (Nat.le_of_ble_eq_true rfl) ew_728 ew_729 ew_730 (ci := 9) rfl (by decide) (cShC_5 hs).1 (cShC_5 hs).2.1 ?_
  refine ea_if_eq (pc := 9) (tgt := 30) dX11_rob_9 rfl (fun c12 => ?_) (fun c12 => ?_)
  · have E := (if_pos c12).symm.trans E
    refine ea_iconst (pc := 30) dX11_rob_30 (v := (-1)) rfl ?_
    exact ea_iretO (pc := 31) dX11_rob_31 rfl rfl E
  · have E := (if_neg c12).symm.trans E
    refine ea_aload_n (pc := 12) dX11_rob_12 rfl 0 rfl ?_
    refine ea_getI (pc := 13) dX11_rob_13 ec_11 (k := 13) (Nat.le_of_ble_eq_true rfl) rfl (Or.inl ew_627) (cShC_0 hsw1).1 (cShC_0 hsw1).2.1 ?_
    refine ea_bipush (pc := 16) dX11_rob_16 (v := 20) rfl ?_
    refine ea_icmp_ge (pc := 18) (tgt := 30) dX11_rob_18 rfl (fun c11 => ?_) (fun c11 => ?_)
    · have E := (if_pos c11).symm.trans E
      refine ea_iconst (pc := 30) dX11_rob_30 (v := (-1)) rfl ?_
      exact ea_iretO (pc := 31) dX11_rob_31 rfl rfl E
    · have E := (if_neg c11).symm.trans E
      obtain ⟨w2, Ew2, E⟩ := bd_some E
      have hsw2 : ShC w2.2 := ShC_core ((kpX11_isUnderWay _ _ _) _ Ew2) hsw1
      refine ea_aload_n (pc := 21) dX11_rob_21 rfl 0 rfl ?_
      refine ea_iload_n (pc := 22) dX11_rob_22 rfl 1 rfl ?_
      refine ea_iload_n (pc := 23) dX11_rob_23 rfl 2 rfl ?_
      refine ea_callV (pc := 24) (d' := d - 1) (As := [vI x1, vI x2]) (st := []) dX11_rob_24 kX11_isUnderWay (sX11_isUnderWay (d := d - 1) (by omega) hsw1 Ew2) (by omega) rfl (Nat.le_of_ble_eq_true rfl) ew_1304 ew_1306 ew_46 (ci := 11) rfl (by decide) (cShC_0 hsw1).1 (cShC_0 hsw1).2.1 ?_
      refine ea_if_ne (pc := 27) (tgt := 32) dX11_rob_27 rfl (fun c10 => ?_) (fun c10 => ?_)
      · have E := (if_neg c10).symm.trans E
        obtain ⟨v3, ev3, E⟩ := let_some E
        refine ea_bipush (pc := 32) dX11_rob_32 (v := 10) rfl ?_
        refine ea_iload_n (pc := 34) dX11_rob_34 rfl 2 rfl ?_
        refine ea_imul (pc := 35) dX11_rob_35 ?_
        refine ea_iload_n (pc := 36) dX11_rob_36 rfl 1 rfl ?_
        refine ea_iadd (pc := 37) dX11_rob_37 ?_
        obtain ⟨v4, ev4, E⟩ := let_some E
        refine ea_istore_n (pc := 38) (lv' := [(0, vR (some 0)), (3, vI v3)]) dX11_rob_38 rfl (Nat.le_of_ble_eq_true rfl) [1, 0] (by rw [ev3]; rfl) ?_
        refine ea_aload_n (pc := 39) dX11_rob_39 rfl 0 rfl ?_
        refine ea_getI (pc := 40) dX11_rob_40 ec_11 (k := 13) (Nat.le_of_ble_eq_true rfl) rfl (Or.inl ew_627) (cShC_0 hsw2).1 (cShC_0 hsw2).2.1 ?_
        obtain ⟨z5, E⟩ := gd_some E
        refine ea_istore (pc := 43) (lv' := [(0, vR (some 0)), (3, vI v3), (4, vI v4)]) dX11_rob_43 (Nat.le_of_ble_eq_true rfl) [1, 2, 0] (by rw [ev4]; rfl) ?_
        refine ea_aload_n (pc := 45) dX11_rob_45 rfl 0 rfl ?_
        refine ea_getR (pc := 46) dX11_rob_46 ec_11 (k := 10) (Nat.le_of_ble_eq_true rfl) rfl (Or.inl ew_624) (cShC_0 hsw2).1 (cShC_0 hsw2).2.1 (rShC_0_10 hsw2) ?_
        refine ea_iload (pc := 49) dX11_rob_49 2 rfl ?_
        refine ea_iload_n (pc := 51) dX11_rob_51 rfl 1 rfl ?_
        obtain ⟨H6, eH6, E⟩ := let_some E
        refine ea_iast (pc := 52) dX11_rob_52 (cShC_73 hsw2).1 (cShC_73 hsw2).2.1 (ea_vpl (cShC_73 hsw2).2.2 z5) ?_
        refine ea_nm eH6 ?_
        have hsH6 : ShC H6 := by rw [eH6]; exact hsw2
        obtain ⟨z7, E⟩ := gd_some E
        refine ea_aload_n (pc := 53) dX11_rob_53 rfl 0 rfl ?_
        refine ea_getR (pc := 54) dX11_rob_54 ec_11 (k := 11) (Nat.le_of_ble_eq_true rfl) rfl (Or.inl ew_625) (cShC_0 hsH6).1 (cShC_0 hsH6).2.1 (rShC_0_11 hsH6) ?_
        refine ea_iload (pc := 57) dX11_rob_57 2 rfl ?_
        refine ea_aload_n (pc := 59) dX11_rob_59 rfl 0 rfl ?_
        refine ea_getI (pc := 60) dX11_rob_60 ec_11 (k := 14) (Nat.le_of_ble_eq_true rfl) rfl (Or.inl ew_628) (cShC_0 hsH6).1 (cShC_0 hsH6).2.1 ?_
        obtain ⟨H8, eH8, E⟩ := let_some E
        refine ea_iast (pc := 63) dX11_rob_63 (cShC_74 hsH6).1 (cShC_74 hsH6).2.1 (ea_vpl (cShC_74 hsH6).2.2 z7) ?_
        refine ea_nm eH8 ?_
        have hsH8 : ShC H8 := by rw [eH8]; exact hsH6
        obtain ⟨H9, eH9, E⟩ := let_some E
        refine ea_aload_n (pc := 64) dX11_rob_64 rfl 0 rfl ?_
        refine ea_dup (pc := 65) dX11_rob_65 rfl ?_
        refine ea_getI (pc := 66) dX11_rob_66 ec_11 (k := 13) (Nat.le_of_ble_eq_true rfl) rfl (Or.inl ew_627) (cShC_0 hsH8).1 (cShC_0 hsH8).2.1 ?_
        refine ea_iconst (pc := 69) dX11_rob_69 (v := 1) rfl ?_
        refine ea_iadd (pc := 70) dX11_rob_70 ?_
        refine ea_putI (pc := 71) dX11_rob_71 ec_11 (k := 13) (Nat.le_of_ble_eq_true rfl) rfl (Or.inl ⟨rfl, Or.inl ew_627⟩) rfl rfl (cShC_0 hsH8).1 (cShC_0 hsH8).2.1 ?_
        refine ea_nm eH9 ?_
        have hsH9 : ShC H9 := by rw [eH9]; exact hsH8
        refine ea_iconst (pc := 74) dX11_rob_74 (v := 0) rfl ?_
        refine ea_istore (pc := 75) (lv' := [(0, vR (some 0)), (3, vI v3), (4, vI v4), (5, vI 0)]) dX11_rob_75 (Nat.le_of_ble_eq_true rfl) [1, 2, 3, 0] rfl ?_
        exact (kJ77 (v3 : Int32) (v4 : Int32) (0 : Int32) H9 _ _ E hsH9)
      · have E := (if_pos c10).symm.trans E
        refine ea_iconst (pc := 30) dX11_rob_30 (v := (-1)) rfl ?_
        exact ea_iretO (pc := 31) dX11_rob_31 rfl rfl E
theorem kBX11_rob_0 {J77 : Int32 → Int32 → Int32 → ea_H → Option (Int32 × ea_H)}  (cJ77 : ∀ (x3 : Int32) (x4 : Int32) (x5 : Int32) (h : ea_H), kp (ea_core h) (J77 x3 x4 x5 h)) {x1 : Int32} {x2 : Int32} {h : ea_H} : kp (ea_core h) (BX11_rob_0 J77 x1 x2 h) :=
  (kp_bind (kp_tw (kpX9_hasRun _ _ _) rfl) fun w1 hcw1 => (kp_ite (kp_ret hcw1) (kp_ite (kp_ret hcw1) (kp_bind (kp_tw (kpX11_isUnderWay _ _ _) hcw1) fun w2 hcw2 => (kp_ite (kp_ret hcw2) (kp_let (kp_let (kp_gd (kp_let (kp_gd (kp_let (kp_let (kp_tw (cJ77 _ _ _ _) hcw2)))))))))))))
theorem lBX11_rob_0 {J77 : Int32 → Int32 → Int32 → ea_H → Option (Int32 × ea_H)} {J77_ : Int32 → Int32 → Int32 → ea_H → Option (Int32 × ea_H)}  (mJ77 : ∀ (x3 : Int32) (x4 : Int32) (x5 : Int32) (h : ea_H), fle (J77 x3 x4 x5 h) (J77_ x3 x4 x5 h)) {x1 : Int32} {x2 : Int32} {h : ea_H} : fle (BX11_rob_0 J77 x1 x2 h) (BX11_rob_0 J77_ x1 x2 h) :=
  (fle_bind (fle_rfl _) fun _ => (fle_ite (fle_rfl _) (fle_ite (fle_rfl _) (fle_bind (fle_rfl _) fun _ => (fle_ite (fle_rfl _) (fle_let fun _ => (fle_let fun _ => (fle_gd (fle_let fun _ => (fle_gd (fle_let fun _ => (fle_let fun _ => (mJ77 _ _ _ _)))))))))))))
theorem nBX11_rob_0 {J77 : Int32 → Int32 → Int32 → ea_H → Option (Int32 × ea_H)} {J77_ : Nat → (Int32 → Int32 → Int32 → ea_H → Option (Int32 × ea_H))}  (mJ77 : ∀ (x3 : Int32) (x4 : Int32) (x5 : Int32) (h : ea_H), fct (J77 x3 x4 x5 h) (fun f => J77_ f x3 x4 x5 h)) {x1 : Int32} {x2 : Int32} {h : ea_H} : fct (BX11_rob_0 J77 x1 x2 h) (fun f => BX11_rob_0 (J77_ f) x1 x2 h) :=
  (fct_bind (fct_rfl _) fun _ => (fct_ite (fct_rfl _) (fct_ite (fct_rfl _) (fct_bind (fct_rfl _) fun _ => (fct_ite (fct_rfl _) (fct_let fun _ => (fct_let fun _ => (fct_gd (fct_let fun _ => (fct_gd (fct_let fun _ => (fct_let fun _ => (mJ77 _ _ _ _)))))))))))))
noncomputable def BX11_rob_77 (J77 : Int32 → Int32 → Int32 → ea_H → Option (Int32 × ea_H)) (x3 : Int32) (x4 : Int32) (x5 : Int32) (h : ea_H) : Option (Int32 × ea_H) :=
  (if (ea_i h 52 0) ≤ x5 then (ea_let (ea_wi h 0 15 0) fun H13 => (some (x4, H13))) else (Option.bind (qX1_isAboard_at52 (x5 : Int32) (x3 : Int32) h) fun w14 => (if w14.1 = (0 : Int32) then (J77 (x3 : Int32) (x4 : Int32) ((x5 + (1 : Int32)) : Int32) w14.2) else (gd (vp_in x5 120) (if (ea_i w14.2 57 (Int32.toNatClampNeg x5)) = (0 : Int32) then (J77 (x3 : Int32) (x4 : Int32) ((x5 + (1 : Int32)) : Int32) w14.2) else (gd (vp_in x5 120) (ea_let (ea_wi w14.2 75 (Int32.toNatClampNeg x5) x4) fun H17 => (Option.bind (qX1_move_at52 (x5 : Int32) ((ea_i H17 0 14) : Int32) (4 : Int32) (x3 : Int32) H17) fun w18 => (J77 (x3 : Int32) (x4 : Int32) ((x5 + (1 : Int32)) : Int32) w18.2)))))))))
theorem tBX11_rob_77 {d : Nat} {h0 : ea_H} (hd : 4 ≤ d) {J77 : Int32 → Int32 → Int32 → ea_H → Option (Int32 × ea_H)}  (kJ77 : ∀ (x3 : Int32) (x4 : Int32) (x5 : Int32) (h : ea_H) (r : Int32) (h' : ea_H), J77 x3 x4 x5 h = some (r, h') → ShC h → ea_W mX11_rob d h0 (some (vI r)) h' 77 [(0, vR (some 0)), (3, vI x3), (4, vI x4), (5, vI x5)] [] h) {x3 : Int32} {x4 : Int32} {x5 : Int32} {h : ea_H} {r : Int32} {h' : ea_H} (E : BX11_rob_77 J77 x3 x4 x5 h = some (r, h')) (hs : ShC h) : ea_W mX11_rob d h0 (some (vI r)) h' 77 [(0, vR (some 0)), (3, vI x3), (4, vI x4), (5, vI x5)] [] h := by
  unfold BX11_rob_77 at E
  refine ea_iload (pc := 77) dX11_rob_77 3 rfl ?_
  refine ea_aload_n (pc := 79) dX11_rob_79 rfl 0 rfl ?_
  refine ea_getR (pc := 80) dX11_rob_80 ec_11 (k := 7) (Nat.le_of_ble_eq_true rfl) rfl (Or.inl ew_621) (cShC_0 hs).1 (cShC_0 hs).2.1 (rShC_0_7 hs) ?_
  refine ea_getI (pc := 83) dX11_rob_83 ec_1 (k := 0) (Nat.le_of_ble_eq_true rfl) rfl (Or.inl ew_442) (cShC_52 hs).1 (cShC_52 hs).2.1 ?_
  refine ea_icmp_ge (pc := 86) (tgt := 145) dX11_rob_86 rfl (fun c21 => ?_) (fun c21 => ?_)
  · have E := (if_pos c21).symm.trans E
    obtain ⟨H13, eH13, E⟩ := let_some E
    refine ea_aload_n (pc := 145) dX11_rob_145 rfl 0 rfl ?_
    refine ea_iconst (pc := 146) dX11_rob_146 (v := 0) rfl ?_
    refine ea_putI (pc := 147) dX11_rob_147 ec_11 (k := 15) (Nat.le_of_ble_eq_true rfl) rfl (Or.inl ⟨rfl, Or.inl ew_629⟩) (ea_bn (Or.inl rfl)) (ea_bf (Or.inl rfl)) (cShC_0 hs).1 (cShC_0 hs).2.1 ?_
    refine ea_nm eH13 ?_
    have hsH13 : ShC H13 := by rw [eH13]; exact hs
    refine ea_iload (pc := 150) dX11_rob_150 2 rfl ?_
    exact ea_iretO (pc := 152) dX11_rob_152 rfl rfl E
  · have E := (if_neg c21).symm.trans E
    obtain ⟨w14, Ew14, E⟩ := bd_some E
    have hsw14 : ShC w14.2 := ShC_core ((kpX1_isAboard_at52 _ _ _) _ Ew14) hs
    refine ea_aload_n (pc := 89) dX11_rob_89 rfl 0 rfl ?_
    refine ea_getR (pc := 90) dX11_rob_90 ec_11 (k := 7) (Nat.le_of_ble_eq_true rfl) rfl (Or.inl ew_621) (cShC_0 hs).1 (cShC_0 hs).2.1 (rShC_0_7 hs) ?_
    refine ea_iload (pc := 93) dX11_rob_93 3 rfl ?_
    refine ea_iload_n (pc := 95) dX11_rob_95 rfl 1 rfl ?_
    refine ea_callV (pc := 96) (d' := d - 1) (As := [vI x5, vI x3]) (st := []) dX11_rob_96 kX1_isAboard (sX1_isAboard_at52 (d := d - 1) (by omega) hs Ew14) (by omega) rfl (Nat.le_of_ble_eq_true rfl) ew_1308 ew_897 ew_898 (ci := 1) rfl (by decide) (cShC_52 hs).1 (cShC_52 hs).2.1 ?_
    refine ea_if_eq (pc := 99) (tgt := 139) dX11_rob_99 rfl (fun c20 => ?_) (fun c20 => ?_)
    · have E := (if_pos c20).symm.trans E
      refine ea_iinc (pc := 139) (v := 1) (lv' := [(0, vR (some 0)), (3, vI x3), (4, vI x4), (5, vI (x5 + (1 : Int32)))]) dX11_rob_139 3 rfl rfl (Nat.le_of_ble_eq_true rfl) [1, 2, 3, 0] rfl ?_
      refine ea_goto (pc := 142) (tgt := 77) dX11_rob_142 rfl ?_
      exact (kJ77 (x3 : Int32) (x4 : Int32) ((x5 + (1 : Int32)) : Int32) w14.2 _ _ E hsw14)
    · have E := (if_neg c20).symm.trans E
      obtain ⟨z15, E⟩ := gd_some E
      refine ea_aload_n (pc := 102) dX11_rob_102 rfl 0 rfl ?_
      refine ea_getR (pc := 103) dX11_rob_103 ec_11 (k := 7) (Nat.le_of_ble_eq_true rfl) rfl (Or.inl ew_621) (cShC_0 hsw14).1 (cShC_0 hsw14).2.1 (rShC_0_7 hsw14) ?_
      refine ea_getR (pc := 106) dX11_rob_106 ec_1 (k := 5) (Nat.le_of_ble_eq_true rfl) rfl (Or.inl ew_452) (cShC_52 hsw14).1 (cShC_52 hsw14).2.1 (rShC_52_5 hsw14) ?_
      refine ea_iload (pc := 109) dX11_rob_109 3 rfl ?_
      refine ea_zald (pc := 111) dX11_rob_111 (cShC_57 hsw14).1 (cShC_57 hsw14).2.1 (ea_vpl (cShC_57 hsw14).2.2 z15) ?_
      refine ea_if_eq (pc := 112) (tgt := 139) dX11_rob_112 rfl (fun c19 => ?_) (fun c19 => ?_)
      · have E := (if_pos c19).symm.trans E
        refine ea_iinc (pc := 139) (v := 1) (lv' := [(0, vR (some 0)), (3, vI x3), (4, vI x4), (5, vI (x5 + (1 : Int32)))]) dX11_rob_139 3 rfl rfl (Nat.le_of_ble_eq_true rfl) [1, 2, 3, 0] rfl ?_
        refine ea_goto (pc := 142) (tgt := 77) dX11_rob_142 rfl ?_
        exact (kJ77 (x3 : Int32) (x4 : Int32) ((x5 + (1 : Int32)) : Int32) w14.2 _ _ E hsw14)
      · have E := (if_neg c19).symm.trans E
        obtain ⟨z16, E⟩ := gd_some E
        refine ea_aload_n (pc := 115) dX11_rob_115 rfl 0 rfl ?_
        refine ea_getR (pc := 116) dX11_rob_116 ec_11 (k := 12) (Nat.le_of_ble_eq_true rfl) rfl (Or.inl ew_626) (cShC_0 hsw14).1 (cShC_0 hsw14).2.1 (rShC_0_12 hsw14) ?_
        refine ea_iload (pc := 119) dX11_rob_119 3 rfl ?_
        refine ea_iload (pc := 121) dX11_rob_121 2 rfl ?_
        obtain ⟨H17, eH17, E⟩ := let_some E
        refine ea_iast (pc := 123) dX11_rob_123 (cShC_75 hsw14).1 (cShC_75 hsw14).2.1 (ea_vpl (cShC_75 hsw14).2.2 z16) ?_
        refine ea_nm eH17 ?_
        have hsH17 : ShC H17 := by rw [eH17]; exact hsw14
        obtain ⟨w18, Ew18, E⟩ := bd_some E
        have hsw18 : ShC w18.2 := ShC_core ((kpX1_move_at52 _ _ _ _ _) _ Ew18) hsH17
        refine ea_aload_n (pc := 124) dX11_rob_124 rfl 0 rfl ?_
        refine ea_getR (pc := 125) dX11_rob_125 ec_11 (k := 7) (Nat.le_of_ble_eq_true rfl) rfl (Or.inl ew_621) (cShC_0 hsH17).1 (cShC_0 hsH17).2.1 (rShC_0_7 hsH17) ?_
        refine ea_iload (pc := 128) dX11_rob_128 3 rfl ?_
        refine ea_aload_n (pc := 130) dX11_rob_130 rfl 0 rfl ?_
        refine ea_getI (pc := 131) dX11_rob_131 ec_11 (k := 14) (Nat.le_of_ble_eq_true rfl) rfl (Or.inl ew_628) (cShC_0 hsH17).1 (cShC_0 hsH17).2.1 ?_
        refine ea_iconst (pc := 134) dX11_rob_134 (v := 4) rfl ?_
        refine ea_iload_n (pc := 135) dX11_rob_135 rfl 1 rfl ?_
        refine ea_callV (pc := 136) (d' := d - 1) (As := [vI x5, vI (ea_i H17 0 14), vI 4, vI x3]) (st := []) dX11_rob_136 kX1_move (sX1_move_at52 (d := d - 1) (by omega) hsH17 Ew18) (by omega) rfl (Nat.le_of_ble_eq_true rfl) ew_1299 ew_852 ew_853 (ci := 1) rfl (by decide) (cShC_52 hsH17).1 (cShC_52 hsH17).2.1 ?_
        refine ea_iinc (pc := 139) (v := 1) (lv' := [(0, vR (some 0)), (3, vI x3), (4, vI x4), (5, vI (x5 + (1 : Int32)))]) dX11_rob_139 3 rfl rfl (Nat.le_of_ble_eq_true rfl) [1, 2, 3, 0] rfl ?_
        refine ea_goto (pc := 142) (tgt := 77) dX11_rob_142 rfl ?_
        exact (kJ77 (x3 : Int32) (x4 : Int32) ((x5 + (1 : Int32)) : Int32) w18.2 _ _ E hsw18)
theorem kBX11_rob_77 {J77 : Int32 → Int32 → Int32 → ea_H → Option (Int32 × ea_H)}  (cJ77 : ∀ (x3 : Int32) (x4 : Int32) (x5 : Int32) (h : ea_H), kp (ea_core h) (J77 x3 x4 x5 h)) {x3 : Int32} {x4 : Int32} {x5 : Int32} {h : ea_H} : kp (ea_core h) (BX11_rob_77 J77 x3 x4 x5 h) :=
  (kp_ite (kp_let (kp_ret rfl)) (kp_bind (kp_tw (kpX1_isAboard_at52 _ _ _) rfl) fun w14 hcw14 => (kp_ite (kp_tw (cJ77 _ _ _ _) hcw14) (kp_gd (kp_ite (kp_tw (cJ77 _ _ _ _) hcw14) (kp_gd (kp_let (kp_bind (kp_tw (kpX1_move_at52 _ _ _ _ _) hcw14) fun w18 hcw18 => (kp_tw (cJ77 _ _ _ _) hcw18)))))))))
theorem lBX11_rob_77 {J77 : Int32 → Int32 → Int32 → ea_H → Option (Int32 × ea_H)} {J77_ : Int32 → Int32 → Int32 → ea_H → Option (Int32 × ea_H)}  (mJ77 : ∀ (x3 : Int32) (x4 : Int32) (x5 : Int32) (h : ea_H), fle (J77 x3 x4 x5 h) (J77_ x3 x4 x5 h)) {x3 : Int32} {x4 : Int32} {x5 : Int32} {h : ea_H} : fle (BX11_rob_77 J77 x3 x4 x5 h) (BX11_rob_77 J77_ x3 x4 x5 h) :=
  (fle_ite (fle_rfl _) (fle_bind (fle_rfl _) fun _ => (fle_ite (mJ77 _ _ _ _) (fle_gd (fle_ite (mJ77 _ _ _ _) (fle_gd (fle_let fun _ => (fle_bind (fle_rfl _) fun _ => (mJ77 _ _ _ _)))))))))
theorem nBX11_rob_77 {J77 : Int32 → Int32 → Int32 → ea_H → Option (Int32 × ea_H)} {J77_ : Nat → (Int32 → Int32 → Int32 → ea_H → Option (Int32 × ea_H))}  (mJ77 : ∀ (x3 : Int32) (x4 : Int32) (x5 : Int32) (h : ea_H), fct (J77 x3 x4 x5 h) (fun f => J77_ f x3 x4 x5 h)) {x3 : Int32} {x4 : Int32} {x5 : Int32} {h : ea_H} : fct (BX11_rob_77 J77 x3 x4 x5 h) (fun f => BX11_rob_77 (J77_ f) x3 x4 x5 h) :=
  (fct_ite (fct_rfl _) (fct_bind (fct_rfl _) fun _ => (fct_ite (mJ77 _ _ _ _) (fct_gd (fct_ite (mJ77 _ _ _ _) (fct_gd (fct_let fun _ => (fct_bind (fct_rfl _) fun _ => (mJ77 _ _ _ _)))))))))
noncomputable def gX11_rob : Nat → (Int32 → Int32 → ea_H → Option (Int32 × ea_H)) × (Int32 → Int32 → Int32 → ea_H → Option (Int32 × ea_H))
  | 0 => (fun _ _ _ => none, fun _ _ _ _ => none)
  | f + 1 => (BX11_rob_0 (gX11_rob f).2, BX11_rob_77 (gX11_rob f).2)
theorem mgX11_rob : ∀ f : Nat, (∀ (x1 : Int32) (x2 : Int32) (h : ea_H), fle ((gX11_rob f).1 x1 x2 h) ((gX11_rob (f + 1)).1 x1 x2 h)) ∧ (∀ (x3 : Int32) (x4 : Int32) (x5 : Int32) (h : ea_H), fle ((gX11_rob f).2 x3 x4 x5 h) ((gX11_rob (f + 1)).2 x3 x4 x5 h)) := by
  intro f
  induction f with
  | zero => exact ⟨fun _ _ _ => fle_none _, fun _ _ _ _ => fle_none _⟩
  | succ f ih => exact ⟨fun _ _ _ => lBX11_rob_0 ih.2, fun _ _ _ _ => lBX11_rob_77 ih.2⟩
noncomputable def qX11_rob_0 (x1 : Int32) (x2 : Int32) (h : ea_H) : Option (Int32 × ea_H) := flim fun f => (gX11_rob f).1 x1 x2 h
noncomputable def qX11_rob_77 (x3 : Int32) (x4 : Int32) (x5 : Int32) (h : ea_H) : Option (Int32 × ea_H) := flim fun f => (gX11_rob f).2 x3 x4 x5 h
theorem fqX11_rob_0 (x1 : Int32) (x2 : Int32) (h : ea_H) : fct (qX11_rob_0 x1 x2 h) fun f => (gX11_rob f).1 x1 x2 h := flim_ct fun f => (mgX11_rob f).1 x1 x2 h
theorem fqX11_rob_77 (x3 : Int32) (x4 : Int32) (x5 : Int32) (h : ea_H) : fct (qX11_rob_77 x3 x4 x5 h) fun f => (gX11_rob f).2 x3 x4 x5 h := flim_ct fun f => (mgX11_rob f).2 x3 x4 x5 h
/-- how a block opens -/
theorem uqX11_rob_0 {x1 : Int32} {x2 : Int32} {h : ea_H} {P : Int32 × ea_H → Prop} (H : sat (BX11_rob_0 qX11_rob_77 x1 x2 h) P) : sat (qX11_rob_0 x1 x2 h) P := by
  obtain ⟨x, e, hp⟩ := H
  obtain ⟨n, hn⟩ := nBX11_rob_0 fqX11_rob_77 x e
  exact ⟨x, flim_at (fun f => (mgX11_rob f).1 x1 x2 h) (f := n + 1) (hn n (Nat.le_refl _)), hp⟩
/-- how a block opens -/
theorem uqX11_rob_77 {x3 : Int32} {x4 : Int32} {x5 : Int32} {h : ea_H} {P : Int32 × ea_H → Prop} (H : sat (BX11_rob_77 qX11_rob_77 x3 x4 x5 h) P) : sat (qX11_rob_77 x3 x4 x5 h) P := by
  obtain ⟨x, e, hp⟩ := H
  obtain ⟨n, hn⟩ := nBX11_rob_77 fqX11_rob_77 x e
  exact ⟨x, flim_at (fun f => (mgX11_rob f).2 x3 x4 x5 h) (f := n + 1) (hn n (Nat.le_refl _)), hp⟩
theorem kgX11_rob : ∀ f : Nat, (∀ (x1 : Int32) (x2 : Int32) (h : ea_H), kp (ea_core h) ((gX11_rob f).1 x1 x2 h)) ∧ (∀ (x3 : Int32) (x4 : Int32) (x5 : Int32) (h : ea_H), kp (ea_core h) ((gX11_rob f).2 x3 x4 x5 h)) := by
  intro f
  induction f with
  | zero => exact ⟨fun _ _ _ => kp_none _, fun _ _ _ _ => kp_none _⟩
  | succ f ih => exact ⟨fun _ _ _ => kBX11_rob_0 ih.2, fun _ _ _ _ => kBX11_rob_77 ih.2⟩
theorem tgX11_rob {d : Nat} {h0 : ea_H} (hd : 4 ≤ d) : ∀ f : Nat, (∀ (x1 : Int32) (x2 : Int32) (h : ea_H) (r : Int32) (h' : ea_H), (gX11_rob f).1 x1 x2 h = some (r, h') → ShC h → ea_W mX11_rob d h0 (some (vI r)) h' 0 [(0, vR (some 0)), (1, vI x1), (2, vI x2)] [] h) ∧ (∀ (x3 : Int32) (x4 : Int32) (x5 : Int32) (h : ea_H) (r : Int32) (h' : ea_H), (gX11_rob f).2 x3 x4 x5 h = some (r, h') → ShC h → ea_W mX11_rob d h0 (some (vI r)) h' 77 [(0, vR (some 0)), (3, vI x3), (4, vI x4), (5, vI x5)] [] h) := by
  intro f
  induction f with
  | zero => exact ⟨fun _ _ _ _ _ E => no_some E, fun _ _ _ _ _ _ E => no_some E⟩
  | succ f ih => exact ⟨fun _ _ _ _ _ E hs => tBX11_rob_0 hd ih.2 E hs, fun _ _ _ _ _ _ E hs => tBX11_rob_77 hd ih.2 E hs⟩
noncomputable def qX11_rob (x1 : Int32) (x2 : Int32) (h : ea_H) : Option (Int32 × ea_H) := qX11_rob_0 x1 x2 h
theorem sX11_rob {d : Nat} {x1 : Int32} {x2 : Int32} {h : ea_H} {r : Int32} {h' : ea_H} (hd : 4 ≤ d) (hs : ShC h) (K : qX11_rob x1 x2 h = some (r, h')) : ea_Met mX11_rob d [vR (some 0), vI x1, vI x2] h (some (vI r)) h' := by
  unfold qX11_rob at K
  obtain ⟨n, hn⟩ := fqX11_rob_0 x1 x2 h _ K
  have W := (tgX11_rob (d := d) (h0 := h) hd n).1 x1 x2 h _ _ (hn n (Nat.le_refl _)) hs
  exact ea_enter rfl (Nat.le_of_ble_eq_true rfl) W
theorem kpX11_rob (x1 : Int32) (x2 : Int32) (h : ea_H) : kp (ea_core h) (qX11_rob x1 x2 h) := fun x e => by
  obtain ⟨n, hn⟩ := fqX11_rob_0 x1 x2 h x e
  exact (kgX11_rob n).1 x1 x2 h x (hn n (Nat.le_refl _))
