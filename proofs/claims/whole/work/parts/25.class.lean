/-! the class, 5 -/
noncomputable def BX1_comes_at52_0 (J68 : Int32 → Int32 → Int32 → Int32 → Int32 → Int32 → ea_H → Option (Unit × ea_H)) (x1 : Int32) (x2 : Int32) (h : ea_H) : Option (Unit × ea_H) :=
  (Option.bind (qX10_trainIn (x1 : Int32) h) fun w1 => (Option.bind (qX10_stopIn (x1 : Int32) w1.2) fun w2 => (Option.bind (qX10_dayIn (x1 : Int32) w2.2) fun w3 => (ea_let (((10 : Int32) * w3.1) + w1.1) fun (v4 : Int32) => (gd (vp_in v4 70) (if (ea_i w3.2 61 (Int32.toNatClampNeg v4)) = (0 : Int32) then (some ((), w3.2)) else (Option.bind (qX9_isMissed (v4 : Int32) (w2.1 : Int32) w3.2) fun w6 => (if w6.1 = (0 : Int32) then (gd (vp_in w1.1 10) (if w2.1 = ((ea_i w6.2 6 (Int32.toNatClampNeg w1.1)) - (1 : Int32)) then (J68 (x1 : Int32) (x2 : Int32) (w1.1 : Int32) (w2.1 : Int32) (v4 : Int32) (1 : Int32) w6.2) else (J68 (x1 : Int32) (x2 : Int32) (w1.1 : Int32) (w2.1 : Int32) (v4 : Int32) (0 : Int32) w6.2))) else (some ((), w6.2))))))))))
set_option maxRecDepth 100000 in
set_option maxHeartbeats 0 in
theorem tBX1_comes_at52_0 {d : Nat} {h0 : ea_H} (hd : 4 ≤ d) {J68 : Int32 → Int32 → Int32 → Int32 → Int32 → Int32 → ea_H → Option (Unit × ea_H)}  (kJ68 : ∀ (x1 : Int32) (x2 : Int32) (x3 : Int32) (x4 : Int32) (x5 : Int32) (sx0 : Int32) (h : ea_H) (r : Unit) (h' : ea_H), J68 x1 x2 x3 x4 x5 sx0 h = some (r, h') → ShC h → ea_W mX1_comes d h0 none h' 68 [(0, vR (some 52)), (1, vI x1), (2, vI x2), (3, vI x3), (4, vI x4), (5, vI x5)] [vI sx0] h) {x1 : Int32} {x2 : Int32} {h : ea_H} {r : Unit} {h' : ea_H} (E : BX1_comes_at52_0 J68 x1 x2 h = some (r, h')) (hs : ShC h) : ea_W mX1_comes d h0 none h' 0 [(0, vR (some 52)), (1, vI x1), (2, vI x2)] [] h := by
  unfold BX1_comes_at52_0 at E
  obtain ⟨w1, Ew1, E⟩ := bd_some E
  have hsw1 : ShC w1.2 := ShC_core ((kpX10_trainIn _ _) _ Ew1) hs
  refine ea_iload_n (pc := 0) dX1_comes_0 rfl 1 rfl ?_
  refine ea_callS (pc := 1) (d' := d - 1) (As := [vI x1]) (st := []) dX1_comes_1 kX10_trainIn (sX10_trainIn (d := d - 1) (by omega) Ew1) (by omega) rfl (Nat.le_of_ble_eq_true rfl) ew_867 ew_786 ?_
  obtain ⟨w2, Ew2, E⟩ := bd_some E
  have hsw2 : ShC w2.2 := ShC_core ((kpX10_stopIn _ _) _ Ew2) hsw1
  refine ea_istore_n (pc := 4) (lv' := [(0, vR (some 52)), (1, vI x1), (2, vI x2), (3, vI w1.1)]) dX1_comes_4 rfl (Nat.le_of_ble_eq_true rfl) [1, 2, 3, 0] rfl ?_
  refine ea_iload_n (pc := 5) dX1_comes_5 rfl 1 rfl ?_
  refine ea_callS (pc := 6) (d' := d - 1) (As := [vI x1]) (st := []) dX1_comes_6 kX10_stopIn (sX10_stopIn (d := d - 1) (by omega) Ew2) (by omega) rfl (Nat.le_of_ble_eq_true rfl) ew_868 ew_789 ?_
  obtain ⟨w3, Ew3, E⟩ := bd_some E
  have hsw3 : ShC w3.2 := ShC_core ((kpX10_dayIn _ _) _ Ew3) hsw2
  refine ea_istore (pc := 9) (lv' := [(0, vR (some 52)), (1, vI x1), (2, vI x2), (3, vI w1.1), (4, vI w2.1)]) dX1_comes_9 (Nat.le_of_ble_eq_true rfl) [1, 2, 3, 4, 0] rfl ?_
  refine ea_bipush (pc := 11) dX1_comes_11 (v := 10) rfl ?_
  refine ea_iload_n (pc := 13) dX1_comes_13 rfl 1 rfl ?_
  refine ea_callS (pc := 14) (d' := d - 1) (As := [vI x1]) (st := [vI 10]) dX1_comes_14 kX10_dayIn (sX10_dayIn (d := d - 1) (by omega) Ew3) (by omega) rfl (Nat.le_of_ble_eq_true rfl) ew_869 ew_827 ?_
  obtain ⟨v4, ev4, E⟩ := let_some E
  refine ea_imul (pc := 17) dX1_comes_17 ?_
  refine ea_iload_n (pc := 18) dX1_comes_18 rfl 3 rfl ?_
  refine ea_iadd (pc := 19) dX1_comes_19 ?_
  obtain ⟨z5, E⟩ := gd_some E
  refine ea_istore (pc := 20) (lv' := [(0, vR (some 52)), (1, vI x1), (2, vI x2), (3, vI w1.1), (4, vI w2.1), (5, vI v4)]) dX1_comes_20 (Nat.le_of_ble_eq_true rfl) [1, 2, 3, 4, 5, 0] (by rw [ev4]; rfl) ?_
  refine ea_aload_n (pc := 22) dX1_comes_22 rfl 0 rfl ?_
  refine ea_getR (pc := 23) dX1_comes_23 ec_1 (k := 9) (Nat.le_of_ble_eq_true rfl) rfl (Or.inl ew_457) (cShC_52 hsw3).1 (cShC_52 hsw3).2.1 (rShC_52_9 hsw3) ?_
  refine ea_iload (pc := 26) dX1_comes_26 5 rfl ?_
  refine ea_iald (pc := 28) dX1_comes_28 (cShC_61 hsw3).1 (cShC_61 hsw3).2.1 (ea_vpl (cShC_61 hsw3).2.2 z5) ?_
  refine ea_if_eq (pc := 29) (tgt := 46) dX1_comes_29 rfl (fun c10 => ?_) (fun c10 => ?_)
  · have E := (if_pos c10).symm.trans E
    exact ea_vretO (pc := 46) dX1_comes_46 rfl E
  · have E := (if_neg c10).symm.trans E
    obtain ⟨w6, Ew6, E⟩ := bd_some E
    have hsw6 : ShC w6.2 := ShC_core ((kpX9_isMissed _ _ _) _ Ew6) hsw3
    refine ea_aload_n (pc := 32) dX1_comes_32 rfl 0 rfl ?_
    refine ea_getR (pc := 33) dX1_comes_33 ec_1 (k := 11) (Nat.le_of_ble_eq_true rfl) rfl (Or.inl ew_459) (cShC_52 hsw3).1 (cShC_52 hsw3).2.1 (rShC_52_11 hsw3) ?_
    refine ea_iload (pc := 36) dX1_comes_36 5 rfl ?_
    refine ea_iload (pc := 38) dX1_comes_38 4 rfl ?_
    refine ea_callV (pc := 40) (d' := d - 1) (As := [vI v4, vI w2.1]) (st := []) dX1_comes_40 kX9_isMissed (sX9_isMissed (d := d - 1) (by omega) hsw3 Ew6) (by omega) rfl (Nat.le_of_ble_eq_true rfl) ew_870 ew_738 ew_739 (ci := 9) rfl (by decide) (cShC_5 hsw3).1 (cShC_5 hsw3).2.1 ?_
    refine ea_if_eq (pc := 43) (tgt := 47) dX1_comes_43 rfl (fun c9 => ?_) (fun c9 => ?_)
    · have E := (if_pos c9).symm.trans E
      obtain ⟨z7, E⟩ := gd_some E
      refine ea_iload (pc := 47) dX1_comes_47 4 rfl ?_
      refine ea_aload_n (pc := 49) dX1_comes_49 rfl 0 rfl ?_
      refine ea_getR (pc := 50) dX1_comes_50 ec_1 (k := 11) (Nat.le_of_ble_eq_true rfl) rfl (Or.inl ew_459) (cShC_52 hsw6).1 (cShC_52 hsw6).2.1 (rShC_52_11 hsw6) ?_
      refine ea_getR (pc := 53) dX1_comes_53 ec_9 (k := 1) (Nat.le_of_ble_eq_true rfl) rfl (Or.inl ew_189) (cShC_5 hsw6).1 (cShC_5 hsw6).2.1 (rShC_5_1 hsw6) ?_
      refine ea_iload_n (pc := 56) dX1_comes_56 rfl 3 rfl ?_
      refine ea_iald (pc := 57) dX1_comes_57 (cShC_6 hsw6).1 (cShC_6 hsw6).2.1 (ea_vpl (cShC_6 hsw6).2.2 z7) ?_
      refine ea_iconst (pc := 58) dX1_comes_58 (v := 1) rfl ?_
      refine ea_isub (pc := 59) dX1_comes_59 ?_
      refine ea_icmp_ne (pc := 60) (tgt := 67) dX1_comes_60 rfl (fun c8 => ?_) (fun c8 => ?_)
      · have E := (if_neg c8).symm.trans E
        refine ea_iconst (pc := 67) dX1_comes_67 (v := 0) rfl ?_
        exact (kJ68 (x1 : Int32) (x2 : Int32) (w1.1 : Int32) (w2.1 : Int32) (v4 : Int32) (0 : Int32) w6.2 _ _ E hsw6)
      · have E := (if_pos c8).symm.trans E
        refine ea_iconst (pc := 63) dX1_comes_63 (v := 1) rfl ?_
        refine ea_goto (pc := 64) (tgt := 68) dX1_comes_64 rfl ?_
        exact (kJ68 (x1 : Int32) (x2 : Int32) (w1.1 : Int32) (w2.1 : Int32) (v4 : Int32) (1 : Int32) w6.2 _ _ E hsw6)
    · have E := (if_neg c9).symm.trans E
      exact ea_vretO (pc := 46) dX1_comes_46 rfl E
set_option maxRecDepth 100000 in
set_option maxHeartbeats 0 in
theorem kBX1_comes_at52_0 {J68 : Int32 → Int32 → Int32 → Int32 → Int32 → Int32 → ea_H → Option (Unit × ea_H)}  (cJ68 : ∀ (x1 : Int32) (x2 : Int32) (x3 : Int32) (x4 : Int32) (x5 : Int32) (sx0 : Int32) (h : ea_H), kp (ea_core h) (J68 x1 x2 x3 x4 x5 sx0 h)) {x1 : Int32} {x2 : Int32} {h : ea_H} : kp (ea_core h) (BX1_comes_at52_0 J68 x1 x2 h) :=
  (kp_bind (kp_tw (kpX10_trainIn _ _) rfl) fun w1 hcw1 => (kp_bind (kp_tw (kpX10_stopIn _ _) hcw1) fun w2 hcw2 => (kp_bind (kp_tw (kpX10_dayIn _ _) hcw2) fun w3 hcw3 => (kp_let (kp_gd (kp_ite (kp_ret hcw3) (kp_bind (kp_tw (kpX9_isMissed _ _ _) hcw3) fun w6 hcw6 => (kp_ite (kp_gd (kp_ite (kp_tw (cJ68 _ _ _ _ _ _ _) hcw6) (kp_tw (cJ68 _ _ _ _ _ _ _) hcw6))) (kp_ret hcw6)))))))))
set_option maxRecDepth 100000 in
set_option maxHeartbeats 0 in
theorem lBX1_comes_at52_0 {J68 : Int32 → Int32 → Int32 → Int32 → Int32 → Int32 → ea_H → Option (Unit × ea_H)} {J68_ : Int32 → Int32 → Int32 → Int32 → Int32 → Int32 → ea_H → Option (Unit × ea_H)}  (mJ68 : ∀ (x1 : Int32) (x2 : Int32) (x3 : Int32) (x4 : Int32) (x5 : Int32) (sx0 : Int32) (h : ea_H), fle (J68 x1 x2 x3 x4 x5 sx0 h) (J68_ x1 x2 x3 x4 x5 sx0 h)) {x1 : Int32} {x2 : Int32} {h : ea_H} : fle (BX1_comes_at52_0 J68 x1 x2 h) (BX1_comes_at52_0 J68_ x1 x2 h) :=
  (fle_bind (fle_rfl _) fun _ => (fle_bind (fle_rfl _) fun _ => (fle_bind (fle_rfl _) fun _ => (fle_let fun _ => (fle_gd (fle_ite (fle_rfl _) (fle_bind (fle_rfl _) fun _ => (fle_ite (fle_gd (fle_ite (mJ68 _ _ _ _ _ _ _) (mJ68 _ _ _ _ _ _ _))) (fle_rfl _)))))))))
set_option maxRecDepth 100000 in
set_option maxHeartbeats 0 in
theorem nBX1_comes_at52_0 {J68 : Int32 → Int32 → Int32 → Int32 → Int32 → Int32 → ea_H → Option (Unit × ea_H)} {J68_ : Nat → (Int32 → Int32 → Int32 → Int32 → Int32 → Int32 → ea_H → Option (Unit × ea_H))}  (mJ68 : ∀ (x1 : Int32) (x2 : Int32) (x3 : Int32) (x4 : Int32) (x5 : Int32) (sx0 : Int32) (h : ea_H), fct (J68 x1 x2 x3 x4 x5 sx0 h) (fun f => J68_ f x1 x2 x3 x4 x5 sx0 h)) {x1 : Int32} {x2 : Int32} {h : ea_H} : fct (BX1_comes_at52_0 J68 x1 x2 h) (fun f => BX1_comes_at52_0 (J68_ f) x1 x2 h) :=
  (fct_bind (fct_rfl _) fun _ => (fct_bind (fct_rfl _) fun _ => (fct_bind (fct_rfl _) fun _ => (fct_let fun _ => (fct_gd (fct_ite (fct_rfl _) (fct_bind (fct_rfl _) fun _ => (fct_ite (fct_gd (fct_ite (mJ68 _ _ _ _ _ _ _) (mJ68 _ _ _ _ _ _ _))) (fct_rfl _)))))))))
noncomputable def BX1_comes_at52_68 (J90 : Int32 → Int32 → Int32 → Int32 → Int32 → Int32 → Int32 → ea_H → Option (Unit × ea_H)) (x1 : Int32) (x2 : Int32) (x3 : Int32) (x4 : Int32) (x5 : Int32) (sx0 : Int32) (h : ea_H) : Option (Unit × ea_H) :=
  (gd (vp_in (((8 : Int32) * x3) + x4) 80) (ea_let (ea_i h 7 (Int32.toNatClampNeg (((8 : Int32) * x3) + x4))) fun (v12 : Int32) => (J90 (x1 : Int32) (x2 : Int32) (x4 : Int32) (x5 : Int32) (sx0 : Int32) (v12 : Int32) (0 : Int32) h)))
set_option maxRecDepth 100000 in
set_option maxHeartbeats 0 in
theorem tBX1_comes_at52_68 {d : Nat} {h0 : ea_H} (hd : 4 ≤ d) {J90 : Int32 → Int32 → Int32 → Int32 → Int32 → Int32 → Int32 → ea_H → Option (Unit × ea_H)}  (kJ90 : ∀ (x1 : Int32) (x2 : Int32) (x4 : Int32) (x5 : Int32) (x6 : Int32) (x7 : Int32) (x8 : Int32) (h : ea_H) (r : Unit) (h' : ea_H), J90 x1 x2 x4 x5 x6 x7 x8 h = some (r, h') → ShC h → ea_W mX1_comes d h0 none h' 90 [(0, vR (some 52)), (1, vI x1), (2, vI x2), (4, vI x4), (5, vI x5), (6, vI x6), (7, vI x7), (8, vI x8)] [] h) {x1 : Int32} {x2 : Int32} {x3 : Int32} {x4 : Int32} {x5 : Int32} {sx0 : Int32} {h : ea_H} {r : Unit} {h' : ea_H} (E : BX1_comes_at52_68 J90 x1 x2 x3 x4 x5 sx0 h = some (r, h')) (hs : ShC h) : ea_W mX1_comes d h0 none h' 68 [(0, vR (some 52)), (1, vI x1), (2, vI x2), (3, vI x3), (4, vI x4), (5, vI x5)] [vI sx0] h := by
  unfold BX1_comes_at52_68 at E
  obtain ⟨z11, E⟩ := gd_some E
  refine ea_istore (pc := 68) (lv' := [(0, vR (some 52)), (1, vI x1), (2, vI x2), (3, vI x3), (4, vI x4), (5, vI x5), (6, vI sx0)]) dX1_comes_68 (Nat.le_of_ble_eq_true rfl) [1, 2, 3, 4, 5, 6, 0] rfl ?_
  refine ea_aload_n (pc := 70) dX1_comes_70 rfl 0 rfl ?_
  refine ea_getR (pc := 71) dX1_comes_71 ec_1 (k := 11) (Nat.le_of_ble_eq_true rfl) rfl (Or.inl ew_459) (cShC_52 hs).1 (cShC_52 hs).2.1 (rShC_52_11 hs) ?_
  refine ea_getR (pc := 74) dX1_comes_74 ec_9 (k := 2) (Nat.le_of_ble_eq_true rfl) rfl (Or.inl ew_194) (cShC_5 hs).1 (cShC_5 hs).2.1 (rShC_5_2 hs) ?_
  refine ea_bipush (pc := 77) dX1_comes_77 (v := 8) rfl ?_
  refine ea_iload_n (pc := 79) dX1_comes_79 rfl 3 rfl ?_
  refine ea_imul (pc := 80) dX1_comes_80 ?_
  refine ea_iload (pc := 81) dX1_comes_81 4 rfl ?_
  refine ea_iadd (pc := 83) dX1_comes_83 ?_
  obtain ⟨v12, ev12, E⟩ := let_some E
  refine ea_iald (pc := 84) dX1_comes_84 (cShC_7 hs).1 (cShC_7 hs).2.1 (ea_vpl (cShC_7 hs).2.2 z11) ?_
  refine ea_istore (pc := 85) (lv' := [(0, vR (some 52)), (1, vI x1), (2, vI x2), (4, vI x4), (5, vI x5), (6, vI sx0), (7, vI v12)]) dX1_comes_85 (Nat.le_of_ble_eq_true rfl) [1, 2, 3, 5, 6, 7, 0] (by rw [ev12]; rfl) ?_
  refine ea_iconst (pc := 87) dX1_comes_87 (v := 0) rfl ?_
  refine ea_istore (pc := 88) (lv' := [(0, vR (some 52)), (1, vI x1), (2, vI x2), (4, vI x4), (5, vI x5), (6, vI sx0), (7, vI v12), (8, vI 0)]) dX1_comes_88 (Nat.le_of_ble_eq_true rfl) [1, 2, 3, 4, 5, 6, 7, 0] rfl ?_
  exact (kJ90 (x1 : Int32) (x2 : Int32) (x4 : Int32) (x5 : Int32) (sx0 : Int32) (v12 : Int32) (0 : Int32) h _ _ E hs)
set_option maxRecDepth 100000 in
set_option maxHeartbeats 0 in
theorem kBX1_comes_at52_68 {J90 : Int32 → Int32 → Int32 → Int32 → Int32 → Int32 → Int32 → ea_H → Option (Unit × ea_H)}  (cJ90 : ∀ (x1 : Int32) (x2 : Int32) (x4 : Int32) (x5 : Int32) (x6 : Int32) (x7 : Int32) (x8 : Int32) (h : ea_H), kp (ea_core h) (J90 x1 x2 x4 x5 x6 x7 x8 h)) {x1 : Int32} {x2 : Int32} {x3 : Int32} {x4 : Int32} {x5 : Int32} {sx0 : Int32} {h : ea_H} : kp (ea_core h) (BX1_comes_at52_68 J90 x1 x2 x3 x4 x5 sx0 h) :=
  (kp_gd (kp_let (kp_tw (cJ90 _ _ _ _ _ _ _ _) rfl)))
set_option maxRecDepth 100000 in
set_option maxHeartbeats 0 in
theorem lBX1_comes_at52_68 {J90 : Int32 → Int32 → Int32 → Int32 → Int32 → Int32 → Int32 → ea_H → Option (Unit × ea_H)} {J90_ : Int32 → Int32 → Int32 → Int32 → Int32 → Int32 → Int32 → ea_H → Option (Unit × ea_H)}  (mJ90 : ∀ (x1 : Int32) (x2 : Int32) (x4 : Int32) (x5 : Int32) (x6 : Int32) (x7 : Int32) (x8 : Int32) (h : ea_H), fle (J90 x1 x2 x4 x5 x6 x7 x8 h) (J90_ x1 x2 x4 x5 x6 x7 x8 h)) {x1 : Int32} {x2 : Int32} {x3 : Int32} {x4 : Int32} {x5 : Int32} {sx0 : Int32} {h : ea_H} : fle (BX1_comes_at52_68 J90 x1 x2 x3 x4 x5 sx0 h) (BX1_comes_at52_68 J90_ x1 x2 x3 x4 x5 sx0 h) :=
  (fle_gd (fle_let fun _ => (mJ90 _ _ _ _ _ _ _ _)))
set_option maxRecDepth 100000 in
set_option maxHeartbeats 0 in
theorem nBX1_comes_at52_68 {J90 : Int32 → Int32 → Int32 → Int32 → Int32 → Int32 → Int32 → ea_H → Option (Unit × ea_H)} {J90_ : Nat → (Int32 → Int32 → Int32 → Int32 → Int32 → Int32 → Int32 → ea_H → Option (Unit × ea_H))}  (mJ90 : ∀ (x1 : Int32) (x2 : Int32) (x4 : Int32) (x5 : Int32) (x6 : Int32) (x7 : Int32) (x8 : Int32) (h : ea_H), fct (J90 x1 x2 x4 x5 x6 x7 x8 h) (fun f => J90_ f x1 x2 x4 x5 x6 x7 x8 h)) {x1 : Int32} {x2 : Int32} {x3 : Int32} {x4 : Int32} {x5 : Int32} {sx0 : Int32} {h : ea_H} : fct (BX1_comes_at52_68 J90 x1 x2 x3 x4 x5 sx0 h) (fun f => BX1_comes_at52_68 (J90_ f) x1 x2 x3 x4 x5 sx0 h) :=
  (fct_gd (fct_let fun _ => (mJ90 _ _ _ _ _ _ _ _)))
noncomputable def BX1_comes_at52_90 (J131 : Int32 → Int32 → Int32 → Int32 → Int32 → Int32 → Int32 → Int32 → ea_H → Option (Unit × ea_H)) (x1 : Int32) (x2 : Int32) (x4 : Int32) (x5 : Int32) (x6 : Int32) (x7 : Int32) (x8 : Int32) (h : ea_H) : Option (Unit × ea_H) :=
  (if (ea_i h 52 0) ≤ x8 then (some ((), h)) else (if x6 = (0 : Int32) then (gd (vp_in x8 120) (if (ea_i h 57 (Int32.toNatClampNeg x8)) = (0 : Int32) then (J131 (x1 : Int32) (x2 : Int32) (x4 : Int32) (x5 : Int32) (x6 : Int32) (x7 : Int32) (x8 : Int32) (0 : Int32) h) else (gd (vp_in x8 120) (if x4 < (ea_i h 55 (Int32.toNatClampNeg x8)) then (J131 (x1 : Int32) (x2 : Int32) (x4 : Int32) (x5 : Int32) (x6 : Int32) (x7 : Int32) (x8 : Int32) (0 : Int32) h) else (J131 (x1 : Int32) (x2 : Int32) (x4 : Int32) (x5 : Int32) (x6 : Int32) (x7 : Int32) (x8 : Int32) (1 : Int32) h))))) else (J131 (x1 : Int32) (x2 : Int32) (x4 : Int32) (x5 : Int32) (x6 : Int32) (x7 : Int32) (x8 : Int32) (1 : Int32) h)))
set_option maxRecDepth 100000 in
set_option maxHeartbeats 0 in
theorem tBX1_comes_at52_90 {d : Nat} {h0 : ea_H} (hd : 4 ≤ d) {J131 : Int32 → Int32 → Int32 → Int32 → Int32 → Int32 → Int32 → Int32 → ea_H → Option (Unit × ea_H)}  (kJ131 : ∀ (x1 : Int32) (x2 : Int32) (x4 : Int32) (x5 : Int32) (x6 : Int32) (x7 : Int32) (x8 : Int32) (sx0 : Int32) (h : ea_H) (r : Unit) (h' : ea_H), J131 x1 x2 x4 x5 x6 x7 x8 sx0 h = some (r, h') → ShC h → ea_W mX1_comes d h0 none h' 131 [(0, vR (some 52)), (1, vI x1), (2, vI x2), (4, vI x4), (5, vI x5), (6, vI x6), (7, vI x7), (8, vI x8)] [vI sx0] h) {x1 : Int32} {x2 : Int32} {x4 : Int32} {x5 : Int32} {x6 : Int32} {x7 : Int32} {x8 : Int32} {h : ea_H} {r : Unit} {h' : ea_H} (E : BX1_comes_at52_90 J131 x1 x2 x4 x5 x6 x7 x8 h = some (r, h')) (hs : ShC h) : ea_W mX1_comes d h0 none h' 90 [(0, vR (some 52)), (1, vI x1), (2, vI x2), (4, vI x4), (5, vI x5), (6, vI x6), (7, vI x7), (8, vI x8)] [] h := by
  unfold BX1_comes_at52_90 at E
  refine ea_iload (pc := 90) dX1_comes_90 7 rfl ?_
  refine ea_aload_n (pc := 92) dX1_comes_92 rfl 0 rfl ?_
  refine ea_getI (pc := 93) dX1_comes_93 ec_1 (k := 0) (Nat.le_of_ble_eq_true rfl) rfl (Or.inl ew_441) (cShC_52 hs).1 (cShC_52 hs).2.1 ?_
  refine ea_icmp_ge (pc := 96) (tgt := 225) dX1_comes_96 rfl (fun c18 => ?_) (fun c18 => ?_)
  · have E := (if_pos c18).symm.trans E
    exact ea_vretO (pc := 225) dX1_comes_225 rfl E
  · have E := (if_neg c18).symm.trans E
    refine ea_iload (pc := 99) dX1_comes_99 5 rfl ?_
    refine ea_if_ne (pc := 101) (tgt := 126) dX1_comes_101 rfl (fun c17 => ?_) (fun c17 => ?_)
    · have E := (if_neg c17).symm.trans E
      refine ea_iconst (pc := 126) dX1_comes_126 (v := 1) rfl ?_
      refine ea_goto (pc := 127) (tgt := 131) dX1_comes_127 rfl ?_
      exact (kJ131 (x1 : Int32) (x2 : Int32) (x4 : Int32) (x5 : Int32) (x6 : Int32) (x7 : Int32) (x8 : Int32) (1 : Int32) h _ _ E hs)
    · have E := (if_pos c17).symm.trans E
      obtain ⟨z13, E⟩ := gd_some E
      refine ea_aload_n (pc := 104) dX1_comes_104 rfl 0 rfl ?_
      refine ea_getR (pc := 105) dX1_comes_105 ec_1 (k := 5) (Nat.le_of_ble_eq_true rfl) rfl (Or.inl ew_451) (cShC_52 hs).1 (cShC_52 hs).2.1 (rShC_52_5 hs) ?_
      refine ea_iload (pc := 108) dX1_comes_108 7 rfl ?_
      refine ea_zald (pc := 110) dX1_comes_110 (cShC_57 hs).1 (cShC_57 hs).2.1 (ea_vpl (cShC_57 hs).2.2 z13) ?_
      refine ea_if_eq (pc := 111) (tgt := 130) dX1_comes_111 rfl (fun c16 => ?_) (fun c16 => ?_)
      · have E := (if_pos c16).symm.trans E
        refine ea_iconst (pc := 130) dX1_comes_130 (v := 0) rfl ?_
        exact (kJ131 (x1 : Int32) (x2 : Int32) (x4 : Int32) (x5 : Int32) (x6 : Int32) (x7 : Int32) (x8 : Int32) (0 : Int32) h _ _ E hs)
      · have E := (if_neg c16).symm.trans E
        obtain ⟨z14, E⟩ := gd_some E
        refine ea_aload_n (pc := 114) dX1_comes_114 rfl 0 rfl ?_
        refine ea_getR (pc := 115) dX1_comes_115 ec_1 (k := 3) (Nat.le_of_ble_eq_true rfl) rfl (Or.inl ew_447) (cShC_52 hs).1 (cShC_52 hs).2.1 (rShC_52_3 hs) ?_
        refine ea_iload (pc := 118) dX1_comes_118 7 rfl ?_
        refine ea_iald (pc := 120) dX1_comes_120 (cShC_55 hs).1 (cShC_55 hs).2.1 (ea_vpl (cShC_55 hs).2.2 z14) ?_
        refine ea_iload (pc := 121) dX1_comes_121 3 rfl ?_
        refine ea_icmp_gt (pc := 123) (tgt := 130) dX1_comes_123 rfl (fun c15 => ?_) (fun c15 => ?_)
        · have E := (if_pos c15).symm.trans E
          refine ea_iconst (pc := 130) dX1_comes_130 (v := 0) rfl ?_
          exact (kJ131 (x1 : Int32) (x2 : Int32) (x4 : Int32) (x5 : Int32) (x6 : Int32) (x7 : Int32) (x8 : Int32) (0 : Int32) h _ _ E hs)
        · have E := (if_neg c15).symm.trans E
          refine ea_iconst (pc := 126) dX1_comes_126 (v := 1) rfl ?_
          refine ea_goto (pc := 127) (tgt := 131) dX1_comes_127 rfl ?_
          exact (kJ131 (x1 : Int32) (x2 : Int32) (x4 : Int32) (x5 : Int32) (x6 : Int32) (x7 : Int32) (x8 : Int32) (1 : Int32) h _ _ E hs)
set_option maxRecDepth 100000 in
set_option maxHeartbeats 0 in
theorem kBX1_comes_at52_90 {J131 : Int32 → Int32 → Int32 → Int32 → Int32 → Int32 → Int32 → Int32 → ea_H → Option (Unit × ea_H)}  (cJ131 : ∀ (x1 : Int32) (x2 : Int32) (x4 : Int32) (x5 : Int32) (x6 : Int32) (x7 : Int32) (x8 : Int32) (sx0 : Int32) (h : ea_H), kp (ea_core h) (J131 x1 x2 x4 x5 x6 x7 x8 sx0 h)) {x1 : Int32} {x2 : Int32} {x4 : Int32} {x5 : Int32} {x6 : Int32} {x7 : Int32} {x8 : Int32} {h : ea_H} : kp (ea_core h) (BX1_comes_at52_90 J131 x1 x2 x4 x5 x6 x7 x8 h) :=
  (kp_ite (kp_ret rfl) (kp_ite (kp_gd (kp_ite (kp_tw (cJ131 _ _ _ _ _ _ _ _ _) rfl) (kp_gd (kp_ite (kp_tw (cJ131 _ _ _ _ _ _ _ _ _) rfl) (kp_tw (cJ131 _ _ _ _ _ _ _ _ _) rfl))))) (kp_tw (cJ131 _ _ _ _ _ _ _ _ _) rfl)))
set_option maxRecDepth 100000 in
set_option maxHeartbeats 0 in
theorem lBX1_comes_at52_90 {J131 : Int32 → Int32 → Int32 → Int32 → Int32 → Int32 → Int32 → Int32 → ea_H → Option (Unit × ea_H)} {J131_ : Int32 → Int32 → Int32 → Int32 → Int32 → Int32 → Int32 → Int32 → ea_H → Option (Unit × ea_H)}  (mJ131 : ∀ (x1 : Int32) (x2 : Int32) (x4 : Int32) (x5 : Int32) (x6 : Int32) (x7 : Int32) (x8 : Int32) (sx0 : Int32) (h : ea_H), fle (J131 x1 x2 x4 x5 x6 x7 x8 sx0 h) (J131_ x1 x2 x4 x5 x6 x7 x8 sx0 h)) {x1 : Int32} {x2 : Int32} {x4 : Int32} {x5 : Int32} {x6 : Int32} {x7 : Int32} {x8 : Int32} {h : ea_H} : fle (BX1_comes_at52_90 J131 x1 x2 x4 x5 x6 x7 x8 h) (BX1_comes_at52_90 J131_ x1 x2 x4 x5 x6 x7 x8 h) :=
  (fle_ite (fle_rfl _) (fle_ite (fle_gd (fle_ite (mJ131 _ _ _ _ _ _ _ _ _) (fle_gd (fle_ite (mJ131 _ _ _ _ _ _ _ _ _) (mJ131 _ _ _ _ _ _ _ _ _))))) (mJ131 _ _ _ _ _ _ _ _ _)))
set_option maxRecDepth 100000 in
set_option maxHeartbeats 0 in
theorem nBX1_comes_at52_90 {J131 : Int32 → Int32 → Int32 → Int32 → Int32 → Int32 → Int32 → Int32 → ea_H → Option (Unit × ea_H)} {J131_ : Nat → (Int32 → Int32 → Int32 → Int32 → Int32 → Int32 → Int32 → Int32 → ea_H → Option (Unit × ea_H))}  (mJ131 : ∀ (x1 : Int32) (x2 : Int32) (x4 : Int32) (x5 : Int32) (x6 : Int32) (x7 : Int32) (x8 : Int32) (sx0 : Int32) (h : ea_H), fct (J131 x1 x2 x4 x5 x6 x7 x8 sx0 h) (fun f => J131_ f x1 x2 x4 x5 x6 x7 x8 sx0 h)) {x1 : Int32} {x2 : Int32} {x4 : Int32} {x5 : Int32} {x6 : Int32} {x7 : Int32} {x8 : Int32} {h : ea_H} : fct (BX1_comes_at52_90 J131 x1 x2 x4 x5 x6 x7 x8 h) (fun f => BX1_comes_at52_90 (J131_ f) x1 x2 x4 x5 x6 x7 x8 h) :=
  (fct_ite (fct_rfl _) (fct_ite (fct_gd (fct_ite (mJ131 _ _ _ _ _ _ _ _ _) (fct_gd (fct_ite (mJ131 _ _ _ _ _ _ _ _ _) (mJ131 _ _ _ _ _ _ _ _ _))))) (mJ131 _ _ _ _ _ _ _ _ _)))
noncomputable def BX1_comes_at52_131 (J90 : Int32 → Int32 → Int32 → Int32 → Int32 → Int32 → Int32 → ea_H → Option (Unit × ea_H)) (J181 : Int32 → Int32 → Int32 → Int32 → Int32 → Int32 → Int32 → ea_H → Option (Unit × ea_H)) (x1 : Int32) (x2 : Int32) (x4 : Int32) (x5 : Int32) (x6 : Int32) (x7 : Int32) (x8 : Int32) (sx0 : Int32) (h : ea_H) : Option (Unit × ea_H) :=
  (if sx0 = (0 : Int32) then (J90 (x1 : Int32) (x2 : Int32) (x4 : Int32) (x5 : Int32) (x6 : Int32) (x7 : Int32) ((x8 + (1 : Int32)) : Int32) h) else (Option.bind (qX1_isAboard_at52 (x8 : Int32) (x5 : Int32) h) fun w19 => (if w19.1 = (0 : Int32) then (J90 (x1 : Int32) (x2 : Int32) (x4 : Int32) (x5 : Int32) (x6 : Int32) (x7 : Int32) ((x8 + (1 : Int32)) : Int32) w19.2) else (gd (vp_in x8 120) (if (ea_i w19.2 57 (Int32.toNatClampNeg x8)) = (0 : Int32) then (gd (vp_in x8 120) (gd (vp_in x8 120) (ea_let (ea_wi w19.2 56 (Int32.toNatClampNeg x8) ((ea_i w19.2 56 (Int32.toNatClampNeg x8)) + (1 : Int32))) fun H23 => (gd (vp_in x5 70) (gd (vp_in x5 70) (ea_let (ea_wi H23 58 (Int32.toNatClampNeg x5) ((ea_i H23 58 (Int32.toNatClampNeg x5)) + (1 : Int32))) fun H26 => (J181 (x1 : Int32) (x2 : Int32) (x4 : Int32) (x5 : Int32) (x6 : Int32) (x7 : Int32) (x8 : Int32) H26))))))) else (J181 (x1 : Int32) (x2 : Int32) (x4 : Int32) (x5 : Int32) (x6 : Int32) (x7 : Int32) (x8 : Int32) w19.2))))))
set_option maxRecDepth 100000 in
set_option maxHeartbeats 0 in
theorem tBX1_comes_at52_131 {d : Nat} {h0 : ea_H} (hd : 4 ≤ d) {J90 : Int32 → Int32 → Int32 → Int32 → Int32 → Int32 → Int32 → ea_H → Option (Unit × ea_H)} {J181 : Int32 → Int32 → Int32 → Int32 → Int32 → Int32 → Int32 → ea_H → Option (Unit × ea_H)}  (kJ90 : ∀ (x1 : Int32) (x2 : Int32) (x4 : Int32) (x5 : Int32) (x6 : Int32) (x7 : Int32) (x8 : Int32) (h : ea_H) (r : Unit) (h' : ea_H), J90 x1 x2 x4 x5 x6 x7 x8 h = some (r, h') → ShC h → ea_W mX1_comes d h0 none h' 90 [(0, vR (some 52)), (1, vI x1), (2, vI x2), (4, vI x4), (5, vI x5), (6, vI x6), (7, vI x7), (8, vI x8)] [] h) (kJ181 : ∀ (x1 : Int32) (x2 : Int32) (x4 : Int32) (x5 : Int32) (x6 : Int32) (x7 : Int32) (x8 : Int32) (h : ea_H) (r : Unit) (h' : ea_H), J181 x1 x2 x4 x5 x6 x7 x8 h = some (r, h') → ShC h → ea_W mX1_comes d h0 none h' 181 [(0, vR (some 52)), (1, vI x1), (2, vI x2), (4, vI x4), (5, vI x5), (6, vI x6), (7, vI x7), (8, vI x8)] [] h) {x1 : Int32} {x2 : Int32} {x4 : Int32} {x5 : Int32} {x6 : Int32} {x7 : Int32} {x8 : Int32} {sx0 : Int32} {h : ea_H} {r : Unit} {h' : ea_H} (E : BX1_comes_at52_131 J90 J181 x1 x2 x4 x5 x6 x7 x8 sx0 h = some (r, h')) (hs : ShC h) : ea_W mX1_comes d h0 none h' 131 [(0, vR (some 52)), (1, vI x1), (2, vI x2), (4, vI x4), (5, vI x5), (6, vI x6), (7, vI x7), (8, vI x8)] [vI sx0] h := by
  unfold BX1_comes_at52_131 at E
  refine ea_istore (pc := 131) (lv' := [(0, vR (some 52)), (1, vI x1), (2, vI x2), (4, vI x4), (5, vI x5), (6, vI x6), (7, vI x7), (8, vI x8), (9, vI sx0)]) dX1_comes_131 (Nat.le_of_ble_eq_true rfl) [1, 2, 3, 4, 5, 6, 7, 8, 0] rfl ?_
  refine ea_iload (pc := 133) dX1_comes_133 8 rfl ?_
  refine ea_if_eq (pc := 135) (tgt := 219) dX1_comes_135 rfl (fun c29 => ?_) (fun c29 => ?_)
  · have E := (if_pos c29).symm.trans E
    refine ea_iinc (pc := 219) (v := 1) (lv' := [(0, vR (some 52)), (1, vI x1), (2, vI x2), (4, vI x4), (5, vI x5), (6, vI x6), (7, vI x7), (8, vI (x8 + (1 : Int32)))]) dX1_comes_219 7 rfl rfl (Nat.le_of_ble_eq_true rfl) [1, 2, 3, 4, 5, 6, 7, 0] rfl ?_
    refine ea_goto (pc := 222) (tgt := 90) dX1_comes_222 rfl ?_
    exact (kJ90 (x1 : Int32) (x2 : Int32) (x4 : Int32) (x5 : Int32) (x6 : Int32) (x7 : Int32) ((x8 + (1 : Int32)) : Int32) h _ _ E hs)
  · have E := (if_neg c29).symm.trans E
    obtain ⟨w19, Ew19, E⟩ := bd_some E
    have hsw19 : ShC w19.2 := ShC_core ((kpX1_isAboard_at52 _ _ _) _ Ew19) hs
    refine ea_aload_n (pc := 138) dX1_comes_138 rfl 0 rfl ?_
    refine ea_iload (pc := 139) dX1_comes_139 7 rfl ?_
    refine ea_iload (pc := 141) dX1_comes_141 4 rfl ?_
    refine ea_callV (pc := 143) (d' := d - 1) (As := [vI x8, vI x5]) (st := []) dX1_comes_143 kX1_isAboard (sX1_isAboard_at52 (d := d - 1) (by omega) hs Ew19) (by omega) rfl (Nat.le_of_ble_eq_true rfl) ew_896 ew_897 ew_898 (ci := 1) rfl (by decide) (cShC_52 hs).1 (cShC_52 hs).2.1 ?_
    refine ea_if_eq (pc := 146) (tgt := 219) dX1_comes_146 rfl (fun c28 => ?_) (fun c28 => ?_)
    · have E := (if_pos c28).symm.trans E
      refine ea_iinc (pc := 219) (v := 1) (lv' := [(0, vR (some 52)), (1, vI x1), (2, vI x2), (4, vI x4), (5, vI x5), (6, vI x6), (7, vI x7), (8, vI (x8 + (1 : Int32)))]) dX1_comes_219 7 rfl rfl (Nat.le_of_ble_eq_true rfl) [1, 2, 3, 4, 5, 6, 7, 0] rfl ?_
      refine ea_goto (pc := 222) (tgt := 90) dX1_comes_222 rfl ?_
      exact (kJ90 (x1 : Int32) (x2 : Int32) (x4 : Int32) (x5 : Int32) (x6 : Int32) (x7 : Int32) ((x8 + (1 : Int32)) : Int32) w19.2 _ _ E hsw19)
    · have E := (if_neg c28).symm.trans E
      obtain ⟨z20, E⟩ := gd_some E
      refine ea_aload_n (pc := 149) dX1_comes_149 rfl 0 rfl ?_
      refine ea_getR (pc := 150) dX1_comes_150 ec_1 (k := 5) (Nat.le_of_ble_eq_true rfl) rfl (Or.inl ew_451) (cShC_52 hsw19).1 (cShC_52 hsw19).2.1 (rShC_52_5 hsw19) ?_
      refine ea_iload (pc := 153) dX1_comes_153 7 rfl ?_
      refine ea_zald (pc := 155) dX1_comes_155 (cShC_57 hsw19).1 (cShC_57 hsw19).2.1 (ea_vpl (cShC_57 hsw19).2.2 z20) ?_
      refine ea_if_ne (pc := 156) (tgt := 181) dX1_comes_156 rfl (fun c27 => ?_) (fun c27 => ?_)
      · have E := (if_neg c27).symm.trans E
        exact ea_fewer [0, 1, 2, 3, 4, 5, 6, 7] rfl (kJ181 (x1 : Int32) (x2 : Int32) (x4 : Int32) (x5 : Int32) (x6 : Int32) (x7 : Int32) (x8 : Int32) w19.2 _ _ E hsw19)
      · have E := (if_pos c27).symm.trans E
        obtain ⟨z21, E⟩ := gd_some E
        refine ea_aload_n (pc := 159) dX1_comes_159 rfl 0 rfl ?_
        refine ea_getR (pc := 160) dX1_comes_160 ec_1 (k := 4) (Nat.le_of_ble_eq_true rfl) rfl (Or.inl ew_449) (cShC_52 hsw19).1 (cShC_52 hsw19).2.1 (rShC_52_4 hsw19) ?_
        refine ea_iload (pc := 163) dX1_comes_163 7 rfl ?_
        refine ea_dup2 (pc := 165) dX1_comes_165 rfl rfl ?_
        obtain ⟨z22, E⟩ := gd_some E
        refine ea_iald (pc := 166) dX1_comes_166 (cShC_56 hsw19).1 (cShC_56 hsw19).2.1 (ea_vpl (cShC_56 hsw19).2.2 z21) ?_
        refine ea_iconst (pc := 167) dX1_comes_167 (v := 1) rfl ?_
        refine ea_iadd (pc := 168) dX1_comes_168 ?_
        obtain ⟨H23, eH23, E⟩ := let_some E
        refine ea_iast (pc := 169) dX1_comes_169 (cShC_56 hsw19).1 (cShC_56 hsw19).2.1 (ea_vpl (cShC_56 hsw19).2.2 z22) ?_
        refine ea_nm eH23 ?_
        have hsH23 : ShC H23 := by rw [eH23]; exact hsw19
        obtain ⟨z24, E⟩ := gd_some E
        refine ea_aload_n (pc := 170) dX1_comes_170 rfl 0 rfl ?_
        refine ea_getR (pc := 171) dX1_comes_171 ec_1 (k := 6) (Nat.le_of_ble_eq_true rfl) rfl (Or.inl ew_453) (cShC_52 hsH23).1 (cShC_52 hsH23).2.1 (rShC_52_6 hsH23) ?_
        refine ea_iload (pc := 174) dX1_comes_174 4 rfl ?_
        refine ea_dup2 (pc := 176) dX1_comes_176 rfl rfl ?_
        obtain ⟨z25, E⟩ := gd_some E
        refine ea_iald (pc := 177) dX1_comes_177 (cShC_58 hsH23).1 (cShC_58 hsH23).2.1 (ea_vpl (cShC_58 hsH23).2.2 z24) ?_
        refine ea_iconst (pc := 178) dX1_comes_178 (v := 1) rfl ?_
        refine ea_iadd (pc := 179) dX1_comes_179 ?_
        obtain ⟨H26, eH26, E⟩ := let_some E
        refine ea_iast (pc := 180) dX1_comes_180 (cShC_58 hsH23).1 (cShC_58 hsH23).2.1 (ea_vpl (cShC_58 hsH23).2.2 z25) ?_
        refine ea_nm eH26 ?_
        have hsH26 : ShC H26 := by rw [eH26]; exact hsH23
        exact ea_fewer [0, 1, 2, 3, 4, 5, 6, 7] rfl (kJ181 (x1 : Int32) (x2 : Int32) (x4 : Int32) (x5 : Int32) (x6 : Int32) (x7 : Int32) (x8 : Int32) H26 _ _ E hsH26)
set_option maxRecDepth 100000 in
set_option maxHeartbeats 0 in
theorem kBX1_comes_at52_131 {J90 : Int32 → Int32 → Int32 → Int32 → Int32 → Int32 → Int32 → ea_H → Option (Unit × ea_H)} {J181 : Int32 → Int32 → Int32 → Int32 → Int32 → Int32 → Int32 → ea_H → Option (Unit × ea_H)}  (cJ90 : ∀ (x1 : Int32) (x2 : Int32) (x4 : Int32) (x5 : Int32) (x6 : Int32) (x7 : Int32) (x8 : Int32) (h : ea_H), kp (ea_core h) (J90 x1 x2 x4 x5 x6 x7 x8 h)) (cJ181 : ∀ (x1 : Int32) (x2 : Int32) (x4 : Int32) (x5 : Int32) (x6 : Int32) (x7 : Int32) (x8 : Int32) (h : ea_H), kp (ea_core h) (J181 x1 x2 x4 x5 x6 x7 x8 h)) {x1 : Int32} {x2 : Int32} {x4 : Int32} {x5 : Int32} {x6 : Int32} {x7 : Int32} {x8 : Int32} {sx0 : Int32} {h : ea_H} : kp (ea_core h) (BX1_comes_at52_131 J90 J181 x1 x2 x4 x5 x6 x7 x8 sx0 h) :=
  (kp_ite (kp_tw (cJ90 _ _ _ _ _ _ _ _) rfl) (kp_bind (kp_tw (kpX1_isAboard_at52 _ _ _) rfl) fun w19 hcw19 => (kp_ite (kp_tw (cJ90 _ _ _ _ _ _ _ _) hcw19) (kp_gd (kp_ite (kp_gd (kp_gd (kp_let (kp_gd (kp_gd (kp_let (kp_tw (cJ181 _ _ _ _ _ _ _ _) hcw19))))))) (kp_tw (cJ181 _ _ _ _ _ _ _ _) hcw19))))))
set_option maxRecDepth 100000 in
set_option maxHeartbeats 0 in
theorem lBX1_comes_at52_131 {J90 : Int32 → Int32 → Int32 → Int32 → Int32 → Int32 → Int32 → ea_H → Option (Unit × ea_H)} {J181 : Int32 → Int32 → Int32 → Int32 → Int32 → Int32 → Int32 → ea_H → Option (Unit × ea_H)} {J90_ : Int32 → Int32 → Int32 → Int32 → Int32 → Int32 → Int32 → ea_H → Option (Unit × ea_H)} {J181_ : Int32 → Int32 → Int32 → Int32 → Int32 → Int32 → Int32 → ea_H → Option (Unit × ea_H)}  (mJ90 : ∀ (x1 : Int32) (x2 : Int32) (x4 : Int32) (x5 : Int32) (x6 : Int32) (x7 : Int32) (x8 : Int32) (h : ea_H), fle (J90 x1 x2 x4 x5 x6 x7 x8 h) (J90_ x1 x2 x4 x5 x6 x7 x8 h)) (mJ181 : ∀ (x1 : Int32) (x2 : Int32) (x4 : Int32) (x5 : Int32) (x6 : Int32) (x7 : Int32) (x8 : Int32) (h : ea_H), fle (J181 x1 x2 x4 x5 x6 x7 x8 h) (J181_ x1 x2 x4 x5 x6 x7 x8 h)) {x1 : Int32} {x2 : Int32} {x4 : Int32} {x5 : Int32} {x6 : Int32} {x7 : Int32} {x8 : Int32} {sx0 : Int32} {h : ea_H} : fle (BX1_comes_at52_131 J90 J181 x1 x2 x4 x5 x6 x7 x8 sx0 h) (BX1_comes_at52_131 J90_ J181_ x1 x2 x4 x5 x6 x7 x8 sx0 h) :=
  (fle_ite (mJ90 _ _ _ _ _ _ _ _) (fle_bind (fle_rfl _) fun _ => (fle_ite (mJ90 _ _ _ _ _ _ _ _) (fle_gd (fle_ite (fle_gd (fle_gd (fle_let fun _ => (fle_gd (fle_gd (fle_let fun _ => (mJ181 _ _ _ _ _ _ _ _))))))) (mJ181 _ _ _ _ _ _ _ _))))))
set_option maxRecDepth 100000 in
set_option maxHeartbeats 0 in
theorem nBX1_comes_at52_131 {J90 : Int32 → Int32 → Int32 → Int32 → Int32 → Int32 → Int32 → ea_H → Option (Unit × ea_H)} {J181 : Int32 → Int32 → Int32 → Int32 → Int32 → Int32 → Int32 → ea_H → Option (Unit × ea_H)} {J90_ : Nat → (Int32 → Int32 → Int32 → Int32 → Int32 → Int32 → Int32 → ea_H → Option (Unit × ea_H))} {J181_ : Nat → (Int32 → Int32 → Int32 → Int32 → Int32 → Int32 → Int32 → ea_H → Option (Unit × ea_H))}  (mJ90 : ∀ (x1 : Int32) (x2 : Int32) (x4 : Int32) (x5 : Int32) (x6 : Int32) (x7 : Int32) (x8 : Int32) (h : ea_H), fct (J90 x1 x2 x4 x5 x6 x7 x8 h) (fun f => J90_ f x1 x2 x4 x5 x6 x7 x8 h)) (mJ181 : ∀ (x1 : Int32) (x2 : Int32) (x4 : Int32) (x5 : Int32) (x6 : Int32) (x7 : Int32) (x8 : Int32) (h : ea_H), fct (J181 x1 x2 x4 x5 x6 x7 x8 h) (fun f => J181_ f x1 x2 x4 x5 x6 x7 x8 h)) {x1 : Int32} {x2 : Int32} {x4 : Int32} {x5 : Int32} {x6 : Int32} {x7 : Int32} {x8 : Int32} {sx0 : Int32} {h : ea_H} : fct (BX1_comes_at52_131 J90 J181 x1 x2 x4 x5 x6 x7 x8 sx0 h) (fun f => BX1_comes_at52_131 (J90_ f) (J181_ f) x1 x2 x4 x5 x6 x7 x8 sx0 h) :=
  (fct_ite (mJ90 _ _ _ _ _ _ _ _) (fct_bind (fct_rfl _) fun _ => (fct_ite (mJ90 _ _ _ _ _ _ _ _) (fct_gd (fct_ite (fct_gd (fct_gd (fct_let fun _ => (fct_gd (fct_gd (fct_let fun _ => (mJ181 _ _ _ _ _ _ _ _))))))) (mJ181 _ _ _ _ _ _ _ _))))))
noncomputable def BX1_comes_at52_181 (J90 : Int32 → Int32 → Int32 → Int32 → Int32 → Int32 → Int32 → ea_H → Option (Unit × ea_H)) (x1 : Int32) (x2 : Int32) (x4 : Int32) (x5 : Int32) (x6 : Int32) (x7 : Int32) (x8 : Int32) (h : ea_H) : Option (Unit × ea_H) :=
  (gd (vp_in x8 120) (gd ((ea_r h 49 (Int32.toNatClampNeg x8)) = some (Option.getD (ea_r h 49 (Int32.toNatClampNeg x8)) 0)) (gd (((Option.getD (ea_r h 49 (Int32.toNatClampNeg x8)) 0) < ea_n h ∧ ea_c h (Option.getD (ea_r h 49 (Int32.toNatClampNeg x8)) 0) = 5)) (Option.bind (qX5_stateIn (Option.getD (ea_r h 49 (Int32.toNatClampNeg x8)) 0) (x7 : Int32) h) fun w31 => (Option.bind (qX1_move_at52 (x8 : Int32) (x2 : Int32) (w31.1 : Int32) (x7 : Int32) w31.2) fun w34 => (Option.bind (qX4_mark (x1 : Int32) (x8 : Int32) w34.2) fun w35 => (J90 (x1 : Int32) (x2 : Int32) (x4 : Int32) (x5 : Int32) (x6 : Int32) (x7 : Int32) ((x8 + (1 : Int32)) : Int32) w35.2)))))))
set_option maxRecDepth 100000 in
set_option maxHeartbeats 0 in
theorem tBX1_comes_at52_181 {d : Nat} {h0 : ea_H} (hd : 4 ≤ d) {J90 : Int32 → Int32 → Int32 → Int32 → Int32 → Int32 → Int32 → ea_H → Option (Unit × ea_H)}  (kJ90 : ∀ (x1 : Int32) (x2 : Int32) (x4 : Int32) (x5 : Int32) (x6 : Int32) (x7 : Int32) (x8 : Int32) (h : ea_H) (r : Unit) (h' : ea_H), J90 x1 x2 x4 x5 x6 x7 x8 h = some (r, h') → ShC h → ea_W mX1_comes d h0 none h' 90 [(0, vR (some 52)), (1, vI x1), (2, vI x2), (4, vI x4), (5, vI x5), (6, vI x6), (7, vI x7), (8, vI x8)] [] h) {x1 : Int32} {x2 : Int32} {x4 : Int32} {x5 : Int32} {x6 : Int32} {x7 : Int32} {x8 : Int32} {h : ea_H} {r : Unit} {h' : ea_H} (E : BX1_comes_at52_181 J90 x1 x2 x4 x5 x6 x7 x8 h = some (r, h')) (hs : ShC h) : ea_W mX1_comes d h0 none h' 181 [(0, vR (some 52)), (1, vI x1), (2, vI x2), (4, vI x4), (5, vI x5), (6, vI x6), (7, vI x7), (8, vI x8)] [] h := by
  unfold BX1_comes_at52_181 at E
  obtain ⟨z30, E⟩ := gd_some E
  refine ea_aload_n (pc := 181) dX1_comes_181 rfl 0 rfl ?_
  refine ea_iload (pc := 182) dX1_comes_182 7 rfl ?_
  refine ea_iload_n (pc := 184) dX1_comes_184 rfl 2 rfl ?_
  refine ea_aload_n (pc := 185) dX1_comes_185 rfl 0 rfl ?_
  refine ea_getR (pc := 186) dX1_comes_186 ec_1 (k := 14) (Nat.le_of_ble_eq_true rfl) rfl (Or.inl ew_462) (cShC_52 hs).1 (cShC_52 hs).2.1 (rShC_52_14 hs) ?_
  refine ea_iload (pc := 189) dX1_comes_189 7 rfl ?_
  obtain ⟨e32, E⟩ := gd_some E
  refine ea_aald23 (pc := 191) dX1_comes_191 (cShC_49 hs).1 (cShC_49 hs).2.1 (ea_vpl (cShC_49 hs).2.2 z30) rfl ?_
  refine ea_iload (pc := 192) dX1_comes_192 6 rfl ?_
  obtain ⟨f33, E⟩ := gd_some E
  obtain ⟨w31, Ew31, E⟩ := bd_some E
  have hsw31 : ShC w31.2 := ShC_core ((kpX5_stateIn _ _ _) _ Ew31) hs
  refine ea_deref1 e32 ?_
  refine ea_callV (pc := 194) (d' := d - 1) (As := [vI x7]) (st := [vI x2, vI x8, vR (some 52)]) dX1_comes_194 kX5_stateIn (sX5_stateIn (d := d - 1) (by omega) Ew31) (by omega) rfl (Nat.le_of_ble_eq_true rfl) ew_908 ew_909 ew_910 (ci := 5) rfl (by decide) f33.1 f33.2 ?_
  obtain ⟨w34, Ew34, E⟩ := bd_some E
  have hsw34 : ShC w34.2 := ShC_core ((kpX1_move_at52 _ _ _ _ _) _ Ew34) hsw31
  refine ea_iload (pc := 197) dX1_comes_197 6 rfl ?_
  refine ea_callV (pc := 199) (d' := d - 1) (As := [vI x8, vI x2, vI w31.1, vI x7]) (st := []) dX1_comes_199 kX1_move (sX1_move_at52 (d := d - 1) (by omega) hsw31 Ew34) (by omega) rfl (Nat.le_of_ble_eq_true rfl) ew_851 ew_852 ew_853 (ci := 1) rfl (by decide) (cShC_52 hsw31).1 (cShC_52 hsw31).2.1 ?_
  obtain ⟨w35, Ew35, E⟩ := bd_some E
  have hsw35 : ShC w35.2 := ShC_core ((kpX4_mark _ _ _) _ Ew35) hsw34
  refine ea_aload_n (pc := 202) dX1_comes_202 rfl 0 rfl ?_
  refine ea_getR (pc := 203) dX1_comes_203 ec_1 (k := 15) (Nat.le_of_ble_eq_true rfl) rfl (Or.inl ew_463) (cShC_52 hsw34).1 (cShC_52 hsw34).2.1 (rShC_52_15 hsw34) ?_
  refine ea_ifnull (pc := 206) (tgt := 219) dX1_comes_206 rfl (fun q => nomatch q) (fun _ _ => ?_)
  refine ea_aload_n (pc := 209) dX1_comes_209 rfl 0 rfl ?_
  refine ea_getR (pc := 210) dX1_comes_210 ec_1 (k := 15) (Nat.le_of_ble_eq_true rfl) rfl (Or.inl ew_463) (cShC_52 hsw34).1 (cShC_52 hsw34).2.1 (rShC_52_15 hsw34) ?_
  refine ea_iload_n (pc := 213) dX1_comes_213 rfl 1 rfl ?_
  refine ea_iload (pc := 214) dX1_comes_214 7 rfl ?_
  refine ea_callV (pc := 216) (d' := d - 1) (As := [vI x1, vI x8]) (st := []) dX1_comes_216 kX4_mark (sX4_mark (d := d - 1) (by omega) hsw34 Ew35) (by omega) rfl (Nat.le_of_ble_eq_true rfl) ew_875 ew_876 ew_877 (ci := 4) rfl (by decide) (cShC_50 hsw34).1 (cShC_50 hsw34).2.1 ?_
  refine ea_iinc (pc := 219) (v := 1) (lv' := [(0, vR (some 52)), (1, vI x1), (2, vI x2), (4, vI x4), (5, vI x5), (6, vI x6), (7, vI x7), (8, vI (x8 + (1 : Int32)))]) dX1_comes_219 7 rfl rfl (Nat.le_of_ble_eq_true rfl) [1, 2, 3, 4, 5, 6, 7, 0] rfl ?_
  refine ea_goto (pc := 222) (tgt := 90) dX1_comes_222 rfl ?_
  exact (kJ90 (x1 : Int32) (x2 : Int32) (x4 : Int32) (x5 : Int32) (x6 : Int32) (x7 : Int32) ((x8 + (1 : Int32)) : Int32) w35.2 _ _ E hsw35)
set_option maxRecDepth 100000 in
set_option maxHeartbeats 0 in
theorem kBX1_comes_at52_181 {J90 : Int32 → Int32 → Int32 → Int32 → Int32 → Int32 → Int32 → ea_H → Option (Unit × ea_H)}  (cJ90 : ∀ (x1 : Int32) (x2 : Int32) (x4 : Int32) (x5 : Int32) (x6 : Int32) (x7 : Int32) (x8 : Int32) (h : ea_H), kp (ea_core h) (J90 x1 x2 x4 x5 x6 x7 x8 h)) {x1 : Int32} {x2 : Int32} {x4 : Int32} {x5 : Int32} {x6 : Int32} {x7 : Int32} {x8 : Int32} {h : ea_H} : kp (ea_core h) (BX1_comes_at52_181 J90 x1 x2 x4 x5 x6 x7 x8 h) :=
  (kp_gd (kp_gd (kp_gd (kp_bind (kp_tw (kpX5_stateIn _ _ _) rfl) fun w31 hcw31 => (kp_bind (kp_tw (kpX1_move_at52 _ _ _ _ _) hcw31) fun w34 hcw34 => (kp_bind (kp_tw (kpX4_mark _ _ _) hcw34) fun w35 hcw35 => (kp_tw (cJ90 _ _ _ _ _ _ _ _) hcw35)))))))
set_option maxRecDepth 100000 in
set_option maxHeartbeats 0 in
theorem lBX1_comes_at52_181 {J90 : Int32 → Int32 → Int32 → Int32 → Int32 → Int32 → Int32 → ea_H → Option (Unit × ea_H)} {J90_ : Int32 → Int32 → Int32 → Int32 → Int32 → Int32 → Int32 → ea_H → Option (Unit × ea_H)}  (mJ90 : ∀ (x1 : Int32) (x2 : Int32) (x4 : Int32) (x5 : Int32) (x6 : Int32) (x7 : Int32) (x8 : Int32) (h : ea_H), fle (J90 x1 x2 x4 x5 x6 x7 x8 h) (J90_ x1 x2 x4 x5 x6 x7 x8 h)) {x1 : Int32} {x2 : Int32} {x4 : Int32} {x5 : Int32} {x6 : Int32} {x7 : Int32} {x8 : Int32} {h : ea_H} : fle (BX1_comes_at52_181 J90 x1 x2 x4 x5 x6 x7 x8 h) (BX1_comes_at52_181 J90_ x1 x2 x4 x5 x6 x7 x8 h) :=
  (fle_gd (fle_gd (fle_gd (fle_bind (fle_rfl _) fun _ => (fle_bind (fle_rfl _) fun _ => (fle_bind (fle_rfl _) fun _ => (mJ90 _ _ _ _ _ _ _ _)))))))
set_option maxRecDepth 100000 in
set_option maxHeartbeats 0 in
theorem nBX1_comes_at52_181 {J90 : Int32 → Int32 → Int32 → Int32 → Int32 → Int32 → Int32 → ea_H → Option (Unit × ea_H)} {J90_ : Nat → (Int32 → Int32 → Int32 → Int32 → Int32 → Int32 → Int32 → ea_H → Option (Unit × ea_H))}  (mJ90 : ∀ (x1 : Int32) (x2 : Int32) (x4 : Int32) (x5 : Int32) (x6 : Int32) (x7 : Int32) (x8 : Int32) (h : ea_H), fct (J90 x1 x2 x4 x5 x6 x7 x8 h) (fun f => J90_ f x1 x2 x4 x5 x6 x7 x8 h)) {x1 : Int32} {x2 : Int32} {x4 : Int32} {x5 : Int32} {x6 : Int32} {x7 : Int32} {x8 : Int32} {h : ea_H} : fct (BX1_comes_at52_181 J90 x1 x2 x4 x5 x6 x7 x8 h) (fun f => BX1_comes_at52_181 (J90_ f) x1 x2 x4 x5 x6 x7 x8 h) :=
  (fct_gd (fct_gd (fct_gd (fct_bind (fct_rfl _) fun _ => (fct_bind (fct_rfl _) fun _ => (fct_bind (fct_rfl _) fun _ => (mJ90 _ _ _ _ _ _ _ _)))))))
noncomputable def gX1_comes_at52 : Nat → (Int32 → Int32 → ea_H → Option (Unit × ea_H)) × (Int32 → Int32 → Int32 → Int32 → Int32 → Int32 → ea_H → Option (Unit × ea_H)) × (Int32 → Int32 → Int32 → Int32 → Int32 → Int32 → Int32 → ea_H → Option (Unit × ea_H)) × (Int32 → Int32 → Int32 → Int32 → Int32 → Int32 → Int32 → Int32 → ea_H → Option (Unit × ea_H)) × (Int32 → Int32 → Int32 → Int32 → Int32 → Int32 → Int32 → ea_H → Option (Unit × ea_H))
  | 0 => (fun _ _ _ => none, fun _ _ _ _ _ _ _ => none, fun _ _ _ _ _ _ _ _ => none, fun _ _ _ _ _ _ _ _ _ => none, fun _ _ _ _ _ _ _ _ => none)
  | f + 1 => (BX1_comes_at52_0 (gX1_comes_at52 f).2.1, BX1_comes_at52_68 (gX1_comes_at52 f).2.2.1, BX1_comes_at52_90 (gX1_comes_at52 f).2.2.2.1, BX1_comes_at52_131 (gX1_comes_at52 f).2.2.1 (gX1_comes_at52 f).2.2.2.2, BX1_comes_at52_181 (gX1_comes_at52 f).2.2.1)
theorem mgX1_comes_at52 : ∀ f : Nat, (∀ (x1 : Int32) (x2 : Int32) (h : ea_H), fle ((gX1_comes_at52 f).1 x1 x2 h) ((gX1_comes_at52 (f + 1)).1 x1 x2 h)) ∧ (∀ (x1 : Int32) (x2 : Int32) (x3 : Int32) (x4 : Int32) (x5 : Int32) (sx0 : Int32) (h : ea_H), fle ((gX1_comes_at52 f).2.1 x1 x2 x3 x4 x5 sx0 h) ((gX1_comes_at52 (f + 1)).2.1 x1 x2 x3 x4 x5 sx0 h)) ∧ (∀ (x1 : Int32) (x2 : Int32) (x4 : Int32) (x5 : Int32) (x6 : Int32) (x7 : Int32) (x8 : Int32) (h : ea_H), fle ((gX1_comes_at52 f).2.2.1 x1 x2 x4 x5 x6 x7 x8 h) ((gX1_comes_at52 (f + 1)).2.2.1 x1 x2 x4 x5 x6 x7 x8 h)) ∧ (∀ (x1 : Int32) (x2 : Int32) (x4 : Int32) (x5 : Int32) (x6 : Int32) (x7 : Int32) (x8 : Int32) (sx0 : Int32) (h : ea_H), fle ((gX1_comes_at52 f).2.2.2.1 x1 x2 x4 x5 x6 x7 x8 sx0 h) ((gX1_comes_at52 (f + 1)).2.2.2.1 x1 x2 x4 x5 x6 x7 x8 sx0 h)) ∧ (∀ (x1 : Int32) (x2 : Int32) (x4 : Int32) (x5 : Int32) (x6 : Int32) (x7 : Int32) (x8 : Int32) (h : ea_H), fle ((gX1_comes_at52 f).2.2.2.2 x1 x2 x4 x5 x6 x7 x8 h) ((gX1_comes_at52 (f + 1)).2.2.2.2 x1 x2 x4 x5 x6 x7 x8 h)) := by
  intro f
  induction f with
  | zero => exact ⟨fun _ _ _ => fle_none _, fun _ _ _ _ _ _ _ => fle_none _, fun _ _ _ _ _ _ _ _ => fle_none _, fun _ _ _ _ _ _ _ _ _ => fle_none _, fun _ _ _ _ _ _ _ _ => fle_none _⟩
  | succ f ih => exact ⟨fun _ _ _ => lBX1_comes_at52_0 ih.2.1, fun _ _ _ _ _ _ _ => lBX1_comes_at52_68 ih.2.2.1, fun _ _ _ _ _ _ _ _ => lBX1_comes_at52_90 ih.2.2.2.1, fun _ _ _ _ _ _ _ _ _ => lBX1_comes_at52_131 ih.2.2.1 ih.2.2.2.2, fun _ _ _ _ _ _ _ _ => lBX1_comes_at52_181 ih.2.2.1⟩
noncomputable def qX1_comes_at52_0 (x1 : Int32) (x2 : Int32) (h : ea_H) : Option (Unit × ea_H) := flim fun f => (gX1_comes_at52 f).1 x1 x2 h
noncomputable def qX1_comes_at52_68 (x1 : Int32) (x2 : Int32) (x3 : Int32) (x4 : Int32) (x5 : Int32) (sx0 : Int32) (h : ea_H) : Option (Unit × ea_H) := flim fun f => (gX1_comes_at52 f).2.1 x1 x2 x3 x4 x5 sx0 h
noncomputable def qX1_comes_at52_90 (x1 : Int32) (x2 : Int32) (x4 : Int32) (x5 : Int32) (x6 : Int32) (x7 : Int32) (x8 : Int32) (h : ea_H) : Option (Unit × ea_H) := flim fun f => (gX1_comes_at52 f).2.2.1 x1 x2 x4 x5 x6 x7 x8 h
noncomputable def qX1_comes_at52_131 (x1 : Int32) (x2 : Int32) (x4 : Int32) (x5 : Int32) (x6 : Int32) (x7 : Int32) (x8 : Int32) (sx0 : Int32) (h : ea_H) : Option (Unit × ea_H) := flim fun f => (gX1_comes_at52 f).2.2.2.1 x1 x2 x4 x5 x6 x7 x8 sx0 h
noncomputable def qX1_comes_at52_181 (x1 : Int32) (x2 : Int32) (x4 : Int32) (x5 : Int32) (x6 : Int32) (x7 : Int32) (x8 : Int32) (h : ea_H) : Option (Unit × ea_H) := flim fun f => (gX1_comes_at52 f).2.2.2.2 x1 x2 x4 x5 x6 x7 x8 h
theorem fqX1_comes_at52_0 (x1 : Int32) (x2 : Int32) (h : ea_H) : fct (qX1_comes_at52_0 x1 x2 h) fun f => (gX1_comes_at52 f).1 x1 x2 h := flim_ct fun f => (mgX1_comes_at52 f).1 x1 x2 h
theorem fqX1_comes_at52_68 (x1 : Int32) (x2 : Int32) (x3 : Int32) (x4 : Int32) (x5 : Int32) (sx0 : Int32) (h : ea_H) : fct (qX1_comes_at52_68 x1 x2 x3 x4 x5 sx0 h) fun f => (gX1_comes_at52 f).2.1 x1 x2 x3 x4 x5 sx0 h := flim_ct fun f => (mgX1_comes_at52 f).2.1 x1 x2 x3 x4 x5 sx0 h
theorem fqX1_comes_at52_90 (x1 : Int32) (x2 : Int32) (x4 : Int32) (x5 : Int32) (x6 : Int32) (x7 : Int32) (x8 : Int32) (h : ea_H) : fct (qX1_comes_at52_90 x1 x2 x4 x5 x6 x7 x8 h) fun f => (gX1_comes_at52 f).2.2.1 x1 x2 x4 x5 x6 x7 x8 h := flim_ct fun f => (mgX1_comes_at52 f).2.2.1 x1 x2 x4 x5 x6 x7 x8 h
theorem fqX1_comes_at52_131 (x1 : Int32) (x2 : Int32) (x4 : Int32) (x5 : Int32) (x6 : Int32) (x7 : Int32) (x8 : Int32) (sx0 : Int32) (h : ea_H) : fct (qX1_comes_at52_131 x1 x2 x4 x5 x6 x7 x8 sx0 h) fun f => (gX1_comes_at52 f).2.2.2.1 x1 x2 x4 x5 x6 x7 x8 sx0 h := flim_ct fun f => (mgX1_comes_at52 f).2.2.2.1 x1 x2 x4 x5 x6 x7 x8 sx0 h
theorem fqX1_comes_at52_181 (x1 : Int32) (x2 : Int32) (x4 : Int32) (x5 : Int32) (x6 : Int32) (x7 : Int32) (x8 : Int32) (h : ea_H) : fct (qX1_comes_at52_181 x1 x2 x4 x5 x6 x7 x8 h) fun f => (gX1_comes_at52 f).2.2.2.2 x1 x2 x4 x5 x6 x7 x8 h := flim_ct fun f => (mgX1_comes_at52 f).2.2.2.2 x1 x2 x4 x5 x6 x7 x8 h
/-- how a block opens -/
theorem uqX1_comes_at52_0 {x1 : Int32} {x2 : Int32} {h : ea_H} {P : Unit × ea_H → Prop} (H : sat (BX1_comes_at52_0 qX1_comes_at52_68 x1 x2 h) P) : sat (qX1_comes_at52_0 x1 x2 h) P := by
  obtain ⟨x, e, hp⟩ := H
  obtain ⟨n, hn⟩ := nBX1_comes_at52_0 fqX1_comes_at52_68 x e
  exact ⟨x, flim_at (fun f => (mgX1_comes_at52 f).1 x1 x2 h) (f := n + 1) (hn n (Nat.le_refl _)), hp⟩
/-- how a block opens -/
theorem uqX1_comes_at52_68 {x1 : Int32} {x2 : Int32} {x3 : Int32} {x4 : Int32} {x5 : Int32} {sx0 : Int32} {h : ea_H} {P : Unit × ea_H → Prop} (H : sat (BX1_comes_at52_68 qX1_comes_at52_90 x1 x2 x3 x4 x5 sx0 h) P) : sat (qX1_comes_at52_68 x1 x2 x3 x4 x5 sx0 h) P := by
  obtain ⟨x, e, hp⟩ := H
  obtain ⟨n, hn⟩ := nBX1_comes_at52_68 fqX1_comes_at52_90 x e
  exact ⟨x, flim_at (fun f => (mgX1_comes_at52 f).2.1 x1 x2 x3 x4 x5 sx0 h) (f := n + 1) (hn n (Nat.le_refl _)), hp⟩
/-- how a block opens -/
theorem uqX1_comes_at52_90 {x1 : Int32} {x2 : Int32} {x4 : Int32} {x5 : Int32} {x6 : Int32} {x7 : Int32} {x8 : Int32} {h : ea_H} {P : Unit × ea_H → Prop} (H : sat (BX1_comes_at52_90 qX1_comes_at52_131 x1 x2 x4 x5 x6 x7 x8 h) P) : sat (qX1_comes_at52_90 x1 x2 x4 x5 x6 x7 x8 h) P := by
  obtain ⟨x, e, hp⟩ := H
  obtain ⟨n, hn⟩ := nBX1_comes_at52_90 fqX1_comes_at52_131 x e
  exact ⟨x, flim_at (fun f => (mgX1_comes_at52 f).2.2.1 x1 x2 x4 x5 x6 x7 x8 h) (f := n + 1) (hn n (Nat.le_refl _)), hp⟩
/-- how a block opens -/
theorem uqX1_comes_at52_131 {x1 : Int32} {x2 : Int32} {x4 : Int32} {x5 : Int32} {x6 : Int32} {x7 : Int32} {x8 : Int32} {sx0 : Int32} {h : ea_H} {P : Unit × ea_H → Prop} (H : sat (BX1_comes_at52_131 qX1_comes_at52_90 qX1_comes_at52_181 x1 x2 x4 x5 x6 x7 x8 sx0 h) P) : sat (qX1_comes_at52_131 x1 x2 x4 x5 x6 x7 x8 sx0 h) P := by
  obtain ⟨x, e, hp⟩ := H
  obtain ⟨n, hn⟩ := nBX1_comes_at52_131 fqX1_comes_at52_90 fqX1_comes_at52_181 x e
  exact ⟨x, flim_at (fun f => (mgX1_comes_at52 f).2.2.2.1 x1 x2 x4 x5 x6 x7 x8 sx0 h) (f := n + 1) (hn n (Nat.le_refl _)), hp⟩
/-- how a block opens -/
theorem uqX1_comes_at52_181 {x1 : Int32} {x2 : Int32} {x4 : Int32} {x5 : Int32} {x6 : Int32} {x7 : Int32} {x8 : Int32} {h : ea_H} {P : Unit × ea_H → Prop} (H : sat (BX1_comes_at52_181 qX1_comes_at52_90 x1 x2 x4 x5 x6 x7 x8 h) P) : sat (qX1_comes_at52_181 x1 x2 x4 x5 x6 x7 x8 h) P := by
  obtain ⟨x, e, hp⟩ := H
  obtain ⟨n, hn⟩ := nBX1_comes_at52_181 fqX1_comes_at52_90 x e
  exact ⟨x, flim_at (fun f => (mgX1_comes_at52 f).2.2.2.2 x1 x2 x4 x5 x6 x7 x8 h) (f := n + 1) (hn n (Nat.le_refl _)), hp⟩
theorem kgX1_comes_at52 : ∀ f : Nat, (∀ (x1 : Int32) (x2 : Int32) (h : ea_H), kp (ea_core h) ((gX1_comes_at52 f).1 x1 x2 h)) ∧ (∀ (x1 : Int32) (x2 : Int32) (x3 : Int32) (x4 : Int32) (x5 : Int32) (sx0 : Int32) (h : ea_H), kp (ea_core h) ((gX1_comes_at52 f).2.1 x1 x2 x3 x4 x5 sx0 h)) ∧ (∀ (x1 : Int32) (x2 : Int32) (x4 : Int32) (x5 : Int32) (x6 : Int32) (x7 : Int32) (x8 : Int32) (h : ea_H), kp (ea_core h) ((gX1_comes_at52 f).2.2.1 x1 x2 x4 x5 x6 x7 x8 h)) ∧ (∀ (x1 : Int32) (x2 : Int32) (x4 : Int32) (x5 : Int32) (x6 : Int32) (x7 : Int32) (x8 : Int32) (sx0 : Int32) (h : ea_H), kp (ea_core h) ((gX1_comes_at52 f).2.2.2.1 x1 x2 x4 x5 x6 x7 x8 sx0 h)) ∧ (∀ (x1 : Int32) (x2 : Int32) (x4 : Int32) (x5 : Int32) (x6 : Int32) (x7 : Int32) (x8 : Int32) (h : ea_H), kp (ea_core h) ((gX1_comes_at52 f).2.2.2.2 x1 x2 x4 x5 x6 x7 x8 h)) := by
  intro f
  induction f with
  | zero => exact ⟨fun _ _ _ => kp_none _, fun _ _ _ _ _ _ _ => kp_none _, fun _ _ _ _ _ _ _ _ => kp_none _, fun _ _ _ _ _ _ _ _ _ => kp_none _, fun _ _ _ _ _ _ _ _ => kp_none _⟩
  | succ f ih => exact ⟨fun _ _ _ => kBX1_comes_at52_0 ih.2.1, fun _ _ _ _ _ _ _ => kBX1_comes_at52_68 ih.2.2.1, fun _ _ _ _ _ _ _ _ => kBX1_comes_at52_90 ih.2.2.2.1, fun _ _ _ _ _ _ _ _ _ => kBX1_comes_at52_131 ih.2.2.1 ih.2.2.2.2, fun _ _ _ _ _ _ _ _ => kBX1_comes_at52_181 ih.2.2.1⟩
theorem tgX1_comes_at52 {d : Nat} {h0 : ea_H} (hd : 4 ≤ d) : ∀ f : Nat, (∀ (x1 : Int32) (x2 : Int32) (h : ea_H) (r : Unit) (h' : ea_H), (gX1_comes_at52 f).1 x1 x2 h = some (r, h') → ShC h → ea_W mX1_comes d h0 none h' 0 [(0, vR (some 52)), (1, vI x1), (2, vI x2)] [] h) ∧ (∀ (x1 : Int32) (x2 : Int32) (x3 : Int32) (x4 : Int32) (x5 : Int32) (sx0 : Int32) (h : ea_H) (r : Unit) (h' : ea_H), (gX1_comes_at52 f).2.1 x1 x2 x3 x4 x5 sx0 h = some (r, h') → ShC h → ea_W mX1_comes d h0 none h' 68 [(0, vR (some 52)), (1, vI x1), (2, vI x2), (3, vI x3), (4, vI x4), (5, vI x5)] [vI sx0] h) ∧ (∀ (x1 : Int32) (x2 : Int32) (x4 : Int32) (x5 : Int32) (x6 : Int32) (x7 : Int32) (x8 : Int32) (h : ea_H) (r : Unit) (h' : ea_H), (gX1_comes_at52 f).2.2.1 x1 x2 x4 x5 x6 x7 x8 h = some (r, h') → ShC h → ea_W mX1_comes d h0 none h' 90 [(0, vR (some 52)), (1, vI x1), (2, vI x2), (4, vI x4), (5, vI x5), (6, vI x6), (7, vI x7), (8, vI x8)] [] h) ∧ (∀ (x1 : Int32) (x2 : Int32) (x4 : Int32) (x5 : Int32) (x6 : Int32) (x7 : Int32) (x8 : Int32) (sx0 : Int32) (h : ea_H) (r : Unit) (h' : ea_H), (gX1_comes_at52 f).2.2.2.1 x1 x2 x4 x5 x6 x7 x8 sx0 h = some (r, h') → ShC h → ea_W mX1_comes d h0 none h' 131 [(0, vR (some 52)), (1, vI x1), (2, vI x2), (4, vI x4), (5, vI x5), (6, vI x6), (7, vI x7), (8, vI x8)] [vI sx0] h) ∧ (∀ (x1 : Int32) (x2 : Int32) (x4 : Int32) (x5 : Int32) (x6 : Int32) (x7 : Int32) (x8 : Int32) (h : ea_H) (r : Unit) (h' : ea_H), (gX1_comes_at52 f).2.2.2.2 x1 x2 x4 x5 x6 x7 x8 h = some (r, h') → ShC h → ea_W mX1_comes d h0 none h' 181 [(0, vR (some 52)), (1, vI x1), (2, vI x2), (4, vI x4), (5, vI x5), (6, vI x6), (7, vI x7), (8, vI x8)] [] h) := by
  intro f
  induction f with
  | zero => exact ⟨fun _ _ _ _ _ E => no_some E, fun _ _ _ _ _ _ _ _ _ E => no_some E, fun _ _ _ _ _ _ _ _ _ _ E => no_some E, fun _ _ _ _ _ _ _ _ _ _ _ E => no_some E, fun _ _ _ _ _ _ _ _ _ _ E => no_some E⟩
  | succ f ih => exact ⟨fun _ _ _ _ _ E hs => tBX1_comes_at52_0 hd ih.2.1 E hs, fun _ _ _ _ _ _ _ _ _ E hs => tBX1_comes_at52_68 hd ih.2.2.1 E hs, fun _ _ _ _ _ _ _ _ _ _ E hs => tBX1_comes_at52_90 hd ih.2.2.2.1 E hs, fun _ _ _ _ _ _ _ _ _ _ _ E hs => tBX1_comes_at52_131 hd ih.2.2.1 ih.2.2.2.2 E hs, fun _ _ _ _ _ _ _ _ _ _ E hs => tBX1_comes_at52_181 hd ih.2.2.1 E hs⟩
noncomputable def qX1_comes_at52 (x1 : Int32) (x2 : Int32) (h : ea_H) : Option (Unit × ea_H) := qX1_comes_at52_0 x1 x2 h
theorem sX1_comes_at52 {d : Nat} {x1 : Int32} {x2 : Int32} {h : ea_H} {r : Unit} {h' : ea_H} (hd : 4 ≤ d) (hs : ShC h) (K : qX1_comes_at52 x1 x2 h = some (r, h')) : ea_Met mX1_comes d [vR (some 52), vI x1, vI x2] h none h' := by
  unfold qX1_comes_at52 at K
  obtain ⟨n, hn⟩ := fqX1_comes_at52_0 x1 x2 h _ K
  have W := (tgX1_comes_at52 (d := d) (h0 := h) hd n).1 x1 x2 h _ _ (hn n (Nat.le_refl _)) hs
  exact ea_enter rfl (Nat.le_of_ble_eq_true rfl) W
theorem kpX1_comes_at52 (x1 : Int32) (x2 : Int32) (h : ea_H) : kp (ea_core h) (qX1_comes_at52 x1 x2 h) := fun x e => by
  obtain ⟨n, hn⟩ := fqX1_comes_at52_0 x1 x2 h x e
  exact (kgX1_comes_at52 n).1 x1 x2 h x (hn n (Nat.le_refl _))
noncomputable def BX1_comes_at62_0 (J68 : Int32 → Int32 → Int32 → Int32 → Int32 → Int32 → ea_H → Option (Unit × ea_H)) (x1 : Int32) (x2 : Int32) (h : ea_H) : Option (Unit × ea_H) :=
  (Option.bind (qX10_trainIn (x1 : Int32) h) fun w1 => (Option.bind (qX10_stopIn (x1 : Int32) w1.2) fun w2 => (Option.bind (qX10_dayIn (x1 : Int32) w2.2) fun w3 => (ea_let (((10 : Int32) * w3.1) + w1.1) fun (v4 : Int32) => (gd (vp_in v4 70) (if (ea_i w3.2 71 (Int32.toNatClampNeg v4)) = (0 : Int32) then (some ((), w3.2)) else (Option.bind (qX9_isMissed (v4 : Int32) (w2.1 : Int32) w3.2) fun w6 => (if w6.1 = (0 : Int32) then (gd (vp_in w1.1 10) (if w2.1 = ((ea_i w6.2 6 (Int32.toNatClampNeg w1.1)) - (1 : Int32)) then (J68 (x1 : Int32) (x2 : Int32) (w1.1 : Int32) (w2.1 : Int32) (v4 : Int32) (1 : Int32) w6.2) else (J68 (x1 : Int32) (x2 : Int32) (w1.1 : Int32) (w2.1 : Int32) (v4 : Int32) (0 : Int32) w6.2))) else (some ((), w6.2))))))))))
set_option maxRecDepth 100000 in
set_option maxHeartbeats 0 in
theorem tBX1_comes_at62_0 {d : Nat} {h0 : ea_H} (hd : 4 ≤ d) {J68 : Int32 → Int32 → Int32 → Int32 → Int32 → Int32 → ea_H → Option (Unit × ea_H)}  (kJ68 : ∀ (x1 : Int32) (x2 : Int32) (x3 : Int32) (x4 : Int32) (x5 : Int32) (sx0 : Int32) (h : ea_H) (r : Unit) (h' : ea_H), J68 x1 x2 x3 x4 x5 sx0 h = some (r, h') → ShC h → ea_W mX1_comes d h0 none h' 68 [(0, vR (some 62)), (1, vI x1), (2, vI x2), (3, vI x3), (4, vI x4), (5, vI x5)] [vI sx0] h) {x1 : Int32} {x2 : Int32} {h : ea_H} {r : Unit} {h' : ea_H} (E : BX1_comes_at62_0 J68 x1 x2 h = some (r, h')) (hs : ShC h) : ea_W mX1_comes d h0 none h' 0 [(0, vR (some 62)), (1, vI x1), (2, vI x2)] [] h := by
  unfold BX1_comes_at62_0 at E
  obtain ⟨w1, Ew1, E⟩ := bd_some E
  have hsw1 : ShC w1.2 := ShC_core ((kpX10_trainIn _ _) _ Ew1) hs
  refine ea_iload_n (pc := 0) dX1_comes_0 rfl 1 rfl ?_
  refine ea_callS (pc := 1) (d' := d - 1) (As := [vI x1]) (st := []) dX1_comes_1 kX10_trainIn (sX10_trainIn (d := d - 1) (by omega) Ew1) (by omega) rfl (Nat.le_of_ble_eq_true rfl) ew_867 ew_786 ?_
  obtain ⟨w2, Ew2, E⟩ := bd_some E
  have hsw2 : ShC w2.2 := ShC_core ((kpX10_stopIn _ _) _ Ew2) hsw1
  refine ea_istore_n (pc := 4) (lv' := [(0, vR (some 62)), (1, vI x1), (2, vI x2), (3, vI w1.1)]) dX1_comes_4 rfl (Nat.le_of_ble_eq_true rfl) [1, 2, 3, 0] rfl ?_
  refine ea_iload_n (pc := 5) dX1_comes_5 rfl 1 rfl ?_
  refine ea_callS (pc := 6) (d' := d - 1) (As := [vI x1]) (st := []) dX1_comes_6 kX10_stopIn (sX10_stopIn (d := d - 1) (by omega) Ew2) (by omega) rfl (Nat.le_of_ble_eq_true rfl) ew_868 ew_789 ?_
  obtain ⟨w3, Ew3, E⟩ := bd_some E
  have hsw3 : ShC w3.2 := ShC_core ((kpX10_dayIn _ _) _ Ew3) hsw2
  refine ea_istore (pc := 9) (lv' := [(0, vR (some 62)), (1, vI x1), (2, vI x2), (3, vI w1.1), (4, vI w2.1)]) dX1_comes_9 (Nat.le_of_ble_eq_true rfl) [1, 2, 3, 4, 0] rfl ?_
  refine ea_bipush (pc := 11) dX1_comes_11 (v := 10) rfl ?_
  refine ea_iload_n (pc := 13) dX1_comes_13 rfl 1 rfl ?_
  refine ea_callS (pc := 14) (d' := d - 1) (As := [vI x1]) (st := [vI 10]) dX1_comes_14 kX10_dayIn (sX10_dayIn (d := d - 1) (by omega) Ew3) (by omega) rfl (Nat.le_of_ble_eq_true rfl) ew_869 ew_827 ?_
  obtain ⟨v4, ev4, E⟩ := let_some E
  refine ea_imul (pc := 17) dX1_comes_17 ?_
  refine ea_iload_n (pc := 18) dX1_comes_18 rfl 3 rfl ?_
  refine ea_iadd (pc := 19) dX1_comes_19 ?_
  obtain ⟨z5, E⟩ := gd_some E
  refine ea_istore (pc := 20) (lv' := [(0, vR (some 62)), (1, vI x1), (2, vI x2), (3, vI w1.1), (4, vI w2.1), (5, vI v4)]) dX1_comes_20 (Nat.le_of_ble_eq_true rfl) [1, 2, 3, 4, 5, 0] (by rw [ev4]; rfl) ?_
  refine ea_aload_n (pc := 22) dX1_comes_22 rfl 0 rfl ?_
  refine ea_getR (pc := 23) dX1_comes_23 ec_1 (k := 9) (Nat.le_of_ble_eq_true rfl) rfl (Or.inl ew_457) (cShC_62 hsw3).1 (cShC_62 hsw3).2.1 (rShC_62_9 hsw3) ?_
  refine ea_iload (pc := 26) dX1_comes_26 5 rfl ?_
  refine ea_iald (pc := 28) dX1_comes_28 (cShC_71 hsw3).1 (cShC_71 hsw3).2.1 (ea_vpl (cShC_71 hsw3).2.2 z5) ?_
  refine ea_if_eq (pc := 29) (tgt := 46) dX1_comes_29 rfl (fun c10 => ?_) (fun c10 => ?_)
  · have E := (if_pos c10).symm.trans E
    exact ea_vretO (pc := 46) dX1_comes_46 rfl E
  · have E := (if_neg c10).symm.trans E
    obtain ⟨w6, Ew6, E⟩ := bd_some E
    have hsw6 : ShC w6.2 := ShC_core ((kpX9_isMissed _ _ _) _ Ew6) hsw3
    refine ea_aload_n (pc := 32) dX1_comes_32 rfl 0 rfl ?_
    refine ea_getR (pc := 33) dX1_comes_33 ec_1 (k := 11) (Nat.le_of_ble_eq_true rfl) rfl (Or.inl ew_459) (cShC_62 hsw3).1 (cShC_62 hsw3).2.1 (rShC_62_11 hsw3) ?_
    refine ea_iload (pc := 36) dX1_comes_36 5 rfl ?_
    refine ea_iload (pc := 38) dX1_comes_38 4 rfl ?_
    refine ea_callV (pc := 40) (d' := d - 1) (As := [vI v4, vI w2.1]) (st := []) dX1_comes_40 kX9_isMissed (sX9_isMissed (d := d - 1) (by omega) hsw3 Ew6) (by omega) rfl (Nat.le_of_ble_eq_true rfl) ew_870 ew_738 ew_739 (ci := 9) rfl (by decide) (cShC_5 hsw3).1 (cShC_5 hsw3).2.1 ?_
    refine ea_if_eq (pc := 43) (tgt := 47) dX1_comes_43 rfl (fun c9 => ?_) (fun c9 => ?_)
    · have E := (if_pos c9).symm.trans E
      obtain ⟨z7, E⟩ := gd_some E
      refine ea_iload (pc := 47) dX1_comes_47 4 rfl ?_
      refine ea_aload_n (pc := 49) dX1_comes_49 rfl 0 rfl ?_
      refine ea_getR (pc := 50) dX1_comes_50 ec_1 (k := 11) (Nat.le_of_ble_eq_true rfl) rfl (Or.inl ew_459) (cShC_62 hsw6).1 (cShC_62 hsw6).2.1 (rShC_62_11 hsw6) ?_
      refine ea_getR (pc := 53) dX1_comes_53 ec_9 (k := 1) (Nat.le_of_ble_eq_true rfl) rfl (Or.inl ew_189) (cShC_5 hsw6).1 (cShC_5 hsw6).2.1 (rShC_5_1 hsw6) ?_
      refine ea_iload_n (pc := 56) dX1_comes_56 rfl 3 rfl ?_
      refine ea_iald (pc := 57) dX1_comes_57 (cShC_6 hsw6).1 (cShC_6 hsw6).2.1 (ea_vpl (cShC_6 hsw6).2.2 z7) ?_
      refine ea_iconst (pc := 58) dX1_comes_58 (v := 1) rfl ?_
      refine ea_isub (pc := 59) dX1_comes_59 ?_
      refine ea_icmp_ne (pc := 60) (tgt := 67) dX1_comes_60 rfl (fun c8 => ?_) (fun c8 => ?_)
      · have E := (if_neg c8).symm.trans E
        refine ea_iconst (pc := 67) dX1_comes_67 (v := 0) rfl ?_
        exact (kJ68 (x1 : Int32) (x2 : Int32) (w1.1 : Int32) (w2.1 : Int32) (v4 : Int32) (0 : Int32) w6.2 _ _ E hsw6)
      · have E := (if_pos c8).symm.trans E
        refine ea_iconst (pc := 63) dX1_comes_63 (v := 1) rfl ?_
        refine ea_goto (pc := 64) (tgt := 68) dX1_comes_64 rfl ?_
        exact (kJ68 (x1 : Int32) (x2 : Int32) (w1.1 : Int32) (w2.1 : Int32) (v4 : Int32) (1 : Int32) w6.2 _ _ E hsw6)
    · have E := (if_neg c9).symm.trans E
      exact ea_vretO (pc := 46) dX1_comes_46 rfl E
set_option maxRecDepth 100000 in
set_option maxHeartbeats 0 in
theorem kBX1_comes_at62_0 {J68 : Int32 → Int32 → Int32 → Int32 → Int32 → Int32 → ea_H → Option (Unit × ea_H)}  (cJ68 : ∀ (x1 : Int32) (x2 : Int32) (x3 : Int32) (x4 : Int32) (x5 : Int32) (sx0 : Int32) (h : ea_H), kp (ea_core h) (J68 x1 x2 x3 x4 x5 sx0 h)) {x1 : Int32} {x2 : Int32} {h : ea_H} : kp (ea_core h) (BX1_comes_at62_0 J68 x1 x2 h) :=
  (kp_bind (kp_tw (kpX10_trainIn _ _) rfl) fun w1 hcw1 => (kp_bind (kp_tw (kpX10_stopIn _ _) hcw1) fun w2 hcw2 => (kp_bind (kp_tw (kpX10_dayIn _ _) hcw2) fun w3 hcw3 => (kp_let (kp_gd (kp_ite (kp_ret hcw3) (kp_bind (kp_tw (kpX9_isMissed _ _ _) hcw3) fun w6 hcw6 => (kp_ite (kp_gd (kp_ite (kp_tw (cJ68 _ _ _ _ _ _ _) hcw6) (kp_tw (cJ68 _ _ _ _ _ _ _) hcw6))) (kp_ret hcw6)))))))))
set_option maxRecDepth 100000 in
set_option maxHeartbeats 0 in
theorem lBX1_comes_at62_0 {J68 : Int32 → Int32 → Int32 → Int32 → Int32 → Int32 → ea_H → Option (Unit × ea_H)} {J68_ : Int32 → Int32 → Int32 → Int32 → Int32 → Int32 → ea_H → Option (Unit × ea_H)}  (mJ68 : ∀ (x1 : Int32) (x2 : Int32) (x3 : Int32) (x4 : Int32) (x5 : Int32) (sx0 : Int32) (h : ea_H), fle (J68 x1 x2 x3 x4 x5 sx0 h) (J68_ x1 x2 x3 x4 x5 sx0 h)) {x1 : Int32} {x2 : Int32} {h : ea_H} : fle (BX1_comes_at62_0 J68 x1 x2 h) (BX1_comes_at62_0 J68_ x1 x2 h) :=
  (fle_bind (fle_rfl _) fun _ => (fle_bind (fle_rfl _) fun _ => (fle_bind (fle_rfl _) fun _ => (fle_let fun _ => (fle_gd (fle_ite (fle_rfl _) (fle_bind (fle_rfl _) fun _ => (fle_ite (fle_gd (fle_ite (mJ68 _ _ _ _ _ _ _) (mJ68 _ _ _ _ _ _ _))) (fle_rfl _)))))))))
set_option maxRecDepth 100000 in
set_option maxHeartbeats 0 in
theorem nBX1_comes_at62_0 {J68 : Int32 → Int32 → Int32 → Int32 → Int32 → Int32 → ea_H → Option (Unit × ea_H)} {J68_ : Nat → (Int32 → Int32 → Int32 → Int32 → Int32 → Int32 → ea_H → Option (Unit × ea_H))}  (mJ68 : ∀ (x1 : Int32) (x2 : Int32) (x3 : Int32) (x4 : Int32) (x5 : Int32) (sx0 : Int32) (h : ea_H), fct (J68 x1 x2 x3 x4 x5 sx0 h) (fun f => J68_ f x1 x2 x3 x4 x5 sx0 h)) {x1 : Int32} {x2 : Int32} {h : ea_H} : fct (BX1_comes_at62_0 J68 x1 x2 h) (fun f => BX1_comes_at62_0 (J68_ f) x1 x2 h) :=
  (fct_bind (fct_rfl _) fun _ => (fct_bind (fct_rfl _) fun _ => (fct_bind (fct_rfl _) fun _ => (fct_let fun _ => (fct_gd (fct_ite (fct_rfl _) (fct_bind (fct_rfl _) fun _ => (fct_ite (fct_gd (fct_ite (mJ68 _ _ _ _ _ _ _) (mJ68 _ _ _ _ _ _ _))) (fct_rfl _)))))))))
noncomputable def BX1_comes_at62_68 (J90 : Int32 → Int32 → Int32 → Int32 → Int32 → Int32 → Int32 → ea_H → Option (Unit × ea_H)) (x1 : Int32) (x2 : Int32) (x3 : Int32) (x4 : Int32) (x5 : Int32) (sx0 : Int32) (h : ea_H) : Option (Unit × ea_H) :=
  (gd (vp_in (((8 : Int32) * x3) + x4) 80) (ea_let (ea_i h 7 (Int32.toNatClampNeg (((8 : Int32) * x3) + x4))) fun (v12 : Int32) => (J90 (x1 : Int32) (x2 : Int32) (x4 : Int32) (x5 : Int32) (sx0 : Int32) (v12 : Int32) (0 : Int32) h)))
set_option maxRecDepth 100000 in
set_option maxHeartbeats 0 in
theorem tBX1_comes_at62_68 {d : Nat} {h0 : ea_H} (hd : 4 ≤ d) {J90 : Int32 → Int32 → Int32 → Int32 → Int32 → Int32 → Int32 → ea_H → Option (Unit × ea_H)}  (kJ90 : ∀ (x1 : Int32) (x2 : Int32) (x4 : Int32) (x5 : Int32) (x6 : Int32) (x7 : Int32) (x8 : Int32) (h : ea_H) (r : Unit) (h' : ea_H), J90 x1 x2 x4 x5 x6 x7 x8 h = some (r, h') → ShC h → ea_W mX1_comes d h0 none h' 90 [(0, vR (some 62)), (1, vI x1), (2, vI x2), (4, vI x4), (5, vI x5), (6, vI x6), (7, vI x7), (8, vI x8)] [] h) {x1 : Int32} {x2 : Int32} {x3 : Int32} {x4 : Int32} {x5 : Int32} {sx0 : Int32} {h : ea_H} {r : Unit} {h' : ea_H} (E : BX1_comes_at62_68 J90 x1 x2 x3 x4 x5 sx0 h = some (r, h')) (hs : ShC h) : ea_W mX1_comes d h0 none h' 68 [(0, vR (some 62)), (1, vI x1), (2, vI x2), (3, vI x3), (4, vI x4), (5, vI x5)] [vI sx0] h := by
  unfold BX1_comes_at62_68 at E
  obtain ⟨z11, E⟩ := gd_some E
  refine ea_istore (pc := 68) (lv' := [(0, vR (some 62)), (1, vI x1), (2, vI x2), (3, vI x3), (4, vI x4), (5, vI x5), (6, vI sx0)]) dX1_comes_68 (Nat.le_of_ble_eq_true rfl) [1, 2, 3, 4, 5, 6, 0] rfl ?_
  refine ea_aload_n (pc := 70) dX1_comes_70 rfl 0 rfl ?_
  refine ea_getR (pc := 71) dX1_comes_71 ec_1 (k := 11) (Nat.le_of_ble_eq_true rfl) rfl (Or.inl ew_459) (cShC_62 hs).1 (cShC_62 hs).2.1 (rShC_62_11 hs) ?_
  refine ea_getR (pc := 74) dX1_comes_74 ec_9 (k := 2) (Nat.le_of_ble_eq_true rfl) rfl (Or.inl ew_194) (cShC_5 hs).1 (cShC_5 hs).2.1 (rShC_5_2 hs) ?_
  refine ea_bipush (pc := 77) dX1_comes_77 (v := 8) rfl ?_
  refine ea_iload_n (pc := 79) dX1_comes_79 rfl 3 rfl ?_
  refine ea_imul (pc := 80) dX1_comes_80 ?_
  refine ea_iload (pc := 81) dX1_comes_81 4 rfl ?_
  refine ea_iadd (pc := 83) dX1_comes_83 ?_
  obtain ⟨v12, ev12, E⟩ := let_some E
  refine ea_iald (pc := 84) dX1_comes_84 (cShC_7 hs).1 (cShC_7 hs).2.1 (ea_vpl (cShC_7 hs).2.2 z11) ?_
  refine ea_istore (pc := 85) (lv' := [(0, vR (some 62)), (1, vI x1), (2, vI x2), (4, vI x4), (5, vI x5), (6, vI sx0), (7, vI v12)]) dX1_comes_85 (Nat.le_of_ble_eq_true rfl) [1, 2, 3, 5, 6, 7, 0] (by rw [ev12]; rfl) ?_
  refine ea_iconst (pc := 87) dX1_comes_87 (v := 0) rfl ?_
  refine ea_istore (pc := 88) (lv' := [(0, vR (some 62)), (1, vI x1), (2, vI x2), (4, vI x4), (5, vI x5), (6, vI sx0), (7, vI v12), (8, vI 0)]) dX1_comes_88 (Nat.le_of_ble_eq_true rfl) [1, 2, 3, 4, 5, 6, 7, 0] rfl ?_
  exact (kJ90 (x1 : Int32) (x2 : Int32) (x4 : Int32) (x5 : Int32) (sx0 : Int32) (v12 : Int32) (0 : Int32) h _ _ E hs)
set_option maxRecDepth 100000 in
set_option maxHeartbeats 0 in
theorem kBX1_comes_at62_68 {J90 : Int32 → Int32 → Int32 → Int32 → Int32 → Int32 → Int32 → ea_H → Option (Unit × ea_H)}  (cJ90 : ∀ (x1 : Int32) (x2 : Int32) (x4 : Int32) (x5 : Int32) (x6 : Int32) (x7 : Int32) (x8 : Int32) (h : ea_H), kp (ea_core h) (J90 x1 x2 x4 x5 x6 x7 x8 h)) {x1 : Int32} {x2 : Int32} {x3 : Int32} {x4 : Int32} {x5 : Int32} {sx0 : Int32} {h : ea_H} : kp (ea_core h) (BX1_comes_at62_68 J90 x1 x2 x3 x4 x5 sx0 h) :=
  (kp_gd (kp_let (kp_tw (cJ90 _ _ _ _ _ _ _ _) rfl)))
set_option maxRecDepth 100000 in
set_option maxHeartbeats 0 in
theorem lBX1_comes_at62_68 {J90 : Int32 → Int32 → Int32 → Int32 → Int32 → Int32 → Int32 → ea_H → Option (Unit × ea_H)} {J90_ : Int32 → Int32 → Int32 → Int32 → Int32 → Int32 → Int32 → ea_H → Option (Unit × ea_H)}  (mJ90 : ∀ (x1 : Int32) (x2 : Int32) (x4 : Int32) (x5 : Int32) (x6 : Int32) (x7 : Int32) (x8 : Int32) (h : ea_H), fle (J90 x1 x2 x4 x5 x6 x7 x8 h) (J90_ x1 x2 x4 x5 x6 x7 x8 h)) {x1 : Int32} {x2 : Int32} {x3 : Int32} {x4 : Int32} {x5 : Int32} {sx0 : Int32} {h : ea_H} : fle (BX1_comes_at62_68 J90 x1 x2 x3 x4 x5 sx0 h) (BX1_comes_at62_68 J90_ x1 x2 x3 x4 x5 sx0 h) :=
  (fle_gd (fle_let fun _ => (mJ90 _ _ _ _ _ _ _ _)))
set_option maxRecDepth 100000 in
set_option maxHeartbeats 0 in
theorem nBX1_comes_at62_68 {J90 : Int32 → Int32 → Int32 → Int32 → Int32 → Int32 → Int32 → ea_H → Option (Unit × ea_H)} {J90_ : Nat → (Int32 → Int32 → Int32 → Int32 → Int32 → Int32 → Int32 → ea_H → Option (Unit × ea_H))}  (mJ90 : ∀ (x1 : Int32) (x2 : Int32) (x4 : Int32) (x5 : Int32) (x6 : Int32) (x7 : Int32) (x8 : Int32) (h : ea_H), fct (J90 x1 x2 x4 x5 x6 x7 x8 h) (fun f => J90_ f x1 x2 x4 x5 x6 x7 x8 h)) {x1 : Int32} {x2 : Int32} {x3 : Int32} {x4 : Int32} {x5 : Int32} {sx0 : Int32} {h : ea_H} : fct (BX1_comes_at62_68 J90 x1 x2 x3 x4 x5 sx0 h) (fun f => BX1_comes_at62_68 (J90_ f) x1 x2 x3 x4 x5 sx0 h) :=
  (fct_gd (fct_let fun _ => (mJ90 _ _ _ _ _ _ _ _)))
noncomputable def BX1_comes_at62_90 (J131 : Int32 → Int32 → Int32 → Int32 → Int32 → Int32 → Int32 → Int32 → ea_H → Option (Unit × ea_H)) (x1 : Int32) (x2 : Int32) (x4 : Int32) (x5 : Int32) (x6 : Int32) (x7 : Int32) (x8 : Int32) (h : ea_H) : Option (Unit × ea_H) :=
  (if (ea_i h 62 0) ≤ x8 then (some ((), h)) else (if x6 = (0 : Int32) then (gd (vp_in x8 120) (if (ea_i h 67 (Int32.toNatClampNeg x8)) = (0 : Int32) then (J131 (x1 : Int32) (x2 : Int32) (x4 : Int32) (x5 : Int32) (x6 : Int32) (x7 : Int32) (x8 : Int32) (0 : Int32) h) else (gd (vp_in x8 120) (if x4 < (ea_i h 65 (Int32.toNatClampNeg x8)) then (J131 (x1 : Int32) (x2 : Int32) (x4 : Int32) (x5 : Int32) (x6 : Int32) (x7 : Int32) (x8 : Int32) (0 : Int32) h) else (J131 (x1 : Int32) (x2 : Int32) (x4 : Int32) (x5 : Int32) (x6 : Int32) (x7 : Int32) (x8 : Int32) (1 : Int32) h))))) else (J131 (x1 : Int32) (x2 : Int32) (x4 : Int32) (x5 : Int32) (x6 : Int32) (x7 : Int32) (x8 : Int32) (1 : Int32) h)))
set_option maxRecDepth 100000 in
set_option maxHeartbeats 0 in
theorem tBX1_comes_at62_90 {d : Nat} {h0 : ea_H} (hd : 4 ≤ d) {J131 : Int32 → Int32 → Int32 → Int32 → Int32 → Int32 → Int32 → Int32 → ea_H → Option (Unit × ea_H)}  (kJ131 : ∀ (x1 : Int32) (x2 : Int32) (x4 : Int32) (x5 : Int32) (x6 : Int32) (x7 : Int32) (x8 : Int32) (sx0 : Int32) (h : ea_H) (r : Unit) (h' : ea_H), J131 x1 x2 x4 x5 x6 x7 x8 sx0 h = some (r, h') → ShC h → ea_W mX1_comes d h0 none h' 131 [(0, vR (some 62)), (1, vI x1), (2, vI x2), (4, vI x4), (5, vI x5), (6, vI x6), (7, vI x7), (8, vI x8)] [vI sx0] h) {x1 : Int32} {x2 : Int32} {x4 : Int32} {x5 : Int32} {x6 : Int32} {x7 : Int32} {x8 : Int32} {h : ea_H} {r : Unit} {h' : ea_H} (E : BX1_comes_at62_90 J131 x1 x2 x4 x5 x6 x7 x8 h = some (r, h')) (hs : ShC h) : ea_W mX1_comes d h0 none h' 90 [(0, vR (some 62)), (1, vI x1), (2, vI x2), (4, vI x4), (5, vI x5), (6, vI x6), (7, vI x7), (8, vI x8)] [] h := by
  unfold BX1_comes_at62_90 at E
  refine ea_iload (pc := 90) dX1_comes_90 7 rfl ?_
  refine ea_aload_n (pc := 92) dX1_comes_92 rfl 0 rfl ?_
  refine ea_getI (pc := 93) dX1_comes_93 ec_1 (k := 0) (Nat.le_of_ble_eq_true rfl) rfl (Or.inl ew_441) (cShC_62 hs).1 (cShC_62 hs).2.1 ?_
  refine ea_icmp_ge (pc := 96) (tgt := 225) dX1_comes_96 rfl (fun c18 => ?_) (fun c18 => ?_)
  · have E := (if_pos c18).symm.trans E
    exact ea_vretO (pc := 225) dX1_comes_225 rfl E
  · have E := (if_neg c18).symm.trans E
    refine ea_iload (pc := 99) dX1_comes_99 5 rfl ?_
    refine ea_if_ne (pc := 101) (tgt := 126) dX1_comes_101 rfl (fun c17 => ?_) (fun c17 => ?_)
    · have E := (if_neg c17).symm.trans E
      refine ea_iconst (pc := 126) dX1_comes_126 (v := 1) rfl ?_
      refine ea_goto (pc := 127) (tgt := 131) dX1_comes_127 rfl ?_
      exact (kJ131 (x1 : Int32) (x2 : Int32) (x4 : Int32) (x5 : Int32) (x6 : Int32) (x7 : Int32) (x8 : Int32) (1 : Int32) h _ _ E hs)
    · have E := (if_pos c17).symm.trans E
      obtain ⟨z13, E⟩ := gd_some E
      refine ea_aload_n (pc := 104) dX1_comes_104 rfl 0 rfl ?_
      refine ea_getR (pc := 105) dX1_comes_105 ec_1 (k := 5) (Nat.le_of_ble_eq_true rfl) rfl (Or.inl ew_451) (cShC_62 hs).1 (cShC_62 hs).2.1 (rShC_62_5 hs) ?_
      refine ea_iload (pc := 108) dX1_comes_108 7 rfl ?_
      refine ea_zald (pc := 110) dX1_comes_110 (cShC_67 hs).1 (cShC_67 hs).2.1 (ea_vpl (cShC_67 hs).2.2 z13) ?_
      refine ea_if_eq (pc := 111) (tgt := 130) dX1_comes_111 rfl (fun c16 => ?_) (fun c16 => ?_)
      · have E := (if_pos c16).symm.trans E
        refine ea_iconst (pc := 130) dX1_comes_130 (v := 0) rfl ?_
        exact (kJ131 (x1 : Int32) (x2 : Int32) (x4 : Int32) (x5 : Int32) (x6 : Int32) (x7 : Int32) (x8 : Int32) (0 : Int32) h _ _ E hs)
      · have E := (if_neg c16).symm.trans E
        obtain ⟨z14, E⟩ := gd_some E
        refine ea_aload_n (pc := 114) dX1_comes_114 rfl 0 rfl ?_
        refine ea_getR (pc := 115) dX1_comes_115 ec_1 (k := 3) (Nat.le_of_ble_eq_true rfl) rfl (Or.inl ew_447) (cShC_62 hs).1 (cShC_62 hs).2.1 (rShC_62_3 hs) ?_
        refine ea_iload (pc := 118) dX1_comes_118 7 rfl ?_
        refine ea_iald (pc := 120) dX1_comes_120 (cShC_65 hs).1 (cShC_65 hs).2.1 (ea_vpl (cShC_65 hs).2.2 z14) ?_
        refine ea_iload (pc := 121) dX1_comes_121 3 rfl ?_
        refine ea_icmp_gt (pc := 123) (tgt := 130) dX1_comes_123 rfl (fun c15 => ?_) (fun c15 => ?_)
        · have E := (if_pos c15).symm.trans E
          refine ea_iconst (pc := 130) dX1_comes_130 (v := 0) rfl ?_
          exact (kJ131 (x1 : Int32) (x2 : Int32) (x4 : Int32) (x5 : Int32) (x6 : Int32) (x7 : Int32) (x8 : Int32) (0 : Int32) h _ _ E hs)
        · have E := (if_neg c15).symm.trans E
          refine ea_iconst (pc := 126) dX1_comes_126 (v := 1) rfl ?_
          refine ea_goto (pc := 127) (tgt := 131) dX1_comes_127 rfl ?_
          exact (kJ131 (x1 : Int32) (x2 : Int32) (x4 : Int32) (x5 : Int32) (x6 : Int32) (x7 : Int32) (x8 : Int32) (1 : Int32) h _ _ E hs)
set_option maxRecDepth 100000 in
set_option maxHeartbeats 0 in
theorem kBX1_comes_at62_90 {J131 : Int32 → Int32 → Int32 → Int32 → Int32 → Int32 → Int32 → Int32 → ea_H → Option (Unit × ea_H)}  (cJ131 : ∀ (x1 : Int32) (x2 : Int32) (x4 : Int32) (x5 : Int32) (x6 : Int32) (x7 : Int32) (x8 : Int32) (sx0 : Int32) (h : ea_H), kp (ea_core h) (J131 x1 x2 x4 x5 x6 x7 x8 sx0 h)) {x1 : Int32} {x2 : Int32} {x4 : Int32} {x5 : Int32} {x6 : Int32} {x7 : Int32} {x8 : Int32} {h : ea_H} : kp (ea_core h) (BX1_comes_at62_90 J131 x1 x2 x4 x5 x6 x7 x8 h) :=
  (kp_ite (kp_ret rfl) (kp_ite (kp_gd (kp_ite (kp_tw (cJ131 _ _ _ _ _ _ _ _ _) rfl) (kp_gd (kp_ite (kp_tw (cJ131 _ _ _ _ _ _ _ _ _) rfl) (kp_tw (cJ131 _ _ _ _ _ _ _ _ _) rfl))))) (kp_tw (cJ131 _ _ _ _ _ _ _ _ _) rfl)))
set_option maxRecDepth 100000 in
set_option maxHeartbeats 0 in
theorem lBX1_comes_at62_90 {J131 : Int32 → Int32 → Int32 → Int32 → Int32 → Int32 → Int32 → Int32 → ea_H → Option (Unit × ea_H)} {J131_ : Int32 → Int32 → Int32 → Int32 → Int32 → Int32 → Int32 → Int32 → ea_H → Option (Unit × ea_H)}  (mJ131 : ∀ (x1 : Int32) (x2 : Int32) (x4 : Int32) (x5 : Int32) (x6 : Int32) (x7 : Int32) (x8 : Int32) (sx0 : Int32) (h : ea_H), fle (J131 x1 x2 x4 x5 x6 x7 x8 sx0 h) (J131_ x1 x2 x4 x5 x6 x7 x8 sx0 h)) {x1 : Int32} {x2 : Int32} {x4 : Int32} {x5 : Int32} {x6 : Int32} {x7 : Int32} {x8 : Int32} {h : ea_H} : fle (BX1_comes_at62_90 J131 x1 x2 x4 x5 x6 x7 x8 h) (BX1_comes_at62_90 J131_ x1 x2 x4 x5 x6 x7 x8 h) :=
  (fle_ite (fle_rfl _) (fle_ite (fle_gd (fle_ite (mJ131 _ _ _ _ _ _ _ _ _) (fle_gd (fle_ite (mJ131 _ _ _ _ _ _ _ _ _) (mJ131 _ _ _ _ _ _ _ _ _))))) (mJ131 _ _ _ _ _ _ _ _ _)))
set_option maxRecDepth 100000 in
set_option maxHeartbeats 0 in
theorem nBX1_comes_at62_90 {J131 : Int32 → Int32 → Int32 → Int32 → Int32 → Int32 → Int32 → Int32 → ea_H → Option (Unit × ea_H)} {J131_ : Nat → (Int32 → Int32 → Int32 → Int32 → Int32 → Int32 → Int32 → Int32 → ea_H → Option (Unit × ea_H))}  (mJ131 : ∀ (x1 : Int32) (x2 : Int32) (x4 : Int32) (x5 : Int32) (x6 : Int32) (x7 : Int32) (x8 : Int32) (sx0 : Int32) (h : ea_H), fct (J131 x1 x2 x4 x5 x6 x7 x8 sx0 h) (fun f => J131_ f x1 x2 x4 x5 x6 x7 x8 sx0 h)) {x1 : Int32} {x2 : Int32} {x4 : Int32} {x5 : Int32} {x6 : Int32} {x7 : Int32} {x8 : Int32} {h : ea_H} : fct (BX1_comes_at62_90 J131 x1 x2 x4 x5 x6 x7 x8 h) (fun f => BX1_comes_at62_90 (J131_ f) x1 x2 x4 x5 x6 x7 x8 h) :=
  (fct_ite (fct_rfl _) (fct_ite (fct_gd (fct_ite (mJ131 _ _ _ _ _ _ _ _ _) (fct_gd (fct_ite (mJ131 _ _ _ _ _ _ _ _ _) (mJ131 _ _ _ _ _ _ _ _ _))))) (mJ131 _ _ _ _ _ _ _ _ _)))
noncomputable def BX1_comes_at62_131 (J90 : Int32 → Int32 → Int32 → Int32 → Int32 → Int32 → Int32 → ea_H → Option (Unit × ea_H)) (J181 : Int32 → Int32 → Int32 → Int32 → Int32 → Int32 → Int32 → ea_H → Option (Unit × ea_H)) (x1 : Int32) (x2 : Int32) (x4 : Int32) (x5 : Int32) (x6 : Int32) (x7 : Int32) (x8 : Int32) (sx0 : Int32) (h : ea_H) : Option (Unit × ea_H) :=
  (if sx0 = (0 : Int32) then (J90 (x1 : Int32) (x2 : Int32) (x4 : Int32) (x5 : Int32) (x6 : Int32) (x7 : Int32) ((x8 + (1 : Int32)) : Int32) h) else (Option.bind (qX1_isAboard_at62 (x8 : Int32) (x5 : Int32) h) fun w19 => (if w19.1 = (0 : Int32) then (J90 (x1 : Int32) (x2 : Int32) (x4 : Int32) (x5 : Int32) (x6 : Int32) (x7 : Int32) ((x8 + (1 : Int32)) : Int32) w19.2) else (gd (vp_in x8 120) (if (ea_i w19.2 67 (Int32.toNatClampNeg x8)) = (0 : Int32) then (gd (vp_in x8 120) (gd (vp_in x8 120) (ea_let (ea_wi w19.2 66 (Int32.toNatClampNeg x8) ((ea_i w19.2 66 (Int32.toNatClampNeg x8)) + (1 : Int32))) fun H23 => (gd (vp_in x5 70) (gd (vp_in x5 70) (ea_let (ea_wi H23 68 (Int32.toNatClampNeg x5) ((ea_i H23 68 (Int32.toNatClampNeg x5)) + (1 : Int32))) fun H26 => (J181 (x1 : Int32) (x2 : Int32) (x4 : Int32) (x5 : Int32) (x6 : Int32) (x7 : Int32) (x8 : Int32) H26))))))) else (J181 (x1 : Int32) (x2 : Int32) (x4 : Int32) (x5 : Int32) (x6 : Int32) (x7 : Int32) (x8 : Int32) w19.2))))))
set_option maxRecDepth 100000 in
set_option maxHeartbeats 0 in
theorem tBX1_comes_at62_131 {d : Nat} {h0 : ea_H} (hd : 4 ≤ d) {J90 : Int32 → Int32 → Int32 → Int32 → Int32 → Int32 → Int32 → ea_H → Option (Unit × ea_H)} {J181 : Int32 → Int32 → Int32 → Int32 → Int32 → Int32 → Int32 → ea_H → Option (Unit × ea_H)}  (kJ90 : ∀ (x1 : Int32) (x2 : Int32) (x4 : Int32) (x5 : Int32) (x6 : Int32) (x7 : Int32) (x8 : Int32) (h : ea_H) (r : Unit) (h' : ea_H), J90 x1 x2 x4 x5 x6 x7 x8 h = some (r, h') → ShC h → ea_W mX1_comes d h0 none h' 90 [(0, vR (some 62)), (1, vI x1), (2, vI x2), (4, vI x4), (5, vI x5), (6, vI x6), (7, vI x7), (8, vI x8)] [] h) (kJ181 : ∀ (x1 : Int32) (x2 : Int32) (x4 : Int32) (x5 : Int32) (x6 : Int32) (x7 : Int32) (x8 : Int32) (h : ea_H) (r : Unit) (h' : ea_H), J181 x1 x2 x4 x5 x6 x7 x8 h = some (r, h') → ShC h → ea_W mX1_comes d h0 none h' 181 [(0, vR (some 62)), (1, vI x1), (2, vI x2), (4, vI x4), (5, vI x5), (6, vI x6), (7, vI x7), (8, vI x8)] [] h) {x1 : Int32} {x2 : Int32} {x4 : Int32} {x5 : Int32} {x6 : Int32} {x7 : Int32} {x8 : Int32} {sx0 : Int32} {h : ea_H} {r : Unit} {h' : ea_H} (E : BX1_comes_at62_131 J90 J181 x1 x2 x4 x5 x6 x7 x8 sx0 h = some (r, h')) (hs : ShC h) : ea_W mX1_comes d h0 none h' 131 [(0, vR (some 62)), (1, vI x1), (2, vI x2), (4, vI x4), (5, vI x5), (6, vI x6), (7, vI x7), (8, vI x8)] [vI sx0] h := by
  unfold BX1_comes_at62_131 at E
  refine ea_istore (pc := 131) (lv' := [(0, vR (some 62)), (1, vI x1), (2, vI x2), (4, vI x4), (5, vI x5), (6, vI x6), (7, vI x7), (8, vI x8), (9, vI sx0)]) dX1_comes_131 (Nat.le_of_ble_eq_true rfl) [1, 2, 3, 4, 5, 6, 7, 8, 0] rfl ?_
  refine ea_iload (pc := 133) dX1_comes_133 8 rfl ?_
  refine ea_if_eq (pc := 135) (tgt := 219) dX1_comes_135 rfl (fun c29 => ?_) (fun c29 => ?_)
  · have E := (if_pos c29).symm.trans E
    refine ea_iinc (pc := 219) (v := 1) (lv' := [(0, vR (some 62)), (1, vI x1), (2, vI x2), (4, vI x4), (5, vI x5), (6, vI x6), (7, vI x7), (8, vI (x8 + (1 : Int32)))]) dX1_comes_219 7 rfl rfl (Nat.le_of_ble_eq_true rfl) [1, 2, 3, 4, 5, 6, 7, 0] rfl ?_
    refine ea_goto (pc := 222) (tgt := 90) dX1_comes_222 rfl ?_
    exact (kJ90 (x1 : Int32) (x2 : Int32) (x4 : Int32) (x5 : Int32) (x6 : Int32) (x7 : Int32) ((x8 + (1 : Int32)) : Int32) h _ _ E hs)
  · have E := (if_neg c29).symm.trans E
    obtain ⟨w19, Ew19, E⟩ := bd_some E
    have hsw19 : ShC w19.2 := ShC_core ((kpX1_isAboard_at62 _ _ _) _ Ew19) hs
    refine ea_aload_n (pc := 138) dX1_comes_138 rfl 0 rfl ?_
    refine ea_iload (pc := 139) dX1_comes_139 7 rfl ?_
    refine ea_iload (pc := 141) dX1_comes_141 4 rfl ?_
    refine ea_callV (pc := 143) (d' := d - 1) (As := [vI x8, vI x5]) (st := []) dX1_comes_143 kX1_isAboard (sX1_isAboard_at62 (d := d - 1) (by omega) hs Ew19) (by omega) rfl (Nat.le_of_ble_eq_true rfl) ew_896 ew_897 ew_898 (ci := 1) rfl (by decide) (cShC_62 hs).1 (cShC_62 hs).2.1 ?_
    refine ea_if_eq (pc := 146) (tgt := 219) dX1_comes_146 rfl (fun c28 => ?_) (fun c28 => ?_)
    · have E := (if_pos c28).symm.trans E
      refine ea_iinc (pc := 219) (v := 1) (lv' := [(0, vR (some 62)), (1, vI x1), (2, vI x2), (4, vI x4), (5, vI x5), (6, vI x6), (7, vI x7), (8, vI (x8 + (1 : Int32)))]) dX1_comes_219 7 rfl rfl (Nat.le_of_ble_eq_true rfl) [1, 2, 3, 4, 5, 6, 7, 0] rfl ?_
      refine ea_goto (pc := 222) (tgt := 90) dX1_comes_222 rfl ?_
      exact (kJ90 (x1 : Int32) (x2 : Int32) (x4 : Int32) (x5 : Int32) (x6 : Int32) (x7 : Int32) ((x8 + (1 : Int32)) : Int32) w19.2 _ _ E hsw19)
    · have E := (if_neg c28).symm.trans E
      obtain ⟨z20, E⟩ := gd_some E
      refine ea_aload_n (pc := 149) dX1_comes_149 rfl 0 rfl ?_
      refine ea_getR (pc := 150) dX1_comes_150 ec_1 (k := 5) (Nat.le_of_ble_eq_true rfl) rfl (Or.inl ew_451) (cShC_62 hsw19).1 (cShC_62 hsw19).2.1 (rShC_62_5 hsw19) ?_
      refine ea_iload (pc := 153) dX1_comes_153 7 rfl ?_
      refine ea_zald (pc := 155) dX1_comes_155 (cShC_67 hsw19).1 (cShC_67 hsw19).2.1 (ea_vpl (cShC_67 hsw19).2.2 z20) ?_
      refine ea_if_ne (pc := 156) (tgt := 181) dX1_comes_156 rfl (fun c27 => ?_) (fun c27 => ?_)
      · have E := (if_neg c27).symm.trans E
        exact ea_fewer [0, 1, 2, 3, 4, 5, 6, 7] rfl (kJ181 (x1 : Int32) (x2 : Int32) (x4 : Int32) (x5 : Int32) (x6 : Int32) (x7 : Int32) (x8 : Int32) w19.2 _ _ E hsw19)
      · have E := (if_pos c27).symm.trans E
        obtain ⟨z21, E⟩ := gd_some E
        refine ea_aload_n (pc := 159) dX1_comes_159 rfl 0 rfl ?_
        refine ea_getR (pc := 160) dX1_comes_160 ec_1 (k := 4) (Nat.le_of_ble_eq_true rfl) rfl (Or.inl ew_449) (cShC_62 hsw19).1 (cShC_62 hsw19).2.1 (rShC_62_4 hsw19) ?_
        refine ea_iload (pc := 163) dX1_comes_163 7 rfl ?_
        refine ea_dup2 (pc := 165) dX1_comes_165 rfl rfl ?_
        obtain ⟨z22, E⟩ := gd_some E
        refine ea_iald (pc := 166) dX1_comes_166 (cShC_66 hsw19).1 (cShC_66 hsw19).2.1 (ea_vpl (cShC_66 hsw19).2.2 z21) ?_
        refine ea_iconst (pc := 167) dX1_comes_167 (v := 1) rfl ?_
        refine ea_iadd (pc := 168) dX1_comes_168 ?_
        obtain ⟨H23, eH23, E⟩ := let_some E
        refine ea_iast (pc := 169) dX1_comes_169 (cShC_66 hsw19).1 (cShC_66 hsw19).2.1 (ea_vpl (cShC_66 hsw19).2.2 z22) ?_
        refine ea_nm eH23 ?_
        have hsH23 : ShC H23 := by rw [eH23]; exact hsw19
        obtain ⟨z24, E⟩ := gd_some E
        refine ea_aload_n (pc := 170) dX1_comes_170 rfl 0 rfl ?_
        refine ea_getR (pc := 171) dX1_comes_171 ec_1 (k := 6) (Nat.le_of_ble_eq_true rfl) rfl (Or.inl ew_453) (cShC_62 hsH23).1 (cShC_62 hsH23).2.1 (rShC_62_6 hsH23) ?_
        refine ea_iload (pc := 174) dX1_comes_174 4 rfl ?_
        refine ea_dup2 (pc := 176) dX1_comes_176 rfl rfl ?_
        obtain ⟨z25, E⟩ := gd_some E
        refine ea_iald (pc := 177) dX1_comes_177 (cShC_68 hsH23).1 (cShC_68 hsH23).2.1 (ea_vpl (cShC_68 hsH23).2.2 z24) ?_
        refine ea_iconst (pc := 178) dX1_comes_178 (v := 1) rfl ?_
        refine ea_iadd (pc := 179) dX1_comes_179 ?_
        obtain ⟨H26, eH26, E⟩ := let_some E
        refine ea_iast (pc := 180) dX1_comes_180 (cShC_68 hsH23).1 (cShC_68 hsH23).2.1 (ea_vpl (cShC_68 hsH23).2.2 z25) ?_
        refine ea_nm eH26 ?_
        have hsH26 : ShC H26 := by rw [eH26]; exact hsH23
        exact ea_fewer [0, 1, 2, 3, 4, 5, 6, 7] rfl (kJ181 (x1 : Int32) (x2 : Int32) (x4 : Int32) (x5 : Int32) (x6 : Int32) (x7 : Int32) (x8 : Int32) H26 _ _ E hsH26)
set_option maxRecDepth 100000 in
set_option maxHeartbeats 0 in
theorem kBX1_comes_at62_131 {J90 : Int32 → Int32 → Int32 → Int32 → Int32 → Int32 → Int32 → ea_H → Option (Unit × ea_H)} {J181 : Int32 → Int32 → Int32 → Int32 → Int32 → Int32 → Int32 → ea_H → Option (Unit × ea_H)}  (cJ90 : ∀ (x1 : Int32) (x2 : Int32) (x4 : Int32) (x5 : Int32) (x6 : Int32) (x7 : Int32) (x8 : Int32) (h : ea_H), kp (ea_core h) (J90 x1 x2 x4 x5 x6 x7 x8 h)) (cJ181 : ∀ (x1 : Int32) (x2 : Int32) (x4 : Int32) (x5 : Int32) (x6 : Int32) (x7 : Int32) (x8 : Int32) (h : ea_H), kp (ea_core h) (J181 x1 x2 x4 x5 x6 x7 x8 h)) {x1 : Int32} {x2 : Int32} {x4 : Int32} {x5 : Int32} {x6 : Int32} {x7 : Int32} {x8 : Int32} {sx0 : Int32} {h : ea_H} : kp (ea_core h) (BX1_comes_at62_131 J90 J181 x1 x2 x4 x5 x6 x7 x8 sx0 h) :=
  (kp_ite (kp_tw (cJ90 _ _ _ _ _ _ _ _) rfl) (kp_bind (kp_tw (kpX1_isAboard_at62 _ _ _) rfl) fun w19 hcw19 => (kp_ite (kp_tw (cJ90 _ _ _ _ _ _ _ _) hcw19) (kp_gd (kp_ite (kp_gd (kp_gd (kp_let (kp_gd (kp_gd (kp_let (kp_tw (cJ181 _ _ _ _ _ _ _ _) hcw19))))))) (kp_tw (cJ181 _ _ _ _ _ _ _ _) hcw19))))))
set_option maxRecDepth 100000 in
set_option maxHeartbeats 0 in
theorem lBX1_comes_at62_131 {J90 : Int32 → Int32 → Int32 → Int32 → Int32 → Int32 → Int32 → ea_H → Option (Unit × ea_H)} {J181 : Int32 → Int32 → Int32 → Int32 → Int32 → Int32 → Int32 → ea_H → Option (Unit × ea_H)} {J90_ : Int32 → Int32 → Int32 → Int32 → Int32 → Int32 → Int32 → ea_H → Option (Unit × ea_H)} {J181_ : Int32 → Int32 → Int32 → Int32 → Int32 → Int32 → Int32 → ea_H → Option (Unit × ea_H)}  (mJ90 : ∀ (x1 : Int32) (x2 : Int32) (x4 : Int32) (x5 : Int32) (x6 : Int32) (x7 : Int32) (x8 : Int32) (h : ea_H), fle (J90 x1 x2 x4 x5 x6 x7 x8 h) (J90_ x1 x2 x4 x5 x6 x7 x8 h)) (mJ181 : ∀ (x1 : Int32) (x2 : Int32) (x4 : Int32) (x5 : Int32) (x6 : Int32) (x7 : Int32) (x8 : Int32) (h : ea_H), fle (J181 x1 x2 x4 x5 x6 x7 x8 h) (J181_ x1 x2 x4 x5 x6 x7 x8 h)) {x1 : Int32} {x2 : Int32} {x4 : Int32} {x5 : Int32} {x6 : Int32} {x7 : Int32} {x8 : Int32} {sx0 : Int32} {h : ea_H} : fle (BX1_comes_at62_131 J90 J181 x1 x2 x4 x5 x6 x7 x8 sx0 h) (BX1_comes_at62_131 J90_ J181_ x1 x2 x4 x5 x6 x7 x8 sx0 h) :=
  (fle_ite (mJ90 _ _ _ _ _ _ _ _) (fle_bind (fle_rfl _) fun _ => (fle_ite (mJ90 _ _ _ _ _ _ _ _) (fle_gd (fle_ite (fle_gd (fle_gd (fle_let fun _ => (fle_gd (fle_gd (fle_let fun _ => (mJ181 _ _ _ _ _ _ _ _))))))) (mJ181 _ _ _ _ _ _ _ _))))))
set_option maxRecDepth 100000 in
set_option maxHeartbeats 0 in
theorem nBX1_comes_at62_131 {J90 : Int32 → Int32 → Int32 → Int32 → Int32 → Int32 → Int32 → ea_H → Option (Unit × ea_H)} {J181 : Int32 → Int32 → Int32 → Int32 → Int32 → Int32 → Int32 → ea_H → Option (Unit × ea_H)} {J90_ : Nat → (Int32 → Int32 → Int32 → Int32 → Int32 → Int32 → Int32 → ea_H → Option (Unit × ea_H))} {J181_ : Nat → (Int32 → Int32 → Int32 → Int32 → Int32 → Int32 → Int32 → ea_H → Option (Unit × ea_H))}  (mJ90 : ∀ (x1 : Int32) (x2 : Int32) (x4 : Int32) (x5 : Int32) (x6 : Int32) (x7 : Int32) (x8 : Int32) (h : ea_H), fct (J90 x1 x2 x4 x5 x6 x7 x8 h) (fun f => J90_ f x1 x2 x4 x5 x6 x7 x8 h)) (mJ181 : ∀ (x1 : Int32) (x2 : Int32) (x4 : Int32) (x5 : Int32) (x6 : Int32) (x7 : Int32) (x8 : Int32) (h : ea_H), fct (J181 x1 x2 x4 x5 x6 x7 x8 h) (fun f => J181_ f x1 x2 x4 x5 x6 x7 x8 h)) {x1 : Int32} {x2 : Int32} {x4 : Int32} {x5 : Int32} {x6 : Int32} {x7 : Int32} {x8 : Int32} {sx0 : Int32} {h : ea_H} : fct (BX1_comes_at62_131 J90 J181 x1 x2 x4 x5 x6 x7 x8 sx0 h) (fun f => BX1_comes_at62_131 (J90_ f) (J181_ f) x1 x2 x4 x5 x6 x7 x8 sx0 h) :=
  (fct_ite (mJ90 _ _ _ _ _ _ _ _) (fct_bind (fct_rfl _) fun _ => (fct_ite (mJ90 _ _ _ _ _ _ _ _) (fct_gd (fct_ite (fct_gd (fct_gd (fct_let fun _ => (fct_gd (fct_gd (fct_let fun _ => (mJ181 _ _ _ _ _ _ _ _))))))) (mJ181 _ _ _ _ _ _ _ _))))))
noncomputable def BX1_comes_at62_181 (J90 : Int32 → Int32 → Int32 → Int32 → Int32 → Int32 → Int32 → ea_H → Option (Unit × ea_H)) (x1 : Int32) (x2 : Int32) (x4 : Int32) (x5 : Int32) (x6 : Int32) (x7 : Int32) (x8 : Int32) (h : ea_H) : Option (Unit × ea_H) :=
  (gd (vp_in x8 120) (gd ((ea_r h 49 (Int32.toNatClampNeg x8)) = some (Option.getD (ea_r h 49 (Int32.toNatClampNeg x8)) 0)) (gd (((Option.getD (ea_r h 49 (Int32.toNatClampNeg x8)) 0) < ea_n h ∧ ea_c h (Option.getD (ea_r h 49 (Int32.toNatClampNeg x8)) 0) = 5)) (Option.bind (qX5_stateIn (Option.getD (ea_r h 49 (Int32.toNatClampNeg x8)) 0) (x7 : Int32) h) fun w31 => (Option.bind (qX1_move_at62 (x8 : Int32) (x2 : Int32) (w31.1 : Int32) (x7 : Int32) w31.2) fun w34 => (J90 (x1 : Int32) (x2 : Int32) (x4 : Int32) (x5 : Int32) (x6 : Int32) (x7 : Int32) ((x8 + (1 : Int32)) : Int32) w34.2))))))
set_option maxRecDepth 100000 in
set_option maxHeartbeats 0 in
theorem tBX1_comes_at62_181 {d : Nat} {h0 : ea_H} (hd : 4 ≤ d) {J90 : Int32 → Int32 → Int32 → Int32 → Int32 → Int32 → Int32 → ea_H → Option (Unit × ea_H)}  (kJ90 : ∀ (x1 : Int32) (x2 : Int32) (x4 : Int32) (x5 : Int32) (x6 : Int32) (x7 : Int32) (x8 : Int32) (h : ea_H) (r : Unit) (h' : ea_H), J90 x1 x2 x4 x5 x6 x7 x8 h = some (r, h') → ShC h → ea_W mX1_comes d h0 none h' 90 [(0, vR (some 62)), (1, vI x1), (2, vI x2), (4, vI x4), (5, vI x5), (6, vI x6), (7, vI x7), (8, vI x8)] [] h) {x1 : Int32} {x2 : Int32} {x4 : Int32} {x5 : Int32} {x6 : Int32} {x7 : Int32} {x8 : Int32} {h : ea_H} {r : Unit} {h' : ea_H} (E : BX1_comes_at62_181 J90 x1 x2 x4 x5 x6 x7 x8 h = some (r, h')) (hs : ShC h) : ea_W mX1_comes d h0 none h' 181 [(0, vR (some 62)), (1, vI x1), (2, vI x2), (4, vI x4), (5, vI x5), (6, vI x6), (7, vI x7), (8, vI x8)] [] h := by
  unfold BX1_comes_at62_181 at E
  obtain ⟨z30, E⟩ := gd_some E
  refine ea_aload_n (pc := 181) dX1_comes_181 rfl 0 rfl ?_
  refine ea_iload (pc := 182) dX1_comes_182 7 rfl ?_
  refine ea_iload_n (pc := 184) dX1_comes_184 rfl 2 rfl ?_
  refine ea_aload_n (pc := 185) dX1_comes_185 rfl 0 rfl ?_
  refine ea_getR (pc := 186) dX1_comes_186 ec_1 (k := 14) (Nat.le_of_ble_eq_true rfl) rfl (Or.inl ew_462) (cShC_62 hs).1 (cShC_62 hs).2.1 (rShC_62_14 hs) ?_
  refine ea_iload (pc := 189) dX1_comes_189 7 rfl ?_
  obtain ⟨e32, E⟩ := gd_some E
  refine ea_aald23 (pc := 191) dX1_comes_191 (cShC_49 hs).1 (cShC_49 hs).2.1 (ea_vpl (cShC_49 hs).2.2 z30) rfl ?_
  refine ea_iload (pc := 192) dX1_comes_192 6 rfl ?_
  obtain ⟨f33, E⟩ := gd_some E
  obtain ⟨w31, Ew31, E⟩ := bd_some E
  have hsw31 : ShC w31.2 := ShC_core ((kpX5_stateIn _ _ _) _ Ew31) hs
  refine ea_deref1 e32 ?_
  refine ea_callV (pc := 194) (d' := d - 1) (As := [vI x7]) (st := [vI x2, vI x8, vR (some 62)]) dX1_comes_194 kX5_stateIn (sX5_stateIn (d := d - 1) (by omega) Ew31) (by omega) rfl (Nat.le_of_ble_eq_true rfl) ew_908 ew_909 ew_910 (ci := 5) rfl (by decide) f33.1 f33.2 ?_
  obtain ⟨w34, Ew34, E⟩ := bd_some E
  have hsw34 : ShC w34.2 := ShC_core ((kpX1_move_at62 _ _ _ _ _) _ Ew34) hsw31
  refine ea_iload (pc := 197) dX1_comes_197 6 rfl ?_
  refine ea_callV (pc := 199) (d' := d - 1) (As := [vI x8, vI x2, vI w31.1, vI x7]) (st := []) dX1_comes_199 kX1_move (sX1_move_at62 (d := d - 1) (by omega) hsw31 Ew34) (by omega) rfl (Nat.le_of_ble_eq_true rfl) ew_851 ew_852 ew_853 (ci := 1) rfl (by decide) (cShC_62 hsw31).1 (cShC_62 hsw31).2.1 ?_
  refine ea_aload_n (pc := 202) dX1_comes_202 rfl 0 rfl ?_
  refine ea_getR (pc := 203) dX1_comes_203 ec_1 (k := 15) (Nat.le_of_ble_eq_true rfl) rfl (Or.inl ew_463) (cShC_62 hsw34).1 (cShC_62 hsw34).2.1 (rShC_62_15 hsw34) ?_
  refine ea_ifnull (pc := 206) (tgt := 219) dX1_comes_206 rfl (fun _ => ?_) (fun _ q => nomatch q)
  refine ea_iinc (pc := 219) (v := 1) (lv' := [(0, vR (some 62)), (1, vI x1), (2, vI x2), (4, vI x4), (5, vI x5), (6, vI x6), (7, vI x7), (8, vI (x8 + (1 : Int32)))]) dX1_comes_219 7 rfl rfl (Nat.le_of_ble_eq_true rfl) [1, 2, 3, 4, 5, 6, 7, 0] rfl ?_
  refine ea_goto (pc := 222) (tgt := 90) dX1_comes_222 rfl ?_
  exact (kJ90 (x1 : Int32) (x2 : Int32) (x4 : Int32) (x5 : Int32) (x6 : Int32) (x7 : Int32) ((x8 + (1 : Int32)) : Int32) w34.2 _ _ E hsw34)
set_option maxRecDepth 100000 in
set_option maxHeartbeats 0 in
theorem kBX1_comes_at62_181 {J90 : Int32 → Int32 → Int32 → Int32 → Int32 → Int32 → Int32 → ea_H → Option (Unit × ea_H)}  (cJ90 : ∀ (x1 : Int32) (x2 : Int32) (x4 : Int32) (x5 : Int32) (x6 : Int32) (x7 : Int32) (x8 : Int32) (h : ea_H), kp (ea_core h) (J90 x1 x2 x4 x5 x6 x7 x8 h)) {x1 : Int32} {x2 : Int32} {x4 : Int32} {x5 : Int32} {x6 : Int32} {x7 : Int32} {x8 : Int32} {h : ea_H} : kp (ea_core h) (BX1_comes_at62_181 J90 x1 x2 x4 x5 x6 x7 x8 h) :=
  (kp_gd (kp_gd (kp_gd (kp_bind (kp_tw (kpX5_stateIn _ _ _) rfl) fun w31 hcw31 => (kp_bind (kp_tw (kpX1_move_at62 _ _ _ _ _) hcw31) fun w34 hcw34 => (kp_tw (cJ90 _ _ _ _ _ _ _ _) hcw34))))))
set_option maxRecDepth 100000 in
set_option maxHeartbeats 0 in
theorem lBX1_comes_at62_181 {J90 : Int32 → Int32 → Int32 → Int32 → Int32 → Int32 → Int32 → ea_H → Option (Unit × ea_H)} {J90_ : Int32 → Int32 → Int32 → Int32 → Int32 → Int32 → Int32 → ea_H → Option (Unit × ea_H)}  (mJ90 : ∀ (x1 : Int32) (x2 : Int32) (x4 : Int32) (x5 : Int32) (x6 : Int32) (x7 : Int32) (x8 : Int32) (h : ea_H), fle (J90 x1 x2 x4 x5 x6 x7 x8 h) (J90_ x1 x2 x4 x5 x6 x7 x8 h)) {x1 : Int32} {x2 : Int32} {x4 : Int32} {x5 : Int32} {x6 : Int32} {x7 : Int32} {x8 : Int32} {h : ea_H} : fle (BX1_comes_at62_181 J90 x1 x2 x4 x5 x6 x7 x8 h) (BX1_comes_at62_181 J90_ x1 x2 x4 x5 x6 x7 x8 h) :=
  (fle_gd (fle_gd (fle_gd (fle_bind (fle_rfl _) fun _ => (fle_bind (fle_rfl _) fun _ => (mJ90 _ _ _ _ _ _ _ _))))))
set_option maxRecDepth 100000 in
set_option maxHeartbeats 0 in
theorem nBX1_comes_at62_181 {J90 : Int32 → Int32 → Int32 → Int32 → Int32 → Int32 → Int32 → ea_H → Option (Unit × ea_H)} {J90_ : Nat → (Int32 → Int32 → Int32 → Int32 → Int32 → Int32 → Int32 → ea_H → Option (Unit × ea_H))}  (mJ90 : ∀ (x1 : Int32) (x2 : Int32) (x4 : Int32) (x5 : Int32) (x6 : Int32) (x7 : Int32) (x8 : Int32) (h : ea_H), fct (J90 x1 x2 x4 x5 x6 x7 x8 h) (fun f => J90_ f x1 x2 x4 x5 x6 x7 x8 h)) {x1 : Int32} {x2 : Int32} {x4 : Int32} {x5 : Int32} {x6 : Int32} {x7 : Int32} {x8 : Int32} {h : ea_H} : fct (BX1_comes_at62_181 J90 x1 x2 x4 x5 x6 x7 x8 h) (fun f => BX1_comes_at62_181 (J90_ f) x1 x2 x4 x5 x6 x7 x8 h) :=
  (fct_gd (fct_gd (fct_gd (fct_bind (fct_rfl _) fun _ => (fct_bind (fct_rfl _) fun _ => (mJ90 _ _ _ _ _ _ _ _))))))
noncomputable def gX1_comes_at62 : Nat → (Int32 → Int32 → ea_H → Option (Unit × ea_H)) × (Int32 → Int32 → Int32 → Int32 → Int32 → Int32 → ea_H → Option (Unit × ea_H)) × (Int32 → Int32 → Int32 → Int32 → Int32 → Int32 → Int32 → ea_H → Option (Unit × ea_H)) × (Int32 → Int32 → Int32 → Int32 → Int32 → Int32 → Int32 → Int32 → ea_H → Option (Unit × ea_H)) × (Int32 → Int32 → Int32 → Int32 → Int32 → Int32 → Int32 → ea_H → Option (Unit × ea_H))
  | 0 => (fun _ _ _ => none, fun _ _ _ _ _ _ _ => none, fun _ _ _ _ _ _ _ _ => none, fun _ _ _ _ _ _ _ _ _ => none, fun _ _ _ _ _ _ _ _ => none)
  | f + 1 => (BX1_comes_at62_0 (gX1_comes_at62 f).2.1, BX1_comes_at62_68 (gX1_comes_at62 f).2.2.1, BX1_comes_at62_90 (gX1_comes_at62 f).2.2.2.1, BX1_comes_at62_131 (gX1_comes_at62 f).2.2.1 (gX1_comes_at62 f).2.2.2.2, BX1_comes_at62_181 (gX1_comes_at62 f).2.2.1)
theorem mgX1_comes_at62 : ∀ f : Nat, (∀ (x1 : Int32) (x2 : Int32) (h : ea_H), fle ((gX1_comes_at62 f).1 x1 x2 h) ((gX1_comes_at62 (f + 1)).1 x1 x2 h)) ∧ (∀ (x1 : Int32) (x2 : Int32) (x3 : Int32) (x4 : Int32) (x5 : Int32) (sx0 : Int32) (h : ea_H), fle ((gX1_comes_at62 f).2.1 x1 x2 x3 x4 x5 sx0 h) ((gX1_comes_at62 (f + 1)).2.1 x1 x2 x3 x4 x5 sx0 h)) ∧ (∀ (x1 : Int32) (x2 : Int32) (x4 : Int32) (x5 : Int32) (x6 : Int32) (x7 : Int32) (x8 : Int32) (h : ea_H), fle ((gX1_comes_at62 f).2.2.1 x1 x2 x4 x5 x6 x7 x8 h) ((gX1_comes_at62 (f + 1)).2.2.1 x1 x2 x4 x5 x6 x7 x8 h)) ∧ (∀ (x1 : Int32) (x2 : Int32) (x4 : Int32) (x5 : Int32) (x6 : Int32) (x7 : Int32) (x8 : Int32) (sx0 : Int32) (h : ea_H), fle ((gX1_comes_at62 f).2.2.2.1 x1 x2 x4 x5 x6 x7 x8 sx0 h) ((gX1_comes_at62 (f + 1)).2.2.2.1 x1 x2 x4 x5 x6 x7 x8 sx0 h)) ∧ (∀ (x1 : Int32) (x2 : Int32) (x4 : Int32) (x5 : Int32) (x6 : Int32) (x7 : Int32) (x8 : Int32) (h : ea_H), fle ((gX1_comes_at62 f).2.2.2.2 x1 x2 x4 x5 x6 x7 x8 h) ((gX1_comes_at62 (f + 1)).2.2.2.2 x1 x2 x4 x5 x6 x7 x8 h)) := by
  intro f
  induction f with
  | zero => exact ⟨fun _ _ _ => fle_none _, fun _ _ _ _ _ _ _ => fle_none _, fun _ _ _ _ _ _ _ _ => fle_none _, fun _ _ _ _ _ _ _ _ _ => fle_none _, fun _ _ _ _ _ _ _ _ => fle_none _⟩
  | succ f ih => exact ⟨fun _ _ _ => lBX1_comes_at62_0 ih.2.1, fun _ _ _ _ _ _ _ => lBX1_comes_at62_68 ih.2.2.1, fun _ _ _ _ _ _ _ _ => lBX1_comes_at62_90 ih.2.2.2.1, fun _ _ _ _ _ _ _ _ _ => lBX1_comes_at62_131 ih.2.2.1 ih.2.2.2.2, fun _ _ _ _ _ _ _ _ => lBX1_comes_at62_181 ih.2.2.1⟩
noncomputable def qX1_comes_at62_0 (x1 : Int32) (x2 : Int32) (h : ea_H) : Option (Unit × ea_H) := flim fun f => (gX1_comes_at62 f).1 x1 x2 h
noncomputable def qX1_comes_at62_68 (x1 : Int32) (x2 : Int32) (x3 : Int32) (x4 : Int32) (x5 : Int32) (sx0 : Int32) (h : ea_H) : Option (Unit × ea_H) := flim fun f => (gX1_comes_at62 f).2.1 x1 x2 x3 x4 x5 sx0 h
noncomputable def qX1_comes_at62_90 (x1 : Int32) (x2 : Int32) (x4 : Int32) (x5 : Int32) (x6 : Int32) (x7 : Int32) (x8 : Int32) (h : ea_H) : Option (Unit × ea_H) := flim fun f => (gX1_comes_at62 f).2.2.1 x1 x2 x4 x5 x6 x7 x8 h
noncomputable def qX1_comes_at62_131 (x1 : Int32) (x2 : Int32) (x4 : Int32) (x5 : Int32) (x6 : Int32) (x7 : Int32) (x8 : Int32) (sx0 : Int32) (h : ea_H) : Option (Unit × ea_H) := flim fun f => (gX1_comes_at62 f).2.2.2.1 x1 x2 x4 x5 x6 x7 x8 sx0 h
noncomputable def qX1_comes_at62_181 (x1 : Int32) (x2 : Int32) (x4 : Int32) (x5 : Int32) (x6 : Int32) (x7 : Int32) (x8 : Int32) (h : ea_H) : Option (Unit × ea_H) := flim fun f => (gX1_comes_at62 f).2.2.2.2 x1 x2 x4 x5 x6 x7 x8 h
theorem fqX1_comes_at62_0 (x1 : Int32) (x2 : Int32) (h : ea_H) : fct (qX1_comes_at62_0 x1 x2 h) fun f => (gX1_comes_at62 f).1 x1 x2 h := flim_ct fun f => (mgX1_comes_at62 f).1 x1 x2 h
theorem fqX1_comes_at62_68 (x1 : Int32) (x2 : Int32) (x3 : Int32) (x4 : Int32) (x5 : Int32) (sx0 : Int32) (h : ea_H) : fct (qX1_comes_at62_68 x1 x2 x3 x4 x5 sx0 h) fun f => (gX1_comes_at62 f).2.1 x1 x2 x3 x4 x5 sx0 h := flim_ct fun f => (mgX1_comes_at62 f).2.1 x1 x2 x3 x4 x5 sx0 h
theorem fqX1_comes_at62_90 (x1 : Int32) (x2 : Int32) (x4 : Int32) (x5 : Int32) (x6 : Int32) (x7 : Int32) (x8 : Int32) (h : ea_H) : fct (qX1_comes_at62_90 x1 x2 x4 x5 x6 x7 x8 h) fun f => (gX1_comes_at62 f).2.2.1 x1 x2 x4 x5 x6 x7 x8 h := flim_ct fun f => (mgX1_comes_at62 f).2.2.1 x1 x2 x4 x5 x6 x7 x8 h
theorem fqX1_comes_at62_131 (x1 : Int32) (x2 : Int32) (x4 : Int32) (x5 : Int32) (x6 : Int32) (x7 : Int32) (x8 : Int32) (sx0 : Int32) (h : ea_H) : fct (qX1_comes_at62_131 x1 x2 x4 x5 x6 x7 x8 sx0 h) fun f => (gX1_comes_at62 f).2.2.2.1 x1 x2 x4 x5 x6 x7 x8 sx0 h := flim_ct fun f => (mgX1_comes_at62 f).2.2.2.1 x1 x2 x4 x5 x6 x7 x8 sx0 h
theorem fqX1_comes_at62_181 (x1 : Int32) (x2 : Int32) (x4 : Int32) (x5 : Int32) (x6 : Int32) (x7 : Int32) (x8 : Int32) (h : ea_H) : fct (qX1_comes_at62_181 x1 x2 x4 x5 x6 x7 x8 h) fun f => (gX1_comes_at62 f).2.2.2.2 x1 x2 x4 x5 x6 x7 x8 h := flim_ct fun f => (mgX1_comes_at62 f).2.2.2.2 x1 x2 x4 x5 x6 x7 x8 h
/-- how a block opens -/
theorem uqX1_comes_at62_0 {x1 : Int32} {x2 : Int32} {h : ea_H} {P : Unit × ea_H → Prop} (H : sat (BX1_comes_at62_0 qX1_comes_at62_68 x1 x2 h) P) : sat (qX1_comes_at62_0 x1 x2 h) P := by
  obtain ⟨x, e, hp⟩ := H
  obtain ⟨n, hn⟩ := nBX1_comes_at62_0 fqX1_comes_at62_68 x e
  exact ⟨x, flim_at (fun f => (mgX1_comes_at62 f).1 x1 x2 h) (f := n + 1) (hn n (Nat.le_refl _)), hp⟩
/-- how a block opens -/
theorem uqX1_comes_at62_68 {x1 : Int32} {x2 : Int32} {x3 : Int32} {x4 : Int32} {x5 : Int32} {sx0 : Int32} {h : ea_H} {P : Unit × ea_H → Prop} (H : sat (BX1_comes_at62_68 qX1_comes_at62_90 x1 x2 x3 x4 x5 sx0 h) P) : sat (qX1_comes_at62_68 x1 x2 x3 x4 x5 sx0 h) P := by
  obtain ⟨x, e, hp⟩ := H
  obtain ⟨n, hn⟩ := nBX1_comes_at62_68 fqX1_comes_at62_90 x e
  exact ⟨x, flim_at (fun f => (mgX1_comes_at62 f).2.1 x1 x2 x3 x4 x5 sx0 h) (f := n + 1) (hn n (Nat.le_refl _)), hp⟩
/-- how a block opens -/
theorem uqX1_comes_at62_90 {x1 : Int32} {x2 : Int32} {x4 : Int32} {x5 : Int32} {x6 : Int32} {x7 : Int32} {x8 : Int32} {h : ea_H} {P : Unit × ea_H → Prop} (H : sat (BX1_comes_at62_90 qX1_comes_at62_131 x1 x2 x4 x5 x6 x7 x8 h) P) : sat (qX1_comes_at62_90 x1 x2 x4 x5 x6 x7 x8 h) P := by
  obtain ⟨x, e, hp⟩ := H
  obtain ⟨n, hn⟩ := nBX1_comes_at62_90 fqX1_comes_at62_131 x e
  exact ⟨x, flim_at (fun f => (mgX1_comes_at62 f).2.2.1 x1 x2 x4 x5 x6 x7 x8 h) (f := n + 1) (hn n (Nat.le_refl _)), hp⟩
/-- how a block opens -/
theorem uqX1_comes_at62_131 {x1 : Int32} {x2 : Int32} {x4 : Int32} {x5 : Int32} {x6 : Int32} {x7 : Int32} {x8 : Int32} {sx0 : Int32} {h : ea_H} {P : Unit × ea_H → Prop} (H : sat (BX1_comes_at62_131 qX1_comes_at62_90 qX1_comes_at62_181 x1 x2 x4 x5 x6 x7 x8 sx0 h) P) : sat (qX1_comes_at62_131 x1 x2 x4 x5 x6 x7 x8 sx0 h) P := by
  obtain ⟨x, e, hp⟩ := H
  obtain ⟨n, hn⟩ := nBX1_comes_at62_131 fqX1_comes_at62_90 fqX1_comes_at62_181 x e
  exact ⟨x, flim_at (fun f => (mgX1_comes_at62 f).2.2.2.1 x1 x2 x4 x5 x6 x7 x8 sx0 h) (f := n + 1) (hn n (Nat.le_refl _)), hp⟩
/-- how a block opens -/
theorem uqX1_comes_at62_181 {x1 : Int32} {x2 : Int32} {x4 : Int32} {x5 : Int32} {x6 : Int32} {x7 : Int32} {x8 : Int32} {h : ea_H} {P : Unit × ea_H → Prop} (H : sat (BX1_comes_at62_181 qX1_comes_at62_90 x1 x2 x4 x5 x6 x7 x8 h) P) : sat (qX1_comes_at62_181 x1 x2 x4 x5 x6 x7 x8 h) P := by
  obtain ⟨x, e, hp⟩ := H
  obtain ⟨n, hn⟩ := nBX1_comes_at62_181 fqX1_comes_at62_90 x e
  exact ⟨x, flim_at (fun f => (mgX1_comes_at62 f).2.2.2.2 x1 x2 x4 x5 x6 x7 x8 h) (f := n + 1) (hn n (Nat.le_refl _)), hp⟩
theorem kgX1_comes_at62 : ∀ f : Nat, (∀ (x1 : Int32) (x2 : Int32) (h : ea_H), kp (ea_core h) ((gX1_comes_at62 f).1 x1 x2 h)) ∧ (∀ (x1 : Int32) (x2 : Int32) (x3 : Int32) (x4 : Int32) (x5 : Int32) (sx0 : Int32) (h : ea_H), kp (ea_core h) ((gX1_comes_at62 f).2.1 x1 x2 x3 x4 x5 sx0 h)) ∧ (∀ (x1 : Int32) (x2 : Int32) (x4 : Int32) (x5 : Int32) (x6 : Int32) (x7 : Int32) (x8 : Int32) (h : ea_H), kp (ea_core h) ((gX1_comes_at62 f).2.2.1 x1 x2 x4 x5 x6 x7 x8 h)) ∧ (∀ (x1 : Int32) (x2 : Int32) (x4 : Int32) (x5 : Int32) (x6 : Int32) (x7 : Int32) (x8 : Int32) (sx0 : Int32) (h : ea_H), kp (ea_core h) ((gX1_comes_at62 f).2.2.2.1 x1 x2 x4 x5 x6 x7 x8 sx0 h)) ∧ (∀ (x1 : Int32) (x2 : Int32) (x4 : Int32) (x5 : Int32) (x6 : Int32) (x7 : Int32) (x8 : Int32) (h : ea_H), kp (ea_core h) ((gX1_comes_at62 f).2.2.2.2 x1 x2 x4 x5 x6 x7 x8 h)) := by
  intro f
  induction f with
  | zero => exact ⟨fun _ _ _ => kp_none _, fun _ _ _ _ _ _ _ => kp_none _, fun _ _ _ _ _ _ _ _ => kp_none _, fun _ _ _ _ _ _ _ _ _ => kp_none _, fun _ _ _ _ _ _ _ _ => kp_none _⟩
  | succ f ih => exact ⟨fun _ _ _ => kBX1_comes_at62_0 ih.2.1, fun _ _ _ _ _ _ _ => kBX1_comes_at62_68 ih.2.2.1, fun _ _ _ _ _ _ _ _ => kBX1_comes_at62_90 ih.2.2.2.1, fun _ _ _ _ _ _ _ _ _ => kBX1_comes_at62_131 ih.2.2.1 ih.2.2.2.2, fun _ _ _ _ _ _ _ _ => kBX1_comes_at62_181 ih.2.2.1⟩
theorem tgX1_comes_at62 {d : Nat} {h0 : ea_H} (hd : 4 ≤ d) : ∀ f : Nat, (∀ (x1 : Int32) (x2 : Int32) (h : ea_H) (r : Unit) (h' : ea_H), (gX1_comes_at62 f).1 x1 x2 h = some (r, h') → ShC h → ea_W mX1_comes d h0 none h' 0 [(0, vR (some 62)), (1, vI x1), (2, vI x2)] [] h) ∧ (∀ (x1 : Int32) (x2 : Int32) (x3 : Int32) (x4 : Int32) (x5 : Int32) (sx0 : Int32) (h : ea_H) (r : Unit) (h' : ea_H), (gX1_comes_at62 f).2.1 x1 x2 x3 x4 x5 sx0 h = some (r, h') → ShC h → ea_W mX1_comes d h0 none h' 68 [(0, vR (some 62)), (1, vI x1), (2, vI x2), (3, vI x3), (4, vI x4), (5, vI x5)] [vI sx0] h) ∧ (∀ (x1 : Int32) (x2 : Int32) (x4 : Int32) (x5 : Int32) (x6 : Int32) (x7 : Int32) (x8 : Int32) (h : ea_H) (r : Unit) (h' : ea_H), (gX1_comes_at62 f).2.2.1 x1 x2 x4 x5 x6 x7 x8 h = some (r, h') → ShC h → ea_W mX1_comes d h0 none h' 90 [(0, vR (some 62)), (1, vI x1), (2, vI x2), (4, vI x4), (5, vI x5), (6, vI x6), (7, vI x7), (8, vI x8)] [] h) ∧ (∀ (x1 : Int32) (x2 : Int32) (x4 : Int32) (x5 : Int32) (x6 : Int32) (x7 : Int32) (x8 : Int32) (sx0 : Int32) (h : ea_H) (r : Unit) (h' : ea_H), (gX1_comes_at62 f).2.2.2.1 x1 x2 x4 x5 x6 x7 x8 sx0 h = some (r, h') → ShC h → ea_W mX1_comes d h0 none h' 131 [(0, vR (some 62)), (1, vI x1), (2, vI x2), (4, vI x4), (5, vI x5), (6, vI x6), (7, vI x7), (8, vI x8)] [vI sx0] h) ∧ (∀ (x1 : Int32) (x2 : Int32) (x4 : Int32) (x5 : Int32) (x6 : Int32) (x7 : Int32) (x8 : Int32) (h : ea_H) (r : Unit) (h' : ea_H), (gX1_comes_at62 f).2.2.2.2 x1 x2 x4 x5 x6 x7 x8 h = some (r, h') → ShC h → ea_W mX1_comes d h0 none h' 181 [(0, vR (some 62)), (1, vI x1), (2, vI x2), (4, vI x4), (5, vI x5), (6, vI x6), (7, vI x7), (8, vI x8)] [] h) := by
  intro f
  induction f with
  | zero => exact ⟨fun _ _ _ _ _ E => no_some E, fun _ _ _ _ _ _ _ _ _ E => no_some E, fun _ _ _ _ _ _ _ _ _ _ E => no_some E, fun _ _ _ _ _ _ _ _ _ _ _ E => no_some E, fun _ _ _ _ _ _ _ _ _ _ E => no_some E⟩
  | succ f ih => exact ⟨fun _ _ _ _ _ E hs => tBX1_comes_at62_0 hd ih.2.1 E hs, fun _ _ _ _ _ _ _ _ _ E hs => tBX1_comes_at62_68 hd ih.2.2.1 E hs, fun _ _ _ _ _ _ _ _ _ _ E hs => tBX1_comes_at62_90 hd ih.2.2.2.1 E hs, fun _ _ _ _ _ _ _ _ _ _ _ E hs => tBX1_comes_at62_131 hd ih.2.2.1 ih.2.2.2.2 E hs, fun _ _ _ _ _ _ _ _ _ _ E hs => tBX1_comes_at62_181 hd ih.2.2.1 E hs⟩
noncomputable def qX1_comes_at62 (x1 : Int32) (x2 : Int32) (h : ea_H) : Option (Unit × ea_H) := qX1_comes_at62_0 x1 x2 h
theorem sX1_comes_at62 {d : Nat} {x1 : Int32} {x2 : Int32} {h : ea_H} {r : Unit} {h' : ea_H} (hd : 4 ≤ d) (hs : ShC h) (K : qX1_comes_at62 x1 x2 h = some (r, h')) : ea_Met mX1_comes d [vR (some 62), vI x1, vI x2] h none h' := by
  unfold qX1_comes_at62 at K
  obtain ⟨n, hn⟩ := fqX1_comes_at62_0 x1 x2 h _ K
  have W := (tgX1_comes_at62 (d := d) (h0 := h) hd n).1 x1 x2 h _ _ (hn n (Nat.le_refl _)) hs
  exact ea_enter rfl (Nat.le_of_ble_eq_true rfl) W
theorem kpX1_comes_at62 (x1 : Int32) (x2 : Int32) (h : ea_H) : kp (ea_core h) (qX1_comes_at62 x1 x2 h) := fun x e => by
  obtain ⟨n, hn⟩ := fqX1_comes_at62_0 x1 x2 h x e
  exact (kgX1_comes_at62 n).1 x1 x2 h x (hn n (Nat.le_refl _))
noncomputable def BX1_goes_at52_0 (J66 : Int32 → Int32 → Int32 → Int32 → Int32 → Int32 → Int32 → ea_H → Option (Unit × ea_H)) (J168 : Int32 → Int32 → Int32 → ea_H → Option (Unit × ea_H)) (x1 : Int32) (x2 : Int32) (h : ea_H) : Option (Unit × ea_H) :=
  (Option.bind (qX10_trainIn (x1 : Int32) h) fun w1 => (Option.bind (qX10_stopIn (x1 : Int32) w1.2) fun w2 => (Option.bind (qX10_dayIn (x1 : Int32) w2.2) fun w3 => (ea_let (((10 : Int32) * w3.1) + w1.1) fun (v4 : Int32) => (gd (vp_in (((8 : Int32) * w1.1) + w2.1) 80) (ea_let (ea_i w3.2 7 (Int32.toNatClampNeg (((8 : Int32) * w1.1) + w2.1))) fun (v6 : Int32) => (gd (vp_in v6 12) (if (ea_i w3.2 60 (Int32.toNatClampNeg v6)) ≤ (0 : Int32) then (J168 (w1.1 : Int32) (w2.1 : Int32) (v4 : Int32) w3.2) else (Option.bind (qX9_isMissed (v4 : Int32) (w2.1 : Int32) w3.2) fun w8 => (if w8.1 = (0 : Int32) then (J66 (x1 : Int32) (x2 : Int32) (w1.1 : Int32) (w2.1 : Int32) (v4 : Int32) (v6 : Int32) (0 : Int32) w8.2) else (J168 (w1.1 : Int32) (w2.1 : Int32) (v4 : Int32) w8.2)))))))))))
theorem tBX1_goes_at52_0 {d : Nat} {h0 : ea_H} (hd : 4 ≤ d) {J66 : Int32 → Int32 → Int32 → Int32 → Int32 → Int32 → Int32 → ea_H → Option (Unit × ea_H)} {J168 : Int32 → Int32 → Int32 → ea_H → Option (Unit × ea_H)}  (kJ66 : ∀ (x1 : Int32) (x2 : Int32) (x3 : Int32) (x4 : Int32) (x5 : Int32) (x6 : Int32) (x7 : Int32) (h : ea_H) (r : Unit) (h' : ea_H), J66 x1 x2 x3 x4 x5 x6 x7 h = some (r, h') → ShC h → ea_W mX1_goes d h0 none h' 66 [(0, vR (some 52)), (1, vI x1), (2, vI x2), (3, vI x3), (4, vI x4), (5, vI x5), (6, vI x6), (7, vI x7)] [] h) (kJ168 : ∀ (x3 : Int32) (x4 : Int32) (x5 : Int32) (h : ea_H) (r : Unit) (h' : ea_H), J168 x3 x4 x5 h = some (r, h') → ShC h → ea_W mX1_goes d h0 none h' 168 [(0, vR (some 52)), (3, vI x3), (4, vI x4), (5, vI x5)] [] h) {x1 : Int32} {x2 : Int32} {h : ea_H} {r : Unit} {h' : ea_H} (E : BX1_goes_at52_0 J66 J168 x1 x2 h = some (r, h')) (hs : ShC h) : ea_W mX1_goes d h0 none h' 0 [(0, vR (some 52)), (1, vI x1), (2, vI x2)] [] h := by
  unfold BX1_goes_at52_0 at E
  obtain ⟨w1, Ew1, E⟩ := bd_some E
  have hsw1 : ShC w1.2 := ShC_core ((kpX10_trainIn _ _) _ Ew1) hs
  refine ea_iload_n (pc := 0) dX1_goes_0 rfl 1 rfl ?_
  refine ea_callS (pc := 1) (d' := d - 1) (As := [vI x1]) (st := []) dX1_goes_1 kX10_trainIn (sX10_trainIn (d := d - 1) (by omega) Ew1) (by omega) rfl (Nat.le_of_ble_eq_true rfl) ew_867 ew_786 ?_
  obtain ⟨w2, Ew2, E⟩ := bd_some E
  have hsw2 : ShC w2.2 := ShC_core ((kpX10_stopIn _ _) _ Ew2) hsw1
  refine ea_istore_n (pc := 4) (lv' := [(0, vR (some 52)), (1, vI x1), (2, vI x2), (3, vI w1.1)]) dX1_goes_4 rfl (Nat.le_of_ble_eq_true rfl) [1, 2, 3, 0] rfl ?_
  refine ea_iload_n (pc := 5) dX1_goes_5 rfl 1 rfl ?_
  refine ea_callS (pc := 6) (d' := d - 1) (As := [vI x1]) (st := []) dX1_goes_6 kX10_stopIn (sX10_stopIn (d := d - 1) (by omega) Ew2) (by omega) rfl (Nat.le_of_ble_eq_true rfl) ew_868 ew_789 ?_
  obtain ⟨w3, Ew3, E⟩ := bd_some E
  have hsw3 : ShC w3.2 := ShC_core ((kpX10_dayIn _ _) _ Ew3) hsw2
  refine ea_istore (pc := 9) (lv' := [(0, vR (some 52)), (1, vI x1), (2, vI x2), (3, vI w1.1), (4, vI w2.1)]) dX1_goes_9 (Nat.le_of_ble_eq_true rfl) [1, 2, 3, 4, 0] rfl ?_
  refine ea_bipush (pc := 11) dX1_goes_11 (v := 10) rfl ?_
  refine ea_iload_n (pc := 13) dX1_goes_13 rfl 1 rfl ?_
  refine ea_callS (pc := 14) (d' := d - 1) (As := [vI x1]) (st := [vI 10]) dX1_goes_14 kX10_dayIn (sX10_dayIn (d := d - 1) (by omega) Ew3) (by omega) rfl (Nat.le_of_ble_eq_true rfl) ew_869 ew_827 ?_
  obtain ⟨v4, ev4, E⟩ := let_some E
  refine ea_imul (pc := 17) dX1_goes_17 ?_
  refine ea_iload_n (pc := 18) dX1_goes_18 rfl 3 rfl ?_
  refine ea_iadd (pc := 19) dX1_goes_19 ?_
  obtain ⟨z5, E⟩ := gd_some E
  refine ea_istore (pc := 20) (lv' := [(0, vR (some 52)), (1, vI x1), (2, vI x2), (3, vI w1.1), (4, vI w2.1), (5, vI v4)]) dX1_goes_20 (Nat.le_of_ble_eq_true rfl) [1, 2, 3, 4, 5, 0] (by rw [ev4]; rfl) ?_
  refine ea_aload_n (pc := 22) dX1_goes_22 rfl 0 rfl ?_
  refine ea_getR (pc := 23) dX1_goes_23 ec_1 (k := 11) (Nat.le_of_ble_eq_true rfl) rfl (Or.inl ew_459) (cShC_52 hsw3).1 (cShC_52 hsw3).2.1 (rShC_52_11 hsw3) ?_
  refine ea_getR (pc := 26) dX1_goes_26 ec_9 (k := 2) (Nat.le_of_ble_eq_true rfl) rfl (Or.inl ew_194) (cShC_5 hsw3).1 (cShC_5 hsw3).2.1 (rShC_5_2 hsw3) ?_
  refine ea_bipush (pc := 29) dX1_goes_29 (v := 8) rfl ?_
  refine ea_iload_n (pc := 31) dX1_goes_31 rfl 3 rfl ?_
  refine ea_imul (pc := 32) dX1_goes_32 ?_
  refine ea_iload (pc := 33) dX1_goes_33 4 rfl ?_
  refine ea_iadd (pc := 35) dX1_goes_35 ?_
  obtain ⟨v6, ev6, E⟩ := let_some E
  refine ea_iald (pc := 36) dX1_goes_36 (cShC_7 hsw3).1 (cShC_7 hsw3).2.1 (ea_vpl (cShC_7 hsw3).2.2 z5) ?_
  obtain ⟨z7, E⟩ := gd_some E
  refine ea_istore (pc := 37) (lv' := [(0, vR (some 52)), (1, vI x1), (2, vI x2), (3, vI w1.1), (4, vI w2.1), (5, vI v4), (6, vI v6)]) dX1_goes_37 (Nat.le_of_ble_eq_true rfl) [1, 2, 3, 4, 5, 6, 0] (by rw [ev6]; rfl) ?_
  refine ea_aload_n (pc := 39) dX1_goes_39 rfl 0 rfl ?_
  refine ea_getR (pc := 40) dX1_goes_40 ec_1 (k := 8) (Nat.le_of_ble_eq_true rfl) rfl (Or.inl ew_456) (cShC_52 hsw3).1 (cShC_52 hsw3).2.1 (rShC_52_8 hsw3) ?_
  refine ea_iload (pc := 43) dX1_goes_43 6 rfl ?_
  refine ea_iald (pc := 45) dX1_goes_45 (cShC_60 hsw3).1 (cShC_60 hsw3).2.1 (ea_vpl (cShC_60 hsw3).2.2 z7) ?_
  refine ea_if_le (pc := 46) (tgt := 168) dX1_goes_46 rfl (fun c10 => ?_) (fun c10 => ?_)
  · have E := (if_pos c10).symm.trans E
    exact ea_fewer [0, 3, 4, 5] rfl (kJ168 (w1.1 : Int32) (w2.1 : Int32) (v4 : Int32) w3.2 _ _ E hsw3)
  · have E := (if_neg c10).symm.trans E
    obtain ⟨w8, Ew8, E⟩ := bd_some E
    have hsw8 : ShC w8.2 := ShC_core ((kpX9_isMissed _ _ _) _ Ew8) hsw3
    refine ea_aload_n (pc := 49) dX1_goes_49 rfl 0 rfl ?_
    refine ea_getR (pc := 50) dX1_goes_50 ec_1 (k := 11) (Nat.le_of_ble_eq_true rfl) rfl (Or.inl ew_459) (cShC_52 hsw3).1 (cShC_52 hsw3).2.1 (rShC_52_11 hsw3) ?_
    refine ea_iload (pc := 53) dX1_goes_53 5 rfl ?_
    refine ea_iload (pc := 55) dX1_goes_55 4 rfl ?_
    refine ea_callV (pc := 57) (d' := d - 1) (As := [vI v4, vI w2.1]) (st := []) dX1_goes_57 kX9_isMissed (sX9_isMissed (d := d - 1) (by omega) hsw3 Ew8) (by omega) rfl (Nat.le_of_ble_eq_true rfl) ew_870 ew_738 ew_739 (ci := 9) rfl (by decide) (cShC_5 hsw3).1 (cShC_5 hsw3).2.1 ?_
    refine ea_if_ne (pc := 60) (tgt := 168) dX1_goes_60 rfl (fun c9 => ?_) (fun c9 => ?_)
    · have E := (if_neg c9).symm.trans E
      exact ea_fewer [0, 3, 4, 5] rfl (kJ168 (w1.1 : Int32) (w2.1 : Int32) (v4 : Int32) w8.2 _ _ E hsw8)
    · have E := (if_pos c9).symm.trans E
      refine ea_iconst (pc := 63) dX1_goes_63 (v := 0) rfl ?_
      refine ea_istore (pc := 64) (lv' := [(0, vR (some 52)), (1, vI x1), (2, vI x2), (3, vI w1.1), (4, vI w2.1), (5, vI v4), (6, vI v6), (7, vI 0)]) dX1_goes_64 (Nat.le_of_ble_eq_true rfl) [1, 2, 3, 4, 5, 6, 7, 0] rfl ?_
      exact (kJ66 (x1 : Int32) (x2 : Int32) (w1.1 : Int32) (w2.1 : Int32) (v4 : Int32) (v6 : Int32) (0 : Int32) w8.2 _ _ E hsw8)
theorem kBX1_goes_at52_0 {J66 : Int32 → Int32 → Int32 → Int32 → Int32 → Int32 → Int32 → ea_H → Option (Unit × ea_H)} {J168 : Int32 → Int32 → Int32 → ea_H → Option (Unit × ea_H)}  (cJ66 : ∀ (x1 : Int32) (x2 : Int32) (x3 : Int32) (x4 : Int32) (x5 : Int32) (x6 : Int32) (x7 : Int32) (h : ea_H), kp (ea_core h) (J66 x1 x2 x3 x4 x5 x6 x7 h)) (cJ168 : ∀ (x3 : Int32) (x4 : Int32) (x5 : Int32) (h : ea_H), kp (ea_core h) (J168 x3 x4 x5 h)) {x1 : Int32} {x2 : Int32} {h : ea_H} : kp (ea_core h) (BX1_goes_at52_0 J66 J168 x1 x2 h) :=
  (kp_bind (kp_tw (kpX10_trainIn _ _) rfl) fun w1 hcw1 => (kp_bind (kp_tw (kpX10_stopIn _ _) hcw1) fun w2 hcw2 => (kp_bind (kp_tw (kpX10_dayIn _ _) hcw2) fun w3 hcw3 => (kp_let (kp_gd (kp_let (kp_gd (kp_ite (kp_tw (cJ168 _ _ _ _) hcw3) (kp_bind (kp_tw (kpX9_isMissed _ _ _) hcw3) fun w8 hcw8 => (kp_ite (kp_tw (cJ66 _ _ _ _ _ _ _ _) hcw8) (kp_tw (cJ168 _ _ _ _) hcw8)))))))))))
theorem lBX1_goes_at52_0 {J66 : Int32 → Int32 → Int32 → Int32 → Int32 → Int32 → Int32 → ea_H → Option (Unit × ea_H)} {J168 : Int32 → Int32 → Int32 → ea_H → Option (Unit × ea_H)} {J66_ : Int32 → Int32 → Int32 → Int32 → Int32 → Int32 → Int32 → ea_H → Option (Unit × ea_H)} {J168_ : Int32 → Int32 → Int32 → ea_H → Option (Unit × ea_H)}  (mJ66 : ∀ (x1 : Int32) (x2 : Int32) (x3 : Int32) (x4 : Int32) (x5 : Int32) (x6 : Int32) (x7 : Int32) (h : ea_H), fle (J66 x1 x2 x3 x4 x5 x6 x7 h) (J66_ x1 x2 x3 x4 x5 x6 x7 h)) (mJ168 : ∀ (x3 : Int32) (x4 : Int32) (x5 : Int32) (h : ea_H), fle (J168 x3 x4 x5 h) (J168_ x3 x4 x5 h)) {x1 : Int32} {x2 : Int32} {h : ea_H} : fle (BX1_goes_at52_0 J66 J168 x1 x2 h) (BX1_goes_at52_0 J66_ J168_ x1 x2 h) :=
  (fle_bind (fle_rfl _) fun _ => (fle_bind (fle_rfl _) fun _ => (fle_bind (fle_rfl _) fun _ => (fle_let fun _ => (fle_gd (fle_let fun _ => (fle_gd (fle_ite (mJ168 _ _ _ _) (fle_bind (fle_rfl _) fun _ => (fle_ite (mJ66 _ _ _ _ _ _ _ _) (mJ168 _ _ _ _)))))))))))
theorem nBX1_goes_at52_0 {J66 : Int32 → Int32 → Int32 → Int32 → Int32 → Int32 → Int32 → ea_H → Option (Unit × ea_H)} {J168 : Int32 → Int32 → Int32 → ea_H → Option (Unit × ea_H)} {J66_ : Nat → (Int32 → Int32 → Int32 → Int32 → Int32 → Int32 → Int32 → ea_H → Option (Unit × ea_H))} {J168_ : Nat → (Int32 → Int32 → Int32 → ea_H → Option (Unit × ea_H))}  (mJ66 : ∀ (x1 : Int32) (x2 : Int32) (x3 : Int32) (x4 : Int32) (x5 : Int32) (x6 : Int32) (x7 : Int32) (h : ea_H), fct (J66 x1 x2 x3 x4 x5 x6 x7 h) (fun f => J66_ f x1 x2 x3 x4 x5 x6 x7 h)) (mJ168 : ∀ (x3 : Int32) (x4 : Int32) (x5 : Int32) (h : ea_H), fct (J168 x3 x4 x5 h) (fun f => J168_ f x3 x4 x5 h)) {x1 : Int32} {x2 : Int32} {h : ea_H} : fct (BX1_goes_at52_0 J66 J168 x1 x2 h) (fun f => BX1_goes_at52_0 (J66_ f) (J168_ f) x1 x2 h) :=
  (fct_bind (fct_rfl _) fun _ => (fct_bind (fct_rfl _) fun _ => (fct_bind (fct_rfl _) fun _ => (fct_let fun _ => (fct_gd (fct_let fun _ => (fct_gd (fct_ite (mJ168 _ _ _ _) (fct_bind (fct_rfl _) fun _ => (fct_ite (mJ66 _ _ _ _ _ _ _ _) (mJ168 _ _ _ _)))))))))))
noncomputable def BX1_goes_at52_66 (J119 : Int32 → Int32 → Int32 → Int32 → Int32 → Int32 → Int32 → Int32 → ea_H → Option (Unit × ea_H)) (J168 : Int32 → Int32 → Int32 → ea_H → Option (Unit × ea_H)) (x1 : Int32) (x2 : Int32) (x3 : Int32) (x4 : Int32) (x5 : Int32) (x6 : Int32) (x7 : Int32) (h : ea_H) : Option (Unit × ea_H) :=
  (if (ea_i h 52 0) ≤ x7 then (J168 (x3 : Int32) (x4 : Int32) (x5 : Int32) h) else (gd (vp_in x7 120) (if (ea_i h 53 (Int32.toNatClampNeg x7)) = (0 : Int32) then (gd (vp_in x7 120) (if (ea_i h 54 (Int32.toNatClampNeg x7)) = x6 then (gd (vp_in x7 120) (gd ((ea_r h 49 (Int32.toNatClampNeg x7)) = some (Option.getD (ea_r h 49 (Int32.toNatClampNeg x7)) 0)) (gd (((Option.getD (ea_r h 49 (Int32.toNatClampNeg x7)) 0) < ea_n h ∧ ea_c h (Option.getD (ea_r h 49 (Int32.toNatClampNeg x7)) 0) = 5)) (Option.bind (qX10_leftBehind (x1 : Int32) ((ea_i h (Option.getD (ea_r h 49 (Int32.toNatClampNeg x7)) 0) 2) : Int32) h) fun w16 => (J119 (x1 : Int32) (x2 : Int32) (x3 : Int32) (x4 : Int32) (x5 : Int32) (x6 : Int32) (x7 : Int32) (w16.1 : Int32) w16.2))))) else (J119 (x1 : Int32) (x2 : Int32) (x3 : Int32) (x4 : Int32) (x5 : Int32) (x6 : Int32) (x7 : Int32) (0 : Int32) h))) else (J119 (x1 : Int32) (x2 : Int32) (x3 : Int32) (x4 : Int32) (x5 : Int32) (x6 : Int32) (x7 : Int32) (0 : Int32) h))))
theorem tBX1_goes_at52_66 {d : Nat} {h0 : ea_H} (hd : 4 ≤ d) {J119 : Int32 → Int32 → Int32 → Int32 → Int32 → Int32 → Int32 → Int32 → ea_H → Option (Unit × ea_H)} {J168 : Int32 → Int32 → Int32 → ea_H → Option (Unit × ea_H)}  (kJ119 : ∀ (x1 : Int32) (x2 : Int32) (x3 : Int32) (x4 : Int32) (x5 : Int32) (x6 : Int32) (x7 : Int32) (sx0 : Int32) (h : ea_H) (r : Unit) (h' : ea_H), J119 x1 x2 x3 x4 x5 x6 x7 sx0 h = some (r, h') → ShC h → ea_W mX1_goes d h0 none h' 119 [(0, vR (some 52)), (1, vI x1), (2, vI x2), (3, vI x3), (4, vI x4), (5, vI x5), (6, vI x6), (7, vI x7)] [vI sx0] h) (kJ168 : ∀ (x3 : Int32) (x4 : Int32) (x5 : Int32) (h : ea_H) (r : Unit) (h' : ea_H), J168 x3 x4 x5 h = some (r, h') → ShC h → ea_W mX1_goes d h0 none h' 168 [(0, vR (some 52)), (3, vI x3), (4, vI x4), (5, vI x5)] [] h) {x1 : Int32} {x2 : Int32} {x3 : Int32} {x4 : Int32} {x5 : Int32} {x6 : Int32} {x7 : Int32} {h : ea_H} {r : Unit} {h' : ea_H} (E : BX1_goes_at52_66 J119 J168 x1 x2 x3 x4 x5 x6 x7 h = some (r, h')) (hs : ShC h) : ea_W mX1_goes d h0 none h' 66 [(0, vR (some 52)), (1, vI x1), (2, vI x2), (3, vI x3), (4, vI x4), (5, vI x5), (6, vI x6), (7, vI x7)] [] h := by
  unfold BX1_goes_at52_66 at E
  refine ea_iload (pc := 66) dX1_goes_66 7 rfl ?_
  refine ea_aload_n (pc := 68) dX1_goes_68 rfl 0 rfl ?_
  refine ea_getI (pc := 69) dX1_goes_69 ec_1 (k := 0) (Nat.le_of_ble_eq_true rfl) rfl (Or.inl ew_441) (cShC_52 hs).1 (cShC_52 hs).2.1 ?_
  refine ea_icmp_ge (pc := 72) (tgt := 168) dX1_goes_72 rfl (fun c19 => ?_) (fun c19 => ?_)
  · have E := (if_pos c19).symm.trans E
    exact ea_fewer [0, 3, 4, 5] rfl (kJ168 (x3 : Int32) (x4 : Int32) (x5 : Int32) h _ _ E hs)
  · have E := (if_neg c19).symm.trans E
    obtain ⟨z11, E⟩ := gd_some E
    refine ea_aload_n (pc := 75) dX1_goes_75 rfl 0 rfl ?_
    refine ea_getR (pc := 76) dX1_goes_76 ec_1 (k := 1) (Nat.le_of_ble_eq_true rfl) rfl (Or.inl ew_443) (cShC_52 hs).1 (cShC_52 hs).2.1 (rShC_52_1 hs) ?_
    refine ea_iload (pc := 79) dX1_goes_79 7 rfl ?_
    refine ea_iald (pc := 81) dX1_goes_81 (cShC_53 hs).1 (cShC_53 hs).2.1 (ea_vpl (cShC_53 hs).2.2 z11) ?_
    refine ea_if_ne (pc := 82) (tgt := 118) dX1_goes_82 rfl (fun c18 => ?_) (fun c18 => ?_)
    · have E := (if_neg c18).symm.trans E
      refine ea_iconst (pc := 118) dX1_goes_118 (v := 0) rfl ?_
      exact (kJ119 (x1 : Int32) (x2 : Int32) (x3 : Int32) (x4 : Int32) (x5 : Int32) (x6 : Int32) (x7 : Int32) (0 : Int32) h _ _ E hs)
    · have E := (if_pos c18).symm.trans E
      obtain ⟨z12, E⟩ := gd_some E
      refine ea_aload_n (pc := 85) dX1_goes_85 rfl 0 rfl ?_
      refine ea_getR (pc := 86) dX1_goes_86 ec_1 (k := 2) (Nat.le_of_ble_eq_true rfl) rfl (Or.inl ew_445) (cShC_52 hs).1 (cShC_52 hs).2.1 (rShC_52_2 hs) ?_
      refine ea_iload (pc := 89) dX1_goes_89 7 rfl ?_
      refine ea_iald (pc := 91) dX1_goes_91 (cShC_54 hs).1 (cShC_54 hs).2.1 (ea_vpl (cShC_54 hs).2.2 z12) ?_
      refine ea_iload (pc := 92) dX1_goes_92 6 rfl ?_
      refine ea_icmp_ne (pc := 94) (tgt := 118) dX1_goes_94 rfl (fun c17 => ?_) (fun c17 => ?_)
      · have E := (if_neg c17).symm.trans E
        refine ea_iconst (pc := 118) dX1_goes_118 (v := 0) rfl ?_
        exact (kJ119 (x1 : Int32) (x2 : Int32) (x3 : Int32) (x4 : Int32) (x5 : Int32) (x6 : Int32) (x7 : Int32) (0 : Int32) h _ _ E hs)
      · have E := (if_pos c17).symm.trans E
        obtain ⟨z13, E⟩ := gd_some E
        refine ea_aload_n (pc := 97) dX1_goes_97 rfl 0 rfl ?_
        refine ea_getR (pc := 98) dX1_goes_98 ec_1 (k := 12) (Nat.le_of_ble_eq_true rfl) rfl (Or.inl ew_460) (cShC_52 hs).1 (cShC_52 hs).2.1 (rShC_52_12 hs) ?_
        refine ea_iload_n (pc := 101) dX1_goes_101 rfl 1 rfl ?_
        refine ea_aload_n (pc := 102) dX1_goes_102 rfl 0 rfl ?_
        refine ea_getR (pc := 103) dX1_goes_103 ec_1 (k := 14) (Nat.le_of_ble_eq_true rfl) rfl (Or.inl ew_462) (cShC_52 hs).1 (cShC_52 hs).2.1 (rShC_52_14 hs) ?_
        refine ea_iload (pc := 106) dX1_goes_106 7 rfl ?_
        obtain ⟨e14, E⟩ := gd_some E
        refine ea_aald23 (pc := 108) dX1_goes_108 (cShC_49 hs).1 (cShC_49 hs).2.1 (ea_vpl (cShC_49 hs).2.2 z13) rfl ?_
        obtain ⟨f15, E⟩ := gd_some E
        obtain ⟨w16, Ew16, E⟩ := bd_some E
        have hsw16 : ShC w16.2 := ShC_core ((kpX10_leftBehind _ _ _) _ Ew16) hs
        refine ea_deref0 e14 ?_
        refine ea_getI (pc := 109) dX1_goes_109 ec_5 (k := 2) (Nat.le_of_ble_eq_true rfl) rfl (Or.inl ew_511) f15.1 f15.2 ?_
        refine ea_callV (pc := 112) (d' := d - 1) (As := [vI x1, vI (ea_i h (Option.getD (ea_r h 49 (Int32.toNatClampNeg x7)) 0) 2)]) (st := []) dX1_goes_112 kX10_leftBehind (sX10_leftBehind (d := d - 1) (by omega) hs Ew16) (by omega) rfl (Nat.le_of_ble_eq_true rfl) ew_871 ew_872 ew_873 (ci := 10) rfl (by decide) (cShC_13 hs).1 (cShC_13 hs).2.1 ?_
        refine ea_goto (pc := 115) (tgt := 119) dX1_goes_115 rfl ?_
        exact (kJ119 (x1 : Int32) (x2 : Int32) (x3 : Int32) (x4 : Int32) (x5 : Int32) (x6 : Int32) (x7 : Int32) (w16.1 : Int32) w16.2 _ _ E hsw16)
theorem kBX1_goes_at52_66 {J119 : Int32 → Int32 → Int32 → Int32 → Int32 → Int32 → Int32 → Int32 → ea_H → Option (Unit × ea_H)} {J168 : Int32 → Int32 → Int32 → ea_H → Option (Unit × ea_H)}  (cJ119 : ∀ (x1 : Int32) (x2 : Int32) (x3 : Int32) (x4 : Int32) (x5 : Int32) (x6 : Int32) (x7 : Int32) (sx0 : Int32) (h : ea_H), kp (ea_core h) (J119 x1 x2 x3 x4 x5 x6 x7 sx0 h)) (cJ168 : ∀ (x3 : Int32) (x4 : Int32) (x5 : Int32) (h : ea_H), kp (ea_core h) (J168 x3 x4 x5 h)) {x1 : Int32} {x2 : Int32} {x3 : Int32} {x4 : Int32} {x5 : Int32} {x6 : Int32} {x7 : Int32} {h : ea_H} : kp (ea_core h) (BX1_goes_at52_66 J119 J168 x1 x2 x3 x4 x5 x6 x7 h) :=
  (kp_ite (kp_tw (cJ168 _ _ _ _) rfl) (kp_gd (kp_ite (kp_gd (kp_ite (kp_gd (kp_gd (kp_gd (kp_bind (kp_tw (kpX10_leftBehind _ _ _) rfl) fun w16 hcw16 => (kp_tw (cJ119 _ _ _ _ _ _ _ _ _) hcw16))))) (kp_tw (cJ119 _ _ _ _ _ _ _ _ _) rfl))) (kp_tw (cJ119 _ _ _ _ _ _ _ _ _) rfl))))
theorem lBX1_goes_at52_66 {J119 : Int32 → Int32 → Int32 → Int32 → Int32 → Int32 → Int32 → Int32 → ea_H → Option (Unit × ea_H)} {J168 : Int32 → Int32 → Int32 → ea_H → Option (Unit × ea_H)} {J119_ : Int32 → Int32 → Int32 → Int32 → Int32 → Int32 → Int32 → Int32 → ea_H → Option (Unit × ea_H)} {J168_ : Int32 → Int32 → Int32 → ea_H → Option (Unit × ea_H)}  (mJ119 : ∀ (x1 : Int32) (x2 : Int32) (x3 : Int32) (x4 : Int32) (x5 : Int32) (x6 : Int32) (x7 : Int32) (sx0 : Int32) (h : ea_H), fle (J119 x1 x2 x3 x4 x5 x6 x7 sx0 h) (J119_ x1 x2 x3 x4 x5 x6 x7 sx0 h)) (mJ168 : ∀ (x3 : Int32) (x4 : Int32) (x5 : Int32) (h : ea_H), fle (J168 x3 x4 x5 h) (J168_ x3 x4 x5 h)) {x1 : Int32} {x2 : Int32} {x3 : Int32} {x4 : Int32} {x5 : Int32} {x6 : Int32} {x7 : Int32} {h : ea_H} : fle (BX1_goes_at52_66 J119 J168 x1 x2 x3 x4 x5 x6 x7 h) (BX1_goes_at52_66 J119_ J168_ x1 x2 x3 x4 x5 x6 x7 h) :=
  (fle_ite (mJ168 _ _ _ _) (fle_gd (fle_ite (fle_gd (fle_ite (fle_gd (fle_gd (fle_gd (fle_bind (fle_rfl _) fun _ => (mJ119 _ _ _ _ _ _ _ _ _))))) (mJ119 _ _ _ _ _ _ _ _ _))) (mJ119 _ _ _ _ _ _ _ _ _))))
theorem nBX1_goes_at52_66 {J119 : Int32 → Int32 → Int32 → Int32 → Int32 → Int32 → Int32 → Int32 → ea_H → Option (Unit × ea_H)} {J168 : Int32 → Int32 → Int32 → ea_H → Option (Unit × ea_H)} {J119_ : Nat → (Int32 → Int32 → Int32 → Int32 → Int32 → Int32 → Int32 → Int32 → ea_H → Option (Unit × ea_H))} {J168_ : Nat → (Int32 → Int32 → Int32 → ea_H → Option (Unit × ea_H))}  (mJ119 : ∀ (x1 : Int32) (x2 : Int32) (x3 : Int32) (x4 : Int32) (x5 : Int32) (x6 : Int32) (x7 : Int32) (sx0 : Int32) (h : ea_H), fct (J119 x1 x2 x3 x4 x5 x6 x7 sx0 h) (fun f => J119_ f x1 x2 x3 x4 x5 x6 x7 sx0 h)) (mJ168 : ∀ (x3 : Int32) (x4 : Int32) (x5 : Int32) (h : ea_H), fct (J168 x3 x4 x5 h) (fun f => J168_ f x3 x4 x5 h)) {x1 : Int32} {x2 : Int32} {x3 : Int32} {x4 : Int32} {x5 : Int32} {x6 : Int32} {x7 : Int32} {h : ea_H} : fct (BX1_goes_at52_66 J119 J168 x1 x2 x3 x4 x5 x6 x7 h) (fun f => BX1_goes_at52_66 (J119_ f) (J168_ f) x1 x2 x3 x4 x5 x6 x7 h) :=
  (fct_ite (mJ168 _ _ _ _) (fct_gd (fct_ite (fct_gd (fct_ite (fct_gd (fct_gd (fct_gd (fct_bind (fct_rfl _) fun _ => (mJ119 _ _ _ _ _ _ _ _ _))))) (mJ119 _ _ _ _ _ _ _ _ _))) (mJ119 _ _ _ _ _ _ _ _ _))))
noncomputable def BX1_goes_at52_119 (J66 : Int32 → Int32 → Int32 → Int32 → Int32 → Int32 → Int32 → ea_H → Option (Unit × ea_H)) (x1 : Int32) (x2 : Int32) (x3 : Int32) (x4 : Int32) (x5 : Int32) (x6 : Int32) (x7 : Int32) (sx0 : Int32) (h : ea_H) : Option (Unit × ea_H) :=
  (if sx0 ≤ (0 : Int32) then (J66 (x1 : Int32) (x2 : Int32) (x3 : Int32) (x4 : Int32) (x5 : Int32) (x6 : Int32) ((x7 + (1 : Int32)) : Int32) h) else (Option.bind (qX1_move_at52 (x7 : Int32) (x2 : Int32) (1 : Int32) (x5 : Int32) h) fun w20 => (gd (vp_in x7 120) (ea_let (ea_wi w20.2 55 (Int32.toNatClampNeg x7) sx0) fun H22 => (Option.bind (qX4_mark (x1 : Int32) (x7 : Int32) H22) fun w23 => (J66 (x1 : Int32) (x2 : Int32) (x3 : Int32) (x4 : Int32) (x5 : Int32) (x6 : Int32) ((x7 + (1 : Int32)) : Int32) w23.2))))))
theorem tBX1_goes_at52_119 {d : Nat} {h0 : ea_H} (hd : 4 ≤ d) {J66 : Int32 → Int32 → Int32 → Int32 → Int32 → Int32 → Int32 → ea_H → Option (Unit × ea_H)}  (kJ66 : ∀ (x1 : Int32) (x2 : Int32) (x3 : Int32) (x4 : Int32) (x5 : Int32) (x6 : Int32) (x7 : Int32) (h : ea_H) (r : Unit) (h' : ea_H), J66 x1 x2 x3 x4 x5 x6 x7 h = some (r, h') → ShC h → ea_W mX1_goes d h0 none h' 66 [(0, vR (some 52)), (1, vI x1), (2, vI x2), (3, vI x3), (4, vI x4), (5, vI x5), (6, vI x6), (7, vI x7)] [] h) {x1 : Int32} {x2 : Int32} {x3 : Int32} {x4 : Int32} {x5 : Int32} {x6 : Int32} {x7 : Int32} {sx0 : Int32} {h : ea_H} {r : Unit} {h' : ea_H} (E : BX1_goes_at52_119 J66 x1 x2 x3 x4 x5 x6 x7 sx0 h = some (r, h')) (hs : ShC h) : ea_W mX1_goes d h0 none h' 119 [(0, vR (some 52)), (1, vI x1), (2, vI x2), (3, vI x3), (4, vI x4), (5, vI x5), (6, vI x6), (7, vI x7)] [vI sx0] h := by
  unfold BX1_goes_at52_119 at E
  refine ea_istore (pc := 119) (lv' := [(0, vR (some 52)), (1, vI x1), (2, vI x2), (3, vI x3), (4, vI x4), (5, vI x5), (6, vI x6), (7, vI x7), (8, vI sx0)]) dX1_goes_119 (Nat.le_of_ble_eq_true rfl) [1, 2, 3, 4, 5, 6, 7, 8, 0] rfl ?_
  refine ea_iload (pc := 121) dX1_goes_121 8 rfl ?_
  refine ea_if_le (pc := 123) (tgt := 162) dX1_goes_123 rfl (fun c24 => ?_) (fun c24 => ?_)
  · have E := (if_pos c24).symm.trans E
    refine ea_iinc (pc := 162) (v := 1) (lv' := [(0, vR (some 52)), (1, vI x1), (2, vI x2), (3, vI x3), (4, vI x4), (5, vI x5), (6, vI x6), (7, vI (x7 + (1 : Int32)))]) dX1_goes_162 7 rfl rfl (Nat.le_of_ble_eq_true rfl) [1, 2, 3, 4, 5, 6, 7, 0] rfl ?_
    refine ea_goto (pc := 165) (tgt := 66) dX1_goes_165 rfl ?_
    exact (kJ66 (x1 : Int32) (x2 : Int32) (x3 : Int32) (x4 : Int32) (x5 : Int32) (x6 : Int32) ((x7 + (1 : Int32)) : Int32) h _ _ E hs)
  · have E := (if_neg c24).symm.trans E
    obtain ⟨w20, Ew20, E⟩ := bd_some E
    have hsw20 : ShC w20.2 := ShC_core ((kpX1_move_at52 _ _ _ _ _) _ Ew20) hs
    refine ea_aload_n (pc := 126) dX1_goes_126 rfl 0 rfl ?_
    refine ea_iload (pc := 127) dX1_goes_127 7 rfl ?_
    refine ea_iload_n (pc := 129) dX1_goes_129 rfl 2 rfl ?_
    refine ea_iconst (pc := 130) dX1_goes_130 (v := 1) rfl ?_
    refine ea_iload (pc := 131) dX1_goes_131 5 rfl ?_
    refine ea_callV (pc := 133) (d' := d - 1) (As := [vI x7, vI x2, vI 1, vI x5]) (st := []) dX1_goes_133 kX1_move (sX1_move_at52 (d := d - 1) (by omega) hs Ew20) (by omega) rfl (Nat.le_of_ble_eq_true rfl) ew_851 ew_852 ew_853 (ci := 1) rfl (by decide) (cShC_52 hs).1 (cShC_52 hs).2.1 ?_
    obtain ⟨z21, E⟩ := gd_some E
    refine ea_aload_n (pc := 136) dX1_goes_136 rfl 0 rfl ?_
    refine ea_getR (pc := 137) dX1_goes_137 ec_1 (k := 3) (Nat.le_of_ble_eq_true rfl) rfl (Or.inl ew_447) (cShC_52 hsw20).1 (cShC_52 hsw20).2.1 (rShC_52_3 hsw20) ?_
    refine ea_iload (pc := 140) dX1_goes_140 7 rfl ?_
    refine ea_iload (pc := 142) dX1_goes_142 8 rfl ?_
    obtain ⟨H22, eH22, E⟩ := let_some E
    refine ea_iast (pc := 144) dX1_goes_144 (cShC_55 hsw20).1 (cShC_55 hsw20).2.1 (ea_vpl (cShC_55 hsw20).2.2 z21) ?_
    refine ea_nm eH22 ?_
    have hsH22 : ShC H22 := by rw [eH22]; exact hsw20
    obtain ⟨w23, Ew23, E⟩ := bd_some E
    have hsw23 : ShC w23.2 := ShC_core ((kpX4_mark _ _ _) _ Ew23) hsH22
    refine ea_aload_n (pc := 145) dX1_goes_145 rfl 0 rfl ?_
    refine ea_getR (pc := 146) dX1_goes_146 ec_1 (k := 15) (Nat.le_of_ble_eq_true rfl) rfl (Or.inl ew_463) (cShC_52 hsH22).1 (cShC_52 hsH22).2.1 (rShC_52_15 hsH22) ?_
    refine ea_ifnull (pc := 149) (tgt := 162) dX1_goes_149 rfl (fun q => nomatch q) (fun _ _ => ?_)
    refine ea_aload_n (pc := 152) dX1_goes_152 rfl 0 rfl ?_
    refine ea_getR (pc := 153) dX1_goes_153 ec_1 (k := 15) (Nat.le_of_ble_eq_true rfl) rfl (Or.inl ew_463) (cShC_52 hsH22).1 (cShC_52 hsH22).2.1 (rShC_52_15 hsH22) ?_
    refine ea_iload_n (pc := 156) dX1_goes_156 rfl 1 rfl ?_
    refine ea_iload (pc := 157) dX1_goes_157 7 rfl ?_
    refine ea_callV (pc := 159) (d' := d - 1) (As := [vI x1, vI x7]) (st := []) dX1_goes_159 kX4_mark (sX4_mark (d := d - 1) (by omega) hsH22 Ew23) (by omega) rfl (Nat.le_of_ble_eq_true rfl) ew_875 ew_876 ew_877 (ci := 4) rfl (by decide) (cShC_50 hsH22).1 (cShC_50 hsH22).2.1 ?_
    refine ea_iinc (pc := 162) (v := 1) (lv' := [(0, vR (some 52)), (1, vI x1), (2, vI x2), (3, vI x3), (4, vI x4), (5, vI x5), (6, vI x6), (7, vI (x7 + (1 : Int32)))]) dX1_goes_162 7 rfl rfl (Nat.le_of_ble_eq_true rfl) [1, 2, 3, 4, 5, 6, 7, 0] rfl ?_
    refine ea_goto (pc := 165) (tgt := 66) dX1_goes_165 rfl ?_
    exact (kJ66 (x1 : Int32) (x2 : Int32) (x3 : Int32) (x4 : Int32) (x5 : Int32) (x6 : Int32) ((x7 + (1 : Int32)) : Int32) w23.2 _ _ E hsw23)
theorem kBX1_goes_at52_119 {J66 : Int32 → Int32 → Int32 → Int32 → Int32 → Int32 → Int32 → ea_H → Option (Unit × ea_H)}  (cJ66 : ∀ (x1 : Int32) (x2 : Int32) (x3 : Int32) (x4 : Int32) (x5 : Int32) (x6 : Int32) (x7 : Int32) (h : ea_H), kp (ea_core h) (J66 x1 x2 x3 x4 x5 x6 x7 h)) {x1 : Int32} {x2 : Int32} {x3 : Int32} {x4 : Int32} {x5 : Int32} {x6 : Int32} {x7 : Int32} {sx0 : Int32} {h : ea_H} : kp (ea_core h) (BX1_goes_at52_119 J66 x1 x2 x3 x4 x5 x6 x7 sx0 h) :=
  (kp_ite (kp_tw (cJ66 _ _ _ _ _ _ _ _) rfl) (kp_bind (kp_tw (kpX1_move_at52 _ _ _ _ _) rfl) fun w20 hcw20 => (kp_gd (kp_let (kp_bind (kp_tw (kpX4_mark _ _ _) hcw20) fun w23 hcw23 => (kp_tw (cJ66 _ _ _ _ _ _ _ _) hcw23))))))
theorem lBX1_goes_at52_119 {J66 : Int32 → Int32 → Int32 → Int32 → Int32 → Int32 → Int32 → ea_H → Option (Unit × ea_H)} {J66_ : Int32 → Int32 → Int32 → Int32 → Int32 → Int32 → Int32 → ea_H → Option (Unit × ea_H)}  (mJ66 : ∀ (x1 : Int32) (x2 : Int32) (x3 : Int32) (x4 : Int32) (x5 : Int32) (x6 : Int32) (x7 : Int32) (h : ea_H), fle (J66 x1 x2 x3 x4 x5 x6 x7 h) (J66_ x1 x2 x3 x4 x5 x6 x7 h)) {x1 : Int32} {x2 : Int32} {x3 : Int32} {x4 : Int32} {x5 : Int32} {x6 : Int32} {x7 : Int32} {sx0 : Int32} {h : ea_H} : fle (BX1_goes_at52_119 J66 x1 x2 x3 x4 x5 x6 x7 sx0 h) (BX1_goes_at52_119 J66_ x1 x2 x3 x4 x5 x6 x7 sx0 h) :=
  (fle_ite (mJ66 _ _ _ _ _ _ _ _) (fle_bind (fle_rfl _) fun _ => (fle_gd (fle_let fun _ => (fle_bind (fle_rfl _) fun _ => (mJ66 _ _ _ _ _ _ _ _))))))
theorem nBX1_goes_at52_119 {J66 : Int32 → Int32 → Int32 → Int32 → Int32 → Int32 → Int32 → ea_H → Option (Unit × ea_H)} {J66_ : Nat → (Int32 → Int32 → Int32 → Int32 → Int32 → Int32 → Int32 → ea_H → Option (Unit × ea_H))}  (mJ66 : ∀ (x1 : Int32) (x2 : Int32) (x3 : Int32) (x4 : Int32) (x5 : Int32) (x6 : Int32) (x7 : Int32) (h : ea_H), fct (J66 x1 x2 x3 x4 x5 x6 x7 h) (fun f => J66_ f x1 x2 x3 x4 x5 x6 x7 h)) {x1 : Int32} {x2 : Int32} {x3 : Int32} {x4 : Int32} {x5 : Int32} {x6 : Int32} {x7 : Int32} {sx0 : Int32} {h : ea_H} : fct (BX1_goes_at52_119 J66 x1 x2 x3 x4 x5 x6 x7 sx0 h) (fun f => BX1_goes_at52_119 (J66_ f) x1 x2 x3 x4 x5 x6 x7 sx0 h) :=
  (fct_ite (mJ66 _ _ _ _ _ _ _ _) (fct_bind (fct_rfl _) fun _ => (fct_gd (fct_let fun _ => (fct_bind (fct_rfl _) fun _ => (mJ66 _ _ _ _ _ _ _ _))))))
noncomputable def BX1_goes_at52_168 (x3 : Int32) (x4 : Int32) (x5 : Int32) (h : ea_H) : Option (Unit × ea_H) :=
  (gd (vp_in x5 70) (if (ea_i h 61 (Int32.toNatClampNeg x5)) ≤ (0 : Int32) then (some ((), h)) else (Option.bind (qX3_sitsIn (x3 : Int32) h) fun w26 => (if w26.1 = (0 : Int32) then (some ((), w26.2)) else (Option.bind (qX1_sort_at52 (x5 : Int32) (x3 : Int32) (x4 : Int32) w26.2) fun w27 => (some ((), w27.2)))))))
theorem tBX1_goes_at52_168 {d : Nat} {h0 : ea_H} (hd : 4 ≤ d)  {x3 : Int32} {x4 : Int32} {x5 : Int32} {h : ea_H} {r : Unit} {h' : ea_H} (E : BX1_goes_at52_168 x3 x4 x5 h = some (r, h')) (hs : ShC h) : ea_W mX1_goes d h0 none h' 168 [(0, vR (some 52)), (3, vI x3), (4, vI x4), (5, vI x5)] [] h := by
  unfold BX1_goes_at52_168 at E
  obtain ⟨z25, E⟩ := gd_some E
  refine ea_aload_n (pc := 168) dX1_goes_168 rfl 0 rfl ?_
  refine ea_getR (pc := 169) dX1_goes_169 ec_1 (k := 9) (Nat.le_of_ble_eq_true rfl) rfl (Or.inl ew_457) (cShC_52 hs).1 (cShC_52 hs).2.1 (rShC_52_9 hs) ?_
  refine ea_iload (pc := 172) dX1_goes_172 3 rfl ?_
  refine ea_iald (pc := 174) dX1_goes_174 (cShC_61 hs).1 (cShC_61 hs).2.1 (ea_vpl (cShC_61 hs).2.2 z25) ?_
  refine ea_if_le (pc := 175) (tgt := 198) dX1_goes_175 rfl (fun c29 => ?_) (fun c29 => ?_)
  · have E := (if_pos c29).symm.trans E
    exact ea_vretO (pc := 198) dX1_goes_198 rfl E
  · have E := (if_neg c29).symm.trans E
    obtain ⟨w26, Ew26, E⟩ := bd_some E
    have hsw26 : ShC w26.2 := ShC_core ((kpX3_sitsIn _ _) _ Ew26) hs
    refine ea_aload_n (pc := 178) dX1_goes_178 rfl 0 rfl ?_
    refine ea_getR (pc := 179) dX1_goes_179 ec_1 (k := 13) (Nat.le_of_ble_eq_true rfl) rfl (Or.inl ew_461) (cShC_52 hs).1 (cShC_52 hs).2.1 (rShC_52_13 hs) ?_
    refine ea_iload_n (pc := 182) dX1_goes_182 rfl 1 rfl ?_
    refine ea_callV (pc := 183) (d' := d - 1) (As := [vI x3]) (st := []) dX1_goes_183 kX3_sitsIn (sX3_sitsIn (d := d - 1) (by omega) hs Ew26) (by omega) rfl (Nat.le_of_ble_eq_true rfl) ew_884 ew_885 ew_886 (ci := 3) rfl (by decide) (cShC_18 hs).1 (cShC_18 hs).2.1 ?_
    refine ea_if_eq (pc := 186) (tgt := 198) dX1_goes_186 rfl (fun c28 => ?_) (fun c28 => ?_)
    · have E := (if_pos c28).symm.trans E
      exact ea_vretO (pc := 198) dX1_goes_198 rfl E
    · have E := (if_neg c28).symm.trans E
      obtain ⟨w27, Ew27, E⟩ := bd_some E
      have hsw27 : ShC w27.2 := ShC_core ((kpX1_sort_at52 _ _ _ _) _ Ew27) hsw26
      refine ea_aload_n (pc := 189) dX1_goes_189 rfl 0 rfl ?_
      refine ea_iload (pc := 190) dX1_goes_190 3 rfl ?_
      refine ea_iload_n (pc := 192) dX1_goes_192 rfl 1 rfl ?_
      refine ea_iload (pc := 193) dX1_goes_193 2 rfl ?_
      refine ea_callV (pc := 195) (d' := d - 1) (As := [vI x5, vI x3, vI x4]) (st := []) dX1_goes_195 kX1_sort (sX1_sort_at52 (d := d - 1) (by omega) hsw26 Ew27) (by omega) rfl (Nat.le_of_ble_eq_true rfl) ew_888 ew_890 ew_13 (ci := 1) rfl (by decide) (cShC_52 hsw26).1 (cShC_52 hsw26).2.1 ?_
      exact ea_vretO (pc := 198) dX1_goes_198 rfl E
theorem kBX1_goes_at52_168  {x3 : Int32} {x4 : Int32} {x5 : Int32} {h : ea_H} : kp (ea_core h) (BX1_goes_at52_168 x3 x4 x5 h) :=
  (kp_gd (kp_ite (kp_ret rfl) (kp_bind (kp_tw (kpX3_sitsIn _ _) rfl) fun w26 hcw26 => (kp_ite (kp_ret hcw26) (kp_bind (kp_tw (kpX1_sort_at52 _ _ _ _) hcw26) fun w27 hcw27 => (kp_ret hcw27))))))
theorem lBX1_goes_at52_168  {x3 : Int32} {x4 : Int32} {x5 : Int32} {h : ea_H} : fle (BX1_goes_at52_168 x3 x4 x5 h) (BX1_goes_at52_168 x3 x4 x5 h) :=
  (fle_rfl _)
theorem nBX1_goes_at52_168  {x3 : Int32} {x4 : Int32} {x5 : Int32} {h : ea_H} : fct (BX1_goes_at52_168 x3 x4 x5 h) (fun f => BX1_goes_at52_168 x3 x4 x5 h) :=
  (fct_rfl _)
noncomputable def gX1_goes_at52 : Nat → (Int32 → Int32 → ea_H → Option (Unit × ea_H)) × (Int32 → Int32 → Int32 → Int32 → Int32 → Int32 → Int32 → ea_H → Option (Unit × ea_H)) × (Int32 → Int32 → Int32 → Int32 → Int32 → Int32 → Int32 → Int32 → ea_H → Option (Unit × ea_H)) × (Int32 → Int32 → Int32 → ea_H → Option (Unit × ea_H))
  | 0 => (fun _ _ _ => none, fun _ _ _ _ _ _ _ _ => none, fun _ _ _ _ _ _ _ _ _ => none, fun _ _ _ _ => none)
  | f + 1 => (BX1_goes_at52_0 (gX1_goes_at52 f).2.1 (gX1_goes_at52 f).2.2.2, BX1_goes_at52_66 (gX1_goes_at52 f).2.2.1 (gX1_goes_at52 f).2.2.2, BX1_goes_at52_119 (gX1_goes_at52 f).2.1, BX1_goes_at52_168)
theorem mgX1_goes_at52 : ∀ f : Nat, (∀ (x1 : Int32) (x2 : Int32) (h : ea_H), fle ((gX1_goes_at52 f).1 x1 x2 h) ((gX1_goes_at52 (f + 1)).1 x1 x2 h)) ∧ (∀ (x1 : Int32) (x2 : Int32) (x3 : Int32) (x4 : Int32) (x5 : Int32) (x6 : Int32) (x7 : Int32) (h : ea_H), fle ((gX1_goes_at52 f).2.1 x1 x2 x3 x4 x5 x6 x7 h) ((gX1_goes_at52 (f + 1)).2.1 x1 x2 x3 x4 x5 x6 x7 h)) ∧ (∀ (x1 : Int32) (x2 : Int32) (x3 : Int32) (x4 : Int32) (x5 : Int32) (x6 : Int32) (x7 : Int32) (sx0 : Int32) (h : ea_H), fle ((gX1_goes_at52 f).2.2.1 x1 x2 x3 x4 x5 x6 x7 sx0 h) ((gX1_goes_at52 (f + 1)).2.2.1 x1 x2 x3 x4 x5 x6 x7 sx0 h)) ∧ (∀ (x3 : Int32) (x4 : Int32) (x5 : Int32) (h : ea_H), fle ((gX1_goes_at52 f).2.2.2 x3 x4 x5 h) ((gX1_goes_at52 (f + 1)).2.2.2 x3 x4 x5 h)) := by
  intro f
  induction f with
  | zero => exact ⟨fun _ _ _ => fle_none _, fun _ _ _ _ _ _ _ _ => fle_none _, fun _ _ _ _ _ _ _ _ _ => fle_none _, fun _ _ _ _ => fle_none _⟩
  | succ f ih => exact ⟨fun _ _ _ => lBX1_goes_at52_0 ih.2.1 ih.2.2.2, fun _ _ _ _ _ _ _ _ => lBX1_goes_at52_66 ih.2.2.1 ih.2.2.2, fun _ _ _ _ _ _ _ _ _ => lBX1_goes_at52_119 ih.2.1, fun _ _ _ _ => lBX1_goes_at52_168⟩
noncomputable def qX1_goes_at52_0 (x1 : Int32) (x2 : Int32) (h : ea_H) : Option (Unit × ea_H) := flim fun f => (gX1_goes_at52 f).1 x1 x2 h
noncomputable def qX1_goes_at52_66 (x1 : Int32) (x2 : Int32) (x3 : Int32) (x4 : Int32) (x5 : Int32) (x6 : Int32) (x7 : Int32) (h : ea_H) : Option (Unit × ea_H) := flim fun f => (gX1_goes_at52 f).2.1 x1 x2 x3 x4 x5 x6 x7 h
noncomputable def qX1_goes_at52_119 (x1 : Int32) (x2 : Int32) (x3 : Int32) (x4 : Int32) (x5 : Int32) (x6 : Int32) (x7 : Int32) (sx0 : Int32) (h : ea_H) : Option (Unit × ea_H) := flim fun f => (gX1_goes_at52 f).2.2.1 x1 x2 x3 x4 x5 x6 x7 sx0 h
noncomputable def qX1_goes_at52_168 (x3 : Int32) (x4 : Int32) (x5 : Int32) (h : ea_H) : Option (Unit × ea_H) := flim fun f => (gX1_goes_at52 f).2.2.2 x3 x4 x5 h
theorem fqX1_goes_at52_0 (x1 : Int32) (x2 : Int32) (h : ea_H) : fct (qX1_goes_at52_0 x1 x2 h) fun f => (gX1_goes_at52 f).1 x1 x2 h := flim_ct fun f => (mgX1_goes_at52 f).1 x1 x2 h
theorem fqX1_goes_at52_66 (x1 : Int32) (x2 : Int32) (x3 : Int32) (x4 : Int32) (x5 : Int32) (x6 : Int32) (x7 : Int32) (h : ea_H) : fct (qX1_goes_at52_66 x1 x2 x3 x4 x5 x6 x7 h) fun f => (gX1_goes_at52 f).2.1 x1 x2 x3 x4 x5 x6 x7 h := flim_ct fun f => (mgX1_goes_at52 f).2.1 x1 x2 x3 x4 x5 x6 x7 h
theorem fqX1_goes_at52_119 (x1 : Int32) (x2 : Int32) (x3 : Int32) (x4 : Int32) (x5 : Int32) (x6 : Int32) (x7 : Int32) (sx0 : Int32) (h : ea_H) : fct (qX1_goes_at52_119 x1 x2 x3 x4 x5 x6 x7 sx0 h) fun f => (gX1_goes_at52 f).2.2.1 x1 x2 x3 x4 x5 x6 x7 sx0 h := flim_ct fun f => (mgX1_goes_at52 f).2.2.1 x1 x2 x3 x4 x5 x6 x7 sx0 h
theorem fqX1_goes_at52_168 (x3 : Int32) (x4 : Int32) (x5 : Int32) (h : ea_H) : fct (qX1_goes_at52_168 x3 x4 x5 h) fun f => (gX1_goes_at52 f).2.2.2 x3 x4 x5 h := flim_ct fun f => (mgX1_goes_at52 f).2.2.2 x3 x4 x5 h
/-- how a block opens -/
theorem uqX1_goes_at52_0 {x1 : Int32} {x2 : Int32} {h : ea_H} {P : Unit × ea_H → Prop} (H : sat (BX1_goes_at52_0 qX1_goes_at52_66 qX1_goes_at52_168 x1 x2 h) P) : sat (qX1_goes_at52_0 x1 x2 h) P := by
  obtain ⟨x, e, hp⟩ := H
  obtain ⟨n, hn⟩ := nBX1_goes_at52_0 fqX1_goes_at52_66 fqX1_goes_at52_168 x e
  exact ⟨x, flim_at (fun f => (mgX1_goes_at52 f).1 x1 x2 h) (f := n + 1) (hn n (Nat.le_refl _)), hp⟩
/-- how a block opens -/
theorem uqX1_goes_at52_66 {x1 : Int32} {x2 : Int32} {x3 : Int32} {x4 : Int32} {x5 : Int32} {x6 : Int32} {x7 : Int32} {h : ea_H} {P : Unit × ea_H → Prop} (H : sat (BX1_goes_at52_66 qX1_goes_at52_119 qX1_goes_at52_168 x1 x2 x3 x4 x5 x6 x7 h) P) : sat (qX1_goes_at52_66 x1 x2 x3 x4 x5 x6 x7 h) P := by
  obtain ⟨x, e, hp⟩ := H
  obtain ⟨n, hn⟩ := nBX1_goes_at52_66 fqX1_goes_at52_119 fqX1_goes_at52_168 x e
  exact ⟨x, flim_at (fun f => (mgX1_goes_at52 f).2.1 x1 x2 x3 x4 x5 x6 x7 h) (f := n + 1) (hn n (Nat.le_refl _)), hp⟩
/-- how a block opens -/
theorem uqX1_goes_at52_119 {x1 : Int32} {x2 : Int32} {x3 : Int32} {x4 : Int32} {x5 : Int32} {x6 : Int32} {x7 : Int32} {sx0 : Int32} {h : ea_H} {P : Unit × ea_H → Prop} (H : sat (BX1_goes_at52_119 qX1_goes_at52_66 x1 x2 x3 x4 x5 x6 x7 sx0 h) P) : sat (qX1_goes_at52_119 x1 x2 x3 x4 x5 x6 x7 sx0 h) P := by
  obtain ⟨x, e, hp⟩ := H
  obtain ⟨n, hn⟩ := nBX1_goes_at52_119 fqX1_goes_at52_66 x e
  exact ⟨x, flim_at (fun f => (mgX1_goes_at52 f).2.2.1 x1 x2 x3 x4 x5 x6 x7 sx0 h) (f := n + 1) (hn n (Nat.le_refl _)), hp⟩
/-- how a block opens -/
theorem uqX1_goes_at52_168 {x3 : Int32} {x4 : Int32} {x5 : Int32} {h : ea_H} {P : Unit × ea_H → Prop} (H : sat (BX1_goes_at52_168 x3 x4 x5 h) P) : sat (qX1_goes_at52_168 x3 x4 x5 h) P := by
  obtain ⟨x, e, hp⟩ := H
  obtain ⟨n, hn⟩ := nBX1_goes_at52_168 x e
  exact ⟨x, flim_at (fun f => (mgX1_goes_at52 f).2.2.2 x3 x4 x5 h) (f := n + 1) (hn n (Nat.le_refl _)), hp⟩
theorem kgX1_goes_at52 : ∀ f : Nat, (∀ (x1 : Int32) (x2 : Int32) (h : ea_H), kp (ea_core h) ((gX1_goes_at52 f).1 x1 x2 h)) ∧ (∀ (x1 : Int32) (x2 : Int32) (x3 : Int32) (x4 : Int32) (x5 : Int32) (x6 : Int32) (x7 : Int32) (h : ea_H), kp (ea_core h) ((gX1_goes_at52 f).2.1 x1 x2 x3 x4 x5 x6 x7 h)) ∧ (∀ (x1 : Int32) (x2 : Int32) (x3 : Int32) (x4 : Int32) (x5 : Int32) (x6 : Int32) (x7 : Int32) (sx0 : Int32) (h : ea_H), kp (ea_core h) ((gX1_goes_at52 f).2.2.1 x1 x2 x3 x4 x5 x6 x7 sx0 h)) ∧ (∀ (x3 : Int32) (x4 : Int32) (x5 : Int32) (h : ea_H), kp (ea_core h) ((gX1_goes_at52 f).2.2.2 x3 x4 x5 h)) := by
  intro f
  induction f with
  | zero => exact ⟨fun _ _ _ => kp_none _, fun _ _ _ _ _ _ _ _ => kp_none _, fun _ _ _ _ _ _ _ _ _ => kp_none _, fun _ _ _ _ => kp_none _⟩
  | succ f ih => exact ⟨fun _ _ _ => kBX1_goes_at52_0 ih.2.1 ih.2.2.2, fun _ _ _ _ _ _ _ _ => kBX1_goes_at52_66 ih.2.2.1 ih.2.2.2, fun _ _ _ _ _ _ _ _ _ => kBX1_goes_at52_119 ih.2.1, fun _ _ _ _ => kBX1_goes_at52_168⟩
theorem tgX1_goes_at52 {d : Nat} {h0 : ea_H} (hd : 4 ≤ d) : ∀ f : Nat, (∀ (x1 : Int32) (x2 : Int32) (h : ea_H) (r : Unit) (h' : ea_H), (gX1_goes_at52 f).1 x1 x2 h = some (r, h') → ShC h → ea_W mX1_goes d h0 none h' 0 [(0, vR (some 52)), (1, vI x1), (2, vI x2)] [] h) ∧ (∀ (x1 : Int32) (x2 : Int32) (x3 : Int32) (x4 : Int32) (x5 : Int32) (x6 : Int32) (x7 : Int32) (h : ea_H) (r : Unit) (h' : ea_H), (gX1_goes_at52 f).2.1 x1 x2 x3 x4 x5 x6 x7 h = some (r, h') → ShC h → ea_W mX1_goes d h0 none h' 66 [(0, vR (some 52)), (1, vI x1), (2, vI x2), (3, vI x3), (4, vI x4), (5, vI x5), (6, vI x6), (7, vI x7)] [] h) ∧ (∀ (x1 : Int32) (x2 : Int32) (x3 : Int32) (x4 : Int32) (x5 : Int32) (x6 : Int32) (x7 : Int32) (sx0 : Int32) (h : ea_H) (r : Unit) (h' : ea_H), (gX1_goes_at52 f).2.2.1 x1 x2 x3 x4 x5 x6 x7 sx0 h = some (r, h') → ShC h → ea_W mX1_goes d h0 none h' 119 [(0, vR (some 52)), (1, vI x1), (2, vI x2), (3, vI x3), (4, vI x4), (5, vI x5), (6, vI x6), (7, vI x7)] [vI sx0] h) ∧ (∀ (x3 : Int32) (x4 : Int32) (x5 : Int32) (h : ea_H) (r : Unit) (h' : ea_H), (gX1_goes_at52 f).2.2.2 x3 x4 x5 h = some (r, h') → ShC h → ea_W mX1_goes d h0 none h' 168 [(0, vR (some 52)), (3, vI x3), (4, vI x4), (5, vI x5)] [] h) := by
  intro f
  induction f with
  | zero => exact ⟨fun _ _ _ _ _ E => no_some E, fun _ _ _ _ _ _ _ _ _ _ E => no_some E, fun _ _ _ _ _ _ _ _ _ _ _ E => no_some E, fun _ _ _ _ _ _ E => no_some E⟩
  | succ f ih => exact ⟨fun _ _ _ _ _ E hs => tBX1_goes_at52_0 hd ih.2.1 ih.2.2.2 E hs, fun _ _ _ _ _ _ _ _ _ _ E hs => tBX1_goes_at52_66 hd ih.2.2.1 ih.2.2.2 E hs, fun _ _ _ _ _ _ _ _ _ _ _ E hs => tBX1_goes_at52_119 hd ih.2.1 E hs, fun _ _ _ _ _ _ E hs => tBX1_goes_at52_168 hd E hs⟩
noncomputable def qX1_goes_at52 (x1 : Int32) (x2 : Int32) (h : ea_H) : Option (Unit × ea_H) := qX1_goes_at52_0 x1 x2 h
theorem sX1_goes_at52 {d : Nat} {x1 : Int32} {x2 : Int32} {h : ea_H} {r : Unit} {h' : ea_H} (hd : 4 ≤ d) (hs : ShC h) (K : qX1_goes_at52 x1 x2 h = some (r, h')) : ea_Met mX1_goes d [vR (some 52), vI x1, vI x2] h none h' := by
  unfold qX1_goes_at52 at K
  obtain ⟨n, hn⟩ := fqX1_goes_at52_0 x1 x2 h _ K
  have W := (tgX1_goes_at52 (d := d) (h0 := h) hd n).1 x1 x2 h _ _ (hn n (Nat.le_refl _)) hs
  exact ea_enter rfl (Nat.le_of_ble_eq_true rfl) W
theorem kpX1_goes_at52 (x1 : Int32) (x2 : Int32) (h : ea_H) : kp (ea_core h) (qX1_goes_at52 x1 x2 h) := fun x e => by
  obtain ⟨n, hn⟩ := fqX1_goes_at52_0 x1 x2 h x e
  exact (kgX1_goes_at52 n).1 x1 x2 h x (hn n (Nat.le_refl _))
noncomputable def BX1_goes_at62_0 (J66 : Int32 → Int32 → Int32 → Int32 → Int32 → Int32 → Int32 → ea_H → Option (Unit × ea_H)) (J168 : Int32 → Int32 → Int32 → ea_H → Option (Unit × ea_H)) (x1 : Int32) (x2 : Int32) (h : ea_H) : Option (Unit × ea_H) :=
  (Option.bind (qX10_trainIn (x1 : Int32) h) fun w1 => (Option.bind (qX10_stopIn (x1 : Int32) w1.2) fun w2 => (Option.bind (qX10_dayIn (x1 : Int32) w2.2) fun w3 => (ea_let (((10 : Int32) * w3.1) + w1.1) fun (v4 : Int32) => (gd (vp_in (((8 : Int32) * w1.1) + w2.1) 80) (ea_let (ea_i w3.2 7 (Int32.toNatClampNeg (((8 : Int32) * w1.1) + w2.1))) fun (v6 : Int32) => (gd (vp_in v6 12) (if (ea_i w3.2 70 (Int32.toNatClampNeg v6)) ≤ (0 : Int32) then (J168 (w1.1 : Int32) (w2.1 : Int32) (v4 : Int32) w3.2) else (Option.bind (qX9_isMissed (v4 : Int32) (w2.1 : Int32) w3.2) fun w8 => (if w8.1 = (0 : Int32) then (J66 (x1 : Int32) (x2 : Int32) (w1.1 : Int32) (w2.1 : Int32) (v4 : Int32) (v6 : Int32) (0 : Int32) w8.2) else (J168 (w1.1 : Int32) (w2.1 : Int32) (v4 : Int32) w8.2)))))))))))
theorem tBX1_goes_at62_0 {d : Nat} {h0 : ea_H} (hd : 4 ≤ d) {J66 : Int32 → Int32 → Int32 → Int32 → Int32 → Int32 → Int32 → ea_H → Option (Unit × ea_H)} {J168 : Int32 → Int32 → Int32 → ea_H → Option (Unit × ea_H)}  (kJ66 : ∀ (x1 : Int32) (x2 : Int32) (x3 : Int32) (x4 : Int32) (x5 : Int32) (x6 : Int32) (x7 : Int32) (h : ea_H) (r : Unit) (h' : ea_H), J66 x1 x2 x3 x4 x5 x6 x7 h = some (r, h') → ShC h → ea_W mX1_goes d h0 none h' 66 [(0, vR (some 62)), (1, vI x1), (2, vI x2), (3, vI x3), (4, vI x4), (5, vI x5), (6, vI x6), (7, vI x7)] [] h) (kJ168 : ∀ (x3 : Int32) (x4 : Int32) (x5 : Int32) (h : ea_H) (r : Unit) (h' : ea_H), J168 x3 x4 x5 h = some (r, h') → ShC h → ea_W mX1_goes d h0 none h' 168 [(0, vR (some 62)), (3, vI x3), (4, vI x4), (5, vI x5)] [] h) {x1 : Int32} {x2 : Int32} {h : ea_H} {r : Unit} {h' : ea_H} (E : BX1_goes_at62_0 J66 J168 x1 x2 h = some (r, h')) (hs : ShC h) : ea_W mX1_goes d h0 none h' 0 [(0, vR (some 62)), (1, vI x1), (2, vI x2)] [] h := by
  unfold BX1_goes_at62_0 at E
  obtain ⟨w1, Ew1, E⟩ := bd_some E
  have hsw1 : ShC w1.2 := ShC_core ((kpX10_trainIn _ _) _ Ew1) hs
  refine ea_iload_n (pc := 0) dX1_goes_0 rfl 1 rfl ?_
  refine ea_callS (pc := 1) (d' := d - 1) (As := [vI x1]) (st := []) dX1_goes_1 kX10_trainIn (sX10_trainIn (d := d - 1) (by omega) Ew1) (by omega) rfl (Nat.le_of_ble_eq_true rfl) ew_867 ew_786 ?_
  obtain ⟨w2, Ew2, E⟩ := bd_some E
  have hsw2 : ShC w2.2 := ShC_core ((kpX10_stopIn _ _) _ Ew2) hsw1
  refine ea_istore_n (pc := 4) (lv' := [(0, vR (some 62)), (1, vI x1), (2, vI x2), (3, vI w1.1)]) dX1_goes_4 rfl (Nat.le_of_ble_eq_true rfl) [1, 2, 3, 0] rfl ?_
  refine ea_iload_n (pc := 5) dX1_goes_5 rfl 1 rfl ?_
  refine ea_callS (pc := 6) (d' := d - 1) (As := [vI x1]) (st := []) dX1_goes_6 kX10_stopIn (sX10_stopIn (d := d - 1) (by omega) Ew2) (by omega) rfl (Nat.le_of_ble_eq_true rfl) ew_868 ew_789 ?_
  obtain ⟨w3, Ew3, E⟩ := bd_some E
  have hsw3 : ShC w3.2 := ShC_core ((kpX10_dayIn _ _) _ Ew3) hsw2
  refine ea_istore (pc := 9) (lv' := [(0, vR (some 62)), (1, vI x1), (2, vI x2), (3, vI w1.1), (4, vI w2.1)]) dX1_goes_9 (Nat.le_of_ble_eq_true rfl) [1, 2, 3, 4, 0] rfl ?_
  refine ea_bipush (pc := 11) dX1_goes_11 (v := 10) rfl ?_
  refine ea_iload_n (pc := 13) dX1_goes_13 rfl 1 rfl ?_
  refine ea_callS (pc := 14) (d' := d - 1) (As := [vI x1]) (st := [vI 10]) dX1_goes_14 kX10_dayIn (sX10_dayIn (d := d - 1) (by omega) Ew3) (by omega) rfl (Nat.le_of_ble_eq_true rfl) ew_869 ew_827 ?_
  obtain ⟨v4, ev4, E⟩ := let_some E
  refine ea_imul (pc := 17) dX1_goes_17 ?_
  refine ea_iload_n (pc := 18) dX1_goes_18 rfl 3 rfl ?_
  refine ea_iadd (pc := 19) dX1_goes_19 ?_
  obtain ⟨z5, E⟩ := gd_some E
  refine ea_istore (pc := 20) (lv' := [(0, vR (some 62)), (1, vI x1), (2, vI x2), (3, vI w1.1), (4, vI w2.1), (5, vI v4)]) dX1_goes_20 (Nat.le_of_ble_eq_true rfl) [1, 2, 3, 4, 5, 0] (by rw [ev4]; rfl) ?_
  refine ea_aload_n (pc := 22) dX1_goes_22 rfl 0 rfl ?_
  refine ea_getR (pc := 23) dX1_goes_23 ec_1 (k := 11) (Nat.le_of_ble_eq_true rfl) rfl (Or.inl ew_459) (cShC_62 hsw3).1 (cShC_62 hsw3).2.1 (rShC_62_11 hsw3) ?_
  refine ea_getR (pc := 26) dX1_goes_26 ec_9 (k := 2) (Nat.le_of_ble_eq_true rfl) rfl (Or.inl ew_194) (cShC_5 hsw3).1 (cShC_5 hsw3).2.1 (rShC_5_2 hsw3) ?_
  refine ea_bipush (pc := 29) dX1_goes_29 (v := 8) rfl ?_
  refine ea_iload_n (pc := 31) dX1_goes_31 rfl 3 rfl ?_
  refine ea_imul (pc := 32) dX1_goes_32 ?_
  refine ea_iload (pc := 33) dX1_goes_33 4 rfl ?_
  refine ea_iadd (pc := 35) dX1_goes_35 ?_
  obtain ⟨v6, ev6, E⟩ := let_some E
  refine ea_iald (pc := 36) dX1_goes_36 (cShC_7 hsw3).1 (cShC_7 hsw3).2.1 (ea_vpl (cShC_7 hsw3).2.2 z5) ?_
  obtain ⟨z7, E⟩ := gd_some E
  refine ea_istore (pc := 37) (lv' := [(0, vR (some 62)), (1, vI x1), (2, vI x2), (3, vI w1.1), (4, vI w2.1), (5, vI v4), (6, vI v6)]) dX1_goes_37 (Nat.le_of_ble_eq_true rfl) [1, 2, 3, 4, 5, 6, 0] (by rw [ev6]; rfl) ?_
  refine ea_aload_n (pc := 39) dX1_goes_39 rfl 0 rfl ?_
  refine ea_getR (pc := 40) dX1_goes_40 ec_1 (k := 8) (Nat.le_of_ble_eq_true rfl) rfl (Or.inl ew_456) (cShC_62 hsw3).1 (cShC_62 hsw3).2.1 (rShC_62_8 hsw3) ?_
  refine ea_iload (pc := 43) dX1_goes_43 6 rfl ?_
  refine ea_iald (pc := 45) dX1_goes_45 (cShC_70 hsw3).1 (cShC_70 hsw3).2.1 (ea_vpl (cShC_70 hsw3).2.2 z7) ?_
  refine ea_if_le (pc := 46) (tgt := 168) dX1_goes_46 rfl (fun c10 => ?_) (fun c10 => ?_)
  · have E := (if_pos c10).symm.trans E
    exact ea_fewer [0, 3, 4, 5] rfl (kJ168 (w1.1 : Int32) (w2.1 : Int32) (v4 : Int32) w3.2 _ _ E hsw3)
  · have E := (if_neg c10).symm.trans E
    obtain ⟨w8, Ew8, E⟩ := bd_some E
    have hsw8 : ShC w8.2 := ShC_core ((kpX9_isMissed _ _ _) _ Ew8) hsw3
    refine ea_aload_n (pc := 49) dX1_goes_49 rfl 0 rfl ?_
    refine ea_getR (pc := 50) dX1_goes_50 ec_1 (k := 11) (Nat.le_of_ble_eq_true rfl) rfl (Or.inl ew_459) (cShC_62 hsw3).1 (cShC_62 hsw3).2.1 (rShC_62_11 hsw3) ?_
    refine ea_iload (pc := 53) dX1_goes_53 5 rfl ?_
    refine ea_iload (pc := 55) dX1_goes_55 4 rfl ?_
    refine ea_callV (pc := 57) (d' := d - 1) (As := [vI v4, vI w2.1]) (st := []) dX1_goes_57 kX9_isMissed (sX9_isMissed (d := d - 1) (by omega) hsw3 Ew8) (by omega) rfl (Nat.le_of_ble_eq_true rfl) ew_870 ew_738 ew_739 (ci := 9) rfl (by decide) (cShC_5 hsw3).1 (cShC_5 hsw3).2.1 ?_
    refine ea_if_ne (pc := 60) (tgt := 168) dX1_goes_60 rfl (fun c9 => ?_) (fun c9 => ?_)
    · have E := (if_neg c9).symm.trans E
      exact ea_fewer [0, 3, 4, 5] rfl (kJ168 (w1.1 : Int32) (w2.1 : Int32) (v4 : Int32) w8.2 _ _ E hsw8)
    · have E := (if_pos c9).symm.trans E
      refine ea_iconst (pc := 63) dX1_goes_63 (v := 0) rfl ?_
      refine ea_istore (pc := 64) (lv' := [(0, vR (some 62)), (1, vI x1), (2, vI x2), (3, vI w1.1), (4, vI w2.1), (5, vI v4), (6, vI v6), (7, vI 0)]) dX1_goes_64 (Nat.le_of_ble_eq_true rfl) [1, 2, 3, 4, 5, 6, 7, 0] rfl ?_
      exact (kJ66 (x1 : Int32) (x2 : Int32) (w1.1 : Int32) (w2.1 : Int32) (v4 : Int32) (v6 : Int32) (0 : Int32) w8.2 _ _ E hsw8)
theorem kBX1_goes_at62_0 {J66 : Int32 → Int32 → Int32 → Int32 → Int32 → Int32 → Int32 → ea_H → Option (Unit × ea_H)} {J168 : Int32 → Int32 → Int32 → ea_H → Option (Unit × ea_H)}  (cJ66 : ∀ (x1 : Int32) (x2 : Int32) (x3 : Int32) (x4 : Int32) (x5 : Int32) (x6 : Int32) (x7 : Int32) (h : ea_H), kp (ea_core h) (J66 x1 x2 x3 x4 x5 x6 x7 h)) (cJ168 : ∀ (x3 : Int32) (x4 : Int32) (x5 : Int32) (h : ea_H), kp (ea_core h) (J168 x3 x4 x5 h)) {x1 : Int32} {x2 : Int32} {h : ea_H} : kp (ea_core h) (BX1_goes_at62_0 J66 J168 x1 x2 h) :=
  (kp_bind (kp_tw (kpX10_trainIn _ _) rfl) fun w1 hcw1 => (kp_bind (kp_tw (kpX10_stopIn _ _) hcw1) fun w2 hcw2 => (kp_bind (kp_tw (kpX10_dayIn _ _) hcw2) fun w3 hcw3 => (kp_let (kp_gd (kp_let (kp_gd (kp_ite (kp_tw (cJ168 _ _ _ _) hcw3) (kp_bind (kp_tw (kpX9_isMissed _ _ _) hcw3) fun w8 hcw8 => (kp_ite (kp_tw (cJ66 _ _ _ _ _ _ _ _) hcw8) (kp_tw (cJ168 _ _ _ _) hcw8)))))))))))
theorem lBX1_goes_at62_0 {J66 : Int32 → Int32 → Int32 → Int32 → Int32 → Int32 → Int32 → ea_H → Option (Unit × ea_H)} {J168 : Int32 → Int32 → Int32 → ea_H → Option (Unit × ea_H)} {J66_ : Int32 → Int32 → Int32 → Int32 → Int32 → Int32 → Int32 → ea_H → Option (Unit × ea_H)} {J168_ : Int32 → Int32 → Int32 → ea_H → Option (Unit × ea_H)}  (mJ66 : ∀ (x1 : Int32) (x2 : Int32) (x3 : Int32) (x4 : Int32) (x5 : Int32) (x6 : Int32) (x7 : Int32) (h : ea_H), fle (J66 x1 x2 x3 x4 x5 x6 x7 h) (J66_ x1 x2 x3 x4 x5 x6 x7 h)) (mJ168 : ∀ (x3 : Int32) (x4 : Int32) (x5 : Int32) (h : ea_H), fle (J168 x3 x4 x5 h) (J168_ x3 x4 x5 h)) {x1 : Int32} {x2 : Int32} {h : ea_H} : fle (BX1_goes_at62_0 J66 J168 x1 x2 h) (BX1_goes_at62_0 J66_ J168_ x1 x2 h) :=
  (fle_bind (fle_rfl _) fun _ => (fle_bind (fle_rfl _) fun _ => (fle_bind (fle_rfl _) fun _ => (fle_let fun _ => (fle_gd (fle_let fun _ => (fle_gd (fle_ite (mJ168 _ _ _ _) (fle_bind (fle_rfl _) fun _ => (fle_ite (mJ66 _ _ _ _ _ _ _ _) (mJ168 _ _ _ _)))))))))))
theorem nBX1_goes_at62_0 {J66 : Int32 → Int32 → Int32 → Int32 → Int32 → Int32 → Int32 → ea_H → Option (Unit × ea_H)} {J168 : Int32 → Int32 → Int32 → ea_H → Option (Unit × ea_H)} {J66_ : Nat → (Int32 → Int32 → Int32 → Int32 → Int32 → Int32 → Int32 → ea_H → Option (Unit × ea_H))} {J168_ : Nat → (Int32 → Int32 → Int32 → ea_H → Option (Unit × ea_H))}  (mJ66 : ∀ (x1 : Int32) (x2 : Int32) (x3 : Int32) (x4 : Int32) (x5 : Int32) (x6 : Int32) (x7 : Int32) (h : ea_H), fct (J66 x1 x2 x3 x4 x5 x6 x7 h) (fun f => J66_ f x1 x2 x3 x4 x5 x6 x7 h)) (mJ168 : ∀ (x3 : Int32) (x4 : Int32) (x5 : Int32) (h : ea_H), fct (J168 x3 x4 x5 h) (fun f => J168_ f x3 x4 x5 h)) {x1 : Int32} {x2 : Int32} {h : ea_H} : fct (BX1_goes_at62_0 J66 J168 x1 x2 h) (fun f => BX1_goes_at62_0 (J66_ f) (J168_ f) x1 x2 h) :=
  (fct_bind (fct_rfl _) fun _ => (fct_bind (fct_rfl _) fun _ => (fct_bind (fct_rfl _) fun _ => (fct_let fun _ => (fct_gd (fct_let fun _ => (fct_gd (fct_ite (mJ168 _ _ _ _) (fct_bind (fct_rfl _) fun _ => (fct_ite (mJ66 _ _ _ _ _ _ _ _) (mJ168 _ _ _ _)))))))))))
noncomputable def BX1_goes_at62_66 (J119 : Int32 → Int32 → Int32 → Int32 → Int32 → Int32 → Int32 → Int32 → ea_H → Option (Unit × ea_H)) (J168 : Int32 → Int32 → Int32 → ea_H → Option (Unit × ea_H)) (x1 : Int32) (x2 : Int32) (x3 : Int32) (x4 : Int32) (x5 : Int32) (x6 : Int32) (x7 : Int32) (h : ea_H) : Option (Unit × ea_H) :=
  (if (ea_i h 62 0) ≤ x7 then (J168 (x3 : Int32) (x4 : Int32) (x5 : Int32) h) else (gd (vp_in x7 120) (if (ea_i h 63 (Int32.toNatClampNeg x7)) = (0 : Int32) then (gd (vp_in x7 120) (if (ea_i h 64 (Int32.toNatClampNeg x7)) = x6 then (gd (vp_in x7 120) (gd ((ea_r h 49 (Int32.toNatClampNeg x7)) = some (Option.getD (ea_r h 49 (Int32.toNatClampNeg x7)) 0)) (gd (((Option.getD (ea_r h 49 (Int32.toNatClampNeg x7)) 0) < ea_n h ∧ ea_c h (Option.getD (ea_r h 49 (Int32.toNatClampNeg x7)) 0) = 5)) (Option.bind (qX10_leftBehind (x1 : Int32) ((ea_i h (Option.getD (ea_r h 49 (Int32.toNatClampNeg x7)) 0) 2) : Int32) h) fun w16 => (J119 (x1 : Int32) (x2 : Int32) (x3 : Int32) (x4 : Int32) (x5 : Int32) (x6 : Int32) (x7 : Int32) (w16.1 : Int32) w16.2))))) else (J119 (x1 : Int32) (x2 : Int32) (x3 : Int32) (x4 : Int32) (x5 : Int32) (x6 : Int32) (x7 : Int32) (0 : Int32) h))) else (J119 (x1 : Int32) (x2 : Int32) (x3 : Int32) (x4 : Int32) (x5 : Int32) (x6 : Int32) (x7 : Int32) (0 : Int32) h))))
theorem tBX1_goes_at62_66 {d : Nat} {h0 : ea_H} (hd : 4 ≤ d) {J119 : Int32 → Int32 → Int32 → Int32 → Int32 → Int32 → Int32 → Int32 → ea_H → Option (Unit × ea_H)} {J168 : Int32 → Int32 → Int32 → ea_H → Option (Unit × ea_H)}  (kJ119 : ∀ (x1 : Int32) (x2 : Int32) (x3 : Int32) (x4 : Int32) (x5 : Int32) (x6 : Int32) (x7 : Int32) (sx0 : Int32) (h : ea_H) (r : Unit) (h' : ea_H), J119 x1 x2 x3 x4 x5 x6 x7 sx0 h = some (r, h') → ShC h → ea_W mX1_goes d h0 none h' 119 [(0, vR (some 62)), (1, vI x1), (2, vI x2), (3, vI x3), (4, vI x4), (5, vI x5), (6, vI x6), (7, vI x7)] [vI sx0] h) (kJ168 : ∀ (x3 : Int32) (x4 : Int32) (x5 : Int32) (h : ea_H) (r : Unit) (h' : ea_H), J168 x3 x4 x5 h = some (r, h') → ShC h → ea_W mX1_goes d h0 none h' 168 [(0, vR (some 62)), (3, vI x3), (4, vI x4), (5, vI x5)] [] h) {x1 : Int32} {x2 : Int32} {x3 : Int32} {x4 : Int32} {x5 : Int32} {x6 : Int32} {x7 : Int32} {h : ea_H} {r : Unit} {h' : ea_H} (E : BX1_goes_at62_66 J119 J168 x1 x2 x3 x4 x5 x6 x7 h = some (r, h')) (hs : ShC h) : ea_W mX1_goes d h0 none h' 66 [(0, vR (some 62)), (1, vI x1), (2, vI x2), (3, vI x3), (4, vI x4), (5, vI x5), (6, vI x6), (7, vI x7)] [] h := by
  unfold BX1_goes_at62_66 at E
  refine ea_iload (pc := 66) dX1_goes_66 7 rfl ?_
  refine ea_aload_n (pc := 68) dX1_goes_68 rfl 0 rfl ?_
  refine ea_getI (pc := 69) dX1_goes_69 ec_1 (k := 0) (Nat.le_of_ble_eq_true rfl) rfl (Or.inl ew_441) (cShC_62 hs).1 (cShC_62 hs).2.1 ?_
  refine ea_icmp_ge (pc := 72) (tgt := 168) dX1_goes_72 rfl (fun c19 => ?_) (fun c19 => ?_)
  · have E := (if_pos c19).symm.trans E
    exact ea_fewer [0, 3, 4, 5] rfl (kJ168 (x3 : Int32) (x4 : Int32) (x5 : Int32) h _ _ E hs)
  · have E := (if_neg c19).symm.trans E
    obtain ⟨z11, E⟩ := gd_some E
    refine ea_aload_n (pc := 75) dX1_goes_75 rfl 0 rfl ?_
    refine ea_getR (pc := 76) dX1_goes_76 ec_1 (k := 1) (Nat.le_of_ble_eq_true rfl) rfl (Or.inl ew_443) (cShC_62 hs).1 (cShC_62 hs).2.1 (rShC_62_1 hs) ?_
    refine ea_iload (pc := 79) dX1_goes_79 7 rfl ?_
    refine ea_iald (pc := 81) dX1_goes_81 (cShC_63 hs).1 (cShC_63 hs).2.1 (ea_vpl (cShC_63 hs).2.2 z11) ?_
    refine ea_if_ne (pc := 82) (tgt := 118) dX1_goes_82 rfl (fun c18 => ?_) (fun c18 => ?_)
    · have E := (if_neg c18).symm.trans E
      refine ea_iconst (pc := 118) dX1_goes_118 (v := 0) rfl ?_
      exact (kJ119 (x1 : Int32) (x2 : Int32) (x3 : Int32) (x4 : Int32) (x5 : Int32) (x6 : Int32) (x7 : Int32) (0 : Int32) h _ _ E hs)
    · have E := (if_pos c18).symm.trans E
      obtain ⟨z12, E⟩ := gd_some E
      refine ea_aload_n (pc := 85) dX1_goes_85 rfl 0 rfl ?_
      refine ea_getR (pc := 86) dX1_goes_86 ec_1 (k := 2) (Nat.le_of_ble_eq_true rfl) rfl (Or.inl ew_445) (cShC_62 hs).1 (cShC_62 hs).2.1 (rShC_62_2 hs) ?_
      refine ea_iload (pc := 89) dX1_goes_89 7 rfl ?_
      refine ea_iald (pc := 91) dX1_goes_91 (cShC_64 hs).1 (cShC_64 hs).2.1 (ea_vpl (cShC_64 hs).2.2 z12) ?_
      refine ea_iload (pc := 92) dX1_goes_92 6 rfl ?_
      refine ea_icmp_ne (pc := 94) (tgt := 118) dX1_goes_94 rfl (fun c17 => ?_) (fun c17 => ?_)
      · have E := (if_neg c17).symm.trans E
        refine ea_iconst (pc := 118) dX1_goes_118 (v := 0) rfl ?_
        exact (kJ119 (x1 : Int32) (x2 : Int32) (x3 : Int32) (x4 : Int32) (x5 : Int32) (x6 : Int32) (x7 : Int32) (0 : Int32) h _ _ E hs)
      · have E := (if_pos c17).symm.trans E
        obtain ⟨z13, E⟩ := gd_some E
        refine ea_aload_n (pc := 97) dX1_goes_97 rfl 0 rfl ?_
        refine ea_getR (pc := 98) dX1_goes_98 ec_1 (k := 12) (Nat.le_of_ble_eq_true rfl) rfl (Or.inl ew_460) (cShC_62 hs).1 (cShC_62 hs).2.1 (rShC_62_12 hs) ?_
        refine ea_iload_n (pc := 101) dX1_goes_101 rfl 1 rfl ?_
        refine ea_aload_n (pc := 102) dX1_goes_102 rfl 0 rfl ?_
        refine ea_getR (pc := 103) dX1_goes_103 ec_1 (k := 14) (Nat.le_of_ble_eq_true rfl) rfl (Or.inl ew_462) (cShC_62 hs).1 (cShC_62 hs).2.1 (rShC_62_14 hs) ?_
        refine ea_iload (pc := 106) dX1_goes_106 7 rfl ?_
        obtain ⟨e14, E⟩ := gd_some E
        refine ea_aald23 (pc := 108) dX1_goes_108 (cShC_49 hs).1 (cShC_49 hs).2.1 (ea_vpl (cShC_49 hs).2.2 z13) rfl ?_
        obtain ⟨f15, E⟩ := gd_some E
        obtain ⟨w16, Ew16, E⟩ := bd_some E
        have hsw16 : ShC w16.2 := ShC_core ((kpX10_leftBehind _ _ _) _ Ew16) hs
        refine ea_deref0 e14 ?_
        refine ea_getI (pc := 109) dX1_goes_109 ec_5 (k := 2) (Nat.le_of_ble_eq_true rfl) rfl (Or.inl ew_511) f15.1 f15.2 ?_
        refine ea_callV (pc := 112) (d' := d - 1) (As := [vI x1, vI (ea_i h (Option.getD (ea_r h 49 (Int32.toNatClampNeg x7)) 0) 2)]) (st := []) dX1_goes_112 kX10_leftBehind (sX10_leftBehind (d := d - 1) (by omega) hs Ew16) (by omega) rfl (Nat.le_of_ble_eq_true rfl) ew_871 ew_872 ew_873 (ci := 10) rfl (by decide) (cShC_13 hs).1 (cShC_13 hs).2.1 ?_
        refine ea_goto (pc := 115) (tgt := 119) dX1_goes_115 rfl ?_
        exact (kJ119 (x1 : Int32) (x2 : Int32) (x3 : Int32) (x4 : Int32) (x5 : Int32) (x6 : Int32) (x7 : Int32) (w16.1 : Int32) w16.2 _ _ E hsw16)
theorem kBX1_goes_at62_66 {J119 : Int32 → Int32 → Int32 → Int32 → Int32 → Int32 → Int32 → Int32 → ea_H → Option (Unit × ea_H)} {J168 : Int32 → Int32 → Int32 → ea_H → Option (Unit × ea_H)}  (cJ119 : ∀ (x1 : Int32) (x2 : Int32) (x3 : Int32) (x4 : Int32) (x5 : Int32) (x6 : Int32) (x7 : Int32) (sx0 : Int32) (h : ea_H), kp (ea_core h) (J119 x1 x2 x3 x4 x5 x6 x7 sx0 h)) (cJ168 : ∀ (x3 : Int32) (x4 : Int32) (x5 : Int32) (h : ea_H), kp (ea_core h) (J168 x3 x4 x5 h)) {x1 : Int32} {x2 : Int32} {x3 : Int32} {x4 : Int32} {x5 : Int32} {x6 : Int32} {x7 : Int32} {h : ea_H} : kp (ea_core h) (BX1_goes_at62_66 J119 J168 x1 x2 x3 x4 x5 x6 x7 h) :=
  (kp_ite (kp_tw (cJ168 _ _ _ _) rfl) (kp_gd (kp_ite (kp_gd (kp_ite (kp_gd (kp_gd (kp_gd (kp_bind (kp_tw (kpX10_leftBehind _ _ _) rfl) fun w16 hcw16 => (kp_tw (cJ119 _ _ _ _ _ _ _ _ _) hcw16))))) (kp_tw (cJ119 _ _ _ _ _ _ _ _ _) rfl))) (kp_tw (cJ119 _ _ _ _ _ _ _ _ _) rfl))))
theorem lBX1_goes_at62_66 {J119 : Int32 → Int32 → Int32 → Int32 → Int32 → Int32 → Int32 → Int32 → ea_H → Option (Unit × ea_H)} {J168 : Int32 → Int32 → Int32 → ea_H → Option (Unit × ea_H)} {J119_ : Int32 → Int32 → Int32 → Int32 → Int32 → Int32 → Int32 → Int32 → ea_H → Option (Unit × ea_H)} {J168_ : Int32 → Int32 → Int32 → ea_H → Option (Unit × ea_H)}  (mJ119 : ∀ (x1 : Int32) (x2 : Int32) (x3 : Int32) (x4 : Int32) (x5 : Int32) (x6 : Int32) (x7 : Int32) (sx0 : Int32) (h : ea_H), fle (J119 x1 x2 x3 x4 x5 x6 x7 sx0 h) (J119_ x1 x2 x3 x4 x5 x6 x7 sx0 h)) (mJ168 : ∀ (x3 : Int32) (x4 : Int32) (x5 : Int32) (h : ea_H), fle (J168 x3 x4 x5 h) (J168_ x3 x4 x5 h)) {x1 : Int32} {x2 : Int32} {x3 : Int32} {x4 : Int32} {x5 : Int32} {x6 : Int32} {x7 : Int32} {h : ea_H} : fle (BX1_goes_at62_66 J119 J168 x1 x2 x3 x4 x5 x6 x7 h) (BX1_goes_at62_66 J119_ J168_ x1 x2 x3 x4 x5 x6 x7 h) :=
  (fle_ite (mJ168 _ _ _ _) (fle_gd (fle_ite (fle_gd (fle_ite (fle_gd (fle_gd (fle_gd (fle_bind (fle_rfl _) fun _ => (mJ119 _ _ _ _ _ _ _ _ _))))) (mJ119 _ _ _ _ _ _ _ _ _))) (mJ119 _ _ _ _ _ _ _ _ _))))
theorem nBX1_goes_at62_66 {J119 : Int32 → Int32 → Int32 → Int32 → Int32 → Int32 → Int32 → Int32 → ea_H → Option (Unit × ea_H)} {J168 : Int32 → Int32 → Int32 → ea_H → Option (Unit × ea_H)} {J119_ : Nat → (Int32 → Int32 → Int32 → Int32 → Int32 → Int32 → Int32 → Int32 → ea_H → Option (Unit × ea_H))} {J168_ : Nat → (Int32 → Int32 → Int32 → ea_H → Option (Unit × ea_H))}  (mJ119 : ∀ (x1 : Int32) (x2 : Int32) (x3 : Int32) (x4 : Int32) (x5 : Int32) (x6 : Int32) (x7 : Int32) (sx0 : Int32) (h : ea_H), fct (J119 x1 x2 x3 x4 x5 x6 x7 sx0 h) (fun f => J119_ f x1 x2 x3 x4 x5 x6 x7 sx0 h)) (mJ168 : ∀ (x3 : Int32) (x4 : Int32) (x5 : Int32) (h : ea_H), fct (J168 x3 x4 x5 h) (fun f => J168_ f x3 x4 x5 h)) {x1 : Int32} {x2 : Int32} {x3 : Int32} {x4 : Int32} {x5 : Int32} {x6 : Int32} {x7 : Int32} {h : ea_H} : fct (BX1_goes_at62_66 J119 J168 x1 x2 x3 x4 x5 x6 x7 h) (fun f => BX1_goes_at62_66 (J119_ f) (J168_ f) x1 x2 x3 x4 x5 x6 x7 h) :=
  (fct_ite (mJ168 _ _ _ _) (fct_gd (fct_ite (fct_gd (fct_ite (fct_gd (fct_gd (fct_gd (fct_bind (fct_rfl _) fun _ => (mJ119 _ _ _ _ _ _ _ _ _))))) (mJ119 _ _ _ _ _ _ _ _ _))) (mJ119 _ _ _ _ _ _ _ _ _))))
noncomputable def BX1_goes_at62_119 (J66 : Int32 → Int32 → Int32 → Int32 → Int32 → Int32 → Int32 → ea_H → Option (Unit × ea_H)) (x1 : Int32) (x2 : Int32) (x3 : Int32) (x4 : Int32) (x5 : Int32) (x6 : Int32) (x7 : Int32) (sx0 : Int32) (h : ea_H) : Option (Unit × ea_H) :=
  (if sx0 ≤ (0 : Int32) then (J66 (x1 : Int32) (x2 : Int32) (x3 : Int32) (x4 : Int32) (x5 : Int32) (x6 : Int32) ((x7 + (1 : Int32)) : Int32) h) else (Option.bind (qX1_move_at62 (x7 : Int32) (x2 : Int32) (1 : Int32) (x5 : Int32) h) fun w20 => (gd (vp_in x7 120) (ea_let (ea_wi w20.2 65 (Int32.toNatClampNeg x7) sx0) fun H22 => (J66 (x1 : Int32) (x2 : Int32) (x3 : Int32) (x4 : Int32) (x5 : Int32) (x6 : Int32) ((x7 + (1 : Int32)) : Int32) H22)))))
theorem tBX1_goes_at62_119 {d : Nat} {h0 : ea_H} (hd : 4 ≤ d) {J66 : Int32 → Int32 → Int32 → Int32 → Int32 → Int32 → Int32 → ea_H → Option (Unit × ea_H)}  (kJ66 : ∀ (x1 : Int32) (x2 : Int32) (x3 : Int32) (x4 : Int32) (x5 : Int32) (x6 : Int32) (x7 : Int32) (h : ea_H) (r : Unit) (h' : ea_H), J66 x1 x2 x3 x4 x5 x6 x7 h = some (r, h') → ShC h → ea_W mX1_goes d h0 none h' 66 [(0, vR (some 62)), (1, vI x1), (2, vI x2), (3, vI x3), (4, vI x4), (5, vI x5), (6, vI x6), (7, vI x7)] [] h) {x1 : Int32} {x2 : Int32} {x3 : Int32} {x4 : Int32} {x5 : Int32} {x6 : Int32} {x7 : Int32} {sx0 : Int32} {h : ea_H} {r : Unit} {h' : ea_H} (E : BX1_goes_at62_119 J66 x1 x2 x3 x4 x5 x6 x7 sx0 h = some (r, h')) (hs : ShC h) : ea_W mX1_goes d h0 none h' 119 [(0, vR (some 62)), (1, vI x1), (2, vI x2), (3, vI x3), (4, vI x4), (5, vI x5), (6, vI x6), (7, vI x7)] [vI sx0] h := by
  unfold BX1_goes_at62_119 at E
  refine ea_istore (pc := 119) (lv' := [(0, vR (some 62)), (1, vI x1), (2, vI x2), (3, vI x3), (4, vI x4), (5, vI x5), (6, vI x6), (7, vI x7), (8, vI sx0)]) dX1_goes_119 (Nat.le_of_ble_eq_true rfl) [1, 2, 3, 4, 5, 6, 7, 8, 0] rfl ?_
  refine ea_iload (pc := 121) dX1_goes_121 8 rfl ?_
  refine ea_if_le (pc := 123) (tgt := 162) dX1_goes_123 rfl (fun c23 => ?_) (fun c23 => ?_)
  · have E := (if_pos c23).symm.trans E
    refine ea_iinc (pc := 162) (v := 1) (lv' := [(0, vR (some 62)), (1, vI x1), (2, vI x2), (3, vI x3), (4, vI x4), (5, vI x5), (6, vI x6), (7, vI (x7 + (1 : Int32)))]) dX1_goes_162 7 rfl rfl (Nat.le_of_ble_eq_true rfl) [1, 2, 3, 4, 5, 6, 7, 0] rfl ?_
    refine ea_goto (pc := 165) (tgt := 66) dX1_goes_165 rfl ?_
    exact (kJ66 (x1 : Int32) (x2 : Int32) (x3 : Int32) (x4 : Int32) (x5 : Int32) (x6 : Int32) ((x7 + (1 : Int32)) : Int32) h _ _ E hs)
  · have E := (if_neg c23).symm.trans E
    obtain ⟨w20, Ew20, E⟩ := bd_some E
    have hsw20 : ShC w20.2 := ShC_core ((kpX1_move_at62 _ _ _ _ _) _ Ew20) hs
    refine ea_aload_n (pc := 126) dX1_goes_126 rfl 0 rfl ?_
    refine ea_iload (pc := 127) dX1_goes_127 7 rfl ?_
    refine ea_iload_n (pc := 129) dX1_goes_129 rfl 2 rfl ?_
    refine ea_iconst (pc := 130) dX1_goes_130 (v := 1) rfl ?_
    refine ea_iload (pc := 131) dX1_goes_131 5 rfl ?_
    refine ea_callV (pc := 133) (d' := d - 1) (As := [vI x7, vI x2, vI 1, vI x5]) (st := []) dX1_goes_133 kX1_move (sX1_move_at62 (d := d - 1) (by omega) hs Ew20) (by omega) rfl (Nat.le_of_ble_eq_true rfl) ew_851 ew_852 ew_853 (ci := 1) rfl (by decide) (cShC_62 hs).1 (cShC_62 hs).2.1 ?_
    obtain ⟨z21, E⟩ := gd_some E
    refine ea_aload_n (pc := 136) dX1_goes_136 rfl 0 rfl ?_
    refine ea_getR (pc := 137) dX1_goes_137 ec_1 (k := 3) (Nat.le_of_ble_eq_true rfl) rfl (Or.inl ew_447) (cShC_62 hsw20).1 (cShC_62 hsw20).2.1 (rShC_62_3 hsw20) ?_
    refine ea_iload (pc := 140) dX1_goes_140 7 rfl ?_
    refine ea_iload (pc := 142) dX1_goes_142 8 rfl ?_
    obtain ⟨H22, eH22, E⟩ := let_some E
    refine ea_iast (pc := 144) dX1_goes_144 (cShC_65 hsw20).1 (cShC_65 hsw20).2.1 (ea_vpl (cShC_65 hsw20).2.2 z21) ?_
    refine ea_nm eH22 ?_
    have hsH22 : ShC H22 := by rw [eH22]; exact hsw20
    refine ea_aload_n (pc := 145) dX1_goes_145 rfl 0 rfl ?_
    refine ea_getR (pc := 146) dX1_goes_146 ec_1 (k := 15) (Nat.le_of_ble_eq_true rfl) rfl (Or.inl ew_463) (cShC_62 hsH22).1 (cShC_62 hsH22).2.1 (rShC_62_15 hsH22) ?_
    refine ea_ifnull (pc := 149) (tgt := 162) dX1_goes_149 rfl (fun _ => ?_) (fun _ q => nomatch q)
    refine ea_iinc (pc := 162) (v := 1) (lv' := [(0, vR (some 62)), (1, vI x1), (2, vI x2), (3, vI x3), (4, vI x4), (5, vI x5), (6, vI x6), (7, vI (x7 + (1 : Int32)))]) dX1_goes_162 7 rfl rfl (Nat.le_of_ble_eq_true rfl) [1, 2, 3, 4, 5, 6, 7, 0] rfl ?_
    refine ea_goto (pc := 165) (tgt := 66) dX1_goes_165 rfl ?_
    exact (kJ66 (x1 : Int32) (x2 : Int32) (x3 : Int32) (x4 : Int32) (x5 : Int32) (x6 : Int32) ((x7 + (1 : Int32)) : Int32) H22 _ _ E hsH22)
theorem kBX1_goes_at62_119 {J66 : Int32 → Int32 → Int32 → Int32 → Int32 → Int32 → Int32 → ea_H → Option (Unit × ea_H)}  (cJ66 : ∀ (x1 : Int32) (x2 : Int32) (x3 : Int32) (x4 : Int32) (x5 : Int32) (x6 : Int32) (x7 : Int32) (h : ea_H), kp (ea_core h) (J66 x1 x2 x3 x4 x5 x6 x7 h)) {x1 : Int32} {x2 : Int32} {x3 : Int32} {x4 : Int32} {x5 : Int32} {x6 : Int32} {x7 : Int32} {sx0 : Int32} {h : ea_H} : kp (ea_core h) (BX1_goes_at62_119 J66 x1 x2 x3 x4 x5 x6 x7 sx0 h) :=
  (kp_ite (kp_tw (cJ66 _ _ _ _ _ _ _ _) rfl) (kp_bind (kp_tw (kpX1_move_at62 _ _ _ _ _) rfl) fun w20 hcw20 => (kp_gd (kp_let (kp_tw (cJ66 _ _ _ _ _ _ _ _) hcw20)))))
theorem lBX1_goes_at62_119 {J66 : Int32 → Int32 → Int32 → Int32 → Int32 → Int32 → Int32 → ea_H → Option (Unit × ea_H)} {J66_ : Int32 → Int32 → Int32 → Int32 → Int32 → Int32 → Int32 → ea_H → Option (Unit × ea_H)}  (mJ66 : ∀ (x1 : Int32) (x2 : Int32) (x3 : Int32) (x4 : Int32) (x5 : Int32) (x6 : Int32) (x7 : Int32) (h : ea_H), fle (J66 x1 x2 x3 x4 x5 x6 x7 h) (J66_ x1 x2 x3 x4 x5 x6 x7 h)) {x1 : Int32} {x2 : Int32} {x3 : Int32} {x4 : Int32} {x5 : Int32} {x6 : Int32} {x7 : Int32} {sx0 : Int32} {h : ea_H} : fle (BX1_goes_at62_119 J66 x1 x2 x3 x4 x5 x6 x7 sx0 h) (BX1_goes_at62_119 J66_ x1 x2 x3 x4 x5 x6 x7 sx0 h) :=
  (fle_ite (mJ66 _ _ _ _ _ _ _ _) (fle_bind (fle_rfl _) fun _ => (fle_gd (fle_let fun _ => (mJ66 _ _ _ _ _ _ _ _)))))
theorem nBX1_goes_at62_119 {J66 : Int32 → Int32 → Int32 → Int32 → Int32 → Int32 → Int32 → ea_H → Option (Unit × ea_H)} {J66_ : Nat → (Int32 → Int32 → Int32 → Int32 → Int32 → Int32 → Int32 → ea_H → Option (Unit × ea_H))}  (mJ66 : ∀ (x1 : Int32) (x2 : Int32) (x3 : Int32) (x4 : Int32) (x5 : Int32) (x6 : Int32) (x7 : Int32) (h : ea_H), fct (J66 x1 x2 x3 x4 x5 x6 x7 h) (fun f => J66_ f x1 x2 x3 x4 x5 x6 x7 h)) {x1 : Int32} {x2 : Int32} {x3 : Int32} {x4 : Int32} {x5 : Int32} {x6 : Int32} {x7 : Int32} {sx0 : Int32} {h : ea_H} : fct (BX1_goes_at62_119 J66 x1 x2 x3 x4 x5 x6 x7 sx0 h) (fun f => BX1_goes_at62_119 (J66_ f) x1 x2 x3 x4 x5 x6 x7 sx0 h) :=
  (fct_ite (mJ66 _ _ _ _ _ _ _ _) (fct_bind (fct_rfl _) fun _ => (fct_gd (fct_let fun _ => (mJ66 _ _ _ _ _ _ _ _)))))
noncomputable def BX1_goes_at62_168 (x3 : Int32) (x4 : Int32) (x5 : Int32) (h : ea_H) : Option (Unit × ea_H) :=
  (gd (vp_in x5 70) (if (ea_i h 71 (Int32.toNatClampNeg x5)) ≤ (0 : Int32) then (some ((), h)) else (Option.bind (qX3_sitsIn (x3 : Int32) h) fun w25 => (if w25.1 = (0 : Int32) then (some ((), w25.2)) else (Option.bind (qX1_sort_at62 (x5 : Int32) (x3 : Int32) (x4 : Int32) w25.2) fun w26 => (some ((), w26.2)))))))
theorem tBX1_goes_at62_168 {d : Nat} {h0 : ea_H} (hd : 4 ≤ d)  {x3 : Int32} {x4 : Int32} {x5 : Int32} {h : ea_H} {r : Unit} {h' : ea_H} (E : BX1_goes_at62_168 x3 x4 x5 h = some (r, h')) (hs : ShC h) : ea_W mX1_goes d h0 none h' 168 [(0, vR (some 62)), (3, vI x3), (4, vI x4), (5, vI x5)] [] h := by
  unfold BX1_goes_at62_168 at E
  obtain ⟨z24, E⟩ := gd_some E
  refine ea_aload_n (pc := 168) dX1_goes_168 rfl 0 rfl ?_
  refine ea_getR (pc := 169) dX1_goes_169 ec_1 (k := 9) (Nat.le_of_ble_eq_true rfl) rfl (Or.inl ew_457) (cShC_62 hs).1 (cShC_62 hs).2.1 (rShC_62_9 hs) ?_
  refine ea_iload (pc := 172) dX1_goes_172 3 rfl ?_
  refine ea_iald (pc := 174) dX1_goes_174 (cShC_71 hs).1 (cShC_71 hs).2.1 (ea_vpl (cShC_71 hs).2.2 z24) ?_
  refine ea_if_le (pc := 175) (tgt := 198) dX1_goes_175 rfl (fun c28 => ?_) (fun c28 => ?_)
  · have E := (if_pos c28).symm.trans E
    exact ea_vretO (pc := 198) dX1_goes_198 rfl E
  · have E := (if_neg c28).symm.trans E
    obtain ⟨w25, Ew25, E⟩ := bd_some E
    have hsw25 : ShC w25.2 := ShC_core ((kpX3_sitsIn _ _) _ Ew25) hs
    refine ea_aload_n (pc := 178) dX1_goes_178 rfl 0 rfl ?_
    refine ea_getR (pc := 179) dX1_goes_179 ec_1 (k := 13) (Nat.le_of_ble_eq_true rfl) rfl (Or.inl ew_461) (cShC_62 hs).1 (cShC_62 hs).2.1 (rShC_62_13 hs) ?_
    refine ea_iload_n (pc := 182) dX1_goes_182 rfl 1 rfl ?_
    refine ea_callV (pc := 183) (d' := d - 1) (As := [vI x3]) (st := []) dX1_goes_183 kX3_sitsIn (sX3_sitsIn (d := d - 1) (by omega) hs Ew25) (by omega) rfl (Nat.le_of_ble_eq_true rfl) ew_884 ew_885 ew_886 (ci := 3) rfl (by decide) (cShC_18 hs).1 (cShC_18 hs).2.1 ?_
    refine ea_if_eq (pc := 186) (tgt := 198) dX1_goes_186 rfl (fun c27 => ?_) (fun c27 => ?_)
    · have E := (if_pos c27).symm.trans E
      exact ea_vretO (pc := 198) dX1_goes_198 rfl E
    · have E := (if_neg c27).symm.trans E
      obtain ⟨w26, Ew26, E⟩ := bd_some E
      have hsw26 : ShC w26.2 := ShC_core ((kpX1_sort_at62 _ _ _ _) _ Ew26) hsw25
      refine ea_aload_n (pc := 189) dX1_goes_189 rfl 0 rfl ?_
      refine ea_iload (pc := 190) dX1_goes_190 3 rfl ?_
      refine ea_iload_n (pc := 192) dX1_goes_192 rfl 1 rfl ?_
      refine ea_iload (pc := 193) dX1_goes_193 2 rfl ?_
      refine ea_callV (pc := 195) (d' := d - 1) (As := [vI x5, vI x3, vI x4]) (st := []) dX1_goes_195 kX1_sort (sX1_sort_at62 (d := d - 1) (by omega) hsw25 Ew26) (by omega) rfl (Nat.le_of_ble_eq_true rfl) ew_888 ew_890 ew_13 (ci := 1) rfl (by decide) (cShC_62 hsw25).1 (cShC_62 hsw25).2.1 ?_
      exact ea_vretO (pc := 198) dX1_goes_198 rfl E
theorem kBX1_goes_at62_168  {x3 : Int32} {x4 : Int32} {x5 : Int32} {h : ea_H} : kp (ea_core h) (BX1_goes_at62_168 x3 x4 x5 h) :=
  (kp_gd (kp_ite (kp_ret rfl) (kp_bind (kp_tw (kpX3_sitsIn _ _) rfl) fun w25 hcw25 => (kp_ite (kp_ret hcw25) (kp_bind (kp_tw (kpX1_sort_at62 _ _ _ _) hcw25) fun w26 hcw26 => (kp_ret hcw26))))))
theorem lBX1_goes_at62_168  {x3 : Int32} {x4 : Int32} {x5 : Int32} {h : ea_H} : fle (BX1_goes_at62_168 x3 x4 x5 h) (BX1_goes_at62_168 x3 x4 x5 h) :=
  (fle_rfl _)
theorem nBX1_goes_at62_168  {x3 : Int32} {x4 : Int32} {x5 : Int32} {h : ea_H} : fct (BX1_goes_at62_168 x3 x4 x5 h) (fun f => BX1_goes_at62_168 x3 x4 x5 h) :=
  (fct_rfl _)
noncomputable def gX1_goes_at62 : Nat → (Int32 → Int32 → ea_H → Option (Unit × ea_H)) × (Int32 → Int32 → Int32 → Int32 → Int32 → Int32 → Int32 → ea_H → Option (Unit × ea_H)) × (Int32 → Int32 → Int32 → Int32 → Int32 → Int32 → Int32 → Int32 → ea_H → Option (Unit × ea_H)) × (Int32 → Int32 → Int32 → ea_H → Option (Unit × ea_H))
  | 0 => (fun _ _ _ => none, fun _ _ _ _ _ _ _ _ => none, fun _ _ _ _ _ _ _ _ _ => none, fun _ _ _ _ => none)
  | f + 1 => (BX1_goes_at62_0 (gX1_goes_at62 f).2.1 (gX1_goes_at62 f).2.2.2, BX1_goes_at62_66 (gX1_goes_at62 f).2.2.1 (gX1_goes_at62 f).2.2.2, BX1_goes_at62_119 (gX1_goes_at62 f).2.1, BX1_goes_at62_168)
theorem mgX1_goes_at62 : ∀ f : Nat, (∀ (x1 : Int32) (x2 : Int32) (h : ea_H), fle ((gX1_goes_at62 f).1 x1 x2 h) ((gX1_goes_at62 (f + 1)).1 x1 x2 h)) ∧ (∀ (x1 : Int32) (x2 : Int32) (x3 : Int32) (x4 : Int32) (x5 : Int32) (x6 : Int32) (x7 : Int32) (h : ea_H), fle ((gX1_goes_at62 f).2.1 x1 x2 x3 x4 x5 x6 x7 h) ((gX1_goes_at62 (f + 1)).2.1 x1 x2 x3 x4 x5 x6 x7 h)) ∧ (∀ (x1 : Int32) (x2 : Int32) (x3 : Int32) (x4 : Int32) (x5 : Int32) (x6 : Int32) (x7 : Int32) (sx0 : Int32) (h : ea_H), fle ((gX1_goes_at62 f).2.2.1 x1 x2 x3 x4 x5 x6 x7 sx0 h) ((gX1_goes_at62 (f + 1)).2.2.1 x1 x2 x3 x4 x5 x6 x7 sx0 h)) ∧ (∀ (x3 : Int32) (x4 : Int32) (x5 : Int32) (h : ea_H), fle ((gX1_goes_at62 f).2.2.2 x3 x4 x5 h) ((gX1_goes_at62 (f + 1)).2.2.2 x3 x4 x5 h)) := by
  intro f
  induction f with
  | zero => exact ⟨fun _ _ _ => fle_none _, fun _ _ _ _ _ _ _ _ => fle_none _, fun _ _ _ _ _ _ _ _ _ => fle_none _, fun _ _ _ _ => fle_none _⟩
  | succ f ih => exact ⟨fun _ _ _ => lBX1_goes_at62_0 ih.2.1 ih.2.2.2, fun _ _ _ _ _ _ _ _ => lBX1_goes_at62_66 ih.2.2.1 ih.2.2.2, fun _ _ _ _ _ _ _ _ _ => lBX1_goes_at62_119 ih.2.1, fun _ _ _ _ => lBX1_goes_at62_168⟩
noncomputable def qX1_goes_at62_0 (x1 : Int32) (x2 : Int32) (h : ea_H) : Option (Unit × ea_H) := flim fun f => (gX1_goes_at62 f).1 x1 x2 h
noncomputable def qX1_goes_at62_66 (x1 : Int32) (x2 : Int32) (x3 : Int32) (x4 : Int32) (x5 : Int32) (x6 : Int32) (x7 : Int32) (h : ea_H) : Option (Unit × ea_H) := flim fun f => (gX1_goes_at62 f).2.1 x1 x2 x3 x4 x5 x6 x7 h
noncomputable def qX1_goes_at62_119 (x1 : Int32) (x2 : Int32) (x3 : Int32) (x4 : Int32) (x5 : Int32) (x6 : Int32) (x7 : Int32) (sx0 : Int32) (h : ea_H) : Option (Unit × ea_H) := flim fun f => (gX1_goes_at62 f).2.2.1 x1 x2 x3 x4 x5 x6 x7 sx0 h
noncomputable def qX1_goes_at62_168 (x3 : Int32) (x4 : Int32) (x5 : Int32) (h : ea_H) : Option (Unit × ea_H) := flim fun f => (gX1_goes_at62 f).2.2.2 x3 x4 x5 h
theorem fqX1_goes_at62_0 (x1 : Int32) (x2 : Int32) (h : ea_H) : fct (qX1_goes_at62_0 x1 x2 h) fun f => (gX1_goes_at62 f).1 x1 x2 h := flim_ct fun f => (mgX1_goes_at62 f).1 x1 x2 h
theorem fqX1_goes_at62_66 (x1 : Int32) (x2 : Int32) (x3 : Int32) (x4 : Int32) (x5 : Int32) (x6 : Int32) (x7 : Int32) (h : ea_H) : fct (qX1_goes_at62_66 x1 x2 x3 x4 x5 x6 x7 h) fun f => (gX1_goes_at62 f).2.1 x1 x2 x3 x4 x5 x6 x7 h := flim_ct fun f => (mgX1_goes_at62 f).2.1 x1 x2 x3 x4 x5 x6 x7 h
theorem fqX1_goes_at62_119 (x1 : Int32) (x2 : Int32) (x3 : Int32) (x4 : Int32) (x5 : Int32) (x6 : Int32) (x7 : Int32) (sx0 : Int32) (h : ea_H) : fct (qX1_goes_at62_119 x1 x2 x3 x4 x5 x6 x7 sx0 h) fun f => (gX1_goes_at62 f).2.2.1 x1 x2 x3 x4 x5 x6 x7 sx0 h := flim_ct fun f => (mgX1_goes_at62 f).2.2.1 x1 x2 x3 x4 x5 x6 x7 sx0 h
theorem fqX1_goes_at62_168 (x3 : Int32) (x4 : Int32) (x5 : Int32) (h : ea_H) : fct (qX1_goes_at62_168 x3 x4 x5 h) fun f => (gX1_goes_at62 f).2.2.2 x3 x4 x5 h := flim_ct fun f => (mgX1_goes_at62 f).2.2.2 x3 x4 x5 h
/-- how a block opens -/
theorem uqX1_goes_at62_0 {x1 : Int32} {x2 : Int32} {h : ea_H} {P : Unit × ea_H → Prop} (H : sat (BX1_goes_at62_0 qX1_goes_at62_66 qX1_goes_at62_168 x1 x2 h) P) : sat (qX1_goes_at62_0 x1 x2 h) P := by
  obtain ⟨x, e, hp⟩ := H
  obtain ⟨n, hn⟩ := nBX1_goes_at62_0 fqX1_goes_at62_66 fqX1_goes_at62_168 x e
  exact ⟨x, flim_at (fun f => (mgX1_goes_at62 f).1 x1 x2 h) (f := n + 1) (hn n (Nat.le_refl _)), hp⟩
/-- how a block opens -/
theorem uqX1_goes_at62_66 {x1 : Int32} {x2 : Int32} {x3 : Int32} {x4 : Int32} {x5 : Int32} {x6 : Int32} {x7 : Int32} {h : ea_H} {P : Unit × ea_H → Prop} (H : sat (BX1_goes_at62_66 qX1_goes_at62_119 qX1_goes_at62_168 x1 x2 x3 x4 x5 x6 x7 h) P) : sat (qX1_goes_at62_66 x1 x2 x3 x4 x5 x6 x7 h) P := by
  obtain ⟨x, e, hp⟩ := H
  obtain ⟨n, hn⟩ := nBX1_goes_at62_66 fqX1_goes_at62_119 fqX1_goes_at62_168 x e
  exact ⟨x, flim_at (fun f => (mgX1_goes_at62 f).2.1 x1 x2 x3 x4 x5 x6 x7 h) (f := n + 1) (hn n (Nat.le_refl _)), hp⟩
/-- how a block opens -/
theorem uqX1_goes_at62_119 {x1 : Int32} {x2 : Int32} {x3 : Int32} {x4 : Int32} {x5 : Int32} {x6 : Int32} {x7 : Int32} {sx0 : Int32} {h : ea_H} {P : Unit × ea_H → Prop} (H : sat (BX1_goes_at62_119 qX1_goes_at62_66 x1 x2 x3 x4 x5 x6 x7 sx0 h) P) : sat (qX1_goes_at62_119 x1 x2 x3 x4 x5 x6 x7 sx0 h) P := by
  obtain ⟨x, e, hp⟩ := H
  obtain ⟨n, hn⟩ := nBX1_goes_at62_119 fqX1_goes_at62_66 x e
  exact ⟨x, flim_at (fun f => (mgX1_goes_at62 f).2.2.1 x1 x2 x3 x4 x5 x6 x7 sx0 h) (f := n + 1) (hn n (Nat.le_refl _)), hp⟩
/-- how a block opens -/
theorem uqX1_goes_at62_168 {x3 : Int32} {x4 : Int32} {x5 : Int32} {h : ea_H} {P : Unit × ea_H → Prop} (H : sat (BX1_goes_at62_168 x3 x4 x5 h) P) : sat (qX1_goes_at62_168 x3 x4 x5 h) P := by
  obtain ⟨x, e, hp⟩ := H
  obtain ⟨n, hn⟩ := nBX1_goes_at62_168 x e
  exact ⟨x, flim_at (fun f => (mgX1_goes_at62 f).2.2.2 x3 x4 x5 h) (f := n + 1) (hn n (Nat.le_refl _)), hp⟩
theorem kgX1_goes_at62 : ∀ f : Nat, (∀ (x1 : Int32) (x2 : Int32) (h : ea_H), kp (ea_core h) ((gX1_goes_at62 f).1 x1 x2 h)) ∧ (∀ (x1 : Int32) (x2 : Int32) (x3 : Int32) (x4 : Int32) (x5 : Int32) (x6 : Int32) (x7 : Int32) (h : ea_H), kp (ea_core h) ((gX1_goes_at62 f).2.1 x1 x2 x3 x4 x5 x6 x7 h)) ∧ (∀ (x1 : Int32) (x2 : Int32) (x3 : Int32) (x4 : Int32) (x5 : Int32) (x6 : Int32) (x7 : Int32) (sx0 : Int32) (h : ea_H), kp (ea_core h) ((gX1_goes_at62 f).2.2.1 x1 x2 x3 x4 x5 x6 x7 sx0 h)) ∧ (∀ (x3 : Int32) (x4 : Int32) (x5 : Int32) (h : ea_H), kp (ea_core h) ((gX1_goes_at62 f).2.2.2 x3 x4 x5 h)) := by
  intro f
  induction f with
  | zero => exact ⟨fun _ _ _ => kp_none _, fun _ _ _ _ _ _ _ _ => kp_none _, fun _ _ _ _ _ _ _ _ _ => kp_none _, fun _ _ _ _ => kp_none _⟩
  | succ f ih => exact ⟨fun _ _ _ => kBX1_goes_at62_0 ih.2.1 ih.2.2.2, fun _ _ _ _ _ _ _ _ => kBX1_goes_at62_66 ih.2.2.1 ih.2.2.2, fun _ _ _ _ _ _ _ _ _ => kBX1_goes_at62_119 ih.2.1, fun _ _ _ _ => kBX1_goes_at62_168⟩
theorem tgX1_goes_at62 {d : Nat} {h0 : ea_H} (hd : 4 ≤ d) : ∀ f : Nat, (∀ (x1 : Int32) (x2 : Int32) (h : ea_H) (r : Unit) (h' : ea_H), (gX1_goes_at62 f).1 x1 x2 h = some (r, h') → ShC h → ea_W mX1_goes d h0 none h' 0 [(0, vR (some 62)), (1, vI x1), (2, vI x2)] [] h) ∧ (∀ (x1 : Int32) (x2 : Int32) (x3 : Int32) (x4 : Int32) (x5 : Int32) (x6 : Int32) (x7 : Int32) (h : ea_H) (r : Unit) (h' : ea_H), (gX1_goes_at62 f).2.1 x1 x2 x3 x4 x5 x6 x7 h = some (r, h') → ShC h → ea_W mX1_goes d h0 none h' 66 [(0, vR (some 62)), (1, vI x1), (2, vI x2), (3, vI x3), (4, vI x4), (5, vI x5), (6, vI x6), (7, vI x7)] [] h) ∧ (∀ (x1 : Int32) (x2 : Int32) (x3 : Int32) (x4 : Int32) (x5 : Int32) (x6 : Int32) (x7 : Int32) (sx0 : Int32) (h : ea_H) (r : Unit) (h' : ea_H), (gX1_goes_at62 f).2.2.1 x1 x2 x3 x4 x5 x6 x7 sx0 h = some (r, h') → ShC h → ea_W mX1_goes d h0 none h' 119 [(0, vR (some 62)), (1, vI x1), (2, vI x2), (3, vI x3), (4, vI x4), (5, vI x5), (6, vI x6), (7, vI x7)] [vI sx0] h) ∧ (∀ (x3 : Int32) (x4 : Int32) (x5 : Int32) (h : ea_H) (r : Unit) (h' : ea_H), (gX1_goes_at62 f).2.2.2 x3 x4 x5 h = some (r, h') → ShC h → ea_W mX1_goes d h0 none h' 168 [(0, vR (some 62)), (3, vI x3), (4, vI x4), (5, vI x5)] [] h) := by
  intro f
  induction f with
  | zero => exact ⟨fun _ _ _ _ _ E => no_some E, fun _ _ _ _ _ _ _ _ _ _ E => no_some E, fun _ _ _ _ _ _ _ _ _ _ _ E => no_some E, fun _ _ _ _ _ _ E => no_some E⟩
  | succ f ih => exact ⟨fun _ _ _ _ _ E hs => tBX1_goes_at62_0 hd ih.2.1 ih.2.2.2 E hs, fun _ _ _ _ _ _ _ _ _ _ E hs => tBX1_goes_at62_66 hd ih.2.2.1 ih.2.2.2 E hs, fun _ _ _ _ _ _ _ _ _ _ _ E hs => tBX1_goes_at62_119 hd ih.2.1 E hs, fun _ _ _ _ _ _ E hs => tBX1_goes_at62_168 hd E hs⟩
noncomputable def qX1_goes_at62 (x1 : Int32) (x2 : Int32) (h : ea_H) : Option (Unit × ea_H) := qX1_goes_at62_0 x1 x2 h
theorem sX1_goes_at62 {d : Nat} {x1 : Int32} {x2 : Int32} {h : ea_H} {r : Unit} {h' : ea_H} (hd : 4 ≤ d) (hs : ShC h) (K : qX1_goes_at62 x1 x2 h = some (r, h')) : ea_Met mX1_goes d [vR (some 62), vI x1, vI x2] h none h' := by
  unfold qX1_goes_at62 at K
  obtain ⟨n, hn⟩ := fqX1_goes_at62_0 x1 x2 h _ K
  have W := (tgX1_goes_at62 (d := d) (h0 := h) hd n).1 x1 x2 h _ _ (hn n (Nat.le_refl _)) hs
  exact ea_enter rfl (Nat.le_of_ble_eq_true rfl) W
theorem kpX1_goes_at62 (x1 : Int32) (x2 : Int32) (h : ea_H) : kp (ea_core h) (qX1_goes_at62 x1 x2 h) := fun x e => by
  obtain ⟨n, hn⟩ := fqX1_goes_at62_0 x1 x2 h x e
  exact (kgX1_goes_at62 n).1 x1 x2 h x (hn n (Nat.le_refl _))
noncomputable def BX6_readRule_0 (J46 : Option Nat → Int32 → Int32 → ea_H → Option (Int32 × ea_H)) (r1 : Option Nat) (h : ea_H) : Option (Int32 × ea_H) :=
  (Option.bind (qX6_step  h) fun w1 => (if (ea_i w1.2 24 7) = (18 : Int32) then (Option.bind (qX6_value  w1.2) fun w2 => (if (ea_i h 24 7) = (2 : Int32) then (if w2.1 ≤ (99 : Int32) then (J46 (r1 : Option Nat) ((ea_i h 24 7) : Int32) (w2.1 : Int32) w2.2) else (Option.bind (qX6_refuse (2 : Int32) w2.2) fun w3 => (gd ((w3.1 = 0 ∨ w3.1 = 1)) (some (w3.1, w3.2))))) else (J46 (r1 : Option Nat) ((ea_i h 24 7) : Int32) (w2.1 : Int32) w2.2))) else (Option.bind (qX6_refuse (1 : Int32) w1.2) fun w7 => (gd ((w7.1 = 0 ∨ w7.1 = 1)) (some (w7.1, w7.2))))))
theorem tBX6_readRule_0 {d : Nat} {h0 : ea_H} (hd : 4 ≤ d) {J46 : Option Nat → Int32 → Int32 → ea_H → Option (Int32 × ea_H)}  (kJ46 : ∀ (r1 : Option Nat) (x2 : Int32) (x3 : Int32) (h : ea_H) (r : Int32) (h' : ea_H), J46 r1 x2 x3 h = some (r, h') → ShC h → ea_W mX6_readRule d h0 (some (vI r)) h' 46 [(0, vR (some 24)), (1, vR r1), (2, vI x2), (3, vI x3)] [] h) {r1 : Option Nat} {h : ea_H} {r : Int32} {h' : ea_H} (E : BX6_readRule_0 J46 r1 h = some (r, h')) (hs : ShC h) : ea_W mX6_readRule d h0 (some (vI r)) h' 0 [(0, vR (some 24)), (1, vR r1)] [] h := by
  unfold BX6_readRule_0 at E
  obtain ⟨w1, Ew1, E⟩ := bd_some E
  have hsw1 : ShC w1.2 := ShC_core ((kpX6_step _) _ Ew1) hs
  refine ea_aload_n (pc := 0) dX6_readRule_0 rfl 0 rfl ?_
  refine ea_getI (pc := 1) dX6_readRule_1 ec_6 (k := 7) (Nat.le_of_ble_eq_true rfl) rfl (Or.inl ew_304) (cShC_24 hs).1 (cShC_24 hs).2.1 ?_
  refine ea_istore_n (pc := 4) (lv' := [(0, vR (some 24)), (1, vR r1), (2, vI (ea_i h 24 7))]) dX6_readRule_4 rfl (Nat.le_of_ble_eq_true rfl) [1, 2, 0] rfl ?_
  refine ea_aload_n (pc := 5) dX6_readRule_5 rfl 0 rfl ?_
  refine ea_callV (pc := 6) (d' := d - 1) (As := []) (st := []) dX6_readRule_6 kX6_step (sX6_step (d := d - 1) (by omega) hs Ew1) (by omega) rfl (Nat.le_of_ble_eq_true rfl) ew_996 ew_998 ew_21 (ci := 6) rfl (by decide) (cShC_24 hs).1 (cShC_24 hs).2.1 ?_
  refine ea_aload_n (pc := 9) dX6_readRule_9 rfl 0 rfl ?_
  refine ea_getI (pc := 10) dX6_readRule_10 ec_6 (k := 7) (Nat.le_of_ble_eq_true rfl) rfl (Or.inl ew_304) (cShC_24 hsw1).1 (cShC_24 hsw1).2.1 ?_
  refine ea_bipush (pc := 13) dX6_readRule_13 (v := 18) rfl ?_
  refine ea_icmp_eq (pc := 15) (tgt := 24) dX6_readRule_15 rfl (fun c9 => ?_) (fun c9 => ?_)
  · have E := (if_pos c9).symm.trans E
    obtain ⟨w2, Ew2, E⟩ := bd_some E
    have hsw2 : ShC w2.2 := ShC_core ((kpX6_value _) _ Ew2) hsw1
    refine ea_aload_n (pc := 24) dX6_readRule_24 rfl 0 rfl ?_
    refine ea_callV (pc := 25) (d' := d - 1) (As := []) (st := []) dX6_readRule_25 kX6_value (sX6_value (d := d - 1) (by omega) hsw1 Ew2) (by omega) rfl (Nat.le_of_ble_eq_true rfl) ew_1012 ew_1014 ew_25 (ci := 6) rfl (by decide) (cShC_24 hsw1).1 (cShC_24 hsw1).2.1 ?_
    refine ea_istore_n (pc := 28) (lv' := [(0, vR (some 24)), (1, vR r1), (2, vI (ea_i h 24 7)), (3, vI w2.1)]) dX6_readRule_28 rfl (Nat.le_of_ble_eq_true rfl) [1, 2, 3, 0] rfl ?_
    refine ea_iload_n (pc := 29) dX6_readRule_29 rfl 2 rfl ?_
    refine ea_iconst (pc := 30) dX6_readRule_30 (v := 2) rfl ?_
    refine ea_icmp_ne (pc := 31) (tgt := 46) dX6_readRule_31 rfl (fun c6 => ?_) (fun c6 => ?_)
    · have E := (if_neg c6).symm.trans E
      exact (kJ46 (r1 : Option Nat) ((ea_i h 24 7) : Int32) (w2.1 : Int32) w2.2 _ _ E hsw2)
    · have E := (if_pos c6).symm.trans E
      refine ea_iload_n (pc := 34) dX6_readRule_34 rfl 3 rfl ?_
      refine ea_bipush (pc := 35) dX6_readRule_35 (v := 99) rfl ?_
      refine ea_icmp_le (pc := 37) (tgt := 46) dX6_readRule_37 rfl (fun c5 => ?_) (fun c5 => ?_)
      · have E := (if_pos c5).symm.trans E
        exact (kJ46 (r1 : Option Nat) ((ea_i h 24 7) : Int32) (w2.1 : Int32) w2.2 _ _ E hsw2)
      · have E := (if_neg c5).symm.trans E
        obtain ⟨w3, Ew3, E⟩ := bd_some E
        have hsw3 : ShC w3.2 := ShC_core ((kpX6_refuse _ _) _ Ew3) hsw2
        refine ea_aload_n (pc := 40) dX6_readRule_40 rfl 0 rfl ?_
        refine ea_iconst (pc := 41) dX6_readRule_41 (v := 2) rfl ?_
        refine ea_callV (pc := 42) (d' := d - 1) (As := [vI 2]) (st := []) dX6_readRule_42 kX6_refuse (sX6_refuse (d := d - 1) (by omega) hsw2 Ew3) (by omega) rfl (Nat.le_of_ble_eq_true rfl) ew_988 ew_990 ew_19 (ci := 6) rfl (by decide) (cShC_24 hsw2).1 (cShC_24 hsw2).2.1 ?_
        obtain ⟨z4, E⟩ := gd_some E
        exact ea_iretO (pc := 45) dX6_readRule_45 rfl (ea_bn z4) E
  · have E := (if_neg c9).symm.trans E
    obtain ⟨w7, Ew7, E⟩ := bd_some E
    have hsw7 : ShC w7.2 := ShC_core ((kpX6_refuse _ _) _ Ew7) hsw1
    refine ea_aload_n (pc := 18) dX6_readRule_18 rfl 0 rfl ?_
    refine ea_iconst (pc := 19) dX6_readRule_19 (v := 1) rfl ?_
    refine ea_callV (pc := 20) (d' := d - 1) (As := [vI 1]) (st := []) dX6_readRule_20 kX6_refuse (sX6_refuse (d := d - 1) (by omega) hsw1 Ew7) (by omega) rfl (Nat.le_of_ble_eq_true rfl) ew_988 ew_990 ew_19 (ci := 6) rfl (by decide) (cShC_24 hsw1).1 (cShC_24 hsw1).2.1 ?_
    obtain ⟨z8, E⟩ := gd_some E
    exact ea_iretO (pc := 23) dX6_readRule_23 rfl (ea_bn z8) E
theorem kBX6_readRule_0 {J46 : Option Nat → Int32 → Int32 → ea_H → Option (Int32 × ea_H)}  (cJ46 : ∀ (r1 : Option Nat) (x2 : Int32) (x3 : Int32) (h : ea_H), kp (ea_core h) (J46 r1 x2 x3 h)) {r1 : Option Nat} {h : ea_H} : kp (ea_core h) (BX6_readRule_0 J46 r1 h) :=
  (kp_bind (kp_tw (kpX6_step _) rfl) fun w1 hcw1 => (kp_ite (kp_bind (kp_tw (kpX6_value _) hcw1) fun w2 hcw2 => (kp_ite (kp_ite (kp_tw (cJ46 _ _ _ _) hcw2) (kp_bind (kp_tw (kpX6_refuse _ _) hcw2) fun w3 hcw3 => (kp_gd (kp_ret hcw3)))) (kp_tw (cJ46 _ _ _ _) hcw2))) (kp_bind (kp_tw (kpX6_refuse _ _) hcw1) fun w7 hcw7 => (kp_gd (kp_ret hcw7)))))
theorem lBX6_readRule_0 {J46 : Option Nat → Int32 → Int32 → ea_H → Option (Int32 × ea_H)} {J46_ : Option Nat → Int32 → Int32 → ea_H → Option (Int32 × ea_H)}  (mJ46 : ∀ (r1 : Option Nat) (x2 : Int32) (x3 : Int32) (h : ea_H), fle (J46 r1 x2 x3 h) (J46_ r1 x2 x3 h)) {r1 : Option Nat} {h : ea_H} : fle (BX6_readRule_0 J46 r1 h) (BX6_readRule_0 J46_ r1 h) :=
  (fle_bind (fle_rfl _) fun _ => (fle_ite (fle_bind (fle_rfl _) fun _ => (fle_ite (fle_ite (mJ46 _ _ _ _) (fle_rfl _)) (mJ46 _ _ _ _))) (fle_rfl _)))
theorem nBX6_readRule_0 {J46 : Option Nat → Int32 → Int32 → ea_H → Option (Int32 × ea_H)} {J46_ : Nat → (Option Nat → Int32 → Int32 → ea_H → Option (Int32 × ea_H))}  (mJ46 : ∀ (r1 : Option Nat) (x2 : Int32) (x3 : Int32) (h : ea_H), fct (J46 r1 x2 x3 h) (fun f => J46_ f r1 x2 x3 h)) {r1 : Option Nat} {h : ea_H} : fct (BX6_readRule_0 J46 r1 h) (fun f => BX6_readRule_0 (J46_ f) r1 h) :=
  (fct_bind (fct_rfl _) fun _ => (fct_ite (fct_bind (fct_rfl _) fun _ => (fct_ite (fct_ite (mJ46 _ _ _ _) (fct_rfl _)) (mJ46 _ _ _ _))) (fct_rfl _)))
noncomputable def BX6_readRule_46 (r1 : Option Nat) (x2 : Int32) (x3 : Int32) (h : ea_H) : Option (Int32 × ea_H) :=
  (Option.bind (qX6_step  h) fun w10 => (if Int32.toInt x2 = 1 then (Option.bind (qX6_readAfter (r1 : Option Nat) (x3 : Int32) w10.2) fun w23 => (gd ((w23.1 = 0 ∨ w23.1 = 1)) (some (w23.1, w23.2)))) else (if Int32.toInt x2 = 2 then (gd (r1 = some (Option.getD r1 0)) (gd (((Option.getD r1 0) < ea_n w10.2 ∧ ea_c w10.2 (Option.getD r1 0) = 0)) (ea_let (ea_wi w10.2 (Option.getD r1 0) 4 x3) fun H22 => (some ((1 : Int32), H22))))) else (if Int32.toInt x2 = 3 then (gd (r1 = some (Option.getD r1 0)) (gd (((Option.getD r1 0) < ea_n w10.2 ∧ ea_c w10.2 (Option.getD r1 0) = 0)) (ea_let (ea_wi w10.2 (Option.getD r1 0) 5 x3) fun H19 => (some ((1 : Int32), H19))))) else (if Int32.toInt x2 = 4 then (gd (r1 = some (Option.getD r1 0)) (gd (((Option.getD r1 0) < ea_n w10.2 ∧ ea_c w10.2 (Option.getD r1 0) = 0)) (ea_let (ea_wi w10.2 (Option.getD r1 0) 6 x3) fun H16 => (some ((1 : Int32), H16))))) else (gd (r1 = some (Option.getD r1 0)) (gd (((Option.getD r1 0) < ea_n w10.2 ∧ ea_c w10.2 (Option.getD r1 0) = 0)) (ea_let (ea_wi w10.2 (Option.getD r1 0) 7 x3) fun H13 => (some ((1 : Int32), H13))))))))))
theorem tBX6_readRule_46 {d : Nat} {h0 : ea_H} (hd : 4 ≤ d)  {r1 : Option Nat} {x2 : Int32} {x3 : Int32} {h : ea_H} {r : Int32} {h' : ea_H} (E : BX6_readRule_46 r1 x2 x3 h = some (r, h')) (hs : ShC h) : ea_W mX6_readRule d h0 (some (vI r)) h' 46 [(0, vR (some 24)), (1, vR r1), (2, vI x2), (3, vI x3)] [] h := by
  unfold BX6_readRule_46 at E
  obtain ⟨w10, Ew10, E⟩ := bd_some E
  have hsw10 : ShC w10.2 := ShC_core ((kpX6_step _) _ Ew10) hs
  refine ea_aload_n (pc := 46) dX6_readRule_46 rfl 0 rfl ?_
  refine ea_callV (pc := 47) (d' := d - 1) (As := []) (st := []) dX6_readRule_47 kX6_step (sX6_step (d := d - 1) (by omega) hs Ew10) (by omega) rfl (Nat.le_of_ble_eq_true rfl) ew_996 ew_998 ew_21 (ci := 6) rfl (by decide) (cShC_24 hs).1 (cShC_24 hs).2.1 ?_
  refine ea_iload_n (pc := 50) dX6_readRule_50 rfl 2 rfl ?_
  by_cases q51_0 : Int32.toInt x2 = 1
  · have E := (if_pos q51_0).symm.trans E
    obtain ⟨w23, Ew23, E⟩ := bd_some E
    have hsw23 : ShC w23.2 := ShC_core ((kpX6_readAfter _ _ _) _ Ew23) hsw10
    refine ea_tswIn (pc := 51) (tgt := 80) dX6_readRule_51 (by rw [q51_0]; decide) (by rw [q51_0]; decide) (by rw [q51_0]; rfl) rfl ?_
    refine ea_aload_n (pc := 80) dX6_readRule_80 rfl 0 rfl ?_
    refine ea_aload_n (pc := 81) dX6_readRule_81 rfl 1 rfl ?_
    refine ea_iload_n (pc := 82) dX6_readRule_82 rfl 3 rfl ?_
    refine ea_callV (pc := 83) (d' := d - 1) (As := [vR r1, vI x3]) (st := []) dX6_readRule_83 kX6_readAfter (sX6_readAfter (d := d - 1) (by omega) hsw10 Ew23) (by omega) rfl (Nat.le_of_ble_eq_true rfl) ew_1037 ew_1039 ew_31 (ci := 6) rfl (by decide) (cShC_24 hsw10).1 (cShC_24 hsw10).2.1 ?_
    obtain ⟨z24, E⟩ := gd_some E
    exact ea_iretO (pc := 86) dX6_readRule_86 rfl (ea_bn z24) E
  have E := (if_neg q51_0).symm.trans E
  by_cases q51_1 : Int32.toInt x2 = 2
  · have E := (if_pos q51_1).symm.trans E
    obtain ⟨e20, E⟩ := gd_some E
    refine ea_tswIn (pc := 51) (tgt := 87) dX6_readRule_51 (by rw [q51_1]; decide) (by rw [q51_1]; decide) (by rw [q51_1]; rfl) rfl ?_
    refine ea_aload_n (pc := 87) dX6_readRule_87 rfl 1 rfl ?_
    refine ea_iload_n (pc := 88) dX6_readRule_88 rfl 3 rfl ?_
    obtain ⟨f21, E⟩ := gd_some E
    obtain ⟨H22, eH22, E⟩ := let_some E
    refine ea_deref1 e20 ?_
    refine ea_putI (pc := 89) dX6_readRule_89 ec_0 (k := 4) (Nat.le_of_ble_eq_true rfl) rfl (Or.inl ⟨rfl, Or.inl ew_349⟩) rfl rfl f21.1 f21.2 ?_
    refine ea_nm eH22 ?_
    have hsH22 : ShC H22 := by rw [eH22]; exact hsw10
    refine ea_goto (pc := 92) (tgt := 116) dX6_readRule_92 rfl ?_
    refine ea_iconst (pc := 116) dX6_readRule_116 (v := 1) rfl ?_
    exact ea_iretO (pc := 117) dX6_readRule_117 rfl (ea_bn (Or.inr rfl)) E
  have E := (if_neg q51_1).symm.trans E
  by_cases q51_2 : Int32.toInt x2 = 3
  · have E := (if_pos q51_2).symm.trans E
    obtain ⟨e17, E⟩ := gd_some E
    refine ea_tswIn (pc := 51) (tgt := 95) dX6_readRule_51 (by rw [q51_2]; decide) (by rw [q51_2]; decide) (by rw [q51_2]; rfl) rfl ?_
    refine ea_aload_n (pc := 95) dX6_readRule_95 rfl 1 rfl ?_
    refine ea_iload_n (pc := 96) dX6_readRule_96 rfl 3 rfl ?_
    obtain ⟨f18, E⟩ := gd_some E
    obtain ⟨H19, eH19, E⟩ := let_some E
    refine ea_deref1 e17 ?_
    refine ea_putI (pc := 97) dX6_readRule_97 ec_0 (k := 5) (Nat.le_of_ble_eq_true rfl) rfl (Or.inl ⟨rfl, Or.inl ew_353⟩) rfl rfl f18.1 f18.2 ?_
    refine ea_nm eH19 ?_
    have hsH19 : ShC H19 := by rw [eH19]; exact hsw10
    refine ea_goto (pc := 100) (tgt := 116) dX6_readRule_100 rfl ?_
    refine ea_iconst (pc := 116) dX6_readRule_116 (v := 1) rfl ?_
    exact ea_iretO (pc := 117) dX6_readRule_117 rfl (ea_bn (Or.inr rfl)) E
  have E := (if_neg q51_2).symm.trans E
  by_cases q51_3 : Int32.toInt x2 = 4
  · have E := (if_pos q51_3).symm.trans E
    obtain ⟨e14, E⟩ := gd_some E
    refine ea_tswIn (pc := 51) (tgt := 103) dX6_readRule_51 (by rw [q51_3]; decide) (by rw [q51_3]; decide) (by rw [q51_3]; rfl) rfl ?_
    refine ea_aload_n (pc := 103) dX6_readRule_103 rfl 1 rfl ?_
    refine ea_iload_n (pc := 104) dX6_readRule_104 rfl 3 rfl ?_
    obtain ⟨f15, E⟩ := gd_some E
    obtain ⟨H16, eH16, E⟩ := let_some E
    refine ea_deref1 e14 ?_
    refine ea_putI (pc := 105) dX6_readRule_105 ec_0 (k := 6) (Nat.le_of_ble_eq_true rfl) rfl (Or.inl ⟨rfl, Or.inl ew_357⟩) rfl rfl f15.1 f15.2 ?_
    refine ea_nm eH16 ?_
    have hsH16 : ShC H16 := by rw [eH16]; exact hsw10
    refine ea_goto (pc := 108) (tgt := 116) dX6_readRule_108 rfl ?_
    refine ea_iconst (pc := 116) dX6_readRule_116 (v := 1) rfl ?_
    exact ea_iretO (pc := 117) dX6_readRule_117 rfl (ea_bn (Or.inr rfl)) E
  have E := (if_neg q51_3).symm.trans E
  obtain ⟨e11, E⟩ := gd_some E
  refine ea_tswOut (pc := 51) (tgt := 111) dX6_readRule_51 (ea_sw_1_4 q51_0 q51_1 q51_2 q51_3) rfl ?_
  refine ea_aload_n (pc := 111) dX6_readRule_111 rfl 1 rfl ?_
  refine ea_iload_n (pc := 112) dX6_readRule_112 rfl 3 rfl ?_
  obtain ⟨f12, E⟩ := gd_some E
  obtain ⟨H13, eH13, E⟩ := let_some E
  refine ea_deref1 e11 ?_
  refine ea_putI (pc := 113) dX6_readRule_113 ec_0 (k := 7) (Nat.le_of_ble_eq_true rfl) rfl (Or.inl ⟨rfl, Or.inl ew_361⟩) rfl rfl f12.1 f12.2 ?_
  refine ea_nm eH13 ?_
  have hsH13 : ShC H13 := by rw [eH13]; exact hsw10
  refine ea_iconst (pc := 116) dX6_readRule_116 (v := 1) rfl ?_
  exact ea_iretO (pc := 117) dX6_readRule_117 rfl (ea_bn (Or.inr rfl)) E
theorem kBX6_readRule_46  {r1 : Option Nat} {x2 : Int32} {x3 : Int32} {h : ea_H} : kp (ea_core h) (BX6_readRule_46 r1 x2 x3 h) :=
  (kp_bind (kp_tw (kpX6_step _) rfl) fun w10 hcw10 => (kp_ite (kp_bind (kp_tw (kpX6_readAfter _ _ _) hcw10) fun w23 hcw23 => (kp_gd (kp_ret hcw23))) (kp_ite (kp_gd (kp_gd (kp_let (kp_ret hcw10)))) (kp_ite (kp_gd (kp_gd (kp_let (kp_ret hcw10)))) (kp_ite (kp_gd (kp_gd (kp_let (kp_ret hcw10)))) (kp_gd (kp_gd (kp_let (kp_ret hcw10)))))))))
theorem lBX6_readRule_46  {r1 : Option Nat} {x2 : Int32} {x3 : Int32} {h : ea_H} : fle (BX6_readRule_46 r1 x2 x3 h) (BX6_readRule_46 r1 x2 x3 h) :=
  (fle_rfl _)
theorem nBX6_readRule_46  {r1 : Option Nat} {x2 : Int32} {x3 : Int32} {h : ea_H} : fct (BX6_readRule_46 r1 x2 x3 h) (fun f => BX6_readRule_46 r1 x2 x3 h) :=
  (fct_rfl _)
noncomputable def gX6_readRule : Nat → (Option Nat → ea_H → Option (Int32 × ea_H)) × (Option Nat → Int32 → Int32 → ea_H → Option (Int32 × ea_H))
  | 0 => (fun _ _ => none, fun _ _ _ _ => none)
  | f + 1 => (BX6_readRule_0 (gX6_readRule f).2, BX6_readRule_46)
theorem mgX6_readRule : ∀ f : Nat, (∀ (r1 : Option Nat) (h : ea_H), fle ((gX6_readRule f).1 r1 h) ((gX6_readRule (f + 1)).1 r1 h)) ∧ (∀ (r1 : Option Nat) (x2 : Int32) (x3 : Int32) (h : ea_H), fle ((gX6_readRule f).2 r1 x2 x3 h) ((gX6_readRule (f + 1)).2 r1 x2 x3 h)) := by
  intro f
  induction f with
  | zero => exact ⟨fun _ _ => fle_none _, fun _ _ _ _ => fle_none _⟩
  | succ f ih => exact ⟨fun _ _ => lBX6_readRule_0 ih.2, fun _ _ _ _ => lBX6_readRule_46⟩
noncomputable def qX6_readRule_0 (r1 : Option Nat) (h : ea_H) : Option (Int32 × ea_H) := flim fun f => (gX6_readRule f).1 r1 h
noncomputable def qX6_readRule_46 (r1 : Option Nat) (x2 : Int32) (x3 : Int32) (h : ea_H) : Option (Int32 × ea_H) := flim fun f => (gX6_readRule f).2 r1 x2 x3 h
theorem fqX6_readRule_0 (r1 : Option Nat) (h : ea_H) : fct (qX6_readRule_0 r1 h) fun f => (gX6_readRule f).1 r1 h := flim_ct fun f => (mgX6_readRule f).1 r1 h
theorem fqX6_readRule_46 (r1 : Option Nat) (x2 : Int32) (x3 : Int32) (h : ea_H) : fct (qX6_readRule_46 r1 x2 x3 h) fun f => (gX6_readRule f).2 r1 x2 x3 h := flim_ct fun f => (mgX6_readRule f).2 r1 x2 x3 h
/-- how a block opens -/
theorem uqX6_readRule_0 {r1 : Option Nat} {h : ea_H} {P : Int32 × ea_H → Prop} (H : sat (BX6_readRule_0 qX6_readRule_46 r1 h) P) : sat (qX6_readRule_0 r1 h) P := by
  obtain ⟨x, e, hp⟩ := H
  obtain ⟨n, hn⟩ := nBX6_readRule_0 fqX6_readRule_46 x e
  exact ⟨x, flim_at (fun f => (mgX6_readRule f).1 r1 h) (f := n + 1) (hn n (Nat.le_refl _)), hp⟩
/-- how a block opens -/
theorem uqX6_readRule_46 {r1 : Option Nat} {x2 : Int32} {x3 : Int32} {h : ea_H} {P : Int32 × ea_H → Prop} (H : sat (BX6_readRule_46 r1 x2 x3 h) P) : sat (qX6_readRule_46 r1 x2 x3 h) P := by
  obtain ⟨x, e, hp⟩ := H
  obtain ⟨n, hn⟩ := nBX6_readRule_46 x e
  exact ⟨x, flim_at (fun f => (mgX6_readRule f).2 r1 x2 x3 h) (f := n + 1) (hn n (Nat.le_refl _)), hp⟩
theorem kgX6_readRule : ∀ f : Nat, (∀ (r1 : Option Nat) (h : ea_H), kp (ea_core h) ((gX6_readRule f).1 r1 h)) ∧ (∀ (r1 : Option Nat) (x2 : Int32) (x3 : Int32) (h : ea_H), kp (ea_core h) ((gX6_readRule f).2 r1 x2 x3 h)) := by
  intro f
  induction f with
  | zero => exact ⟨fun _ _ => kp_none _, fun _ _ _ _ => kp_none _⟩
  | succ f ih => exact ⟨fun _ _ => kBX6_readRule_0 ih.2, fun _ _ _ _ => kBX6_readRule_46⟩
theorem tgX6_readRule {d : Nat} {h0 : ea_H} (hd : 4 ≤ d) : ∀ f : Nat, (∀ (r1 : Option Nat) (h : ea_H) (r : Int32) (h' : ea_H), (gX6_readRule f).1 r1 h = some (r, h') → ShC h → ea_W mX6_readRule d h0 (some (vI r)) h' 0 [(0, vR (some 24)), (1, vR r1)] [] h) ∧ (∀ (r1 : Option Nat) (x2 : Int32) (x3 : Int32) (h : ea_H) (r : Int32) (h' : ea_H), (gX6_readRule f).2 r1 x2 x3 h = some (r, h') → ShC h → ea_W mX6_readRule d h0 (some (vI r)) h' 46 [(0, vR (some 24)), (1, vR r1), (2, vI x2), (3, vI x3)] [] h) := by
  intro f
  induction f with
  | zero => exact ⟨fun _ _ _ _ E => no_some E, fun _ _ _ _ _ _ E => no_some E⟩
  | succ f ih => exact ⟨fun _ _ _ _ E hs => tBX6_readRule_0 hd ih.2 E hs, fun _ _ _ _ _ _ E hs => tBX6_readRule_46 hd E hs⟩
noncomputable def qX6_readRule (r1 : Option Nat) (h : ea_H) : Option (Int32 × ea_H) := qX6_readRule_0 r1 h
theorem sX6_readRule {d : Nat} {r1 : Option Nat} {h : ea_H} {r : Int32} {h' : ea_H} (hd : 4 ≤ d) (hs : ShC h) (K : qX6_readRule r1 h = some (r, h')) : ea_Met mX6_readRule d [vR (some 24), vR r1] h (some (vI r)) h' := by
  unfold qX6_readRule at K
  obtain ⟨n, hn⟩ := fqX6_readRule_0 r1 h _ K
  have W := (tgX6_readRule (d := d) (h0 := h) hd n).1 r1 h _ _ (hn n (Nat.le_refl _)) hs
  exact ea_enter rfl (Nat.le_of_ble_eq_true rfl) W
theorem kpX6_readRule (r1 : Option Nat) (h : ea_H) : kp (ea_core h) (qX6_readRule r1 h) := fun x e => by
  obtain ⟨n, hn⟩ := fqX6_readRule_0 r1 h x e
  exact (kgX6_readRule n).1 r1 h x (hn n (Nat.le_refl _))
noncomputable def BX8_chargeBy_0 (J46 : Option Nat → Option Nat → Int32 → ea_H → Option (Int32 × ea_H)) (r1 : Option Nat) (r2 : Option Nat) (h : ea_H) : Option (Int32 × ea_H) :=
  (Option.bind (qX8_isFree (r1 : Option Nat) (r2 : Option Nat) h) fun w1 => (if w1.1 = (0 : Int32) then (Option.bind (qX8_lineFor (r1 : Option Nat) (r2 : Option Nat) w1.2) fun w2 => (if w2.1 = ((-1) : Int32) then (J46 (r1 : Option Nat) (r2 : Option Nat) (0 : Int32) w2.2) else (gd (r1 = some (Option.getD r1 0)) (gd (((Option.getD r1 0) < ea_n w2.2 ∧ ea_c w2.2 (Option.getD r1 0) = 0)) (gd ((ea_r w2.2 (Option.getD r1 0) 9) = some (Option.getD (ea_r w2.2 (Option.getD r1 0) 9) 0)) (gd (((Option.getD (ea_r w2.2 (Option.getD r1 0) 9) 0) < ea_n w2.2 ∧ ea_c w2.2 (Option.getD (ea_r w2.2 (Option.getD r1 0) 9) 0) = 20)) (gd (vp_in w2.1 (ea_l w2.2 (Option.getD (ea_r w2.2 (Option.getD r1 0) 9) 0))) (Option.bind (qX8_worth ((ea_i w2.2 (Option.getD (ea_r w2.2 (Option.getD r1 0) 9) 0) (Int32.toNatClampNeg w2.1)) : Int32) w2.2) fun w8 => (ea_let (if (99999 : Int32) < (if w8.1 < (0 : Int32) then (0 : Int32) else w8.1) then (99999 : Int32) else (if w8.1 < (0 : Int32) then (0 : Int32) else w8.1)) fun (v9 : Int32) => (J46 (r1 : Option Nat) (r2 : Option Nat) (v9 : Int32) w8.2)))))))))) else (some ((0 : Int32), w1.2))))
theorem tBX8_chargeBy_0 {d : Nat} {h0 : ea_H} (hd : 4 ≤ d) {J46 : Option Nat → Option Nat → Int32 → ea_H → Option (Int32 × ea_H)}  (kJ46 : ∀ (r1 : Option Nat) (r2 : Option Nat) (x4 : Int32) (h : ea_H) (r : Int32) (h' : ea_H), J46 r1 r2 x4 h = some (r, h') → ShC h → ea_W mX8_chargeBy d h0 (some (vI r)) h' 46 [(1, vR r1), (2, vR r2), (4, vI x4)] [] h) {r1 : Option Nat} {r2 : Option Nat} {h : ea_H} {r : Int32} {h' : ea_H} (E : BX8_chargeBy_0 J46 r1 r2 h = some (r, h')) (hs : ShC h) : ea_W mX8_chargeBy d h0 (some (vI r)) h' 0 [(0, vR (some 23)), (1, vR r1), (2, vR r2)] [] h := by
  unfold BX8_chargeBy_0 at E
  obtain ⟨w1, Ew1, E⟩ := bd_some E
  have hsw1 : ShC w1.2 := ShC_core ((kpX8_isFree _ _ _) _ Ew1) hs
  refine ea_aload_n (pc := 0) dX8_chargeBy_0 rfl 1 rfl ?_
  refine ea_aload_n (pc := 1) dX8_chargeBy_1 rfl 2 rfl ?_
  refine ea_callS (pc := 2) (d' := d - 1) (As := [vR r1, vR r2]) (st := []) dX8_chargeBy_2 kX8_isFree (sX8_isFree (d := d - 1) (by omega) Ew1) (by omega) rfl (Nat.le_of_ble_eq_true rfl) ew_1093 ew_1094 ?_
  refine ea_if_eq (pc := 5) (tgt := 10) dX8_chargeBy_5 rfl (fun c11 => ?_) (fun c11 => ?_)
  · have E := (if_pos c11).symm.trans E
    obtain ⟨w2, Ew2, E⟩ := bd_some E
    have hsw2 : ShC w2.2 := ShC_core ((kpX8_lineFor _ _ _) _ Ew2) hsw1
    refine ea_aload_n (pc := 10) dX8_chargeBy_10 rfl 0 rfl ?_
    refine ea_aload_n (pc := 11) dX8_chargeBy_11 rfl 1 rfl ?_
    refine ea_aload_n (pc := 12) dX8_chargeBy_12 rfl 2 rfl ?_
    refine ea_callV (pc := 13) (d' := d - 1) (As := [vR r1, vR r2]) (st := []) dX8_chargeBy_13 kX8_lineFor (sX8_lineFor (d := d - 1) (by omega) hsw1 Ew2) (by omega) rfl (Nat.le_of_ble_eq_true rfl) ew_1100 ew_1102 ew_34 (ci := 8) rfl (by decide) (cShC_23 hsw1).1 (cShC_23 hsw1).2.1 ?_
    refine ea_istore_n (pc := 16) (lv' := [(0, vR (some 23)), (1, vR r1), (2, vR r2), (3, vI w2.1)]) dX8_chargeBy_16 rfl (Nat.le_of_ble_eq_true rfl) [1, 2, 3, 0] rfl ?_
    refine ea_iconst (pc := 17) dX8_chargeBy_17 (v := 0) rfl ?_
    refine ea_istore (pc := 18) (lv' := [(0, vR (some 23)), (1, vR r1), (2, vR r2), (3, vI w2.1), (4, vI 0)]) dX8_chargeBy_18 (Nat.le_of_ble_eq_true rfl) [1, 2, 3, 4, 0] rfl ?_
    refine ea_iload_n (pc := 20) dX8_chargeBy_20 rfl 3 rfl ?_
    refine ea_iconst (pc := 21) dX8_chargeBy_21 (v := (-1)) rfl ?_
    refine ea_icmp_eq (pc := 22) (tgt := 46) dX8_chargeBy_22 rfl (fun c10 => ?_) (fun c10 => ?_)
    · have E := (if_pos c10).symm.trans E
      exact ea_fewer [1, 2, 4] rfl (kJ46 (r1 : Option Nat) (r2 : Option Nat) (0 : Int32) w2.2 _ _ E hsw2)
    · have E := (if_neg c10).symm.trans E
      obtain ⟨e3, E⟩ := gd_some E
      refine ea_aload_n (pc := 25) dX8_chargeBy_25 rfl 0 rfl ?_
      refine ea_aload_n (pc := 26) dX8_chargeBy_26 rfl 1 rfl ?_
      obtain ⟨f4, E⟩ := gd_some E
      obtain ⟨e5, E⟩ := gd_some E
      refine ea_deref0 e3 ?_
      refine ea_getR (pc := 27) dX8_chargeBy_27 ec_0 (k := 9) (Nat.le_of_ble_eq_true rfl) rfl (Or.inl ew_369) f4.1 f4.2 rfl ?_
      refine ea_iload_n (pc := 30) dX8_chargeBy_30 rfl 3 rfl ?_
      obtain ⟨f6, E⟩ := gd_some E
      obtain ⟨z7, E⟩ := gd_some E
      obtain ⟨w8, Ew8, E⟩ := bd_some E
      have hsw8 : ShC w8.2 := ShC_core ((kpX8_worth _ _) _ Ew8) hsw2
      refine ea_deref1 e5 ?_
      refine ea_iald (pc := 31) dX8_chargeBy_31 f6.1 f6.2 z7 ?_
      refine ea_callV (pc := 32) (d' := d - 1) (As := [vI (ea_i w2.2 (Option.getD (ea_r w2.2 (Option.getD r1 0) 9) 0) (Int32.toNatClampNeg w2.1))]) (st := []) dX8_chargeBy_32 kX8_worth (sX8_worth (d := d - 1) (by omega) hsw2 Ew8) (by omega) rfl (Nat.le_of_ble_eq_true rfl) ew_1108 ew_1110 ew_36 (ci := 8) rfl (by decide) (cShC_23 hsw2).1 (cShC_23 hsw2).2.1 ?_
      obtain ⟨v9, ev9, E⟩ := let_some E
      refine ea_iconst (pc := 35) dX8_chargeBy_35 (v := 0) rfl ?_
      refine ea_mmaxI (pc := 36) dX8_chargeBy_36 ew_1119 ew_982 ew_119 ew_983 (by omega) (Nat.le_of_ble_eq_true rfl) ?_
      refine ea_ldc (pc := 39) dX8_chargeBy_39 ew_1120 ?_
      refine ea_mminI (pc := 41) dX8_chargeBy_41 ew_1121 ew_161 ew_119 ew_162 (by omega) (Nat.le_of_ble_eq_true rfl) ?_
      refine ea_istore (pc := 44) (lv' := [(1, vR r1), (2, vR r2), (4, vI v9)]) dX8_chargeBy_44 (Nat.le_of_ble_eq_true rfl) [2, 3, 0] (by rw [ev9]; rfl) ?_
      exact (kJ46 (r1 : Option Nat) (r2 : Option Nat) (v9 : Int32) w8.2 _ _ E hsw8)
  · have E := (if_neg c11).symm.trans E
    refine ea_iconst (pc := 8) dX8_chargeBy_8 (v := 0) rfl ?_
    exact ea_iretO (pc := 9) dX8_chargeBy_9 rfl rfl E
theorem kBX8_chargeBy_0 {J46 : Option Nat → Option Nat → Int32 → ea_H → Option (Int32 × ea_H)}  (cJ46 : ∀ (r1 : Option Nat) (r2 : Option Nat) (x4 : Int32) (h : ea_H), kp (ea_core h) (J46 r1 r2 x4 h)) {r1 : Option Nat} {r2 : Option Nat} {h : ea_H} : kp (ea_core h) (BX8_chargeBy_0 J46 r1 r2 h) :=
  (kp_bind (kp_tw (kpX8_isFree _ _ _) rfl) fun w1 hcw1 => (kp_ite (kp_bind (kp_tw (kpX8_lineFor _ _ _) hcw1) fun w2 hcw2 => (kp_ite (kp_tw (cJ46 _ _ _ _) hcw2) (kp_gd (kp_gd (kp_gd (kp_gd (kp_gd (kp_bind (kp_tw (kpX8_worth _ _) hcw2) fun w8 hcw8 => (kp_let (kp_tw (cJ46 _ _ _ _) hcw8)))))))))) (kp_ret hcw1)))
theorem lBX8_chargeBy_0 {J46 : Option Nat → Option Nat → Int32 → ea_H → Option (Int32 × ea_H)} {J46_ : Option Nat → Option Nat → Int32 → ea_H → Option (Int32 × ea_H)}  (mJ46 : ∀ (r1 : Option Nat) (r2 : Option Nat) (x4 : Int32) (h : ea_H), fle (J46 r1 r2 x4 h) (J46_ r1 r2 x4 h)) {r1 : Option Nat} {r2 : Option Nat} {h : ea_H} : fle (BX8_chargeBy_0 J46 r1 r2 h) (BX8_chargeBy_0 J46_ r1 r2 h) :=
  (fle_bind (fle_rfl _) fun _ => (fle_ite (fle_bind (fle_rfl _) fun _ => (fle_ite (mJ46 _ _ _ _) (fle_gd (fle_gd (fle_gd (fle_gd (fle_gd (fle_bind (fle_rfl _) fun _ => (fle_let fun _ => (mJ46 _ _ _ _)))))))))) (fle_rfl _)))
theorem nBX8_chargeBy_0 {J46 : Option Nat → Option Nat → Int32 → ea_H → Option (Int32 × ea_H)} {J46_ : Nat → (Option Nat → Option Nat → Int32 → ea_H → Option (Int32 × ea_H))}  (mJ46 : ∀ (r1 : Option Nat) (r2 : Option Nat) (x4 : Int32) (h : ea_H), fct (J46 r1 r2 x4 h) (fun f => J46_ f r1 r2 x4 h)) {r1 : Option Nat} {r2 : Option Nat} {h : ea_H} : fct (BX8_chargeBy_0 J46 r1 r2 h) (fun f => BX8_chargeBy_0 (J46_ f) r1 r2 h) :=
  (fct_bind (fct_rfl _) fun _ => (fct_ite (fct_bind (fct_rfl _) fun _ => (fct_ite (mJ46 _ _ _ _) (fct_gd (fct_gd (fct_gd (fct_gd (fct_gd (fct_bind (fct_rfl _) fun _ => (fct_let fun _ => (mJ46 _ _ _ _)))))))))) (fct_rfl _)))
noncomputable def BX8_chargeBy_46 (J70 : Option Nat → Option Nat → Int32 → ea_H → Option (Int32 × ea_H)) (r1 : Option Nat) (r2 : Option Nat) (x4 : Int32) (h : ea_H) : Option (Int32 × ea_H) :=
  (gd (r2 = some (Option.getD r2 0)) (gd (((Option.getD r2 0) < ea_n h ∧ ea_c h (Option.getD r2 0) = 5)) (gd (r1 = some (Option.getD r1 0)) (gd (((Option.getD r1 0) < ea_n h ∧ ea_c h (Option.getD r1 0) = 0)) (if ((ea_i h (Option.getD r2 0) 6) - (ea_i h (Option.getD r2 0) 6) / (1440 : Int32) * (1440 : Int32)) ≤ (ea_i h (Option.getD r1 0) 3) then (J70 (r1 : Option Nat) (r2 : Option Nat) (x4 : Int32) h) else (gd (r1 = some (Option.getD r1 0)) (gd (((Option.getD r1 0) < ea_n h ∧ ea_c h (Option.getD r1 0) = 0)) (ea_let (x4 + (ea_i h (Option.getD r1 0) 2)) fun (v18 : Int32) => (J70 (r1 : Option Nat) (r2 : Option Nat) (v18 : Int32) h)))))))))
theorem tBX8_chargeBy_46 {d : Nat} {h0 : ea_H} (hd : 4 ≤ d) {J70 : Option Nat → Option Nat → Int32 → ea_H → Option (Int32 × ea_H)}  (kJ70 : ∀ (r1 : Option Nat) (r2 : Option Nat) (x4 : Int32) (h : ea_H) (r : Int32) (h' : ea_H), J70 r1 r2 x4 h = some (r, h') → ShC h → ea_W mX8_chargeBy d h0 (some (vI r)) h' 70 [(1, vR r1), (2, vR r2), (4, vI x4)] [] h) {r1 : Option Nat} {r2 : Option Nat} {x4 : Int32} {h : ea_H} {r : Int32} {h' : ea_H} (E : BX8_chargeBy_46 J70 r1 r2 x4 h = some (r, h')) (hs : ShC h) : ea_W mX8_chargeBy d h0 (some (vI r)) h' 46 [(1, vR r1), (2, vR r2), (4, vI x4)] [] h := by
  unfold BX8_chargeBy_46 at E
  obtain ⟨e12, E⟩ := gd_some E
  refine ea_aload_n (pc := 46) dX8_chargeBy_46 rfl 1 rfl ?_
  obtain ⟨f13, E⟩ := gd_some E
  obtain ⟨e14, E⟩ := gd_some E
  refine ea_deref0 e12 ?_
  refine ea_getI (pc := 47) dX8_chargeBy_47 ec_5 (k := 6) (Nat.le_of_ble_eq_true rfl) rfl (Or.inl ew_523) f13.1 f13.2 ?_
  refine ea_sipush (pc := 50) dX8_chargeBy_50 (v := 1440) rfl ?_
  refine ea_irem (pc := 53) dX8_chargeBy_53 (by decide) ?_
  refine ea_aload_n (pc := 54) dX8_chargeBy_54 rfl 0 rfl ?_
  obtain ⟨f15, E⟩ := gd_some E
  refine ea_deref0 e14 ?_
  refine ea_getI (pc := 55) dX8_chargeBy_55 ec_0 (k := 3) (Nat.le_of_ble_eq_true rfl) rfl (Or.inl ew_346) f15.1 f15.2 ?_
  refine ea_icmp_le (pc := 58) (tgt := 70) dX8_chargeBy_58 rfl (fun c19 => ?_) (fun c19 => ?_)
  · have E := (if_pos c19).symm.trans E
    exact (kJ70 (r1 : Option Nat) (r2 : Option Nat) (x4 : Int32) h _ _ E hs)
  · have E := (if_neg c19).symm.trans E
    obtain ⟨e16, E⟩ := gd_some E
    refine ea_iload (pc := 61) dX8_chargeBy_61 2 rfl ?_
    refine ea_aload_n (pc := 63) dX8_chargeBy_63 rfl 0 rfl ?_
    obtain ⟨f17, E⟩ := gd_some E
    obtain ⟨v18, ev18, E⟩ := let_some E
    refine ea_deref0 e16 ?_
    refine ea_getI (pc := 64) dX8_chargeBy_64 ec_0 (k := 2) (Nat.le_of_ble_eq_true rfl) rfl (Or.inl ew_342) f17.1 f17.2 ?_
    refine ea_iadd (pc := 67) dX8_chargeBy_67 ?_
    refine ea_istore (pc := 68) (lv' := [(1, vR r1), (2, vR r2), (4, vI v18)]) dX8_chargeBy_68 (Nat.le_of_ble_eq_true rfl) [1, 2, 0] (by rw [ev18]; rfl) ?_
    exact (kJ70 (r1 : Option Nat) (r2 : Option Nat) (v18 : Int32) h _ _ E hs)
theorem kBX8_chargeBy_46 {J70 : Option Nat → Option Nat → Int32 → ea_H → Option (Int32 × ea_H)}  (cJ70 : ∀ (r1 : Option Nat) (r2 : Option Nat) (x4 : Int32) (h : ea_H), kp (ea_core h) (J70 r1 r2 x4 h)) {r1 : Option Nat} {r2 : Option Nat} {x4 : Int32} {h : ea_H} : kp (ea_core h) (BX8_chargeBy_46 J70 r1 r2 x4 h) :=
  (kp_gd (kp_gd (kp_gd (kp_gd (kp_ite (kp_tw (cJ70 _ _ _ _) rfl) (kp_gd (kp_gd (kp_let (kp_tw (cJ70 _ _ _ _) rfl)))))))))
theorem lBX8_chargeBy_46 {J70 : Option Nat → Option Nat → Int32 → ea_H → Option (Int32 × ea_H)} {J70_ : Option Nat → Option Nat → Int32 → ea_H → Option (Int32 × ea_H)}  (mJ70 : ∀ (r1 : Option Nat) (r2 : Option Nat) (x4 : Int32) (h : ea_H), fle (J70 r1 r2 x4 h) (J70_ r1 r2 x4 h)) {r1 : Option Nat} {r2 : Option Nat} {x4 : Int32} {h : ea_H} : fle (BX8_chargeBy_46 J70 r1 r2 x4 h) (BX8_chargeBy_46 J70_ r1 r2 x4 h) :=
  (fle_gd (fle_gd (fle_gd (fle_gd (fle_ite (mJ70 _ _ _ _) (fle_gd (fle_gd (fle_let fun _ => (mJ70 _ _ _ _)))))))))
theorem nBX8_chargeBy_46 {J70 : Option Nat → Option Nat → Int32 → ea_H → Option (Int32 × ea_H)} {J70_ : Nat → (Option Nat → Option Nat → Int32 → ea_H → Option (Int32 × ea_H))}  (mJ70 : ∀ (r1 : Option Nat) (r2 : Option Nat) (x4 : Int32) (h : ea_H), fct (J70 r1 r2 x4 h) (fun f => J70_ f r1 r2 x4 h)) {r1 : Option Nat} {r2 : Option Nat} {x4 : Int32} {h : ea_H} : fct (BX8_chargeBy_46 J70 r1 r2 x4 h) (fun f => BX8_chargeBy_46 (J70_ f) r1 r2 x4 h) :=
  (fct_gd (fct_gd (fct_gd (fct_gd (fct_ite (mJ70 _ _ _ _) (fct_gd (fct_gd (fct_let fun _ => (mJ70 _ _ _ _)))))))))
noncomputable def BX8_chargeBy_70 (J87 : Option Nat → Option Nat → Int32 → ea_H → Option (Int32 × ea_H)) (r1 : Option Nat) (r2 : Option Nat) (x4 : Int32) (h : ea_H) : Option (Int32 × ea_H) :=
  (gd (r2 = some (Option.getD r2 0)) (gd (((Option.getD r2 0) < ea_n h ∧ ea_c h (Option.getD r2 0) = 5)) (if (ea_i h (Option.getD r2 0) 0) = (3 : Int32) then (gd (r1 = some (Option.getD r1 0)) (gd (((Option.getD r1 0) < ea_n h ∧ ea_c h (Option.getD r1 0) = 0)) (ea_let (x4 + (ea_i h (Option.getD r1 0) 5)) fun (v24 : Int32) => (J87 (r1 : Option Nat) (r2 : Option Nat) (v24 : Int32) h)))) else (J87 (r1 : Option Nat) (r2 : Option Nat) (x4 : Int32) h))))
theorem tBX8_chargeBy_70 {d : Nat} {h0 : ea_H} (hd : 4 ≤ d) {J87 : Option Nat → Option Nat → Int32 → ea_H → Option (Int32 × ea_H)}  (kJ87 : ∀ (r1 : Option Nat) (r2 : Option Nat) (x4 : Int32) (h : ea_H) (r : Int32) (h' : ea_H), J87 r1 r2 x4 h = some (r, h') → ShC h → ea_W mX8_chargeBy d h0 (some (vI r)) h' 87 [(1, vR r1), (2, vR r2), (4, vI x4)] [] h) {r1 : Option Nat} {r2 : Option Nat} {x4 : Int32} {h : ea_H} {r : Int32} {h' : ea_H} (E : BX8_chargeBy_70 J87 r1 r2 x4 h = some (r, h')) (hs : ShC h) : ea_W mX8_chargeBy d h0 (some (vI r)) h' 70 [(1, vR r1), (2, vR r2), (4, vI x4)] [] h := by
  unfold BX8_chargeBy_70 at E
  obtain ⟨e20, E⟩ := gd_some E
  refine ea_aload_n (pc := 70) dX8_chargeBy_70 rfl 1 rfl ?_
  obtain ⟨f21, E⟩ := gd_some E
  refine ea_deref0 e20 ?_
  refine ea_getI (pc := 71) dX8_chargeBy_71 ec_5 (k := 0) (Nat.le_of_ble_eq_true rfl) rfl (Or.inl ew_505) f21.1 f21.2 ?_
  refine ea_iconst (pc := 74) dX8_chargeBy_74 (v := 3) rfl ?_
  refine ea_icmp_ne (pc := 75) (tgt := 87) dX8_chargeBy_75 rfl (fun c25 => ?_) (fun c25 => ?_)
  · have E := (if_neg c25).symm.trans E
    exact (kJ87 (r1 : Option Nat) (r2 : Option Nat) (x4 : Int32) h _ _ E hs)
  · have E := (if_pos c25).symm.trans E
    obtain ⟨e22, E⟩ := gd_some E
    refine ea_iload (pc := 78) dX8_chargeBy_78 2 rfl ?_
    refine ea_aload_n (pc := 80) dX8_chargeBy_80 rfl 0 rfl ?_
    obtain ⟨f23, E⟩ := gd_some E
    obtain ⟨v24, ev24, E⟩ := let_some E
    refine ea_deref0 e22 ?_
    refine ea_getI (pc := 81) dX8_chargeBy_81 ec_0 (k := 5) (Nat.le_of_ble_eq_true rfl) rfl (Or.inl ew_354) f23.1 f23.2 ?_
    refine ea_iadd (pc := 84) dX8_chargeBy_84 ?_
    refine ea_istore (pc := 85) (lv' := [(1, vR r1), (2, vR r2), (4, vI v24)]) dX8_chargeBy_85 (Nat.le_of_ble_eq_true rfl) [1, 2, 0] (by rw [ev24]; rfl) ?_
    exact (kJ87 (r1 : Option Nat) (r2 : Option Nat) (v24 : Int32) h _ _ E hs)
theorem kBX8_chargeBy_70 {J87 : Option Nat → Option Nat → Int32 → ea_H → Option (Int32 × ea_H)}  (cJ87 : ∀ (r1 : Option Nat) (r2 : Option Nat) (x4 : Int32) (h : ea_H), kp (ea_core h) (J87 r1 r2 x4 h)) {r1 : Option Nat} {r2 : Option Nat} {x4 : Int32} {h : ea_H} : kp (ea_core h) (BX8_chargeBy_70 J87 r1 r2 x4 h) :=
  (kp_gd (kp_gd (kp_ite (kp_gd (kp_gd (kp_let (kp_tw (cJ87 _ _ _ _) rfl)))) (kp_tw (cJ87 _ _ _ _) rfl))))
theorem lBX8_chargeBy_70 {J87 : Option Nat → Option Nat → Int32 → ea_H → Option (Int32 × ea_H)} {J87_ : Option Nat → Option Nat → Int32 → ea_H → Option (Int32 × ea_H)}  (mJ87 : ∀ (r1 : Option Nat) (r2 : Option Nat) (x4 : Int32) (h : ea_H), fle (J87 r1 r2 x4 h) (J87_ r1 r2 x4 h)) {r1 : Option Nat} {r2 : Option Nat} {x4 : Int32} {h : ea_H} : fle (BX8_chargeBy_70 J87 r1 r2 x4 h) (BX8_chargeBy_70 J87_ r1 r2 x4 h) :=
  (fle_gd (fle_gd (fle_ite (fle_gd (fle_gd (fle_let fun _ => (mJ87 _ _ _ _)))) (mJ87 _ _ _ _))))
theorem nBX8_chargeBy_70 {J87 : Option Nat → Option Nat → Int32 → ea_H → Option (Int32 × ea_H)} {J87_ : Nat → (Option Nat → Option Nat → Int32 → ea_H → Option (Int32 × ea_H))}  (mJ87 : ∀ (r1 : Option Nat) (r2 : Option Nat) (x4 : Int32) (h : ea_H), fct (J87 r1 r2 x4 h) (fun f => J87_ f r1 r2 x4 h)) {r1 : Option Nat} {r2 : Option Nat} {x4 : Int32} {h : ea_H} : fct (BX8_chargeBy_70 J87 r1 r2 x4 h) (fun f => BX8_chargeBy_70 (J87_ f) r1 r2 x4 h) :=
  (fct_gd (fct_gd (fct_ite (fct_gd (fct_gd (fct_let fun _ => (mJ87 _ _ _ _)))) (mJ87 _ _ _ _))))
noncomputable def BX8_chargeBy_87 (r1 : Option Nat) (r2 : Option Nat) (x4 : Int32) (h : ea_H) : Option (Int32 × ea_H) :=
  (gd (r2 = some (Option.getD r2 0)) (gd (((Option.getD r2 0) < ea_n h ∧ ea_c h (Option.getD r2 0) = 5)) (if (ea_i h (Option.getD r2 0) 0) = (4 : Int32) then (gd (r1 = some (Option.getD r1 0)) (gd (((Option.getD r1 0) < ea_n h ∧ ea_c h (Option.getD r1 0) = 0)) (ea_let (x4 + (ea_i h (Option.getD r1 0) 6)) fun (v30 : Int32) => (some (v30, h))))) else (some (x4, h)))))
theorem tBX8_chargeBy_87 {d : Nat} {h0 : ea_H} (hd : 4 ≤ d)  {r1 : Option Nat} {r2 : Option Nat} {x4 : Int32} {h : ea_H} {r : Int32} {h' : ea_H} (E : BX8_chargeBy_87 r1 r2 x4 h = some (r, h')) (hs : ShC h) : ea_W mX8_chargeBy d h0 (some (vI r)) h' 87 [(1, vR r1), (2, vR r2), (4, vI x4)] [] h := by
  unfold BX8_chargeBy_87 at E
  obtain ⟨e26, E⟩ := gd_some E
  refine ea_aload_n (pc := 87) dX8_chargeBy_87 rfl 1 rfl ?_
  obtain ⟨f27, E⟩ := gd_some E
  refine ea_deref0 e26 ?_
  refine ea_getI (pc := 88) dX8_chargeBy_88 ec_5 (k := 0) (Nat.le_of_ble_eq_true rfl) rfl (Or.inl ew_505) f27.1 f27.2 ?_
  refine ea_iconst (pc := 91) dX8_chargeBy_91 (v := 4) rfl ?_
  refine ea_icmp_ne (pc := 92) (tgt := 104) dX8_chargeBy_92 rfl (fun c31 => ?_) (fun c31 => ?_)
  · have E := (if_neg c31).symm.trans E
    refine ea_iload (pc := 104) dX8_chargeBy_104 2 rfl ?_
    exact ea_iretO (pc := 106) dX8_chargeBy_106 rfl rfl E
  · have E := (if_pos c31).symm.trans E
    obtain ⟨e28, E⟩ := gd_some E
    refine ea_iload (pc := 95) dX8_chargeBy_95 2 rfl ?_
    refine ea_aload_n (pc := 97) dX8_chargeBy_97 rfl 0 rfl ?_
    obtain ⟨f29, E⟩ := gd_some E
    obtain ⟨v30, ev30, E⟩ := let_some E
    refine ea_deref0 e28 ?_
    refine ea_getI (pc := 98) dX8_chargeBy_98 ec_0 (k := 6) (Nat.le_of_ble_eq_true rfl) rfl (Or.inl ew_358) f29.1 f29.2 ?_
    refine ea_iadd (pc := 101) dX8_chargeBy_101 ?_
    refine ea_istore (pc := 102) (lv' := [(4, vI v30)]) dX8_chargeBy_102 (Nat.le_of_ble_eq_true rfl) [0] (by rw [ev30]; rfl) ?_
    refine ea_iload (pc := 104) dX8_chargeBy_104 0 rfl ?_
    exact ea_iretO (pc := 106) dX8_chargeBy_106 rfl rfl E
theorem kBX8_chargeBy_87  {r1 : Option Nat} {r2 : Option Nat} {x4 : Int32} {h : ea_H} : kp (ea_core h) (BX8_chargeBy_87 r1 r2 x4 h) :=
  (kp_gd (kp_gd (kp_ite (kp_gd (kp_gd (kp_let (kp_ret rfl)))) (kp_ret rfl))))
theorem lBX8_chargeBy_87  {r1 : Option Nat} {r2 : Option Nat} {x4 : Int32} {h : ea_H} : fle (BX8_chargeBy_87 r1 r2 x4 h) (BX8_chargeBy_87 r1 r2 x4 h) :=
  (fle_rfl _)
theorem nBX8_chargeBy_87  {r1 : Option Nat} {r2 : Option Nat} {x4 : Int32} {h : ea_H} : fct (BX8_chargeBy_87 r1 r2 x4 h) (fun f => BX8_chargeBy_87 r1 r2 x4 h) :=
  (fct_rfl _)
noncomputable def gX8_chargeBy : Nat → (Option Nat → Option Nat → ea_H → Option (Int32 × ea_H)) × (Option Nat → Option Nat → Int32 → ea_H → Option (Int32 × ea_H)) × (Option Nat → Option Nat → Int32 → ea_H → Option (Int32 × ea_H)) × (Option Nat → Option Nat → Int32 → ea_H → Option (Int32 × ea_H))
  | 0 => (fun _ _ _ => none, fun _ _ _ _ => none, fun _ _ _ _ => none, fun _ _ _ _ => none)
  | f + 1 => (BX8_chargeBy_0 (gX8_chargeBy f).2.1, BX8_chargeBy_46 (gX8_chargeBy f).2.2.1, BX8_chargeBy_70 (gX8_chargeBy f).2.2.2, BX8_chargeBy_87)
theorem mgX8_chargeBy : ∀ f : Nat, (∀ (r1 : Option Nat) (r2 : Option Nat) (h : ea_H), fle ((gX8_chargeBy f).1 r1 r2 h) ((gX8_chargeBy (f + 1)).1 r1 r2 h)) ∧ (∀ (r1 : Option Nat) (r2 : Option Nat) (x4 : Int32) (h : ea_H), fle ((gX8_chargeBy f).2.1 r1 r2 x4 h) ((gX8_chargeBy (f + 1)).2.1 r1 r2 x4 h)) ∧ (∀ (r1 : Option Nat) (r2 : Option Nat) (x4 : Int32) (h : ea_H), fle ((gX8_chargeBy f).2.2.1 r1 r2 x4 h) ((gX8_chargeBy (f + 1)).2.2.1 r1 r2 x4 h)) ∧ (∀ (r1 : Option Nat) (r2 : Option Nat) (x4 : Int32) (h : ea_H), fle ((gX8_chargeBy f).2.2.2 r1 r2 x4 h) ((gX8_chargeBy (f + 1)).2.2.2 r1 r2 x4 h)) := by
  intro f
  induction f with
  | zero => exact ⟨fun _ _ _ => fle_none _, fun _ _ _ _ => fle_none _, fun _ _ _ _ => fle_none _, fun _ _ _ _ => fle_none _⟩
  | succ f ih => exact ⟨fun _ _ _ => lBX8_chargeBy_0 ih.2.1, fun _ _ _ _ => lBX8_chargeBy_46 ih.2.2.1, fun _ _ _ _ => lBX8_chargeBy_70 ih.2.2.2, fun _ _ _ _ => lBX8_chargeBy_87⟩
noncomputable def qX8_chargeBy_0 (r1 : Option Nat) (r2 : Option Nat) (h : ea_H) : Option (Int32 × ea_H) := flim fun f => (gX8_chargeBy f).1 r1 r2 h
noncomputable def qX8_chargeBy_46 (r1 : Option Nat) (r2 : Option Nat) (x4 : Int32) (h : ea_H) : Option (Int32 × ea_H) := flim fun f => (gX8_chargeBy f).2.1 r1 r2 x4 h
noncomputable def qX8_chargeBy_70 (r1 : Option Nat) (r2 : Option Nat) (x4 : Int32) (h : ea_H) : Option (Int32 × ea_H) := flim fun f => (gX8_chargeBy f).2.2.1 r1 r2 x4 h
noncomputable def qX8_chargeBy_87 (r1 : Option Nat) (r2 : Option Nat) (x4 : Int32) (h : ea_H) : Option (Int32 × ea_H) := flim fun f => (gX8_chargeBy f).2.2.2 r1 r2 x4 h
theorem fqX8_chargeBy_0 (r1 : Option Nat) (r2 : Option Nat) (h : ea_H) : fct (qX8_chargeBy_0 r1 r2 h) fun f => (gX8_chargeBy f).1 r1 r2 h := flim_ct fun f => (mgX8_chargeBy f).1 r1 r2 h
theorem fqX8_chargeBy_46 (r1 : Option Nat) (r2 : Option Nat) (x4 : Int32) (h : ea_H) : fct (qX8_chargeBy_46 r1 r2 x4 h) fun f => (gX8_chargeBy f).2.1 r1 r2 x4 h := flim_ct fun f => (mgX8_chargeBy f).2.1 r1 r2 x4 h
theorem fqX8_chargeBy_70 (r1 : Option Nat) (r2 : Option Nat) (x4 : Int32) (h : ea_H) : fct (qX8_chargeBy_70 r1 r2 x4 h) fun f => (gX8_chargeBy f).2.2.1 r1 r2 x4 h := flim_ct fun f => (mgX8_chargeBy f).2.2.1 r1 r2 x4 h
theorem fqX8_chargeBy_87 (r1 : Option Nat) (r2 : Option Nat) (x4 : Int32) (h : ea_H) : fct (qX8_chargeBy_87 r1 r2 x4 h) fun f => (gX8_chargeBy f).2.2.2 r1 r2 x4 h := flim_ct fun f => (mgX8_chargeBy f).2.2.2 r1 r2 x4 h
/-- how a block opens -/
theorem uqX8_chargeBy_0 {r1 : Option Nat} {r2 : Option Nat} {h : ea_H} {P : Int32 × ea_H → Prop} (H : sat (BX8_chargeBy_0 qX8_chargeBy_46 r1 r2 h) P) : sat (qX8_chargeBy_0 r1 r2 h) P := by
  obtain ⟨x, e, hp⟩ := H
  obtain ⟨n, hn⟩ := nBX8_chargeBy_0 fqX8_chargeBy_46 x e
  exact ⟨x, flim_at (fun f => (mgX8_chargeBy f).1 r1 r2 h) (f := n + 1) (hn n (Nat.le_refl _)), hp⟩
/-- how a block opens -/
theorem uqX8_chargeBy_46 {r1 : Option Nat} {r2 : Option Nat} {x4 : Int32} {h : ea_H} {P : Int32 × ea_H → Prop} (H : sat (BX8_chargeBy_46 qX8_chargeBy_70 r1 r2 x4 h) P) : sat (qX8_chargeBy_46 r1 r2 x4 h) P := by
  obtain ⟨x, e, hp⟩ := H
  obtain ⟨n, hn⟩ := nBX8_chargeBy_46 fqX8_chargeBy_70 x e
  exact ⟨x, flim_at (fun f => (mgX8_chargeBy f).2.1 r1 r2 x4 h) (f := n + 1) (hn n (Nat.le_refl _)), hp⟩
/-- how a block opens -/
theorem uqX8_chargeBy_70 {r1 : Option Nat} {r2 : Option Nat} {x4 : Int32} {h : ea_H} {P : Int32 × ea_H → Prop} (H : sat (BX8_chargeBy_70 qX8_chargeBy_87 r1 r2 x4 h) P) : sat (qX8_chargeBy_70 r1 r2 x4 h) P := by
  obtain ⟨x, e, hp⟩ := H
  obtain ⟨n, hn⟩ := nBX8_chargeBy_70 fqX8_chargeBy_87 x e
  exact ⟨x, flim_at (fun f => (mgX8_chargeBy f).2.2.1 r1 r2 x4 h) (f := n + 1) (hn n (Nat.le_refl _)), hp⟩
/-- how a block opens -/
theorem uqX8_chargeBy_87 {r1 : Option Nat} {r2 : Option Nat} {x4 : Int32} {h : ea_H} {P : Int32 × ea_H → Prop} (H : sat (BX8_chargeBy_87 r1 r2 x4 h) P) : sat (qX8_chargeBy_87 r1 r2 x4 h) P := by
  obtain ⟨x, e, hp⟩ := H
  obtain ⟨n, hn⟩ := nBX8_chargeBy_87 x e
  exact ⟨x, flim_at (fun f => (mgX8_chargeBy f).2.2.2 r1 r2 x4 h) (f := n + 1) (hn n (Nat.le_refl _)), hp⟩
theorem kgX8_chargeBy : ∀ f : Nat, (∀ (r1 : Option Nat) (r2 : Option Nat) (h : ea_H), kp (ea_core h) ((gX8_chargeBy f).1 r1 r2 h)) ∧ (∀ (r1 : Option Nat) (r2 : Option Nat) (x4 : Int32) (h : ea_H), kp (ea_core h) ((gX8_chargeBy f).2.1 r1 r2 x4 h)) ∧ (∀ (r1 : Option Nat) (r2 : Option Nat) (x4 : Int32) (h : ea_H), kp (ea_core h) ((gX8_chargeBy f).2.2.1 r1 r2 x4 h)) ∧ (∀ (r1 : Option Nat) (r2 : Option Nat) (x4 : Int32) (h : ea_H), kp (ea_core h) ((gX8_chargeBy f).2.2.2 r1 r2 x4 h)) := by
  intro f
  induction f with
  | zero => exact ⟨fun _ _ _ => kp_none _, fun _ _ _ _ => kp_none _, fun _ _ _ _ => kp_none _, fun _ _ _ _ => kp_none _⟩
  | succ f ih => exact ⟨fun _ _ _ => kBX8_chargeBy_0 ih.2.1, fun _ _ _ _ => kBX8_chargeBy_46 ih.2.2.1, fun _ _ _ _ => kBX8_chargeBy_70 ih.2.2.2, fun _ _ _ _ => kBX8_chargeBy_87⟩
theorem tgX8_chargeBy {d : Nat} {h0 : ea_H} (hd : 4 ≤ d) : ∀ f : Nat, (∀ (r1 : Option Nat) (r2 : Option Nat) (h : ea_H) (r : Int32) (h' : ea_H), (gX8_chargeBy f).1 r1 r2 h = some (r, h') → ShC h → ea_W mX8_chargeBy d h0 (some (vI r)) h' 0 [(0, vR (some 23)), (1, vR r1), (2, vR r2)] [] h) ∧ (∀ (r1 : Option Nat) (r2 : Option Nat) (x4 : Int32) (h : ea_H) (r : Int32) (h' : ea_H), (gX8_chargeBy f).2.1 r1 r2 x4 h = some (r, h') → ShC h → ea_W mX8_chargeBy d h0 (some (vI r)) h' 46 [(1, vR r1), (2, vR r2), (4, vI x4)] [] h) ∧ (∀ (r1 : Option Nat) (r2 : Option Nat) (x4 : Int32) (h : ea_H) (r : Int32) (h' : ea_H), (gX8_chargeBy f).2.2.1 r1 r2 x4 h = some (r, h') → ShC h → ea_W mX8_chargeBy d h0 (some (vI r)) h' 70 [(1, vR r1), (2, vR r2), (4, vI x4)] [] h) ∧ (∀ (r1 : Option Nat) (r2 : Option Nat) (x4 : Int32) (h : ea_H) (r : Int32) (h' : ea_H), (gX8_chargeBy f).2.2.2 r1 r2 x4 h = some (r, h') → ShC h → ea_W mX8_chargeBy d h0 (some (vI r)) h' 87 [(1, vR r1), (2, vR r2), (4, vI x4)] [] h) := by
  intro f
  induction f with
  | zero => exact ⟨fun _ _ _ _ _ E => no_some E, fun _ _ _ _ _ _ E => no_some E, fun _ _ _ _ _ _ E => no_some E, fun _ _ _ _ _ _ E => no_some E⟩
  | succ f ih => exact ⟨fun _ _ _ _ _ E hs => tBX8_chargeBy_0 hd ih.2.1 E hs, fun _ _ _ _ _ _ E hs => tBX8_chargeBy_46 hd ih.2.2.1 E hs, fun _ _ _ _ _ _ E hs => tBX8_chargeBy_70 hd ih.2.2.2 E hs, fun _ _ _ _ _ _ E hs => tBX8_chargeBy_87 hd E hs⟩
noncomputable def qX8_chargeBy (r1 : Option Nat) (r2 : Option Nat) (h : ea_H) : Option (Int32 × ea_H) := qX8_chargeBy_0 r1 r2 h
theorem sX8_chargeBy {d : Nat} {r1 : Option Nat} {r2 : Option Nat} {h : ea_H} {r : Int32} {h' : ea_H} (hd : 4 ≤ d) (hs : ShC h) (K : qX8_chargeBy r1 r2 h = some (r, h')) : ea_Met mX8_chargeBy d [vR (some 23), vR r1, vR r2] h (some (vI r)) h' := by
  unfold qX8_chargeBy at K
  obtain ⟨n, hn⟩ := fqX8_chargeBy_0 r1 r2 h _ K
  have W := (tgX8_chargeBy (d := d) (h0 := h) hd n).1 r1 r2 h _ _ (hn n (Nat.le_refl _)) hs
  exact ea_enter rfl (Nat.le_of_ble_eq_true rfl) W
theorem kpX8_chargeBy (r1 : Option Nat) (r2 : Option Nat) (h : ea_H) : kp (ea_core h) (qX8_chargeBy r1 r2 h) := fun x e => by
  obtain ⟨n, hn⟩ := fqX8_chargeBy_0 r1 r2 h x e
  exact (kgX8_chargeBy n).1 r1 r2 h x (hn n (Nat.le_refl _))
noncomputable def BX10_refresh_0 (h : ea_H) : Option (Unit × ea_H) :=
  (if (ea_i h 13 0) = (0 : Int32) then (Option.bind (qX10_collect  h) fun w1 => (Option.bind (qX10_sortKeys  w1.2) fun w2 => (Option.bind (qX10_trace  w2.2) fun w3 => (ea_let (ea_wi w3.2 13 0 1) fun H4 => (some ((), H4)))))) else (some ((), h)))
theorem tBX10_refresh_0 {d : Nat} {h0 : ea_H} (hd : 5 ≤ d)  {h : ea_H} {r : Unit} {h' : ea_H} (E : BX10_refresh_0 h = some (r, h')) (hs : ShC h) : ea_W mX10_refresh d h0 none h' 0 [(0, vR (some 13))] [] h := by
  unfold BX10_refresh_0 at E
  refine ea_aload_n (pc := 0) dX10_refresh_0 rfl 0 rfl ?_
  refine ea_getI (pc := 1) dX10_refresh_1 ec_10 (k := 0) (Nat.le_of_ble_eq_true rfl) rfl (Or.inl ew_232) (cShC_13 hs).1 (cShC_13 hs).2.1 ?_
  refine ea_if_eq (pc := 4) (tgt := 8) dX10_refresh_4 rfl (fun c5 => ?_) (fun c5 => ?_)
  · have E := (if_pos c5).symm.trans E
    obtain ⟨w1, Ew1, E⟩ := bd_some E
    have hsw1 : ShC w1.2 := ShC_core ((kpX10_collect _) _ Ew1) hs
    refine ea_aload_n (pc := 8) dX10_refresh_8 rfl 0 rfl ?_
    refine ea_callV (pc := 9) (d' := d - 1) (As := []) (st := []) dX10_refresh_9 kX10_collect (sX10_collect (d := d - 1) (by omega) hs Ew1) (by omega) rfl (Nat.le_of_ble_eq_true rfl) ew_753 ew_755 ew_3 (ci := 10) rfl (by decide) (cShC_13 hs).1 (cShC_13 hs).2.1 ?_
    obtain ⟨w2, Ew2, E⟩ := bd_some E
    have hsw2 : ShC w2.2 := ShC_core ((kpX10_sortKeys _) _ Ew2) hsw1
    refine ea_aload_n (pc := 12) dX10_refresh_12 rfl 0 rfl ?_
    refine ea_callV (pc := 13) (d' := d - 1) (As := []) (st := []) dX10_refresh_13 kX10_sortKeys (sX10_sortKeys (d := d - 1) (by omega) hsw1 Ew2) (by omega) rfl (Nat.le_of_ble_eq_true rfl) ew_766 ew_768 ew_5 (ci := 10) rfl (by decide) (cShC_13 hsw1).1 (cShC_13 hsw1).2.1 ?_
    obtain ⟨w3, Ew3, E⟩ := bd_some E
    have hsw3 : ShC w3.2 := ShC_core ((kpX10_trace _) _ Ew3) hsw2
    refine ea_aload_n (pc := 16) dX10_refresh_16 rfl 0 rfl ?_
    refine ea_callV (pc := 17) (d' := d - 1) (As := []) (st := []) dX10_refresh_17 kX10_trace (sX10_trace (d := d - 1) (by omega) hsw2 Ew3) (by omega) rfl (Nat.le_of_ble_eq_true rfl) ew_770 ew_772 ew_6 (ci := 10) rfl (by decide) (cShC_13 hsw2).1 (cShC_13 hsw2).2.1 ?_
    obtain ⟨H4, eH4, E⟩ := let_some E
    refine ea_aload_n (pc := 20) dX10_refresh_20 rfl 0 rfl ?_
    refine ea_iconst (pc := 21) dX10_refresh_21 (v := 1) rfl ?_
    refine ea_putI (pc := 22) dX10_refresh_22 ec_10 (k := 0) (Nat.le_of_ble_eq_true rfl) rfl (Or.inl ⟨rfl, Or.inl ew_232⟩) (ea_bn (Or.inr rfl)) (ea_bf (Or.inr rfl)) (cShC_13 hsw3).1 (cShC_13 hsw3).2.1 ?_
    refine ea_nm eH4 ?_
    have hsH4 : ShC H4 := by rw [eH4]; exact hsw3
    exact ea_vretO (pc := 25) dX10_refresh_25 rfl E
  · have E := (if_neg c5).symm.trans E
    exact ea_vretO (pc := 7) dX10_refresh_7 rfl E
theorem kBX10_refresh_0  {h : ea_H} : kp (ea_core h) (BX10_refresh_0 h) :=
  (kp_ite (kp_bind (kp_tw (kpX10_collect _) rfl) fun w1 hcw1 => (kp_bind (kp_tw (kpX10_sortKeys _) hcw1) fun w2 hcw2 => (kp_bind (kp_tw (kpX10_trace _) hcw2) fun w3 hcw3 => (kp_let (kp_ret hcw3))))) (kp_ret rfl))
noncomputable def qX10_refresh (h : ea_H) : Option (Unit × ea_H) := BX10_refresh_0 h
theorem sX10_refresh {d : Nat} {h : ea_H} {r : Unit} {h' : ea_H} (hd : 5 ≤ d) (hs : ShC h) (K : qX10_refresh h = some (r, h')) : ea_Met mX10_refresh d [vR (some 13)] h none h' := by
  unfold qX10_refresh at K
  have W := tBX10_refresh_0 hd (h0 := h) K hs
  exact ea_enter rfl (Nat.le_of_ble_eq_true rfl) W
theorem kpX10_refresh (h : ea_H) : kp (ea_core h) (qX10_refresh h) := kBX10_refresh_0
noncomputable def BX10_bestFrom_0 (J20 : Int32 → Int32 → Int32 → Int32 → ea_H → Option (Int64 × ea_H)) (x1 : Int32) (x2 : Int32) (x3 : Int32) (h : ea_H) : Option (Int64 × ea_H) :=
  (Option.bind (qX10_refresh  h) fun w1 => (Option.bind (qX10_firstTaken (x1 : Int32) (x2 : Int32) (x3 : Int32) w1.2) fun w2 => (J20 (x3 : Int32) (w2.1 : Int32) (w2.1 : Int32) (1 : Int32) w2.2)))
theorem tBX10_bestFrom_0 {d : Nat} {h0 : ea_H} (hd : 6 ≤ d) {J20 : Int32 → Int32 → Int32 → Int32 → ea_H → Option (Int64 × ea_H)}  (kJ20 : ∀ (x3 : Int32) (x4 : Int32) (x5 : Int32) (x6 : Int32) (h : ea_H) (r : Int64) (h' : ea_H), J20 x3 x4 x5 x6 h = some (r, h') → ShC h → ea_W mX10_bestFrom d h0 (some (vJ r)) h' 20 [(0, vR (some 13)), (3, vI x3), (4, vI x4), (5, vI x5), (6, vI x6)] [] h) {x1 : Int32} {x2 : Int32} {x3 : Int32} {h : ea_H} {r : Int64} {h' : ea_H} (E : BX10_bestFrom_0 J20 x1 x2 x3 h = some (r, h')) (hs : ShC h) : ea_W mX10_bestFrom d h0 (some (vJ r)) h' 0 [(0, vR (some 13)), (1, vI x1), (2, vI x2), (3, vI x3)] [] h := by
  unfold BX10_bestFrom_0 at E
  obtain ⟨w1, Ew1, E⟩ := bd_some E
  have hsw1 : ShC w1.2 := ShC_core ((kpX10_refresh _) _ Ew1) hs
  refine ea_aload_n (pc := 0) dX10_bestFrom_0 rfl 0 rfl ?_
  refine ea_callV (pc := 1) (d' := d - 1) (As := []) (st := []) dX10_bestFrom_1 kX10_refresh (sX10_refresh (d := d - 1) (by omega) hs Ew1) (by omega) rfl (Nat.le_of_ble_eq_true rfl) ew_1150 ew_750 ew_751 (ci := 10) rfl (by decide) (cShC_13 hs).1 (cShC_13 hs).2.1 ?_
  obtain ⟨w2, Ew2, E⟩ := bd_some E
  have hsw2 : ShC w2.2 := ShC_core ((kpX10_firstTaken _ _ _ _) _ Ew2) hsw1
  refine ea_aload_n (pc := 4) dX10_bestFrom_4 rfl 0 rfl ?_
  refine ea_iload_n (pc := 5) dX10_bestFrom_5 rfl 1 rfl ?_
  refine ea_iload_n (pc := 6) dX10_bestFrom_6 rfl 2 rfl ?_
  refine ea_iload_n (pc := 7) dX10_bestFrom_7 rfl 3 rfl ?_
  refine ea_callV (pc := 8) (d' := d - 1) (As := [vI x1, vI x2, vI x3]) (st := []) dX10_bestFrom_8 kX10_firstTaken (sX10_firstTaken (d := d - 1) (by omega) hsw1 Ew2) (by omega) rfl (Nat.le_of_ble_eq_true rfl) ew_1151 ew_1153 ew_38 (ci := 10) rfl (by decide) (cShC_13 hsw1).1 (cShC_13 hsw1).2.1 ?_
  refine ea_istore (pc := 11) (lv' := [(0, vR (some 13)), (3, vI x3), (4, vI w2.1)]) dX10_bestFrom_11 (Nat.le_of_ble_eq_true rfl) [1, 4, 0] rfl ?_
  refine ea_iload (pc := 13) dX10_bestFrom_13 2 rfl ?_
  refine ea_istore (pc := 15) (lv' := [(0, vR (some 13)), (3, vI x3), (4, vI w2.1), (5, vI w2.1)]) dX10_bestFrom_15 (Nat.le_of_ble_eq_true rfl) [1, 2, 3, 0] rfl ?_
  refine ea_iconst (pc := 17) dX10_bestFrom_17 (v := 1) rfl ?_
  refine ea_istore (pc := 18) (lv' := [(0, vR (some 13)), (3, vI x3), (4, vI w2.1), (5, vI w2.1), (6, vI 1)]) dX10_bestFrom_18 (Nat.le_of_ble_eq_true rfl) [1, 2, 3, 4, 0] rfl ?_
  exact (kJ20 (x3 : Int32) (w2.1 : Int32) (w2.1 : Int32) (1 : Int32) w2.2 _ _ E hsw2)
theorem kBX10_bestFrom_0 {J20 : Int32 → Int32 → Int32 → Int32 → ea_H → Option (Int64 × ea_H)}  (cJ20 : ∀ (x3 : Int32) (x4 : Int32) (x5 : Int32) (x6 : Int32) (h : ea_H), kp (ea_core h) (J20 x3 x4 x5 x6 h)) {x1 : Int32} {x2 : Int32} {x3 : Int32} {h : ea_H} : kp (ea_core h) (BX10_bestFrom_0 J20 x1 x2 x3 h) :=
  (kp_bind (kp_tw (kpX10_refresh _) rfl) fun w1 hcw1 => (kp_bind (kp_tw (kpX10_firstTaken _ _ _ _) hcw1) fun w2 hcw2 => (kp_tw (cJ20 _ _ _ _ _) hcw2)))
theorem lBX10_bestFrom_0 {J20 : Int32 → Int32 → Int32 → Int32 → ea_H → Option (Int64 × ea_H)} {J20_ : Int32 → Int32 → Int32 → Int32 → ea_H → Option (Int64 × ea_H)}  (mJ20 : ∀ (x3 : Int32) (x4 : Int32) (x5 : Int32) (x6 : Int32) (h : ea_H), fle (J20 x3 x4 x5 x6 h) (J20_ x3 x4 x5 x6 h)) {x1 : Int32} {x2 : Int32} {x3 : Int32} {h : ea_H} : fle (BX10_bestFrom_0 J20 x1 x2 x3 h) (BX10_bestFrom_0 J20_ x1 x2 x3 h) :=
  (fle_bind (fle_rfl _) fun _ => (fle_bind (fle_rfl _) fun _ => (mJ20 _ _ _ _ _)))
theorem nBX10_bestFrom_0 {J20 : Int32 → Int32 → Int32 → Int32 → ea_H → Option (Int64 × ea_H)} {J20_ : Nat → (Int32 → Int32 → Int32 → Int32 → ea_H → Option (Int64 × ea_H))}  (mJ20 : ∀ (x3 : Int32) (x4 : Int32) (x5 : Int32) (x6 : Int32) (h : ea_H), fct (J20 x3 x4 x5 x6 h) (fun f => J20_ f x3 x4 x5 x6 h)) {x1 : Int32} {x2 : Int32} {x3 : Int32} {h : ea_H} : fct (BX10_bestFrom_0 J20 x1 x2 x3 h) (fun f => BX10_bestFrom_0 (J20_ f) x1 x2 x3 h) :=
  (fct_bind (fct_rfl _) fun _ => (fct_bind (fct_rfl _) fun _ => (mJ20 _ _ _ _ _)))
noncomputable def BX10_bestFrom_20 (J20 : Int32 → Int32 → Int32 → Int32 → ea_H → Option (Int64 × ea_H)) (x3 : Int32) (x4 : Int32) (x5 : Int32) (x6 : Int32) (h : ea_H) : Option (Int64 × ea_H) :=
  (if (70 : Int32) < x6 then (some ((4611686018427387904 : Int64), h)) else (if x5 = ((-1) : Int32) then (some ((4611686018427387904 : Int64), h)) else (Option.bind (qX10_leftBehind (x5 : Int32) (x3 : Int32) h) fun w3 => (Option.bind (qX10_trainIn (x5 : Int32) w3.2) fun w4 => (gd (vp_in (((8 : Int32) * w4.1) + w3.1) 80) (ea_let (ea_i w4.2 7 (Int32.toNatClampNeg (((8 : Int32) * w4.1) + w3.1))) fun (v6 : Int32) => (Option.bind (qX10_trainIn (x5 : Int32) w4.2) fun w7 => (Option.bind (qX10_dayIn (x5 : Int32) w7.2) fun w8 => (Option.bind (qX9_comesAt (w7.1 : Int32) (w8.1 : Int32) (w3.1 : Int32) w8.2) fun w9 => (if v6 = x3 then (Option.bind (qX10_legOf (x4 : Int32) w9.2) fun w11 => (Option.bind (qX10_stopIn (x4 : Int32) w11.2) fun w12 => (Option.bind (qX10_leftBehind (x4 : Int32) (x3 : Int32) w12.2) fun w13 => (some (((((((Int32.toInt64 w9.1) <<< (Int32.toInt64 21 &&& 63)) ||| (Int32.toInt64 (x6 <<< ((13 : Int32) &&& 31)))) ||| (Int32.toInt64 w11.1)) ||| (Int32.toInt64 (w12.1 <<< ((3 : Int32) &&& 31)))) ||| (Int32.toInt64 w13.1)), w13.2))))) else (Option.bind (qX10_firstTaken (v6 : Int32) (w9.1 : Int32) (x3 : Int32) w9.2) fun w10 => (J20 (x3 : Int32) (x4 : Int32) (w10.1 : Int32) ((x6 + (1 : Int32)) : Int32) w10.2))))))))))))
theorem tBX10_bestFrom_20 {d : Nat} {h0 : ea_H} (hd : 6 ≤ d) {J20 : Int32 → Int32 → Int32 → Int32 → ea_H → Option (Int64 × ea_H)}  (kJ20 : ∀ (x3 : Int32) (x4 : Int32) (x5 : Int32) (x6 : Int32) (h : ea_H) (r : Int64) (h' : ea_H), J20 x3 x4 x5 x6 h = some (r, h') → ShC h → ea_W mX10_bestFrom d h0 (some (vJ r)) h' 20 [(0, vR (some 13)), (3, vI x3), (4, vI x4), (5, vI x5), (6, vI x6)] [] h) {x3 : Int32} {x4 : Int32} {x5 : Int32} {x6 : Int32} {h : ea_H} {r : Int64} {h' : ea_H} (E : BX10_bestFrom_20 J20 x3 x4 x5 x6 h = some (r, h')) (hs : ShC h) : ea_W mX10_bestFrom d h0 (some (vJ r)) h' 20 [(0, vR (some 13)), (3, vI x3), (4, vI x4), (5, vI x5), (6, vI x6)] [] h := by
  unfold BX10_bestFrom_20 at E
  refine ea_iload (pc := 20) dX10_bestFrom_20 4 rfl ?_
  refine ea_bipush (pc := 22) dX10_bestFrom_22 (v := 70) rfl ?_
  refine ea_icmp_gt (pc := 24) (tgt := 146) dX10_bestFrom_24 rfl (fun c16 => ?_) (fun c16 => ?_)
  · have E := (if_pos c16).symm.trans E
    refine ea_ldc2 (pc := 146) dX10_bestFrom_146 ew_777 ?_
    exact ea_lretO (pc := 149) dX10_bestFrom_149 rfl E
  · have E := (if_neg c16).symm.trans E
    refine ea_iload (pc := 27) dX10_bestFrom_27 3 rfl ?_
    refine ea_iconst (pc := 29) dX10_bestFrom_29 (v := (-1)) rfl ?_
    refine ea_icmp_eq (pc := 30) (tgt := 146) dX10_bestFrom_30 rfl (fun c15 => ?_) (fun c15 => ?_)
    · have E := (if_pos c15).symm.trans E
      refine ea_ldc2 (pc := 146) dX10_bestFrom_146 ew_777 ?_
      exact ea_lretO (pc := 149) dX10_bestFrom_149 rfl E
    · have E := (if_neg c15).symm.trans E
      obtain ⟨w3, Ew3, E⟩ := bd_some E
      have hsw3 : ShC w3.2 := ShC_core ((kpX10_leftBehind _ _ _) _ Ew3) hs
      refine ea_aload_n (pc := 33) dX10_bestFrom_33 rfl 0 rfl ?_
      refine ea_iload (pc := 34) dX10_bestFrom_34 3 rfl ?_
      refine ea_iload_n (pc := 36) dX10_bestFrom_36 rfl 1 rfl ?_
      refine ea_callV (pc := 37) (d' := d - 1) (As := [vI x5, vI x3]) (st := []) dX10_bestFrom_37 kX10_leftBehind (sX10_leftBehind (d := d - 1) (by omega) hs Ew3) (by omega) rfl (Nat.le_of_ble_eq_true rfl) ew_1155 ew_872 ew_873 (ci := 10) rfl (by decide) (cShC_13 hs).1 (cShC_13 hs).2.1 ?_
      obtain ⟨w4, Ew4, E⟩ := bd_some E
      have hsw4 : ShC w4.2 := ShC_core ((kpX10_trainIn _ _) _ Ew4) hsw3
      refine ea_istore (pc := 40) (lv' := [(0, vR (some 13)), (3, vI x3), (4, vI x4), (5, vI x5), (6, vI x6), (7, vI w3.1)]) dX10_bestFrom_40 (Nat.le_of_ble_eq_true rfl) [1, 2, 3, 4, 5, 0] rfl ?_
      refine ea_aload_n (pc := 42) dX10_bestFrom_42 rfl 0 rfl ?_
      refine ea_getR (pc := 43) dX10_bestFrom_43 ec_10 (k := 2) (Nat.le_of_ble_eq_true rfl) rfl (Or.inl ew_237) (cShC_13 hsw3).1 (cShC_13 hsw3).2.1 (rShC_13_2 hsw3) ?_
      refine ea_getR (pc := 46) dX10_bestFrom_46 ec_9 (k := 2) (Nat.le_of_ble_eq_true rfl) rfl (Or.inl ew_195) (cShC_5 hsw3).1 (cShC_5 hsw3).2.1 (rShC_5_2 hsw3) ?_
      refine ea_bipush (pc := 49) dX10_bestFrom_49 (v := 8) rfl ?_
      refine ea_iload (pc := 51) dX10_bestFrom_51 3 rfl ?_
      refine ea_callS (pc := 53) (d' := d - 1) (As := [vI x5]) (st := [vI 8, vR (some 7)]) dX10_bestFrom_53 kX10_trainIn (sX10_trainIn (d := d - 1) (by omega) Ew4) (by omega) rfl (Nat.le_of_ble_eq_true rfl) ew_785 ew_786 ?_
      obtain ⟨z5, E⟩ := gd_some E
      refine ea_imul (pc := 56) dX10_bestFrom_56 ?_
      refine ea_iload (pc := 57) dX10_bestFrom_57 5 rfl ?_
      refine ea_iadd (pc := 59) dX10_bestFrom_59 ?_
      obtain ⟨v6, ev6, E⟩ := let_some E
      refine ea_iald (pc := 60) dX10_bestFrom_60 (cShC_7 hsw4).1 (cShC_7 hsw4).2.1 (ea_vpl (cShC_7 hsw4).2.2 z5) ?_
      obtain ⟨w7, Ew7, E⟩ := bd_some E
      have hsw7 : ShC w7.2 := ShC_core ((kpX10_trainIn _ _) _ Ew7) hsw4
      refine ea_istore (pc := 61) (lv' := [(0, vR (some 13)), (3, vI x3), (4, vI x4), (5, vI x5), (6, vI x6), (7, vI w3.1), (8, vI v6)]) dX10_bestFrom_61 (Nat.le_of_ble_eq_true rfl) [1, 2, 3, 4, 5, 6, 0] (by rw [ev6]; rfl) ?_
      refine ea_aload_n (pc := 63) dX10_bestFrom_63 rfl 0 rfl ?_
      refine ea_getR (pc := 64) dX10_bestFrom_64 ec_10 (k := 2) (Nat.le_of_ble_eq_true rfl) rfl (Or.inl ew_237) (cShC_13 hsw4).1 (cShC_13 hsw4).2.1 (rShC_13_2 hsw4) ?_
      refine ea_iload (pc := 67) dX10_bestFrom_67 3 rfl ?_
      refine ea_callS (pc := 69) (d' := d - 1) (As := [vI x5]) (st := [vR (some 5)]) dX10_bestFrom_69 kX10_trainIn (sX10_trainIn (d := d - 1) (by omega) Ew7) (by omega) rfl (Nat.le_of_ble_eq_true rfl) ew_785 ew_786 ?_
      obtain ⟨w8, Ew8, E⟩ := bd_some E
      have hsw8 : ShC w8.2 := ShC_core ((kpX10_dayIn _ _) _ Ew8) hsw7
      refine ea_iload (pc := 72) dX10_bestFrom_72 3 rfl ?_
      refine ea_callS (pc := 74) (d' := d - 1) (As := [vI x5]) (st := [vI w7.1, vR (some 5)]) dX10_bestFrom_74 kX10_dayIn (sX10_dayIn (d := d - 1) (by omega) Ew8) (by omega) rfl (Nat.le_of_ble_eq_true rfl) ew_826 ew_827 ?_
      obtain ⟨w9, Ew9, E⟩ := bd_some E
      have hsw9 : ShC w9.2 := ShC_core ((kpX9_comesAt _ _ _ _) _ Ew9) hsw8
      refine ea_iload (pc := 77) dX10_bestFrom_77 5 rfl ?_
      refine ea_callV (pc := 79) (d' := d - 1) (As := [vI w7.1, vI w8.1, vI w3.1]) (st := []) dX10_bestFrom_79 kX9_comesAt (sX9_comesAt (d := d - 1) (by omega) hsw8 Ew9) (by omega) rfl (Nat.le_of_ble_eq_true rfl) ew_757 ew_742 ew_743 (ci := 9) rfl (by decide) (cShC_5 hsw8).1 (cShC_5 hsw8).2.1 ?_
      refine ea_istore (pc := 82) (lv' := [(0, vR (some 13)), (3, vI x3), (4, vI x4), (6, vI x6), (8, vI v6), (9, vI w9.1)]) dX10_bestFrom_82 (Nat.le_of_ble_eq_true rfl) [1, 2, 3, 5, 7, 0] rfl ?_
      refine ea_iload (pc := 84) dX10_bestFrom_84 4 rfl ?_
      refine ea_iload_n (pc := 86) dX10_bestFrom_86 rfl 1 rfl ?_
      refine ea_icmp_ne (pc := 87) (tgt := 129) dX10_bestFrom_87 rfl (fun c14 => ?_) (fun c14 => ?_)
      · have E := (if_neg c14).symm.trans E
        obtain ⟨w10, Ew10, E⟩ := bd_some E
        have hsw10 : ShC w10.2 := ShC_core ((kpX10_firstTaken _ _ _ _) _ Ew10) hsw9
        refine ea_aload_n (pc := 129) dX10_bestFrom_129 rfl 0 rfl ?_
        refine ea_iload (pc := 130) dX10_bestFrom_130 4 rfl ?_
        refine ea_iload (pc := 132) dX10_bestFrom_132 5 rfl ?_
        refine ea_iload_n (pc := 134) dX10_bestFrom_134 rfl 1 rfl ?_
        refine ea_callV (pc := 135) (d' := d - 1) (As := [vI v6, vI w9.1, vI x3]) (st := []) dX10_bestFrom_135 kX10_firstTaken (sX10_firstTaken (d := d - 1) (by omega) hsw9 Ew10) (by omega) rfl (Nat.le_of_ble_eq_true rfl) ew_1151 ew_1153 ew_38 (ci := 10) rfl (by decide) (cShC_13 hsw9).1 (cShC_13 hsw9).2.1 ?_
        refine ea_istore (pc := 138) (lv' := [(0, vR (some 13)), (3, vI x3), (4, vI x4), (5, vI w10.1), (6, vI x6)]) dX10_bestFrom_138 (Nat.le_of_ble_eq_true rfl) [1, 2, 3, 0, 4] rfl ?_
        refine ea_iinc (pc := 140) (v := 1) (lv' := [(0, vR (some 13)), (3, vI x3), (4, vI x4), (5, vI w10.1), (6, vI (x6 + (1 : Int32)))]) dX10_bestFrom_140 4 rfl rfl (Nat.le_of_ble_eq_true rfl) [1, 2, 3, 4, 0] rfl ?_
        refine ea_goto (pc := 143) (tgt := 20) dX10_bestFrom_143 rfl ?_
        exact (kJ20 (x3 : Int32) (x4 : Int32) (w10.1 : Int32) ((x6 + (1 : Int32)) : Int32) w10.2 _ _ E hsw10)
      · have E := (if_pos c14).symm.trans E
        obtain ⟨w11, Ew11, E⟩ := bd_some E
        have hsw11 : ShC w11.2 := ShC_core ((kpX10_legOf _ _) _ Ew11) hsw9
        refine ea_iload (pc := 90) dX10_bestFrom_90 5 rfl ?_
        refine ea_i2l (pc := 92) dX10_bestFrom_92 ?_
        refine ea_bipush (pc := 93) dX10_bestFrom_93 (v := 21) rfl ?_
        refine ea_lshl (pc := 95) dX10_bestFrom_95 ?_
        refine ea_iload (pc := 96) dX10_bestFrom_96 3 rfl ?_
        refine ea_bipush (pc := 98) dX10_bestFrom_98 (v := 13) rfl ?_
        refine ea_ishl (pc := 100) dX10_bestFrom_100 ?_
        refine ea_i2l (pc := 101) dX10_bestFrom_101 ?_
        refine ea_lor (pc := 102) dX10_bestFrom_102 ?_
        refine ea_iload (pc := 103) dX10_bestFrom_103 2 rfl ?_
        refine ea_callS (pc := 105) (d' := d - 1) (As := [vI x4]) (st := [vJ (((Int32.toInt64 w9.1) <<< (Int32.toInt64 21 &&& 63)) ||| (Int32.toInt64 (x6 <<< ((13 : Int32) &&& 31))))]) dX10_bestFrom_105 kX10_legOf (sX10_legOf (d := d - 1) (by omega) Ew11) (by omega) rfl (Nat.le_of_ble_eq_true rfl) ew_823 ew_824 ?_
        obtain ⟨w12, Ew12, E⟩ := bd_some E
        have hsw12 : ShC w12.2 := ShC_core ((kpX10_stopIn _ _) _ Ew12) hsw11
        refine ea_i2l (pc := 108) dX10_bestFrom_108 ?_
        refine ea_lor (pc := 109) dX10_bestFrom_109 ?_
        refine ea_iload (pc := 110) dX10_bestFrom_110 2 rfl ?_
        refine ea_callS (pc := 112) (d' := d - 1) (As := [vI x4]) (st := [vJ ((((Int32.toInt64 w9.1) <<< (Int32.toInt64 21 &&& 63)) ||| (Int32.toInt64 (x6 <<< ((13 : Int32) &&& 31)))) ||| (Int32.toInt64 w11.1))]) dX10_bestFrom_112 kX10_stopIn (sX10_stopIn (d := d - 1) (by omega) Ew12) (by omega) rfl (Nat.le_of_ble_eq_true rfl) ew_788 ew_789 ?_
        obtain ⟨w13, Ew13, E⟩ := bd_some E
        have hsw13 : ShC w13.2 := ShC_core ((kpX10_leftBehind _ _ _) _ Ew13) hsw12
        refine ea_iconst (pc := 115) dX10_bestFrom_115 (v := 3) rfl ?_
        refine ea_ishl (pc := 116) dX10_bestFrom_116 ?_
        refine ea_i2l (pc := 117) dX10_bestFrom_117 ?_
        refine ea_lor (pc := 118) dX10_bestFrom_118 ?_
        refine ea_aload_n (pc := 119) dX10_bestFrom_119 rfl 0 rfl ?_
        refine ea_iload (pc := 120) dX10_bestFrom_120 2 rfl ?_
        refine ea_iload_n (pc := 122) dX10_bestFrom_122 rfl 1 rfl ?_
        refine ea_callV (pc := 123) (d' := d - 1) (As := [vI x4, vI x3]) (st := [vJ (((((Int32.toInt64 w9.1) <<< (Int32.toInt64 21 &&& 63)) ||| (Int32.toInt64 (x6 <<< ((13 : Int32) &&& 31)))) ||| (Int32.toInt64 w11.1)) ||| (Int32.toInt64 (w12.1 <<< ((3 : Int32) &&& 31))))]) dX10_bestFrom_123 kX10_leftBehind (sX10_leftBehind (d := d - 1) (by omega) hsw12 Ew13) (by omega) rfl (Nat.le_of_ble_eq_true rfl) ew_1155 ew_872 ew_873 (ci := 10) rfl (by decide) (cShC_13 hsw12).1 (cShC_13 hsw12).2.1 ?_
        refine ea_i2l (pc := 126) dX10_bestFrom_126 ?_
        refine ea_lor (pc := 127) dX10_bestFrom_127 ?_
        exact ea_lretO (pc := 128) dX10_bestFrom_128 rfl E
theorem kBX10_bestFrom_20 {J20 : Int32 → Int32 → Int32 → Int32 → ea_H → Option (Int64 × ea_H)}  (cJ20 : ∀ (x3 : Int32) (x4 : Int32) (x5 : Int32) (x6 : Int32) (h : ea_H), kp (ea_core h) (J20 x3 x4 x5 x6 h)) {x3 : Int32} {x4 : Int32} {x5 : Int32} {x6 : Int32} {h : ea_H} : kp (ea_core h) (BX10_bestFrom_20 J20 x3 x4 x5 x6 h) :=
  (kp_ite (kp_ret rfl) (kp_ite (kp_ret rfl) (kp_bind (kp_tw (kpX10_leftBehind _ _ _) rfl) fun w3 hcw3 => (kp_bind (kp_tw (kpX10_trainIn _ _) hcw3) fun w4 hcw4 => (kp_gd (kp_let (kp_bind (kp_tw (kpX10_trainIn _ _) hcw4) fun w7 hcw7 => (kp_bind (kp_tw (kpX10_dayIn _ _) hcw7) fun w8 hcw8 => (kp_bind (kp_tw (kpX9_comesAt _ _ _ _) hcw8) fun w9 hcw9 => (kp_ite (kp_bind (kp_tw (kpX10_legOf _ _) hcw9) fun w11 hcw11 => (kp_bind (kp_tw (kpX10_stopIn _ _) hcw11) fun w12 hcw12 => (kp_bind (kp_tw (kpX10_leftBehind _ _ _) hcw12) fun w13 hcw13 => (kp_ret hcw13)))) (kp_bind (kp_tw (kpX10_firstTaken _ _ _ _) hcw9) fun w10 hcw10 => (kp_tw (cJ20 _ _ _ _ _) hcw10))))))))))))
theorem lBX10_bestFrom_20 {J20 : Int32 → Int32 → Int32 → Int32 → ea_H → Option (Int64 × ea_H)} {J20_ : Int32 → Int32 → Int32 → Int32 → ea_H → Option (Int64 × ea_H)}  (mJ20 : ∀ (x3 : Int32) (x4 : Int32) (x5 : Int32) (x6 : Int32) (h : ea_H), fle (J20 x3 x4 x5 x6 h) (J20_ x3 x4 x5 x6 h)) {x3 : Int32} {x4 : Int32} {x5 : Int32} {x6 : Int32} {h : ea_H} : fle (BX10_bestFrom_20 J20 x3 x4 x5 x6 h) (BX10_bestFrom_20 J20_ x3 x4 x5 x6 h) :=
  (fle_ite (fle_rfl _) (fle_ite (fle_rfl _) (fle_bind (fle_rfl _) fun _ => (fle_bind (fle_rfl _) fun _ => (fle_gd (fle_let fun _ => (fle_bind (fle_rfl _) fun _ => (fle_bind (fle_rfl _) fun _ => (fle_bind (fle_rfl _) fun _ => (fle_ite (fle_rfl _) (fle_bind (fle_rfl _) fun _ => (mJ20 _ _ _ _ _))))))))))))
theorem nBX10_bestFrom_20 {J20 : Int32 → Int32 → Int32 → Int32 → ea_H → Option (Int64 × ea_H)} {J20_ : Nat → (Int32 → Int32 → Int32 → Int32 → ea_H → Option (Int64 × ea_H))}  (mJ20 : ∀ (x3 : Int32) (x4 : Int32) (x5 : Int32) (x6 : Int32) (h : ea_H), fct (J20 x3 x4 x5 x6 h) (fun f => J20_ f x3 x4 x5 x6 h)) {x3 : Int32} {x4 : Int32} {x5 : Int32} {x6 : Int32} {h : ea_H} : fct (BX10_bestFrom_20 J20 x3 x4 x5 x6 h) (fun f => BX10_bestFrom_20 (J20_ f) x3 x4 x5 x6 h) :=
  (fct_ite (fct_rfl _) (fct_ite (fct_rfl _) (fct_bind (fct_rfl _) fun _ => (fct_bind (fct_rfl _) fun _ => (fct_gd (fct_let fun _ => (fct_bind (fct_rfl _) fun _ => (fct_bind (fct_rfl _) fun _ => (fct_bind (fct_rfl _) fun _ => (fct_ite (fct_rfl _) (fct_bind (fct_rfl _) fun _ => (mJ20 _ _ _ _ _))))))))))))
noncomputable def gX10_bestFrom : Nat → (Int32 → Int32 → Int32 → ea_H → Option (Int64 × ea_H)) × (Int32 → Int32 → Int32 → Int32 → ea_H → Option (Int64 × ea_H))
  | 0 => (fun _ _ _ _ => none, fun _ _ _ _ _ => none)
  | f + 1 => (BX10_bestFrom_0 (gX10_bestFrom f).2, BX10_bestFrom_20 (gX10_bestFrom f).2)
theorem mgX10_bestFrom : ∀ f : Nat, (∀ (x1 : Int32) (x2 : Int32) (x3 : Int32) (h : ea_H), fle ((gX10_bestFrom f).1 x1 x2 x3 h) ((gX10_bestFrom (f + 1)).1 x1 x2 x3 h)) ∧ (∀ (x3 : Int32) (x4 : Int32) (x5 : Int32) (x6 : Int32) (h : ea_H), fle ((gX10_bestFrom f).2 x3 x4 x5 x6 h) ((gX10_bestFrom (f + 1)).2 x3 x4 x5 x6 h)) := by
  intro f
  induction f with
  | zero => exact ⟨fun _ _ _ _ => fle_none _, fun _ _ _ _ _ => fle_none _⟩
  | succ f ih => exact ⟨fun _ _ _ _ => lBX10_bestFrom_0 ih.2, fun _ _ _ _ _ => lBX10_bestFrom_20 ih.2⟩
noncomputable def qX10_bestFrom_0 (x1 : Int32) (x2 : Int32) (x3 : Int32) (h : ea_H) : Option (Int64 × ea_H) := flim fun f => (gX10_bestFrom f).1 x1 x2 x3 h
noncomputable def qX10_bestFrom_20 (x3 : Int32) (x4 : Int32) (x5 : Int32) (x6 : Int32) (h : ea_H) : Option (Int64 × ea_H) := flim fun f => (gX10_bestFrom f).2 x3 x4 x5 x6 h
theorem fqX10_bestFrom_0 (x1 : Int32) (x2 : Int32) (x3 : Int32) (h : ea_H) : fct (qX10_bestFrom_0 x1 x2 x3 h) fun f => (gX10_bestFrom f).1 x1 x2 x3 h := flim_ct fun f => (mgX10_bestFrom f).1 x1 x2 x3 h
theorem fqX10_bestFrom_20 (x3 : Int32) (x4 : Int32) (x5 : Int32) (x6 : Int32) (h : ea_H) : fct (qX10_bestFrom_20 x3 x4 x5 x6 h) fun f => (gX10_bestFrom f).2 x3 x4 x5 x6 h := flim_ct fun f => (mgX10_bestFrom f).2 x3 x4 x5 x6 h
/-- how a block opens -/
theorem uqX10_bestFrom_0 {x1 : Int32} {x2 : Int32} {x3 : Int32} {h : ea_H} {P : Int64 × ea_H → Prop} (H : sat (BX10_bestFrom_0 qX10_bestFrom_20 x1 x2 x3 h) P) : sat (qX10_bestFrom_0 x1 x2 x3 h) P := by
  obtain ⟨x, e, hp⟩ := H
  obtain ⟨n, hn⟩ := nBX10_bestFrom_0 fqX10_bestFrom_20 x e
  exact ⟨x, flim_at (fun f => (mgX10_bestFrom f).1 x1 x2 x3 h) (f := n + 1) (hn n (Nat.le_refl _)), hp⟩
/-- how a block opens -/
theorem uqX10_bestFrom_20 {x3 : Int32} {x4 : Int32} {x5 : Int32} {x6 : Int32} {h : ea_H} {P : Int64 × ea_H → Prop} (H : sat (BX10_bestFrom_20 qX10_bestFrom_20 x3 x4 x5 x6 h) P) : sat (qX10_bestFrom_20 x3 x4 x5 x6 h) P := by
  obtain ⟨x, e, hp⟩ := H
  obtain ⟨n, hn⟩ := nBX10_bestFrom_20 fqX10_bestFrom_20 x e
  exact ⟨x, flim_at (fun f => (mgX10_bestFrom f).2 x3 x4 x5 x6 h) (f := n + 1) (hn n (Nat.le_refl _)), hp⟩
theorem kgX10_bestFrom : ∀ f : Nat, (∀ (x1 : Int32) (x2 : Int32) (x3 : Int32) (h : ea_H), kp (ea_core h) ((gX10_bestFrom f).1 x1 x2 x3 h)) ∧ (∀ (x3 : Int32) (x4 : Int32) (x5 : Int32) (x6 : Int32) (h : ea_H), kp (ea_core h) ((gX10_bestFrom f).2 x3 x4 x5 x6 h)) := by
  intro f
  induction f with
  | zero => exact ⟨fun _ _ _ _ => kp_none _, fun _ _ _ _ _ => kp_none _⟩
  | succ f ih => exact ⟨fun _ _ _ _ => kBX10_bestFrom_0 ih.2, fun _ _ _ _ _ => kBX10_bestFrom_20 ih.2⟩
theorem tgX10_bestFrom {d : Nat} {h0 : ea_H} (hd : 6 ≤ d) : ∀ f : Nat, (∀ (x1 : Int32) (x2 : Int32) (x3 : Int32) (h : ea_H) (r : Int64) (h' : ea_H), (gX10_bestFrom f).1 x1 x2 x3 h = some (r, h') → ShC h → ea_W mX10_bestFrom d h0 (some (vJ r)) h' 0 [(0, vR (some 13)), (1, vI x1), (2, vI x2), (3, vI x3)] [] h) ∧ (∀ (x3 : Int32) (x4 : Int32) (x5 : Int32) (x6 : Int32) (h : ea_H) (r : Int64) (h' : ea_H), (gX10_bestFrom f).2 x3 x4 x5 x6 h = some (r, h') → ShC h → ea_W mX10_bestFrom d h0 (some (vJ r)) h' 20 [(0, vR (some 13)), (3, vI x3), (4, vI x4), (5, vI x5), (6, vI x6)] [] h) := by
  intro f
  induction f with
  | zero => exact ⟨fun _ _ _ _ _ _ E => no_some E, fun _ _ _ _ _ _ _ E => no_some E⟩
  | succ f ih => exact ⟨fun _ _ _ _ _ _ E hs => tBX10_bestFrom_0 hd ih.2 E hs, fun _ _ _ _ _ _ _ E hs => tBX10_bestFrom_20 hd ih.2 E hs⟩
noncomputable def qX10_bestFrom (x1 : Int32) (x2 : Int32) (x3 : Int32) (h : ea_H) : Option (Int64 × ea_H) := qX10_bestFrom_0 x1 x2 x3 h
theorem sX10_bestFrom {d : Nat} {x1 : Int32} {x2 : Int32} {x3 : Int32} {h : ea_H} {r : Int64} {h' : ea_H} (hd : 6 ≤ d) (hs : ShC h) (K : qX10_bestFrom x1 x2 x3 h = some (r, h')) : ea_Met mX10_bestFrom d [vR (some 13), vI x1, vI x2, vI x3] h (some (vJ r)) h' := by
  unfold qX10_bestFrom at K
  obtain ⟨n, hn⟩ := fqX10_bestFrom_0 x1 x2 x3 h _ K
  have W := (tgX10_bestFrom (d := d) (h0 := h) hd n).1 x1 x2 x3 h _ _ (hn n (Nat.le_refl _)) hs
  exact ea_enter rfl (Nat.le_of_ble_eq_true rfl) W
theorem kpX10_bestFrom (x1 : Int32) (x2 : Int32) (x3 : Int32) (h : ea_H) : kp (ea_core h) (qX10_bestFrom x1 x2 x3 h) := fun x e => by
  obtain ⟨n, hn⟩ := fqX10_bestFrom_0 x1 x2 x3 h x e
  exact (kgX10_bestFrom n).1 x1 x2 x3 h x (hn n (Nat.le_refl _))
noncomputable def BX11_way_0 (x1 : Int32) (x2 : Int32) (x3 : Int32) (x4 : Int32) (h : ea_H) : Option (Int32 × ea_H) :=
  (Option.bind (qX7_has (x1 : Int32) h) fun w1 => (if w1.1 = (0 : Int32) then (some (((-1) : Int32), w1.2)) else (Option.bind (qX7_has (x3 : Int32) w1.2) fun w2 => (if w2.1 = (0 : Int32) then (some (((-1) : Int32), w2.2)) else (if x1 = x3 then (some (((-1) : Int32), w2.2)) else (if x2 < (ea_i w2.2 0 14) then (some (((-1) : Int32), w2.2)) else (if x2 ≤ (10079 : Int32) then (Option.bind (qX10_bestFrom (x1 : Int32) (x2 : Int32) (x3 : Int32) w2.2) fun w3 => (if (lg_cmp w3.1 (4611686018427387904 : Int64)) = (0 : Int32) then (some (((-1) : Int32), w3.2)) else (if Int32.toInt x4 = 0 then (Option.bind (qX10_minuteOf (w3.1 : Int64) w3.2) fun w9 => (some (w9.1, w9.2))) else (if Int32.toInt x4 = 1 then (Option.bind (qX10_runsOf (w3.1 : Int64) w3.2) fun w8 => (some (w8.1, w8.2))) else (if Int32.toInt x4 = 2 then (Option.bind (qX10_trainOf (w3.1 : Int64) w3.2) fun w7 => (some (w7.1, w7.2))) else (if Int32.toInt x4 = 3 then (Option.bind (qX10_dayOf (w3.1 : Int64) w3.2) fun w6 => (some (w6.1, w6.2))) else (if Int32.toInt x4 = 4 then (Option.bind (qX10_takenOf (w3.1 : Int64) w3.2) fun w5 => (some (w5.1, w5.2))) else (if Int32.toInt x4 = 5 then (Option.bind (qX10_leftOf (w3.1 : Int64) w3.2) fun w4 => (some (w4.1, w4.2))) else (some (((-1) : Int32), w3.2)))))))))) else (some (((-1) : Int32), w2.2)))))))))
theorem tBX11_way_0 {d : Nat} {h0 : ea_H} (hd : 7 ≤ d)  {x1 : Int32} {x2 : Int32} {x3 : Int32} {x4 : Int32} {h : ea_H} {r : Int32} {h' : ea_H} (E : BX11_way_0 x1 x2 x3 x4 h = some (r, h')) (hs : ShC h) : ea_W mX11_way d h0 (some (vI r)) h' 0 [(0, vR (some 0)), (1, vI x1), (2, vI x2), (3, vI x3), (4, vI x4)] [] h := by
  unfold BX11_way_0 at E
  obtain ⟨w1, Ew1, E⟩ := bd_some E
  have hsw1 : ShC w1.2 := ShC_core ((kpX7_has _ _) _ Ew1) hs
  refine ea_aload_n (pc := 0) dX11_way_0 rfl 0 rfl ?_
  refine ea_getR (pc := 1) dX11_way_1 ec_11 (k := 0) (Nat.le_of_ble_eq_true rfl) rfl (Or.inl ew_614) (cShC_0 hs).1 (cShC_0 hs).2.1 (rShC_0_0 hs) ?_
  refine ea_iload_n (pc := 4) dX11_way_4 rfl 1 rfl ?_
  refine ea_callV (pc := 5) (d' := d - 1) (As := [vI x1]) (st := []) dX11_way_5 kX7_has (sX7_has (d := d - 1) (by omega) hs Ew1) (by omega) rfl (Nat.le_of_ble_eq_true rfl) ew_680 ew_681 ew_682 (ci := 7) rfl (by decide) (cShC_1 hs).1 (cShC_1 hs).2.1 ?_
  refine ea_if_eq (pc := 8) (tgt := 42) dX11_way_8 rfl (fun c15 => ?_) (fun c15 => ?_)
  · have E := (if_pos c15).symm.trans E
    refine ea_iconst (pc := 42) dX11_way_42 (v := (-1)) rfl ?_
    exact ea_iretO (pc := 43) dX11_way_43 rfl rfl E
  · have E := (if_neg c15).symm.trans E
    obtain ⟨w2, Ew2, E⟩ := bd_some E
    have hsw2 : ShC w2.2 := ShC_core ((kpX7_has _ _) _ Ew2) hsw1
    refine ea_aload_n (pc := 11) dX11_way_11 rfl 0 rfl ?_
    refine ea_getR (pc := 12) dX11_way_12 ec_11 (k := 0) (Nat.le_of_ble_eq_true rfl) rfl (Or.inl ew_614) (cShC_0 hsw1).1 (cShC_0 hsw1).2.1 (rShC_0_0 hsw1) ?_
    refine ea_iload_n (pc := 15) dX11_way_15 rfl 3 rfl ?_
    refine ea_callV (pc := 16) (d' := d - 1) (As := [vI x3]) (st := []) dX11_way_16 kX7_has (sX7_has (d := d - 1) (by omega) hsw1 Ew2) (by omega) rfl (Nat.le_of_ble_eq_true rfl) ew_680 ew_681 ew_682 (ci := 7) rfl (by decide) (cShC_1 hsw1).1 (cShC_1 hsw1).2.1 ?_
    refine ea_if_eq (pc := 19) (tgt := 42) dX11_way_19 rfl (fun c14 => ?_) (fun c14 => ?_)
    · have E := (if_pos c14).symm.trans E
      refine ea_iconst (pc := 42) dX11_way_42 (v := (-1)) rfl ?_
      exact ea_iretO (pc := 43) dX11_way_43 rfl rfl E
    · have E := (if_neg c14).symm.trans E
      refine ea_iload_n (pc := 22) dX11_way_22 rfl 1 rfl ?_
      refine ea_iload_n (pc := 23) dX11_way_23 rfl 3 rfl ?_
      refine ea_icmp_eq (pc := 24) (tgt := 42) dX11_way_24 rfl (fun c13 => ?_) (fun c13 => ?_)
      · have E := (if_pos c13).symm.trans E
        refine ea_iconst (pc := 42) dX11_way_42 (v := (-1)) rfl ?_
        exact ea_iretO (pc := 43) dX11_way_43 rfl rfl E
      · have E := (if_neg c13).symm.trans E
        refine ea_iload_n (pc := 27) dX11_way_27 rfl 2 rfl ?_
        refine ea_aload_n (pc := 28) dX11_way_28 rfl 0 rfl ?_
        refine ea_getI (pc := 29) dX11_way_29 ec_11 (k := 14) (Nat.le_of_ble_eq_true rfl) rfl (Or.inl ew_628) (cShC_0 hsw2).1 (cShC_0 hsw2).2.1 ?_
        refine ea_icmp_lt (pc := 32) (tgt := 42) dX11_way_32 rfl (fun c12 => ?_) (fun c12 => ?_)
        · have E := (if_pos c12).symm.trans E
          refine ea_iconst (pc := 42) dX11_way_42 (v := (-1)) rfl ?_
          exact ea_iretO (pc := 43) dX11_way_43 rfl rfl E
        · have E := (if_neg c12).symm.trans E
          refine ea_iload_n (pc := 35) dX11_way_35 rfl 2 rfl ?_
          refine ea_sipush (pc := 36) dX11_way_36 (v := 10079) rfl ?_
          refine ea_icmp_le (pc := 39) (tgt := 44) dX11_way_39 rfl (fun c11 => ?_) (fun c11 => ?_)
          · have E := (if_pos c11).symm.trans E
            obtain ⟨w3, Ew3, E⟩ := bd_some E
            have hsw3 : ShC w3.2 := ShC_core ((kpX10_bestFrom _ _ _ _) _ Ew3) hsw2
            refine ea_aload_n (pc := 44) dX11_way_44 rfl 0 rfl ?_
            refine ea_getR (pc := 45) dX11_way_45 ec_11 (k := 2) (Nat.le_of_ble_eq_true rfl) rfl (Or.inl ew_616) (cShC_0 hsw2).1 (cShC_0 hsw2).2.1 (rShC_0_2 hsw2) ?_
            refine ea_iload_n (pc := 48) dX11_way_48 rfl 1 rfl ?_
            refine ea_iload_n (pc := 49) dX11_way_49 rfl 2 rfl ?_
            refine ea_iload_n (pc := 50) dX11_way_50 rfl 3 rfl ?_
            refine ea_callV (pc := 51) (d' := d - 1) (As := [vI x1, vI x2, vI x3]) (st := []) dX11_way_51 kX10_bestFrom (sX10_bestFrom (d := d - 1) (by omega) hsw2 Ew3) (by omega) rfl (Nat.le_of_ble_eq_true rfl) ew_1146 ew_1147 ew_1148 (ci := 10) rfl (by decide) (cShC_13 hsw2).1 (cShC_13 hsw2).2.1 ?_
            refine ea_lstore (pc := 54) (lv' := [(4, vI x4), (5, vJ w3.1)]) dX11_way_54 (Nat.le_of_ble_eq_true rfl) [5, 0] rfl ?_
            refine ea_lload (pc := 56) dX11_way_56 1 rfl ?_
            refine ea_ldc2 (pc := 58) dX11_way_58 ew_1156 ?_
            refine ea_lcmp (pc := 61) dX11_way_61 ?_
            refine ea_if_ne (pc := 62) (tgt := 67) dX11_way_62 rfl (fun c10 => ?_) (fun c10 => ?_)
            · have E := (if_neg c10).symm.trans E
              refine ea_iload (pc := 67) dX11_way_67 0 rfl ?_
              by_cases q69_0 : Int32.toInt x4 = 0
              · have E := (if_pos q69_0).symm.trans E
                obtain ⟨w9, Ew9, E⟩ := bd_some E
                have hsw9 : ShC w9.2 := ShC_core ((kpX10_minuteOf _ _) _ Ew9) hsw3
                refine ea_tswIn (pc := 69) (tgt := 108) dX11_way_69 (by rw [q69_0]; decide) (by rw [q69_0]; decide) (by rw [q69_0]; rfl) rfl ?_
                refine ea_lload (pc := 108) dX11_way_108 1 rfl ?_
                refine ea_callS (pc := 110) (d' := d - 1) (As := [vJ w3.1]) (st := []) dX11_way_110 kX10_minuteOf (sX10_minuteOf (d := d - 1) (by omega) Ew9) (by omega) rfl (Nat.le_of_ble_eq_true rfl) ew_1157 ew_1158 ?_
                exact ea_iretO (pc := 113) dX11_way_113 rfl rfl E
              have E := (if_neg q69_0).symm.trans E
              by_cases q69_1 : Int32.toInt x4 = 1
              · have E := (if_pos q69_1).symm.trans E
                obtain ⟨w8, Ew8, E⟩ := bd_some E
                have hsw8 : ShC w8.2 := ShC_core ((kpX10_runsOf _ _) _ Ew8) hsw3
                refine ea_tswIn (pc := 69) (tgt := 114) dX11_way_69 (by rw [q69_1]; decide) (by rw [q69_1]; decide) (by rw [q69_1]; rfl) rfl ?_
                refine ea_lload (pc := 114) dX11_way_114 1 rfl ?_
                refine ea_callS (pc := 116) (d' := d - 1) (As := [vJ w3.1]) (st := []) dX11_way_116 kX10_runsOf (sX10_runsOf (d := d - 1) (by omega) Ew8) (by omega) rfl (Nat.le_of_ble_eq_true rfl) ew_1160 ew_1161 ?_
                exact ea_iretO (pc := 119) dX11_way_119 rfl rfl E
              have E := (if_neg q69_1).symm.trans E
              by_cases q69_2 : Int32.toInt x4 = 2
              · have E := (if_pos q69_2).symm.trans E
                obtain ⟨w7, Ew7, E⟩ := bd_some E
                have hsw7 : ShC w7.2 := ShC_core ((kpX10_trainOf _ _) _ Ew7) hsw3
                refine ea_tswIn (pc := 69) (tgt := 120) dX11_way_69 (by rw [q69_2]; decide) (by rw [q69_2]; decide) (by rw [q69_2]; rfl) rfl ?_
                refine ea_lload (pc := 120) dX11_way_120 1 rfl ?_
                refine ea_callS (pc := 122) (d' := d - 1) (As := [vJ w3.1]) (st := []) dX11_way_122 kX10_trainOf (sX10_trainOf (d := d - 1) (by omega) Ew7) (by omega) rfl (Nat.le_of_ble_eq_true rfl) ew_1163 ew_803 ?_
                exact ea_iretO (pc := 125) dX11_way_125 rfl rfl E
              have E := (if_neg q69_2).symm.trans E
              by_cases q69_3 : Int32.toInt x4 = 3
              · have E := (if_pos q69_3).symm.trans E
                obtain ⟨w6, Ew6, E⟩ := bd_some E
                have hsw6 : ShC w6.2 := ShC_core ((kpX10_dayOf _ _) _ Ew6) hsw3
                refine ea_tswIn (pc := 69) (tgt := 126) dX11_way_69 (by rw [q69_3]; decide) (by rw [q69_3]; decide) (by rw [q69_3]; rfl) rfl ?_
                refine ea_lload (pc := 126) dX11_way_126 1 rfl ?_
                refine ea_callS (pc := 128) (d' := d - 1) (As := [vJ w3.1]) (st := []) dX11_way_128 kX10_dayOf (sX10_dayOf (d := d - 1) (by omega) Ew6) (by omega) rfl (Nat.le_of_ble_eq_true rfl) ew_1164 ew_806 ?_
                exact ea_iretO (pc := 131) dX11_way_131 rfl rfl E
              have E := (if_neg q69_3).symm.trans E
              by_cases q69_4 : Int32.toInt x4 = 4
              · have E := (if_pos q69_4).symm.trans E
                obtain ⟨w5, Ew5, E⟩ := bd_some E
                have hsw5 : ShC w5.2 := ShC_core ((kpX10_takenOf _ _) _ Ew5) hsw3
                refine ea_tswIn (pc := 69) (tgt := 132) dX11_way_69 (by rw [q69_4]; decide) (by rw [q69_4]; decide) (by rw [q69_4]; rfl) rfl ?_
                refine ea_lload (pc := 132) dX11_way_132 1 rfl ?_
                refine ea_callS (pc := 134) (d' := d - 1) (As := [vJ w3.1]) (st := []) dX11_way_134 kX10_takenOf (sX10_takenOf (d := d - 1) (by omega) Ew5) (by omega) rfl (Nat.le_of_ble_eq_true rfl) ew_1165 ew_809 ?_
                exact ea_iretO (pc := 137) dX11_way_137 rfl rfl E
              have E := (if_neg q69_4).symm.trans E
              by_cases q69_5 : Int32.toInt x4 = 5
              · have E := (if_pos q69_5).symm.trans E
                obtain ⟨w4, Ew4, E⟩ := bd_some E
                have hsw4 : ShC w4.2 := ShC_core ((kpX10_leftOf _ _) _ Ew4) hsw3
                refine ea_tswIn (pc := 69) (tgt := 138) dX11_way_69 (by rw [q69_5]; decide) (by rw [q69_5]; decide) (by rw [q69_5]; rfl) rfl ?_
                refine ea_lload (pc := 138) dX11_way_138 1 rfl ?_
                refine ea_callS (pc := 140) (d' := d - 1) (As := [vJ w3.1]) (st := []) dX11_way_140 kX10_leftOf (sX10_leftOf (d := d - 1) (by omega) Ew4) (by omega) rfl (Nat.le_of_ble_eq_true rfl) ew_1166 ew_1167 ?_
                exact ea_iretO (pc := 143) dX11_way_143 rfl rfl E
              have E := (if_neg q69_5).symm.trans E
              refine ea_tswOut (pc := 69) (tgt := 144) dX11_way_69 (ea_sw_0_5 q69_0 q69_1 q69_2 q69_3 q69_4 q69_5) rfl ?_
              refine ea_iconst (pc := 144) dX11_way_144 (v := (-1)) rfl ?_
              exact ea_iretO (pc := 145) dX11_way_145 rfl rfl E
            · have E := (if_pos c10).symm.trans E
              refine ea_iconst (pc := 65) dX11_way_65 (v := (-1)) rfl ?_
              exact ea_iretO (pc := 66) dX11_way_66 rfl rfl E
          · have E := (if_neg c11).symm.trans E
            refine ea_iconst (pc := 42) dX11_way_42 (v := (-1)) rfl ?_
            exact ea_iretO (pc := 43) dX11_way_43 rfl rfl E
theorem kBX11_way_0  {x1 : Int32} {x2 : Int32} {x3 : Int32} {x4 : Int32} {h : ea_H} : kp (ea_core h) (BX11_way_0 x1 x2 x3 x4 h) :=
  (kp_bind (kp_tw (kpX7_has _ _) rfl) fun w1 hcw1 => (kp_ite (kp_ret hcw1) (kp_bind (kp_tw (kpX7_has _ _) hcw1) fun w2 hcw2 => (kp_ite (kp_ret hcw2) (kp_ite (kp_ret hcw2) (kp_ite (kp_ret hcw2) (kp_ite (kp_bind (kp_tw (kpX10_bestFrom _ _ _ _) hcw2) fun w3 hcw3 => (kp_ite (kp_ret hcw3) (kp_ite (kp_bind (kp_tw (kpX10_minuteOf _ _) hcw3) fun w9 hcw9 => (kp_ret hcw9)) (kp_ite (kp_bind (kp_tw (kpX10_runsOf _ _) hcw3) fun w8 hcw8 => (kp_ret hcw8)) (kp_ite (kp_bind (kp_tw (kpX10_trainOf _ _) hcw3) fun w7 hcw7 => (kp_ret hcw7)) (kp_ite (kp_bind (kp_tw (kpX10_dayOf _ _) hcw3) fun w6 hcw6 => (kp_ret hcw6)) (kp_ite (kp_bind (kp_tw (kpX10_takenOf _ _) hcw3) fun w5 hcw5 => (kp_ret hcw5)) (kp_ite (kp_bind (kp_tw (kpX10_leftOf _ _) hcw3) fun w4 hcw4 => (kp_ret hcw4)) (kp_ret hcw3))))))))) (kp_ret hcw2))))))))
noncomputable def qX11_way (x1 : Int32) (x2 : Int32) (x3 : Int32) (x4 : Int32) (h : ea_H) : Option (Int32 × ea_H) := BX11_way_0 x1 x2 x3 x4 h
theorem sX11_way {d : Nat} {x1 : Int32} {x2 : Int32} {x3 : Int32} {x4 : Int32} {h : ea_H} {r : Int32} {h' : ea_H} (hd : 7 ≤ d) (hs : ShC h) (K : qX11_way x1 x2 x3 x4 h = some (r, h')) : ea_Met mX11_way d [vR (some 0), vI x1, vI x2, vI x3, vI x4] h (some (vI r)) h' := by
  unfold qX11_way at K
  have W := tBX11_way_0 hd (h0 := h) K hs
  exact ea_enter rfl (Nat.le_of_ble_eq_true rfl) W
theorem kpX11_way (x1 : Int32) (x2 : Int32) (x3 : Int32) (x4 : Int32) (h : ea_H) : kp (ea_core h) (qX11_way x1 x2 x3 x4 h) := kBX11_way_0
noncomputable def BX11_tried_0 (J22 : Option Nat → Int64 → Int32 → ea_H → Option (Int64 × ea_H)) (x1 : Int32) (h : ea_H) : Option (Int64 × ea_H) :=
  (Option.bind (qX8_actOf (x1 : Int32) h) fun w1 => (if w1.1 = none then (some (((-1) : Int64), w1.2)) else (J22 (w1.1 : Option Nat) (0 : Int64) (0 : Int32) w1.2)))
theorem tBX11_tried_0 {d : Nat} {h0 : ea_H} (hd : 5 ≤ d) {J22 : Option Nat → Int64 → Int32 → ea_H → Option (Int64 × ea_H)}  (kJ22 : ∀ (r2 : Option Nat) (y3 : Int64) (x5 : Int32) (h : ea_H) (r : Int64) (h' : ea_H), J22 r2 y3 x5 h = some (r, h') → ShC h → ea_W mX11_tried d h0 (some (vJ r)) h' 22 [(0, vR (some 0)), (2, vR r2), (3, vJ y3), (5, vI x5)] [] h) {x1 : Int32} {h : ea_H} {r : Int64} {h' : ea_H} (E : BX11_tried_0 J22 x1 h = some (r, h')) (hs : ShC h) : ea_W mX11_tried d h0 (some (vJ r)) h' 0 [(0, vR (some 0)), (1, vI x1)] [] h := by
  unfold BX11_tried_0 at E
  obtain ⟨w1, Ew1, E⟩ := bd_some E
  have hsw1 : ShC w1.2 := ShC_core ((kpX8_actOf _ _) _ Ew1) hs
  refine ea_aload_n (pc := 0) dX11_tried_0 rfl 0 rfl ?_
  refine ea_getR (pc := 1) dX11_tried_1 ec_11 (k := 4) (Nat.le_of_ble_eq_true rfl) rfl (Or.inl ew_618) (cShC_0 hs).1 (cShC_0 hs).2.1 (rShC_0_4 hs) ?_
  refine ea_iload_n (pc := 4) dX11_tried_4 rfl 1 rfl ?_
  refine ea_callV (pc := 5) (d' := d - 1) (As := [vI x1]) (st := []) dX11_tried_5 kX8_actOf (sX8_actOf (d := d - 1) (by omega) hs Ew1) (by omega) rfl (Nat.le_of_ble_eq_true rfl) ew_1061 ew_1062 ew_1063 (ci := 8) rfl (by decide) (cShC_23 hs).1 (cShC_23 hs).2.1 ?_
  refine ea_astore_n (pc := 8) (lv' := [(0, vR (some 0)), (2, vR w1.1)]) dX11_tried_8 rfl (Nat.le_of_ble_eq_true rfl) [1, 0] rfl ?_
  refine ea_aload_n (pc := 9) dX11_tried_9 rfl 1 rfl ?_
  refine ea_ifnonnull (pc := 10) (tgt := 17) dX11_tried_10 rfl (fun a3 c2 => ?_) (fun c2 => ?_)
  · have c2n : ¬ w1.1 = none := by rw [c2]; exact fun q => nomatch q
    have E := (if_neg c2n).symm.trans E
    refine ea_lconst (pc := 17) dX11_tried_17 (v := 0) rfl ?_
    refine ea_lstore_n (pc := 18) (lv' := [(0, vR (some 0)), (2, vR w1.1), (3, vJ 0)]) dX11_tried_18 rfl (Nat.le_of_ble_eq_true rfl) [1, 2, 0] rfl ?_
    refine ea_iconst (pc := 19) dX11_tried_19 (v := 0) rfl ?_
    refine ea_istore (pc := 20) (lv' := [(0, vR (some 0)), (2, vR w1.1), (3, vJ 0), (5, vI 0)]) dX11_tried_20 (Nat.le_of_ble_eq_true rfl) [1, 2, 3, 0] rfl ?_
    exact (kJ22 (w1.1 : Option Nat) (0 : Int64) (0 : Int32) w1.2 _ _ E hsw1)
  · have E := (if_pos c2).symm.trans E
    refine ea_ldc2 (pc := 13) dX11_tried_13 ew_1281 ?_
    exact ea_lretO (pc := 16) dX11_tried_16 rfl E
theorem kBX11_tried_0 {J22 : Option Nat → Int64 → Int32 → ea_H → Option (Int64 × ea_H)}  (cJ22 : ∀ (r2 : Option Nat) (y3 : Int64) (x5 : Int32) (h : ea_H), kp (ea_core h) (J22 r2 y3 x5 h)) {x1 : Int32} {h : ea_H} : kp (ea_core h) (BX11_tried_0 J22 x1 h) :=
  (kp_bind (kp_tw (kpX8_actOf _ _) rfl) fun w1 hcw1 => (kp_ite (kp_ret hcw1) (kp_tw (cJ22 _ _ _ _) hcw1)))
theorem lBX11_tried_0 {J22 : Option Nat → Int64 → Int32 → ea_H → Option (Int64 × ea_H)} {J22_ : Option Nat → Int64 → Int32 → ea_H → Option (Int64 × ea_H)}  (mJ22 : ∀ (r2 : Option Nat) (y3 : Int64) (x5 : Int32) (h : ea_H), fle (J22 r2 y3 x5 h) (J22_ r2 y3 x5 h)) {x1 : Int32} {h : ea_H} : fle (BX11_tried_0 J22 x1 h) (BX11_tried_0 J22_ x1 h) :=
  (fle_bind (fle_rfl _) fun _ => (fle_ite (fle_rfl _) (mJ22 _ _ _ _)))
theorem nBX11_tried_0 {J22 : Option Nat → Int64 → Int32 → ea_H → Option (Int64 × ea_H)} {J22_ : Nat → (Option Nat → Int64 → Int32 → ea_H → Option (Int64 × ea_H))}  (mJ22 : ∀ (r2 : Option Nat) (y3 : Int64) (x5 : Int32) (h : ea_H), fct (J22 r2 y3 x5 h) (fun f => J22_ f r2 y3 x5 h)) {x1 : Int32} {h : ea_H} : fct (BX11_tried_0 J22 x1 h) (fun f => BX11_tried_0 (J22_ f) x1 h) :=
  (fct_bind (fct_rfl _) fun _ => (fct_ite (fct_rfl _) (mJ22 _ _ _ _)))
noncomputable def BX11_tried_22 (J22 : Option Nat → Int64 → Int32 → ea_H → Option (Int64 × ea_H)) (r2 : Option Nat) (y3 : Int64) (x5 : Int32) (h : ea_H) : Option (Int64 × ea_H) :=
  (if (ea_i h 52 0) ≤ x5 then (some (y3, h)) else (gd (vp_in x5 120) (Option.bind (qX8_chargeBy (r2 : Option Nat) ((ea_r h 49 (Int32.toNatClampNeg x5)) : Option Nat) h) fun w5 => (ea_let (y3 + (Int32.toInt64 w5.1)) fun (v6 : Int64) => (J22 (r2 : Option Nat) (v6 : Int64) ((x5 + (1 : Int32)) : Int32) w5.2)))))
theorem tBX11_tried_22 {d : Nat} {h0 : ea_H} (hd : 5 ≤ d) {J22 : Option Nat → Int64 → Int32 → ea_H → Option (Int64 × ea_H)}  (kJ22 : ∀ (r2 : Option Nat) (y3 : Int64) (x5 : Int32) (h : ea_H) (r : Int64) (h' : ea_H), J22 r2 y3 x5 h = some (r, h') → ShC h → ea_W mX11_tried d h0 (some (vJ r)) h' 22 [(0, vR (some 0)), (2, vR r2), (3, vJ y3), (5, vI x5)] [] h) {r2 : Option Nat} {y3 : Int64} {x5 : Int32} {h : ea_H} {r : Int64} {h' : ea_H} (E : BX11_tried_22 J22 r2 y3 x5 h = some (r, h')) (hs : ShC h) : ea_W mX11_tried d h0 (some (vJ r)) h' 22 [(0, vR (some 0)), (2, vR r2), (3, vJ y3), (5, vI x5)] [] h := by
  unfold BX11_tried_22 at E
  refine ea_iload (pc := 22) dX11_tried_22 3 rfl ?_
  refine ea_aload_n (pc := 24) dX11_tried_24 rfl 0 rfl ?_
  refine ea_getR (pc := 25) dX11_tried_25 ec_11 (k := 7) (Nat.le_of_ble_eq_true rfl) rfl (Or.inl ew_621) (cShC_0 hs).1 (cShC_0 hs).2.1 (rShC_0_7 hs) ?_
  refine ea_getI (pc := 28) dX11_tried_28 ec_1 (k := 0) (Nat.le_of_ble_eq_true rfl) rfl (Or.inl ew_442) (cShC_52 hs).1 (cShC_52 hs).2.1 ?_
  refine ea_icmp_ge (pc := 31) (tgt := 59) dX11_tried_31 rfl (fun c7 => ?_) (fun c7 => ?_)
  · have E := (if_pos c7).symm.trans E
    refine ea_lload_n (pc := 59) dX11_tried_59 rfl 2 rfl ?_
    exact ea_lretO (pc := 60) dX11_tried_60 rfl E
  · have E := (if_neg c7).symm.trans E
    obtain ⟨z4, E⟩ := gd_some E
    refine ea_lload_n (pc := 34) dX11_tried_34 rfl 2 rfl ?_
    refine ea_aload_n (pc := 35) dX11_tried_35 rfl 0 rfl ?_
    refine ea_getR (pc := 36) dX11_tried_36 ec_11 (k := 4) (Nat.le_of_ble_eq_true rfl) rfl (Or.inl ew_618) (cShC_0 hs).1 (cShC_0 hs).2.1 (rShC_0_4 hs) ?_
    refine ea_aload_n (pc := 39) dX11_tried_39 rfl 1 rfl ?_
    refine ea_aload_n (pc := 40) dX11_tried_40 rfl 0 rfl ?_
    refine ea_getR (pc := 41) dX11_tried_41 ec_11 (k := 5) (Nat.le_of_ble_eq_true rfl) rfl (Or.inl ew_619) (cShC_0 hs).1 (cShC_0 hs).2.1 (rShC_0_5 hs) ?_
    refine ea_iload (pc := 44) dX11_tried_44 3 rfl ?_
    obtain ⟨w5, Ew5, E⟩ := bd_some E
    have hsw5 : ShC w5.2 := ShC_core ((kpX8_chargeBy _ _ _) _ Ew5) hs
    refine ea_aald23 (pc := 46) dX11_tried_46 (cShC_49 hs).1 (cShC_49 hs).2.1 (ea_vpl (cShC_49 hs).2.2 z4) rfl ?_
    refine ea_callV (pc := 47) (d' := d - 1) (As := [vR r2, vR (ea_r h 49 (Int32.toNatClampNeg x5))]) (st := [vJ y3]) dX11_tried_47 kX8_chargeBy (sX8_chargeBy (d := d - 1) (by omega) hs Ew5) (by omega) rfl (Nat.le_of_ble_eq_true rfl) ew_1368 ew_1097 ew_1098 (ci := 8) rfl (by decide) (cShC_23 hs).1 (cShC_23 hs).2.1 ?_
    obtain ⟨v6, ev6, E⟩ := let_some E
    refine ea_i2l (pc := 50) dX11_tried_50 ?_
    refine ea_ladd (pc := 51) dX11_tried_51 ?_
    refine ea_lstore_n (pc := 52) (lv' := [(0, vR (some 0)), (2, vR r2), (3, vJ v6), (5, vI x5)]) dX11_tried_52 rfl (Nat.le_of_ble_eq_true rfl) [1, 2, 0, 3] (by rw [ev6]; rfl) ?_
    refine ea_iinc (pc := 53) (v := 1) (lv' := [(0, vR (some 0)), (2, vR r2), (3, vJ v6), (5, vI (x5 + (1 : Int32)))]) dX11_tried_53 3 rfl rfl (Nat.le_of_ble_eq_true rfl) [1, 2, 3, 0] rfl ?_
    refine ea_goto (pc := 56) (tgt := 22) dX11_tried_56 rfl ?_
    exact (kJ22 (r2 : Option Nat) (v6 : Int64) ((x5 + (1 : Int32)) : Int32) w5.2 _ _ E hsw5)
theorem kBX11_tried_22 {J22 : Option Nat → Int64 → Int32 → ea_H → Option (Int64 × ea_H)}  (cJ22 : ∀ (r2 : Option Nat) (y3 : Int64) (x5 : Int32) (h : ea_H), kp (ea_core h) (J22 r2 y3 x5 h)) {r2 : Option Nat} {y3 : Int64} {x5 : Int32} {h : ea_H} : kp (ea_core h) (BX11_tried_22 J22 r2 y3 x5 h) :=
  (kp_ite (kp_ret rfl) (kp_gd (kp_bind (kp_tw (kpX8_chargeBy _ _ _) rfl) fun w5 hcw5 => (kp_let (kp_tw (cJ22 _ _ _ _) hcw5)))))
theorem lBX11_tried_22 {J22 : Option Nat → Int64 → Int32 → ea_H → Option (Int64 × ea_H)} {J22_ : Option Nat → Int64 → Int32 → ea_H → Option (Int64 × ea_H)}  (mJ22 : ∀ (r2 : Option Nat) (y3 : Int64) (x5 : Int32) (h : ea_H), fle (J22 r2 y3 x5 h) (J22_ r2 y3 x5 h)) {r2 : Option Nat} {y3 : Int64} {x5 : Int32} {h : ea_H} : fle (BX11_tried_22 J22 r2 y3 x5 h) (BX11_tried_22 J22_ r2 y3 x5 h) :=
  (fle_ite (fle_rfl _) (fle_gd (fle_bind (fle_rfl _) fun _ => (fle_let fun _ => (mJ22 _ _ _ _)))))
theorem nBX11_tried_22 {J22 : Option Nat → Int64 → Int32 → ea_H → Option (Int64 × ea_H)} {J22_ : Nat → (Option Nat → Int64 → Int32 → ea_H → Option (Int64 × ea_H))}  (mJ22 : ∀ (r2 : Option Nat) (y3 : Int64) (x5 : Int32) (h : ea_H), fct (J22 r2 y3 x5 h) (fun f => J22_ f r2 y3 x5 h)) {r2 : Option Nat} {y3 : Int64} {x5 : Int32} {h : ea_H} : fct (BX11_tried_22 J22 r2 y3 x5 h) (fun f => BX11_tried_22 (J22_ f) r2 y3 x5 h) :=
  (fct_ite (fct_rfl _) (fct_gd (fct_bind (fct_rfl _) fun _ => (fct_let fun _ => (mJ22 _ _ _ _)))))
noncomputable def gX11_tried : Nat → (Int32 → ea_H → Option (Int64 × ea_H)) × (Option Nat → Int64 → Int32 → ea_H → Option (Int64 × ea_H))
  | 0 => (fun _ _ => none, fun _ _ _ _ => none)
  | f + 1 => (BX11_tried_0 (gX11_tried f).2, BX11_tried_22 (gX11_tried f).2)
theorem mgX11_tried : ∀ f : Nat, (∀ (x1 : Int32) (h : ea_H), fle ((gX11_tried f).1 x1 h) ((gX11_tried (f + 1)).1 x1 h)) ∧ (∀ (r2 : Option Nat) (y3 : Int64) (x5 : Int32) (h : ea_H), fle ((gX11_tried f).2 r2 y3 x5 h) ((gX11_tried (f + 1)).2 r2 y3 x5 h)) := by
  intro f
  induction f with
  | zero => exact ⟨fun _ _ => fle_none _, fun _ _ _ _ => fle_none _⟩
  | succ f ih => exact ⟨fun _ _ => lBX11_tried_0 ih.2, fun _ _ _ _ => lBX11_tried_22 ih.2⟩
noncomputable def qX11_tried_0 (x1 : Int32) (h : ea_H) : Option (Int64 × ea_H) := flim fun f => (gX11_tried f).1 x1 h
noncomputable def qX11_tried_22 (r2 : Option Nat) (y3 : Int64) (x5 : Int32) (h : ea_H) : Option (Int64 × ea_H) := flim fun f => (gX11_tried f).2 r2 y3 x5 h
theorem fqX11_tried_0 (x1 : Int32) (h : ea_H) : fct (qX11_tried_0 x1 h) fun f => (gX11_tried f).1 x1 h := flim_ct fun f => (mgX11_tried f).1 x1 h
theorem fqX11_tried_22 (r2 : Option Nat) (y3 : Int64) (x5 : Int32) (h : ea_H) : fct (qX11_tried_22 r2 y3 x5 h) fun f => (gX11_tried f).2 r2 y3 x5 h := flim_ct fun f => (mgX11_tried f).2 r2 y3 x5 h
/-- how a block opens -/
theorem uqX11_tried_0 {x1 : Int32} {h : ea_H} {P : Int64 × ea_H → Prop} (H : sat (BX11_tried_0 qX11_tried_22 x1 h) P) : sat (qX11_tried_0 x1 h) P := by
  obtain ⟨x, e, hp⟩ := H
  obtain ⟨n, hn⟩ := nBX11_tried_0 fqX11_tried_22 x e
  exact ⟨x, flim_at (fun f => (mgX11_tried f).1 x1 h) (f := n + 1) (hn n (Nat.le_refl _)), hp⟩
/-- how a block opens -/
theorem uqX11_tried_22 {r2 : Option Nat} {y3 : Int64} {x5 : Int32} {h : ea_H} {P : Int64 × ea_H → Prop} (H : sat (BX11_tried_22 qX11_tried_22 r2 y3 x5 h) P) : sat (qX11_tried_22 r2 y3 x5 h) P := by
  obtain ⟨x, e, hp⟩ := H
  obtain ⟨n, hn⟩ := nBX11_tried_22 fqX11_tried_22 x e
  exact ⟨x, flim_at (fun f => (mgX11_tried f).2 r2 y3 x5 h) (f := n + 1) (hn n (Nat.le_refl _)), hp⟩
theorem kgX11_tried : ∀ f : Nat, (∀ (x1 : Int32) (h : ea_H), kp (ea_core h) ((gX11_tried f).1 x1 h)) ∧ (∀ (r2 : Option Nat) (y3 : Int64) (x5 : Int32) (h : ea_H), kp (ea_core h) ((gX11_tried f).2 r2 y3 x5 h)) := by
  intro f
  induction f with
  | zero => exact ⟨fun _ _ => kp_none _, fun _ _ _ _ => kp_none _⟩
  | succ f ih => exact ⟨fun _ _ => kBX11_tried_0 ih.2, fun _ _ _ _ => kBX11_tried_22 ih.2⟩
theorem tgX11_tried {d : Nat} {h0 : ea_H} (hd : 5 ≤ d) : ∀ f : Nat, (∀ (x1 : Int32) (h : ea_H) (r : Int64) (h' : ea_H), (gX11_tried f).1 x1 h = some (r, h') → ShC h → ea_W mX11_tried d h0 (some (vJ r)) h' 0 [(0, vR (some 0)), (1, vI x1)] [] h) ∧ (∀ (r2 : Option Nat) (y3 : Int64) (x5 : Int32) (h : ea_H) (r : Int64) (h' : ea_H), (gX11_tried f).2 r2 y3 x5 h = some (r, h') → ShC h → ea_W mX11_tried d h0 (some (vJ r)) h' 22 [(0, vR (some 0)), (2, vR r2), (3, vJ y3), (5, vI x5)] [] h) := by
  intro f
  induction f with
  | zero => exact ⟨fun _ _ _ _ E => no_some E, fun _ _ _ _ _ _ E => no_some E⟩
  | succ f ih => exact ⟨fun _ _ _ _ E hs => tBX11_tried_0 hd ih.2 E hs, fun _ _ _ _ _ _ E hs => tBX11_tried_22 hd ih.2 E hs⟩
noncomputable def qX11_tried (x1 : Int32) (h : ea_H) : Option (Int64 × ea_H) := qX11_tried_0 x1 h
theorem sX11_tried {d : Nat} {x1 : Int32} {h : ea_H} {r : Int64} {h' : ea_H} (hd : 5 ≤ d) (hs : ShC h) (K : qX11_tried x1 h = some (r, h')) : ea_Met mX11_tried d [vR (some 0), vI x1] h (some (vJ r)) h' := by
  unfold qX11_tried at K
  obtain ⟨n, hn⟩ := fqX11_tried_0 x1 h _ K
  have W := (tgX11_tried (d := d) (h0 := h) hd n).1 x1 h _ _ (hn n (Nat.le_refl _)) hs
  exact ea_enter rfl (Nat.le_of_ble_eq_true rfl) W
theorem kpX11_tried (x1 : Int32) (h : ea_H) : kp (ea_core h) (qX11_tried x1 h) := fun x e => by
  obtain ⟨n, hn⟩ := fqX11_tried_0 x1 h x e
  exact (kgX11_tried n).1 x1 h x (hn n (Nat.le_refl _))
noncomputable def BX1_carry_at52_0 (J18 : Int32 → Int32 → Int32 → ea_H → Option (Unit × ea_H)) (x1 : Int32) (x2 : Int32) (h : ea_H) : Option (Unit × ea_H) :=
  (ea_let ((x1 / (1440 : Int32)) + (1 : Int32)) fun (v1 : Int32) => (Option.bind (qX10_firstBehind (x1 : Int32) h) fun w2 => (J18 (x2 : Int32) (v1 : Int32) (w2.1 : Int32) w2.2)))
theorem tBX1_carry_at52_0 {d : Nat} {h0 : ea_H} (hd : 5 ≤ d) {J18 : Int32 → Int32 → Int32 → ea_H → Option (Unit × ea_H)}  (kJ18 : ∀ (x2 : Int32) (x3 : Int32) (x4 : Int32) (h : ea_H) (r : Unit) (h' : ea_H), J18 x2 x3 x4 h = some (r, h') → ShC h → ea_W mX1_carry d h0 none h' 18 [(0, vR (some 52)), (2, vI x2), (3, vI x3), (4, vI x4)] [] h) {x1 : Int32} {x2 : Int32} {h : ea_H} {r : Unit} {h' : ea_H} (E : BX1_carry_at52_0 J18 x1 x2 h = some (r, h')) (hs : ShC h) : ea_W mX1_carry d h0 none h' 0 [(0, vR (some 52)), (1, vI x1), (2, vI x2)] [] h := by
  unfold BX1_carry_at52_0 at E
  obtain ⟨v1, ev1, E⟩ := let_some E
  refine ea_iload_n (pc := 0) dX1_carry_0 rfl 1 rfl ?_
  refine ea_sipush (pc := 1) dX1_carry_1 (v := 1440) rfl ?_
  refine ea_idiv (pc := 4) dX1_carry_4 (by decide) ?_
  refine ea_iconst (pc := 5) dX1_carry_5 (v := 1) rfl ?_
  refine ea_iadd (pc := 6) dX1_carry_6 ?_
  obtain ⟨w2, Ew2, E⟩ := bd_some E
  have hsw2 : ShC w2.2 := ShC_core ((kpX10_firstBehind _ _) _ Ew2) hs
  refine ea_istore_n (pc := 7) (lv' := [(0, vR (some 52)), (1, vI x1), (2, vI x2), (3, vI v1)]) dX1_carry_7 rfl (Nat.le_of_ble_eq_true rfl) [1, 2, 3, 0] (by rw [ev1]; rfl) ?_
  refine ea_aload_n (pc := 8) dX1_carry_8 rfl 0 rfl ?_
  refine ea_getR (pc := 9) dX1_carry_9 ec_1 (k := 12) (Nat.le_of_ble_eq_true rfl) rfl (Or.inl ew_460) (cShC_52 hs).1 (cShC_52 hs).2.1 (rShC_52_12 hs) ?_
  refine ea_iload_n (pc := 12) dX1_carry_12 rfl 1 rfl ?_
  refine ea_callV (pc := 13) (d' := d - 1) (As := [vI x1]) (st := []) dX1_carry_13 kX10_firstBehind (sX10_firstBehind (d := d - 1) (by omega) hs Ew2) (by omega) rfl (Nat.le_of_ble_eq_true rfl) ew_837 ew_838 ew_839 (ci := 10) rfl (by decide) (cShC_13 hs).1 (cShC_13 hs).2.1 ?_
  refine ea_istore (pc := 16) (lv' := [(0, vR (some 52)), (2, vI x2), (3, vI v1), (4, vI w2.1)]) dX1_carry_16 (Nat.le_of_ble_eq_true rfl) [1, 3, 4, 0] rfl ?_
  exact (kJ18 (x2 : Int32) (v1 : Int32) (w2.1 : Int32) w2.2 _ _ E hsw2)
theorem kBX1_carry_at52_0 {J18 : Int32 → Int32 → Int32 → ea_H → Option (Unit × ea_H)}  (cJ18 : ∀ (x2 : Int32) (x3 : Int32) (x4 : Int32) (h : ea_H), kp (ea_core h) (J18 x2 x3 x4 h)) {x1 : Int32} {x2 : Int32} {h : ea_H} : kp (ea_core h) (BX1_carry_at52_0 J18 x1 x2 h) :=
  (kp_let (kp_bind (kp_tw (kpX10_firstBehind _ _) rfl) fun w2 hcw2 => (kp_tw (cJ18 _ _ _ _) hcw2)))
theorem lBX1_carry_at52_0 {J18 : Int32 → Int32 → Int32 → ea_H → Option (Unit × ea_H)} {J18_ : Int32 → Int32 → Int32 → ea_H → Option (Unit × ea_H)}  (mJ18 : ∀ (x2 : Int32) (x3 : Int32) (x4 : Int32) (h : ea_H), fle (J18 x2 x3 x4 h) (J18_ x2 x3 x4 h)) {x1 : Int32} {x2 : Int32} {h : ea_H} : fle (BX1_carry_at52_0 J18 x1 x2 h) (BX1_carry_at52_0 J18_ x1 x2 h) :=
  (fle_let fun _ => (fle_bind (fle_rfl _) fun _ => (mJ18 _ _ _ _)))
theorem nBX1_carry_at52_0 {J18 : Int32 → Int32 → Int32 → ea_H → Option (Unit × ea_H)} {J18_ : Nat → (Int32 → Int32 → Int32 → ea_H → Option (Unit × ea_H))}  (mJ18 : ∀ (x2 : Int32) (x3 : Int32) (x4 : Int32) (h : ea_H), fct (J18 x2 x3 x4 h) (fun f => J18_ f x2 x3 x4 h)) {x1 : Int32} {x2 : Int32} {h : ea_H} : fct (BX1_carry_at52_0 J18 x1 x2 h) (fun f => BX1_carry_at52_0 (J18_ f) x1 x2 h) :=
  (fct_let fun _ => (fct_bind (fct_rfl _) fun _ => (mJ18 _ _ _ _)))
noncomputable def BX1_carry_at52_18 (J64 : Int32 → Int32 → Int32 → Int32 → Int32 → ea_H → Option (Unit × ea_H)) (J118 : Int32 → Int32 → ea_H → Option (Unit × ea_H)) (x2 : Int32) (x3 : Int32) (x4 : Int32) (h : ea_H) : Option (Unit × ea_H) :=
  (if (ea_i h 13 1) ≤ x4 then (J118 (x2 : Int32) (x3 : Int32) h) else (if (ea_i h 52 10) ≤ (0 : Int32) then (J118 (x2 : Int32) (x3 : Int32) h) else (Option.bind (qX10_keyAt (x4 : Int32) h) fun w3 => (Option.bind (qX10_minuteIn (w3.1 : Int32) w3.2) fun w4 => (if w4.1 ≤ x2 then (J64 (x2 : Int32) (x3 : Int32) (x4 : Int32) (w3.1 : Int32) (w4.1 : Int32) w4.2) else (J118 (x2 : Int32) (x3 : Int32) w4.2))))))
theorem tBX1_carry_at52_18 {d : Nat} {h0 : ea_H} (hd : 5 ≤ d) {J64 : Int32 → Int32 → Int32 → Int32 → Int32 → ea_H → Option (Unit × ea_H)} {J118 : Int32 → Int32 → ea_H → Option (Unit × ea_H)}  (kJ64 : ∀ (x2 : Int32) (x3 : Int32) (x4 : Int32) (x5 : Int32) (x6 : Int32) (h : ea_H) (r : Unit) (h' : ea_H), J64 x2 x3 x4 x5 x6 h = some (r, h') → ShC h → ea_W mX1_carry d h0 none h' 64 [(0, vR (some 52)), (2, vI x2), (3, vI x3), (4, vI x4), (5, vI x5), (6, vI x6)] [] h) (kJ118 : ∀ (x2 : Int32) (x3 : Int32) (h : ea_H) (r : Unit) (h' : ea_H), J118 x2 x3 h = some (r, h') → ShC h → ea_W mX1_carry d h0 none h' 118 [(0, vR (some 52)), (2, vI x2), (3, vI x3)] [] h) {x2 : Int32} {x3 : Int32} {x4 : Int32} {h : ea_H} {r : Unit} {h' : ea_H} (E : BX1_carry_at52_18 J64 J118 x2 x3 x4 h = some (r, h')) (hs : ShC h) : ea_W mX1_carry d h0 none h' 18 [(0, vR (some 52)), (2, vI x2), (3, vI x3), (4, vI x4)] [] h := by
  unfold BX1_carry_at52_18 at E
  refine ea_iload (pc := 18) dX1_carry_18 3 rfl ?_
  refine ea_aload_n (pc := 20) dX1_carry_20 rfl 0 rfl ?_
  refine ea_getR (pc := 21) dX1_carry_21 ec_1 (k := 12) (Nat.le_of_ble_eq_true rfl) rfl (Or.inl ew_460) (cShC_52 hs).1 (cShC_52 hs).2.1 (rShC_52_12 hs) ?_
  refine ea_getI (pc := 24) dX1_carry_24 ec_10 (k := 1) (Nat.le_of_ble_eq_true rfl) rfl (Or.inl ew_236) (cShC_13 hs).1 (cShC_13 hs).2.1 ?_
  refine ea_icmp_ge (pc := 27) (tgt := 118) dX1_carry_27 rfl (fun c7 => ?_) (fun c7 => ?_)
  · have E := (if_pos c7).symm.trans E
    exact ea_fewer [0, 1, 2] rfl (kJ118 (x2 : Int32) (x3 : Int32) h _ _ E hs)
  · have E := (if_neg c7).symm.trans E
    refine ea_aload_n (pc := 30) dX1_carry_30 rfl 0 rfl ?_
    refine ea_getI (pc := 31) dX1_carry_31 ec_1 (k := 10) (Nat.le_of_ble_eq_true rfl) rfl (Or.inl ew_458) (cShC_52 hs).1 (cShC_52 hs).2.1 ?_
    refine ea_if_le (pc := 34) (tgt := 118) dX1_carry_34 rfl (fun c6 => ?_) (fun c6 => ?_)
    · have E := (if_pos c6).symm.trans E
      exact ea_fewer [0, 1, 2] rfl (kJ118 (x2 : Int32) (x3 : Int32) h _ _ E hs)
    · have E := (if_neg c6).symm.trans E
      obtain ⟨w3, Ew3, E⟩ := bd_some E
      have hsw3 : ShC w3.2 := ShC_core ((kpX10_keyAt _ _) _ Ew3) hs
      refine ea_aload_n (pc := 37) dX1_carry_37 rfl 0 rfl ?_
      refine ea_getR (pc := 38) dX1_carry_38 ec_1 (k := 12) (Nat.le_of_ble_eq_true rfl) rfl (Or.inl ew_460) (cShC_52 hs).1 (cShC_52 hs).2.1 (rShC_52_12 hs) ?_
      refine ea_iload (pc := 41) dX1_carry_41 3 rfl ?_
      refine ea_callV (pc := 43) (d' := d - 1) (As := [vI x4]) (st := []) dX1_carry_43 kX10_keyAt (sX10_keyAt (d := d - 1) (by omega) hs Ew3) (by omega) rfl (Nat.le_of_ble_eq_true rfl) ew_845 ew_842 ew_843 (ci := 10) rfl (by decide) (cShC_13 hs).1 (cShC_13 hs).2.1 ?_
      obtain ⟨w4, Ew4, E⟩ := bd_some E
      have hsw4 : ShC w4.2 := ShC_core ((kpX10_minuteIn _ _) _ Ew4) hsw3
      refine ea_istore (pc := 46) (lv' := [(0, vR (some 52)), (2, vI x2), (3, vI x3), (4, vI x4), (5, vI w3.1)]) dX1_carry_46 (Nat.le_of_ble_eq_true rfl) [1, 2, 3, 4, 0] rfl ?_
      refine ea_iload (pc := 48) dX1_carry_48 4 rfl ?_
      refine ea_callS (pc := 50) (d' := d - 1) (As := [vI w3.1]) (st := []) dX1_carry_50 kX10_minuteIn (sX10_minuteIn (d := d - 1) (by omega) Ew4) (by omega) rfl (Nat.le_of_ble_eq_true rfl) ew_846 ew_812 ?_
      refine ea_istore (pc := 53) (lv' := [(0, vR (some 52)), (2, vI x2), (3, vI x3), (4, vI x4), (5, vI w3.1), (6, vI w4.1)]) dX1_carry_53 (Nat.le_of_ble_eq_true rfl) [1, 2, 3, 4, 5, 0] rfl ?_
      refine ea_iload (pc := 55) dX1_carry_55 5 rfl ?_
      refine ea_iload_n (pc := 57) dX1_carry_57 rfl 1 rfl ?_
      refine ea_icmp_le (pc := 58) (tgt := 64) dX1_carry_58 rfl (fun c5 => ?_) (fun c5 => ?_)
      · have E := (if_pos c5).symm.trans E
        exact (kJ64 (x2 : Int32) (x3 : Int32) (x4 : Int32) (w3.1 : Int32) (w4.1 : Int32) w4.2 _ _ E hsw4)
      · have E := (if_neg c5).symm.trans E
        refine ea_goto (pc := 61) (tgt := 118) dX1_carry_61 rfl ?_
        exact ea_fewer [0, 1, 2] rfl (kJ118 (x2 : Int32) (x3 : Int32) w4.2 _ _ E hsw4)
theorem kBX1_carry_at52_18 {J64 : Int32 → Int32 → Int32 → Int32 → Int32 → ea_H → Option (Unit × ea_H)} {J118 : Int32 → Int32 → ea_H → Option (Unit × ea_H)}  (cJ64 : ∀ (x2 : Int32) (x3 : Int32) (x4 : Int32) (x5 : Int32) (x6 : Int32) (h : ea_H), kp (ea_core h) (J64 x2 x3 x4 x5 x6 h)) (cJ118 : ∀ (x2 : Int32) (x3 : Int32) (h : ea_H), kp (ea_core h) (J118 x2 x3 h)) {x2 : Int32} {x3 : Int32} {x4 : Int32} {h : ea_H} : kp (ea_core h) (BX1_carry_at52_18 J64 J118 x2 x3 x4 h) :=
  (kp_ite (kp_tw (cJ118 _ _ _) rfl) (kp_ite (kp_tw (cJ118 _ _ _) rfl) (kp_bind (kp_tw (kpX10_keyAt _ _) rfl) fun w3 hcw3 => (kp_bind (kp_tw (kpX10_minuteIn _ _) hcw3) fun w4 hcw4 => (kp_ite (kp_tw (cJ64 _ _ _ _ _ _) hcw4) (kp_tw (cJ118 _ _ _) hcw4))))))
theorem lBX1_carry_at52_18 {J64 : Int32 → Int32 → Int32 → Int32 → Int32 → ea_H → Option (Unit × ea_H)} {J118 : Int32 → Int32 → ea_H → Option (Unit × ea_H)} {J64_ : Int32 → Int32 → Int32 → Int32 → Int32 → ea_H → Option (Unit × ea_H)} {J118_ : Int32 → Int32 → ea_H → Option (Unit × ea_H)}  (mJ64 : ∀ (x2 : Int32) (x3 : Int32) (x4 : Int32) (x5 : Int32) (x6 : Int32) (h : ea_H), fle (J64 x2 x3 x4 x5 x6 h) (J64_ x2 x3 x4 x5 x6 h)) (mJ118 : ∀ (x2 : Int32) (x3 : Int32) (h : ea_H), fle (J118 x2 x3 h) (J118_ x2 x3 h)) {x2 : Int32} {x3 : Int32} {x4 : Int32} {h : ea_H} : fle (BX1_carry_at52_18 J64 J118 x2 x3 x4 h) (BX1_carry_at52_18 J64_ J118_ x2 x3 x4 h) :=
  (fle_ite (mJ118 _ _ _) (fle_ite (mJ118 _ _ _) (fle_bind (fle_rfl _) fun _ => (fle_bind (fle_rfl _) fun _ => (fle_ite (mJ64 _ _ _ _ _ _) (mJ118 _ _ _))))))
theorem nBX1_carry_at52_18 {J64 : Int32 → Int32 → Int32 → Int32 → Int32 → ea_H → Option (Unit × ea_H)} {J118 : Int32 → Int32 → ea_H → Option (Unit × ea_H)} {J64_ : Nat → (Int32 → Int32 → Int32 → Int32 → Int32 → ea_H → Option (Unit × ea_H))} {J118_ : Nat → (Int32 → Int32 → ea_H → Option (Unit × ea_H))}  (mJ64 : ∀ (x2 : Int32) (x3 : Int32) (x4 : Int32) (x5 : Int32) (x6 : Int32) (h : ea_H), fct (J64 x2 x3 x4 x5 x6 h) (fun f => J64_ f x2 x3 x4 x5 x6 h)) (mJ118 : ∀ (x2 : Int32) (x3 : Int32) (h : ea_H), fct (J118 x2 x3 h) (fun f => J118_ f x2 x3 h)) {x2 : Int32} {x3 : Int32} {x4 : Int32} {h : ea_H} : fct (BX1_carry_at52_18 J64 J118 x2 x3 x4 h) (fun f => BX1_carry_at52_18 (J64_ f) (J118_ f) x2 x3 x4 h) :=
  (fct_ite (mJ118 _ _ _) (fct_ite (mJ118 _ _ _) (fct_bind (fct_rfl _) fun _ => (fct_bind (fct_rfl _) fun _ => (fct_ite (mJ64 _ _ _ _ _ _) (mJ118 _ _ _))))))
noncomputable def BX1_carry_at52_64 (J18 : Int32 → Int32 → Int32 → ea_H → Option (Unit × ea_H)) (J64 : Int32 → Int32 → Int32 → Int32 → Int32 → ea_H → Option (Unit × ea_H)) (x2 : Int32) (x3 : Int32) (x4 : Int32) (x5 : Int32) (x6 : Int32) (h : ea_H) : Option (Unit × ea_H) :=
  (if x6 < (x3 * (1440 : Int32)) then (Option.bind (qX10_isGoing (x5 : Int32) h) fun w8 => (if w8.1 = (0 : Int32) then (Option.bind (qX1_comes_at52 (x5 : Int32) (x6 : Int32) w8.2) fun w9 => (J18 (x2 : Int32) (x3 : Int32) ((x4 + (1 : Int32)) : Int32) w9.2)) else (Option.bind (qX1_goes_at52 (x5 : Int32) (x6 : Int32) w8.2) fun w10 => (J18 (x2 : Int32) (x3 : Int32) ((x4 + (1 : Int32)) : Int32) w10.2)))) else (Option.bind (qX1_burn_at52 (x3 : Int32) h) fun w12 => (J64 (x2 : Int32) ((x3 + (1 : Int32)) : Int32) (x4 : Int32) (x5 : Int32) (x6 : Int32) w12.2)))
theorem tBX1_carry_at52_64 {d : Nat} {h0 : ea_H} (hd : 5 ≤ d) {J18 : Int32 → Int32 → Int32 → ea_H → Option (Unit × ea_H)} {J64 : Int32 → Int32 → Int32 → Int32 → Int32 → ea_H → Option (Unit × ea_H)}  (kJ18 : ∀ (x2 : Int32) (x3 : Int32) (x4 : Int32) (h : ea_H) (r : Unit) (h' : ea_H), J18 x2 x3 x4 h = some (r, h') → ShC h → ea_W mX1_carry d h0 none h' 18 [(0, vR (some 52)), (2, vI x2), (3, vI x3), (4, vI x4)] [] h) (kJ64 : ∀ (x2 : Int32) (x3 : Int32) (x4 : Int32) (x5 : Int32) (x6 : Int32) (h : ea_H) (r : Unit) (h' : ea_H), J64 x2 x3 x4 x5 x6 h = some (r, h') → ShC h → ea_W mX1_carry d h0 none h' 64 [(0, vR (some 52)), (2, vI x2), (3, vI x3), (4, vI x4), (5, vI x5), (6, vI x6)] [] h) {x2 : Int32} {x3 : Int32} {x4 : Int32} {x5 : Int32} {x6 : Int32} {h : ea_H} {r : Unit} {h' : ea_H} (E : BX1_carry_at52_64 J18 J64 x2 x3 x4 x5 x6 h = some (r, h')) (hs : ShC h) : ea_W mX1_carry d h0 none h' 64 [(0, vR (some 52)), (2, vI x2), (3, vI x3), (4, vI x4), (5, vI x5), (6, vI x6)] [] h := by
  unfold BX1_carry_at52_64 at E
  refine ea_iload_n (pc := 64) dX1_carry_64 rfl 2 rfl ?_
  refine ea_sipush (pc := 65) dX1_carry_65 (v := 1440) rfl ?_
  refine ea_imul (pc := 68) dX1_carry_68 ?_
  refine ea_iload (pc := 69) dX1_carry_69 5 rfl ?_
  refine ea_icmp_gt (pc := 71) (tgt := 85) dX1_carry_71 rfl (fun c13 => ?_) (fun c13 => ?_)
  · have E := (if_pos c13).symm.trans E
    obtain ⟨w8, Ew8, E⟩ := bd_some E
    have hsw8 : ShC w8.2 := ShC_core ((kpX10_isGoing _ _) _ Ew8) hs
    refine ea_iload (pc := 85) dX1_carry_85 4 rfl ?_
    refine ea_callS (pc := 87) (d' := d - 1) (As := [vI x5]) (st := []) dX1_carry_87 kX10_isGoing (sX10_isGoing (d := d - 1) (by omega) Ew8) (by omega) rfl (Nat.le_of_ble_eq_true rfl) ew_862 ew_779 ?_
    refine ea_if_eq (pc := 90) (tgt := 104) dX1_carry_90 rfl (fun c11 => ?_) (fun c11 => ?_)
    · have E := (if_pos c11).symm.trans E
      obtain ⟨w9, Ew9, E⟩ := bd_some E
      have hsw9 : ShC w9.2 := ShC_core ((kpX1_comes_at52 _ _ _) _ Ew9) hsw8
      refine ea_aload_n (pc := 104) dX1_carry_104 rfl 0 rfl ?_
      refine ea_iload (pc := 105) dX1_carry_105 4 rfl ?_
      refine ea_iload (pc := 107) dX1_carry_107 5 rfl ?_
      refine ea_callV (pc := 109) (d' := d - 1) (As := [vI x5, vI x6]) (st := []) dX1_carry_109 kX1_comes (sX1_comes_at52 (d := d - 1) (by omega) hsw8 Ew9) (by omega) rfl (Nat.le_of_ble_eq_true rfl) ew_904 ew_906 ew_14 (ci := 1) rfl (by decide) (cShC_52 hsw8).1 (cShC_52 hsw8).2.1 ?_
      refine ea_iinc (pc := 112) (v := 1) (lv' := [(0, vR (some 52)), (2, vI x2), (3, vI x3), (4, vI (x4 + (1 : Int32)))]) dX1_carry_112 3 rfl rfl (Nat.le_of_ble_eq_true rfl) [1, 2, 3, 0] rfl ?_
      refine ea_goto (pc := 115) (tgt := 18) dX1_carry_115 rfl ?_
      exact (kJ18 (x2 : Int32) (x3 : Int32) ((x4 + (1 : Int32)) : Int32) w9.2 _ _ E hsw9)
    · have E := (if_neg c11).symm.trans E
      obtain ⟨w10, Ew10, E⟩ := bd_some E
      have hsw10 : ShC w10.2 := ShC_core ((kpX1_goes_at52 _ _ _) _ Ew10) hsw8
      refine ea_aload_n (pc := 93) dX1_carry_93 rfl 0 rfl ?_
      refine ea_iload (pc := 94) dX1_carry_94 4 rfl ?_
      refine ea_iload (pc := 96) dX1_carry_96 5 rfl ?_
      refine ea_callV (pc := 98) (d' := d - 1) (As := [vI x5, vI x6]) (st := []) dX1_carry_98 kX1_goes (sX1_goes_at52 (d := d - 1) (by omega) hsw8 Ew10) (by omega) rfl (Nat.le_of_ble_eq_true rfl) ew_863 ew_865 ew_12 (ci := 1) rfl (by decide) (cShC_52 hsw8).1 (cShC_52 hsw8).2.1 ?_
      refine ea_goto (pc := 101) (tgt := 112) dX1_carry_101 rfl ?_
      refine ea_iinc (pc := 112) (v := 1) (lv' := [(0, vR (some 52)), (2, vI x2), (3, vI x3), (4, vI (x4 + (1 : Int32)))]) dX1_carry_112 3 rfl rfl (Nat.le_of_ble_eq_true rfl) [1, 2, 3, 0] rfl ?_
      refine ea_goto (pc := 115) (tgt := 18) dX1_carry_115 rfl ?_
      exact (kJ18 (x2 : Int32) (x3 : Int32) ((x4 + (1 : Int32)) : Int32) w10.2 _ _ E hsw10)
  · have E := (if_neg c13).symm.trans E
    obtain ⟨w12, Ew12, E⟩ := bd_some E
    have hsw12 : ShC w12.2 := ShC_core ((kpX1_burn_at52 _ _) _ Ew12) hs
    refine ea_aload_n (pc := 74) dX1_carry_74 rfl 0 rfl ?_
    refine ea_iload_n (pc := 75) dX1_carry_75 rfl 2 rfl ?_
    refine ea_callV (pc := 76) (d' := d - 1) (As := [vI x3]) (st := []) dX1_carry_76 kX1_burn (sX1_burn_at52 (d := d - 1) (by omega) hs Ew12) (by omega) rfl (Nat.le_of_ble_eq_true rfl) ew_847 ew_849 ew_11 (ci := 1) rfl (by decide) (cShC_52 hs).1 (cShC_52 hs).2.1 ?_
    refine ea_iinc (pc := 79) (v := 1) (lv' := [(0, vR (some 52)), (2, vI x2), (3, vI (x3 + (1 : Int32))), (4, vI x4), (5, vI x5), (6, vI x6)]) dX1_carry_79 2 rfl rfl (Nat.le_of_ble_eq_true rfl) [1, 2, 0, 3, 4, 5] rfl ?_
    refine ea_goto (pc := 82) (tgt := 64) dX1_carry_82 rfl ?_
    exact (kJ64 (x2 : Int32) ((x3 + (1 : Int32)) : Int32) (x4 : Int32) (x5 : Int32) (x6 : Int32) w12.2 _ _ E hsw12)
theorem kBX1_carry_at52_64 {J18 : Int32 → Int32 → Int32 → ea_H → Option (Unit × ea_H)} {J64 : Int32 → Int32 → Int32 → Int32 → Int32 → ea_H → Option (Unit × ea_H)}  (cJ18 : ∀ (x2 : Int32) (x3 : Int32) (x4 : Int32) (h : ea_H), kp (ea_core h) (J18 x2 x3 x4 h)) (cJ64 : ∀ (x2 : Int32) (x3 : Int32) (x4 : Int32) (x5 : Int32) (x6 : Int32) (h : ea_H), kp (ea_core h) (J64 x2 x3 x4 x5 x6 h)) {x2 : Int32} {x3 : Int32} {x4 : Int32} {x5 : Int32} {x6 : Int32} {h : ea_H} : kp (ea_core h) (BX1_carry_at52_64 J18 J64 x2 x3 x4 x5 x6 h) :=
  (kp_ite (kp_bind (kp_tw (kpX10_isGoing _ _) rfl) fun w8 hcw8 => (kp_ite (kp_bind (kp_tw (kpX1_comes_at52 _ _ _) hcw8) fun w9 hcw9 => (kp_tw (cJ18 _ _ _ _) hcw9)) (kp_bind (kp_tw (kpX1_goes_at52 _ _ _) hcw8) fun w10 hcw10 => (kp_tw (cJ18 _ _ _ _) hcw10)))) (kp_bind (kp_tw (kpX1_burn_at52 _ _) rfl) fun w12 hcw12 => (kp_tw (cJ64 _ _ _ _ _ _) hcw12)))
theorem lBX1_carry_at52_64 {J18 : Int32 → Int32 → Int32 → ea_H → Option (Unit × ea_H)} {J64 : Int32 → Int32 → Int32 → Int32 → Int32 → ea_H → Option (Unit × ea_H)} {J18_ : Int32 → Int32 → Int32 → ea_H → Option (Unit × ea_H)} {J64_ : Int32 → Int32 → Int32 → Int32 → Int32 → ea_H → Option (Unit × ea_H)}  (mJ18 : ∀ (x2 : Int32) (x3 : Int32) (x4 : Int32) (h : ea_H), fle (J18 x2 x3 x4 h) (J18_ x2 x3 x4 h)) (mJ64 : ∀ (x2 : Int32) (x3 : Int32) (x4 : Int32) (x5 : Int32) (x6 : Int32) (h : ea_H), fle (J64 x2 x3 x4 x5 x6 h) (J64_ x2 x3 x4 x5 x6 h)) {x2 : Int32} {x3 : Int32} {x4 : Int32} {x5 : Int32} {x6 : Int32} {h : ea_H} : fle (BX1_carry_at52_64 J18 J64 x2 x3 x4 x5 x6 h) (BX1_carry_at52_64 J18_ J64_ x2 x3 x4 x5 x6 h) :=
  (fle_ite (fle_bind (fle_rfl _) fun _ => (fle_ite (fle_bind (fle_rfl _) fun _ => (mJ18 _ _ _ _)) (fle_bind (fle_rfl _) fun _ => (mJ18 _ _ _ _)))) (fle_bind (fle_rfl _) fun _ => (mJ64 _ _ _ _ _ _)))
theorem nBX1_carry_at52_64 {J18 : Int32 → Int32 → Int32 → ea_H → Option (Unit × ea_H)} {J64 : Int32 → Int32 → Int32 → Int32 → Int32 → ea_H → Option (Unit × ea_H)} {J18_ : Nat → (Int32 → Int32 → Int32 → ea_H → Option (Unit × ea_H))} {J64_ : Nat → (Int32 → Int32 → Int32 → Int32 → Int32 → ea_H → Option (Unit × ea_H))}  (mJ18 : ∀ (x2 : Int32) (x3 : Int32) (x4 : Int32) (h : ea_H), fct (J18 x2 x3 x4 h) (fun f => J18_ f x2 x3 x4 h)) (mJ64 : ∀ (x2 : Int32) (x3 : Int32) (x4 : Int32) (x5 : Int32) (x6 : Int32) (h : ea_H), fct (J64 x2 x3 x4 x5 x6 h) (fun f => J64_ f x2 x3 x4 x5 x6 h)) {x2 : Int32} {x3 : Int32} {x4 : Int32} {x5 : Int32} {x6 : Int32} {h : ea_H} : fct (BX1_carry_at52_64 J18 J64 x2 x3 x4 x5 x6 h) (fun f => BX1_carry_at52_64 (J18_ f) (J64_ f) x2 x3 x4 x5 x6 h) :=
  (fct_ite (fct_bind (fct_rfl _) fun _ => (fct_ite (fct_bind (fct_rfl _) fun _ => (mJ18 _ _ _ _)) (fct_bind (fct_rfl _) fun _ => (mJ18 _ _ _ _)))) (fct_bind (fct_rfl _) fun _ => (mJ64 _ _ _ _ _ _)))
noncomputable def BX1_carry_at52_118 (J118 : Int32 → Int32 → ea_H → Option (Unit × ea_H)) (x2 : Int32) (x3 : Int32) (h : ea_H) : Option (Unit × ea_H) :=
  (if x2 < (x3 * (1440 : Int32)) then (some ((), h)) else (Option.bind (qX1_burn_at52 (x3 : Int32) h) fun w14 => (J118 (x2 : Int32) ((x3 + (1 : Int32)) : Int32) w14.2)))
theorem tBX1_carry_at52_118 {d : Nat} {h0 : ea_H} (hd : 5 ≤ d) {J118 : Int32 → Int32 → ea_H → Option (Unit × ea_H)}  (kJ118 : ∀ (x2 : Int32) (x3 : Int32) (h : ea_H) (r : Unit) (h' : ea_H), J118 x2 x3 h = some (r, h') → ShC h → ea_W mX1_carry d h0 none h' 118 [(0, vR (some 52)), (2, vI x2), (3, vI x3)] [] h) {x2 : Int32} {x3 : Int32} {h : ea_H} {r : Unit} {h' : ea_H} (E : BX1_carry_at52_118 J118 x2 x3 h = some (r, h')) (hs : ShC h) : ea_W mX1_carry d h0 none h' 118 [(0, vR (some 52)), (2, vI x2), (3, vI x3)] [] h := by
  unfold BX1_carry_at52_118 at E
  refine ea_iload_n (pc := 118) dX1_carry_118 rfl 2 rfl ?_
  refine ea_sipush (pc := 119) dX1_carry_119 (v := 1440) rfl ?_
  refine ea_imul (pc := 122) dX1_carry_122 ?_
  refine ea_iload_n (pc := 123) dX1_carry_123 rfl 1 rfl ?_
  refine ea_icmp_gt (pc := 124) (tgt := 138) dX1_carry_124 rfl (fun c15 => ?_) (fun c15 => ?_)
  · have E := (if_pos c15).symm.trans E
    exact ea_vretO (pc := 138) dX1_carry_138 rfl E
  · have E := (if_neg c15).symm.trans E
    obtain ⟨w14, Ew14, E⟩ := bd_some E
    have hsw14 : ShC w14.2 := ShC_core ((kpX1_burn_at52 _ _) _ Ew14) hs
    refine ea_aload_n (pc := 127) dX1_carry_127 rfl 0 rfl ?_
    refine ea_iload_n (pc := 128) dX1_carry_128 rfl 2 rfl ?_
    refine ea_callV (pc := 129) (d' := d - 1) (As := [vI x3]) (st := []) dX1_carry_129 kX1_burn (sX1_burn_at52 (d := d - 1) (by omega) hs Ew14) (by omega) rfl (Nat.le_of_ble_eq_true rfl) ew_847 ew_849 ew_11 (ci := 1) rfl (by decide) (cShC_52 hs).1 (cShC_52 hs).2.1 ?_
    refine ea_iinc (pc := 132) (v := 1) (lv' := [(0, vR (some 52)), (2, vI x2), (3, vI (x3 + (1 : Int32)))]) dX1_carry_132 2 rfl rfl (Nat.le_of_ble_eq_true rfl) [1, 2, 0] rfl ?_
    refine ea_goto (pc := 135) (tgt := 118) dX1_carry_135 rfl ?_
    exact (kJ118 (x2 : Int32) ((x3 + (1 : Int32)) : Int32) w14.2 _ _ E hsw14)
theorem kBX1_carry_at52_118 {J118 : Int32 → Int32 → ea_H → Option (Unit × ea_H)}  (cJ118 : ∀ (x2 : Int32) (x3 : Int32) (h : ea_H), kp (ea_core h) (J118 x2 x3 h)) {x2 : Int32} {x3 : Int32} {h : ea_H} : kp (ea_core h) (BX1_carry_at52_118 J118 x2 x3 h) :=
  (kp_ite (kp_ret rfl) (kp_bind (kp_tw (kpX1_burn_at52 _ _) rfl) fun w14 hcw14 => (kp_tw (cJ118 _ _ _) hcw14)))
theorem lBX1_carry_at52_118 {J118 : Int32 → Int32 → ea_H → Option (Unit × ea_H)} {J118_ : Int32 → Int32 → ea_H → Option (Unit × ea_H)}  (mJ118 : ∀ (x2 : Int32) (x3 : Int32) (h : ea_H), fle (J118 x2 x3 h) (J118_ x2 x3 h)) {x2 : Int32} {x3 : Int32} {h : ea_H} : fle (BX1_carry_at52_118 J118 x2 x3 h) (BX1_carry_at52_118 J118_ x2 x3 h) :=
  (fle_ite (fle_rfl _) (fle_bind (fle_rfl _) fun _ => (mJ118 _ _ _)))
theorem nBX1_carry_at52_118 {J118 : Int32 → Int32 → ea_H → Option (Unit × ea_H)} {J118_ : Nat → (Int32 → Int32 → ea_H → Option (Unit × ea_H))}  (mJ118 : ∀ (x2 : Int32) (x3 : Int32) (h : ea_H), fct (J118 x2 x3 h) (fun f => J118_ f x2 x3 h)) {x2 : Int32} {x3 : Int32} {h : ea_H} : fct (BX1_carry_at52_118 J118 x2 x3 h) (fun f => BX1_carry_at52_118 (J118_ f) x2 x3 h) :=
  (fct_ite (fct_rfl _) (fct_bind (fct_rfl _) fun _ => (mJ118 _ _ _)))
noncomputable def gX1_carry_at52 : Nat → (Int32 → Int32 → ea_H → Option (Unit × ea_H)) × (Int32 → Int32 → Int32 → ea_H → Option (Unit × ea_H)) × (Int32 → Int32 → Int32 → Int32 → Int32 → ea_H → Option (Unit × ea_H)) × (Int32 → Int32 → ea_H → Option (Unit × ea_H))
  | 0 => (fun _ _ _ => none, fun _ _ _ _ => none, fun _ _ _ _ _ _ => none, fun _ _ _ => none)
  | f + 1 => (BX1_carry_at52_0 (gX1_carry_at52 f).2.1, BX1_carry_at52_18 (gX1_carry_at52 f).2.2.1 (gX1_carry_at52 f).2.2.2, BX1_carry_at52_64 (gX1_carry_at52 f).2.1 (gX1_carry_at52 f).2.2.1, BX1_carry_at52_118 (gX1_carry_at52 f).2.2.2)
theorem mgX1_carry_at52 : ∀ f : Nat, (∀ (x1 : Int32) (x2 : Int32) (h : ea_H), fle ((gX1_carry_at52 f).1 x1 x2 h) ((gX1_carry_at52 (f + 1)).1 x1 x2 h)) ∧ (∀ (x2 : Int32) (x3 : Int32) (x4 : Int32) (h : ea_H), fle ((gX1_carry_at52 f).2.1 x2 x3 x4 h) ((gX1_carry_at52 (f + 1)).2.1 x2 x3 x4 h)) ∧ (∀ (x2 : Int32) (x3 : Int32) (x4 : Int32) (x5 : Int32) (x6 : Int32) (h : ea_H), fle ((gX1_carry_at52 f).2.2.1 x2 x3 x4 x5 x6 h) ((gX1_carry_at52 (f + 1)).2.2.1 x2 x3 x4 x5 x6 h)) ∧ (∀ (x2 : Int32) (x3 : Int32) (h : ea_H), fle ((gX1_carry_at52 f).2.2.2 x2 x3 h) ((gX1_carry_at52 (f + 1)).2.2.2 x2 x3 h)) := by
  intro f
  induction f with
  | zero => exact ⟨fun _ _ _ => fle_none _, fun _ _ _ _ => fle_none _, fun _ _ _ _ _ _ => fle_none _, fun _ _ _ => fle_none _⟩
  | succ f ih => exact ⟨fun _ _ _ => lBX1_carry_at52_0 ih.2.1, fun _ _ _ _ => lBX1_carry_at52_18 ih.2.2.1 ih.2.2.2, fun _ _ _ _ _ _ => lBX1_carry_at52_64 ih.2.1 ih.2.2.1, fun _ _ _ => lBX1_carry_at52_118 ih.2.2.2⟩
noncomputable def qX1_carry_at52_0 (x1 : Int32) (x2 : Int32) (h : ea_H) : Option (Unit × ea_H) := flim fun f => (gX1_carry_at52 f).1 x1 x2 h
noncomputable def qX1_carry_at52_18 (x2 : Int32) (x3 : Int32) (x4 : Int32) (h : ea_H) : Option (Unit × ea_H) := flim fun f => (gX1_carry_at52 f).2.1 x2 x3 x4 h
noncomputable def qX1_carry_at52_64 (x2 : Int32) (x3 : Int32) (x4 : Int32) (x5 : Int32) (x6 : Int32) (h : ea_H) : Option (Unit × ea_H) := flim fun f => (gX1_carry_at52 f).2.2.1 x2 x3 x4 x5 x6 h
noncomputable def qX1_carry_at52_118 (x2 : Int32) (x3 : Int32) (h : ea_H) : Option (Unit × ea_H) := flim fun f => (gX1_carry_at52 f).2.2.2 x2 x3 h
theorem fqX1_carry_at52_0 (x1 : Int32) (x2 : Int32) (h : ea_H) : fct (qX1_carry_at52_0 x1 x2 h) fun f => (gX1_carry_at52 f).1 x1 x2 h := flim_ct fun f => (mgX1_carry_at52 f).1 x1 x2 h
theorem fqX1_carry_at52_18 (x2 : Int32) (x3 : Int32) (x4 : Int32) (h : ea_H) : fct (qX1_carry_at52_18 x2 x3 x4 h) fun f => (gX1_carry_at52 f).2.1 x2 x3 x4 h := flim_ct fun f => (mgX1_carry_at52 f).2.1 x2 x3 x4 h
theorem fqX1_carry_at52_64 (x2 : Int32) (x3 : Int32) (x4 : Int32) (x5 : Int32) (x6 : Int32) (h : ea_H) : fct (qX1_carry_at52_64 x2 x3 x4 x5 x6 h) fun f => (gX1_carry_at52 f).2.2.1 x2 x3 x4 x5 x6 h := flim_ct fun f => (mgX1_carry_at52 f).2.2.1 x2 x3 x4 x5 x6 h
theorem fqX1_carry_at52_118 (x2 : Int32) (x3 : Int32) (h : ea_H) : fct (qX1_carry_at52_118 x2 x3 h) fun f => (gX1_carry_at52 f).2.2.2 x2 x3 h := flim_ct fun f => (mgX1_carry_at52 f).2.2.2 x2 x3 h
/-- how a block opens -/
theorem uqX1_carry_at52_0 {x1 : Int32} {x2 : Int32} {h : ea_H} {P : Unit × ea_H → Prop} (H : sat (BX1_carry_at52_0 qX1_carry_at52_18 x1 x2 h) P) : sat (qX1_carry_at52_0 x1 x2 h) P := by
  obtain ⟨x, e, hp⟩ := H
  obtain ⟨n, hn⟩ := nBX1_carry_at52_0 fqX1_carry_at52_18 x e
  exact ⟨x, flim_at (fun f => (mgX1_carry_at52 f).1 x1 x2 h) (f := n + 1) (hn n (Nat.le_refl _)), hp⟩
/-- how a block opens -/
theorem uqX1_carry_at52_18 {x2 : Int32} {x3 : Int32} {x4 : Int32} {h : ea_H} {P : Unit × ea_H → Prop} (H : sat (BX1_carry_at52_18 qX1_carry_at52_64 qX1_carry_at52_118 x2 x3 x4 h) P) : sat (qX1_carry_at52_18 x2 x3 x4 h) P := by
  obtain ⟨x, e, hp⟩ := H
  obtain ⟨n, hn⟩ := nBX1_carry_at52_18 fqX1_carry_at52_64 fqX1_carry_at52_118 x e
  exact ⟨x, flim_at (fun f => (mgX1_carry_at52 f).2.1 x2 x3 x4 h) (f := n + 1) (hn n (Nat.le_refl _)), hp⟩
/-- how a block opens -/
theorem uqX1_carry_at52_64 {x2 : Int32} {x3 : Int32} {x4 : Int32} {x5 : Int32} {x6 : Int32} {h : ea_H} {P : Unit × ea_H → Prop} (H : sat (BX1_carry_at52_64 qX1_carry_at52_18 qX1_carry_at52_64 x2 x3 x4 x5 x6 h) P) : sat (qX1_carry_at52_64 x2 x3 x4 x5 x6 h) P := by
  obtain ⟨x, e, hp⟩ := H
  obtain ⟨n, hn⟩ := nBX1_carry_at52_64 fqX1_carry_at52_18 fqX1_carry_at52_64 x e
  exact ⟨x, flim_at (fun f => (mgX1_carry_at52 f).2.2.1 x2 x3 x4 x5 x6 h) (f := n + 1) (hn n (Nat.le_refl _)), hp⟩
/-- how a block opens -/
theorem uqX1_carry_at52_118 {x2 : Int32} {x3 : Int32} {h : ea_H} {P : Unit × ea_H → Prop} (H : sat (BX1_carry_at52_118 qX1_carry_at52_118 x2 x3 h) P) : sat (qX1_carry_at52_118 x2 x3 h) P := by
  obtain ⟨x, e, hp⟩ := H
  obtain ⟨n, hn⟩ := nBX1_carry_at52_118 fqX1_carry_at52_118 x e
  exact ⟨x, flim_at (fun f => (mgX1_carry_at52 f).2.2.2 x2 x3 h) (f := n + 1) (hn n (Nat.le_refl _)), hp⟩
theorem kgX1_carry_at52 : ∀ f : Nat, (∀ (x1 : Int32) (x2 : Int32) (h : ea_H), kp (ea_core h) ((gX1_carry_at52 f).1 x1 x2 h)) ∧ (∀ (x2 : Int32) (x3 : Int32) (x4 : Int32) (h : ea_H), kp (ea_core h) ((gX1_carry_at52 f).2.1 x2 x3 x4 h)) ∧ (∀ (x2 : Int32) (x3 : Int32) (x4 : Int32) (x5 : Int32) (x6 : Int32) (h : ea_H), kp (ea_core h) ((gX1_carry_at52 f).2.2.1 x2 x3 x4 x5 x6 h)) ∧ (∀ (x2 : Int32) (x3 : Int32) (h : ea_H), kp (ea_core h) ((gX1_carry_at52 f).2.2.2 x2 x3 h)) := by
  intro f
  induction f with
  | zero => exact ⟨fun _ _ _ => kp_none _, fun _ _ _ _ => kp_none _, fun _ _ _ _ _ _ => kp_none _, fun _ _ _ => kp_none _⟩
  | succ f ih => exact ⟨fun _ _ _ => kBX1_carry_at52_0 ih.2.1, fun _ _ _ _ => kBX1_carry_at52_18 ih.2.2.1 ih.2.2.2, fun _ _ _ _ _ _ => kBX1_carry_at52_64 ih.2.1 ih.2.2.1, fun _ _ _ => kBX1_carry_at52_118 ih.2.2.2⟩
theorem tgX1_carry_at52 {d : Nat} {h0 : ea_H} (hd : 5 ≤ d) : ∀ f : Nat, (∀ (x1 : Int32) (x2 : Int32) (h : ea_H) (r : Unit) (h' : ea_H), (gX1_carry_at52 f).1 x1 x2 h = some (r, h') → ShC h → ea_W mX1_carry d h0 none h' 0 [(0, vR (some 52)), (1, vI x1), (2, vI x2)] [] h) ∧ (∀ (x2 : Int32) (x3 : Int32) (x4 : Int32) (h : ea_H) (r : Unit) (h' : ea_H), (gX1_carry_at52 f).2.1 x2 x3 x4 h = some (r, h') → ShC h → ea_W mX1_carry d h0 none h' 18 [(0, vR (some 52)), (2, vI x2), (3, vI x3), (4, vI x4)] [] h) ∧ (∀ (x2 : Int32) (x3 : Int32) (x4 : Int32) (x5 : Int32) (x6 : Int32) (h : ea_H) (r : Unit) (h' : ea_H), (gX1_carry_at52 f).2.2.1 x2 x3 x4 x5 x6 h = some (r, h') → ShC h → ea_W mX1_carry d h0 none h' 64 [(0, vR (some 52)), (2, vI x2), (3, vI x3), (4, vI x4), (5, vI x5), (6, vI x6)] [] h) ∧ (∀ (x2 : Int32) (x3 : Int32) (h : ea_H) (r : Unit) (h' : ea_H), (gX1_carry_at52 f).2.2.2 x2 x3 h = some (r, h') → ShC h → ea_W mX1_carry d h0 none h' 118 [(0, vR (some 52)), (2, vI x2), (3, vI x3)] [] h) := by
  intro f
  induction f with
  | zero => exact ⟨fun _ _ _ _ _ E => no_some E, fun _ _ _ _ _ _ E => no_some E, fun _ _ _ _ _ _ _ _ E => no_some E, fun _ _ _ _ _ E => no_some E⟩
  | succ f ih => exact ⟨fun _ _ _ _ _ E hs => tBX1_carry_at52_0 hd ih.2.1 E hs, fun _ _ _ _ _ _ E hs => tBX1_carry_at52_18 hd ih.2.2.1 ih.2.2.2 E hs, fun _ _ _ _ _ _ _ _ E hs => tBX1_carry_at52_64 hd ih.2.1 ih.2.2.1 E hs, fun _ _ _ _ _ E hs => tBX1_carry_at52_118 hd ih.2.2.2 E hs⟩
noncomputable def qX1_carry_at52 (x1 : Int32) (x2 : Int32) (h : ea_H) : Option (Unit × ea_H) := qX1_carry_at52_0 x1 x2 h
theorem sX1_carry_at52 {d : Nat} {x1 : Int32} {x2 : Int32} {h : ea_H} {r : Unit} {h' : ea_H} (hd : 5 ≤ d) (hs : ShC h) (K : qX1_carry_at52 x1 x2 h = some (r, h')) : ea_Met mX1_carry d [vR (some 52), vI x1, vI x2] h none h' := by
  unfold qX1_carry_at52 at K
  obtain ⟨n, hn⟩ := fqX1_carry_at52_0 x1 x2 h _ K
  have W := (tgX1_carry_at52 (d := d) (h0 := h) hd n).1 x1 x2 h _ _ (hn n (Nat.le_refl _)) hs
  exact ea_enter rfl (Nat.le_of_ble_eq_true rfl) W
theorem kpX1_carry_at52 (x1 : Int32) (x2 : Int32) (h : ea_H) : kp (ea_core h) (qX1_carry_at52 x1 x2 h) := fun x e => by
  obtain ⟨n, hn⟩ := fqX1_carry_at52_0 x1 x2 h x e
  exact (kgX1_carry_at52 n).1 x1 x2 h x (hn n (Nat.le_refl _))
