/-! the reference, 3 -/
noncomputable def BX12_ordered_0 (J2 : Int32 → Int32 → Int32 → ea_H → Option (Int32 × ea_H)) (x1 : Int32) (x2 : Int32) (h : ea_H) : Option (Int32 × ea_H) :=
  (J2 (x1 : Int32) (x2 : Int32) (0 : Int32) h)
theorem tBX12_ordered_0 {d : Nat} {h0 : ea_H} (hd : 1 ≤ d) {J2 : Int32 → Int32 → Int32 → ea_H → Option (Int32 × ea_H)}  (kJ2 : ∀ (x1 : Int32) (x2 : Int32) (x3 : Int32) (h : ea_H) (r : Int32) (h' : ea_H), J2 x1 x2 x3 h = some (r, h') → ShM h → ea_W mX12_ordered d h0 (some (vI r)) h' 2 [(0, vR (some 326)), (1, vI x1), (2, vI x2), (3, vI x3)] [] h) {x1 : Int32} {x2 : Int32} {h : ea_H} {r : Int32} {h' : ea_H} (E : BX12_ordered_0 J2 x1 x2 h = some (r, h')) (hs : ShM h) : ea_W mX12_ordered d h0 (some (vI r)) h' 0 [(0, vR (some 326)), (1, vI x1), (2, vI x2)] [] h := by
  unfold BX12_ordered_0 at E
  refine ea_iconst (pc := 0) dX12_ordered_0 (v := 0) rfl ?_
  refine ea_istore_n (pc := 1) (lv' := [(0, vR (some 326)), (1, vI x1), (2, vI x2), (3, vI 0)]) dX12_ordered_1 rfl (Nat.le_of_ble_eq_true rfl) [1, 2, 3, 0] rfl ?_
  exact (kJ2 (x1 : Int32) (x2 : Int32) (0 : Int32) h _ _ E hs)
theorem kBX12_ordered_0 {J2 : Int32 → Int32 → Int32 → ea_H → Option (Int32 × ea_H)}  (cJ2 : ∀ (x1 : Int32) (x2 : Int32) (x3 : Int32) (h : ea_H), kp (ea_core h) (J2 x1 x2 x3 h)) {x1 : Int32} {x2 : Int32} {h : ea_H} : kp (ea_core h) (BX12_ordered_0 J2 x1 x2 h) :=
  (kp_tw (cJ2 _ _ _ _) rfl)
theorem lBX12_ordered_0 {J2 : Int32 → Int32 → Int32 → ea_H → Option (Int32 × ea_H)} {J2_ : Int32 → Int32 → Int32 → ea_H → Option (Int32 × ea_H)}  (mJ2 : ∀ (x1 : Int32) (x2 : Int32) (x3 : Int32) (h : ea_H), fle (J2 x1 x2 x3 h) (J2_ x1 x2 x3 h)) {x1 : Int32} {x2 : Int32} {h : ea_H} : fle (BX12_ordered_0 J2 x1 x2 h) (BX12_ordered_0 J2_ x1 x2 h) :=
  (mJ2 _ _ _ _)
theorem nBX12_ordered_0 {J2 : Int32 → Int32 → Int32 → ea_H → Option (Int32 × ea_H)} {J2_ : Nat → (Int32 → Int32 → Int32 → ea_H → Option (Int32 × ea_H))}  (mJ2 : ∀ (x1 : Int32) (x2 : Int32) (x3 : Int32) (h : ea_H), fct (J2 x1 x2 x3 h) (fun f => J2_ f x1 x2 x3 h)) {x1 : Int32} {x2 : Int32} {h : ea_H} : fct (BX12_ordered_0 J2 x1 x2 h) (fun f => BX12_ordered_0 (J2_ f) x1 x2 h) :=
  (mJ2 _ _ _ _)
noncomputable def BX12_ordered_2 (J18 : Int32 → Int32 → Int32 → Int32 → Int32 → ea_H → Option (Int32 × ea_H)) (x1 : Int32) (x2 : Int32) (x3 : Int32) (h : ea_H) : Option (Int32 × ea_H) :=
  (gd (vp_in x1 120) (if (ea_i h 396 (Int32.toNatClampNeg x1)) ≤ x3 then (some (((-1) : Int32), h)) else (J18 (x1 : Int32) (x2 : Int32) (x3 : Int32) (0 : Int32) (0 : Int32) h)))
theorem tBX12_ordered_2 {d : Nat} {h0 : ea_H} (hd : 1 ≤ d) {J18 : Int32 → Int32 → Int32 → Int32 → Int32 → ea_H → Option (Int32 × ea_H)}  (kJ18 : ∀ (x1 : Int32) (x2 : Int32) (x3 : Int32) (x4 : Int32) (x5 : Int32) (h : ea_H) (r : Int32) (h' : ea_H), J18 x1 x2 x3 x4 x5 h = some (r, h') → ShM h → ea_W mX12_ordered d h0 (some (vI r)) h' 18 [(0, vR (some 326)), (1, vI x1), (2, vI x2), (3, vI x3), (4, vI x4), (5, vI x5)] [] h) {x1 : Int32} {x2 : Int32} {x3 : Int32} {h : ea_H} {r : Int32} {h' : ea_H} (E : BX12_ordered_2 J18 x1 x2 x3 h = some (r, h')) (hs : ShM h) : ea_W mX12_ordered d h0 (some (vI r)) h' 2 [(0, vR (some 326)), (1, vI x1), (2, vI x2), (3, vI x3)] [] h := by
  unfold BX12_ordered_2 at E
  obtain ⟨z1, E⟩ := gd_some E
  refine ea_iload_n (pc := 2) dX12_ordered_2 rfl 3 rfl ?_
  refine ea_aload_n (pc := 3) dX12_ordered_3 rfl 0 rfl ?_
  refine ea_getR (pc := 4) dX12_ordered_4 ec_12 (k := 97) (Nat.le_of_ble_eq_true rfl) rfl (Or.inl ew_1499) (cShM_326 hs).1 (cShM_326 hs).2.1 (rShM_326_97 hs) ?_
  refine ea_iload_n (pc := 7) dX12_ordered_7 rfl 1 rfl ?_
  refine ea_iald (pc := 8) dX12_ordered_8 (cShM_396 hs).1 (cShM_396 hs).2.1 (ea_vpl (cShM_396 hs).2.2 z1) ?_
  refine ea_icmp_ge (pc := 9) (tgt := 126) dX12_ordered_9 rfl (fun c2 => ?_) (fun c2 => ?_)
  · have E := (if_pos c2).symm.trans E
    refine ea_iconst (pc := 126) dX12_ordered_126 (v := (-1)) rfl ?_
    exact ea_iretO (pc := 127) dX12_ordered_127 rfl rfl E
  · have E := (if_neg c2).symm.trans E
    refine ea_iconst (pc := 12) dX12_ordered_12 (v := 0) rfl ?_
    refine ea_istore (pc := 13) (lv' := [(0, vR (some 326)), (1, vI x1), (2, vI x2), (3, vI x3), (4, vI 0)]) dX12_ordered_13 (Nat.le_of_ble_eq_true rfl) [1, 2, 3, 4, 0] rfl ?_
    refine ea_iconst (pc := 15) dX12_ordered_15 (v := 0) rfl ?_
    refine ea_istore (pc := 16) (lv' := [(0, vR (some 326)), (1, vI x1), (2, vI x2), (3, vI x3), (4, vI 0), (5, vI 0)]) dX12_ordered_16 (Nat.le_of_ble_eq_true rfl) [1, 2, 3, 4, 5, 0] rfl ?_
    exact (kJ18 (x1 : Int32) (x2 : Int32) (x3 : Int32) (0 : Int32) (0 : Int32) h _ _ E hs)
theorem kBX12_ordered_2 {J18 : Int32 → Int32 → Int32 → Int32 → Int32 → ea_H → Option (Int32 × ea_H)}  (cJ18 : ∀ (x1 : Int32) (x2 : Int32) (x3 : Int32) (x4 : Int32) (x5 : Int32) (h : ea_H), kp (ea_core h) (J18 x1 x2 x3 x4 x5 h)) {x1 : Int32} {x2 : Int32} {x3 : Int32} {h : ea_H} : kp (ea_core h) (BX12_ordered_2 J18 x1 x2 x3 h) :=
  (kp_gd (kp_ite (kp_ret rfl) (kp_tw (cJ18 _ _ _ _ _ _) rfl)))
theorem lBX12_ordered_2 {J18 : Int32 → Int32 → Int32 → Int32 → Int32 → ea_H → Option (Int32 × ea_H)} {J18_ : Int32 → Int32 → Int32 → Int32 → Int32 → ea_H → Option (Int32 × ea_H)}  (mJ18 : ∀ (x1 : Int32) (x2 : Int32) (x3 : Int32) (x4 : Int32) (x5 : Int32) (h : ea_H), fle (J18 x1 x2 x3 x4 x5 h) (J18_ x1 x2 x3 x4 x5 h)) {x1 : Int32} {x2 : Int32} {x3 : Int32} {h : ea_H} : fle (BX12_ordered_2 J18 x1 x2 x3 h) (BX12_ordered_2 J18_ x1 x2 x3 h) :=
  (fle_gd (fle_ite (fle_rfl _) (mJ18 _ _ _ _ _ _)))
theorem nBX12_ordered_2 {J18 : Int32 → Int32 → Int32 → Int32 → Int32 → ea_H → Option (Int32 × ea_H)} {J18_ : Nat → (Int32 → Int32 → Int32 → Int32 → Int32 → ea_H → Option (Int32 × ea_H))}  (mJ18 : ∀ (x1 : Int32) (x2 : Int32) (x3 : Int32) (x4 : Int32) (x5 : Int32) (h : ea_H), fct (J18 x1 x2 x3 x4 x5 h) (fun f => J18_ f x1 x2 x3 x4 x5 h)) {x1 : Int32} {x2 : Int32} {x3 : Int32} {h : ea_H} : fct (BX12_ordered_2 J18 x1 x2 x3 h) (fun f => BX12_ordered_2 (J18_ f) x1 x2 x3 h) :=
  (fct_gd (fct_ite (fct_rfl _) (mJ18 _ _ _ _ _ _)))
noncomputable def BX12_ordered_18 (J2 : Int32 → Int32 → Int32 → ea_H → Option (Int32 × ea_H)) (J18 : Int32 → Int32 → Int32 → Int32 → Int32 → ea_H → Option (Int32 × ea_H)) (x1 : Int32) (x2 : Int32) (x3 : Int32) (x4 : Int32) (x5 : Int32) (h : ea_H) : Option (Int32 × ea_H) :=
  (gd (vp_in x1 120) (if (ea_i h 396 (Int32.toNatClampNeg x1)) ≤ x5 then (if x4 = x2 then (some ((((4 : Int32) * x1) + x3), h)) else (J2 (x1 : Int32) (x2 : Int32) ((x3 + (1 : Int32)) : Int32) h)) else (gd (vp_in (((4 : Int32) * x1) + x5) 480) (ea_let (ea_i h 398 (Int32.toNatClampNeg (((4 : Int32) * x1) + x5))) fun (v6 : Int32) => (gd (vp_in (((4 : Int32) * x1) + x3) 480) (ea_let (ea_i h 398 (Int32.toNatClampNeg (((4 : Int32) * x1) + x3))) fun (v8 : Int32) => (if v8 < v6 then (ea_let (x4 + (1 : Int32)) fun (v9 : Int32) => (J18 (x1 : Int32) (x2 : Int32) (x3 : Int32) (v9 : Int32) ((x5 + (1 : Int32)) : Int32) h)) else (if v6 = v8 then (gd (vp_in (((4 : Int32) * x1) + x5) 480) (gd (vp_in (((4 : Int32) * x1) + x3) 480) (if (ea_i h 397 (Int32.toNatClampNeg (((4 : Int32) * x1) + x3))) ≤ (ea_i h 397 (Int32.toNatClampNeg (((4 : Int32) * x1) + x5))) then (ea_let (x4 + (0 : Int32)) fun (v13 : Int32) => (J18 (x1 : Int32) (x2 : Int32) (x3 : Int32) (v13 : Int32) ((x5 + (1 : Int32)) : Int32) h)) else (ea_let (x4 + (1 : Int32)) fun (v14 : Int32) => (J18 (x1 : Int32) (x2 : Int32) (x3 : Int32) (v14 : Int32) ((x5 + (1 : Int32)) : Int32) h))))) else (ea_let (x4 + (0 : Int32)) fun (v10 : Int32) => (J18 (x1 : Int32) (x2 : Int32) (x3 : Int32) (v10 : Int32) ((x5 + (1 : Int32)) : Int32) h))))))))))
theorem tBX12_ordered_18 {d : Nat} {h0 : ea_H} (hd : 1 ≤ d) {J2 : Int32 → Int32 → Int32 → ea_H → Option (Int32 × ea_H)} {J18 : Int32 → Int32 → Int32 → Int32 → Int32 → ea_H → Option (Int32 × ea_H)}  (kJ2 : ∀ (x1 : Int32) (x2 : Int32) (x3 : Int32) (h : ea_H) (r : Int32) (h' : ea_H), J2 x1 x2 x3 h = some (r, h') → ShM h → ea_W mX12_ordered d h0 (some (vI r)) h' 2 [(0, vR (some 326)), (1, vI x1), (2, vI x2), (3, vI x3)] [] h) (kJ18 : ∀ (x1 : Int32) (x2 : Int32) (x3 : Int32) (x4 : Int32) (x5 : Int32) (h : ea_H) (r : Int32) (h' : ea_H), J18 x1 x2 x3 x4 x5 h = some (r, h') → ShM h → ea_W mX12_ordered d h0 (some (vI r)) h' 18 [(0, vR (some 326)), (1, vI x1), (2, vI x2), (3, vI x3), (4, vI x4), (5, vI x5)] [] h) {x1 : Int32} {x2 : Int32} {x3 : Int32} {x4 : Int32} {x5 : Int32} {h : ea_H} {r : Int32} {h' : ea_H} (E : BX12_ordered_18 J2 J18 x1 x2 x3 x4 x5 h = some (r, h')) (hs : ShM h) : ea_W mX12_ordered d h0 (some (vI r)) h' 18 [(0, vR (some 326)), (1, vI x1), (2, vI x2), (3, vI x3), (4, vI x4), (5, vI x5)] [] h := by
  unfold BX12_ordered_18 at E
  obtain ⟨z3, E⟩ := gd_some E
  refine ea_iload (pc := 18) dX12_ordered_18 5 rfl ?_
  refine ea_aload_n (pc := 20) dX12_ordered_20 rfl 0 rfl ?_
  refine ea_getR (pc := 21) dX12_ordered_21 ec_12 (k := 97) (Nat.le_of_ble_eq_true rfl) rfl (Or.inl ew_1499) (cShM_326 hs).1 (cShM_326 hs).2.1 (rShM_326_97 hs) ?_
  refine ea_iload_n (pc := 24) dX12_ordered_24 rfl 1 rfl ?_
  refine ea_iald (pc := 25) dX12_ordered_25 (cShM_396 hs).1 (cShM_396 hs).2.1 (ea_vpl (cShM_396 hs).2.2 z3) ?_
  refine ea_icmp_ge (pc := 26) (tgt := 108) dX12_ordered_26 rfl (fun c18 => ?_) (fun c18 => ?_)
  · have E := (if_pos c18).symm.trans E
    refine ea_iload (pc := 108) dX12_ordered_108 4 rfl ?_
    refine ea_iload_n (pc := 110) dX12_ordered_110 rfl 2 rfl ?_
    refine ea_icmp_ne (pc := 111) (tgt := 120) dX12_ordered_111 rfl (fun c4 => ?_) (fun c4 => ?_)
    · have E := (if_neg c4).symm.trans E
      refine ea_iinc (pc := 120) (v := 1) (lv' := [(0, vR (some 326)), (1, vI x1), (2, vI x2), (3, vI (x3 + (1 : Int32)))]) dX12_ordered_120 3 rfl rfl (Nat.le_of_ble_eq_true rfl) [1, 2, 3, 0] rfl ?_
      refine ea_goto (pc := 123) (tgt := 2) dX12_ordered_123 rfl ?_
      exact (kJ2 (x1 : Int32) (x2 : Int32) ((x3 + (1 : Int32)) : Int32) h _ _ E hs)
    · have E := (if_pos c4).symm.trans E
      refine ea_iconst (pc := 114) dX12_ordered_114 (v := 4) rfl ?_
      refine ea_iload_n (pc := 115) dX12_ordered_115 rfl 1 rfl ?_
      refine ea_imul (pc := 116) dX12_ordered_116 ?_
      refine ea_iload_n (pc := 117) dX12_ordered_117 rfl 3 rfl ?_
      refine ea_iadd (pc := 118) dX12_ordered_118 ?_
      exact ea_iretO (pc := 119) dX12_ordered_119 rfl rfl E
  · have E := (if_neg c18).symm.trans E
    obtain ⟨z5, E⟩ := gd_some E
    refine ea_aload_n (pc := 29) dX12_ordered_29 rfl 0 rfl ?_
    refine ea_getR (pc := 30) dX12_ordered_30 ec_12 (k := 99) (Nat.le_of_ble_eq_true rfl) rfl (Or.inl ew_1501) (cShM_326 hs).1 (cShM_326 hs).2.1 (rShM_326_99 hs) ?_
    refine ea_iconst (pc := 33) dX12_ordered_33 (v := 4) rfl ?_
    refine ea_iload_n (pc := 34) dX12_ordered_34 rfl 1 rfl ?_
    refine ea_imul (pc := 35) dX12_ordered_35 ?_
    refine ea_iload (pc := 36) dX12_ordered_36 5 rfl ?_
    refine ea_iadd (pc := 38) dX12_ordered_38 ?_
    obtain ⟨v6, ev6, E⟩ := let_some E
    refine ea_iald (pc := 39) dX12_ordered_39 (cShM_398 hs).1 (cShM_398 hs).2.1 (ea_vpl (cShM_398 hs).2.2 z5) ?_
    obtain ⟨z7, E⟩ := gd_some E
    refine ea_istore (pc := 40) (lv' := [(0, vR (some 326)), (1, vI x1), (2, vI x2), (3, vI x3), (4, vI x4), (5, vI x5), (6, vI v6)]) dX12_ordered_40 (Nat.le_of_ble_eq_true rfl) [1, 2, 3, 4, 5, 6, 0] (by rw [ev6]; rfl) ?_
    refine ea_aload_n (pc := 42) dX12_ordered_42 rfl 0 rfl ?_
    refine ea_getR (pc := 43) dX12_ordered_43 ec_12 (k := 99) (Nat.le_of_ble_eq_true rfl) rfl (Or.inl ew_1501) (cShM_326 hs).1 (cShM_326 hs).2.1 (rShM_326_99 hs) ?_
    refine ea_iconst (pc := 46) dX12_ordered_46 (v := 4) rfl ?_
    refine ea_iload_n (pc := 47) dX12_ordered_47 rfl 1 rfl ?_
    refine ea_imul (pc := 48) dX12_ordered_48 ?_
    refine ea_iload_n (pc := 49) dX12_ordered_49 rfl 3 rfl ?_
    refine ea_iadd (pc := 50) dX12_ordered_50 ?_
    obtain ⟨v8, ev8, E⟩ := let_some E
    refine ea_iald (pc := 51) dX12_ordered_51 (cShM_398 hs).1 (cShM_398 hs).2.1 (ea_vpl (cShM_398 hs).2.2 z7) ?_
    refine ea_istore (pc := 52) (lv' := [(0, vR (some 326)), (1, vI x1), (2, vI x2), (3, vI x3), (4, vI x4), (5, vI x5), (6, vI v6), (7, vI v8)]) dX12_ordered_52 (Nat.le_of_ble_eq_true rfl) [1, 2, 3, 4, 5, 6, 7, 0] (by rw [ev8]; rfl) ?_
    refine ea_iload (pc := 54) dX12_ordered_54 4 rfl ?_
    refine ea_iload (pc := 56) dX12_ordered_56 6 rfl ?_
    refine ea_iload (pc := 58) dX12_ordered_58 7 rfl ?_
    refine ea_icmp_gt (pc := 60) (tgt := 94) dX12_ordered_60 rfl (fun c17 => ?_) (fun c17 => ?_)
    · have E := (if_pos c17).symm.trans E
      obtain ⟨v9, ev9, E⟩ := let_some E
      refine ea_iconst (pc := 94) dX12_ordered_94 (v := 1) rfl ?_
      refine ea_goto (pc := 95) (tgt := 99) dX12_ordered_95 rfl ?_
      refine ea_iadd (pc := 99) dX12_ordered_99 ?_
      refine ea_istore (pc := 100) (lv' := [(0, vR (some 326)), (1, vI x1), (2, vI x2), (3, vI x3), (4, vI v9), (5, vI x5)]) dX12_ordered_100 (Nat.le_of_ble_eq_true rfl) [1, 2, 3, 4, 0, 5] (by rw [ev9]; rfl) ?_
      refine ea_iinc (pc := 102) (v := 1) (lv' := [(0, vR (some 326)), (1, vI x1), (2, vI x2), (3, vI x3), (4, vI v9), (5, vI (x5 + (1 : Int32)))]) dX12_ordered_102 5 rfl rfl (Nat.le_of_ble_eq_true rfl) [1, 2, 3, 4, 5, 0] rfl ?_
      refine ea_goto (pc := 105) (tgt := 18) dX12_ordered_105 rfl ?_
      exact (kJ18 (x1 : Int32) (x2 : Int32) (x3 : Int32) (v9 : Int32) ((x5 + (1 : Int32)) : Int32) h _ _ E hs)
    · have E := (if_neg c17).symm.trans E
      refine ea_iload (pc := 63) dX12_ordered_63 6 rfl ?_
      refine ea_iload (pc := 65) dX12_ordered_65 7 rfl ?_
      refine ea_icmp_ne (pc := 67) (tgt := 98) dX12_ordered_67 rfl (fun c16 => ?_) (fun c16 => ?_)
      · have E := (if_neg c16).symm.trans E
        obtain ⟨v10, ev10, E⟩ := let_some E
        refine ea_iconst (pc := 98) dX12_ordered_98 (v := 0) rfl ?_
        refine ea_iadd (pc := 99) dX12_ordered_99 ?_
        refine ea_istore (pc := 100) (lv' := [(0, vR (some 326)), (1, vI x1), (2, vI x2), (3, vI x3), (4, vI v10), (5, vI x5)]) dX12_ordered_100 (Nat.le_of_ble_eq_true rfl) [1, 2, 3, 4, 0, 5] (by rw [ev10]; rfl) ?_
        refine ea_iinc (pc := 102) (v := 1) (lv' := [(0, vR (some 326)), (1, vI x1), (2, vI x2), (3, vI x3), (4, vI v10), (5, vI (x5 + (1 : Int32)))]) dX12_ordered_102 5 rfl rfl (Nat.le_of_ble_eq_true rfl) [1, 2, 3, 4, 5, 0] rfl ?_
        refine ea_goto (pc := 105) (tgt := 18) dX12_ordered_105 rfl ?_
        exact (kJ18 (x1 : Int32) (x2 : Int32) (x3 : Int32) (v10 : Int32) ((x5 + (1 : Int32)) : Int32) h _ _ E hs)
      · have E := (if_pos c16).symm.trans E
        obtain ⟨z11, E⟩ := gd_some E
        refine ea_aload_n (pc := 70) dX12_ordered_70 rfl 0 rfl ?_
        refine ea_getR (pc := 71) dX12_ordered_71 ec_12 (k := 98) (Nat.le_of_ble_eq_true rfl) rfl (Or.inl ew_1500) (cShM_326 hs).1 (cShM_326 hs).2.1 (rShM_326_98 hs) ?_
        refine ea_iconst (pc := 74) dX12_ordered_74 (v := 4) rfl ?_
        refine ea_iload_n (pc := 75) dX12_ordered_75 rfl 1 rfl ?_
        refine ea_imul (pc := 76) dX12_ordered_76 ?_
        refine ea_iload (pc := 77) dX12_ordered_77 5 rfl ?_
        refine ea_iadd (pc := 79) dX12_ordered_79 ?_
        obtain ⟨z12, E⟩ := gd_some E
        refine ea_iald (pc := 80) dX12_ordered_80 (cShM_397 hs).1 (cShM_397 hs).2.1 (ea_vpl (cShM_397 hs).2.2 z11) ?_
        refine ea_aload_n (pc := 81) dX12_ordered_81 rfl 0 rfl ?_
        refine ea_getR (pc := 82) dX12_ordered_82 ec_12 (k := 98) (Nat.le_of_ble_eq_true rfl) rfl (Or.inl ew_1500) (cShM_326 hs).1 (cShM_326 hs).2.1 (rShM_326_98 hs) ?_
        refine ea_iconst (pc := 85) dX12_ordered_85 (v := 4) rfl ?_
        refine ea_iload_n (pc := 86) dX12_ordered_86 rfl 1 rfl ?_
        refine ea_imul (pc := 87) dX12_ordered_87 ?_
        refine ea_iload_n (pc := 88) dX12_ordered_88 rfl 3 rfl ?_
        refine ea_iadd (pc := 89) dX12_ordered_89 ?_
        refine ea_iald (pc := 90) dX12_ordered_90 (cShM_397 hs).1 (cShM_397 hs).2.1 (ea_vpl (cShM_397 hs).2.2 z12) ?_
        refine ea_icmp_ge (pc := 91) (tgt := 98) dX12_ordered_91 rfl (fun c15 => ?_) (fun c15 => ?_)
        · have E := (if_pos c15).symm.trans E
          obtain ⟨v13, ev13, E⟩ := let_some E
          refine ea_iconst (pc := 98) dX12_ordered_98 (v := 0) rfl ?_
          refine ea_iadd (pc := 99) dX12_ordered_99 ?_
          refine ea_istore (pc := 100) (lv' := [(0, vR (some 326)), (1, vI x1), (2, vI x2), (3, vI x3), (4, vI v13), (5, vI x5)]) dX12_ordered_100 (Nat.le_of_ble_eq_true rfl) [1, 2, 3, 4, 0, 5] (by rw [ev13]; rfl) ?_
          refine ea_iinc (pc := 102) (v := 1) (lv' := [(0, vR (some 326)), (1, vI x1), (2, vI x2), (3, vI x3), (4, vI v13), (5, vI (x5 + (1 : Int32)))]) dX12_ordered_102 5 rfl rfl (Nat.le_of_ble_eq_true rfl) [1, 2, 3, 4, 5, 0] rfl ?_
          refine ea_goto (pc := 105) (tgt := 18) dX12_ordered_105 rfl ?_
          exact (kJ18 (x1 : Int32) (x2 : Int32) (x3 : Int32) (v13 : Int32) ((x5 + (1 : Int32)) : Int32) h _ _ E hs)
        · have E := (if_neg c15).symm.trans E
          obtain ⟨v14, ev14, E⟩ := let_some E
          refine ea_iconst (pc := 94) dX12_ordered_94 (v := 1) rfl ?_
          refine ea_goto (pc := 95) (tgt := 99) dX12_ordered_95 rfl ?_
          refine ea_iadd (pc := 99) dX12_ordered_99 ?_
          refine ea_istore (pc := 100) (lv' := [(0, vR (some 326)), (1, vI x1), (2, vI x2), (3, vI x3), (4, vI v14), (5, vI x5)]) dX12_ordered_100 (Nat.le_of_ble_eq_true rfl) [1, 2, 3, 4, 0, 5] (by rw [ev14]; rfl) ?_
          refine ea_iinc (pc := 102) (v := 1) (lv' := [(0, vR (some 326)), (1, vI x1), (2, vI x2), (3, vI x3), (4, vI v14), (5, vI (x5 + (1 : Int32)))]) dX12_ordered_102 5 rfl rfl (Nat.le_of_ble_eq_true rfl) [1, 2, 3, 4, 5, 0] rfl ?_
          refine ea_goto (pc := 105) (tgt := 18) dX12_ordered_105 rfl ?_
          exact (kJ18 (x1 : Int32) (x2 : Int32) (x3 : Int32) (v14 : Int32) ((x5 + (1 : Int32)) : Int32) h _ _ E hs)
theorem kBX12_ordered_18 {J2 : Int32 → Int32 → Int32 → ea_H → Option (Int32 × ea_H)} {J18 : Int32 → Int32 → Int32 → Int32 → Int32 → ea_H → Option (Int32 × ea_H)}  (cJ2 : ∀ (x1 : Int32) (x2 : Int32) (x3 : Int32) (h : ea_H), kp (ea_core h) (J2 x1 x2 x3 h)) (cJ18 : ∀ (x1 : Int32) (x2 : Int32) (x3 : Int32) (x4 : Int32) (x5 : Int32) (h : ea_H), kp (ea_core h) (J18 x1 x2 x3 x4 x5 h)) {x1 : Int32} {x2 : Int32} {x3 : Int32} {x4 : Int32} {x5 : Int32} {h : ea_H} : kp (ea_core h) (BX12_ordered_18 J2 J18 x1 x2 x3 x4 x5 h) :=
  (kp_gd (kp_ite (kp_ite (kp_ret rfl) (kp_tw (cJ2 _ _ _ _) rfl)) (kp_gd (kp_let (kp_gd (kp_let (kp_ite (kp_let (kp_tw (cJ18 _ _ _ _ _ _) rfl)) (kp_ite (kp_gd (kp_gd (kp_ite (kp_let (kp_tw (cJ18 _ _ _ _ _ _) rfl)) (kp_let (kp_tw (cJ18 _ _ _ _ _ _) rfl))))) (kp_let (kp_tw (cJ18 _ _ _ _ _ _) rfl))))))))))
theorem lBX12_ordered_18 {J2 : Int32 → Int32 → Int32 → ea_H → Option (Int32 × ea_H)} {J18 : Int32 → Int32 → Int32 → Int32 → Int32 → ea_H → Option (Int32 × ea_H)} {J2_ : Int32 → Int32 → Int32 → ea_H → Option (Int32 × ea_H)} {J18_ : Int32 → Int32 → Int32 → Int32 → Int32 → ea_H → Option (Int32 × ea_H)}  (mJ2 : ∀ (x1 : Int32) (x2 : Int32) (x3 : Int32) (h : ea_H), fle (J2 x1 x2 x3 h) (J2_ x1 x2 x3 h)) (mJ18 : ∀ (x1 : Int32) (x2 : Int32) (x3 : Int32) (x4 : Int32) (x5 : Int32) (h : ea_H), fle (J18 x1 x2 x3 x4 x5 h) (J18_ x1 x2 x3 x4 x5 h)) {x1 : Int32} {x2 : Int32} {x3 : Int32} {x4 : Int32} {x5 : Int32} {h : ea_H} : fle (BX12_ordered_18 J2 J18 x1 x2 x3 x4 x5 h) (BX12_ordered_18 J2_ J18_ x1 x2 x3 x4 x5 h) :=
  (fle_gd (fle_ite (fle_ite (fle_rfl _) (mJ2 _ _ _ _)) (fle_gd (fle_let fun _ => (fle_gd (fle_let fun _ => (fle_ite (fle_let fun _ => (mJ18 _ _ _ _ _ _)) (fle_ite (fle_gd (fle_gd (fle_ite (fle_let fun _ => (mJ18 _ _ _ _ _ _)) (fle_let fun _ => (mJ18 _ _ _ _ _ _))))) (fle_let fun _ => (mJ18 _ _ _ _ _ _))))))))))
theorem nBX12_ordered_18 {J2 : Int32 → Int32 → Int32 → ea_H → Option (Int32 × ea_H)} {J18 : Int32 → Int32 → Int32 → Int32 → Int32 → ea_H → Option (Int32 × ea_H)} {J2_ : Nat → (Int32 → Int32 → Int32 → ea_H → Option (Int32 × ea_H))} {J18_ : Nat → (Int32 → Int32 → Int32 → Int32 → Int32 → ea_H → Option (Int32 × ea_H))}  (mJ2 : ∀ (x1 : Int32) (x2 : Int32) (x3 : Int32) (h : ea_H), fct (J2 x1 x2 x3 h) (fun f => J2_ f x1 x2 x3 h)) (mJ18 : ∀ (x1 : Int32) (x2 : Int32) (x3 : Int32) (x4 : Int32) (x5 : Int32) (h : ea_H), fct (J18 x1 x2 x3 x4 x5 h) (fun f => J18_ f x1 x2 x3 x4 x5 h)) {x1 : Int32} {x2 : Int32} {x3 : Int32} {x4 : Int32} {x5 : Int32} {h : ea_H} : fct (BX12_ordered_18 J2 J18 x1 x2 x3 x4 x5 h) (fun f => BX12_ordered_18 (J2_ f) (J18_ f) x1 x2 x3 x4 x5 h) :=
  (fct_gd (fct_ite (fct_ite (fct_rfl _) (mJ2 _ _ _ _)) (fct_gd (fct_let fun _ => (fct_gd (fct_let fun _ => (fct_ite (fct_let fun _ => (mJ18 _ _ _ _ _ _)) (fct_ite (fct_gd (fct_gd (fct_ite (fct_let fun _ => (mJ18 _ _ _ _ _ _)) (fct_let fun _ => (mJ18 _ _ _ _ _ _))))) (fct_let fun _ => (mJ18 _ _ _ _ _ _))))))))))
noncomputable def gX12_ordered : Nat → (Int32 → Int32 → ea_H → Option (Int32 × ea_H)) × (Int32 → Int32 → Int32 → ea_H → Option (Int32 × ea_H)) × (Int32 → Int32 → Int32 → Int32 → Int32 → ea_H → Option (Int32 × ea_H))
  | 0 => (fun _ _ _ => none, fun _ _ _ _ => none, fun _ _ _ _ _ _ => none)
  | f + 1 => (BX12_ordered_0 (gX12_ordered f).2.1, BX12_ordered_2 (gX12_ordered f).2.2, BX12_ordered_18 (gX12_ordered f).2.1 (gX12_ordered f).2.2)
theorem mgX12_ordered : ∀ f : Nat, (∀ (x1 : Int32) (x2 : Int32) (h : ea_H), fle ((gX12_ordered f).1 x1 x2 h) ((gX12_ordered (f + 1)).1 x1 x2 h)) ∧ (∀ (x1 : Int32) (x2 : Int32) (x3 : Int32) (h : ea_H), fle ((gX12_ordered f).2.1 x1 x2 x3 h) ((gX12_ordered (f + 1)).2.1 x1 x2 x3 h)) ∧ (∀ (x1 : Int32) (x2 : Int32) (x3 : Int32) (x4 : Int32) (x5 : Int32) (h : ea_H), fle ((gX12_ordered f).2.2 x1 x2 x3 x4 x5 h) ((gX12_ordered (f + 1)).2.2 x1 x2 x3 x4 x5 h)) := by
  intro f
  induction f with
  | zero => exact ⟨fun _ _ _ => fle_none _, fun _ _ _ _ => fle_none _, fun _ _ _ _ _ _ => fle_none _⟩
  | succ f ih => exact ⟨fun _ _ _ => lBX12_ordered_0 ih.2.1, fun _ _ _ _ => lBX12_ordered_2 ih.2.2, fun _ _ _ _ _ _ => lBX12_ordered_18 ih.2.1 ih.2.2⟩
noncomputable def qX12_ordered_0 (x1 : Int32) (x2 : Int32) (h : ea_H) : Option (Int32 × ea_H) := flim fun f => (gX12_ordered f).1 x1 x2 h
noncomputable def qX12_ordered_2 (x1 : Int32) (x2 : Int32) (x3 : Int32) (h : ea_H) : Option (Int32 × ea_H) := flim fun f => (gX12_ordered f).2.1 x1 x2 x3 h
noncomputable def qX12_ordered_18 (x1 : Int32) (x2 : Int32) (x3 : Int32) (x4 : Int32) (x5 : Int32) (h : ea_H) : Option (Int32 × ea_H) := flim fun f => (gX12_ordered f).2.2 x1 x2 x3 x4 x5 h
theorem fqX12_ordered_0 (x1 : Int32) (x2 : Int32) (h : ea_H) : fct (qX12_ordered_0 x1 x2 h) fun f => (gX12_ordered f).1 x1 x2 h := flim_ct fun f => (mgX12_ordered f).1 x1 x2 h
theorem fqX12_ordered_2 (x1 : Int32) (x2 : Int32) (x3 : Int32) (h : ea_H) : fct (qX12_ordered_2 x1 x2 x3 h) fun f => (gX12_ordered f).2.1 x1 x2 x3 h := flim_ct fun f => (mgX12_ordered f).2.1 x1 x2 x3 h
theorem fqX12_ordered_18 (x1 : Int32) (x2 : Int32) (x3 : Int32) (x4 : Int32) (x5 : Int32) (h : ea_H) : fct (qX12_ordered_18 x1 x2 x3 x4 x5 h) fun f => (gX12_ordered f).2.2 x1 x2 x3 x4 x5 h := flim_ct fun f => (mgX12_ordered f).2.2 x1 x2 x3 x4 x5 h
/-- how a block opens -/
theorem uqX12_ordered_0 {x1 : Int32} {x2 : Int32} {h : ea_H} {P : Int32 × ea_H → Prop} (H : sat (BX12_ordered_0 qX12_ordered_2 x1 x2 h) P) : sat (qX12_ordered_0 x1 x2 h) P := by
  obtain ⟨x, e, hp⟩ := H
  obtain ⟨n, hn⟩ := nBX12_ordered_0 fqX12_ordered_2 x e
  exact ⟨x, flim_at (fun f => (mgX12_ordered f).1 x1 x2 h) (f := n + 1) (hn n (Nat.le_refl _)), hp⟩
/-- how a block opens -/
theorem uqX12_ordered_2 {x1 : Int32} {x2 : Int32} {x3 : Int32} {h : ea_H} {P : Int32 × ea_H → Prop} (H : sat (BX12_ordered_2 qX12_ordered_18 x1 x2 x3 h) P) : sat (qX12_ordered_2 x1 x2 x3 h) P := by
  obtain ⟨x, e, hp⟩ := H
  obtain ⟨n, hn⟩ := nBX12_ordered_2 fqX12_ordered_18 x e
  exact ⟨x, flim_at (fun f => (mgX12_ordered f).2.1 x1 x2 x3 h) (f := n + 1) (hn n (Nat.le_refl _)), hp⟩
/-- how a block opens -/
theorem uqX12_ordered_18 {x1 : Int32} {x2 : Int32} {x3 : Int32} {x4 : Int32} {x5 : Int32} {h : ea_H} {P : Int32 × ea_H → Prop} (H : sat (BX12_ordered_18 qX12_ordered_2 qX12_ordered_18 x1 x2 x3 x4 x5 h) P) : sat (qX12_ordered_18 x1 x2 x3 x4 x5 h) P := by
  obtain ⟨x, e, hp⟩ := H
  obtain ⟨n, hn⟩ := nBX12_ordered_18 fqX12_ordered_2 fqX12_ordered_18 x e
  exact ⟨x, flim_at (fun f => (mgX12_ordered f).2.2 x1 x2 x3 x4 x5 h) (f := n + 1) (hn n (Nat.le_refl _)), hp⟩
theorem kgX12_ordered : ∀ f : Nat, (∀ (x1 : Int32) (x2 : Int32) (h : ea_H), kp (ea_core h) ((gX12_ordered f).1 x1 x2 h)) ∧ (∀ (x1 : Int32) (x2 : Int32) (x3 : Int32) (h : ea_H), kp (ea_core h) ((gX12_ordered f).2.1 x1 x2 x3 h)) ∧ (∀ (x1 : Int32) (x2 : Int32) (x3 : Int32) (x4 : Int32) (x5 : Int32) (h : ea_H), kp (ea_core h) ((gX12_ordered f).2.2 x1 x2 x3 x4 x5 h)) := by
  intro f
  induction f with
  | zero => exact ⟨fun _ _ _ => kp_none _, fun _ _ _ _ => kp_none _, fun _ _ _ _ _ _ => kp_none _⟩
  | succ f ih => exact ⟨fun _ _ _ => kBX12_ordered_0 ih.2.1, fun _ _ _ _ => kBX12_ordered_2 ih.2.2, fun _ _ _ _ _ _ => kBX12_ordered_18 ih.2.1 ih.2.2⟩
theorem tgX12_ordered {d : Nat} {h0 : ea_H} (hd : 1 ≤ d) : ∀ f : Nat, (∀ (x1 : Int32) (x2 : Int32) (h : ea_H) (r : Int32) (h' : ea_H), (gX12_ordered f).1 x1 x2 h = some (r, h') → ShM h → ea_W mX12_ordered d h0 (some (vI r)) h' 0 [(0, vR (some 326)), (1, vI x1), (2, vI x2)] [] h) ∧ (∀ (x1 : Int32) (x2 : Int32) (x3 : Int32) (h : ea_H) (r : Int32) (h' : ea_H), (gX12_ordered f).2.1 x1 x2 x3 h = some (r, h') → ShM h → ea_W mX12_ordered d h0 (some (vI r)) h' 2 [(0, vR (some 326)), (1, vI x1), (2, vI x2), (3, vI x3)] [] h) ∧ (∀ (x1 : Int32) (x2 : Int32) (x3 : Int32) (x4 : Int32) (x5 : Int32) (h : ea_H) (r : Int32) (h' : ea_H), (gX12_ordered f).2.2 x1 x2 x3 x4 x5 h = some (r, h') → ShM h → ea_W mX12_ordered d h0 (some (vI r)) h' 18 [(0, vR (some 326)), (1, vI x1), (2, vI x2), (3, vI x3), (4, vI x4), (5, vI x5)] [] h) := by
  intro f
  induction f with
  | zero => exact ⟨fun _ _ _ _ _ E => no_some E, fun _ _ _ _ _ _ E => no_some E, fun _ _ _ _ _ _ _ _ E => no_some E⟩
  | succ f ih => exact ⟨fun _ _ _ _ _ E hs => tBX12_ordered_0 hd ih.2.1 E hs, fun _ _ _ _ _ _ E hs => tBX12_ordered_2 hd ih.2.2 E hs, fun _ _ _ _ _ _ _ _ E hs => tBX12_ordered_18 hd ih.2.1 ih.2.2 E hs⟩
noncomputable def qX12_ordered (x1 : Int32) (x2 : Int32) (h : ea_H) : Option (Int32 × ea_H) := qX12_ordered_0 x1 x2 h
theorem sX12_ordered {d : Nat} {x1 : Int32} {x2 : Int32} {h : ea_H} {r : Int32} {h' : ea_H} (hd : 1 ≤ d) (hs : ShM h) (K : qX12_ordered x1 x2 h = some (r, h')) : ea_Met mX12_ordered d [vR (some 326), vI x1, vI x2] h (some (vI r)) h' := by
  unfold qX12_ordered at K
  obtain ⟨n, hn⟩ := fqX12_ordered_0 x1 x2 h _ K
  have W := (tgX12_ordered (d := d) (h0 := h) hd n).1 x1 x2 h _ _ (hn n (Nat.le_refl _)) hs
  exact ea_enter rfl (Nat.le_of_ble_eq_true rfl) W
theorem kpX12_ordered (x1 : Int32) (x2 : Int32) (h : ea_H) : kp (ea_core h) (qX12_ordered x1 x2 h) := fun x e => by
  obtain ⟨n, hn⟩ := fqX12_ordered_0 x1 x2 h x e
  exact (kgX12_ordered n).1 x1 x2 h x (hn n (Nat.le_refl _))
noncomputable def BX12_common_0 (J6 : Int64 → Int64 → ea_H → Option (Int64 × ea_H)) (y0 : Int64) (y2 : Int64) (h : ea_H) : Option (Int64 × ea_H) :=
  (J6 (y0 : Int64) (y2 : Int64) h)
theorem tBX12_common_0 {d : Nat} {h0 : ea_H} (hd : 1 ≤ d) {J6 : Int64 → Int64 → ea_H → Option (Int64 × ea_H)}  (kJ6 : ∀ (y4 : Int64) (y6 : Int64) (h : ea_H) (r : Int64) (h' : ea_H), J6 y4 y6 h = some (r, h') → ea_W mX12_common d h0 (some (vJ r)) h' 6 [(4, vJ y4), (6, vJ y6)] [] h) {y0 : Int64} {y2 : Int64} {h : ea_H} {r : Int64} {h' : ea_H} (E : BX12_common_0 J6 y0 y2 h = some (r, h')) : ea_W mX12_common d h0 (some (vJ r)) h' 0 [(0, vJ y0), (2, vJ y2)] [] h := by
  unfold BX12_common_0 at E
  refine ea_lload_n (pc := 0) dX12_common_0 rfl 0 rfl ?_
  refine ea_lstore (pc := 1) (lv' := [(2, vJ y2), (4, vJ y0)]) dX12_common_1 (Nat.le_of_ble_eq_true rfl) [2, 0] rfl ?_
  refine ea_lload_n (pc := 3) dX12_common_3 rfl 0 rfl ?_
  refine ea_lstore (pc := 4) (lv' := [(4, vJ y0), (6, vJ y2)]) dX12_common_4 (Nat.le_of_ble_eq_true rfl) [2, 0] rfl ?_
  exact (kJ6 (y0 : Int64) (y2 : Int64) h _ _ E)
theorem kBX12_common_0 {J6 : Int64 → Int64 → ea_H → Option (Int64 × ea_H)}  (cJ6 : ∀ (y4 : Int64) (y6 : Int64) (h : ea_H), kp (ea_core h) (J6 y4 y6 h)) {y0 : Int64} {y2 : Int64} {h : ea_H} : kp (ea_core h) (BX12_common_0 J6 y0 y2 h) :=
  (kp_tw (cJ6 _ _ _) rfl)
theorem lBX12_common_0 {J6 : Int64 → Int64 → ea_H → Option (Int64 × ea_H)} {J6_ : Int64 → Int64 → ea_H → Option (Int64 × ea_H)}  (mJ6 : ∀ (y4 : Int64) (y6 : Int64) (h : ea_H), fle (J6 y4 y6 h) (J6_ y4 y6 h)) {y0 : Int64} {y2 : Int64} {h : ea_H} : fle (BX12_common_0 J6 y0 y2 h) (BX12_common_0 J6_ y0 y2 h) :=
  (mJ6 _ _ _)
theorem nBX12_common_0 {J6 : Int64 → Int64 → ea_H → Option (Int64 × ea_H)} {J6_ : Nat → (Int64 → Int64 → ea_H → Option (Int64 × ea_H))}  (mJ6 : ∀ (y4 : Int64) (y6 : Int64) (h : ea_H), fct (J6 y4 y6 h) (fun f => J6_ f y4 y6 h)) {y0 : Int64} {y2 : Int64} {h : ea_H} : fct (BX12_common_0 J6 y0 y2 h) (fun f => BX12_common_0 (J6_ f) y0 y2 h) :=
  (mJ6 _ _ _)
noncomputable def BX12_common_6 (J6 : Int64 → Int64 → ea_H → Option (Int64 × ea_H)) (y4 : Int64) (y6 : Int64) (h : ea_H) : Option (Int64 × ea_H) :=
  (if (lg_cmp y6 (0 : Int64)) = (0 : Int32) then (some (y4, h)) else (gd ((¬ y6 = 0)) (ea_let (y4 - y4 / y6 * y6) fun (v2 : Int64) => (J6 (y6 : Int64) (v2 : Int64) h))))
theorem tBX12_common_6 {d : Nat} {h0 : ea_H} (hd : 1 ≤ d) {J6 : Int64 → Int64 → ea_H → Option (Int64 × ea_H)}  (kJ6 : ∀ (y4 : Int64) (y6 : Int64) (h : ea_H) (r : Int64) (h' : ea_H), J6 y4 y6 h = some (r, h') → ea_W mX12_common d h0 (some (vJ r)) h' 6 [(4, vJ y4), (6, vJ y6)] [] h) {y4 : Int64} {y6 : Int64} {h : ea_H} {r : Int64} {h' : ea_H} (E : BX12_common_6 J6 y4 y6 h = some (r, h')) : ea_W mX12_common d h0 (some (vJ r)) h' 6 [(4, vJ y4), (6, vJ y6)] [] h := by
  unfold BX12_common_6 at E
  refine ea_lload (pc := 6) dX12_common_6 1 rfl ?_
  refine ea_lconst (pc := 8) dX12_common_8 (v := 0) rfl ?_
  refine ea_lcmp (pc := 9) dX12_common_9 ?_
  refine ea_if_eq (pc := 10) (tgt := 31) dX12_common_10 rfl (fun c3 => ?_) (fun c3 => ?_)
  · have E := (if_pos c3).symm.trans E
    refine ea_lload (pc := 31) dX12_common_31 0 rfl ?_
    exact ea_lretO (pc := 33) dX12_common_33 rfl E
  · have E := (if_neg c3).symm.trans E
    obtain ⟨z1, E⟩ := gd_some E
    refine ea_lload (pc := 13) dX12_common_13 0 rfl ?_
    refine ea_lload (pc := 15) dX12_common_15 1 rfl ?_
    obtain ⟨v2, ev2, E⟩ := let_some E
    refine ea_lrem (pc := 17) dX12_common_17 z1 ?_
    refine ea_lstore (pc := 18) (lv' := [(6, vJ y6), (8, vJ v2)]) dX12_common_18 (Nat.le_of_ble_eq_true rfl) [2, 0] (by rw [ev2]; rfl) ?_
    refine ea_lload (pc := 20) dX12_common_20 0 rfl ?_
    refine ea_lstore (pc := 22) (lv' := [(4, vJ y6), (8, vJ v2)]) dX12_common_22 (Nat.le_of_ble_eq_true rfl) [0, 2] rfl ?_
    refine ea_lload (pc := 24) dX12_common_24 1 rfl ?_
    refine ea_lstore (pc := 26) (lv' := [(4, vJ y6), (6, vJ v2)]) dX12_common_26 (Nat.le_of_ble_eq_true rfl) [1, 0] rfl ?_
    refine ea_goto (pc := 28) (tgt := 6) dX12_common_28 rfl ?_
    exact (kJ6 (y6 : Int64) (v2 : Int64) h _ _ E)
theorem kBX12_common_6 {J6 : Int64 → Int64 → ea_H → Option (Int64 × ea_H)}  (cJ6 : ∀ (y4 : Int64) (y6 : Int64) (h : ea_H), kp (ea_core h) (J6 y4 y6 h)) {y4 : Int64} {y6 : Int64} {h : ea_H} : kp (ea_core h) (BX12_common_6 J6 y4 y6 h) :=
  (kp_ite (kp_ret rfl) (kp_gd (kp_let (kp_tw (cJ6 _ _ _) rfl))))
theorem lBX12_common_6 {J6 : Int64 → Int64 → ea_H → Option (Int64 × ea_H)} {J6_ : Int64 → Int64 → ea_H → Option (Int64 × ea_H)}  (mJ6 : ∀ (y4 : Int64) (y6 : Int64) (h : ea_H), fle (J6 y4 y6 h) (J6_ y4 y6 h)) {y4 : Int64} {y6 : Int64} {h : ea_H} : fle (BX12_common_6 J6 y4 y6 h) (BX12_common_6 J6_ y4 y6 h) :=
  (fle_ite (fle_rfl _) (fle_gd (fle_let fun _ => (mJ6 _ _ _))))
theorem nBX12_common_6 {J6 : Int64 → Int64 → ea_H → Option (Int64 × ea_H)} {J6_ : Nat → (Int64 → Int64 → ea_H → Option (Int64 × ea_H))}  (mJ6 : ∀ (y4 : Int64) (y6 : Int64) (h : ea_H), fct (J6 y4 y6 h) (fun f => J6_ f y4 y6 h)) {y4 : Int64} {y6 : Int64} {h : ea_H} : fct (BX12_common_6 J6 y4 y6 h) (fun f => BX12_common_6 (J6_ f) y4 y6 h) :=
  (fct_ite (fct_rfl _) (fct_gd (fct_let fun _ => (mJ6 _ _ _))))
noncomputable def gX12_common : Nat → (Int64 → Int64 → ea_H → Option (Int64 × ea_H)) × (Int64 → Int64 → ea_H → Option (Int64 × ea_H))
  | 0 => (fun _ _ _ => none, fun _ _ _ => none)
  | f + 1 => (BX12_common_0 (gX12_common f).2, BX12_common_6 (gX12_common f).2)
theorem mgX12_common : ∀ f : Nat, (∀ (y0 : Int64) (y2 : Int64) (h : ea_H), fle ((gX12_common f).1 y0 y2 h) ((gX12_common (f + 1)).1 y0 y2 h)) ∧ (∀ (y4 : Int64) (y6 : Int64) (h : ea_H), fle ((gX12_common f).2 y4 y6 h) ((gX12_common (f + 1)).2 y4 y6 h)) := by
  intro f
  induction f with
  | zero => exact ⟨fun _ _ _ => fle_none _, fun _ _ _ => fle_none _⟩
  | succ f ih => exact ⟨fun _ _ _ => lBX12_common_0 ih.2, fun _ _ _ => lBX12_common_6 ih.2⟩
noncomputable def qX12_common_0 (y0 : Int64) (y2 : Int64) (h : ea_H) : Option (Int64 × ea_H) := flim fun f => (gX12_common f).1 y0 y2 h
noncomputable def qX12_common_6 (y4 : Int64) (y6 : Int64) (h : ea_H) : Option (Int64 × ea_H) := flim fun f => (gX12_common f).2 y4 y6 h
theorem fqX12_common_0 (y0 : Int64) (y2 : Int64) (h : ea_H) : fct (qX12_common_0 y0 y2 h) fun f => (gX12_common f).1 y0 y2 h := flim_ct fun f => (mgX12_common f).1 y0 y2 h
theorem fqX12_common_6 (y4 : Int64) (y6 : Int64) (h : ea_H) : fct (qX12_common_6 y4 y6 h) fun f => (gX12_common f).2 y4 y6 h := flim_ct fun f => (mgX12_common f).2 y4 y6 h
/-- how a block opens -/
theorem uqX12_common_0 {y0 : Int64} {y2 : Int64} {h : ea_H} {P : Int64 × ea_H → Prop} (H : sat (BX12_common_0 qX12_common_6 y0 y2 h) P) : sat (qX12_common_0 y0 y2 h) P := by
  obtain ⟨x, e, hp⟩ := H
  obtain ⟨n, hn⟩ := nBX12_common_0 fqX12_common_6 x e
  exact ⟨x, flim_at (fun f => (mgX12_common f).1 y0 y2 h) (f := n + 1) (hn n (Nat.le_refl _)), hp⟩
/-- how a block opens -/
theorem uqX12_common_6 {y4 : Int64} {y6 : Int64} {h : ea_H} {P : Int64 × ea_H → Prop} (H : sat (BX12_common_6 qX12_common_6 y4 y6 h) P) : sat (qX12_common_6 y4 y6 h) P := by
  obtain ⟨x, e, hp⟩ := H
  obtain ⟨n, hn⟩ := nBX12_common_6 fqX12_common_6 x e
  exact ⟨x, flim_at (fun f => (mgX12_common f).2 y4 y6 h) (f := n + 1) (hn n (Nat.le_refl _)), hp⟩
theorem kgX12_common : ∀ f : Nat, (∀ (y0 : Int64) (y2 : Int64) (h : ea_H), kp (ea_core h) ((gX12_common f).1 y0 y2 h)) ∧ (∀ (y4 : Int64) (y6 : Int64) (h : ea_H), kp (ea_core h) ((gX12_common f).2 y4 y6 h)) := by
  intro f
  induction f with
  | zero => exact ⟨fun _ _ _ => kp_none _, fun _ _ _ => kp_none _⟩
  | succ f ih => exact ⟨fun _ _ _ => kBX12_common_0 ih.2, fun _ _ _ => kBX12_common_6 ih.2⟩
theorem tgX12_common {d : Nat} {h0 : ea_H} (hd : 1 ≤ d) : ∀ f : Nat, (∀ (y0 : Int64) (y2 : Int64) (h : ea_H) (r : Int64) (h' : ea_H), (gX12_common f).1 y0 y2 h = some (r, h') → ea_W mX12_common d h0 (some (vJ r)) h' 0 [(0, vJ y0), (2, vJ y2)] [] h) ∧ (∀ (y4 : Int64) (y6 : Int64) (h : ea_H) (r : Int64) (h' : ea_H), (gX12_common f).2 y4 y6 h = some (r, h') → ea_W mX12_common d h0 (some (vJ r)) h' 6 [(4, vJ y4), (6, vJ y6)] [] h) := by
  intro f
  induction f with
  | zero => exact ⟨fun _ _ _ _ _ E => no_some E, fun _ _ _ _ _ E => no_some E⟩
  | succ f ih => exact ⟨fun _ _ _ _ _ E => tBX12_common_0 hd ih.2 E, fun _ _ _ _ _ E => tBX12_common_6 hd ih.2 E⟩
noncomputable def qX12_common (y0 : Int64) (y2 : Int64) (h : ea_H) : Option (Int64 × ea_H) := qX12_common_0 y0 y2 h
theorem sX12_common {d : Nat} {y0 : Int64} {y2 : Int64} {h : ea_H} {r : Int64} {h' : ea_H} (hd : 1 ≤ d) (K : qX12_common y0 y2 h = some (r, h')) : ea_Met mX12_common d [vJ y0, vJ y2] h (some (vJ r)) h' := by
  unfold qX12_common at K
  obtain ⟨n, hn⟩ := fqX12_common_0 y0 y2 h _ K
  have W := (tgX12_common (d := d) (h0 := h) hd n).1 y0 y2 h _ _ (hn n (Nat.le_refl _))
  exact ea_enter rfl (Nat.le_of_ble_eq_true rfl) W
theorem kpX12_common (y0 : Int64) (y2 : Int64) (h : ea_H) : kp (ea_core h) (qX12_common y0 y2 h) := fun x e => by
  obtain ⟨n, hn⟩ := fqX12_common_0 y0 y2 h x e
  exact (kgX12_common n).1 y0 y2 h x (hn n (Nat.le_refl _))
noncomputable def BX12_order_0 (J34 : Int32 → Int32 → ea_H → Option (Int64 × ea_H)) (x1 : Int32) (x2 : Int32) (h : ea_H) : Option (Int64 × ea_H) :=
  (Option.bind (qX12_isLetterOf (x1 : Int32) h) fun w1 => (if w1.1 = (0 : Int32) then (some (((-1) : Int64), w1.2)) else (if x2 = (0 : Int32) then (gd (vp_in x1 120) (some ((Int32.toInt64 (ea_i w1.2 396 (Int32.toNatClampNeg x1))), w1.2))) else (if x2 = (1 : Int32) then (J34 (x1 : Int32) (x2 : Int32) w1.2) else (if x2 = (2 : Int32) then (J34 (x1 : Int32) (x2 : Int32) w1.2) else (gd (vp_in x1 120) (Option.bind (qX12_isIn (x2 : Int32) (10 : Int32) (((9 : Int32) + (ea_i w1.2 396 (Int32.toNatClampNeg x1))) : Int32) w1.2) fun w3 => (if w3.1 = (0 : Int32) then (gd (vp_in x1 120) (Option.bind (qX12_isIn (x2 : Int32) (20 : Int32) (((19 : Int32) + (ea_i w3.2 396 (Int32.toNatClampNeg x1))) : Int32) w3.2) fun w5 => (if w5.1 = (0 : Int32) then (some (((-1) : Int64), w5.2)) else (Option.bind (qX12_ordered (x1 : Int32) ((x2 - (20 : Int32)) : Int32) w5.2) fun w6 => (gd (vp_in w6.1 480) (some ((Int32.toInt64 (ea_i w6.2 398 (Int32.toNatClampNeg w6.1))), w6.2))))))) else (Option.bind (qX12_ordered (x1 : Int32) ((x2 - (10 : Int32)) : Int32) w3.2) fun w9 => (gd (vp_in w9.1 480) (some ((Int32.toInt64 (ea_i w9.2 397 (Int32.toNatClampNeg w9.1))), w9.2))))))))))))
set_option maxRecDepth 100000 in
set_option maxHeartbeats 0 in
theorem tBX12_order_0 {d : Nat} {h0 : ea_H} (hd : 3 ≤ d) {J34 : Int32 → Int32 → ea_H → Option (Int64 × ea_H)}  (kJ34 : ∀ (x1 : Int32) (x2 : Int32) (h : ea_H) (r : Int64) (h' : ea_H), J34 x1 x2 h = some (r, h') → ShM h → ea_W mX12_order d h0 (some (vJ r)) h' 34 [(0, vR (some 326)), (1, vI x1), (2, vI x2)] [] h) {x1 : Int32} {x2 : Int32} {h : ea_H} {r : Int64} {h' : ea_H} (E : BX12_order_0 J34 x1 x2 h = some (r, h')) (hs : ShM h) : ea_W mX12_order d h0 (some (vJ r)) h' 0 [(0, vR (some 326)), (1, vI x1), (2, vI x2)] [] h := by
  unfold BX12_order_0 at E
  obtain ⟨w1, Ew1, E⟩ := bd_some E
  have hsw1 : ShM w1.2 := ShM_core ((kpX12_isLetterOf _ _) _ Ew1) hs
  refine ea_aload_n (pc := 0) dX12_order_0 rfl 0 rfl ?_
  refine ea_iload_n (pc := 1) dX12_order_1 rfl 1 rfl ?_
  refine ea_callV (pc := 2) (d' := d - 1) (As := [vI x1]) (st := []) dX12_order_2 kX12_isLetterOf (sX12_isLetterOf (d := d - 1) (by omega) hs Ew1) (by omega) rfl (Nat.le_of_ble_eq_true rfl) ew_2076 ew_2078 ew_96 (ci := 12) rfl (by decide) (cShM_326 hs).1 (cShM_326 hs).2.1 ?_
  refine ea_if_ne (pc := 5) (tgt := 12) dX12_order_5 rfl (fun c16 => ?_) (fun c16 => ?_)
  · have E := (if_neg c16).symm.trans E
    refine ea_iload_n (pc := 12) dX12_order_12 rfl 2 rfl ?_
    refine ea_if_ne (pc := 13) (tgt := 24) dX12_order_13 rfl (fun c15 => ?_) (fun c15 => ?_)
    · have E := (if_neg c15).symm.trans E
      refine ea_iload_n (pc := 24) dX12_order_24 rfl 2 rfl ?_
      refine ea_iconst (pc := 25) dX12_order_25 (v := 1) rfl ?_
      refine ea_icmp_eq (pc := 26) (tgt := 34) dX12_order_26 rfl (fun c13 => ?_) (fun c13 => ?_)
      · have E := (if_pos c13).symm.trans E
        exact (kJ34 (x1 : Int32) (x2 : Int32) w1.2 _ _ E hsw1)
      · have E := (if_neg c13).symm.trans E
        refine ea_iload_n (pc := 29) dX12_order_29 rfl 2 rfl ?_
        refine ea_iconst (pc := 30) dX12_order_30 (v := 2) rfl ?_
        refine ea_icmp_ne (pc := 31) (tgt := 128) dX12_order_31 rfl (fun c12 => ?_) (fun c12 => ?_)
        · have E := (if_neg c12).symm.trans E
          obtain ⟨z2, E⟩ := gd_some E
          refine ea_iload_n (pc := 128) dX12_order_128 rfl 2 rfl ?_
          refine ea_bipush (pc := 129) dX12_order_129 (v := 10) rfl ?_
          refine ea_bipush (pc := 131) dX12_order_131 (v := 9) rfl ?_
          refine ea_aload_n (pc := 133) dX12_order_133 rfl 0 rfl ?_
          refine ea_getR (pc := 134) dX12_order_134 ec_12 (k := 97) (Nat.le_of_ble_eq_true rfl) rfl (Or.inl ew_1499) (cShM_326 hsw1).1 (cShM_326 hsw1).2.1 (rShM_326_97 hsw1) ?_
          refine ea_iload_n (pc := 137) dX12_order_137 rfl 1 rfl ?_
          obtain ⟨w3, Ew3, E⟩ := bd_some E
          have hsw3 : ShM w3.2 := ShM_core ((kpX12_isIn _ _ _ _) _ Ew3) hsw1
          refine ea_iald (pc := 138) dX12_order_138 (cShM_396 hsw1).1 (cShM_396 hsw1).2.1 (ea_vpl (cShM_396 hsw1).2.2 z2) ?_
          refine ea_iadd (pc := 139) dX12_order_139 ?_
          refine ea_callS (pc := 140) (d' := d - 1) (As := [vI x2, vI 10, vI ((9 : Int32) + (ea_i w1.2 396 (Int32.toNatClampNeg x1)))]) (st := []) dX12_order_140 kX12_isIn (sX12_isIn (d := d - 1) (by omega) Ew3) (by omega) rfl (Nat.le_of_ble_eq_true rfl) ew_1769 ew_1770 ?_
          refine ea_if_eq (pc := 143) (tgt := 162) dX12_order_143 rfl (fun c11 => ?_) (fun c11 => ?_)
          · have E := (if_pos c11).symm.trans E
            obtain ⟨z4, E⟩ := gd_some E
            refine ea_iload_n (pc := 162) dX12_order_162 rfl 2 rfl ?_
            refine ea_bipush (pc := 163) dX12_order_163 (v := 20) rfl ?_
            refine ea_bipush (pc := 165) dX12_order_165 (v := 19) rfl ?_
            refine ea_aload_n (pc := 167) dX12_order_167 rfl 0 rfl ?_
            refine ea_getR (pc := 168) dX12_order_168 ec_12 (k := 97) (Nat.le_of_ble_eq_true rfl) rfl (Or.inl ew_1499) (cShM_326 hsw3).1 (cShM_326 hsw3).2.1 (rShM_326_97 hsw3) ?_
            refine ea_iload_n (pc := 171) dX12_order_171 rfl 1 rfl ?_
            obtain ⟨w5, Ew5, E⟩ := bd_some E
            have hsw5 : ShM w5.2 := ShM_core ((kpX12_isIn _ _ _ _) _ Ew5) hsw3
            refine ea_iald (pc := 172) dX12_order_172 (cShM_396 hsw3).1 (cShM_396 hsw3).2.1 (ea_vpl (cShM_396 hsw3).2.2 z4) ?_
            refine ea_iadd (pc := 173) dX12_order_173 ?_
            refine ea_callS (pc := 174) (d' := d - 1) (As := [vI x2, vI 20, vI ((19 : Int32) + (ea_i w3.2 396 (Int32.toNatClampNeg x1)))]) (st := []) dX12_order_174 kX12_isIn (sX12_isIn (d := d - 1) (by omega) Ew5) (by omega) rfl (Nat.le_of_ble_eq_true rfl) ew_1769 ew_1770 ?_
            refine ea_if_eq (pc := 177) (tgt := 198) dX12_order_177 rfl (fun c8 => ?_) (fun c8 => ?_)
            · have E := (if_pos c8).symm.trans E
              refine ea_ldc2 (pc := 198) dX12_order_198 ew_2175 ?_
              exact ea_lretO (pc := 201) dX12_order_201 rfl E
            · have E := (if_neg c8).symm.trans E
              obtain ⟨w6, Ew6, E⟩ := bd_some E
              have hsw6 : ShM w6.2 := ShM_core ((kpX12_ordered _ _ _) _ Ew6) hsw5
              refine ea_aload_n (pc := 180) dX12_order_180 rfl 0 rfl ?_
              refine ea_getR (pc := 181) dX12_order_181 ec_12 (k := 99) (Nat.le_of_ble_eq_true rfl) rfl (Or.inl ew_1501) (cShM_326 hsw5).1 (cShM_326 hsw5).2.1 (rShM_326_99 hsw5) ?_
              refine ea_aload_n (pc := 184) dX12_order_184 rfl 0 rfl ?_
              refine ea_iload_n (pc := 185) dX12_order_185 rfl 1 rfl ?_
              refine ea_iload_n (pc := 186) dX12_order_186 rfl 2 rfl ?_
              refine ea_bipush (pc := 187) dX12_order_187 (v := 20) rfl ?_
              refine ea_isub (pc := 189) dX12_order_189 ?_
              refine ea_callV (pc := 190) (d' := d - 1) (As := [vI x1, vI (x2 - (20 : Int32))]) (st := [vR (some 398)]) dX12_order_190 kX12_ordered (sX12_ordered (d := d - 1) (by omega) hsw5 Ew6) (by omega) rfl (Nat.le_of_ble_eq_true rfl) ew_2180 ew_2182 ew_108 (ci := 12) rfl (by decide) (cShM_326 hsw5).1 (cShM_326 hsw5).2.1 ?_
              obtain ⟨z7, E⟩ := gd_some E
              refine ea_iald (pc := 193) dX12_order_193 (cShM_398 hsw6).1 (cShM_398 hsw6).2.1 (ea_vpl (cShM_398 hsw6).2.2 z7) ?_
              refine ea_i2l (pc := 194) dX12_order_194 ?_
              refine ea_goto (pc := 195) (tgt := 201) dX12_order_195 rfl ?_
              exact ea_lretO (pc := 201) dX12_order_201 rfl E
          · have E := (if_neg c11).symm.trans E
            obtain ⟨w9, Ew9, E⟩ := bd_some E
            have hsw9 : ShM w9.2 := ShM_core ((kpX12_ordered _ _ _) _ Ew9) hsw3
            refine ea_aload_n (pc := 146) dX12_order_146 rfl 0 rfl ?_
            refine ea_getR (pc := 147) dX12_order_147 ec_12 (k := 98) (Nat.le_of_ble_eq_true rfl) rfl (Or.inl ew_1500) (cShM_326 hsw3).1 (cShM_326 hsw3).2.1 (rShM_326_98 hsw3) ?_
            refine ea_aload_n (pc := 150) dX12_order_150 rfl 0 rfl ?_
            refine ea_iload_n (pc := 151) dX12_order_151 rfl 1 rfl ?_
            refine ea_iload_n (pc := 152) dX12_order_152 rfl 2 rfl ?_
            refine ea_bipush (pc := 153) dX12_order_153 (v := 10) rfl ?_
            refine ea_isub (pc := 155) dX12_order_155 ?_
            refine ea_callV (pc := 156) (d' := d - 1) (As := [vI x1, vI (x2 - (10 : Int32))]) (st := [vR (some 397)]) dX12_order_156 kX12_ordered (sX12_ordered (d := d - 1) (by omega) hsw3 Ew9) (by omega) rfl (Nat.le_of_ble_eq_true rfl) ew_2180 ew_2182 ew_108 (ci := 12) rfl (by decide) (cShM_326 hsw3).1 (cShM_326 hsw3).2.1 ?_
            obtain ⟨z10, E⟩ := gd_some E
            refine ea_iald (pc := 159) dX12_order_159 (cShM_397 hsw9).1 (cShM_397 hsw9).2.1 (ea_vpl (cShM_397 hsw9).2.2 z10) ?_
            refine ea_i2l (pc := 160) dX12_order_160 ?_
            exact ea_lretO (pc := 161) dX12_order_161 rfl E
        · have E := (if_pos c12).symm.trans E
          exact (kJ34 (x1 : Int32) (x2 : Int32) w1.2 _ _ E hsw1)
    · have E := (if_pos c15).symm.trans E
      obtain ⟨z14, E⟩ := gd_some E
      refine ea_aload_n (pc := 16) dX12_order_16 rfl 0 rfl ?_
      refine ea_getR (pc := 17) dX12_order_17 ec_12 (k := 97) (Nat.le_of_ble_eq_true rfl) rfl (Or.inl ew_1499) (cShM_326 hsw1).1 (cShM_326 hsw1).2.1 (rShM_326_97 hsw1) ?_
      refine ea_iload_n (pc := 20) dX12_order_20 rfl 1 rfl ?_
      refine ea_iald (pc := 21) dX12_order_21 (cShM_396 hsw1).1 (cShM_396 hsw1).2.1 (ea_vpl (cShM_396 hsw1).2.2 z14) ?_
      refine ea_i2l (pc := 22) dX12_order_22 ?_
      exact ea_lretO (pc := 23) dX12_order_23 rfl E
  · have E := (if_pos c16).symm.trans E
    refine ea_ldc2 (pc := 8) dX12_order_8 ew_2175 ?_
    exact ea_lretO (pc := 11) dX12_order_11 rfl E
set_option maxRecDepth 100000 in
set_option maxHeartbeats 0 in
theorem kBX12_order_0 {J34 : Int32 → Int32 → ea_H → Option (Int64 × ea_H)}  (cJ34 : ∀ (x1 : Int32) (x2 : Int32) (h : ea_H), kp (ea_core h) (J34 x1 x2 h)) {x1 : Int32} {x2 : Int32} {h : ea_H} : kp (ea_core h) (BX12_order_0 J34 x1 x2 h) :=
  (kp_bind (kp_tw (kpX12_isLetterOf _ _) rfl) fun w1 hcw1 => (kp_ite (kp_ret hcw1) (kp_ite (kp_gd (kp_ret hcw1)) (kp_ite (kp_tw (cJ34 _ _ _) hcw1) (kp_ite (kp_tw (cJ34 _ _ _) hcw1) (kp_gd (kp_bind (kp_tw (kpX12_isIn _ _ _ _) hcw1) fun w3 hcw3 => (kp_ite (kp_gd (kp_bind (kp_tw (kpX12_isIn _ _ _ _) hcw3) fun w5 hcw5 => (kp_ite (kp_ret hcw5) (kp_bind (kp_tw (kpX12_ordered _ _ _) hcw5) fun w6 hcw6 => (kp_gd (kp_ret hcw6)))))) (kp_bind (kp_tw (kpX12_ordered _ _ _) hcw3) fun w9 hcw9 => (kp_gd (kp_ret hcw9)))))))))))
set_option maxRecDepth 100000 in
set_option maxHeartbeats 0 in
theorem lBX12_order_0 {J34 : Int32 → Int32 → ea_H → Option (Int64 × ea_H)} {J34_ : Int32 → Int32 → ea_H → Option (Int64 × ea_H)}  (mJ34 : ∀ (x1 : Int32) (x2 : Int32) (h : ea_H), fle (J34 x1 x2 h) (J34_ x1 x2 h)) {x1 : Int32} {x2 : Int32} {h : ea_H} : fle (BX12_order_0 J34 x1 x2 h) (BX12_order_0 J34_ x1 x2 h) :=
  (fle_bind (fle_rfl _) fun _ => (fle_ite (fle_rfl _) (fle_ite (fle_rfl _) (fle_ite (mJ34 _ _ _) (fle_ite (mJ34 _ _ _) (fle_rfl _))))))
set_option maxRecDepth 100000 in
set_option maxHeartbeats 0 in
theorem nBX12_order_0 {J34 : Int32 → Int32 → ea_H → Option (Int64 × ea_H)} {J34_ : Nat → (Int32 → Int32 → ea_H → Option (Int64 × ea_H))}  (mJ34 : ∀ (x1 : Int32) (x2 : Int32) (h : ea_H), fct (J34 x1 x2 h) (fun f => J34_ f x1 x2 h)) {x1 : Int32} {x2 : Int32} {h : ea_H} : fct (BX12_order_0 J34 x1 x2 h) (fun f => BX12_order_0 (J34_ f) x1 x2 h) :=
  (fct_bind (fct_rfl _) fun _ => (fct_ite (fct_rfl _) (fct_ite (fct_rfl _) (fct_ite (mJ34 _ _ _) (fct_ite (mJ34 _ _ _) (fct_rfl _))))))
noncomputable def BX12_order_34 (J55 : Int32 → Int32 → Int64 → Int64 → Int32 → ea_H → Option (Int64 × ea_H)) (x1 : Int32) (x2 : Int32) (h : ea_H) : Option (Int64 × ea_H) :=
  (gd (vp_in x1 120) (if (ea_i h 396 (Int32.toNatClampNeg x1)) = (0 : Int32) then (some (((-1) : Int64), h)) else (J55 (x1 : Int32) (x2 : Int32) (1 : Int64) (1 : Int64) (0 : Int32) h)))
set_option maxRecDepth 100000 in
set_option maxHeartbeats 0 in
theorem tBX12_order_34 {d : Nat} {h0 : ea_H} (hd : 3 ≤ d) {J55 : Int32 → Int32 → Int64 → Int64 → Int32 → ea_H → Option (Int64 × ea_H)}  (kJ55 : ∀ (x1 : Int32) (x2 : Int32) (y3 : Int64) (y5 : Int64) (x7 : Int32) (h : ea_H) (r : Int64) (h' : ea_H), J55 x1 x2 y3 y5 x7 h = some (r, h') → ShM h → ea_W mX12_order d h0 (some (vJ r)) h' 55 [(0, vR (some 326)), (1, vI x1), (2, vI x2), (3, vJ y3), (5, vJ y5), (7, vI x7)] [] h) {x1 : Int32} {x2 : Int32} {h : ea_H} {r : Int64} {h' : ea_H} (E : BX12_order_34 J55 x1 x2 h = some (r, h')) (hs : ShM h) : ea_W mX12_order d h0 (some (vJ r)) h' 34 [(0, vR (some 326)), (1, vI x1), (2, vI x2)] [] h := by
  unfold BX12_order_34 at E
  obtain ⟨z17, E⟩ := gd_some E
  refine ea_aload_n (pc := 34) dX12_order_34 rfl 0 rfl ?_
  refine ea_getR (pc := 35) dX12_order_35 ec_12 (k := 97) (Nat.le_of_ble_eq_true rfl) rfl (Or.inl ew_1499) (cShM_326 hs).1 (cShM_326 hs).2.1 (rShM_326_97 hs) ?_
  refine ea_iload_n (pc := 38) dX12_order_38 rfl 1 rfl ?_
  refine ea_iald (pc := 39) dX12_order_39 (cShM_396 hs).1 (cShM_396 hs).2.1 (ea_vpl (cShM_396 hs).2.2 z17) ?_
  refine ea_if_ne (pc := 40) (tgt := 47) dX12_order_40 rfl (fun c18 => ?_) (fun c18 => ?_)
  · have E := (if_neg c18).symm.trans E
    refine ea_lconst (pc := 47) dX12_order_47 (v := 1) rfl ?_
    refine ea_lstore_n (pc := 48) (lv' := [(0, vR (some 326)), (1, vI x1), (2, vI x2), (3, vJ 1)]) dX12_order_48 rfl (Nat.le_of_ble_eq_true rfl) [1, 2, 3, 0] rfl ?_
    refine ea_lconst (pc := 49) dX12_order_49 (v := 1) rfl ?_
    refine ea_lstore (pc := 50) (lv' := [(0, vR (some 326)), (1, vI x1), (2, vI x2), (3, vJ 1), (5, vJ 1)]) dX12_order_50 (Nat.le_of_ble_eq_true rfl) [1, 2, 3, 4, 0] rfl ?_
    refine ea_iconst (pc := 52) dX12_order_52 (v := 0) rfl ?_
    refine ea_istore (pc := 53) (lv' := [(0, vR (some 326)), (1, vI x1), (2, vI x2), (3, vJ 1), (5, vJ 1), (7, vI 0)]) dX12_order_53 (Nat.le_of_ble_eq_true rfl) [1, 2, 3, 4, 5, 0] rfl ?_
    exact (kJ55 (x1 : Int32) (x2 : Int32) (1 : Int64) (1 : Int64) (0 : Int32) h _ _ E hs)
  · have E := (if_pos c18).symm.trans E
    refine ea_ldc2 (pc := 43) dX12_order_43 ew_2175 ?_
    exact ea_lretO (pc := 46) dX12_order_46 rfl E
set_option maxRecDepth 100000 in
set_option maxHeartbeats 0 in
theorem kBX12_order_34 {J55 : Int32 → Int32 → Int64 → Int64 → Int32 → ea_H → Option (Int64 × ea_H)}  (cJ55 : ∀ (x1 : Int32) (x2 : Int32) (y3 : Int64) (y5 : Int64) (x7 : Int32) (h : ea_H), kp (ea_core h) (J55 x1 x2 y3 y5 x7 h)) {x1 : Int32} {x2 : Int32} {h : ea_H} : kp (ea_core h) (BX12_order_34 J55 x1 x2 h) :=
  (kp_gd (kp_ite (kp_ret rfl) (kp_tw (cJ55 _ _ _ _ _ _) rfl)))
set_option maxRecDepth 100000 in
set_option maxHeartbeats 0 in
theorem lBX12_order_34 {J55 : Int32 → Int32 → Int64 → Int64 → Int32 → ea_H → Option (Int64 × ea_H)} {J55_ : Int32 → Int32 → Int64 → Int64 → Int32 → ea_H → Option (Int64 × ea_H)}  (mJ55 : ∀ (x1 : Int32) (x2 : Int32) (y3 : Int64) (y5 : Int64) (x7 : Int32) (h : ea_H), fle (J55 x1 x2 y3 y5 x7 h) (J55_ x1 x2 y3 y5 x7 h)) {x1 : Int32} {x2 : Int32} {h : ea_H} : fle (BX12_order_34 J55 x1 x2 h) (BX12_order_34 J55_ x1 x2 h) :=
  (fle_gd (fle_ite (fle_rfl _) (mJ55 _ _ _ _ _ _)))
set_option maxRecDepth 100000 in
set_option maxHeartbeats 0 in
theorem nBX12_order_34 {J55 : Int32 → Int32 → Int64 → Int64 → Int32 → ea_H → Option (Int64 × ea_H)} {J55_ : Nat → (Int32 → Int32 → Int64 → Int64 → Int32 → ea_H → Option (Int64 × ea_H))}  (mJ55 : ∀ (x1 : Int32) (x2 : Int32) (y3 : Int64) (y5 : Int64) (x7 : Int32) (h : ea_H), fct (J55 x1 x2 y3 y5 x7 h) (fun f => J55_ f x1 x2 y3 y5 x7 h)) {x1 : Int32} {x2 : Int32} {h : ea_H} : fct (BX12_order_34 J55 x1 x2 h) (fun f => BX12_order_34 (J55_ f) x1 x2 h) :=
  (fct_gd (fct_ite (fct_rfl _) (mJ55 _ _ _ _ _ _)))
noncomputable def BX12_order_55 (J55 : Int32 → Int32 → Int64 → Int64 → Int32 → ea_H → Option (Int64 × ea_H)) (x1 : Int32) (x2 : Int32) (y3 : Int64) (y5 : Int64) (x7 : Int32) (h : ea_H) : Option (Int64 × ea_H) :=
  (gd (vp_in x1 120) (if (ea_i h 396 (Int32.toNatClampNeg x1)) ≤ x7 then (Option.bind (qX12_common ((y3 - y5) : Int64) (y3 : Int64) h) fun w20 => (if x2 = (1 : Int32) then (gd ((¬ w20.1 = 0)) (some (((y3 - y5) / w20.1), w20.2))) else (gd ((¬ w20.1 = 0)) (some ((y3 / w20.1), w20.2))))) else (ea_let (y3 * (100 : Int64)) fun (v24 : Int64) => (gd (vp_in (((4 : Int32) * x1) + x7) 480) (ea_let (y5 * (Int32.toInt64 ((100 : Int32) - (ea_i h 398 (Int32.toNatClampNeg (((4 : Int32) * x1) + x7)))))) fun (v26 : Int64) => (J55 (x1 : Int32) (x2 : Int32) (v24 : Int64) (v26 : Int64) ((x7 + (1 : Int32)) : Int32) h))))))
set_option maxRecDepth 100000 in
set_option maxHeartbeats 0 in
theorem tBX12_order_55 {d : Nat} {h0 : ea_H} (hd : 3 ≤ d) {J55 : Int32 → Int32 → Int64 → Int64 → Int32 → ea_H → Option (Int64 × ea_H)}  (kJ55 : ∀ (x1 : Int32) (x2 : Int32) (y3 : Int64) (y5 : Int64) (x7 : Int32) (h : ea_H) (r : Int64) (h' : ea_H), J55 x1 x2 y3 y5 x7 h = some (r, h') → ShM h → ea_W mX12_order d h0 (some (vJ r)) h' 55 [(0, vR (some 326)), (1, vI x1), (2, vI x2), (3, vJ y3), (5, vJ y5), (7, vI x7)] [] h) {x1 : Int32} {x2 : Int32} {y3 : Int64} {y5 : Int64} {x7 : Int32} {h : ea_H} {r : Int64} {h' : ea_H} (E : BX12_order_55 J55 x1 x2 y3 y5 x7 h = some (r, h')) (hs : ShM h) : ea_W mX12_order d h0 (some (vJ r)) h' 55 [(0, vR (some 326)), (1, vI x1), (2, vI x2), (3, vJ y3), (5, vJ y5), (7, vI x7)] [] h := by
  unfold BX12_order_55 at E
  obtain ⟨z19, E⟩ := gd_some E
  refine ea_iload (pc := 55) dX12_order_55 5 rfl ?_
  refine ea_aload_n (pc := 57) dX12_order_57 rfl 0 rfl ?_
  refine ea_getR (pc := 58) dX12_order_58 ec_12 (k := 97) (Nat.le_of_ble_eq_true rfl) rfl (Or.inl ew_1499) (cShM_326 hs).1 (cShM_326 hs).2.1 (rShM_326_97 hs) ?_
  refine ea_iload_n (pc := 61) dX12_order_61 rfl 1 rfl ?_
  refine ea_iald (pc := 62) dX12_order_62 (cShM_396 hs).1 (cShM_396 hs).2.1 (ea_vpl (cShM_396 hs).2.2 z19) ?_
  refine ea_icmp_ge (pc := 63) (tgt := 98) dX12_order_63 rfl (fun c27 => ?_) (fun c27 => ?_)
  · have E := (if_pos c27).symm.trans E
    obtain ⟨w20, Ew20, E⟩ := bd_some E
    have hsw20 : ShM w20.2 := ShM_core ((kpX12_common _ _ _) _ Ew20) hs
    refine ea_lload_n (pc := 98) dX12_order_98 rfl 3 rfl ?_
    refine ea_lload (pc := 99) dX12_order_99 4 rfl ?_
    refine ea_lsub (pc := 101) dX12_order_101 ?_
    refine ea_lload_n (pc := 102) dX12_order_102 rfl 3 rfl ?_
    refine ea_callS (pc := 103) (d' := d - 1) (As := [vJ (y3 - y5), vJ y3]) (st := []) dX12_order_103 kX12_common (sX12_common (d := d - 1) (by omega) Ew20) (by omega) rfl (Nat.le_of_ble_eq_true rfl) ew_2177 ew_2178 ?_
    refine ea_lstore (pc := 106) (lv' := [(2, vI x2), (3, vJ y3), (5, vJ y5), (7, vJ w20.1)]) dX12_order_106 (Nat.le_of_ble_eq_true rfl) [3, 4, 5, 0] rfl ?_
    refine ea_iload_n (pc := 108) dX12_order_108 rfl 0 rfl ?_
    refine ea_iconst (pc := 109) dX12_order_109 (v := 1) rfl ?_
    refine ea_icmp_ne (pc := 110) (tgt := 123) dX12_order_110 rfl (fun c23 => ?_) (fun c23 => ?_)
    · have E := (if_neg c23).symm.trans E
      obtain ⟨z21, E⟩ := gd_some E
      refine ea_lload_n (pc := 123) dX12_order_123 rfl 1 rfl ?_
      refine ea_lload (pc := 124) dX12_order_124 3 rfl ?_
      refine ea_ldiv (pc := 126) dX12_order_126 z21 ?_
      exact ea_lretO (pc := 127) dX12_order_127 rfl E
    · have E := (if_pos c23).symm.trans E
      obtain ⟨z22, E⟩ := gd_some E
      refine ea_lload_n (pc := 113) dX12_order_113 rfl 1 rfl ?_
      refine ea_lload (pc := 114) dX12_order_114 2 rfl ?_
      refine ea_lsub (pc := 116) dX12_order_116 ?_
      refine ea_lload (pc := 117) dX12_order_117 3 rfl ?_
      refine ea_ldiv (pc := 119) dX12_order_119 z22 ?_
      refine ea_goto (pc := 120) (tgt := 127) dX12_order_120 rfl ?_
      exact ea_lretO (pc := 127) dX12_order_127 rfl E
  · have E := (if_neg c27).symm.trans E
    obtain ⟨v24, ev24, E⟩ := let_some E
    refine ea_lload_n (pc := 66) dX12_order_66 rfl 3 rfl ?_
    refine ea_ldc2 (pc := 67) dX12_order_67 ew_2176 ?_
    refine ea_lmul (pc := 70) dX12_order_70 ?_
    obtain ⟨z25, E⟩ := gd_some E
    refine ea_lstore_n (pc := 71) (lv' := [(0, vR (some 326)), (1, vI x1), (2, vI x2), (3, vJ v24), (5, vJ y5), (7, vI x7)]) dX12_order_71 rfl (Nat.le_of_ble_eq_true rfl) [1, 2, 3, 0, 4, 5] (by rw [ev24]; rfl) ?_
    refine ea_lload (pc := 72) dX12_order_72 4 rfl ?_
    refine ea_bipush (pc := 74) dX12_order_74 (v := 100) rfl ?_
    refine ea_aload_n (pc := 76) dX12_order_76 rfl 0 rfl ?_
    refine ea_getR (pc := 77) dX12_order_77 ec_12 (k := 99) (Nat.le_of_ble_eq_true rfl) rfl (Or.inl ew_1501) (cShM_326 hs).1 (cShM_326 hs).2.1 (rShM_326_99 hs) ?_
    refine ea_iconst (pc := 80) dX12_order_80 (v := 4) rfl ?_
    refine ea_iload_n (pc := 81) dX12_order_81 rfl 1 rfl ?_
    refine ea_imul (pc := 82) dX12_order_82 ?_
    refine ea_iload (pc := 83) dX12_order_83 5 rfl ?_
    refine ea_iadd (pc := 85) dX12_order_85 ?_
    obtain ⟨v26, ev26, E⟩ := let_some E
    refine ea_iald (pc := 86) dX12_order_86 (cShM_398 hs).1 (cShM_398 hs).2.1 (ea_vpl (cShM_398 hs).2.2 z25) ?_
    refine ea_isub (pc := 87) dX12_order_87 ?_
    refine ea_i2l (pc := 88) dX12_order_88 ?_
    refine ea_lmul (pc := 89) dX12_order_89 ?_
    refine ea_lstore (pc := 90) (lv' := [(0, vR (some 326)), (1, vI x1), (2, vI x2), (3, vJ v24), (5, vJ v26), (7, vI x7)]) dX12_order_90 (Nat.le_of_ble_eq_true rfl) [1, 2, 3, 4, 0, 5] (by rw [ev26]; rfl) ?_
    refine ea_iinc (pc := 92) (v := 1) (lv' := [(0, vR (some 326)), (1, vI x1), (2, vI x2), (3, vJ v24), (5, vJ v26), (7, vI (x7 + (1 : Int32)))]) dX12_order_92 5 rfl rfl (Nat.le_of_ble_eq_true rfl) [1, 2, 3, 4, 5, 0] rfl ?_
    refine ea_goto (pc := 95) (tgt := 55) dX12_order_95 rfl ?_
    exact (kJ55 (x1 : Int32) (x2 : Int32) (v24 : Int64) (v26 : Int64) ((x7 + (1 : Int32)) : Int32) h _ _ E hs)
set_option maxRecDepth 100000 in
set_option maxHeartbeats 0 in
theorem kBX12_order_55 {J55 : Int32 → Int32 → Int64 → Int64 → Int32 → ea_H → Option (Int64 × ea_H)}  (cJ55 : ∀ (x1 : Int32) (x2 : Int32) (y3 : Int64) (y5 : Int64) (x7 : Int32) (h : ea_H), kp (ea_core h) (J55 x1 x2 y3 y5 x7 h)) {x1 : Int32} {x2 : Int32} {y3 : Int64} {y5 : Int64} {x7 : Int32} {h : ea_H} : kp (ea_core h) (BX12_order_55 J55 x1 x2 y3 y5 x7 h) :=
  (kp_gd (kp_ite (kp_bind (kp_tw (kpX12_common _ _ _) rfl) fun w20 hcw20 => (kp_ite (kp_gd (kp_ret hcw20)) (kp_gd (kp_ret hcw20)))) (kp_let (kp_gd (kp_let (kp_tw (cJ55 _ _ _ _ _ _) rfl))))))
set_option maxRecDepth 100000 in
set_option maxHeartbeats 0 in
theorem lBX12_order_55 {J55 : Int32 → Int32 → Int64 → Int64 → Int32 → ea_H → Option (Int64 × ea_H)} {J55_ : Int32 → Int32 → Int64 → Int64 → Int32 → ea_H → Option (Int64 × ea_H)}  (mJ55 : ∀ (x1 : Int32) (x2 : Int32) (y3 : Int64) (y5 : Int64) (x7 : Int32) (h : ea_H), fle (J55 x1 x2 y3 y5 x7 h) (J55_ x1 x2 y3 y5 x7 h)) {x1 : Int32} {x2 : Int32} {y3 : Int64} {y5 : Int64} {x7 : Int32} {h : ea_H} : fle (BX12_order_55 J55 x1 x2 y3 y5 x7 h) (BX12_order_55 J55_ x1 x2 y3 y5 x7 h) :=
  (fle_gd (fle_ite (fle_rfl _) (fle_let fun _ => (fle_gd (fle_let fun _ => (mJ55 _ _ _ _ _ _))))))
set_option maxRecDepth 100000 in
set_option maxHeartbeats 0 in
theorem nBX12_order_55 {J55 : Int32 → Int32 → Int64 → Int64 → Int32 → ea_H → Option (Int64 × ea_H)} {J55_ : Nat → (Int32 → Int32 → Int64 → Int64 → Int32 → ea_H → Option (Int64 × ea_H))}  (mJ55 : ∀ (x1 : Int32) (x2 : Int32) (y3 : Int64) (y5 : Int64) (x7 : Int32) (h : ea_H), fct (J55 x1 x2 y3 y5 x7 h) (fun f => J55_ f x1 x2 y3 y5 x7 h)) {x1 : Int32} {x2 : Int32} {y3 : Int64} {y5 : Int64} {x7 : Int32} {h : ea_H} : fct (BX12_order_55 J55 x1 x2 y3 y5 x7 h) (fun f => BX12_order_55 (J55_ f) x1 x2 y3 y5 x7 h) :=
  (fct_gd (fct_ite (fct_rfl _) (fct_let fun _ => (fct_gd (fct_let fun _ => (mJ55 _ _ _ _ _ _))))))
noncomputable def gX12_order : Nat → (Int32 → Int32 → ea_H → Option (Int64 × ea_H)) × (Int32 → Int32 → ea_H → Option (Int64 × ea_H)) × (Int32 → Int32 → Int64 → Int64 → Int32 → ea_H → Option (Int64 × ea_H))
  | 0 => (fun _ _ _ => none, fun _ _ _ => none, fun _ _ _ _ _ _ => none)
  | f + 1 => (BX12_order_0 (gX12_order f).2.1, BX12_order_34 (gX12_order f).2.2, BX12_order_55 (gX12_order f).2.2)
theorem mgX12_order : ∀ f : Nat, (∀ (x1 : Int32) (x2 : Int32) (h : ea_H), fle ((gX12_order f).1 x1 x2 h) ((gX12_order (f + 1)).1 x1 x2 h)) ∧ (∀ (x1 : Int32) (x2 : Int32) (h : ea_H), fle ((gX12_order f).2.1 x1 x2 h) ((gX12_order (f + 1)).2.1 x1 x2 h)) ∧ (∀ (x1 : Int32) (x2 : Int32) (y3 : Int64) (y5 : Int64) (x7 : Int32) (h : ea_H), fle ((gX12_order f).2.2 x1 x2 y3 y5 x7 h) ((gX12_order (f + 1)).2.2 x1 x2 y3 y5 x7 h)) := by
  intro f
  induction f with
  | zero => exact ⟨fun _ _ _ => fle_none _, fun _ _ _ => fle_none _, fun _ _ _ _ _ _ => fle_none _⟩
  | succ f ih => exact ⟨fun _ _ _ => lBX12_order_0 ih.2.1, fun _ _ _ => lBX12_order_34 ih.2.2, fun _ _ _ _ _ _ => lBX12_order_55 ih.2.2⟩
noncomputable def qX12_order_0 (x1 : Int32) (x2 : Int32) (h : ea_H) : Option (Int64 × ea_H) := flim fun f => (gX12_order f).1 x1 x2 h
noncomputable def qX12_order_34 (x1 : Int32) (x2 : Int32) (h : ea_H) : Option (Int64 × ea_H) := flim fun f => (gX12_order f).2.1 x1 x2 h
noncomputable def qX12_order_55 (x1 : Int32) (x2 : Int32) (y3 : Int64) (y5 : Int64) (x7 : Int32) (h : ea_H) : Option (Int64 × ea_H) := flim fun f => (gX12_order f).2.2 x1 x2 y3 y5 x7 h
theorem fqX12_order_0 (x1 : Int32) (x2 : Int32) (h : ea_H) : fct (qX12_order_0 x1 x2 h) fun f => (gX12_order f).1 x1 x2 h := flim_ct fun f => (mgX12_order f).1 x1 x2 h
theorem fqX12_order_34 (x1 : Int32) (x2 : Int32) (h : ea_H) : fct (qX12_order_34 x1 x2 h) fun f => (gX12_order f).2.1 x1 x2 h := flim_ct fun f => (mgX12_order f).2.1 x1 x2 h
theorem fqX12_order_55 (x1 : Int32) (x2 : Int32) (y3 : Int64) (y5 : Int64) (x7 : Int32) (h : ea_H) : fct (qX12_order_55 x1 x2 y3 y5 x7 h) fun f => (gX12_order f).2.2 x1 x2 y3 y5 x7 h := flim_ct fun f => (mgX12_order f).2.2 x1 x2 y3 y5 x7 h
/-- how a block opens -/
theorem uqX12_order_0 {x1 : Int32} {x2 : Int32} {h : ea_H} {P : Int64 × ea_H → Prop} (H : sat (BX12_order_0 qX12_order_34 x1 x2 h) P) : sat (qX12_order_0 x1 x2 h) P := by
  obtain ⟨x, e, hp⟩ := H
  obtain ⟨n, hn⟩ := nBX12_order_0 fqX12_order_34 x e
  exact ⟨x, flim_at (fun f => (mgX12_order f).1 x1 x2 h) (f := n + 1) (hn n (Nat.le_refl _)), hp⟩
/-- how a block opens -/
theorem uqX12_order_34 {x1 : Int32} {x2 : Int32} {h : ea_H} {P : Int64 × ea_H → Prop} (H : sat (BX12_order_34 qX12_order_55 x1 x2 h) P) : sat (qX12_order_34 x1 x2 h) P := by
  obtain ⟨x, e, hp⟩ := H
  obtain ⟨n, hn⟩ := nBX12_order_34 fqX12_order_55 x e
  exact ⟨x, flim_at (fun f => (mgX12_order f).2.1 x1 x2 h) (f := n + 1) (hn n (Nat.le_refl _)), hp⟩
/-- how a block opens -/
theorem uqX12_order_55 {x1 : Int32} {x2 : Int32} {y3 : Int64} {y5 : Int64} {x7 : Int32} {h : ea_H} {P : Int64 × ea_H → Prop} (H : sat (BX12_order_55 qX12_order_55 x1 x2 y3 y5 x7 h) P) : sat (qX12_order_55 x1 x2 y3 y5 x7 h) P := by
  obtain ⟨x, e, hp⟩ := H
  obtain ⟨n, hn⟩ := nBX12_order_55 fqX12_order_55 x e
  exact ⟨x, flim_at (fun f => (mgX12_order f).2.2 x1 x2 y3 y5 x7 h) (f := n + 1) (hn n (Nat.le_refl _)), hp⟩
theorem kgX12_order : ∀ f : Nat, (∀ (x1 : Int32) (x2 : Int32) (h : ea_H), kp (ea_core h) ((gX12_order f).1 x1 x2 h)) ∧ (∀ (x1 : Int32) (x2 : Int32) (h : ea_H), kp (ea_core h) ((gX12_order f).2.1 x1 x2 h)) ∧ (∀ (x1 : Int32) (x2 : Int32) (y3 : Int64) (y5 : Int64) (x7 : Int32) (h : ea_H), kp (ea_core h) ((gX12_order f).2.2 x1 x2 y3 y5 x7 h)) := by
  intro f
  induction f with
  | zero => exact ⟨fun _ _ _ => kp_none _, fun _ _ _ => kp_none _, fun _ _ _ _ _ _ => kp_none _⟩
  | succ f ih => exact ⟨fun _ _ _ => kBX12_order_0 ih.2.1, fun _ _ _ => kBX12_order_34 ih.2.2, fun _ _ _ _ _ _ => kBX12_order_55 ih.2.2⟩
theorem tgX12_order {d : Nat} {h0 : ea_H} (hd : 3 ≤ d) : ∀ f : Nat, (∀ (x1 : Int32) (x2 : Int32) (h : ea_H) (r : Int64) (h' : ea_H), (gX12_order f).1 x1 x2 h = some (r, h') → ShM h → ea_W mX12_order d h0 (some (vJ r)) h' 0 [(0, vR (some 326)), (1, vI x1), (2, vI x2)] [] h) ∧ (∀ (x1 : Int32) (x2 : Int32) (h : ea_H) (r : Int64) (h' : ea_H), (gX12_order f).2.1 x1 x2 h = some (r, h') → ShM h → ea_W mX12_order d h0 (some (vJ r)) h' 34 [(0, vR (some 326)), (1, vI x1), (2, vI x2)] [] h) ∧ (∀ (x1 : Int32) (x2 : Int32) (y3 : Int64) (y5 : Int64) (x7 : Int32) (h : ea_H) (r : Int64) (h' : ea_H), (gX12_order f).2.2 x1 x2 y3 y5 x7 h = some (r, h') → ShM h → ea_W mX12_order d h0 (some (vJ r)) h' 55 [(0, vR (some 326)), (1, vI x1), (2, vI x2), (3, vJ y3), (5, vJ y5), (7, vI x7)] [] h) := by
  intro f
  induction f with
  | zero => exact ⟨fun _ _ _ _ _ E => no_some E, fun _ _ _ _ _ E => no_some E, fun _ _ _ _ _ _ _ _ E => no_some E⟩
  | succ f ih => exact ⟨fun _ _ _ _ _ E hs => tBX12_order_0 hd ih.2.1 E hs, fun _ _ _ _ _ E hs => tBX12_order_34 hd ih.2.2 E hs, fun _ _ _ _ _ _ _ _ E hs => tBX12_order_55 hd ih.2.2 E hs⟩
noncomputable def qX12_order (x1 : Int32) (x2 : Int32) (h : ea_H) : Option (Int64 × ea_H) := qX12_order_0 x1 x2 h
theorem sX12_order {d : Nat} {x1 : Int32} {x2 : Int32} {h : ea_H} {r : Int64} {h' : ea_H} (hd : 3 ≤ d) (hs : ShM h) (K : qX12_order x1 x2 h = some (r, h')) : ea_Met mX12_order d [vR (some 326), vI x1, vI x2] h (some (vJ r)) h' := by
  unfold qX12_order at K
  obtain ⟨n, hn⟩ := fqX12_order_0 x1 x2 h _ K
  have W := (tgX12_order (d := d) (h0 := h) hd n).1 x1 x2 h _ _ (hn n (Nat.le_refl _)) hs
  exact ea_enter rfl (Nat.le_of_ble_eq_true rfl) W
theorem kpX12_order (x1 : Int32) (x2 : Int32) (h : ea_H) : kp (ea_core h) (qX12_order x1 x2 h) := fun x e => by
  obtain ⟨n, hn⟩ := fqX12_order_0 x1 x2 h x e
  exact (kgX12_order n).1 x1 x2 h x (hn n (Nat.le_refl _))
noncomputable def BX12_found_0 (J22 : Int32 → Int32 → Int32 → ea_H → Option (Int32 × ea_H)) (x1 : Int32) (x2 : Int32) (h : ea_H) : Option (Int32 × ea_H) :=
  (Option.bind (qX12_isLetterOf (x1 : Int32) h) fun w1 => (if w1.1 = (0 : Int32) then (some ((0 : Int32), w1.2)) else (gd (vp_in x1 120) (if (ea_i w1.2 381 (Int32.toNatClampNeg x1)) = (3 : Int32) then (J22 (x1 : Int32) (x2 : Int32) (0 : Int32) w1.2) else (some ((0 : Int32), w1.2))))))
theorem tBX12_found_0 {d : Nat} {h0 : ea_H} (hd : 3 ≤ d) {J22 : Int32 → Int32 → Int32 → ea_H → Option (Int32 × ea_H)}  (kJ22 : ∀ (x1 : Int32) (x2 : Int32) (x3 : Int32) (h : ea_H) (r : Int32) (h' : ea_H), J22 x1 x2 x3 h = some (r, h') → ShM h → ea_W mX12_found d h0 (some (vI r)) h' 22 [(0, vR (some 326)), (1, vI x1), (2, vI x2), (3, vI x3)] [] h) {x1 : Int32} {x2 : Int32} {h : ea_H} {r : Int32} {h' : ea_H} (E : BX12_found_0 J22 x1 x2 h = some (r, h')) (hs : ShM h) : ea_W mX12_found d h0 (some (vI r)) h' 0 [(0, vR (some 326)), (1, vI x1), (2, vI x2)] [] h := by
  unfold BX12_found_0 at E
  obtain ⟨w1, Ew1, E⟩ := bd_some E
  have hsw1 : ShM w1.2 := ShM_core ((kpX12_isLetterOf _ _) _ Ew1) hs
  refine ea_aload_n (pc := 0) dX12_found_0 rfl 0 rfl ?_
  refine ea_iload_n (pc := 1) dX12_found_1 rfl 1 rfl ?_
  refine ea_callV (pc := 2) (d' := d - 1) (As := [vI x1]) (st := []) dX12_found_2 kX12_isLetterOf (sX12_isLetterOf (d := d - 1) (by omega) hs Ew1) (by omega) rfl (Nat.le_of_ble_eq_true rfl) ew_2076 ew_2078 ew_96 (ci := 12) rfl (by decide) (cShM_326 hs).1 (cShM_326 hs).2.1 ?_
  refine ea_if_eq (pc := 5) (tgt := 18) dX12_found_5 rfl (fun c4 => ?_) (fun c4 => ?_)
  · have E := (if_pos c4).symm.trans E
    refine ea_iconst (pc := 18) dX12_found_18 (v := 0) rfl ?_
    exact ea_iretO (pc := 19) dX12_found_19 rfl (ea_bn (Or.inl rfl)) E
  · have E := (if_neg c4).symm.trans E
    obtain ⟨z2, E⟩ := gd_some E
    refine ea_aload_n (pc := 8) dX12_found_8 rfl 0 rfl ?_
    refine ea_getR (pc := 9) dX12_found_9 ec_12 (k := 81) (Nat.le_of_ble_eq_true rfl) rfl (Or.inl ew_1483) (cShM_326 hsw1).1 (cShM_326 hsw1).2.1 (rShM_326_81 hsw1) ?_
    refine ea_iload_n (pc := 12) dX12_found_12 rfl 1 rfl ?_
    refine ea_iald (pc := 13) dX12_found_13 (cShM_381 hsw1).1 (cShM_381 hsw1).2.1 (ea_vpl (cShM_381 hsw1).2.2 z2) ?_
    refine ea_iconst (pc := 14) dX12_found_14 (v := 3) rfl ?_
    refine ea_icmp_eq (pc := 15) (tgt := 20) dX12_found_15 rfl (fun c3 => ?_) (fun c3 => ?_)
    · have E := (if_pos c3).symm.trans E
      refine ea_iconst (pc := 20) dX12_found_20 (v := 0) rfl ?_
      refine ea_istore_n (pc := 21) (lv' := [(0, vR (some 326)), (1, vI x1), (2, vI x2), (3, vI 0)]) dX12_found_21 rfl (Nat.le_of_ble_eq_true rfl) [1, 2, 3, 0] rfl ?_
      exact (kJ22 (x1 : Int32) (x2 : Int32) (0 : Int32) w1.2 _ _ E hsw1)
    · have E := (if_neg c3).symm.trans E
      refine ea_iconst (pc := 18) dX12_found_18 (v := 0) rfl ?_
      exact ea_iretO (pc := 19) dX12_found_19 rfl (ea_bn (Or.inl rfl)) E
theorem kBX12_found_0 {J22 : Int32 → Int32 → Int32 → ea_H → Option (Int32 × ea_H)}  (cJ22 : ∀ (x1 : Int32) (x2 : Int32) (x3 : Int32) (h : ea_H), kp (ea_core h) (J22 x1 x2 x3 h)) {x1 : Int32} {x2 : Int32} {h : ea_H} : kp (ea_core h) (BX12_found_0 J22 x1 x2 h) :=
  (kp_bind (kp_tw (kpX12_isLetterOf _ _) rfl) fun w1 hcw1 => (kp_ite (kp_ret hcw1) (kp_gd (kp_ite (kp_tw (cJ22 _ _ _ _) hcw1) (kp_ret hcw1)))))
theorem lBX12_found_0 {J22 : Int32 → Int32 → Int32 → ea_H → Option (Int32 × ea_H)} {J22_ : Int32 → Int32 → Int32 → ea_H → Option (Int32 × ea_H)}  (mJ22 : ∀ (x1 : Int32) (x2 : Int32) (x3 : Int32) (h : ea_H), fle (J22 x1 x2 x3 h) (J22_ x1 x2 x3 h)) {x1 : Int32} {x2 : Int32} {h : ea_H} : fle (BX12_found_0 J22 x1 x2 h) (BX12_found_0 J22_ x1 x2 h) :=
  (fle_bind (fle_rfl _) fun _ => (fle_ite (fle_rfl _) (fle_gd (fle_ite (mJ22 _ _ _ _) (fle_rfl _)))))
theorem nBX12_found_0 {J22 : Int32 → Int32 → Int32 → ea_H → Option (Int32 × ea_H)} {J22_ : Nat → (Int32 → Int32 → Int32 → ea_H → Option (Int32 × ea_H))}  (mJ22 : ∀ (x1 : Int32) (x2 : Int32) (x3 : Int32) (h : ea_H), fct (J22 x1 x2 x3 h) (fun f => J22_ f x1 x2 x3 h)) {x1 : Int32} {x2 : Int32} {h : ea_H} : fct (BX12_found_0 J22 x1 x2 h) (fun f => BX12_found_0 (J22_ f) x1 x2 h) :=
  (fct_bind (fct_rfl _) fun _ => (fct_ite (fct_rfl _) (fct_gd (fct_ite (mJ22 _ _ _ _) (fct_rfl _)))))
noncomputable def BX12_found_22 (J22 : Int32 → Int32 → Int32 → ea_H → Option (Int32 × ea_H)) (x1 : Int32) (x2 : Int32) (x3 : Int32) (h : ea_H) : Option (Int32 × ea_H) :=
  (gd (vp_in x1 120) (if (ea_i h 396 (Int32.toNatClampNeg x1)) ≤ x3 then (some ((0 : Int32), h)) else (gd (vp_in (((4 : Int32) * x1) + x3) 480) (if (ea_i h 397 (Int32.toNatClampNeg (((4 : Int32) * x1) + x3))) = x2 then (Option.bind (qX12_turns (x1 : Int32) ((ea_i h 326 0) : Int32) (5 : Int32) (x2 : Int32) h) fun w7 => (some ((1 : Int32), w7.2))) else (J22 (x1 : Int32) (x2 : Int32) ((x3 + (1 : Int32)) : Int32) h)))))
theorem tBX12_found_22 {d : Nat} {h0 : ea_H} (hd : 3 ≤ d) {J22 : Int32 → Int32 → Int32 → ea_H → Option (Int32 × ea_H)}  (kJ22 : ∀ (x1 : Int32) (x2 : Int32) (x3 : Int32) (h : ea_H) (r : Int32) (h' : ea_H), J22 x1 x2 x3 h = some (r, h') → ShM h → ea_W mX12_found d h0 (some (vI r)) h' 22 [(0, vR (some 326)), (1, vI x1), (2, vI x2), (3, vI x3)] [] h) {x1 : Int32} {x2 : Int32} {x3 : Int32} {h : ea_H} {r : Int32} {h' : ea_H} (E : BX12_found_22 J22 x1 x2 x3 h = some (r, h')) (hs : ShM h) : ea_W mX12_found d h0 (some (vI r)) h' 22 [(0, vR (some 326)), (1, vI x1), (2, vI x2), (3, vI x3)] [] h := by
  unfold BX12_found_22 at E
  obtain ⟨z5, E⟩ := gd_some E
  refine ea_iload_n (pc := 22) dX12_found_22 rfl 3 rfl ?_
  refine ea_aload_n (pc := 23) dX12_found_23 rfl 0 rfl ?_
  refine ea_getR (pc := 24) dX12_found_24 ec_12 (k := 97) (Nat.le_of_ble_eq_true rfl) rfl (Or.inl ew_1499) (cShM_326 hs).1 (cShM_326 hs).2.1 (rShM_326_97 hs) ?_
  refine ea_iload_n (pc := 27) dX12_found_27 rfl 1 rfl ?_
  refine ea_iald (pc := 28) dX12_found_28 (cShM_396 hs).1 (cShM_396 hs).2.1 (ea_vpl (cShM_396 hs).2.2 z5) ?_
  refine ea_icmp_ge (pc := 29) (tgt := 68) dX12_found_29 rfl (fun c9 => ?_) (fun c9 => ?_)
  · have E := (if_pos c9).symm.trans E
    refine ea_iconst (pc := 68) dX12_found_68 (v := 0) rfl ?_
    exact ea_iretO (pc := 69) dX12_found_69 rfl (ea_bn (Or.inl rfl)) E
  · have E := (if_neg c9).symm.trans E
    obtain ⟨z6, E⟩ := gd_some E
    refine ea_aload_n (pc := 32) dX12_found_32 rfl 0 rfl ?_
    refine ea_getR (pc := 33) dX12_found_33 ec_12 (k := 98) (Nat.le_of_ble_eq_true rfl) rfl (Or.inl ew_1500) (cShM_326 hs).1 (cShM_326 hs).2.1 (rShM_326_98 hs) ?_
    refine ea_iconst (pc := 36) dX12_found_36 (v := 4) rfl ?_
    refine ea_iload_n (pc := 37) dX12_found_37 rfl 1 rfl ?_
    refine ea_imul (pc := 38) dX12_found_38 ?_
    refine ea_iload_n (pc := 39) dX12_found_39 rfl 3 rfl ?_
    refine ea_iadd (pc := 40) dX12_found_40 ?_
    refine ea_iald (pc := 41) dX12_found_41 (cShM_397 hs).1 (cShM_397 hs).2.1 (ea_vpl (cShM_397 hs).2.2 z6) ?_
    refine ea_iload_n (pc := 42) dX12_found_42 rfl 2 rfl ?_
    refine ea_icmp_eq (pc := 43) (tgt := 49) dX12_found_43 rfl (fun c8 => ?_) (fun c8 => ?_)
    · have E := (if_pos c8).symm.trans E
      obtain ⟨w7, Ew7, E⟩ := bd_some E
      have hsw7 : ShM w7.2 := ShM_core ((kpX12_turns _ _ _ _ _) _ Ew7) hs
      refine ea_aload_n (pc := 49) dX12_found_49 rfl 0 rfl ?_
      refine ea_iload_n (pc := 50) dX12_found_50 rfl 1 rfl ?_
      refine ea_aload_n (pc := 51) dX12_found_51 rfl 0 rfl ?_
      refine ea_getI (pc := 52) dX12_found_52 ec_12 (k := 0) (Nat.le_of_ble_eq_true rfl) rfl (Or.inl ew_1402) (cShM_326 hs).1 (cShM_326 hs).2.1 ?_
      refine ea_iconst (pc := 55) dX12_found_55 (v := 5) rfl ?_
      refine ea_iload_n (pc := 56) dX12_found_56 rfl 2 rfl ?_
      refine ea_callV (pc := 57) (d' := d - 1) (As := [vI x1, vI (ea_i h 326 0), vI 5, vI x2]) (st := []) dX12_found_57 kX12_turns (sX12_turns (d := d - 1) (by omega) hs Ew7) (by omega) rfl (Nat.le_of_ble_eq_true rfl) ew_2068 ew_2070 ew_95 (ci := 12) rfl (by decide) (cShM_326 hs).1 (cShM_326 hs).2.1 ?_
      refine ea_iconst (pc := 60) dX12_found_60 (v := 1) rfl ?_
      exact ea_iretO (pc := 61) dX12_found_61 rfl (ea_bn (Or.inr rfl)) E
    · have E := (if_neg c8).symm.trans E
      refine ea_goto (pc := 46) (tgt := 62) dX12_found_46 rfl ?_
      refine ea_iinc (pc := 62) (v := 1) (lv' := [(0, vR (some 326)), (1, vI x1), (2, vI x2), (3, vI (x3 + (1 : Int32)))]) dX12_found_62 3 rfl rfl (Nat.le_of_ble_eq_true rfl) [1, 2, 3, 0] rfl ?_
      refine ea_goto (pc := 65) (tgt := 22) dX12_found_65 rfl ?_
      exact (kJ22 (x1 : Int32) (x2 : Int32) ((x3 + (1 : Int32)) : Int32) h _ _ E hs)
theorem kBX12_found_22 {J22 : Int32 → Int32 → Int32 → ea_H → Option (Int32 × ea_H)}  (cJ22 : ∀ (x1 : Int32) (x2 : Int32) (x3 : Int32) (h : ea_H), kp (ea_core h) (J22 x1 x2 x3 h)) {x1 : Int32} {x2 : Int32} {x3 : Int32} {h : ea_H} : kp (ea_core h) (BX12_found_22 J22 x1 x2 x3 h) :=
  (kp_gd (kp_ite (kp_ret rfl) (kp_gd (kp_ite (kp_bind (kp_tw (kpX12_turns _ _ _ _ _) rfl) fun w7 hcw7 => (kp_ret hcw7)) (kp_tw (cJ22 _ _ _ _) rfl)))))
theorem lBX12_found_22 {J22 : Int32 → Int32 → Int32 → ea_H → Option (Int32 × ea_H)} {J22_ : Int32 → Int32 → Int32 → ea_H → Option (Int32 × ea_H)}  (mJ22 : ∀ (x1 : Int32) (x2 : Int32) (x3 : Int32) (h : ea_H), fle (J22 x1 x2 x3 h) (J22_ x1 x2 x3 h)) {x1 : Int32} {x2 : Int32} {x3 : Int32} {h : ea_H} : fle (BX12_found_22 J22 x1 x2 x3 h) (BX12_found_22 J22_ x1 x2 x3 h) :=
  (fle_gd (fle_ite (fle_rfl _) (fle_gd (fle_ite (fle_rfl _) (mJ22 _ _ _ _)))))
theorem nBX12_found_22 {J22 : Int32 → Int32 → Int32 → ea_H → Option (Int32 × ea_H)} {J22_ : Nat → (Int32 → Int32 → Int32 → ea_H → Option (Int32 × ea_H))}  (mJ22 : ∀ (x1 : Int32) (x2 : Int32) (x3 : Int32) (h : ea_H), fct (J22 x1 x2 x3 h) (fun f => J22_ f x1 x2 x3 h)) {x1 : Int32} {x2 : Int32} {x3 : Int32} {h : ea_H} : fct (BX12_found_22 J22 x1 x2 x3 h) (fun f => BX12_found_22 (J22_ f) x1 x2 x3 h) :=
  (fct_gd (fct_ite (fct_rfl _) (fct_gd (fct_ite (fct_rfl _) (mJ22 _ _ _ _)))))
noncomputable def gX12_found : Nat → (Int32 → Int32 → ea_H → Option (Int32 × ea_H)) × (Int32 → Int32 → Int32 → ea_H → Option (Int32 × ea_H))
  | 0 => (fun _ _ _ => none, fun _ _ _ _ => none)
  | f + 1 => (BX12_found_0 (gX12_found f).2, BX12_found_22 (gX12_found f).2)
theorem mgX12_found : ∀ f : Nat, (∀ (x1 : Int32) (x2 : Int32) (h : ea_H), fle ((gX12_found f).1 x1 x2 h) ((gX12_found (f + 1)).1 x1 x2 h)) ∧ (∀ (x1 : Int32) (x2 : Int32) (x3 : Int32) (h : ea_H), fle ((gX12_found f).2 x1 x2 x3 h) ((gX12_found (f + 1)).2 x1 x2 x3 h)) := by
  intro f
  induction f with
  | zero => exact ⟨fun _ _ _ => fle_none _, fun _ _ _ _ => fle_none _⟩
  | succ f ih => exact ⟨fun _ _ _ => lBX12_found_0 ih.2, fun _ _ _ _ => lBX12_found_22 ih.2⟩
noncomputable def qX12_found_0 (x1 : Int32) (x2 : Int32) (h : ea_H) : Option (Int32 × ea_H) := flim fun f => (gX12_found f).1 x1 x2 h
noncomputable def qX12_found_22 (x1 : Int32) (x2 : Int32) (x3 : Int32) (h : ea_H) : Option (Int32 × ea_H) := flim fun f => (gX12_found f).2 x1 x2 x3 h
theorem fqX12_found_0 (x1 : Int32) (x2 : Int32) (h : ea_H) : fct (qX12_found_0 x1 x2 h) fun f => (gX12_found f).1 x1 x2 h := flim_ct fun f => (mgX12_found f).1 x1 x2 h
theorem fqX12_found_22 (x1 : Int32) (x2 : Int32) (x3 : Int32) (h : ea_H) : fct (qX12_found_22 x1 x2 x3 h) fun f => (gX12_found f).2 x1 x2 x3 h := flim_ct fun f => (mgX12_found f).2 x1 x2 x3 h
/-- how a block opens -/
theorem uqX12_found_0 {x1 : Int32} {x2 : Int32} {h : ea_H} {P : Int32 × ea_H → Prop} (H : sat (BX12_found_0 qX12_found_22 x1 x2 h) P) : sat (qX12_found_0 x1 x2 h) P := by
  obtain ⟨x, e, hp⟩ := H
  obtain ⟨n, hn⟩ := nBX12_found_0 fqX12_found_22 x e
  exact ⟨x, flim_at (fun f => (mgX12_found f).1 x1 x2 h) (f := n + 1) (hn n (Nat.le_refl _)), hp⟩
/-- how a block opens -/
theorem uqX12_found_22 {x1 : Int32} {x2 : Int32} {x3 : Int32} {h : ea_H} {P : Int32 × ea_H → Prop} (H : sat (BX12_found_22 qX12_found_22 x1 x2 x3 h) P) : sat (qX12_found_22 x1 x2 x3 h) P := by
  obtain ⟨x, e, hp⟩ := H
  obtain ⟨n, hn⟩ := nBX12_found_22 fqX12_found_22 x e
  exact ⟨x, flim_at (fun f => (mgX12_found f).2 x1 x2 x3 h) (f := n + 1) (hn n (Nat.le_refl _)), hp⟩
theorem kgX12_found : ∀ f : Nat, (∀ (x1 : Int32) (x2 : Int32) (h : ea_H), kp (ea_core h) ((gX12_found f).1 x1 x2 h)) ∧ (∀ (x1 : Int32) (x2 : Int32) (x3 : Int32) (h : ea_H), kp (ea_core h) ((gX12_found f).2 x1 x2 x3 h)) := by
  intro f
  induction f with
  | zero => exact ⟨fun _ _ _ => kp_none _, fun _ _ _ _ => kp_none _⟩
  | succ f ih => exact ⟨fun _ _ _ => kBX12_found_0 ih.2, fun _ _ _ _ => kBX12_found_22 ih.2⟩
theorem tgX12_found {d : Nat} {h0 : ea_H} (hd : 3 ≤ d) : ∀ f : Nat, (∀ (x1 : Int32) (x2 : Int32) (h : ea_H) (r : Int32) (h' : ea_H), (gX12_found f).1 x1 x2 h = some (r, h') → ShM h → ea_W mX12_found d h0 (some (vI r)) h' 0 [(0, vR (some 326)), (1, vI x1), (2, vI x2)] [] h) ∧ (∀ (x1 : Int32) (x2 : Int32) (x3 : Int32) (h : ea_H) (r : Int32) (h' : ea_H), (gX12_found f).2 x1 x2 x3 h = some (r, h') → ShM h → ea_W mX12_found d h0 (some (vI r)) h' 22 [(0, vR (some 326)), (1, vI x1), (2, vI x2), (3, vI x3)] [] h) := by
  intro f
  induction f with
  | zero => exact ⟨fun _ _ _ _ _ E => no_some E, fun _ _ _ _ _ _ E => no_some E⟩
  | succ f ih => exact ⟨fun _ _ _ _ _ E hs => tBX12_found_0 hd ih.2 E hs, fun _ _ _ _ _ _ E hs => tBX12_found_22 hd ih.2 E hs⟩
noncomputable def qX12_found (x1 : Int32) (x2 : Int32) (h : ea_H) : Option (Int32 × ea_H) := qX12_found_0 x1 x2 h
theorem sX12_found {d : Nat} {x1 : Int32} {x2 : Int32} {h : ea_H} {r : Int32} {h' : ea_H} (hd : 3 ≤ d) (hs : ShM h) (K : qX12_found x1 x2 h = some (r, h')) : ea_Met mX12_found d [vR (some 326), vI x1, vI x2] h (some (vI r)) h' := by
  unfold qX12_found at K
  obtain ⟨n, hn⟩ := fqX12_found_0 x1 x2 h _ K
  have W := (tgX12_found (d := d) (h0 := h) hd n).1 x1 x2 h _ _ (hn n (Nat.le_refl _)) hs
  exact ea_enter rfl (Nat.le_of_ble_eq_true rfl) W
theorem kpX12_found (x1 : Int32) (x2 : Int32) (h : ea_H) : kp (ea_core h) (qX12_found x1 x2 h) := fun x e => by
  obtain ⟨n, hn⟩ := fqX12_found_0 x1 x2 h x e
  exact (kgX12_found n).1 x1 x2 h x (hn n (Nat.le_refl _))
noncomputable def BX12_rob_0 (J104 : Int32 → Int32 → Int32 → ea_H → Option (Int32 × ea_H)) (x1 : Int32) (x2 : Int32) (h : ea_H) : Option (Int32 × ea_H) :=
  (Option.bind (qX12_isTrain (x1 : Int32) h) fun w1 => (if w1.1 = (0 : Int32) then (some (((-1) : Int32), w1.2)) else (Option.bind (qX12_isDay (x2 : Int32) w1.2) fun w2 => (if w2.1 = (0 : Int32) then (some (((-1) : Int32), w2.2)) else (if (ea_i w2.2 326 100) = (20 : Int32) then (some (((-1) : Int32), w2.2)) else (Option.bind (qX12_run (x1 : Int32) (x2 : Int32) w2.2) fun w3 => (Option.bind (qX12_gone (w3.1 : Int32) w3.2) fun w4 => (if w4.1 = ((-1) : Int32) then (some (((-1) : Int32), w4.2)) else (Option.bind (qX12_comesAt (w3.1 : Int32) ((w4.1 + (1 : Int32)) : Int32) w4.2) fun w5 => (if (ea_i w5.2 326 0) < w5.1 then (ea_let (ea_i w5.2 326 100) fun (v6 : Int32) => (ea_let (ea_wi w5.2 326 100 ((ea_i w5.2 326 100) + (1 : Int32))) fun H7 => (Option.bind (qX12_code (w3.1 : Int32) H7) fun w8 => (gd (vp_in v6 20) (ea_let (ea_wi w8.2 399 (Int32.toNatClampNeg v6) w8.1) fun H10 => (gd (vp_in v6 20) (ea_let (ea_wi H10 400 (Int32.toNatClampNeg v6) (ea_i H10 326 0)) fun H12 => (J104 (w3.1 : Int32) (v6 : Int32) (0 : Int32) H12)))))))) else (some (((-1) : Int32), w5.2))))))))))))
theorem tBX12_rob_0 {d : Nat} {h0 : ea_H} (hd : 3 ≤ d) {J104 : Int32 → Int32 → Int32 → ea_H → Option (Int32 × ea_H)}  (kJ104 : ∀ (x3 : Int32) (x5 : Int32) (x6 : Int32) (h : ea_H) (r : Int32) (h' : ea_H), J104 x3 x5 x6 h = some (r, h') → ShM h → ea_W mX12_rob d h0 (some (vI r)) h' 104 [(0, vR (some 326)), (3, vI x3), (5, vI x5), (6, vI x6)] [] h) {x1 : Int32} {x2 : Int32} {h : ea_H} {r : Int32} {h' : ea_H} (E : BX12_rob_0 J104 x1 x2 h = some (r, h')) (hs : ShM h) : ea_W mX12_rob d h0 (some (vI r)) h' 0 [(0, vR (some 326)), (1, vI x1), (2, vI x2)] [] h := by
  unfold BX12_rob_0 at E
  obtain ⟨w1, Ew1, E⟩ := bd_some E
  have hsw1 : ShM w1.2 := ShM_core ((kpX12_isTrain _ _) _ Ew1) hs
  refine ea_aload_n (pc := 0) dX12_rob_0 rfl 0 rfl ?_
  refine ea_iload_n (pc := 1) dX12_rob_1 rfl 1 rfl ?_
  refine ea_callV (pc := 2) (d' := d - 1) (As := [vI x1]) (st := []) dX12_rob_2 kX12_isTrain (sX12_isTrain (d := d - 1) (by omega) hs Ew1) (by omega) rfl (Nat.le_of_ble_eq_true rfl) ew_1793 ew_1795 ew_57 (ci := 12) rfl (by decide) (cShM_326 hs).1 (cShM_326 hs).2.1 ?_
  refine ea_if_eq (pc := 5) (tgt := 24) dX12_rob_5 rfl (fun c17 => ?_) (fun c17 => ?_)
  · have E := (if_pos c17).symm.trans E
    refine ea_iconst (pc := 24) dX12_rob_24 (v := (-1)) rfl ?_
    exact ea_iretO (pc := 25) dX12_rob_25 rfl rfl E
  · have E := (if_neg c17).symm.trans E
    obtain ⟨w2, Ew2, E⟩ := bd_some E
    have hsw2 : ShM w2.2 := ShM_core ((kpX12_isDay _ _) _ Ew2) hsw1
    refine ea_iload_n (pc := 8) dX12_rob_8 rfl 2 rfl ?_
    refine ea_callS (pc := 9) (d' := d - 1) (As := [vI x2]) (st := []) dX12_rob_9 kX12_isDay (sX12_isDay (d := d - 1) (by omega) Ew2) (by omega) rfl (Nat.le_of_ble_eq_true rfl) ew_1809 ew_1810 ?_
    refine ea_if_eq (pc := 12) (tgt := 24) dX12_rob_12 rfl (fun c16 => ?_) (fun c16 => ?_)
    · have E := (if_pos c16).symm.trans E
      refine ea_iconst (pc := 24) dX12_rob_24 (v := (-1)) rfl ?_
      exact ea_iretO (pc := 25) dX12_rob_25 rfl rfl E
    · have E := (if_neg c16).symm.trans E
      refine ea_aload_n (pc := 15) dX12_rob_15 rfl 0 rfl ?_
      refine ea_getI (pc := 16) dX12_rob_16 ec_12 (k := 100) (Nat.le_of_ble_eq_true rfl) rfl (Or.inl ew_1502) (cShM_326 hsw2).1 (cShM_326 hsw2).2.1 ?_
      refine ea_bipush (pc := 19) dX12_rob_19 (v := 20) rfl ?_
      refine ea_icmp_ne (pc := 21) (tgt := 26) dX12_rob_21 rfl (fun c15 => ?_) (fun c15 => ?_)
      · have E := (if_neg c15).symm.trans E
        obtain ⟨w3, Ew3, E⟩ := bd_some E
        have hsw3 : ShM w3.2 := ShM_core ((kpX12_run _ _ _) _ Ew3) hsw2
        refine ea_iload_n (pc := 26) dX12_rob_26 rfl 1 rfl ?_
        refine ea_iload_n (pc := 27) dX12_rob_27 rfl 2 rfl ?_
        refine ea_callS (pc := 28) (d' := d - 1) (As := [vI x1, vI x2]) (st := []) dX12_rob_28 kX12_run (sX12_run (d := d - 1) (by omega) Ew3) (by omega) rfl (Nat.le_of_ble_eq_true rfl) ew_1812 ew_1813 ?_
        obtain ⟨w4, Ew4, E⟩ := bd_some E
        have hsw4 : ShM w4.2 := ShM_core ((kpX12_gone _ _) _ Ew4) hsw3
        refine ea_istore_n (pc := 31) (lv' := [(0, vR (some 326)), (3, vI w3.1)]) dX12_rob_31 rfl (Nat.le_of_ble_eq_true rfl) [1, 0] rfl ?_
        refine ea_aload_n (pc := 32) dX12_rob_32 rfl 0 rfl ?_
        refine ea_iload_n (pc := 33) dX12_rob_33 rfl 1 rfl ?_
        refine ea_callV (pc := 34) (d' := d - 1) (As := [vI w3.1]) (st := []) dX12_rob_34 kX12_gone (sX12_gone (d := d - 1) (by omega) hsw3 Ew4) (by omega) rfl (Nat.le_of_ble_eq_true rfl) ew_2151 ew_2153 ew_106 (ci := 12) rfl (by decide) (cShM_326 hsw3).1 (cShM_326 hsw3).2.1 ?_
        refine ea_istore (pc := 37) (lv' := [(0, vR (some 326)), (3, vI w3.1), (4, vI w4.1)]) dX12_rob_37 (Nat.le_of_ble_eq_true rfl) [1, 2, 0] rfl ?_
        refine ea_iload (pc := 39) dX12_rob_39 2 rfl ?_
        refine ea_iconst (pc := 41) dX12_rob_41 (v := (-1)) rfl ?_
        refine ea_icmp_eq (pc := 42) (tgt := 61) dX12_rob_42 rfl (fun c14 => ?_) (fun c14 => ?_)
        · have E := (if_pos c14).symm.trans E
          refine ea_iconst (pc := 61) dX12_rob_61 (v := (-1)) rfl ?_
          exact ea_iretO (pc := 62) dX12_rob_62 rfl rfl E
        · have E := (if_neg c14).symm.trans E
          obtain ⟨w5, Ew5, E⟩ := bd_some E
          have hsw5 : ShM w5.2 := ShM_core ((kpX12_comesAt _ _ _) _ Ew5) hsw4
          refine ea_aload_n (pc := 45) dX12_rob_45 rfl 0 rfl ?_
          refine ea_iload_n (pc := 46) dX12_rob_46 rfl 1 rfl ?_
          refine ea_iload (pc := 47) dX12_rob_47 2 rfl ?_
          refine ea_iconst (pc := 49) dX12_rob_49 (v := 1) rfl ?_
          refine ea_iadd (pc := 50) dX12_rob_50 ?_
          refine ea_callV (pc := 51) (d' := d - 1) (As := [vI w3.1, vI (w4.1 + (1 : Int32))]) (st := []) dX12_rob_51 kX12_comesAt (sX12_comesAt (d := d - 1) (by omega) hsw4 Ew5) (by omega) rfl (Nat.le_of_ble_eq_true rfl) ew_1819 ew_1821 ew_59 (ci := 12) rfl (by decide) (cShM_326 hsw4).1 (cShM_326 hsw4).2.1 ?_
          refine ea_aload_n (pc := 54) dX12_rob_54 rfl 0 rfl ?_
          refine ea_getI (pc := 55) dX12_rob_55 ec_12 (k := 0) (Nat.le_of_ble_eq_true rfl) rfl (Or.inl ew_1402) (cShM_326 hsw5).1 (cShM_326 hsw5).2.1 ?_
          refine ea_icmp_gt (pc := 58) (tgt := 63) dX12_rob_58 rfl (fun c13 => ?_) (fun c13 => ?_)
          · have E := (if_pos c13).symm.trans E
            obtain ⟨v6, ev6, E⟩ := let_some E
            refine ea_aload_n (pc := 63) dX12_rob_63 rfl 0 rfl ?_
            refine ea_getI (pc := 64) dX12_rob_64 ec_12 (k := 100) (Nat.le_of_ble_eq_true rfl) rfl (Or.inl ew_1502) (cShM_326 hsw5).1 (cShM_326 hsw5).2.1 ?_
            obtain ⟨H7, eH7, E⟩ := let_some E
            refine ea_istore (pc := 67) (lv' := [(0, vR (some 326)), (3, vI w3.1), (5, vI v6)]) dX12_rob_67 (Nat.le_of_ble_eq_true rfl) [1, 2, 0] (by rw [ev6]; rfl) ?_
            refine ea_aload_n (pc := 69) dX12_rob_69 rfl 0 rfl ?_
            refine ea_dup (pc := 70) dX12_rob_70 rfl ?_
            refine ea_getI (pc := 71) dX12_rob_71 ec_12 (k := 100) (Nat.le_of_ble_eq_true rfl) rfl (Or.inl ew_1502) (cShM_326 hsw5).1 (cShM_326 hsw5).2.1 ?_
            refine ea_iconst (pc := 74) dX12_rob_74 (v := 1) rfl ?_
            refine ea_iadd (pc := 75) dX12_rob_75 ?_
            refine ea_putI (pc := 76) dX12_rob_76 ec_12 (k := 100) (Nat.le_of_ble_eq_true rfl) rfl (Or.inl ⟨rfl, Or.inl ew_1502⟩) rfl rfl (cShM_326 hsw5).1 (cShM_326 hsw5).2.1 ?_
            refine ea_nm eH7 ?_
            have hsH7 : ShM H7 := by rw [eH7]; exact hsw5
            obtain ⟨w8, Ew8, E⟩ := bd_some E
            have hsw8 : ShM w8.2 := ShM_core ((kpX12_code _ _) _ Ew8) hsH7
            refine ea_aload_n (pc := 79) dX12_rob_79 rfl 0 rfl ?_
            refine ea_getR (pc := 80) dX12_rob_80 ec_12 (k := 101) (Nat.le_of_ble_eq_true rfl) rfl (Or.inl ew_1503) (cShM_326 hsH7).1 (cShM_326 hsH7).2.1 (rShM_326_101 hsH7) ?_
            refine ea_iload (pc := 83) dX12_rob_83 2 rfl ?_
            refine ea_iload_n (pc := 85) dX12_rob_85 rfl 1 rfl ?_
            refine ea_callS (pc := 86) (d' := d - 1) (As := [vI w3.1]) (st := [vI v6, vR (some 399)]) dX12_rob_86 kX12_code (sX12_code (d := d - 1) (by omega) Ew8) (by omega) rfl (Nat.le_of_ble_eq_true rfl) ew_2128 ew_2129 ?_
            obtain ⟨z9, E⟩ := gd_some E
            obtain ⟨H10, eH10, E⟩ := let_some E
            refine ea_iast (pc := 89) dX12_rob_89 (cShM_399 hsw8).1 (cShM_399 hsw8).2.1 (ea_vpl (cShM_399 hsw8).2.2 z9) ?_
            refine ea_nm eH10 ?_
            have hsH10 : ShM H10 := by rw [eH10]; exact hsw8
            obtain ⟨z11, E⟩ := gd_some E
            refine ea_aload_n (pc := 90) dX12_rob_90 rfl 0 rfl ?_
            refine ea_getR (pc := 91) dX12_rob_91 ec_12 (k := 102) (Nat.le_of_ble_eq_true rfl) rfl (Or.inl ew_1504) (cShM_326 hsH10).1 (cShM_326 hsH10).2.1 (rShM_326_102 hsH10) ?_
            refine ea_iload (pc := 94) dX12_rob_94 2 rfl ?_
            refine ea_aload_n (pc := 96) dX12_rob_96 rfl 0 rfl ?_
            refine ea_getI (pc := 97) dX12_rob_97 ec_12 (k := 0) (Nat.le_of_ble_eq_true rfl) rfl (Or.inl ew_1402) (cShM_326 hsH10).1 (cShM_326 hsH10).2.1 ?_
            obtain ⟨H12, eH12, E⟩ := let_some E
            refine ea_iast (pc := 100) dX12_rob_100 (cShM_400 hsH10).1 (cShM_400 hsH10).2.1 (ea_vpl (cShM_400 hsH10).2.2 z11) ?_
            refine ea_nm eH12 ?_
            have hsH12 : ShM H12 := by rw [eH12]; exact hsH10
            refine ea_iconst (pc := 101) dX12_rob_101 (v := 0) rfl ?_
            refine ea_istore (pc := 102) (lv' := [(0, vR (some 326)), (3, vI w3.1), (5, vI v6), (6, vI 0)]) dX12_rob_102 (Nat.le_of_ble_eq_true rfl) [1, 2, 3, 0] rfl ?_
            exact (kJ104 (w3.1 : Int32) (v6 : Int32) (0 : Int32) H12 _ _ E hsH12)
          · have E := (if_neg c13).symm.trans E
            refine ea_iconst (pc := 61) dX12_rob_61 (v := (-1)) rfl ?_
            exact ea_iretO (pc := 62) dX12_rob_62 rfl rfl E
      · have E := (if_pos c15).symm.trans E
        refine ea_iconst (pc := 24) dX12_rob_24 (v := (-1)) rfl ?_
        exact ea_iretO (pc := 25) dX12_rob_25 rfl rfl E
theorem kBX12_rob_0 {J104 : Int32 → Int32 → Int32 → ea_H → Option (Int32 × ea_H)}  (cJ104 : ∀ (x3 : Int32) (x5 : Int32) (x6 : Int32) (h : ea_H), kp (ea_core h) (J104 x3 x5 x6 h)) {x1 : Int32} {x2 : Int32} {h : ea_H} : kp (ea_core h) (BX12_rob_0 J104 x1 x2 h) :=
  (kp_bind (kp_tw (kpX12_isTrain _ _) rfl) fun w1 hcw1 => (kp_ite (kp_ret hcw1) (kp_bind (kp_tw (kpX12_isDay _ _) hcw1) fun w2 hcw2 => (kp_ite (kp_ret hcw2) (kp_ite (kp_ret hcw2) (kp_bind (kp_tw (kpX12_run _ _ _) hcw2) fun w3 hcw3 => (kp_bind (kp_tw (kpX12_gone _ _) hcw3) fun w4 hcw4 => (kp_ite (kp_ret hcw4) (kp_bind (kp_tw (kpX12_comesAt _ _ _) hcw4) fun w5 hcw5 => (kp_ite (kp_let (kp_let (kp_bind (kp_tw (kpX12_code _ _) hcw5) fun w8 hcw8 => (kp_gd (kp_let (kp_gd (kp_let (kp_tw (cJ104 _ _ _ _) hcw8)))))))) (kp_ret hcw5)))))))))))
theorem lBX12_rob_0 {J104 : Int32 → Int32 → Int32 → ea_H → Option (Int32 × ea_H)} {J104_ : Int32 → Int32 → Int32 → ea_H → Option (Int32 × ea_H)}  (mJ104 : ∀ (x3 : Int32) (x5 : Int32) (x6 : Int32) (h : ea_H), fle (J104 x3 x5 x6 h) (J104_ x3 x5 x6 h)) {x1 : Int32} {x2 : Int32} {h : ea_H} : fle (BX12_rob_0 J104 x1 x2 h) (BX12_rob_0 J104_ x1 x2 h) :=
  (fle_bind (fle_rfl _) fun _ => (fle_ite (fle_rfl _) (fle_bind (fle_rfl _) fun _ => (fle_ite (fle_rfl _) (fle_ite (fle_rfl _) (fle_bind (fle_rfl _) fun _ => (fle_bind (fle_rfl _) fun _ => (fle_ite (fle_rfl _) (fle_bind (fle_rfl _) fun _ => (fle_ite (fle_let fun _ => (fle_let fun _ => (fle_bind (fle_rfl _) fun _ => (fle_gd (fle_let fun _ => (fle_gd (fle_let fun _ => (mJ104 _ _ _ _)))))))) (fle_rfl _)))))))))))
theorem nBX12_rob_0 {J104 : Int32 → Int32 → Int32 → ea_H → Option (Int32 × ea_H)} {J104_ : Nat → (Int32 → Int32 → Int32 → ea_H → Option (Int32 × ea_H))}  (mJ104 : ∀ (x3 : Int32) (x5 : Int32) (x6 : Int32) (h : ea_H), fct (J104 x3 x5 x6 h) (fun f => J104_ f x3 x5 x6 h)) {x1 : Int32} {x2 : Int32} {h : ea_H} : fct (BX12_rob_0 J104 x1 x2 h) (fun f => BX12_rob_0 (J104_ f) x1 x2 h) :=
  (fct_bind (fct_rfl _) fun _ => (fct_ite (fct_rfl _) (fct_bind (fct_rfl _) fun _ => (fct_ite (fct_rfl _) (fct_ite (fct_rfl _) (fct_bind (fct_rfl _) fun _ => (fct_bind (fct_rfl _) fun _ => (fct_ite (fct_rfl _) (fct_bind (fct_rfl _) fun _ => (fct_ite (fct_let fun _ => (fct_let fun _ => (fct_bind (fct_rfl _) fun _ => (fct_gd (fct_let fun _ => (fct_gd (fct_let fun _ => (mJ104 _ _ _ _)))))))) (fct_rfl _)))))))))))
noncomputable def BX12_rob_104 (J104 : Int32 → Int32 → Int32 → ea_H → Option (Int32 × ea_H)) (x3 : Int32) (x5 : Int32) (x6 : Int32) (h : ea_H) : Option (Int32 × ea_H) :=
  (if (ea_i h 326 63) ≤ x6 then (some (x5, h)) else (Option.bind (qX12_isAboard (x6 : Int32) (x3 : Int32) h) fun w18 => (if w18.1 = (0 : Int32) then (J104 (x3 : Int32) (x5 : Int32) ((x6 + (1 : Int32)) : Int32) w18.2) else (gd (vp_in x6 120) (if (ea_i w18.2 387 (Int32.toNatClampNeg x6)) = (0 : Int32) then (J104 (x3 : Int32) (x5 : Int32) ((x6 + (1 : Int32)) : Int32) w18.2) else (gd (vp_in x5 20) (gd (vp_in (((120 : Int32) * x5) + (ea_i w18.2 401 (Int32.toNatClampNeg x5))) 2400) (ea_let (ea_wi w18.2 403 (Int32.toNatClampNeg (((120 : Int32) * x5) + (ea_i w18.2 401 (Int32.toNatClampNeg x5)))) x6) fun H22 => (gd (vp_in x5 20) (gd (vp_in x5 20) (ea_let (ea_wi H22 401 (Int32.toNatClampNeg x5) ((ea_i H22 401 (Int32.toNatClampNeg x5)) + (1 : Int32))) fun H25 => (gd (vp_in x5 20) (Option.bind (qX12_owed (x6 : Int32) H25) fun w27 => (gd (vp_in x5 20) (ea_let (ea_wi w27.2 402 (Int32.toNatClampNeg x5) ((ea_i H25 402 (Int32.toNatClampNeg x5)) + w27.1)) fun H29 => (Option.bind (qX12_code (x3 : Int32) H29) fun w30 => (Option.bind (qX12_turns (x6 : Int32) ((ea_i H29 326 0) : Int32) (4 : Int32) (w30.1 : Int32) w30.2) fun w31 => (J104 (x3 : Int32) (x5 : Int32) ((x6 + (1 : Int32)) : Int32) w31.2))))))))))))))))))
theorem tBX12_rob_104 {d : Nat} {h0 : ea_H} (hd : 3 ≤ d) {J104 : Int32 → Int32 → Int32 → ea_H → Option (Int32 × ea_H)}  (kJ104 : ∀ (x3 : Int32) (x5 : Int32) (x6 : Int32) (h : ea_H) (r : Int32) (h' : ea_H), J104 x3 x5 x6 h = some (r, h') → ShM h → ea_W mX12_rob d h0 (some (vI r)) h' 104 [(0, vR (some 326)), (3, vI x3), (5, vI x5), (6, vI x6)] [] h) {x3 : Int32} {x5 : Int32} {x6 : Int32} {h : ea_H} {r : Int32} {h' : ea_H} (E : BX12_rob_104 J104 x3 x5 x6 h = some (r, h')) (hs : ShM h) : ea_W mX12_rob d h0 (some (vI r)) h' 104 [(0, vR (some 326)), (3, vI x3), (5, vI x5), (6, vI x6)] [] h := by
  unfold BX12_rob_104 at E
  refine ea_iload (pc := 104) dX12_rob_104 3 rfl ?_
  refine ea_aload_n (pc := 106) dX12_rob_106 rfl 0 rfl ?_
  refine ea_getI (pc := 107) dX12_rob_107 ec_12 (k := 63) (Nat.le_of_ble_eq_true rfl) rfl (Or.inl ew_1465) (cShM_326 hs).1 (cShM_326 hs).2.1 ?_
  refine ea_icmp_ge (pc := 110) (tgt := 204) dX12_rob_110 rfl (fun c34 => ?_) (fun c34 => ?_)
  · have E := (if_pos c34).symm.trans E
    refine ea_iload (pc := 204) dX12_rob_204 2 rfl ?_
    exact ea_iretO (pc := 206) dX12_rob_206 rfl rfl E
  · have E := (if_neg c34).symm.trans E
    obtain ⟨w18, Ew18, E⟩ := bd_some E
    have hsw18 : ShM w18.2 := ShM_core ((kpX12_isAboard _ _ _) _ Ew18) hs
    refine ea_aload_n (pc := 113) dX12_rob_113 rfl 0 rfl ?_
    refine ea_iload (pc := 114) dX12_rob_114 3 rfl ?_
    refine ea_iload_n (pc := 116) dX12_rob_116 rfl 1 rfl ?_
    refine ea_callV (pc := 117) (d' := d - 1) (As := [vI x6, vI x3]) (st := []) dX12_rob_117 kX12_isAboard (sX12_isAboard (d := d - 1) (by omega) hs Ew18) (by omega) rfl (Nat.le_of_ble_eq_true rfl) ew_2124 ew_2126 ew_102 (ci := 12) rfl (by decide) (cShM_326 hs).1 (cShM_326 hs).2.1 ?_
    refine ea_if_eq (pc := 120) (tgt := 198) dX12_rob_120 rfl (fun c33 => ?_) (fun c33 => ?_)
    · have E := (if_pos c33).symm.trans E
      refine ea_iinc (pc := 198) (v := 1) (lv' := [(0, vR (some 326)), (3, vI x3), (5, vI x5), (6, vI (x6 + (1 : Int32)))]) dX12_rob_198 3 rfl rfl (Nat.le_of_ble_eq_true rfl) [1, 2, 3, 0] rfl ?_
      refine ea_goto (pc := 201) (tgt := 104) dX12_rob_201 rfl ?_
      exact (kJ104 (x3 : Int32) (x5 : Int32) ((x6 + (1 : Int32)) : Int32) w18.2 _ _ E hsw18)
    · have E := (if_neg c33).symm.trans E
      obtain ⟨z19, E⟩ := gd_some E
      refine ea_aload_n (pc := 123) dX12_rob_123 rfl 0 rfl ?_
      refine ea_getR (pc := 124) dX12_rob_124 ec_12 (k := 87) (Nat.le_of_ble_eq_true rfl) rfl (Or.inl ew_1489) (cShM_326 hsw18).1 (cShM_326 hsw18).2.1 (rShM_326_87 hsw18) ?_
      refine ea_iload (pc := 127) dX12_rob_127 3 rfl ?_
      refine ea_zald (pc := 129) dX12_rob_129 (cShM_387 hsw18).1 (cShM_387 hsw18).2.1 (ea_vpl (cShM_387 hsw18).2.2 z19) ?_
      refine ea_if_ne (pc := 130) (tgt := 136) dX12_rob_130 rfl (fun c32 => ?_) (fun c32 => ?_)
      · have E := (if_neg c32).symm.trans E
        obtain ⟨z20, E⟩ := gd_some E
        refine ea_aload_n (pc := 136) dX12_rob_136 rfl 0 rfl ?_
        refine ea_getR (pc := 137) dX12_rob_137 ec_12 (k := 105) (Nat.le_of_ble_eq_true rfl) rfl (Or.inl ew_1507) (cShM_326 hsw18).1 (cShM_326 hsw18).2.1 (rShM_326_105 hsw18) ?_
        refine ea_bipush (pc := 140) dX12_rob_140 (v := 120) rfl ?_
        refine ea_iload (pc := 142) dX12_rob_142 2 rfl ?_
        refine ea_imul (pc := 144) dX12_rob_144 ?_
        refine ea_aload_n (pc := 145) dX12_rob_145 rfl 0 rfl ?_
        refine ea_getR (pc := 146) dX12_rob_146 ec_12 (k := 103) (Nat.le_of_ble_eq_true rfl) rfl (Or.inl ew_1505) (cShM_326 hsw18).1 (cShM_326 hsw18).2.1 (rShM_326_103 hsw18) ?_
        refine ea_iload (pc := 149) dX12_rob_149 2 rfl ?_
        obtain ⟨z21, E⟩ := gd_some E
        refine ea_iald (pc := 151) dX12_rob_151 (cShM_401 hsw18).1 (cShM_401 hsw18).2.1 (ea_vpl (cShM_401 hsw18).2.2 z20) ?_
        refine ea_iadd (pc := 152) dX12_rob_152 ?_
        refine ea_iload (pc := 153) dX12_rob_153 3 rfl ?_
        obtain ⟨H22, eH22, E⟩ := let_some E
        refine ea_iast (pc := 155) dX12_rob_155 (cShM_403 hsw18).1 (cShM_403 hsw18).2.1 (ea_vpl (cShM_403 hsw18).2.2 z21) ?_
        refine ea_nm eH22 ?_
        have hsH22 : ShM H22 := by rw [eH22]; exact hsw18
        obtain ⟨z23, E⟩ := gd_some E
        refine ea_aload_n (pc := 156) dX12_rob_156 rfl 0 rfl ?_
        refine ea_getR (pc := 157) dX12_rob_157 ec_12 (k := 103) (Nat.le_of_ble_eq_true rfl) rfl (Or.inl ew_1505) (cShM_326 hsH22).1 (cShM_326 hsH22).2.1 (rShM_326_103 hsH22) ?_
        refine ea_iload (pc := 160) dX12_rob_160 2 rfl ?_
        refine ea_dup2 (pc := 162) dX12_rob_162 rfl rfl ?_
        obtain ⟨z24, E⟩ := gd_some E
        refine ea_iald (pc := 163) dX12_rob_163 (cShM_401 hsH22).1 (cShM_401 hsH22).2.1 (ea_vpl (cShM_401 hsH22).2.2 z23) ?_
        refine ea_iconst (pc := 164) dX12_rob_164 (v := 1) rfl ?_
        refine ea_iadd (pc := 165) dX12_rob_165 ?_
        obtain ⟨H25, eH25, E⟩ := let_some E
        refine ea_iast (pc := 166) dX12_rob_166 (cShM_401 hsH22).1 (cShM_401 hsH22).2.1 (ea_vpl (cShM_401 hsH22).2.2 z24) ?_
        refine ea_nm eH25 ?_
        have hsH25 : ShM H25 := by rw [eH25]; exact hsH22
        obtain ⟨z26, E⟩ := gd_some E
        refine ea_aload_n (pc := 167) dX12_rob_167 rfl 0 rfl ?_
        refine ea_getR (pc := 168) dX12_rob_168 ec_12 (k := 104) (Nat.le_of_ble_eq_true rfl) rfl (Or.inl ew_1506) (cShM_326 hsH25).1 (cShM_326 hsH25).2.1 (rShM_326_104 hsH25) ?_
        refine ea_iload (pc := 171) dX12_rob_171 2 rfl ?_
        refine ea_dup2 (pc := 173) dX12_rob_173 rfl rfl ?_
        obtain ⟨w27, Ew27, E⟩ := bd_some E
        have hsw27 : ShM w27.2 := ShM_core ((kpX12_owed _ _) _ Ew27) hsH25
        refine ea_iald (pc := 174) dX12_rob_174 (cShM_402 hsH25).1 (cShM_402 hsH25).2.1 (ea_vpl (cShM_402 hsH25).2.2 z26) ?_
        refine ea_aload_n (pc := 175) dX12_rob_175 rfl 0 rfl ?_
        refine ea_iload (pc := 176) dX12_rob_176 3 rfl ?_
        refine ea_callV (pc := 178) (d' := d - 1) (As := [vI x6]) (st := [vI (ea_i H25 402 (Int32.toNatClampNeg x5)), vI x5, vR (some 402)]) dX12_rob_178 kX12_owed (sX12_owed (d := d - 1) (by omega) hsH25 Ew27) (by omega) rfl (Nat.le_of_ble_eq_true rfl) ew_2084 ew_2086 ew_97 (ci := 12) rfl (by decide) (cShM_326 hsH25).1 (cShM_326 hsH25).2.1 ?_
        obtain ⟨z28, E⟩ := gd_some E
        refine ea_iadd (pc := 181) dX12_rob_181 ?_
        obtain ⟨H29, eH29, E⟩ := let_some E
        refine ea_iast (pc := 182) dX12_rob_182 (cShM_402 hsw27).1 (cShM_402 hsw27).2.1 (ea_vpl (cShM_402 hsw27).2.2 z28) ?_
        refine ea_nm eH29 ?_
        have hsH29 : ShM H29 := by rw [eH29]; exact hsw27
        obtain ⟨w30, Ew30, E⟩ := bd_some E
        have hsw30 : ShM w30.2 := ShM_core ((kpX12_code _ _) _ Ew30) hsH29
        refine ea_aload_n (pc := 183) dX12_rob_183 rfl 0 rfl ?_
        refine ea_iload (pc := 184) dX12_rob_184 3 rfl ?_
        refine ea_aload_n (pc := 186) dX12_rob_186 rfl 0 rfl ?_
        refine ea_getI (pc := 187) dX12_rob_187 ec_12 (k := 0) (Nat.le_of_ble_eq_true rfl) rfl (Or.inl ew_1402) (cShM_326 hsH29).1 (cShM_326 hsH29).2.1 ?_
        refine ea_iconst (pc := 190) dX12_rob_190 (v := 4) rfl ?_
        refine ea_iload_n (pc := 191) dX12_rob_191 rfl 1 rfl ?_
        refine ea_callS (pc := 192) (d' := d - 1) (As := [vI x3]) (st := [vI 4, vI (ea_i H29 326 0), vI x6, vR (some 326)]) dX12_rob_192 kX12_code (sX12_code (d := d - 1) (by omega) Ew30) (by omega) rfl (Nat.le_of_ble_eq_true rfl) ew_2128 ew_2129 ?_
        obtain ⟨w31, Ew31, E⟩ := bd_some E
        have hsw31 : ShM w31.2 := ShM_core ((kpX12_turns _ _ _ _ _) _ Ew31) hsw30
        refine ea_callV (pc := 195) (d' := d - 1) (As := [vI x6, vI (ea_i H29 326 0), vI 4, vI w30.1]) (st := []) dX12_rob_195 kX12_turns (sX12_turns (d := d - 1) (by omega) hsw30 Ew31) (by omega) rfl (Nat.le_of_ble_eq_true rfl) ew_2068 ew_2070 ew_95 (ci := 12) rfl (by decide) (cShM_326 hsw30).1 (cShM_326 hsw30).2.1 ?_
        refine ea_iinc (pc := 198) (v := 1) (lv' := [(0, vR (some 326)), (3, vI x3), (5, vI x5), (6, vI (x6 + (1 : Int32)))]) dX12_rob_198 3 rfl rfl (Nat.le_of_ble_eq_true rfl) [1, 2, 3, 0] rfl ?_
        refine ea_goto (pc := 201) (tgt := 104) dX12_rob_201 rfl ?_
        exact (kJ104 (x3 : Int32) (x5 : Int32) ((x6 + (1 : Int32)) : Int32) w31.2 _ _ E hsw31)
      · have E := (if_pos c32).symm.trans E
        refine ea_goto (pc := 133) (tgt := 198) dX12_rob_133 rfl ?_
        refine ea_iinc (pc := 198) (v := 1) (lv' := [(0, vR (some 326)), (3, vI x3), (5, vI x5), (6, vI (x6 + (1 : Int32)))]) dX12_rob_198 3 rfl rfl (Nat.le_of_ble_eq_true rfl) [1, 2, 3, 0] rfl ?_
        refine ea_goto (pc := 201) (tgt := 104) dX12_rob_201 rfl ?_
        exact (kJ104 (x3 : Int32) (x5 : Int32) ((x6 + (1 : Int32)) : Int32) w18.2 _ _ E hsw18)
theorem kBX12_rob_104 {J104 : Int32 → Int32 → Int32 → ea_H → Option (Int32 × ea_H)}  (cJ104 : ∀ (x3 : Int32) (x5 : Int32) (x6 : Int32) (h : ea_H), kp (ea_core h) (J104 x3 x5 x6 h)) {x3 : Int32} {x5 : Int32} {x6 : Int32} {h : ea_H} : kp (ea_core h) (BX12_rob_104 J104 x3 x5 x6 h) :=
  (kp_ite (kp_ret rfl) (kp_bind (kp_tw (kpX12_isAboard _ _ _) rfl) fun w18 hcw18 => (kp_ite (kp_tw (cJ104 _ _ _ _) hcw18) (kp_gd (kp_ite (kp_tw (cJ104 _ _ _ _) hcw18) (kp_gd (kp_gd (kp_let (kp_gd (kp_gd (kp_let (kp_gd (kp_bind (kp_tw (kpX12_owed _ _) hcw18) fun w27 hcw27 => (kp_gd (kp_let (kp_bind (kp_tw (kpX12_code _ _) hcw27) fun w30 hcw30 => (kp_bind (kp_tw (kpX12_turns _ _ _ _ _) hcw30) fun w31 hcw31 => (kp_tw (cJ104 _ _ _ _) hcw31))))))))))))))))))
theorem lBX12_rob_104 {J104 : Int32 → Int32 → Int32 → ea_H → Option (Int32 × ea_H)} {J104_ : Int32 → Int32 → Int32 → ea_H → Option (Int32 × ea_H)}  (mJ104 : ∀ (x3 : Int32) (x5 : Int32) (x6 : Int32) (h : ea_H), fle (J104 x3 x5 x6 h) (J104_ x3 x5 x6 h)) {x3 : Int32} {x5 : Int32} {x6 : Int32} {h : ea_H} : fle (BX12_rob_104 J104 x3 x5 x6 h) (BX12_rob_104 J104_ x3 x5 x6 h) :=
  (fle_ite (fle_rfl _) (fle_bind (fle_rfl _) fun _ => (fle_ite (mJ104 _ _ _ _) (fle_gd (fle_ite (mJ104 _ _ _ _) (fle_gd (fle_gd (fle_let fun _ => (fle_gd (fle_gd (fle_let fun _ => (fle_gd (fle_bind (fle_rfl _) fun _ => (fle_gd (fle_let fun _ => (fle_bind (fle_rfl _) fun _ => (fle_bind (fle_rfl _) fun _ => (mJ104 _ _ _ _))))))))))))))))))
theorem nBX12_rob_104 {J104 : Int32 → Int32 → Int32 → ea_H → Option (Int32 × ea_H)} {J104_ : Nat → (Int32 → Int32 → Int32 → ea_H → Option (Int32 × ea_H))}  (mJ104 : ∀ (x3 : Int32) (x5 : Int32) (x6 : Int32) (h : ea_H), fct (J104 x3 x5 x6 h) (fun f => J104_ f x3 x5 x6 h)) {x3 : Int32} {x5 : Int32} {x6 : Int32} {h : ea_H} : fct (BX12_rob_104 J104 x3 x5 x6 h) (fun f => BX12_rob_104 (J104_ f) x3 x5 x6 h) :=
  (fct_ite (fct_rfl _) (fct_bind (fct_rfl _) fun _ => (fct_ite (mJ104 _ _ _ _) (fct_gd (fct_ite (mJ104 _ _ _ _) (fct_gd (fct_gd (fct_let fun _ => (fct_gd (fct_gd (fct_let fun _ => (fct_gd (fct_bind (fct_rfl _) fun _ => (fct_gd (fct_let fun _ => (fct_bind (fct_rfl _) fun _ => (fct_bind (fct_rfl _) fun _ => (mJ104 _ _ _ _))))))))))))))))))
noncomputable def gX12_rob : Nat → (Int32 → Int32 → ea_H → Option (Int32 × ea_H)) × (Int32 → Int32 → Int32 → ea_H → Option (Int32 × ea_H))
  | 0 => (fun _ _ _ => none, fun _ _ _ _ => none)
  | f + 1 => (BX12_rob_0 (gX12_rob f).2, BX12_rob_104 (gX12_rob f).2)
theorem mgX12_rob : ∀ f : Nat, (∀ (x1 : Int32) (x2 : Int32) (h : ea_H), fle ((gX12_rob f).1 x1 x2 h) ((gX12_rob (f + 1)).1 x1 x2 h)) ∧ (∀ (x3 : Int32) (x5 : Int32) (x6 : Int32) (h : ea_H), fle ((gX12_rob f).2 x3 x5 x6 h) ((gX12_rob (f + 1)).2 x3 x5 x6 h)) := by
  intro f
  induction f with
  | zero => exact ⟨fun _ _ _ => fle_none _, fun _ _ _ _ => fle_none _⟩
  | succ f ih => exact ⟨fun _ _ _ => lBX12_rob_0 ih.2, fun _ _ _ _ => lBX12_rob_104 ih.2⟩
noncomputable def qX12_rob_0 (x1 : Int32) (x2 : Int32) (h : ea_H) : Option (Int32 × ea_H) := flim fun f => (gX12_rob f).1 x1 x2 h
noncomputable def qX12_rob_104 (x3 : Int32) (x5 : Int32) (x6 : Int32) (h : ea_H) : Option (Int32 × ea_H) := flim fun f => (gX12_rob f).2 x3 x5 x6 h
theorem fqX12_rob_0 (x1 : Int32) (x2 : Int32) (h : ea_H) : fct (qX12_rob_0 x1 x2 h) fun f => (gX12_rob f).1 x1 x2 h := flim_ct fun f => (mgX12_rob f).1 x1 x2 h
theorem fqX12_rob_104 (x3 : Int32) (x5 : Int32) (x6 : Int32) (h : ea_H) : fct (qX12_rob_104 x3 x5 x6 h) fun f => (gX12_rob f).2 x3 x5 x6 h := flim_ct fun f => (mgX12_rob f).2 x3 x5 x6 h
/-- how a block opens -/
theorem uqX12_rob_0 {x1 : Int32} {x2 : Int32} {h : ea_H} {P : Int32 × ea_H → Prop} (H : sat (BX12_rob_0 qX12_rob_104 x1 x2 h) P) : sat (qX12_rob_0 x1 x2 h) P := by
  obtain ⟨x, e, hp⟩ := H
  obtain ⟨n, hn⟩ := nBX12_rob_0 fqX12_rob_104 x e
  exact ⟨x, flim_at (fun f => (mgX12_rob f).1 x1 x2 h) (f := n + 1) (hn n (Nat.le_refl _)), hp⟩
/-- how a block opens -/
theorem uqX12_rob_104 {x3 : Int32} {x5 : Int32} {x6 : Int32} {h : ea_H} {P : Int32 × ea_H → Prop} (H : sat (BX12_rob_104 qX12_rob_104 x3 x5 x6 h) P) : sat (qX12_rob_104 x3 x5 x6 h) P := by
  obtain ⟨x, e, hp⟩ := H
  obtain ⟨n, hn⟩ := nBX12_rob_104 fqX12_rob_104 x e
  exact ⟨x, flim_at (fun f => (mgX12_rob f).2 x3 x5 x6 h) (f := n + 1) (hn n (Nat.le_refl _)), hp⟩
theorem kgX12_rob : ∀ f : Nat, (∀ (x1 : Int32) (x2 : Int32) (h : ea_H), kp (ea_core h) ((gX12_rob f).1 x1 x2 h)) ∧ (∀ (x3 : Int32) (x5 : Int32) (x6 : Int32) (h : ea_H), kp (ea_core h) ((gX12_rob f).2 x3 x5 x6 h)) := by
  intro f
  induction f with
  | zero => exact ⟨fun _ _ _ => kp_none _, fun _ _ _ _ => kp_none _⟩
  | succ f ih => exact ⟨fun _ _ _ => kBX12_rob_0 ih.2, fun _ _ _ _ => kBX12_rob_104 ih.2⟩
theorem tgX12_rob {d : Nat} {h0 : ea_H} (hd : 3 ≤ d) : ∀ f : Nat, (∀ (x1 : Int32) (x2 : Int32) (h : ea_H) (r : Int32) (h' : ea_H), (gX12_rob f).1 x1 x2 h = some (r, h') → ShM h → ea_W mX12_rob d h0 (some (vI r)) h' 0 [(0, vR (some 326)), (1, vI x1), (2, vI x2)] [] h) ∧ (∀ (x3 : Int32) (x5 : Int32) (x6 : Int32) (h : ea_H) (r : Int32) (h' : ea_H), (gX12_rob f).2 x3 x5 x6 h = some (r, h') → ShM h → ea_W mX12_rob d h0 (some (vI r)) h' 104 [(0, vR (some 326)), (3, vI x3), (5, vI x5), (6, vI x6)] [] h) := by
  intro f
  induction f with
  | zero => exact ⟨fun _ _ _ _ _ E => no_some E, fun _ _ _ _ _ _ E => no_some E⟩
  | succ f ih => exact ⟨fun _ _ _ _ _ E hs => tBX12_rob_0 hd ih.2 E hs, fun _ _ _ _ _ _ E hs => tBX12_rob_104 hd ih.2 E hs⟩
noncomputable def qX12_rob (x1 : Int32) (x2 : Int32) (h : ea_H) : Option (Int32 × ea_H) := qX12_rob_0 x1 x2 h
theorem sX12_rob {d : Nat} {x1 : Int32} {x2 : Int32} {h : ea_H} {r : Int32} {h' : ea_H} (hd : 3 ≤ d) (hs : ShM h) (K : qX12_rob x1 x2 h = some (r, h')) : ea_Met mX12_rob d [vR (some 326), vI x1, vI x2] h (some (vI r)) h' := by
  unfold qX12_rob at K
  obtain ⟨n, hn⟩ := fqX12_rob_0 x1 x2 h _ K
  have W := (tgX12_rob (d := d) (h0 := h) hd n).1 x1 x2 h _ _ (hn n (Nat.le_refl _)) hs
  exact ea_enter rfl (Nat.le_of_ble_eq_true rfl) W
theorem kpX12_rob (x1 : Int32) (x2 : Int32) (h : ea_H) : kp (ea_core h) (qX12_rob x1 x2 h) := fun x e => by
  obtain ⟨n, hn⟩ := fqX12_rob_0 x1 x2 h x e
  exact (kgX12_rob n).1 x1 x2 h x (hn n (Nat.le_refl _))
noncomputable def BX12_robbery_0 (x1 : Int32) (x2 : Int32) (h : ea_H) : Option (Int32 × ea_H) :=
  (Option.bind (qX12_isIn (x1 : Int32) (0 : Int32) (((ea_i h 326 100) - (1 : Int32)) : Int32) h) fun w1 => (if w1.1 = (0 : Int32) then (some (((-1) : Int32), w1.2)) else (if Int32.toInt x2 = 0 then (gd (vp_in x1 20) (some ((ea_i w1.2 399 (Int32.toNatClampNeg x1)), w1.2))) else (if Int32.toInt x2 = 1 then (gd (vp_in x1 20) (some ((ea_i w1.2 400 (Int32.toNatClampNeg x1)), w1.2))) else (if Int32.toInt x2 = 2 then (gd (vp_in x1 20) (some ((ea_i w1.2 401 (Int32.toNatClampNeg x1)), w1.2))) else (if Int32.toInt x2 = 3 then (gd (vp_in x1 20) (some ((ea_i w1.2 402 (Int32.toNatClampNeg x1)), w1.2))) else (gd (vp_in x1 20) (Option.bind (qX12_isIn (x2 : Int32) (10 : Int32) (((9 : Int32) + (ea_i w1.2 401 (Int32.toNatClampNeg x1))) : Int32) w1.2) fun w3 => (if w3.1 = (0 : Int32) then (some (((-1) : Int32), w3.2)) else (gd (vp_in ((((120 : Int32) * x1) + x2) - (10 : Int32)) 2400) (some ((ea_i w3.2 403 (Int32.toNatClampNeg ((((120 : Int32) * x1) + x2) - (10 : Int32)))), w3.2))))))))))))
theorem tBX12_robbery_0 {d : Nat} {h0 : ea_H} (hd : 2 ≤ d)  {x1 : Int32} {x2 : Int32} {h : ea_H} {r : Int32} {h' : ea_H} (E : BX12_robbery_0 x1 x2 h = some (r, h')) (hs : ShM h) : ea_W mX12_robbery d h0 (some (vI r)) h' 0 [(0, vR (some 326)), (1, vI x1), (2, vI x2)] [] h := by
  unfold BX12_robbery_0 at E
  obtain ⟨w1, Ew1, E⟩ := bd_some E
  have hsw1 : ShM w1.2 := ShM_core ((kpX12_isIn _ _ _ _) _ Ew1) hs
  refine ea_iload_n (pc := 0) dX12_robbery_0 rfl 1 rfl ?_
  refine ea_iconst (pc := 1) dX12_robbery_1 (v := 0) rfl ?_
  refine ea_aload_n (pc := 2) dX12_robbery_2 rfl 0 rfl ?_
  refine ea_getI (pc := 3) dX12_robbery_3 ec_12 (k := 100) (Nat.le_of_ble_eq_true rfl) rfl (Or.inl ew_1502) (cShM_326 hs).1 (cShM_326 hs).2.1 ?_
  refine ea_iconst (pc := 6) dX12_robbery_6 (v := 1) rfl ?_
  refine ea_isub (pc := 7) dX12_robbery_7 ?_
  refine ea_callS (pc := 8) (d' := d - 1) (As := [vI x1, vI 0, vI ((ea_i h 326 100) - (1 : Int32))]) (st := []) dX12_robbery_8 kX12_isIn (sX12_isIn (d := d - 1) (by omega) Ew1) (by omega) rfl (Nat.le_of_ble_eq_true rfl) ew_1769 ew_1770 ?_
  refine ea_if_ne (pc := 11) (tgt := 16) dX12_robbery_11 rfl (fun c10 => ?_) (fun c10 => ?_)
  · have E := (if_neg c10).symm.trans E
    refine ea_iload_n (pc := 16) dX12_robbery_16 rfl 2 rfl ?_
    by_cases q17_0 : Int32.toInt x2 = 0
    · have E := (if_pos q17_0).symm.trans E
      obtain ⟨z9, E⟩ := gd_some E
      refine ea_tswIn (pc := 17) (tgt := 48) dX12_robbery_17 (by rw [q17_0]; decide) (by rw [q17_0]; decide) (by rw [q17_0]; rfl) rfl ?_
      refine ea_aload_n (pc := 48) dX12_robbery_48 rfl 0 rfl ?_
      refine ea_getR (pc := 49) dX12_robbery_49 ec_12 (k := 101) (Nat.le_of_ble_eq_true rfl) rfl (Or.inl ew_1503) (cShM_326 hsw1).1 (cShM_326 hsw1).2.1 (rShM_326_101 hsw1) ?_
      refine ea_iload_n (pc := 52) dX12_robbery_52 rfl 1 rfl ?_
      refine ea_iald (pc := 53) dX12_robbery_53 (cShM_399 hsw1).1 (cShM_399 hsw1).2.1 (ea_vpl (cShM_399 hsw1).2.2 z9) ?_
      exact ea_iretO (pc := 54) dX12_robbery_54 rfl rfl E
    have E := (if_neg q17_0).symm.trans E
    by_cases q17_1 : Int32.toInt x2 = 1
    · have E := (if_pos q17_1).symm.trans E
      obtain ⟨z8, E⟩ := gd_some E
      refine ea_tswIn (pc := 17) (tgt := 55) dX12_robbery_17 (by rw [q17_1]; decide) (by rw [q17_1]; decide) (by rw [q17_1]; rfl) rfl ?_
      refine ea_aload_n (pc := 55) dX12_robbery_55 rfl 0 rfl ?_
      refine ea_getR (pc := 56) dX12_robbery_56 ec_12 (k := 102) (Nat.le_of_ble_eq_true rfl) rfl (Or.inl ew_1504) (cShM_326 hsw1).1 (cShM_326 hsw1).2.1 (rShM_326_102 hsw1) ?_
      refine ea_iload_n (pc := 59) dX12_robbery_59 rfl 1 rfl ?_
      refine ea_iald (pc := 60) dX12_robbery_60 (cShM_400 hsw1).1 (cShM_400 hsw1).2.1 (ea_vpl (cShM_400 hsw1).2.2 z8) ?_
      exact ea_iretO (pc := 61) dX12_robbery_61 rfl rfl E
    have E := (if_neg q17_1).symm.trans E
    by_cases q17_2 : Int32.toInt x2 = 2
    · have E := (if_pos q17_2).symm.trans E
      obtain ⟨z7, E⟩ := gd_some E
      refine ea_tswIn (pc := 17) (tgt := 62) dX12_robbery_17 (by rw [q17_2]; decide) (by rw [q17_2]; decide) (by rw [q17_2]; rfl) rfl ?_
      refine ea_aload_n (pc := 62) dX12_robbery_62 rfl 0 rfl ?_
      refine ea_getR (pc := 63) dX12_robbery_63 ec_12 (k := 103) (Nat.le_of_ble_eq_true rfl) rfl (Or.inl ew_1505) (cShM_326 hsw1).1 (cShM_326 hsw1).2.1 (rShM_326_103 hsw1) ?_
      refine ea_iload_n (pc := 66) dX12_robbery_66 rfl 1 rfl ?_
      refine ea_iald (pc := 67) dX12_robbery_67 (cShM_401 hsw1).1 (cShM_401 hsw1).2.1 (ea_vpl (cShM_401 hsw1).2.2 z7) ?_
      exact ea_iretO (pc := 68) dX12_robbery_68 rfl rfl E
    have E := (if_neg q17_2).symm.trans E
    by_cases q17_3 : Int32.toInt x2 = 3
    · have E := (if_pos q17_3).symm.trans E
      obtain ⟨z6, E⟩ := gd_some E
      refine ea_tswIn (pc := 17) (tgt := 69) dX12_robbery_17 (by rw [q17_3]; decide) (by rw [q17_3]; decide) (by rw [q17_3]; rfl) rfl ?_
      refine ea_aload_n (pc := 69) dX12_robbery_69 rfl 0 rfl ?_
      refine ea_getR (pc := 70) dX12_robbery_70 ec_12 (k := 104) (Nat.le_of_ble_eq_true rfl) rfl (Or.inl ew_1506) (cShM_326 hsw1).1 (cShM_326 hsw1).2.1 (rShM_326_104 hsw1) ?_
      refine ea_iload_n (pc := 73) dX12_robbery_73 rfl 1 rfl ?_
      refine ea_iald (pc := 74) dX12_robbery_74 (cShM_402 hsw1).1 (cShM_402 hsw1).2.1 (ea_vpl (cShM_402 hsw1).2.2 z6) ?_
      exact ea_iretO (pc := 75) dX12_robbery_75 rfl rfl E
    have E := (if_neg q17_3).symm.trans E
    obtain ⟨z2, E⟩ := gd_some E
    refine ea_tswOut (pc := 17) (tgt := 76) dX12_robbery_17 (ea_sw_0_3 q17_0 q17_1 q17_2 q17_3) rfl ?_
    refine ea_iload_n (pc := 76) dX12_robbery_76 rfl 2 rfl ?_
    refine ea_bipush (pc := 77) dX12_robbery_77 (v := 10) rfl ?_
    refine ea_bipush (pc := 79) dX12_robbery_79 (v := 9) rfl ?_
    refine ea_aload_n (pc := 81) dX12_robbery_81 rfl 0 rfl ?_
    refine ea_getR (pc := 82) dX12_robbery_82 ec_12 (k := 103) (Nat.le_of_ble_eq_true rfl) rfl (Or.inl ew_1505) (cShM_326 hsw1).1 (cShM_326 hsw1).2.1 (rShM_326_103 hsw1) ?_
    refine ea_iload_n (pc := 85) dX12_robbery_85 rfl 1 rfl ?_
    obtain ⟨w3, Ew3, E⟩ := bd_some E
    have hsw3 : ShM w3.2 := ShM_core ((kpX12_isIn _ _ _ _) _ Ew3) hsw1
    refine ea_iald (pc := 86) dX12_robbery_86 (cShM_401 hsw1).1 (cShM_401 hsw1).2.1 (ea_vpl (cShM_401 hsw1).2.2 z2) ?_
    refine ea_iadd (pc := 87) dX12_robbery_87 ?_
    refine ea_callS (pc := 88) (d' := d - 1) (As := [vI x2, vI 10, vI ((9 : Int32) + (ea_i w1.2 401 (Int32.toNatClampNeg x1)))]) (st := []) dX12_robbery_88 kX12_isIn (sX12_isIn (d := d - 1) (by omega) Ew3) (by omega) rfl (Nat.le_of_ble_eq_true rfl) ew_1769 ew_1770 ?_
    refine ea_if_eq (pc := 91) (tgt := 111) dX12_robbery_91 rfl (fun c5 => ?_) (fun c5 => ?_)
    · have E := (if_pos c5).symm.trans E
      refine ea_iconst (pc := 111) dX12_robbery_111 (v := (-1)) rfl ?_
      exact ea_iretO (pc := 112) dX12_robbery_112 rfl rfl E
    · have E := (if_neg c5).symm.trans E
      obtain ⟨z4, E⟩ := gd_some E
      refine ea_aload_n (pc := 94) dX12_robbery_94 rfl 0 rfl ?_
      refine ea_getR (pc := 95) dX12_robbery_95 ec_12 (k := 105) (Nat.le_of_ble_eq_true rfl) rfl (Or.inl ew_1507) (cShM_326 hsw3).1 (cShM_326 hsw3).2.1 (rShM_326_105 hsw3) ?_
      refine ea_bipush (pc := 98) dX12_robbery_98 (v := 120) rfl ?_
      refine ea_iload_n (pc := 100) dX12_robbery_100 rfl 1 rfl ?_
      refine ea_imul (pc := 101) dX12_robbery_101 ?_
      refine ea_iload_n (pc := 102) dX12_robbery_102 rfl 2 rfl ?_
      refine ea_iadd (pc := 103) dX12_robbery_103 ?_
      refine ea_bipush (pc := 104) dX12_robbery_104 (v := 10) rfl ?_
      refine ea_isub (pc := 106) dX12_robbery_106 ?_
      refine ea_iald (pc := 107) dX12_robbery_107 (cShM_403 hsw3).1 (cShM_403 hsw3).2.1 (ea_vpl (cShM_403 hsw3).2.2 z4) ?_
      refine ea_goto (pc := 108) (tgt := 112) dX12_robbery_108 rfl ?_
      exact ea_iretO (pc := 112) dX12_robbery_112 rfl rfl E
  · have E := (if_pos c10).symm.trans E
    refine ea_iconst (pc := 14) dX12_robbery_14 (v := (-1)) rfl ?_
    exact ea_iretO (pc := 15) dX12_robbery_15 rfl rfl E
theorem kBX12_robbery_0  {x1 : Int32} {x2 : Int32} {h : ea_H} : kp (ea_core h) (BX12_robbery_0 x1 x2 h) :=
  (kp_bind (kp_tw (kpX12_isIn _ _ _ _) rfl) fun w1 hcw1 => (kp_ite (kp_ret hcw1) (kp_ite (kp_gd (kp_ret hcw1)) (kp_ite (kp_gd (kp_ret hcw1)) (kp_ite (kp_gd (kp_ret hcw1)) (kp_ite (kp_gd (kp_ret hcw1)) (kp_gd (kp_bind (kp_tw (kpX12_isIn _ _ _ _) hcw1) fun w3 hcw3 => (kp_ite (kp_ret hcw3) (kp_gd (kp_ret hcw3)))))))))))
noncomputable def qX12_robbery (x1 : Int32) (x2 : Int32) (h : ea_H) : Option (Int32 × ea_H) := BX12_robbery_0 x1 x2 h
theorem sX12_robbery {d : Nat} {x1 : Int32} {x2 : Int32} {h : ea_H} {r : Int32} {h' : ea_H} (hd : 2 ≤ d) (hs : ShM h) (K : qX12_robbery x1 x2 h = some (r, h')) : ea_Met mX12_robbery d [vR (some 326), vI x1, vI x2] h (some (vI r)) h' := by
  unfold qX12_robbery at K
  have W := tBX12_robbery_0 hd (h0 := h) K hs
  exact ea_enter rfl (Nat.le_of_ble_eq_true rfl) W
theorem kpX12_robbery (x1 : Int32) (x2 : Int32) (h : ea_H) : kp (ea_core h) (qX12_robbery x1 x2 h) := kBX12_robbery_0
noncomputable def BX12_set_0 (x1 : Int32) (h : ea_H) : Option (Int32 × ea_H) :=
  (Option.bind (qX12_isTrain (x1 : Int32) h) fun w1 => (if w1.1 = (0 : Int32) then (some ((0 : Int32), w1.2)) else (gd (vp_in x1 10) (ea_let (ea_wi w1.2 406 (Int32.toNatClampNeg x1) (ea_i w1.2 326 0)) fun H3 => (some ((1 : Int32), H3))))))
theorem tBX12_set_0 {d : Nat} {h0 : ea_H} (hd : 3 ≤ d)  {x1 : Int32} {h : ea_H} {r : Int32} {h' : ea_H} (E : BX12_set_0 x1 h = some (r, h')) (hs : ShM h) : ea_W mX12_set d h0 (some (vI r)) h' 0 [(0, vR (some 326)), (1, vI x1)] [] h := by
  unfold BX12_set_0 at E
  obtain ⟨w1, Ew1, E⟩ := bd_some E
  have hsw1 : ShM w1.2 := ShM_core ((kpX12_isTrain _ _) _ Ew1) hs
  refine ea_aload_n (pc := 0) dX12_set_0 rfl 0 rfl ?_
  refine ea_iload_n (pc := 1) dX12_set_1 rfl 1 rfl ?_
  refine ea_callV (pc := 2) (d' := d - 1) (As := [vI x1]) (st := []) dX12_set_2 kX12_isTrain (sX12_isTrain (d := d - 1) (by omega) hs Ew1) (by omega) rfl (Nat.le_of_ble_eq_true rfl) ew_1793 ew_1795 ew_57 (ci := 12) rfl (by decide) (cShM_326 hs).1 (cShM_326 hs).2.1 ?_
  refine ea_if_ne (pc := 5) (tgt := 10) dX12_set_5 rfl (fun c4 => ?_) (fun c4 => ?_)
  · have E := (if_neg c4).symm.trans E
    obtain ⟨z2, E⟩ := gd_some E
    refine ea_aload_n (pc := 10) dX12_set_10 rfl 0 rfl ?_
    refine ea_getR (pc := 11) dX12_set_11 ec_12 (k := 108) (Nat.le_of_ble_eq_true rfl) rfl (Or.inl ew_1510) (cShM_326 hsw1).1 (cShM_326 hsw1).2.1 (rShM_326_108 hsw1) ?_
    refine ea_iload_n (pc := 14) dX12_set_14 rfl 1 rfl ?_
    refine ea_aload_n (pc := 15) dX12_set_15 rfl 0 rfl ?_
    refine ea_getI (pc := 16) dX12_set_16 ec_12 (k := 0) (Nat.le_of_ble_eq_true rfl) rfl (Or.inl ew_1402) (cShM_326 hsw1).1 (cShM_326 hsw1).2.1 ?_
    obtain ⟨H3, eH3, E⟩ := let_some E
    refine ea_iast (pc := 19) dX12_set_19 (cShM_406 hsw1).1 (cShM_406 hsw1).2.1 (ea_vpl (cShM_406 hsw1).2.2 z2) ?_
    refine ea_nm eH3 ?_
    have hsH3 : ShM H3 := by rw [eH3]; exact hsw1
    refine ea_iconst (pc := 20) dX12_set_20 (v := 1) rfl ?_
    exact ea_iretO (pc := 21) dX12_set_21 rfl (ea_bn (Or.inr rfl)) E
  · have E := (if_pos c4).symm.trans E
    refine ea_iconst (pc := 8) dX12_set_8 (v := 0) rfl ?_
    exact ea_iretO (pc := 9) dX12_set_9 rfl (ea_bn (Or.inl rfl)) E
theorem kBX12_set_0  {x1 : Int32} {h : ea_H} : kp (ea_core h) (BX12_set_0 x1 h) :=
  (kp_bind (kp_tw (kpX12_isTrain _ _) rfl) fun w1 hcw1 => (kp_ite (kp_ret hcw1) (kp_gd (kp_let (kp_ret hcw1)))))
noncomputable def qX12_set (x1 : Int32) (h : ea_H) : Option (Int32 × ea_H) := BX12_set_0 x1 h
theorem sX12_set {d : Nat} {x1 : Int32} {h : ea_H} {r : Int32} {h' : ea_H} (hd : 3 ≤ d) (hs : ShM h) (K : qX12_set x1 h = some (r, h')) : ea_Met mX12_set d [vR (some 326), vI x1] h (some (vI r)) h' := by
  unfold qX12_set at K
  have W := tBX12_set_0 hd (h0 := h) K hs
  exact ea_enter rfl (Nat.le_of_ble_eq_true rfl) W
theorem kpX12_set (x1 : Int32) (h : ea_H) : kp (ea_core h) (qX12_set x1 h) := kBX12_set_0
noncomputable def BX12_shows_0 (x1 : Int32) (x2 : Int32) (x3 : Int32) (h : ea_H) : Option (Int32 × ea_H) :=
  (gd (vp_in x1 10) (gd (vp_in x1 10) (some (((ea_i h 406 (Int32.toNatClampNeg x1)) + (Int64.toInt32 (((Int32.toInt64 (x3 - (ea_i h 406 (Int32.toNatClampNeg x1)))) * ((3600 : Int64) + (Int32.toInt64 x2))) / (3600 : Int64)))), h))))
theorem tBX12_shows_0 {d : Nat} {h0 : ea_H} (hd : 1 ≤ d)  {x1 : Int32} {x2 : Int32} {x3 : Int32} {h : ea_H} {r : Int32} {h' : ea_H} (E : BX12_shows_0 x1 x2 x3 h = some (r, h')) (hs : ShM h) : ea_W mX12_shows d h0 (some (vI r)) h' 0 [(0, vR (some 326)), (1, vI x1), (2, vI x2), (3, vI x3)] [] h := by
  unfold BX12_shows_0 at E
  obtain ⟨z1, E⟩ := gd_some E
  refine ea_aload_n (pc := 0) dX12_shows_0 rfl 0 rfl ?_
  refine ea_getR (pc := 1) dX12_shows_1 ec_12 (k := 108) (Nat.le_of_ble_eq_true rfl) rfl (Or.inl ew_1510) (cShM_326 hs).1 (cShM_326 hs).2.1 (rShM_326_108 hs) ?_
  refine ea_iload_n (pc := 4) dX12_shows_4 rfl 1 rfl ?_
  obtain ⟨z2, E⟩ := gd_some E
  refine ea_iald (pc := 5) dX12_shows_5 (cShM_406 hs).1 (cShM_406 hs).2.1 (ea_vpl (cShM_406 hs).2.2 z1) ?_
  refine ea_iload_n (pc := 6) dX12_shows_6 rfl 3 rfl ?_
  refine ea_aload_n (pc := 7) dX12_shows_7 rfl 0 rfl ?_
  refine ea_getR (pc := 8) dX12_shows_8 ec_12 (k := 108) (Nat.le_of_ble_eq_true rfl) rfl (Or.inl ew_1510) (cShM_326 hs).1 (cShM_326 hs).2.1 (rShM_326_108 hs) ?_
  refine ea_iload_n (pc := 11) dX12_shows_11 rfl 1 rfl ?_
  refine ea_iald (pc := 12) dX12_shows_12 (cShM_406 hs).1 (cShM_406 hs).2.1 (ea_vpl (cShM_406 hs).2.2 z2) ?_
  refine ea_isub (pc := 13) dX12_shows_13 ?_
  refine ea_i2l (pc := 14) dX12_shows_14 ?_
  refine ea_ldc2 (pc := 15) dX12_shows_15 ew_2211 ?_
  refine ea_iload_n (pc := 18) dX12_shows_18 rfl 2 rfl ?_
  refine ea_i2l (pc := 19) dX12_shows_19 ?_
  refine ea_ladd (pc := 20) dX12_shows_20 ?_
  refine ea_lmul (pc := 21) dX12_shows_21 ?_
  refine ea_ldc2 (pc := 22) dX12_shows_22 ew_2211 ?_
  refine ea_ldiv (pc := 25) dX12_shows_25 (by decide) ?_
  refine ea_l2i (pc := 26) dX12_shows_26 ?_
  refine ea_iadd (pc := 27) dX12_shows_27 ?_
  exact ea_iretO (pc := 28) dX12_shows_28 rfl rfl E
theorem kBX12_shows_0  {x1 : Int32} {x2 : Int32} {x3 : Int32} {h : ea_H} : kp (ea_core h) (BX12_shows_0 x1 x2 x3 h) :=
  (kp_gd (kp_gd (kp_ret rfl)))
noncomputable def qX12_shows (x1 : Int32) (x2 : Int32) (x3 : Int32) (h : ea_H) : Option (Int32 × ea_H) := BX12_shows_0 x1 x2 x3 h
theorem sX12_shows {d : Nat} {x1 : Int32} {x2 : Int32} {x3 : Int32} {h : ea_H} {r : Int32} {h' : ea_H} (hd : 1 ≤ d) (hs : ShM h) (K : qX12_shows x1 x2 x3 h = some (r, h')) : ea_Met mX12_shows d [vR (some 326), vI x1, vI x2, vI x3] h (some (vI r)) h' := by
  unfold qX12_shows at K
  have W := tBX12_shows_0 hd (h0 := h) K hs
  exact ea_enter rfl (Nat.le_of_ble_eq_true rfl) W
theorem kpX12_shows (x1 : Int32) (x2 : Int32) (x3 : Int32) (h : ea_H) : kp (ea_core h) (qX12_shows x1 x2 x3 h) := kBX12_shows_0
noncomputable def BX12_seen_0 (J44 : Int32 → Int32 → Int32 → Int32 → Int32 → ea_H → Option (Int32 × ea_H)) (x1 : Int32) (x2 : Int32) (h : ea_H) : Option (Int32 × ea_H) :=
  (Option.bind (qX12_isTrain (x1 : Int32) h) fun w1 => (if w1.1 = (0 : Int32) then (some ((0 : Int32), w1.2)) else (Option.bind (qX12_isMinute (x2 : Int32) w1.2) fun w2 => (if w2.1 = (0 : Int32) then (some ((0 : Int32), w2.2)) else (gd (vp_in x1 10) (ea_let ((ea_i w2.2 405 (Int32.toNatClampNeg x1)) + (1 : Int32)) fun (v4 : Int32) => (gd (vp_in x1 10) (ea_let ((ea_i w2.2 404 (Int32.toNatClampNeg x1)) - (1 : Int32)) fun (v6 : Int32) => (gd (vp_in x1 10) (ea_let (ea_i w2.2 404 (Int32.toNatClampNeg x1)) fun (v8 : Int32) => (J44 (x1 : Int32) (x2 : Int32) (v4 : Int32) (v6 : Int32) (v8 : Int32) w2.2)))))))))))
theorem tBX12_seen_0 {d : Nat} {h0 : ea_H} (hd : 3 ≤ d) {J44 : Int32 → Int32 → Int32 → Int32 → Int32 → ea_H → Option (Int32 × ea_H)}  (kJ44 : ∀ (x1 : Int32) (x2 : Int32) (x3 : Int32) (x4 : Int32) (x5 : Int32) (h : ea_H) (r : Int32) (h' : ea_H), J44 x1 x2 x3 x4 x5 h = some (r, h') → ShM h → ea_W mX12_seen d h0 (some (vI r)) h' 44 [(0, vR (some 326)), (1, vI x1), (2, vI x2), (3, vI x3), (4, vI x4), (5, vI x5)] [] h) {x1 : Int32} {x2 : Int32} {h : ea_H} {r : Int32} {h' : ea_H} (E : BX12_seen_0 J44 x1 x2 h = some (r, h')) (hs : ShM h) : ea_W mX12_seen d h0 (some (vI r)) h' 0 [(0, vR (some 326)), (1, vI x1), (2, vI x2)] [] h := by
  unfold BX12_seen_0 at E
  obtain ⟨w1, Ew1, E⟩ := bd_some E
  have hsw1 : ShM w1.2 := ShM_core ((kpX12_isTrain _ _) _ Ew1) hs
  refine ea_aload_n (pc := 0) dX12_seen_0 rfl 0 rfl ?_
  refine ea_iload_n (pc := 1) dX12_seen_1 rfl 1 rfl ?_
  refine ea_callV (pc := 2) (d' := d - 1) (As := [vI x1]) (st := []) dX12_seen_2 kX12_isTrain (sX12_isTrain (d := d - 1) (by omega) hs Ew1) (by omega) rfl (Nat.le_of_ble_eq_true rfl) ew_1793 ew_1795 ew_57 (ci := 12) rfl (by decide) (cShM_326 hs).1 (cShM_326 hs).2.1 ?_
  refine ea_if_eq (pc := 5) (tgt := 15) dX12_seen_5 rfl (fun c10 => ?_) (fun c10 => ?_)
  · have E := (if_pos c10).symm.trans E
    refine ea_iconst (pc := 15) dX12_seen_15 (v := 0) rfl ?_
    exact ea_iretO (pc := 16) dX12_seen_16 rfl (ea_bn (Or.inl rfl)) E
  · have E := (if_neg c10).symm.trans E
    obtain ⟨w2, Ew2, E⟩ := bd_some E
    have hsw2 : ShM w2.2 := ShM_core ((kpX12_isMinute _ _) _ Ew2) hsw1
    refine ea_iload_n (pc := 8) dX12_seen_8 rfl 2 rfl ?_
    refine ea_callS (pc := 9) (d' := d - 1) (As := [vI x2]) (st := []) dX12_seen_9 kX12_isMinute (sX12_isMinute (d := d - 1) (by omega) Ew2) (by omega) rfl (Nat.le_of_ble_eq_true rfl) ew_2204 ew_2205 ?_
    refine ea_if_ne (pc := 12) (tgt := 17) dX12_seen_12 rfl (fun c9 => ?_) (fun c9 => ?_)
    · have E := (if_neg c9).symm.trans E
      obtain ⟨z3, E⟩ := gd_some E
      refine ea_aload_n (pc := 17) dX12_seen_17 rfl 0 rfl ?_
      refine ea_getR (pc := 18) dX12_seen_18 ec_12 (k := 107) (Nat.le_of_ble_eq_true rfl) rfl (Or.inl ew_1509) (cShM_326 hsw2).1 (cShM_326 hsw2).2.1 (rShM_326_107 hsw2) ?_
      refine ea_iload_n (pc := 21) dX12_seen_21 rfl 1 rfl ?_
      obtain ⟨v4, ev4, E⟩ := let_some E
      refine ea_iald (pc := 22) dX12_seen_22 (cShM_405 hsw2).1 (cShM_405 hsw2).2.1 (ea_vpl (cShM_405 hsw2).2.2 z3) ?_
      refine ea_iconst (pc := 23) dX12_seen_23 (v := 1) rfl ?_
      refine ea_iadd (pc := 24) dX12_seen_24 ?_
      obtain ⟨z5, E⟩ := gd_some E
      refine ea_istore_n (pc := 25) (lv' := [(0, vR (some 326)), (1, vI x1), (2, vI x2), (3, vI v4)]) dX12_seen_25 rfl (Nat.le_of_ble_eq_true rfl) [1, 2, 3, 0] (by rw [ev4]; rfl) ?_
      refine ea_aload_n (pc := 26) dX12_seen_26 rfl 0 rfl ?_
      refine ea_getR (pc := 27) dX12_seen_27 ec_12 (k := 106) (Nat.le_of_ble_eq_true rfl) rfl (Or.inl ew_1508) (cShM_326 hsw2).1 (cShM_326 hsw2).2.1 (rShM_326_106 hsw2) ?_
      refine ea_iload_n (pc := 30) dX12_seen_30 rfl 1 rfl ?_
      obtain ⟨v6, ev6, E⟩ := let_some E
      refine ea_iald (pc := 31) dX12_seen_31 (cShM_404 hsw2).1 (cShM_404 hsw2).2.1 (ea_vpl (cShM_404 hsw2).2.2 z5) ?_
      refine ea_iconst (pc := 32) dX12_seen_32 (v := 1) rfl ?_
      refine ea_isub (pc := 33) dX12_seen_33 ?_
      obtain ⟨z7, E⟩ := gd_some E
      refine ea_istore (pc := 34) (lv' := [(0, vR (some 326)), (1, vI x1), (2, vI x2), (3, vI v4), (4, vI v6)]) dX12_seen_34 (Nat.le_of_ble_eq_true rfl) [1, 2, 3, 4, 0] (by rw [ev6]; rfl) ?_
      refine ea_aload_n (pc := 36) dX12_seen_36 rfl 0 rfl ?_
      refine ea_getR (pc := 37) dX12_seen_37 ec_12 (k := 106) (Nat.le_of_ble_eq_true rfl) rfl (Or.inl ew_1508) (cShM_326 hsw2).1 (cShM_326 hsw2).2.1 (rShM_326_106 hsw2) ?_
      refine ea_iload_n (pc := 40) dX12_seen_40 rfl 1 rfl ?_
      obtain ⟨v8, ev8, E⟩ := let_some E
      refine ea_iald (pc := 41) dX12_seen_41 (cShM_404 hsw2).1 (cShM_404 hsw2).2.1 (ea_vpl (cShM_404 hsw2).2.2 z7) ?_
      refine ea_istore (pc := 42) (lv' := [(0, vR (some 326)), (1, vI x1), (2, vI x2), (3, vI v4), (4, vI v6), (5, vI v8)]) dX12_seen_42 (Nat.le_of_ble_eq_true rfl) [1, 2, 3, 4, 5, 0] (by rw [ev8]; rfl) ?_
      exact (kJ44 (x1 : Int32) (x2 : Int32) (v4 : Int32) (v6 : Int32) (v8 : Int32) w2.2 _ _ E hsw2)
    · have E := (if_pos c9).symm.trans E
      refine ea_iconst (pc := 15) dX12_seen_15 (v := 0) rfl ?_
      exact ea_iretO (pc := 16) dX12_seen_16 rfl (ea_bn (Or.inl rfl)) E
theorem kBX12_seen_0 {J44 : Int32 → Int32 → Int32 → Int32 → Int32 → ea_H → Option (Int32 × ea_H)}  (cJ44 : ∀ (x1 : Int32) (x2 : Int32) (x3 : Int32) (x4 : Int32) (x5 : Int32) (h : ea_H), kp (ea_core h) (J44 x1 x2 x3 x4 x5 h)) {x1 : Int32} {x2 : Int32} {h : ea_H} : kp (ea_core h) (BX12_seen_0 J44 x1 x2 h) :=
  (kp_bind (kp_tw (kpX12_isTrain _ _) rfl) fun w1 hcw1 => (kp_ite (kp_ret hcw1) (kp_bind (kp_tw (kpX12_isMinute _ _) hcw1) fun w2 hcw2 => (kp_ite (kp_ret hcw2) (kp_gd (kp_let (kp_gd (kp_let (kp_gd (kp_let (kp_tw (cJ44 _ _ _ _ _ _) hcw2)))))))))))
theorem lBX12_seen_0 {J44 : Int32 → Int32 → Int32 → Int32 → Int32 → ea_H → Option (Int32 × ea_H)} {J44_ : Int32 → Int32 → Int32 → Int32 → Int32 → ea_H → Option (Int32 × ea_H)}  (mJ44 : ∀ (x1 : Int32) (x2 : Int32) (x3 : Int32) (x4 : Int32) (x5 : Int32) (h : ea_H), fle (J44 x1 x2 x3 x4 x5 h) (J44_ x1 x2 x3 x4 x5 h)) {x1 : Int32} {x2 : Int32} {h : ea_H} : fle (BX12_seen_0 J44 x1 x2 h) (BX12_seen_0 J44_ x1 x2 h) :=
  (fle_bind (fle_rfl _) fun _ => (fle_ite (fle_rfl _) (fle_bind (fle_rfl _) fun _ => (fle_ite (fle_rfl _) (fle_gd (fle_let fun _ => (fle_gd (fle_let fun _ => (fle_gd (fle_let fun _ => (mJ44 _ _ _ _ _ _)))))))))))
theorem nBX12_seen_0 {J44 : Int32 → Int32 → Int32 → Int32 → Int32 → ea_H → Option (Int32 × ea_H)} {J44_ : Nat → (Int32 → Int32 → Int32 → Int32 → Int32 → ea_H → Option (Int32 × ea_H))}  (mJ44 : ∀ (x1 : Int32) (x2 : Int32) (x3 : Int32) (x4 : Int32) (x5 : Int32) (h : ea_H), fct (J44 x1 x2 x3 x4 x5 h) (fun f => J44_ f x1 x2 x3 x4 x5 h)) {x1 : Int32} {x2 : Int32} {h : ea_H} : fct (BX12_seen_0 J44 x1 x2 h) (fun f => BX12_seen_0 (J44_ f) x1 x2 h) :=
  (fct_bind (fct_rfl _) fun _ => (fct_ite (fct_rfl _) (fct_bind (fct_rfl _) fun _ => (fct_ite (fct_rfl _) (fct_gd (fct_let fun _ => (fct_gd (fct_let fun _ => (fct_gd (fct_let fun _ => (mJ44 _ _ _ _ _ _)))))))))))
noncomputable def BX12_seen_44 (J44 : Int32 → Int32 → Int32 → Int32 → Int32 → ea_H → Option (Int32 × ea_H)) (J85 : Int32 → Int32 → Int32 → Int32 → Int32 → ea_H → Option (Int32 × ea_H)) (x1 : Int32) (x2 : Int32) (x3 : Int32) (x4 : Int32) (x5 : Int32) (h : ea_H) : Option (Int32 × ea_H) :=
  (gd (vp_in x1 10) (if (ea_i h 405 (Int32.toNatClampNeg x1)) < x5 then (if x3 ≤ x4 then (gd (vp_in x1 10) (ea_let (ea_wi h 404 (Int32.toNatClampNeg x1) x3) fun H13 => (gd (vp_in x1 10) (ea_let (ea_wi H13 405 (Int32.toNatClampNeg x1) x4) fun H15 => (some ((1 : Int32), H15)))))) else (some ((0 : Int32), h))) else (Option.bind (qX12_shows (x1 : Int32) (x5 : Int32) ((ea_i h 326 0) : Int32) h) fun w17 => (if w17.1 = x2 then (if x3 ≤ x5 then (J85 (x1 : Int32) (x2 : Int32) (x4 : Int32) (x5 : Int32) (x3 : Int32) w17.2) else (J85 (x1 : Int32) (x2 : Int32) (x4 : Int32) (x5 : Int32) (x5 : Int32) w17.2)) else (J44 (x1 : Int32) (x2 : Int32) (x3 : Int32) (x4 : Int32) ((x5 + (1 : Int32)) : Int32) w17.2)))))
theorem tBX12_seen_44 {d : Nat} {h0 : ea_H} (hd : 3 ≤ d) {J44 : Int32 → Int32 → Int32 → Int32 → Int32 → ea_H → Option (Int32 × ea_H)} {J85 : Int32 → Int32 → Int32 → Int32 → Int32 → ea_H → Option (Int32 × ea_H)}  (kJ44 : ∀ (x1 : Int32) (x2 : Int32) (x3 : Int32) (x4 : Int32) (x5 : Int32) (h : ea_H) (r : Int32) (h' : ea_H), J44 x1 x2 x3 x4 x5 h = some (r, h') → ShM h → ea_W mX12_seen d h0 (some (vI r)) h' 44 [(0, vR (some 326)), (1, vI x1), (2, vI x2), (3, vI x3), (4, vI x4), (5, vI x5)] [] h) (kJ85 : ∀ (x1 : Int32) (x2 : Int32) (x4 : Int32) (x5 : Int32) (sx0 : Int32) (h : ea_H) (r : Int32) (h' : ea_H), J85 x1 x2 x4 x5 sx0 h = some (r, h') → ShM h → ea_W mX12_seen d h0 (some (vI r)) h' 85 [(0, vR (some 326)), (1, vI x1), (2, vI x2), (4, vI x4), (5, vI x5)] [vI sx0] h) {x1 : Int32} {x2 : Int32} {x3 : Int32} {x4 : Int32} {x5 : Int32} {h : ea_H} {r : Int32} {h' : ea_H} (E : BX12_seen_44 J44 J85 x1 x2 x3 x4 x5 h = some (r, h')) (hs : ShM h) : ea_W mX12_seen d h0 (some (vI r)) h' 44 [(0, vR (some 326)), (1, vI x1), (2, vI x2), (3, vI x3), (4, vI x4), (5, vI x5)] [] h := by
  unfold BX12_seen_44 at E
  obtain ⟨z11, E⟩ := gd_some E
  refine ea_iload (pc := 44) dX12_seen_44 5 rfl ?_
  refine ea_aload_n (pc := 46) dX12_seen_46 rfl 0 rfl ?_
  refine ea_getR (pc := 47) dX12_seen_47 ec_12 (k := 107) (Nat.le_of_ble_eq_true rfl) rfl (Or.inl ew_1509) (cShM_326 hs).1 (cShM_326 hs).2.1 (rShM_326_107 hs) ?_
  refine ea_iload_n (pc := 50) dX12_seen_50 rfl 1 rfl ?_
  refine ea_iald (pc := 51) dX12_seen_51 (cShM_405 hs).1 (cShM_405 hs).2.1 (ea_vpl (cShM_405 hs).2.2 z11) ?_
  refine ea_icmp_gt (pc := 52) (tgt := 108) dX12_seen_52 rfl (fun c20 => ?_) (fun c20 => ?_)
  · have E := (if_pos c20).symm.trans E
    refine ea_iload_n (pc := 108) dX12_seen_108 rfl 3 rfl ?_
    refine ea_iload (pc := 109) dX12_seen_109 4 rfl ?_
    refine ea_icmp_le (pc := 111) (tgt := 116) dX12_seen_111 rfl (fun c16 => ?_) (fun c16 => ?_)
    · have E := (if_pos c16).symm.trans E
      obtain ⟨z12, E⟩ := gd_some E
      refine ea_aload_n (pc := 116) dX12_seen_116 rfl 0 rfl ?_
      refine ea_getR (pc := 117) dX12_seen_117 ec_12 (k := 106) (Nat.le_of_ble_eq_true rfl) rfl (Or.inl ew_1508) (cShM_326 hs).1 (cShM_326 hs).2.1 (rShM_326_106 hs) ?_
      refine ea_iload_n (pc := 120) dX12_seen_120 rfl 1 rfl ?_
      refine ea_iload_n (pc := 121) dX12_seen_121 rfl 3 rfl ?_
      obtain ⟨H13, eH13, E⟩ := let_some E
      refine ea_iast (pc := 122) dX12_seen_122 (cShM_404 hs).1 (cShM_404 hs).2.1 (ea_vpl (cShM_404 hs).2.2 z12) ?_
      refine ea_nm eH13 ?_
      have hsH13 : ShM H13 := by rw [eH13]; exact hs
      obtain ⟨z14, E⟩ := gd_some E
      refine ea_aload_n (pc := 123) dX12_seen_123 rfl 0 rfl ?_
      refine ea_getR (pc := 124) dX12_seen_124 ec_12 (k := 107) (Nat.le_of_ble_eq_true rfl) rfl (Or.inl ew_1509) (cShM_326 hsH13).1 (cShM_326 hsH13).2.1 (rShM_326_107 hsH13) ?_
      refine ea_iload_n (pc := 127) dX12_seen_127 rfl 1 rfl ?_
      refine ea_iload (pc := 128) dX12_seen_128 4 rfl ?_
      obtain ⟨H15, eH15, E⟩ := let_some E
      refine ea_iast (pc := 130) dX12_seen_130 (cShM_405 hsH13).1 (cShM_405 hsH13).2.1 (ea_vpl (cShM_405 hsH13).2.2 z14) ?_
      refine ea_nm eH15 ?_
      have hsH15 : ShM H15 := by rw [eH15]; exact hsH13
      refine ea_iconst (pc := 131) dX12_seen_131 (v := 1) rfl ?_
      exact ea_iretO (pc := 132) dX12_seen_132 rfl (ea_bn (Or.inr rfl)) E
    · have E := (if_neg c16).symm.trans E
      refine ea_iconst (pc := 114) dX12_seen_114 (v := 0) rfl ?_
      exact ea_iretO (pc := 115) dX12_seen_115 rfl (ea_bn (Or.inl rfl)) E
  · have E := (if_neg c20).symm.trans E
    obtain ⟨w17, Ew17, E⟩ := bd_some E
    have hsw17 : ShM w17.2 := ShM_core ((kpX12_shows _ _ _ _) _ Ew17) hs
    refine ea_aload_n (pc := 55) dX12_seen_55 rfl 0 rfl ?_
    refine ea_iload_n (pc := 56) dX12_seen_56 rfl 1 rfl ?_
    refine ea_iload (pc := 57) dX12_seen_57 5 rfl ?_
    refine ea_aload_n (pc := 59) dX12_seen_59 rfl 0 rfl ?_
    refine ea_getI (pc := 60) dX12_seen_60 ec_12 (k := 0) (Nat.le_of_ble_eq_true rfl) rfl (Or.inl ew_1402) (cShM_326 hs).1 (cShM_326 hs).2.1 ?_
    refine ea_callV (pc := 63) (d' := d - 1) (As := [vI x1, vI x5, vI (ea_i h 326 0)]) (st := []) dX12_seen_63 kX12_shows (sX12_shows (d := d - 1) (by omega) hs Ew17) (by omega) rfl (Nat.le_of_ble_eq_true rfl) ew_2207 ew_2209 ew_109 (ci := 12) rfl (by decide) (cShM_326 hs).1 (cShM_326 hs).2.1 ?_
    refine ea_iload_n (pc := 66) dX12_seen_66 rfl 2 rfl ?_
    refine ea_icmp_eq (pc := 67) (tgt := 73) dX12_seen_67 rfl (fun c19 => ?_) (fun c19 => ?_)
    · have E := (if_pos c19).symm.trans E
      refine ea_iload (pc := 73) dX12_seen_73 5 rfl ?_
      refine ea_iload_n (pc := 75) dX12_seen_75 rfl 3 rfl ?_
      refine ea_icmp_ge (pc := 76) (tgt := 84) dX12_seen_76 rfl (fun c18 => ?_) (fun c18 => ?_)
      · have E := (if_pos c18).symm.trans E
        refine ea_iload_n (pc := 84) dX12_seen_84 rfl 3 rfl ?_
        exact ea_fewer [0, 1, 2, 4, 5] rfl (kJ85 (x1 : Int32) (x2 : Int32) (x4 : Int32) (x5 : Int32) (x3 : Int32) w17.2 _ _ E hsw17)
      · have E := (if_neg c18).symm.trans E
        refine ea_iload (pc := 79) dX12_seen_79 5 rfl ?_
        refine ea_goto (pc := 81) (tgt := 85) dX12_seen_81 rfl ?_
        exact ea_fewer [0, 1, 2, 4, 5] rfl (kJ85 (x1 : Int32) (x2 : Int32) (x4 : Int32) (x5 : Int32) (x5 : Int32) w17.2 _ _ E hsw17)
    · have E := (if_neg c19).symm.trans E
      refine ea_goto (pc := 70) (tgt := 102) dX12_seen_70 rfl ?_
      refine ea_iinc (pc := 102) (v := 1) (lv' := [(0, vR (some 326)), (1, vI x1), (2, vI x2), (3, vI x3), (4, vI x4), (5, vI (x5 + (1 : Int32)))]) dX12_seen_102 5 rfl rfl (Nat.le_of_ble_eq_true rfl) [1, 2, 3, 4, 5, 0] rfl ?_
      refine ea_goto (pc := 105) (tgt := 44) dX12_seen_105 rfl ?_
      exact (kJ44 (x1 : Int32) (x2 : Int32) (x3 : Int32) (x4 : Int32) ((x5 + (1 : Int32)) : Int32) w17.2 _ _ E hsw17)
theorem kBX12_seen_44 {J44 : Int32 → Int32 → Int32 → Int32 → Int32 → ea_H → Option (Int32 × ea_H)} {J85 : Int32 → Int32 → Int32 → Int32 → Int32 → ea_H → Option (Int32 × ea_H)}  (cJ44 : ∀ (x1 : Int32) (x2 : Int32) (x3 : Int32) (x4 : Int32) (x5 : Int32) (h : ea_H), kp (ea_core h) (J44 x1 x2 x3 x4 x5 h)) (cJ85 : ∀ (x1 : Int32) (x2 : Int32) (x4 : Int32) (x5 : Int32) (sx0 : Int32) (h : ea_H), kp (ea_core h) (J85 x1 x2 x4 x5 sx0 h)) {x1 : Int32} {x2 : Int32} {x3 : Int32} {x4 : Int32} {x5 : Int32} {h : ea_H} : kp (ea_core h) (BX12_seen_44 J44 J85 x1 x2 x3 x4 x5 h) :=
  (kp_gd (kp_ite (kp_ite (kp_gd (kp_let (kp_gd (kp_let (kp_ret rfl))))) (kp_ret rfl)) (kp_bind (kp_tw (kpX12_shows _ _ _ _) rfl) fun w17 hcw17 => (kp_ite (kp_ite (kp_tw (cJ85 _ _ _ _ _ _) hcw17) (kp_tw (cJ85 _ _ _ _ _ _) hcw17)) (kp_tw (cJ44 _ _ _ _ _ _) hcw17)))))
theorem lBX12_seen_44 {J44 : Int32 → Int32 → Int32 → Int32 → Int32 → ea_H → Option (Int32 × ea_H)} {J85 : Int32 → Int32 → Int32 → Int32 → Int32 → ea_H → Option (Int32 × ea_H)} {J44_ : Int32 → Int32 → Int32 → Int32 → Int32 → ea_H → Option (Int32 × ea_H)} {J85_ : Int32 → Int32 → Int32 → Int32 → Int32 → ea_H → Option (Int32 × ea_H)}  (mJ44 : ∀ (x1 : Int32) (x2 : Int32) (x3 : Int32) (x4 : Int32) (x5 : Int32) (h : ea_H), fle (J44 x1 x2 x3 x4 x5 h) (J44_ x1 x2 x3 x4 x5 h)) (mJ85 : ∀ (x1 : Int32) (x2 : Int32) (x4 : Int32) (x5 : Int32) (sx0 : Int32) (h : ea_H), fle (J85 x1 x2 x4 x5 sx0 h) (J85_ x1 x2 x4 x5 sx0 h)) {x1 : Int32} {x2 : Int32} {x3 : Int32} {x4 : Int32} {x5 : Int32} {h : ea_H} : fle (BX12_seen_44 J44 J85 x1 x2 x3 x4 x5 h) (BX12_seen_44 J44_ J85_ x1 x2 x3 x4 x5 h) :=
  (fle_gd (fle_ite (fle_rfl _) (fle_bind (fle_rfl _) fun _ => (fle_ite (fle_ite (mJ85 _ _ _ _ _ _) (mJ85 _ _ _ _ _ _)) (mJ44 _ _ _ _ _ _)))))
theorem nBX12_seen_44 {J44 : Int32 → Int32 → Int32 → Int32 → Int32 → ea_H → Option (Int32 × ea_H)} {J85 : Int32 → Int32 → Int32 → Int32 → Int32 → ea_H → Option (Int32 × ea_H)} {J44_ : Nat → (Int32 → Int32 → Int32 → Int32 → Int32 → ea_H → Option (Int32 × ea_H))} {J85_ : Nat → (Int32 → Int32 → Int32 → Int32 → Int32 → ea_H → Option (Int32 × ea_H))}  (mJ44 : ∀ (x1 : Int32) (x2 : Int32) (x3 : Int32) (x4 : Int32) (x5 : Int32) (h : ea_H), fct (J44 x1 x2 x3 x4 x5 h) (fun f => J44_ f x1 x2 x3 x4 x5 h)) (mJ85 : ∀ (x1 : Int32) (x2 : Int32) (x4 : Int32) (x5 : Int32) (sx0 : Int32) (h : ea_H), fct (J85 x1 x2 x4 x5 sx0 h) (fun f => J85_ f x1 x2 x4 x5 sx0 h)) {x1 : Int32} {x2 : Int32} {x3 : Int32} {x4 : Int32} {x5 : Int32} {h : ea_H} : fct (BX12_seen_44 J44 J85 x1 x2 x3 x4 x5 h) (fun f => BX12_seen_44 (J44_ f) (J85_ f) x1 x2 x3 x4 x5 h) :=
  (fct_gd (fct_ite (fct_rfl _) (fct_bind (fct_rfl _) fun _ => (fct_ite (fct_ite (mJ85 _ _ _ _ _ _) (mJ85 _ _ _ _ _ _)) (mJ44 _ _ _ _ _ _)))))
noncomputable def BX12_seen_85 (J44 : Int32 → Int32 → Int32 → Int32 → Int32 → ea_H → Option (Int32 × ea_H)) (x1 : Int32) (x2 : Int32) (x4 : Int32) (x5 : Int32) (sx0 : Int32) (h : ea_H) : Option (Int32 × ea_H) :=
  (if x5 ≤ x4 then (J44 (x1 : Int32) (x2 : Int32) (sx0 : Int32) (x4 : Int32) ((x5 + (1 : Int32)) : Int32) h) else (J44 (x1 : Int32) (x2 : Int32) (sx0 : Int32) (x5 : Int32) ((x5 + (1 : Int32)) : Int32) h))
theorem tBX12_seen_85 {d : Nat} {h0 : ea_H} (hd : 3 ≤ d) {J44 : Int32 → Int32 → Int32 → Int32 → Int32 → ea_H → Option (Int32 × ea_H)}  (kJ44 : ∀ (x1 : Int32) (x2 : Int32) (x3 : Int32) (x4 : Int32) (x5 : Int32) (h : ea_H) (r : Int32) (h' : ea_H), J44 x1 x2 x3 x4 x5 h = some (r, h') → ShM h → ea_W mX12_seen d h0 (some (vI r)) h' 44 [(0, vR (some 326)), (1, vI x1), (2, vI x2), (3, vI x3), (4, vI x4), (5, vI x5)] [] h) {x1 : Int32} {x2 : Int32} {x4 : Int32} {x5 : Int32} {sx0 : Int32} {h : ea_H} {r : Int32} {h' : ea_H} (E : BX12_seen_85 J44 x1 x2 x4 x5 sx0 h = some (r, h')) (hs : ShM h) : ea_W mX12_seen d h0 (some (vI r)) h' 85 [(0, vR (some 326)), (1, vI x1), (2, vI x2), (4, vI x4), (5, vI x5)] [vI sx0] h := by
  unfold BX12_seen_85 at E
  refine ea_istore_n (pc := 85) (lv' := [(0, vR (some 326)), (1, vI x1), (2, vI x2), (3, vI sx0), (4, vI x4), (5, vI x5)]) dX12_seen_85 rfl (Nat.le_of_ble_eq_true rfl) [1, 2, 3, 0, 4, 5] rfl ?_
  refine ea_iload (pc := 86) dX12_seen_86 5 rfl ?_
  refine ea_iload (pc := 88) dX12_seen_88 4 rfl ?_
  refine ea_icmp_le (pc := 90) (tgt := 98) dX12_seen_90 rfl (fun c21 => ?_) (fun c21 => ?_)
  · have E := (if_pos c21).symm.trans E
    refine ea_iload (pc := 98) dX12_seen_98 4 rfl ?_
    refine ea_istore (pc := 100) (lv' := [(0, vR (some 326)), (1, vI x1), (2, vI x2), (3, vI sx0), (4, vI x4), (5, vI x5)]) dX12_seen_100 (Nat.le_of_ble_eq_true rfl) [1, 2, 3, 4, 0, 5] rfl ?_
    refine ea_iinc (pc := 102) (v := 1) (lv' := [(0, vR (some 326)), (1, vI x1), (2, vI x2), (3, vI sx0), (4, vI x4), (5, vI (x5 + (1 : Int32)))]) dX12_seen_102 5 rfl rfl (Nat.le_of_ble_eq_true rfl) [1, 2, 3, 4, 5, 0] rfl ?_
    refine ea_goto (pc := 105) (tgt := 44) dX12_seen_105 rfl ?_
    exact (kJ44 (x1 : Int32) (x2 : Int32) (sx0 : Int32) (x4 : Int32) ((x5 + (1 : Int32)) : Int32) h _ _ E hs)
  · have E := (if_neg c21).symm.trans E
    refine ea_iload (pc := 93) dX12_seen_93 5 rfl ?_
    refine ea_goto (pc := 95) (tgt := 100) dX12_seen_95 rfl ?_
    refine ea_istore (pc := 100) (lv' := [(0, vR (some 326)), (1, vI x1), (2, vI x2), (3, vI sx0), (4, vI x5), (5, vI x5)]) dX12_seen_100 (Nat.le_of_ble_eq_true rfl) [1, 2, 3, 4, 0, 5] rfl ?_
    refine ea_iinc (pc := 102) (v := 1) (lv' := [(0, vR (some 326)), (1, vI x1), (2, vI x2), (3, vI sx0), (4, vI x5), (5, vI (x5 + (1 : Int32)))]) dX12_seen_102 5 rfl rfl (Nat.le_of_ble_eq_true rfl) [1, 2, 3, 4, 5, 0] rfl ?_
    refine ea_goto (pc := 105) (tgt := 44) dX12_seen_105 rfl ?_
    exact (kJ44 (x1 : Int32) (x2 : Int32) (sx0 : Int32) (x5 : Int32) ((x5 + (1 : Int32)) : Int32) h _ _ E hs)
theorem kBX12_seen_85 {J44 : Int32 → Int32 → Int32 → Int32 → Int32 → ea_H → Option (Int32 × ea_H)}  (cJ44 : ∀ (x1 : Int32) (x2 : Int32) (x3 : Int32) (x4 : Int32) (x5 : Int32) (h : ea_H), kp (ea_core h) (J44 x1 x2 x3 x4 x5 h)) {x1 : Int32} {x2 : Int32} {x4 : Int32} {x5 : Int32} {sx0 : Int32} {h : ea_H} : kp (ea_core h) (BX12_seen_85 J44 x1 x2 x4 x5 sx0 h) :=
  (kp_ite (kp_tw (cJ44 _ _ _ _ _ _) rfl) (kp_tw (cJ44 _ _ _ _ _ _) rfl))
theorem lBX12_seen_85 {J44 : Int32 → Int32 → Int32 → Int32 → Int32 → ea_H → Option (Int32 × ea_H)} {J44_ : Int32 → Int32 → Int32 → Int32 → Int32 → ea_H → Option (Int32 × ea_H)}  (mJ44 : ∀ (x1 : Int32) (x2 : Int32) (x3 : Int32) (x4 : Int32) (x5 : Int32) (h : ea_H), fle (J44 x1 x2 x3 x4 x5 h) (J44_ x1 x2 x3 x4 x5 h)) {x1 : Int32} {x2 : Int32} {x4 : Int32} {x5 : Int32} {sx0 : Int32} {h : ea_H} : fle (BX12_seen_85 J44 x1 x2 x4 x5 sx0 h) (BX12_seen_85 J44_ x1 x2 x4 x5 sx0 h) :=
  (fle_ite (mJ44 _ _ _ _ _ _) (mJ44 _ _ _ _ _ _))
theorem nBX12_seen_85 {J44 : Int32 → Int32 → Int32 → Int32 → Int32 → ea_H → Option (Int32 × ea_H)} {J44_ : Nat → (Int32 → Int32 → Int32 → Int32 → Int32 → ea_H → Option (Int32 × ea_H))}  (mJ44 : ∀ (x1 : Int32) (x2 : Int32) (x3 : Int32) (x4 : Int32) (x5 : Int32) (h : ea_H), fct (J44 x1 x2 x3 x4 x5 h) (fun f => J44_ f x1 x2 x3 x4 x5 h)) {x1 : Int32} {x2 : Int32} {x4 : Int32} {x5 : Int32} {sx0 : Int32} {h : ea_H} : fct (BX12_seen_85 J44 x1 x2 x4 x5 sx0 h) (fun f => BX12_seen_85 (J44_ f) x1 x2 x4 x5 sx0 h) :=
  (fct_ite (mJ44 _ _ _ _ _ _) (mJ44 _ _ _ _ _ _))
noncomputable def gX12_seen : Nat → (Int32 → Int32 → ea_H → Option (Int32 × ea_H)) × (Int32 → Int32 → Int32 → Int32 → Int32 → ea_H → Option (Int32 × ea_H)) × (Int32 → Int32 → Int32 → Int32 → Int32 → ea_H → Option (Int32 × ea_H))
  | 0 => (fun _ _ _ => none, fun _ _ _ _ _ _ => none, fun _ _ _ _ _ _ => none)
  | f + 1 => (BX12_seen_0 (gX12_seen f).2.1, BX12_seen_44 (gX12_seen f).2.1 (gX12_seen f).2.2, BX12_seen_85 (gX12_seen f).2.1)
theorem mgX12_seen : ∀ f : Nat, (∀ (x1 : Int32) (x2 : Int32) (h : ea_H), fle ((gX12_seen f).1 x1 x2 h) ((gX12_seen (f + 1)).1 x1 x2 h)) ∧ (∀ (x1 : Int32) (x2 : Int32) (x3 : Int32) (x4 : Int32) (x5 : Int32) (h : ea_H), fle ((gX12_seen f).2.1 x1 x2 x3 x4 x5 h) ((gX12_seen (f + 1)).2.1 x1 x2 x3 x4 x5 h)) ∧ (∀ (x1 : Int32) (x2 : Int32) (x4 : Int32) (x5 : Int32) (sx0 : Int32) (h : ea_H), fle ((gX12_seen f).2.2 x1 x2 x4 x5 sx0 h) ((gX12_seen (f + 1)).2.2 x1 x2 x4 x5 sx0 h)) := by
  intro f
  induction f with
  | zero => exact ⟨fun _ _ _ => fle_none _, fun _ _ _ _ _ _ => fle_none _, fun _ _ _ _ _ _ => fle_none _⟩
  | succ f ih => exact ⟨fun _ _ _ => lBX12_seen_0 ih.2.1, fun _ _ _ _ _ _ => lBX12_seen_44 ih.2.1 ih.2.2, fun _ _ _ _ _ _ => lBX12_seen_85 ih.2.1⟩
noncomputable def qX12_seen_0 (x1 : Int32) (x2 : Int32) (h : ea_H) : Option (Int32 × ea_H) := flim fun f => (gX12_seen f).1 x1 x2 h
noncomputable def qX12_seen_44 (x1 : Int32) (x2 : Int32) (x3 : Int32) (x4 : Int32) (x5 : Int32) (h : ea_H) : Option (Int32 × ea_H) := flim fun f => (gX12_seen f).2.1 x1 x2 x3 x4 x5 h
noncomputable def qX12_seen_85 (x1 : Int32) (x2 : Int32) (x4 : Int32) (x5 : Int32) (sx0 : Int32) (h : ea_H) : Option (Int32 × ea_H) := flim fun f => (gX12_seen f).2.2 x1 x2 x4 x5 sx0 h
theorem fqX12_seen_0 (x1 : Int32) (x2 : Int32) (h : ea_H) : fct (qX12_seen_0 x1 x2 h) fun f => (gX12_seen f).1 x1 x2 h := flim_ct fun f => (mgX12_seen f).1 x1 x2 h
theorem fqX12_seen_44 (x1 : Int32) (x2 : Int32) (x3 : Int32) (x4 : Int32) (x5 : Int32) (h : ea_H) : fct (qX12_seen_44 x1 x2 x3 x4 x5 h) fun f => (gX12_seen f).2.1 x1 x2 x3 x4 x5 h := flim_ct fun f => (mgX12_seen f).2.1 x1 x2 x3 x4 x5 h
theorem fqX12_seen_85 (x1 : Int32) (x2 : Int32) (x4 : Int32) (x5 : Int32) (sx0 : Int32) (h : ea_H) : fct (qX12_seen_85 x1 x2 x4 x5 sx0 h) fun f => (gX12_seen f).2.2 x1 x2 x4 x5 sx0 h := flim_ct fun f => (mgX12_seen f).2.2 x1 x2 x4 x5 sx0 h
/-- how a block opens -/
theorem uqX12_seen_0 {x1 : Int32} {x2 : Int32} {h : ea_H} {P : Int32 × ea_H → Prop} (H : sat (BX12_seen_0 qX12_seen_44 x1 x2 h) P) : sat (qX12_seen_0 x1 x2 h) P := by
  obtain ⟨x, e, hp⟩ := H
  obtain ⟨n, hn⟩ := nBX12_seen_0 fqX12_seen_44 x e
  exact ⟨x, flim_at (fun f => (mgX12_seen f).1 x1 x2 h) (f := n + 1) (hn n (Nat.le_refl _)), hp⟩
/-- how a block opens -/
theorem uqX12_seen_44 {x1 : Int32} {x2 : Int32} {x3 : Int32} {x4 : Int32} {x5 : Int32} {h : ea_H} {P : Int32 × ea_H → Prop} (H : sat (BX12_seen_44 qX12_seen_44 qX12_seen_85 x1 x2 x3 x4 x5 h) P) : sat (qX12_seen_44 x1 x2 x3 x4 x5 h) P := by
  obtain ⟨x, e, hp⟩ := H
  obtain ⟨n, hn⟩ := nBX12_seen_44 fqX12_seen_44 fqX12_seen_85 x e
  exact ⟨x, flim_at (fun f => (mgX12_seen f).2.1 x1 x2 x3 x4 x5 h) (f := n + 1) (hn n (Nat.le_refl _)), hp⟩
/-- how a block opens -/
theorem uqX12_seen_85 {x1 : Int32} {x2 : Int32} {x4 : Int32} {x5 : Int32} {sx0 : Int32} {h : ea_H} {P : Int32 × ea_H → Prop} (H : sat (BX12_seen_85 qX12_seen_44 x1 x2 x4 x5 sx0 h) P) : sat (qX12_seen_85 x1 x2 x4 x5 sx0 h) P := by
  obtain ⟨x, e, hp⟩ := H
  obtain ⟨n, hn⟩ := nBX12_seen_85 fqX12_seen_44 x e
  exact ⟨x, flim_at (fun f => (mgX12_seen f).2.2 x1 x2 x4 x5 sx0 h) (f := n + 1) (hn n (Nat.le_refl _)), hp⟩
theorem kgX12_seen : ∀ f : Nat, (∀ (x1 : Int32) (x2 : Int32) (h : ea_H), kp (ea_core h) ((gX12_seen f).1 x1 x2 h)) ∧ (∀ (x1 : Int32) (x2 : Int32) (x3 : Int32) (x4 : Int32) (x5 : Int32) (h : ea_H), kp (ea_core h) ((gX12_seen f).2.1 x1 x2 x3 x4 x5 h)) ∧ (∀ (x1 : Int32) (x2 : Int32) (x4 : Int32) (x5 : Int32) (sx0 : Int32) (h : ea_H), kp (ea_core h) ((gX12_seen f).2.2 x1 x2 x4 x5 sx0 h)) := by
  intro f
  induction f with
  | zero => exact ⟨fun _ _ _ => kp_none _, fun _ _ _ _ _ _ => kp_none _, fun _ _ _ _ _ _ => kp_none _⟩
  | succ f ih => exact ⟨fun _ _ _ => kBX12_seen_0 ih.2.1, fun _ _ _ _ _ _ => kBX12_seen_44 ih.2.1 ih.2.2, fun _ _ _ _ _ _ => kBX12_seen_85 ih.2.1⟩
theorem tgX12_seen {d : Nat} {h0 : ea_H} (hd : 3 ≤ d) : ∀ f : Nat, (∀ (x1 : Int32) (x2 : Int32) (h : ea_H) (r : Int32) (h' : ea_H), (gX12_seen f).1 x1 x2 h = some (r, h') → ShM h → ea_W mX12_seen d h0 (some (vI r)) h' 0 [(0, vR (some 326)), (1, vI x1), (2, vI x2)] [] h) ∧ (∀ (x1 : Int32) (x2 : Int32) (x3 : Int32) (x4 : Int32) (x5 : Int32) (h : ea_H) (r : Int32) (h' : ea_H), (gX12_seen f).2.1 x1 x2 x3 x4 x5 h = some (r, h') → ShM h → ea_W mX12_seen d h0 (some (vI r)) h' 44 [(0, vR (some 326)), (1, vI x1), (2, vI x2), (3, vI x3), (4, vI x4), (5, vI x5)] [] h) ∧ (∀ (x1 : Int32) (x2 : Int32) (x4 : Int32) (x5 : Int32) (sx0 : Int32) (h : ea_H) (r : Int32) (h' : ea_H), (gX12_seen f).2.2 x1 x2 x4 x5 sx0 h = some (r, h') → ShM h → ea_W mX12_seen d h0 (some (vI r)) h' 85 [(0, vR (some 326)), (1, vI x1), (2, vI x2), (4, vI x4), (5, vI x5)] [vI sx0] h) := by
  intro f
  induction f with
  | zero => exact ⟨fun _ _ _ _ _ E => no_some E, fun _ _ _ _ _ _ _ _ E => no_some E, fun _ _ _ _ _ _ _ _ E => no_some E⟩
  | succ f ih => exact ⟨fun _ _ _ _ _ E hs => tBX12_seen_0 hd ih.2.1 E hs, fun _ _ _ _ _ _ _ _ E hs => tBX12_seen_44 hd ih.2.1 ih.2.2 E hs, fun _ _ _ _ _ _ _ _ E hs => tBX12_seen_85 hd ih.2.1 E hs⟩
noncomputable def qX12_seen (x1 : Int32) (x2 : Int32) (h : ea_H) : Option (Int32 × ea_H) := qX12_seen_0 x1 x2 h
theorem sX12_seen {d : Nat} {x1 : Int32} {x2 : Int32} {h : ea_H} {r : Int32} {h' : ea_H} (hd : 3 ≤ d) (hs : ShM h) (K : qX12_seen x1 x2 h = some (r, h')) : ea_Met mX12_seen d [vR (some 326), vI x1, vI x2] h (some (vI r)) h' := by
  unfold qX12_seen at K
  obtain ⟨n, hn⟩ := fqX12_seen_0 x1 x2 h _ K
  have W := (tgX12_seen (d := d) (h0 := h) hd n).1 x1 x2 h _ _ (hn n (Nat.le_refl _)) hs
  exact ea_enter rfl (Nat.le_of_ble_eq_true rfl) W
theorem kpX12_seen (x1 : Int32) (x2 : Int32) (h : ea_H) : kp (ea_core h) (qX12_seen x1 x2 h) := fun x e => by
  obtain ⟨n, hn⟩ := fqX12_seen_0 x1 x2 h x e
  exact (kgX12_seen n).1 x1 x2 h x (hn n (Nat.le_refl _))
noncomputable def BX12_clock_0 (x1 : Int32) (x2 : Int32) (h : ea_H) : Option (Int32 × ea_H) :=
  (Option.bind (qX12_isTrain (x1 : Int32) h) fun w1 => (if w1.1 = (0 : Int32) then (some (((-1000) : Int32), w1.2)) else (if x2 = (0 : Int32) then (gd (vp_in x1 10) (some ((ea_i w1.2 404 (Int32.toNatClampNeg x1)), w1.2))) else (if x2 = (1 : Int32) then (gd (vp_in x1 10) (some ((ea_i w1.2 405 (Int32.toNatClampNeg x1)), w1.2))) else (if x2 = (2 : Int32) then (gd (vp_in x1 10) (some ((ea_i w1.2 406 (Int32.toNatClampNeg x1)), w1.2))) else (some (((-1000) : Int32), w1.2)))))))
theorem tBX12_clock_0 {d : Nat} {h0 : ea_H} (hd : 3 ≤ d)  {x1 : Int32} {x2 : Int32} {h : ea_H} {r : Int32} {h' : ea_H} (E : BX12_clock_0 x1 x2 h = some (r, h')) (hs : ShM h) : ea_W mX12_clock d h0 (some (vI r)) h' 0 [(0, vR (some 326)), (1, vI x1), (2, vI x2)] [] h := by
  unfold BX12_clock_0 at E
  obtain ⟨w1, Ew1, E⟩ := bd_some E
  have hsw1 : ShM w1.2 := ShM_core ((kpX12_isTrain _ _) _ Ew1) hs
  refine ea_aload_n (pc := 0) dX12_clock_0 rfl 0 rfl ?_
  refine ea_iload_n (pc := 1) dX12_clock_1 rfl 1 rfl ?_
  refine ea_callV (pc := 2) (d' := d - 1) (As := [vI x1]) (st := []) dX12_clock_2 kX12_isTrain (sX12_isTrain (d := d - 1) (by omega) hs Ew1) (by omega) rfl (Nat.le_of_ble_eq_true rfl) ew_1793 ew_1795 ew_57 (ci := 12) rfl (by decide) (cShM_326 hs).1 (cShM_326 hs).2.1 ?_
  refine ea_if_ne (pc := 5) (tgt := 14) dX12_clock_5 rfl (fun c8 => ?_) (fun c8 => ?_)
  · have E := (if_neg c8).symm.trans E
    refine ea_iload_n (pc := 14) dX12_clock_14 rfl 2 rfl ?_
    refine ea_if_ne (pc := 15) (tgt := 27) dX12_clock_15 rfl (fun c7 => ?_) (fun c7 => ?_)
    · have E := (if_neg c7).symm.trans E
      refine ea_iload_n (pc := 27) dX12_clock_27 rfl 2 rfl ?_
      refine ea_iconst (pc := 28) dX12_clock_28 (v := 1) rfl ?_
      refine ea_icmp_ne (pc := 29) (tgt := 41) dX12_clock_29 rfl (fun c5 => ?_) (fun c5 => ?_)
      · have E := (if_neg c5).symm.trans E
        refine ea_iload_n (pc := 41) dX12_clock_41 rfl 2 rfl ?_
        refine ea_iconst (pc := 42) dX12_clock_42 (v := 2) rfl ?_
        refine ea_icmp_ne (pc := 43) (tgt := 55) dX12_clock_43 rfl (fun c3 => ?_) (fun c3 => ?_)
        · have E := (if_neg c3).symm.trans E
          refine ea_sipush (pc := 55) dX12_clock_55 (v := (-1000)) rfl ?_
          exact ea_iretO (pc := 58) dX12_clock_58 rfl rfl E
        · have E := (if_pos c3).symm.trans E
          obtain ⟨z2, E⟩ := gd_some E
          refine ea_aload_n (pc := 46) dX12_clock_46 rfl 0 rfl ?_
          refine ea_getR (pc := 47) dX12_clock_47 ec_12 (k := 108) (Nat.le_of_ble_eq_true rfl) rfl (Or.inl ew_1510) (cShM_326 hsw1).1 (cShM_326 hsw1).2.1 (rShM_326_108 hsw1) ?_
          refine ea_iload_n (pc := 50) dX12_clock_50 rfl 1 rfl ?_
          refine ea_iald (pc := 51) dX12_clock_51 (cShM_406 hsw1).1 (cShM_406 hsw1).2.1 (ea_vpl (cShM_406 hsw1).2.2 z2) ?_
          refine ea_goto (pc := 52) (tgt := 58) dX12_clock_52 rfl ?_
          exact ea_iretO (pc := 58) dX12_clock_58 rfl rfl E
      · have E := (if_pos c5).symm.trans E
        obtain ⟨z4, E⟩ := gd_some E
        refine ea_aload_n (pc := 32) dX12_clock_32 rfl 0 rfl ?_
        refine ea_getR (pc := 33) dX12_clock_33 ec_12 (k := 107) (Nat.le_of_ble_eq_true rfl) rfl (Or.inl ew_1509) (cShM_326 hsw1).1 (cShM_326 hsw1).2.1 (rShM_326_107 hsw1) ?_
        refine ea_iload_n (pc := 36) dX12_clock_36 rfl 1 rfl ?_
        refine ea_iald (pc := 37) dX12_clock_37 (cShM_405 hsw1).1 (cShM_405 hsw1).2.1 (ea_vpl (cShM_405 hsw1).2.2 z4) ?_
        refine ea_goto (pc := 38) (tgt := 58) dX12_clock_38 rfl ?_
        exact ea_iretO (pc := 58) dX12_clock_58 rfl rfl E
    · have E := (if_pos c7).symm.trans E
      obtain ⟨z6, E⟩ := gd_some E
      refine ea_aload_n (pc := 18) dX12_clock_18 rfl 0 rfl ?_
      refine ea_getR (pc := 19) dX12_clock_19 ec_12 (k := 106) (Nat.le_of_ble_eq_true rfl) rfl (Or.inl ew_1508) (cShM_326 hsw1).1 (cShM_326 hsw1).2.1 (rShM_326_106 hsw1) ?_
      refine ea_iload_n (pc := 22) dX12_clock_22 rfl 1 rfl ?_
      refine ea_iald (pc := 23) dX12_clock_23 (cShM_404 hsw1).1 (cShM_404 hsw1).2.1 (ea_vpl (cShM_404 hsw1).2.2 z6) ?_
      refine ea_goto (pc := 24) (tgt := 58) dX12_clock_24 rfl ?_
      exact ea_iretO (pc := 58) dX12_clock_58 rfl rfl E
  · have E := (if_pos c8).symm.trans E
    refine ea_sipush (pc := 8) dX12_clock_8 (v := (-1000)) rfl ?_
    refine ea_goto (pc := 11) (tgt := 58) dX12_clock_11 rfl ?_
    exact ea_iretO (pc := 58) dX12_clock_58 rfl rfl E
theorem kBX12_clock_0  {x1 : Int32} {x2 : Int32} {h : ea_H} : kp (ea_core h) (BX12_clock_0 x1 x2 h) :=
  (kp_bind (kp_tw (kpX12_isTrain _ _) rfl) fun w1 hcw1 => (kp_ite (kp_ret hcw1) (kp_ite (kp_gd (kp_ret hcw1)) (kp_ite (kp_gd (kp_ret hcw1)) (kp_ite (kp_gd (kp_ret hcw1)) (kp_ret hcw1))))))
noncomputable def qX12_clock (x1 : Int32) (x2 : Int32) (h : ea_H) : Option (Int32 × ea_H) := BX12_clock_0 x1 x2 h
theorem sX12_clock {d : Nat} {x1 : Int32} {x2 : Int32} {h : ea_H} {r : Int32} {h' : ea_H} (hd : 3 ≤ d) (hs : ShM h) (K : qX12_clock x1 x2 h = some (r, h')) : ea_Met mX12_clock d [vR (some 326), vI x1, vI x2] h (some (vI r)) h' := by
  unfold qX12_clock at K
  have W := tBX12_clock_0 hd (h0 := h) K hs
  exact ea_enter rfl (Nat.le_of_ble_eq_true rfl) W
theorem kpX12_clock (x1 : Int32) (x2 : Int32) (h : ea_H) : kp (ea_core h) (qX12_clock x1 x2 h) := kBX12_clock_0
noncomputable def BX12_mayShow_0 (J11 : Int32 → Int32 → Int32 → Int32 → Int32 → ea_H → Option (Int32 × ea_H)) (x1 : Int32) (x2 : Int32) (x3 : Int32) (h : ea_H) : Option (Int32 × ea_H) :=
  (gd (vp_in x1 10) (ea_let (ea_i h 404 (Int32.toNatClampNeg x1)) fun (v2 : Int32) => (J11 (x1 : Int32) (x2 : Int32) (x3 : Int32) (0 : Int32) (v2 : Int32) h)))
theorem tBX12_mayShow_0 {d : Nat} {h0 : ea_H} (hd : 2 ≤ d) {J11 : Int32 → Int32 → Int32 → Int32 → Int32 → ea_H → Option (Int32 × ea_H)}  (kJ11 : ∀ (x1 : Int32) (x2 : Int32) (x3 : Int32) (x4 : Int32) (x5 : Int32) (h : ea_H) (r : Int32) (h' : ea_H), J11 x1 x2 x3 x4 x5 h = some (r, h') → ShM h → ea_W mX12_mayShow d h0 (some (vI r)) h' 11 [(0, vR (some 326)), (1, vI x1), (2, vI x2), (3, vI x3), (4, vI x4), (5, vI x5)] [] h) {x1 : Int32} {x2 : Int32} {x3 : Int32} {h : ea_H} {r : Int32} {h' : ea_H} (E : BX12_mayShow_0 J11 x1 x2 x3 h = some (r, h')) (hs : ShM h) : ea_W mX12_mayShow d h0 (some (vI r)) h' 0 [(0, vR (some 326)), (1, vI x1), (2, vI x2), (3, vI x3)] [] h := by
  unfold BX12_mayShow_0 at E
  obtain ⟨z1, E⟩ := gd_some E
  refine ea_iconst (pc := 0) dX12_mayShow_0 (v := 0) rfl ?_
  refine ea_istore (pc := 1) (lv' := [(0, vR (some 326)), (1, vI x1), (2, vI x2), (3, vI x3), (4, vI 0)]) dX12_mayShow_1 (Nat.le_of_ble_eq_true rfl) [1, 2, 3, 4, 0] rfl ?_
  refine ea_aload_n (pc := 3) dX12_mayShow_3 rfl 0 rfl ?_
  refine ea_getR (pc := 4) dX12_mayShow_4 ec_12 (k := 106) (Nat.le_of_ble_eq_true rfl) rfl (Or.inl ew_1508) (cShM_326 hs).1 (cShM_326 hs).2.1 (rShM_326_106 hs) ?_
  refine ea_iload_n (pc := 7) dX12_mayShow_7 rfl 1 rfl ?_
  obtain ⟨v2, ev2, E⟩ := let_some E
  refine ea_iald (pc := 8) dX12_mayShow_8 (cShM_404 hs).1 (cShM_404 hs).2.1 (ea_vpl (cShM_404 hs).2.2 z1) ?_
  refine ea_istore (pc := 9) (lv' := [(0, vR (some 326)), (1, vI x1), (2, vI x2), (3, vI x3), (4, vI 0), (5, vI v2)]) dX12_mayShow_9 (Nat.le_of_ble_eq_true rfl) [1, 2, 3, 4, 5, 0] (by rw [ev2]; rfl) ?_
  exact (kJ11 (x1 : Int32) (x2 : Int32) (x3 : Int32) (0 : Int32) (v2 : Int32) h _ _ E hs)
theorem kBX12_mayShow_0 {J11 : Int32 → Int32 → Int32 → Int32 → Int32 → ea_H → Option (Int32 × ea_H)}  (cJ11 : ∀ (x1 : Int32) (x2 : Int32) (x3 : Int32) (x4 : Int32) (x5 : Int32) (h : ea_H), kp (ea_core h) (J11 x1 x2 x3 x4 x5 h)) {x1 : Int32} {x2 : Int32} {x3 : Int32} {h : ea_H} : kp (ea_core h) (BX12_mayShow_0 J11 x1 x2 x3 h) :=
  (kp_gd (kp_let (kp_tw (cJ11 _ _ _ _ _ _) rfl)))
theorem lBX12_mayShow_0 {J11 : Int32 → Int32 → Int32 → Int32 → Int32 → ea_H → Option (Int32 × ea_H)} {J11_ : Int32 → Int32 → Int32 → Int32 → Int32 → ea_H → Option (Int32 × ea_H)}  (mJ11 : ∀ (x1 : Int32) (x2 : Int32) (x3 : Int32) (x4 : Int32) (x5 : Int32) (h : ea_H), fle (J11 x1 x2 x3 x4 x5 h) (J11_ x1 x2 x3 x4 x5 h)) {x1 : Int32} {x2 : Int32} {x3 : Int32} {h : ea_H} : fle (BX12_mayShow_0 J11 x1 x2 x3 h) (BX12_mayShow_0 J11_ x1 x2 x3 h) :=
  (fle_gd (fle_let fun _ => (mJ11 _ _ _ _ _ _)))
theorem nBX12_mayShow_0 {J11 : Int32 → Int32 → Int32 → Int32 → Int32 → ea_H → Option (Int32 × ea_H)} {J11_ : Nat → (Int32 → Int32 → Int32 → Int32 → Int32 → ea_H → Option (Int32 × ea_H))}  (mJ11 : ∀ (x1 : Int32) (x2 : Int32) (x3 : Int32) (x4 : Int32) (x5 : Int32) (h : ea_H), fct (J11 x1 x2 x3 x4 x5 h) (fun f => J11_ f x1 x2 x3 x4 x5 h)) {x1 : Int32} {x2 : Int32} {x3 : Int32} {h : ea_H} : fct (BX12_mayShow_0 J11 x1 x2 x3 h) (fun f => BX12_mayShow_0 (J11_ f) x1 x2 x3 h) :=
  (fct_gd (fct_let fun _ => (mJ11 _ _ _ _ _ _)))
noncomputable def BX12_mayShow_11 (J11 : Int32 → Int32 → Int32 → Int32 → Int32 → ea_H → Option (Int32 × ea_H)) (x1 : Int32) (x2 : Int32) (x3 : Int32) (x4 : Int32) (x5 : Int32) (h : ea_H) : Option (Int32 × ea_H) :=
  (gd (vp_in x1 10) (if (ea_i h 405 (Int32.toNatClampNeg x1)) < x5 then (gd ((x4 = 0 ∨ x4 = 1)) (some (x4, h))) else (if x4 = (0 : Int32) then (Option.bind (qX12_shows (x1 : Int32) (x5 : Int32) (x3 : Int32) h) fun w6 => (if w6.1 = x2 then (J11 (x1 : Int32) (x2 : Int32) (x3 : Int32) (1 : Int32) ((x5 + (1 : Int32)) : Int32) w6.2) else (J11 (x1 : Int32) (x2 : Int32) (x3 : Int32) (0 : Int32) ((x5 + (1 : Int32)) : Int32) w6.2))) else (gd ((x4 = 0 ∨ x4 = 1)) (some (x4, h))))))
theorem tBX12_mayShow_11 {d : Nat} {h0 : ea_H} (hd : 2 ≤ d) {J11 : Int32 → Int32 → Int32 → Int32 → Int32 → ea_H → Option (Int32 × ea_H)}  (kJ11 : ∀ (x1 : Int32) (x2 : Int32) (x3 : Int32) (x4 : Int32) (x5 : Int32) (h : ea_H) (r : Int32) (h' : ea_H), J11 x1 x2 x3 x4 x5 h = some (r, h') → ShM h → ea_W mX12_mayShow d h0 (some (vI r)) h' 11 [(0, vR (some 326)), (1, vI x1), (2, vI x2), (3, vI x3), (4, vI x4), (5, vI x5)] [] h) {x1 : Int32} {x2 : Int32} {x3 : Int32} {x4 : Int32} {x5 : Int32} {h : ea_H} {r : Int32} {h' : ea_H} (E : BX12_mayShow_11 J11 x1 x2 x3 x4 x5 h = some (r, h')) (hs : ShM h) : ea_W mX12_mayShow d h0 (some (vI r)) h' 11 [(0, vR (some 326)), (1, vI x1), (2, vI x2), (3, vI x3), (4, vI x4), (5, vI x5)] [] h := by
  unfold BX12_mayShow_11 at E
  obtain ⟨z3, E⟩ := gd_some E
  refine ea_iload (pc := 11) dX12_mayShow_11 5 rfl ?_
  refine ea_aload_n (pc := 13) dX12_mayShow_13 rfl 0 rfl ?_
  refine ea_getR (pc := 14) dX12_mayShow_14 ec_12 (k := 107) (Nat.le_of_ble_eq_true rfl) rfl (Or.inl ew_1509) (cShM_326 hs).1 (cShM_326 hs).2.1 (rShM_326_107 hs) ?_
  refine ea_iload_n (pc := 17) dX12_mayShow_17 rfl 1 rfl ?_
  refine ea_iald (pc := 18) dX12_mayShow_18 (cShM_405 hs).1 (cShM_405 hs).2.1 (ea_vpl (cShM_405 hs).2.2 z3) ?_
  refine ea_icmp_gt (pc := 19) (tgt := 52) dX12_mayShow_19 rfl (fun c9 => ?_) (fun c9 => ?_)
  · have E := (if_pos c9).symm.trans E
    obtain ⟨z4, E⟩ := gd_some E
    refine ea_iload (pc := 52) dX12_mayShow_52 4 rfl ?_
    exact ea_iretO (pc := 54) dX12_mayShow_54 rfl (ea_bn z4) E
  · have E := (if_neg c9).symm.trans E
    refine ea_iload (pc := 22) dX12_mayShow_22 4 rfl ?_
    refine ea_if_ne (pc := 24) (tgt := 52) dX12_mayShow_24 rfl (fun c8 => ?_) (fun c8 => ?_)
    · have E := (if_neg c8).symm.trans E
      obtain ⟨z5, E⟩ := gd_some E
      refine ea_iload (pc := 52) dX12_mayShow_52 4 rfl ?_
      exact ea_iretO (pc := 54) dX12_mayShow_54 rfl (ea_bn z5) E
    · have E := (if_pos c8).symm.trans E
      obtain ⟨w6, Ew6, E⟩ := bd_some E
      have hsw6 : ShM w6.2 := ShM_core ((kpX12_shows _ _ _ _) _ Ew6) hs
      refine ea_aload_n (pc := 27) dX12_mayShow_27 rfl 0 rfl ?_
      refine ea_iload_n (pc := 28) dX12_mayShow_28 rfl 1 rfl ?_
      refine ea_iload (pc := 29) dX12_mayShow_29 5 rfl ?_
      refine ea_iload_n (pc := 31) dX12_mayShow_31 rfl 3 rfl ?_
      refine ea_callV (pc := 32) (d' := d - 1) (As := [vI x1, vI x5, vI x3]) (st := []) dX12_mayShow_32 kX12_shows (sX12_shows (d := d - 1) (by omega) hs Ew6) (by omega) rfl (Nat.le_of_ble_eq_true rfl) ew_2207 ew_2209 ew_109 (ci := 12) rfl (by decide) (cShM_326 hs).1 (cShM_326 hs).2.1 ?_
      refine ea_iload_n (pc := 35) dX12_mayShow_35 rfl 2 rfl ?_
      refine ea_icmp_ne (pc := 36) (tgt := 43) dX12_mayShow_36 rfl (fun c7 => ?_) (fun c7 => ?_)
      · have E := (if_neg c7).symm.trans E
        refine ea_iconst (pc := 43) dX12_mayShow_43 (v := 0) rfl ?_
        refine ea_istore (pc := 44) (lv' := [(0, vR (some 326)), (1, vI x1), (2, vI x2), (3, vI x3), (4, vI 0), (5, vI x5)]) dX12_mayShow_44 (Nat.le_of_ble_eq_true rfl) [1, 2, 3, 4, 0, 5] rfl ?_
        refine ea_iinc (pc := 46) (v := 1) (lv' := [(0, vR (some 326)), (1, vI x1), (2, vI x2), (3, vI x3), (4, vI 0), (5, vI (x5 + (1 : Int32)))]) dX12_mayShow_46 5 rfl rfl (Nat.le_of_ble_eq_true rfl) [1, 2, 3, 4, 5, 0] rfl ?_
        refine ea_goto (pc := 49) (tgt := 11) dX12_mayShow_49 rfl ?_
        exact (kJ11 (x1 : Int32) (x2 : Int32) (x3 : Int32) (0 : Int32) ((x5 + (1 : Int32)) : Int32) w6.2 _ _ E hsw6)
      · have E := (if_pos c7).symm.trans E
        refine ea_iconst (pc := 39) dX12_mayShow_39 (v := 1) rfl ?_
        refine ea_goto (pc := 40) (tgt := 44) dX12_mayShow_40 rfl ?_
        refine ea_istore (pc := 44) (lv' := [(0, vR (some 326)), (1, vI x1), (2, vI x2), (3, vI x3), (4, vI 1), (5, vI x5)]) dX12_mayShow_44 (Nat.le_of_ble_eq_true rfl) [1, 2, 3, 4, 0, 5] rfl ?_
        refine ea_iinc (pc := 46) (v := 1) (lv' := [(0, vR (some 326)), (1, vI x1), (2, vI x2), (3, vI x3), (4, vI 1), (5, vI (x5 + (1 : Int32)))]) dX12_mayShow_46 5 rfl rfl (Nat.le_of_ble_eq_true rfl) [1, 2, 3, 4, 5, 0] rfl ?_
        refine ea_goto (pc := 49) (tgt := 11) dX12_mayShow_49 rfl ?_
        exact (kJ11 (x1 : Int32) (x2 : Int32) (x3 : Int32) (1 : Int32) ((x5 + (1 : Int32)) : Int32) w6.2 _ _ E hsw6)
theorem kBX12_mayShow_11 {J11 : Int32 → Int32 → Int32 → Int32 → Int32 → ea_H → Option (Int32 × ea_H)}  (cJ11 : ∀ (x1 : Int32) (x2 : Int32) (x3 : Int32) (x4 : Int32) (x5 : Int32) (h : ea_H), kp (ea_core h) (J11 x1 x2 x3 x4 x5 h)) {x1 : Int32} {x2 : Int32} {x3 : Int32} {x4 : Int32} {x5 : Int32} {h : ea_H} : kp (ea_core h) (BX12_mayShow_11 J11 x1 x2 x3 x4 x5 h) :=
  (kp_gd (kp_ite (kp_gd (kp_ret rfl)) (kp_ite (kp_bind (kp_tw (kpX12_shows _ _ _ _) rfl) fun w6 hcw6 => (kp_ite (kp_tw (cJ11 _ _ _ _ _ _) hcw6) (kp_tw (cJ11 _ _ _ _ _ _) hcw6))) (kp_gd (kp_ret rfl)))))
theorem lBX12_mayShow_11 {J11 : Int32 → Int32 → Int32 → Int32 → Int32 → ea_H → Option (Int32 × ea_H)} {J11_ : Int32 → Int32 → Int32 → Int32 → Int32 → ea_H → Option (Int32 × ea_H)}  (mJ11 : ∀ (x1 : Int32) (x2 : Int32) (x3 : Int32) (x4 : Int32) (x5 : Int32) (h : ea_H), fle (J11 x1 x2 x3 x4 x5 h) (J11_ x1 x2 x3 x4 x5 h)) {x1 : Int32} {x2 : Int32} {x3 : Int32} {x4 : Int32} {x5 : Int32} {h : ea_H} : fle (BX12_mayShow_11 J11 x1 x2 x3 x4 x5 h) (BX12_mayShow_11 J11_ x1 x2 x3 x4 x5 h) :=
  (fle_gd (fle_ite (fle_rfl _) (fle_ite (fle_bind (fle_rfl _) fun _ => (fle_ite (mJ11 _ _ _ _ _ _) (mJ11 _ _ _ _ _ _))) (fle_rfl _))))
theorem nBX12_mayShow_11 {J11 : Int32 → Int32 → Int32 → Int32 → Int32 → ea_H → Option (Int32 × ea_H)} {J11_ : Nat → (Int32 → Int32 → Int32 → Int32 → Int32 → ea_H → Option (Int32 × ea_H))}  (mJ11 : ∀ (x1 : Int32) (x2 : Int32) (x3 : Int32) (x4 : Int32) (x5 : Int32) (h : ea_H), fct (J11 x1 x2 x3 x4 x5 h) (fun f => J11_ f x1 x2 x3 x4 x5 h)) {x1 : Int32} {x2 : Int32} {x3 : Int32} {x4 : Int32} {x5 : Int32} {h : ea_H} : fct (BX12_mayShow_11 J11 x1 x2 x3 x4 x5 h) (fun f => BX12_mayShow_11 (J11_ f) x1 x2 x3 x4 x5 h) :=
  (fct_gd (fct_ite (fct_rfl _) (fct_ite (fct_bind (fct_rfl _) fun _ => (fct_ite (mJ11 _ _ _ _ _ _) (mJ11 _ _ _ _ _ _))) (fct_rfl _))))
noncomputable def gX12_mayShow : Nat → (Int32 → Int32 → Int32 → ea_H → Option (Int32 × ea_H)) × (Int32 → Int32 → Int32 → Int32 → Int32 → ea_H → Option (Int32 × ea_H))
  | 0 => (fun _ _ _ _ => none, fun _ _ _ _ _ _ => none)
  | f + 1 => (BX12_mayShow_0 (gX12_mayShow f).2, BX12_mayShow_11 (gX12_mayShow f).2)
theorem mgX12_mayShow : ∀ f : Nat, (∀ (x1 : Int32) (x2 : Int32) (x3 : Int32) (h : ea_H), fle ((gX12_mayShow f).1 x1 x2 x3 h) ((gX12_mayShow (f + 1)).1 x1 x2 x3 h)) ∧ (∀ (x1 : Int32) (x2 : Int32) (x3 : Int32) (x4 : Int32) (x5 : Int32) (h : ea_H), fle ((gX12_mayShow f).2 x1 x2 x3 x4 x5 h) ((gX12_mayShow (f + 1)).2 x1 x2 x3 x4 x5 h)) := by
  intro f
  induction f with
  | zero => exact ⟨fun _ _ _ _ => fle_none _, fun _ _ _ _ _ _ => fle_none _⟩
  | succ f ih => exact ⟨fun _ _ _ _ => lBX12_mayShow_0 ih.2, fun _ _ _ _ _ _ => lBX12_mayShow_11 ih.2⟩
noncomputable def qX12_mayShow_0 (x1 : Int32) (x2 : Int32) (x3 : Int32) (h : ea_H) : Option (Int32 × ea_H) := flim fun f => (gX12_mayShow f).1 x1 x2 x3 h
noncomputable def qX12_mayShow_11 (x1 : Int32) (x2 : Int32) (x3 : Int32) (x4 : Int32) (x5 : Int32) (h : ea_H) : Option (Int32 × ea_H) := flim fun f => (gX12_mayShow f).2 x1 x2 x3 x4 x5 h
theorem fqX12_mayShow_0 (x1 : Int32) (x2 : Int32) (x3 : Int32) (h : ea_H) : fct (qX12_mayShow_0 x1 x2 x3 h) fun f => (gX12_mayShow f).1 x1 x2 x3 h := flim_ct fun f => (mgX12_mayShow f).1 x1 x2 x3 h
theorem fqX12_mayShow_11 (x1 : Int32) (x2 : Int32) (x3 : Int32) (x4 : Int32) (x5 : Int32) (h : ea_H) : fct (qX12_mayShow_11 x1 x2 x3 x4 x5 h) fun f => (gX12_mayShow f).2 x1 x2 x3 x4 x5 h := flim_ct fun f => (mgX12_mayShow f).2 x1 x2 x3 x4 x5 h
/-- how a block opens -/
theorem uqX12_mayShow_0 {x1 : Int32} {x2 : Int32} {x3 : Int32} {h : ea_H} {P : Int32 × ea_H → Prop} (H : sat (BX12_mayShow_0 qX12_mayShow_11 x1 x2 x3 h) P) : sat (qX12_mayShow_0 x1 x2 x3 h) P := by
  obtain ⟨x, e, hp⟩ := H
  obtain ⟨n, hn⟩ := nBX12_mayShow_0 fqX12_mayShow_11 x e
  exact ⟨x, flim_at (fun f => (mgX12_mayShow f).1 x1 x2 x3 h) (f := n + 1) (hn n (Nat.le_refl _)), hp⟩
/-- how a block opens -/
theorem uqX12_mayShow_11 {x1 : Int32} {x2 : Int32} {x3 : Int32} {x4 : Int32} {x5 : Int32} {h : ea_H} {P : Int32 × ea_H → Prop} (H : sat (BX12_mayShow_11 qX12_mayShow_11 x1 x2 x3 x4 x5 h) P) : sat (qX12_mayShow_11 x1 x2 x3 x4 x5 h) P := by
  obtain ⟨x, e, hp⟩ := H
  obtain ⟨n, hn⟩ := nBX12_mayShow_11 fqX12_mayShow_11 x e
  exact ⟨x, flim_at (fun f => (mgX12_mayShow f).2 x1 x2 x3 x4 x5 h) (f := n + 1) (hn n (Nat.le_refl _)), hp⟩
theorem kgX12_mayShow : ∀ f : Nat, (∀ (x1 : Int32) (x2 : Int32) (x3 : Int32) (h : ea_H), kp (ea_core h) ((gX12_mayShow f).1 x1 x2 x3 h)) ∧ (∀ (x1 : Int32) (x2 : Int32) (x3 : Int32) (x4 : Int32) (x5 : Int32) (h : ea_H), kp (ea_core h) ((gX12_mayShow f).2 x1 x2 x3 x4 x5 h)) := by
  intro f
  induction f with
  | zero => exact ⟨fun _ _ _ _ => kp_none _, fun _ _ _ _ _ _ => kp_none _⟩
  | succ f ih => exact ⟨fun _ _ _ _ => kBX12_mayShow_0 ih.2, fun _ _ _ _ _ _ => kBX12_mayShow_11 ih.2⟩
theorem tgX12_mayShow {d : Nat} {h0 : ea_H} (hd : 2 ≤ d) : ∀ f : Nat, (∀ (x1 : Int32) (x2 : Int32) (x3 : Int32) (h : ea_H) (r : Int32) (h' : ea_H), (gX12_mayShow f).1 x1 x2 x3 h = some (r, h') → ShM h → ea_W mX12_mayShow d h0 (some (vI r)) h' 0 [(0, vR (some 326)), (1, vI x1), (2, vI x2), (3, vI x3)] [] h) ∧ (∀ (x1 : Int32) (x2 : Int32) (x3 : Int32) (x4 : Int32) (x5 : Int32) (h : ea_H) (r : Int32) (h' : ea_H), (gX12_mayShow f).2 x1 x2 x3 x4 x5 h = some (r, h') → ShM h → ea_W mX12_mayShow d h0 (some (vI r)) h' 11 [(0, vR (some 326)), (1, vI x1), (2, vI x2), (3, vI x3), (4, vI x4), (5, vI x5)] [] h) := by
  intro f
  induction f with
  | zero => exact ⟨fun _ _ _ _ _ _ E => no_some E, fun _ _ _ _ _ _ _ _ E => no_some E⟩
  | succ f ih => exact ⟨fun _ _ _ _ _ _ E hs => tBX12_mayShow_0 hd ih.2 E hs, fun _ _ _ _ _ _ _ _ E hs => tBX12_mayShow_11 hd ih.2 E hs⟩
noncomputable def qX12_mayShow (x1 : Int32) (x2 : Int32) (x3 : Int32) (h : ea_H) : Option (Int32 × ea_H) := qX12_mayShow_0 x1 x2 x3 h
theorem sX12_mayShow {d : Nat} {x1 : Int32} {x2 : Int32} {x3 : Int32} {h : ea_H} {r : Int32} {h' : ea_H} (hd : 2 ≤ d) (hs : ShM h) (K : qX12_mayShow x1 x2 x3 h = some (r, h')) : ea_Met mX12_mayShow d [vR (some 326), vI x1, vI x2, vI x3] h (some (vI r)) h' := by
  unfold qX12_mayShow at K
  obtain ⟨n, hn⟩ := fqX12_mayShow_0 x1 x2 x3 h _ K
  have W := (tgX12_mayShow (d := d) (h0 := h) hd n).1 x1 x2 x3 h _ _ (hn n (Nat.le_refl _)) hs
  exact ea_enter rfl (Nat.le_of_ble_eq_true rfl) W
theorem kpX12_mayShow (x1 : Int32) (x2 : Int32) (x3 : Int32) (h : ea_H) : kp (ea_core h) (qX12_mayShow x1 x2 x3 h) := fun x e => by
  obtain ⟨n, hn⟩ := fqX12_mayShow_0 x1 x2 x3 h x e
  exact (kgX12_mayShow n).1 x1 x2 x3 h x (hn n (Nat.le_refl _))
noncomputable def BX12_trueMinute_0 (J37 : Int32 → Int32 → Int32 → Int32 → Int32 → ea_H → Option (Int32 × ea_H)) (x1 : Int32) (x2 : Int32) (x3 : Int32) (h : ea_H) : Option (Int32 × ea_H) :=
  (Option.bind (qX12_isTrain (x1 : Int32) h) fun w1 => (if w1.1 = (0 : Int32) then (some (((-1) : Int32), w1.2)) else (Option.bind (qX12_isMinute (x2 : Int32) w1.2) fun w2 => (if w2.1 = (0 : Int32) then (some (((-1) : Int32), w2.2)) else (Option.bind (qX12_isIn (x3 : Int32) (0 : Int32) (1 : Int32) w2.2) fun w3 => (if w3.1 = (0 : Int32) then (some (((-1) : Int32), w3.2)) else (gd (vp_in x1 10) (ea_let (ea_i w3.2 406 (Int32.toNatClampNeg x1)) fun (v5 : Int32) => (J37 (x1 : Int32) (x2 : Int32) (x3 : Int32) ((-1) : Int32) (v5 : Int32) w3.2)))))))))
theorem tBX12_trueMinute_0 {d : Nat} {h0 : ea_H} (hd : 3 ≤ d) {J37 : Int32 → Int32 → Int32 → Int32 → Int32 → ea_H → Option (Int32 × ea_H)}  (kJ37 : ∀ (x1 : Int32) (x2 : Int32) (x3 : Int32) (x4 : Int32) (x5 : Int32) (h : ea_H) (r : Int32) (h' : ea_H), J37 x1 x2 x3 x4 x5 h = some (r, h') → ShM h → ea_W mX12_trueMinute d h0 (some (vI r)) h' 37 [(0, vR (some 326)), (1, vI x1), (2, vI x2), (3, vI x3), (4, vI x4), (5, vI x5)] [] h) {x1 : Int32} {x2 : Int32} {x3 : Int32} {h : ea_H} {r : Int32} {h' : ea_H} (E : BX12_trueMinute_0 J37 x1 x2 x3 h = some (r, h')) (hs : ShM h) : ea_W mX12_trueMinute d h0 (some (vI r)) h' 0 [(0, vR (some 326)), (1, vI x1), (2, vI x2), (3, vI x3)] [] h := by
  unfold BX12_trueMinute_0 at E
  obtain ⟨w1, Ew1, E⟩ := bd_some E
  have hsw1 : ShM w1.2 := ShM_core ((kpX12_isTrain _ _) _ Ew1) hs
  refine ea_aload_n (pc := 0) dX12_trueMinute_0 rfl 0 rfl ?_
  refine ea_iload_n (pc := 1) dX12_trueMinute_1 rfl 1 rfl ?_
  refine ea_callV (pc := 2) (d' := d - 1) (As := [vI x1]) (st := []) dX12_trueMinute_2 kX12_isTrain (sX12_isTrain (d := d - 1) (by omega) hs Ew1) (by omega) rfl (Nat.le_of_ble_eq_true rfl) ew_1793 ew_1795 ew_57 (ci := 12) rfl (by decide) (cShM_326 hs).1 (cShM_326 hs).2.1 ?_
  refine ea_if_eq (pc := 5) (tgt := 24) dX12_trueMinute_5 rfl (fun c8 => ?_) (fun c8 => ?_)
  · have E := (if_pos c8).symm.trans E
    refine ea_iconst (pc := 24) dX12_trueMinute_24 (v := (-1)) rfl ?_
    exact ea_iretO (pc := 25) dX12_trueMinute_25 rfl rfl E
  · have E := (if_neg c8).symm.trans E
    obtain ⟨w2, Ew2, E⟩ := bd_some E
    have hsw2 : ShM w2.2 := ShM_core ((kpX12_isMinute _ _) _ Ew2) hsw1
    refine ea_iload_n (pc := 8) dX12_trueMinute_8 rfl 2 rfl ?_
    refine ea_callS (pc := 9) (d' := d - 1) (As := [vI x2]) (st := []) dX12_trueMinute_9 kX12_isMinute (sX12_isMinute (d := d - 1) (by omega) Ew2) (by omega) rfl (Nat.le_of_ble_eq_true rfl) ew_2204 ew_2205 ?_
    refine ea_if_eq (pc := 12) (tgt := 24) dX12_trueMinute_12 rfl (fun c7 => ?_) (fun c7 => ?_)
    · have E := (if_pos c7).symm.trans E
      refine ea_iconst (pc := 24) dX12_trueMinute_24 (v := (-1)) rfl ?_
      exact ea_iretO (pc := 25) dX12_trueMinute_25 rfl rfl E
    · have E := (if_neg c7).symm.trans E
      obtain ⟨w3, Ew3, E⟩ := bd_some E
      have hsw3 : ShM w3.2 := ShM_core ((kpX12_isIn _ _ _ _) _ Ew3) hsw2
      refine ea_iload_n (pc := 15) dX12_trueMinute_15 rfl 3 rfl ?_
      refine ea_iconst (pc := 16) dX12_trueMinute_16 (v := 0) rfl ?_
      refine ea_iconst (pc := 17) dX12_trueMinute_17 (v := 1) rfl ?_
      refine ea_callS (pc := 18) (d' := d - 1) (As := [vI x3, vI 0, vI 1]) (st := []) dX12_trueMinute_18 kX12_isIn (sX12_isIn (d := d - 1) (by omega) Ew3) (by omega) rfl (Nat.le_of_ble_eq_true rfl) ew_1769 ew_1770 ?_
      refine ea_if_ne (pc := 21) (tgt := 26) dX12_trueMinute_21 rfl (fun c6 => ?_) (fun c6 => ?_)
      · have E := (if_neg c6).symm.trans E
        obtain ⟨z4, E⟩ := gd_some E
        refine ea_iconst (pc := 26) dX12_trueMinute_26 (v := (-1)) rfl ?_
        refine ea_istore (pc := 27) (lv' := [(0, vR (some 326)), (1, vI x1), (2, vI x2), (3, vI x3), (4, vI (-1))]) dX12_trueMinute_27 (Nat.le_of_ble_eq_true rfl) [1, 2, 3, 4, 0] rfl ?_
        refine ea_aload_n (pc := 29) dX12_trueMinute_29 rfl 0 rfl ?_
        refine ea_getR (pc := 30) dX12_trueMinute_30 ec_12 (k := 108) (Nat.le_of_ble_eq_true rfl) rfl (Or.inl ew_1510) (cShM_326 hsw3).1 (cShM_326 hsw3).2.1 (rShM_326_108 hsw3) ?_
        refine ea_iload_n (pc := 33) dX12_trueMinute_33 rfl 1 rfl ?_
        obtain ⟨v5, ev5, E⟩ := let_some E
        refine ea_iald (pc := 34) dX12_trueMinute_34 (cShM_406 hsw3).1 (cShM_406 hsw3).2.1 (ea_vpl (cShM_406 hsw3).2.2 z4) ?_
        refine ea_istore (pc := 35) (lv' := [(0, vR (some 326)), (1, vI x1), (2, vI x2), (3, vI x3), (4, vI (-1)), (5, vI v5)]) dX12_trueMinute_35 (Nat.le_of_ble_eq_true rfl) [1, 2, 3, 4, 5, 0] (by rw [ev5]; rfl) ?_
        exact (kJ37 (x1 : Int32) (x2 : Int32) (x3 : Int32) ((-1) : Int32) (v5 : Int32) w3.2 _ _ E hsw3)
      · have E := (if_pos c6).symm.trans E
        refine ea_iconst (pc := 24) dX12_trueMinute_24 (v := (-1)) rfl ?_
        exact ea_iretO (pc := 25) dX12_trueMinute_25 rfl rfl E
theorem kBX12_trueMinute_0 {J37 : Int32 → Int32 → Int32 → Int32 → Int32 → ea_H → Option (Int32 × ea_H)}  (cJ37 : ∀ (x1 : Int32) (x2 : Int32) (x3 : Int32) (x4 : Int32) (x5 : Int32) (h : ea_H), kp (ea_core h) (J37 x1 x2 x3 x4 x5 h)) {x1 : Int32} {x2 : Int32} {x3 : Int32} {h : ea_H} : kp (ea_core h) (BX12_trueMinute_0 J37 x1 x2 x3 h) :=
  (kp_bind (kp_tw (kpX12_isTrain _ _) rfl) fun w1 hcw1 => (kp_ite (kp_ret hcw1) (kp_bind (kp_tw (kpX12_isMinute _ _) hcw1) fun w2 hcw2 => (kp_ite (kp_ret hcw2) (kp_bind (kp_tw (kpX12_isIn _ _ _ _) hcw2) fun w3 hcw3 => (kp_ite (kp_ret hcw3) (kp_gd (kp_let (kp_tw (cJ37 _ _ _ _ _ _) hcw3)))))))))
theorem lBX12_trueMinute_0 {J37 : Int32 → Int32 → Int32 → Int32 → Int32 → ea_H → Option (Int32 × ea_H)} {J37_ : Int32 → Int32 → Int32 → Int32 → Int32 → ea_H → Option (Int32 × ea_H)}  (mJ37 : ∀ (x1 : Int32) (x2 : Int32) (x3 : Int32) (x4 : Int32) (x5 : Int32) (h : ea_H), fle (J37 x1 x2 x3 x4 x5 h) (J37_ x1 x2 x3 x4 x5 h)) {x1 : Int32} {x2 : Int32} {x3 : Int32} {h : ea_H} : fle (BX12_trueMinute_0 J37 x1 x2 x3 h) (BX12_trueMinute_0 J37_ x1 x2 x3 h) :=
  (fle_bind (fle_rfl _) fun _ => (fle_ite (fle_rfl _) (fle_bind (fle_rfl _) fun _ => (fle_ite (fle_rfl _) (fle_bind (fle_rfl _) fun _ => (fle_ite (fle_rfl _) (fle_gd (fle_let fun _ => (mJ37 _ _ _ _ _ _)))))))))
theorem nBX12_trueMinute_0 {J37 : Int32 → Int32 → Int32 → Int32 → Int32 → ea_H → Option (Int32 × ea_H)} {J37_ : Nat → (Int32 → Int32 → Int32 → Int32 → Int32 → ea_H → Option (Int32 × ea_H))}  (mJ37 : ∀ (x1 : Int32) (x2 : Int32) (x3 : Int32) (x4 : Int32) (x5 : Int32) (h : ea_H), fct (J37 x1 x2 x3 x4 x5 h) (fun f => J37_ f x1 x2 x3 x4 x5 h)) {x1 : Int32} {x2 : Int32} {x3 : Int32} {h : ea_H} : fct (BX12_trueMinute_0 J37 x1 x2 x3 h) (fun f => BX12_trueMinute_0 (J37_ f) x1 x2 x3 h) :=
  (fct_bind (fct_rfl _) fun _ => (fct_ite (fct_rfl _) (fct_bind (fct_rfl _) fun _ => (fct_ite (fct_rfl _) (fct_bind (fct_rfl _) fun _ => (fct_ite (fct_rfl _) (fct_gd (fct_let fun _ => (mJ37 _ _ _ _ _ _)))))))))
noncomputable def BX12_trueMinute_37 (J56 : Int32 → Int32 → Int32 → Int32 → Int32 → ea_H → Option (Int32 × ea_H)) (x1 : Int32) (x2 : Int32) (x3 : Int32) (x4 : Int32) (x5 : Int32) (h : ea_H) : Option (Int32 × ea_H) :=
  (if (10079 : Int32) < x5 then (some (x4, h)) else (if x3 = (1 : Int32) then (J56 (x1 : Int32) (x2 : Int32) (x3 : Int32) (x4 : Int32) (x5 : Int32) h) else (if x4 = ((-1) : Int32) then (J56 (x1 : Int32) (x2 : Int32) (x3 : Int32) (x4 : Int32) (x5 : Int32) h) else (some (x4, h)))))
theorem tBX12_trueMinute_37 {d : Nat} {h0 : ea_H} (hd : 3 ≤ d) {J56 : Int32 → Int32 → Int32 → Int32 → Int32 → ea_H → Option (Int32 × ea_H)}  (kJ56 : ∀ (x1 : Int32) (x2 : Int32) (x3 : Int32) (x4 : Int32) (x5 : Int32) (h : ea_H) (r : Int32) (h' : ea_H), J56 x1 x2 x3 x4 x5 h = some (r, h') → ShM h → ea_W mX12_trueMinute d h0 (some (vI r)) h' 56 [(0, vR (some 326)), (1, vI x1), (2, vI x2), (3, vI x3), (4, vI x4), (5, vI x5)] [] h) {x1 : Int32} {x2 : Int32} {x3 : Int32} {x4 : Int32} {x5 : Int32} {h : ea_H} {r : Int32} {h' : ea_H} (E : BX12_trueMinute_37 J56 x1 x2 x3 x4 x5 h = some (r, h')) (hs : ShM h) : ea_W mX12_trueMinute d h0 (some (vI r)) h' 37 [(0, vR (some 326)), (1, vI x1), (2, vI x2), (3, vI x3), (4, vI x4), (5, vI x5)] [] h := by
  unfold BX12_trueMinute_37 at E
  refine ea_iload (pc := 37) dX12_trueMinute_37 5 rfl ?_
  refine ea_sipush (pc := 39) dX12_trueMinute_39 (v := 10079) rfl ?_
  refine ea_icmp_gt (pc := 42) (tgt := 77) dX12_trueMinute_42 rfl (fun c11 => ?_) (fun c11 => ?_)
  · have E := (if_pos c11).symm.trans E
    refine ea_iload (pc := 77) dX12_trueMinute_77 4 rfl ?_
    exact ea_iretO (pc := 79) dX12_trueMinute_79 rfl rfl E
  · have E := (if_neg c11).symm.trans E
    refine ea_iload_n (pc := 45) dX12_trueMinute_45 rfl 3 rfl ?_
    refine ea_iconst (pc := 46) dX12_trueMinute_46 (v := 1) rfl ?_
    refine ea_icmp_eq (pc := 47) (tgt := 56) dX12_trueMinute_47 rfl (fun c10 => ?_) (fun c10 => ?_)
    · have E := (if_pos c10).symm.trans E
      exact (kJ56 (x1 : Int32) (x2 : Int32) (x3 : Int32) (x4 : Int32) (x5 : Int32) h _ _ E hs)
    · have E := (if_neg c10).symm.trans E
      refine ea_iload (pc := 50) dX12_trueMinute_50 4 rfl ?_
      refine ea_iconst (pc := 52) dX12_trueMinute_52 (v := (-1)) rfl ?_
      refine ea_icmp_ne (pc := 53) (tgt := 77) dX12_trueMinute_53 rfl (fun c9 => ?_) (fun c9 => ?_)
      · have E := (if_neg c9).symm.trans E
        refine ea_iload (pc := 77) dX12_trueMinute_77 4 rfl ?_
        exact ea_iretO (pc := 79) dX12_trueMinute_79 rfl rfl E
      · have E := (if_pos c9).symm.trans E
        exact (kJ56 (x1 : Int32) (x2 : Int32) (x3 : Int32) (x4 : Int32) (x5 : Int32) h _ _ E hs)
theorem kBX12_trueMinute_37 {J56 : Int32 → Int32 → Int32 → Int32 → Int32 → ea_H → Option (Int32 × ea_H)}  (cJ56 : ∀ (x1 : Int32) (x2 : Int32) (x3 : Int32) (x4 : Int32) (x5 : Int32) (h : ea_H), kp (ea_core h) (J56 x1 x2 x3 x4 x5 h)) {x1 : Int32} {x2 : Int32} {x3 : Int32} {x4 : Int32} {x5 : Int32} {h : ea_H} : kp (ea_core h) (BX12_trueMinute_37 J56 x1 x2 x3 x4 x5 h) :=
  (kp_ite (kp_ret rfl) (kp_ite (kp_tw (cJ56 _ _ _ _ _ _) rfl) (kp_ite (kp_tw (cJ56 _ _ _ _ _ _) rfl) (kp_ret rfl))))
theorem lBX12_trueMinute_37 {J56 : Int32 → Int32 → Int32 → Int32 → Int32 → ea_H → Option (Int32 × ea_H)} {J56_ : Int32 → Int32 → Int32 → Int32 → Int32 → ea_H → Option (Int32 × ea_H)}  (mJ56 : ∀ (x1 : Int32) (x2 : Int32) (x3 : Int32) (x4 : Int32) (x5 : Int32) (h : ea_H), fle (J56 x1 x2 x3 x4 x5 h) (J56_ x1 x2 x3 x4 x5 h)) {x1 : Int32} {x2 : Int32} {x3 : Int32} {x4 : Int32} {x5 : Int32} {h : ea_H} : fle (BX12_trueMinute_37 J56 x1 x2 x3 x4 x5 h) (BX12_trueMinute_37 J56_ x1 x2 x3 x4 x5 h) :=
  (fle_ite (fle_rfl _) (fle_ite (mJ56 _ _ _ _ _ _) (fle_ite (mJ56 _ _ _ _ _ _) (fle_rfl _))))
theorem nBX12_trueMinute_37 {J56 : Int32 → Int32 → Int32 → Int32 → Int32 → ea_H → Option (Int32 × ea_H)} {J56_ : Nat → (Int32 → Int32 → Int32 → Int32 → Int32 → ea_H → Option (Int32 × ea_H))}  (mJ56 : ∀ (x1 : Int32) (x2 : Int32) (x3 : Int32) (x4 : Int32) (x5 : Int32) (h : ea_H), fct (J56 x1 x2 x3 x4 x5 h) (fun f => J56_ f x1 x2 x3 x4 x5 h)) {x1 : Int32} {x2 : Int32} {x3 : Int32} {x4 : Int32} {x5 : Int32} {h : ea_H} : fct (BX12_trueMinute_37 J56 x1 x2 x3 x4 x5 h) (fun f => BX12_trueMinute_37 (J56_ f) x1 x2 x3 x4 x5 h) :=
  (fct_ite (fct_rfl _) (fct_ite (mJ56 _ _ _ _ _ _) (fct_ite (mJ56 _ _ _ _ _ _) (fct_rfl _))))
noncomputable def BX12_trueMinute_56 (J37 : Int32 → Int32 → Int32 → Int32 → Int32 → ea_H → Option (Int32 × ea_H)) (x1 : Int32) (x2 : Int32) (x3 : Int32) (x4 : Int32) (x5 : Int32) (h : ea_H) : Option (Int32 × ea_H) :=
  (Option.bind (qX12_mayShow (x1 : Int32) (x2 : Int32) (x5 : Int32) h) fun w12 => (if w12.1 = (0 : Int32) then (J37 (x1 : Int32) (x2 : Int32) (x3 : Int32) (x4 : Int32) ((x5 + (1 : Int32)) : Int32) w12.2) else (J37 (x1 : Int32) (x2 : Int32) (x3 : Int32) (x5 : Int32) ((x5 + (1 : Int32)) : Int32) w12.2)))
theorem tBX12_trueMinute_56 {d : Nat} {h0 : ea_H} (hd : 3 ≤ d) {J37 : Int32 → Int32 → Int32 → Int32 → Int32 → ea_H → Option (Int32 × ea_H)}  (kJ37 : ∀ (x1 : Int32) (x2 : Int32) (x3 : Int32) (x4 : Int32) (x5 : Int32) (h : ea_H) (r : Int32) (h' : ea_H), J37 x1 x2 x3 x4 x5 h = some (r, h') → ShM h → ea_W mX12_trueMinute d h0 (some (vI r)) h' 37 [(0, vR (some 326)), (1, vI x1), (2, vI x2), (3, vI x3), (4, vI x4), (5, vI x5)] [] h) {x1 : Int32} {x2 : Int32} {x3 : Int32} {x4 : Int32} {x5 : Int32} {h : ea_H} {r : Int32} {h' : ea_H} (E : BX12_trueMinute_56 J37 x1 x2 x3 x4 x5 h = some (r, h')) (hs : ShM h) : ea_W mX12_trueMinute d h0 (some (vI r)) h' 56 [(0, vR (some 326)), (1, vI x1), (2, vI x2), (3, vI x3), (4, vI x4), (5, vI x5)] [] h := by
  unfold BX12_trueMinute_56 at E
  obtain ⟨w12, Ew12, E⟩ := bd_some E
  have hsw12 : ShM w12.2 := ShM_core ((kpX12_mayShow _ _ _ _) _ Ew12) hs
  refine ea_aload_n (pc := 56) dX12_trueMinute_56 rfl 0 rfl ?_
  refine ea_iload_n (pc := 57) dX12_trueMinute_57 rfl 1 rfl ?_
  refine ea_iload_n (pc := 58) dX12_trueMinute_58 rfl 2 rfl ?_
  refine ea_iload (pc := 59) dX12_trueMinute_59 5 rfl ?_
  refine ea_callV (pc := 61) (d' := d - 1) (As := [vI x1, vI x2, vI x5]) (st := []) dX12_trueMinute_61 kX12_mayShow (sX12_mayShow (d := d - 1) (by omega) hs Ew12) (by omega) rfl (Nat.le_of_ble_eq_true rfl) ew_2220 ew_2222 ew_110 (ci := 12) rfl (by decide) (cShM_326 hs).1 (cShM_326 hs).2.1 ?_
  refine ea_if_eq (pc := 64) (tgt := 71) dX12_trueMinute_64 rfl (fun c13 => ?_) (fun c13 => ?_)
  · have E := (if_pos c13).symm.trans E
    refine ea_iinc (pc := 71) (v := 1) (lv' := [(0, vR (some 326)), (1, vI x1), (2, vI x2), (3, vI x3), (4, vI x4), (5, vI (x5 + (1 : Int32)))]) dX12_trueMinute_71 5 rfl rfl (Nat.le_of_ble_eq_true rfl) [1, 2, 3, 4, 5, 0] rfl ?_
    refine ea_goto (pc := 74) (tgt := 37) dX12_trueMinute_74 rfl ?_
    exact (kJ37 (x1 : Int32) (x2 : Int32) (x3 : Int32) (x4 : Int32) ((x5 + (1 : Int32)) : Int32) w12.2 _ _ E hsw12)
  · have E := (if_neg c13).symm.trans E
    refine ea_iload (pc := 67) dX12_trueMinute_67 5 rfl ?_
    refine ea_istore (pc := 69) (lv' := [(0, vR (some 326)), (1, vI x1), (2, vI x2), (3, vI x3), (4, vI x5), (5, vI x5)]) dX12_trueMinute_69 (Nat.le_of_ble_eq_true rfl) [1, 2, 3, 4, 0, 5] rfl ?_
    refine ea_iinc (pc := 71) (v := 1) (lv' := [(0, vR (some 326)), (1, vI x1), (2, vI x2), (3, vI x3), (4, vI x5), (5, vI (x5 + (1 : Int32)))]) dX12_trueMinute_71 5 rfl rfl (Nat.le_of_ble_eq_true rfl) [1, 2, 3, 4, 5, 0] rfl ?_
    refine ea_goto (pc := 74) (tgt := 37) dX12_trueMinute_74 rfl ?_
    exact (kJ37 (x1 : Int32) (x2 : Int32) (x3 : Int32) (x5 : Int32) ((x5 + (1 : Int32)) : Int32) w12.2 _ _ E hsw12)
theorem kBX12_trueMinute_56 {J37 : Int32 → Int32 → Int32 → Int32 → Int32 → ea_H → Option (Int32 × ea_H)}  (cJ37 : ∀ (x1 : Int32) (x2 : Int32) (x3 : Int32) (x4 : Int32) (x5 : Int32) (h : ea_H), kp (ea_core h) (J37 x1 x2 x3 x4 x5 h)) {x1 : Int32} {x2 : Int32} {x3 : Int32} {x4 : Int32} {x5 : Int32} {h : ea_H} : kp (ea_core h) (BX12_trueMinute_56 J37 x1 x2 x3 x4 x5 h) :=
  (kp_bind (kp_tw (kpX12_mayShow _ _ _ _) rfl) fun w12 hcw12 => (kp_ite (kp_tw (cJ37 _ _ _ _ _ _) hcw12) (kp_tw (cJ37 _ _ _ _ _ _) hcw12)))
theorem lBX12_trueMinute_56 {J37 : Int32 → Int32 → Int32 → Int32 → Int32 → ea_H → Option (Int32 × ea_H)} {J37_ : Int32 → Int32 → Int32 → Int32 → Int32 → ea_H → Option (Int32 × ea_H)}  (mJ37 : ∀ (x1 : Int32) (x2 : Int32) (x3 : Int32) (x4 : Int32) (x5 : Int32) (h : ea_H), fle (J37 x1 x2 x3 x4 x5 h) (J37_ x1 x2 x3 x4 x5 h)) {x1 : Int32} {x2 : Int32} {x3 : Int32} {x4 : Int32} {x5 : Int32} {h : ea_H} : fle (BX12_trueMinute_56 J37 x1 x2 x3 x4 x5 h) (BX12_trueMinute_56 J37_ x1 x2 x3 x4 x5 h) :=
  (fle_bind (fle_rfl _) fun _ => (fle_ite (mJ37 _ _ _ _ _ _) (mJ37 _ _ _ _ _ _)))
theorem nBX12_trueMinute_56 {J37 : Int32 → Int32 → Int32 → Int32 → Int32 → ea_H → Option (Int32 × ea_H)} {J37_ : Nat → (Int32 → Int32 → Int32 → Int32 → Int32 → ea_H → Option (Int32 × ea_H))}  (mJ37 : ∀ (x1 : Int32) (x2 : Int32) (x3 : Int32) (x4 : Int32) (x5 : Int32) (h : ea_H), fct (J37 x1 x2 x3 x4 x5 h) (fun f => J37_ f x1 x2 x3 x4 x5 h)) {x1 : Int32} {x2 : Int32} {x3 : Int32} {x4 : Int32} {x5 : Int32} {h : ea_H} : fct (BX12_trueMinute_56 J37 x1 x2 x3 x4 x5 h) (fun f => BX12_trueMinute_56 (J37_ f) x1 x2 x3 x4 x5 h) :=
  (fct_bind (fct_rfl _) fun _ => (fct_ite (mJ37 _ _ _ _ _ _) (mJ37 _ _ _ _ _ _)))
noncomputable def gX12_trueMinute : Nat → (Int32 → Int32 → Int32 → ea_H → Option (Int32 × ea_H)) × (Int32 → Int32 → Int32 → Int32 → Int32 → ea_H → Option (Int32 × ea_H)) × (Int32 → Int32 → Int32 → Int32 → Int32 → ea_H → Option (Int32 × ea_H))
  | 0 => (fun _ _ _ _ => none, fun _ _ _ _ _ _ => none, fun _ _ _ _ _ _ => none)
  | f + 1 => (BX12_trueMinute_0 (gX12_trueMinute f).2.1, BX12_trueMinute_37 (gX12_trueMinute f).2.2, BX12_trueMinute_56 (gX12_trueMinute f).2.1)
theorem mgX12_trueMinute : ∀ f : Nat, (∀ (x1 : Int32) (x2 : Int32) (x3 : Int32) (h : ea_H), fle ((gX12_trueMinute f).1 x1 x2 x3 h) ((gX12_trueMinute (f + 1)).1 x1 x2 x3 h)) ∧ (∀ (x1 : Int32) (x2 : Int32) (x3 : Int32) (x4 : Int32) (x5 : Int32) (h : ea_H), fle ((gX12_trueMinute f).2.1 x1 x2 x3 x4 x5 h) ((gX12_trueMinute (f + 1)).2.1 x1 x2 x3 x4 x5 h)) ∧ (∀ (x1 : Int32) (x2 : Int32) (x3 : Int32) (x4 : Int32) (x5 : Int32) (h : ea_H), fle ((gX12_trueMinute f).2.2 x1 x2 x3 x4 x5 h) ((gX12_trueMinute (f + 1)).2.2 x1 x2 x3 x4 x5 h)) := by
  intro f
  induction f with
  | zero => exact ⟨fun _ _ _ _ => fle_none _, fun _ _ _ _ _ _ => fle_none _, fun _ _ _ _ _ _ => fle_none _⟩
  | succ f ih => exact ⟨fun _ _ _ _ => lBX12_trueMinute_0 ih.2.1, fun _ _ _ _ _ _ => lBX12_trueMinute_37 ih.2.2, fun _ _ _ _ _ _ => lBX12_trueMinute_56 ih.2.1⟩
noncomputable def qX12_trueMinute_0 (x1 : Int32) (x2 : Int32) (x3 : Int32) (h : ea_H) : Option (Int32 × ea_H) := flim fun f => (gX12_trueMinute f).1 x1 x2 x3 h
noncomputable def qX12_trueMinute_37 (x1 : Int32) (x2 : Int32) (x3 : Int32) (x4 : Int32) (x5 : Int32) (h : ea_H) : Option (Int32 × ea_H) := flim fun f => (gX12_trueMinute f).2.1 x1 x2 x3 x4 x5 h
noncomputable def qX12_trueMinute_56 (x1 : Int32) (x2 : Int32) (x3 : Int32) (x4 : Int32) (x5 : Int32) (h : ea_H) : Option (Int32 × ea_H) := flim fun f => (gX12_trueMinute f).2.2 x1 x2 x3 x4 x5 h
theorem fqX12_trueMinute_0 (x1 : Int32) (x2 : Int32) (x3 : Int32) (h : ea_H) : fct (qX12_trueMinute_0 x1 x2 x3 h) fun f => (gX12_trueMinute f).1 x1 x2 x3 h := flim_ct fun f => (mgX12_trueMinute f).1 x1 x2 x3 h
theorem fqX12_trueMinute_37 (x1 : Int32) (x2 : Int32) (x3 : Int32) (x4 : Int32) (x5 : Int32) (h : ea_H) : fct (qX12_trueMinute_37 x1 x2 x3 x4 x5 h) fun f => (gX12_trueMinute f).2.1 x1 x2 x3 x4 x5 h := flim_ct fun f => (mgX12_trueMinute f).2.1 x1 x2 x3 x4 x5 h
theorem fqX12_trueMinute_56 (x1 : Int32) (x2 : Int32) (x3 : Int32) (x4 : Int32) (x5 : Int32) (h : ea_H) : fct (qX12_trueMinute_56 x1 x2 x3 x4 x5 h) fun f => (gX12_trueMinute f).2.2 x1 x2 x3 x4 x5 h := flim_ct fun f => (mgX12_trueMinute f).2.2 x1 x2 x3 x4 x5 h
/-- how a block opens -/
theorem uqX12_trueMinute_0 {x1 : Int32} {x2 : Int32} {x3 : Int32} {h : ea_H} {P : Int32 × ea_H → Prop} (H : sat (BX12_trueMinute_0 qX12_trueMinute_37 x1 x2 x3 h) P) : sat (qX12_trueMinute_0 x1 x2 x3 h) P := by
  obtain ⟨x, e, hp⟩ := H
  obtain ⟨n, hn⟩ := nBX12_trueMinute_0 fqX12_trueMinute_37 x e
  exact ⟨x, flim_at (fun f => (mgX12_trueMinute f).1 x1 x2 x3 h) (f := n + 1) (hn n (Nat.le_refl _)), hp⟩
/-- how a block opens -/
theorem uqX12_trueMinute_37 {x1 : Int32} {x2 : Int32} {x3 : Int32} {x4 : Int32} {x5 : Int32} {h : ea_H} {P : Int32 × ea_H → Prop} (H : sat (BX12_trueMinute_37 qX12_trueMinute_56 x1 x2 x3 x4 x5 h) P) : sat (qX12_trueMinute_37 x1 x2 x3 x4 x5 h) P := by
  obtain ⟨x, e, hp⟩ := H
  obtain ⟨n, hn⟩ := nBX12_trueMinute_37 fqX12_trueMinute_56 x e
  exact ⟨x, flim_at (fun f => (mgX12_trueMinute f).2.1 x1 x2 x3 x4 x5 h) (f := n + 1) (hn n (Nat.le_refl _)), hp⟩
/-- how a block opens -/
theorem uqX12_trueMinute_56 {x1 : Int32} {x2 : Int32} {x3 : Int32} {x4 : Int32} {x5 : Int32} {h : ea_H} {P : Int32 × ea_H → Prop} (H : sat (BX12_trueMinute_56 qX12_trueMinute_37 x1 x2 x3 x4 x5 h) P) : sat (qX12_trueMinute_56 x1 x2 x3 x4 x5 h) P := by
  obtain ⟨x, e, hp⟩ := H
  obtain ⟨n, hn⟩ := nBX12_trueMinute_56 fqX12_trueMinute_37 x e
  exact ⟨x, flim_at (fun f => (mgX12_trueMinute f).2.2 x1 x2 x3 x4 x5 h) (f := n + 1) (hn n (Nat.le_refl _)), hp⟩
theorem kgX12_trueMinute : ∀ f : Nat, (∀ (x1 : Int32) (x2 : Int32) (x3 : Int32) (h : ea_H), kp (ea_core h) ((gX12_trueMinute f).1 x1 x2 x3 h)) ∧ (∀ (x1 : Int32) (x2 : Int32) (x3 : Int32) (x4 : Int32) (x5 : Int32) (h : ea_H), kp (ea_core h) ((gX12_trueMinute f).2.1 x1 x2 x3 x4 x5 h)) ∧ (∀ (x1 : Int32) (x2 : Int32) (x3 : Int32) (x4 : Int32) (x5 : Int32) (h : ea_H), kp (ea_core h) ((gX12_trueMinute f).2.2 x1 x2 x3 x4 x5 h)) := by
  intro f
  induction f with
  | zero => exact ⟨fun _ _ _ _ => kp_none _, fun _ _ _ _ _ _ => kp_none _, fun _ _ _ _ _ _ => kp_none _⟩
  | succ f ih => exact ⟨fun _ _ _ _ => kBX12_trueMinute_0 ih.2.1, fun _ _ _ _ _ _ => kBX12_trueMinute_37 ih.2.2, fun _ _ _ _ _ _ => kBX12_trueMinute_56 ih.2.1⟩
theorem tgX12_trueMinute {d : Nat} {h0 : ea_H} (hd : 3 ≤ d) : ∀ f : Nat, (∀ (x1 : Int32) (x2 : Int32) (x3 : Int32) (h : ea_H) (r : Int32) (h' : ea_H), (gX12_trueMinute f).1 x1 x2 x3 h = some (r, h') → ShM h → ea_W mX12_trueMinute d h0 (some (vI r)) h' 0 [(0, vR (some 326)), (1, vI x1), (2, vI x2), (3, vI x3)] [] h) ∧ (∀ (x1 : Int32) (x2 : Int32) (x3 : Int32) (x4 : Int32) (x5 : Int32) (h : ea_H) (r : Int32) (h' : ea_H), (gX12_trueMinute f).2.1 x1 x2 x3 x4 x5 h = some (r, h') → ShM h → ea_W mX12_trueMinute d h0 (some (vI r)) h' 37 [(0, vR (some 326)), (1, vI x1), (2, vI x2), (3, vI x3), (4, vI x4), (5, vI x5)] [] h) ∧ (∀ (x1 : Int32) (x2 : Int32) (x3 : Int32) (x4 : Int32) (x5 : Int32) (h : ea_H) (r : Int32) (h' : ea_H), (gX12_trueMinute f).2.2 x1 x2 x3 x4 x5 h = some (r, h') → ShM h → ea_W mX12_trueMinute d h0 (some (vI r)) h' 56 [(0, vR (some 326)), (1, vI x1), (2, vI x2), (3, vI x3), (4, vI x4), (5, vI x5)] [] h) := by
  intro f
  induction f with
  | zero => exact ⟨fun _ _ _ _ _ _ E => no_some E, fun _ _ _ _ _ _ _ _ E => no_some E, fun _ _ _ _ _ _ _ _ E => no_some E⟩
  | succ f ih => exact ⟨fun _ _ _ _ _ _ E hs => tBX12_trueMinute_0 hd ih.2.1 E hs, fun _ _ _ _ _ _ _ _ E hs => tBX12_trueMinute_37 hd ih.2.2 E hs, fun _ _ _ _ _ _ _ _ E hs => tBX12_trueMinute_56 hd ih.2.1 E hs⟩
noncomputable def qX12_trueMinute (x1 : Int32) (x2 : Int32) (x3 : Int32) (h : ea_H) : Option (Int32 × ea_H) := qX12_trueMinute_0 x1 x2 x3 h
theorem sX12_trueMinute {d : Nat} {x1 : Int32} {x2 : Int32} {x3 : Int32} {h : ea_H} {r : Int32} {h' : ea_H} (hd : 3 ≤ d) (hs : ShM h) (K : qX12_trueMinute x1 x2 x3 h = some (r, h')) : ea_Met mX12_trueMinute d [vR (some 326), vI x1, vI x2, vI x3] h (some (vI r)) h' := by
  unfold qX12_trueMinute at K
  obtain ⟨n, hn⟩ := fqX12_trueMinute_0 x1 x2 x3 h _ K
  have W := (tgX12_trueMinute (d := d) (h0 := h) hd n).1 x1 x2 x3 h _ _ (hn n (Nat.le_refl _)) hs
  exact ea_enter rfl (Nat.le_of_ble_eq_true rfl) W
theorem kpX12_trueMinute (x1 : Int32) (x2 : Int32) (x3 : Int32) (h : ea_H) : kp (ea_core h) (qX12_trueMinute x1 x2 x3 h) := fun x e => by
  obtain ⟨n, hn⟩ := fqX12_trueMinute_0 x1 x2 x3 h x e
  exact (kgX12_trueMinute n).1 x1 x2 x3 h x (hn n (Nat.le_refl _))
noncomputable def BX12_tried_0 (J23 : Int32 → Int64 → Int32 → ea_H → Option (Int64 × ea_H)) (x1 : Int32) (h : ea_H) : Option (Int64 × ea_H) :=
  (Option.bind (qX12_isIn (x1 : Int32) (0 : Int32) (((ea_i h 326 25) - (1 : Int32)) : Int32) h) fun w1 => (if w1.1 = (0 : Int32) then (some (((-1) : Int64), w1.2)) else (J23 (x1 : Int32) (0 : Int64) (0 : Int32) w1.2)))
theorem tBX12_tried_0 {d : Nat} {h0 : ea_H} (hd : 5 ≤ d) {J23 : Int32 → Int64 → Int32 → ea_H → Option (Int64 × ea_H)}  (kJ23 : ∀ (x1 : Int32) (y2 : Int64) (x4 : Int32) (h : ea_H) (r : Int64) (h' : ea_H), J23 x1 y2 x4 h = some (r, h') → ShM h → ea_W mX12_tried d h0 (some (vJ r)) h' 23 [(0, vR (some 326)), (1, vI x1), (2, vJ y2), (4, vI x4)] [] h) {x1 : Int32} {h : ea_H} {r : Int64} {h' : ea_H} (E : BX12_tried_0 J23 x1 h = some (r, h')) (hs : ShM h) : ea_W mX12_tried d h0 (some (vJ r)) h' 0 [(0, vR (some 326)), (1, vI x1)] [] h := by
  unfold BX12_tried_0 at E
  obtain ⟨w1, Ew1, E⟩ := bd_some E
  have hsw1 : ShM w1.2 := ShM_core ((kpX12_isIn _ _ _ _) _ Ew1) hs
  refine ea_iload_n (pc := 0) dX12_tried_0 rfl 1 rfl ?_
  refine ea_iconst (pc := 1) dX12_tried_1 (v := 0) rfl ?_
  refine ea_aload_n (pc := 2) dX12_tried_2 rfl 0 rfl ?_
  refine ea_getI (pc := 3) dX12_tried_3 ec_12 (k := 25) (Nat.le_of_ble_eq_true rfl) rfl (Or.inl ew_1427) (cShM_326 hs).1 (cShM_326 hs).2.1 ?_
  refine ea_iconst (pc := 6) dX12_tried_6 (v := 1) rfl ?_
  refine ea_isub (pc := 7) dX12_tried_7 ?_
  refine ea_callS (pc := 8) (d' := d - 1) (As := [vI x1, vI 0, vI ((ea_i h 326 25) - (1 : Int32))]) (st := []) dX12_tried_8 kX12_isIn (sX12_isIn (d := d - 1) (by omega) Ew1) (by omega) rfl (Nat.le_of_ble_eq_true rfl) ew_1769 ew_1770 ?_
  refine ea_if_ne (pc := 11) (tgt := 18) dX12_tried_11 rfl (fun c2 => ?_) (fun c2 => ?_)
  · have E := (if_neg c2).symm.trans E
    refine ea_lconst (pc := 18) dX12_tried_18 (v := 0) rfl ?_
    refine ea_lstore_n (pc := 19) (lv' := [(0, vR (some 326)), (1, vI x1), (2, vJ 0)]) dX12_tried_19 rfl (Nat.le_of_ble_eq_true rfl) [1, 2, 0] rfl ?_
    refine ea_iconst (pc := 20) dX12_tried_20 (v := 0) rfl ?_
    refine ea_istore (pc := 21) (lv' := [(0, vR (some 326)), (1, vI x1), (2, vJ 0), (4, vI 0)]) dX12_tried_21 (Nat.le_of_ble_eq_true rfl) [1, 2, 3, 0] rfl ?_
    exact (kJ23 (x1 : Int32) (0 : Int64) (0 : Int32) w1.2 _ _ E hsw1)
  · have E := (if_pos c2).symm.trans E
    refine ea_ldc2 (pc := 14) dX12_tried_14 ew_2175 ?_
    exact ea_lretO (pc := 17) dX12_tried_17 rfl E
theorem kBX12_tried_0 {J23 : Int32 → Int64 → Int32 → ea_H → Option (Int64 × ea_H)}  (cJ23 : ∀ (x1 : Int32) (y2 : Int64) (x4 : Int32) (h : ea_H), kp (ea_core h) (J23 x1 y2 x4 h)) {x1 : Int32} {h : ea_H} : kp (ea_core h) (BX12_tried_0 J23 x1 h) :=
  (kp_bind (kp_tw (kpX12_isIn _ _ _ _) rfl) fun w1 hcw1 => (kp_ite (kp_ret hcw1) (kp_tw (cJ23 _ _ _ _) hcw1)))
theorem lBX12_tried_0 {J23 : Int32 → Int64 → Int32 → ea_H → Option (Int64 × ea_H)} {J23_ : Int32 → Int64 → Int32 → ea_H → Option (Int64 × ea_H)}  (mJ23 : ∀ (x1 : Int32) (y2 : Int64) (x4 : Int32) (h : ea_H), fle (J23 x1 y2 x4 h) (J23_ x1 y2 x4 h)) {x1 : Int32} {h : ea_H} : fle (BX12_tried_0 J23 x1 h) (BX12_tried_0 J23_ x1 h) :=
  (fle_bind (fle_rfl _) fun _ => (fle_ite (fle_rfl _) (mJ23 _ _ _ _)))
theorem nBX12_tried_0 {J23 : Int32 → Int64 → Int32 → ea_H → Option (Int64 × ea_H)} {J23_ : Nat → (Int32 → Int64 → Int32 → ea_H → Option (Int64 × ea_H))}  (mJ23 : ∀ (x1 : Int32) (y2 : Int64) (x4 : Int32) (h : ea_H), fct (J23 x1 y2 x4 h) (fun f => J23_ f x1 y2 x4 h)) {x1 : Int32} {h : ea_H} : fct (BX12_tried_0 J23 x1 h) (fun f => BX12_tried_0 (J23_ f) x1 h) :=
  (fct_bind (fct_rfl _) fun _ => (fct_ite (fct_rfl _) (mJ23 _ _ _ _)))
noncomputable def BX12_tried_23 (J23 : Int32 → Int64 → Int32 → ea_H → Option (Int64 × ea_H)) (x1 : Int32) (y2 : Int64) (x4 : Int32) (h : ea_H) : Option (Int64 × ea_H) :=
  (if (ea_i h 326 63) ≤ x4 then (some (y2, h)) else (Option.bind (qX12_chargeBy (x4 : Int32) (x1 : Int32) h) fun w3 => (ea_let (y2 + (Int32.toInt64 w3.1)) fun (v4 : Int64) => (J23 (x1 : Int32) (v4 : Int64) ((x4 + (1 : Int32)) : Int32) w3.2))))
theorem tBX12_tried_23 {d : Nat} {h0 : ea_H} (hd : 5 ≤ d) {J23 : Int32 → Int64 → Int32 → ea_H → Option (Int64 × ea_H)}  (kJ23 : ∀ (x1 : Int32) (y2 : Int64) (x4 : Int32) (h : ea_H) (r : Int64) (h' : ea_H), J23 x1 y2 x4 h = some (r, h') → ShM h → ea_W mX12_tried d h0 (some (vJ r)) h' 23 [(0, vR (some 326)), (1, vI x1), (2, vJ y2), (4, vI x4)] [] h) {x1 : Int32} {y2 : Int64} {x4 : Int32} {h : ea_H} {r : Int64} {h' : ea_H} (E : BX12_tried_23 J23 x1 y2 x4 h = some (r, h')) (hs : ShM h) : ea_W mX12_tried d h0 (some (vJ r)) h' 23 [(0, vR (some 326)), (1, vI x1), (2, vJ y2), (4, vI x4)] [] h := by
  unfold BX12_tried_23 at E
  refine ea_iload (pc := 23) dX12_tried_23 3 rfl ?_
  refine ea_aload_n (pc := 25) dX12_tried_25 rfl 0 rfl ?_
  refine ea_getI (pc := 26) dX12_tried_26 ec_12 (k := 63) (Nat.le_of_ble_eq_true rfl) rfl (Or.inl ew_1465) (cShM_326 hs).1 (cShM_326 hs).2.1 ?_
  refine ea_icmp_ge (pc := 29) (tgt := 49) dX12_tried_29 rfl (fun c5 => ?_) (fun c5 => ?_)
  · have E := (if_pos c5).symm.trans E
    refine ea_lload_n (pc := 49) dX12_tried_49 rfl 2 rfl ?_
    exact ea_lretO (pc := 50) dX12_tried_50 rfl E
  · have E := (if_neg c5).symm.trans E
    obtain ⟨w3, Ew3, E⟩ := bd_some E
    have hsw3 : ShM w3.2 := ShM_core ((kpX12_chargeBy _ _ _) _ Ew3) hs
    refine ea_lload_n (pc := 32) dX12_tried_32 rfl 2 rfl ?_
    refine ea_aload_n (pc := 33) dX12_tried_33 rfl 0 rfl ?_
    refine ea_iload (pc := 34) dX12_tried_34 3 rfl ?_
    refine ea_iload_n (pc := 36) dX12_tried_36 rfl 1 rfl ?_
    refine ea_callV (pc := 37) (d' := d - 1) (As := [vI x4, vI x1]) (st := [vJ y2]) dX12_tried_37 kX12_chargeBy (sX12_chargeBy (d := d - 1) (by omega) hs Ew3) (by omega) rfl (Nat.le_of_ble_eq_true rfl) ew_2048 ew_2050 ew_91 (ci := 12) rfl (by decide) (cShM_326 hs).1 (cShM_326 hs).2.1 ?_
    obtain ⟨v4, ev4, E⟩ := let_some E
    refine ea_i2l (pc := 40) dX12_tried_40 ?_
    refine ea_ladd (pc := 41) dX12_tried_41 ?_
    refine ea_lstore_n (pc := 42) (lv' := [(0, vR (some 326)), (1, vI x1), (2, vJ v4), (4, vI x4)]) dX12_tried_42 rfl (Nat.le_of_ble_eq_true rfl) [1, 2, 0, 3] (by rw [ev4]; rfl) ?_
    refine ea_iinc (pc := 43) (v := 1) (lv' := [(0, vR (some 326)), (1, vI x1), (2, vJ v4), (4, vI (x4 + (1 : Int32)))]) dX12_tried_43 3 rfl rfl (Nat.le_of_ble_eq_true rfl) [1, 2, 3, 0] rfl ?_
    refine ea_goto (pc := 46) (tgt := 23) dX12_tried_46 rfl ?_
    exact (kJ23 (x1 : Int32) (v4 : Int64) ((x4 + (1 : Int32)) : Int32) w3.2 _ _ E hsw3)
theorem kBX12_tried_23 {J23 : Int32 → Int64 → Int32 → ea_H → Option (Int64 × ea_H)}  (cJ23 : ∀ (x1 : Int32) (y2 : Int64) (x4 : Int32) (h : ea_H), kp (ea_core h) (J23 x1 y2 x4 h)) {x1 : Int32} {y2 : Int64} {x4 : Int32} {h : ea_H} : kp (ea_core h) (BX12_tried_23 J23 x1 y2 x4 h) :=
  (kp_ite (kp_ret rfl) (kp_bind (kp_tw (kpX12_chargeBy _ _ _) rfl) fun w3 hcw3 => (kp_let (kp_tw (cJ23 _ _ _ _) hcw3))))
theorem lBX12_tried_23 {J23 : Int32 → Int64 → Int32 → ea_H → Option (Int64 × ea_H)} {J23_ : Int32 → Int64 → Int32 → ea_H → Option (Int64 × ea_H)}  (mJ23 : ∀ (x1 : Int32) (y2 : Int64) (x4 : Int32) (h : ea_H), fle (J23 x1 y2 x4 h) (J23_ x1 y2 x4 h)) {x1 : Int32} {y2 : Int64} {x4 : Int32} {h : ea_H} : fle (BX12_tried_23 J23 x1 y2 x4 h) (BX12_tried_23 J23_ x1 y2 x4 h) :=
  (fle_ite (fle_rfl _) (fle_bind (fle_rfl _) fun _ => (fle_let fun _ => (mJ23 _ _ _ _))))
theorem nBX12_tried_23 {J23 : Int32 → Int64 → Int32 → ea_H → Option (Int64 × ea_H)} {J23_ : Nat → (Int32 → Int64 → Int32 → ea_H → Option (Int64 × ea_H))}  (mJ23 : ∀ (x1 : Int32) (y2 : Int64) (x4 : Int32) (h : ea_H), fct (J23 x1 y2 x4 h) (fun f => J23_ f x1 y2 x4 h)) {x1 : Int32} {y2 : Int64} {x4 : Int32} {h : ea_H} : fct (BX12_tried_23 J23 x1 y2 x4 h) (fun f => BX12_tried_23 (J23_ f) x1 y2 x4 h) :=
  (fct_ite (fct_rfl _) (fct_bind (fct_rfl _) fun _ => (fct_let fun _ => (mJ23 _ _ _ _))))
noncomputable def gX12_tried : Nat → (Int32 → ea_H → Option (Int64 × ea_H)) × (Int32 → Int64 → Int32 → ea_H → Option (Int64 × ea_H))
  | 0 => (fun _ _ => none, fun _ _ _ _ => none)
  | f + 1 => (BX12_tried_0 (gX12_tried f).2, BX12_tried_23 (gX12_tried f).2)
theorem mgX12_tried : ∀ f : Nat, (∀ (x1 : Int32) (h : ea_H), fle ((gX12_tried f).1 x1 h) ((gX12_tried (f + 1)).1 x1 h)) ∧ (∀ (x1 : Int32) (y2 : Int64) (x4 : Int32) (h : ea_H), fle ((gX12_tried f).2 x1 y2 x4 h) ((gX12_tried (f + 1)).2 x1 y2 x4 h)) := by
  intro f
  induction f with
  | zero => exact ⟨fun _ _ => fle_none _, fun _ _ _ _ => fle_none _⟩
  | succ f ih => exact ⟨fun _ _ => lBX12_tried_0 ih.2, fun _ _ _ _ => lBX12_tried_23 ih.2⟩
noncomputable def qX12_tried_0 (x1 : Int32) (h : ea_H) : Option (Int64 × ea_H) := flim fun f => (gX12_tried f).1 x1 h
noncomputable def qX12_tried_23 (x1 : Int32) (y2 : Int64) (x4 : Int32) (h : ea_H) : Option (Int64 × ea_H) := flim fun f => (gX12_tried f).2 x1 y2 x4 h
theorem fqX12_tried_0 (x1 : Int32) (h : ea_H) : fct (qX12_tried_0 x1 h) fun f => (gX12_tried f).1 x1 h := flim_ct fun f => (mgX12_tried f).1 x1 h
theorem fqX12_tried_23 (x1 : Int32) (y2 : Int64) (x4 : Int32) (h : ea_H) : fct (qX12_tried_23 x1 y2 x4 h) fun f => (gX12_tried f).2 x1 y2 x4 h := flim_ct fun f => (mgX12_tried f).2 x1 y2 x4 h
/-- how a block opens -/
theorem uqX12_tried_0 {x1 : Int32} {h : ea_H} {P : Int64 × ea_H → Prop} (H : sat (BX12_tried_0 qX12_tried_23 x1 h) P) : sat (qX12_tried_0 x1 h) P := by
  obtain ⟨x, e, hp⟩ := H
  obtain ⟨n, hn⟩ := nBX12_tried_0 fqX12_tried_23 x e
  exact ⟨x, flim_at (fun f => (mgX12_tried f).1 x1 h) (f := n + 1) (hn n (Nat.le_refl _)), hp⟩
/-- how a block opens -/
theorem uqX12_tried_23 {x1 : Int32} {y2 : Int64} {x4 : Int32} {h : ea_H} {P : Int64 × ea_H → Prop} (H : sat (BX12_tried_23 qX12_tried_23 x1 y2 x4 h) P) : sat (qX12_tried_23 x1 y2 x4 h) P := by
  obtain ⟨x, e, hp⟩ := H
  obtain ⟨n, hn⟩ := nBX12_tried_23 fqX12_tried_23 x e
  exact ⟨x, flim_at (fun f => (mgX12_tried f).2 x1 y2 x4 h) (f := n + 1) (hn n (Nat.le_refl _)), hp⟩
theorem kgX12_tried : ∀ f : Nat, (∀ (x1 : Int32) (h : ea_H), kp (ea_core h) ((gX12_tried f).1 x1 h)) ∧ (∀ (x1 : Int32) (y2 : Int64) (x4 : Int32) (h : ea_H), kp (ea_core h) ((gX12_tried f).2 x1 y2 x4 h)) := by
  intro f
  induction f with
  | zero => exact ⟨fun _ _ => kp_none _, fun _ _ _ _ => kp_none _⟩
  | succ f ih => exact ⟨fun _ _ => kBX12_tried_0 ih.2, fun _ _ _ _ => kBX12_tried_23 ih.2⟩
theorem tgX12_tried {d : Nat} {h0 : ea_H} (hd : 5 ≤ d) : ∀ f : Nat, (∀ (x1 : Int32) (h : ea_H) (r : Int64) (h' : ea_H), (gX12_tried f).1 x1 h = some (r, h') → ShM h → ea_W mX12_tried d h0 (some (vJ r)) h' 0 [(0, vR (some 326)), (1, vI x1)] [] h) ∧ (∀ (x1 : Int32) (y2 : Int64) (x4 : Int32) (h : ea_H) (r : Int64) (h' : ea_H), (gX12_tried f).2 x1 y2 x4 h = some (r, h') → ShM h → ea_W mX12_tried d h0 (some (vJ r)) h' 23 [(0, vR (some 326)), (1, vI x1), (2, vJ y2), (4, vI x4)] [] h) := by
  intro f
  induction f with
  | zero => exact ⟨fun _ _ _ _ E => no_some E, fun _ _ _ _ _ _ E => no_some E⟩
  | succ f ih => exact ⟨fun _ _ _ _ E hs => tBX12_tried_0 hd ih.2 E hs, fun _ _ _ _ _ _ E hs => tBX12_tried_23 hd ih.2 E hs⟩
noncomputable def qX12_tried (x1 : Int32) (h : ea_H) : Option (Int64 × ea_H) := qX12_tried_0 x1 h
theorem sX12_tried {d : Nat} {x1 : Int32} {h : ea_H} {r : Int64} {h' : ea_H} (hd : 5 ≤ d) (hs : ShM h) (K : qX12_tried x1 h = some (r, h')) : ea_Met mX12_tried d [vR (some 326), vI x1] h (some (vJ r)) h' := by
  unfold qX12_tried at K
  obtain ⟨n, hn⟩ := fqX12_tried_0 x1 h _ K
  have W := (tgX12_tried (d := d) (h0 := h) hd n).1 x1 h _ _ (hn n (Nat.le_refl _)) hs
  exact ea_enter rfl (Nat.le_of_ble_eq_true rfl) W
theorem kpX12_tried (x1 : Int32) (h : ea_H) : kp (ea_core h) (qX12_tried x1 h) := fun x e => by
  obtain ⟨n, hn⟩ := fqX12_tried_0 x1 h x e
  exact (kgX12_tried n).1 x1 h x (hn n (Nat.le_refl _))
noncomputable def BX12_keeps_0 (J2 : Int32 → ea_H → Option (Unit × ea_H)) (h : ea_H) : Option (Unit × ea_H) :=
  (J2 (0 : Int32) h)
theorem tBX12_keeps_0 {d : Nat} {h0 : ea_H} (hd : 1 ≤ d) {J2 : Int32 → ea_H → Option (Unit × ea_H)}  (kJ2 : ∀ (x1 : Int32) (h : ea_H) (r : Unit) (h' : ea_H), J2 x1 h = some (r, h') → ShM h → ea_W mX12_keeps d h0 none h' 2 [(0, vR (some 326)), (1, vI x1)] [] h) {h : ea_H} {r : Unit} {h' : ea_H} (E : BX12_keeps_0 J2 h = some (r, h')) (hs : ShM h) : ea_W mX12_keeps d h0 none h' 0 [(0, vR (some 326))] [] h := by
  unfold BX12_keeps_0 at E
  refine ea_iconst (pc := 0) dX12_keeps_0 (v := 0) rfl ?_
  refine ea_istore_n (pc := 1) (lv' := [(0, vR (some 326)), (1, vI 0)]) dX12_keeps_1 rfl (Nat.le_of_ble_eq_true rfl) [1, 0] rfl ?_
  exact (kJ2 (0 : Int32) h _ _ E hs)
theorem kBX12_keeps_0 {J2 : Int32 → ea_H → Option (Unit × ea_H)}  (cJ2 : ∀ (x1 : Int32) (h : ea_H), kp (ea_core h) (J2 x1 h)) {h : ea_H} : kp (ea_core h) (BX12_keeps_0 J2 h) :=
  (kp_tw (cJ2 _ _) rfl)
theorem lBX12_keeps_0 {J2 : Int32 → ea_H → Option (Unit × ea_H)} {J2_ : Int32 → ea_H → Option (Unit × ea_H)}  (mJ2 : ∀ (x1 : Int32) (h : ea_H), fle (J2 x1 h) (J2_ x1 h)) {h : ea_H} : fle (BX12_keeps_0 J2 h) (BX12_keeps_0 J2_ h) :=
  (mJ2 _ _)
theorem nBX12_keeps_0 {J2 : Int32 → ea_H → Option (Unit × ea_H)} {J2_ : Nat → (Int32 → ea_H → Option (Unit × ea_H))}  (mJ2 : ∀ (x1 : Int32) (h : ea_H), fct (J2 x1 h) (fun f => J2_ f x1 h)) {h : ea_H} : fct (BX12_keeps_0 J2 h) (fun f => BX12_keeps_0 (J2_ f) h) :=
  (mJ2 _ _)
noncomputable def BX12_keeps_2 (J2 : Int32 → ea_H → Option (Unit × ea_H)) (J114 : Int32 → ea_H → Option (Unit × ea_H)) (x1 : Int32) (h : ea_H) : Option (Unit × ea_H) :=
  (if (ea_i h 326 63) ≤ x1 then (J114 (0 : Int32) h) else (gd (vp_in x1 120) (gd (vp_in x1 120) (ea_let (ea_wi h 407 (Int32.toNatClampNeg x1) (ea_i h 381 (Int32.toNatClampNeg x1))) fun H3 => (gd (vp_in x1 120) (gd (vp_in x1 120) (ea_let (ea_wi H3 408 (Int32.toNatClampNeg x1) (ea_i H3 382 (Int32.toNatClampNeg x1))) fun H6 => (gd (vp_in x1 120) (gd (vp_in x1 120) (ea_let (ea_wi H6 409 (Int32.toNatClampNeg x1) (ea_i H6 383 (Int32.toNatClampNeg x1))) fun H9 => (gd (vp_in x1 120) (gd (vp_in x1 120) (ea_let (ea_wi H9 410 (Int32.toNatClampNeg x1) (ea_i H9 384 (Int32.toNatClampNeg x1))) fun H12 => (gd (vp_in x1 120) (gd (vp_in x1 120) (ea_let (ea_wi H12 411 (Int32.toNatClampNeg x1) (ea_i H12 385 (Int32.toNatClampNeg x1))) fun H15 => (gd (vp_in x1 120) (gd (vp_in x1 120) (ea_let (ea_wi H15 412 (Int32.toNatClampNeg x1) (ea_i H15 376 (Int32.toNatClampNeg x1))) fun H18 => (gd (vp_in x1 120) (gd (vp_in x1 120) (ea_let (ea_wi H18 413 (Int32.toNatClampNeg x1) (ea_i H18 377 (Int32.toNatClampNeg x1))) fun H21 => (gd (vp_in x1 120) (gd (vp_in x1 120) (gd (((ea_i H21 387 (Int32.toNatClampNeg x1)) = 0 ∨ (ea_i H21 387 (Int32.toNatClampNeg x1)) = 1)) (ea_let (ea_wi H21 415 (Int32.toNatClampNeg x1) (ea_i H21 387 (Int32.toNatClampNeg x1))) fun H25 => (J2 ((x1 + (1 : Int32)) : Int32) H25)))))))))))))))))))))))))))
theorem tBX12_keeps_2 {d : Nat} {h0 : ea_H} (hd : 1 ≤ d) {J2 : Int32 → ea_H → Option (Unit × ea_H)} {J114 : Int32 → ea_H → Option (Unit × ea_H)}  (kJ2 : ∀ (x1 : Int32) (h : ea_H) (r : Unit) (h' : ea_H), J2 x1 h = some (r, h') → ShM h → ea_W mX12_keeps d h0 none h' 2 [(0, vR (some 326)), (1, vI x1)] [] h) (kJ114 : ∀ (x1 : Int32) (h : ea_H) (r : Unit) (h' : ea_H), J114 x1 h = some (r, h') → ShM h → ea_W mX12_keeps d h0 none h' 114 [(0, vR (some 326)), (1, vI x1)] [] h) {x1 : Int32} {h : ea_H} {r : Unit} {h' : ea_H} (E : BX12_keeps_2 J2 J114 x1 h = some (r, h')) (hs : ShM h) : ea_W mX12_keeps d h0 none h' 2 [(0, vR (some 326)), (1, vI x1)] [] h := by
  unfold BX12_keeps_2 at E
  refine ea_iload_n (pc := 2) dX12_keeps_2 rfl 1 rfl ?_
  refine ea_aload_n (pc := 3) dX12_keeps_3 rfl 0 rfl ?_
  refine ea_getI (pc := 4) dX12_keeps_4 ec_12 (k := 63) (Nat.le_of_ble_eq_true rfl) rfl (Or.inl ew_1465) (cShM_326 hs).1 (cShM_326 hs).2.1 ?_
  refine ea_icmp_ge (pc := 7) (tgt := 112) dX12_keeps_7 rfl (fun c26 => ?_) (fun c26 => ?_)
  · have E := (if_pos c26).symm.trans E
    refine ea_iconst (pc := 112) dX12_keeps_112 (v := 0) rfl ?_
    refine ea_istore_n (pc := 113) (lv' := [(0, vR (some 326)), (1, vI 0)]) dX12_keeps_113 rfl (Nat.le_of_ble_eq_true rfl) [1, 0] rfl ?_
    exact (kJ114 (0 : Int32) h _ _ E hs)
  · have E := (if_neg c26).symm.trans E
    obtain ⟨z1, E⟩ := gd_some E
    refine ea_aload_n (pc := 10) dX12_keeps_10 rfl 0 rfl ?_
    refine ea_getR (pc := 11) dX12_keeps_11 ec_12 (k := 109) (Nat.le_of_ble_eq_true rfl) rfl (Or.inl ew_1511) (cShM_326 hs).1 (cShM_326 hs).2.1 (rShM_326_109 hs) ?_
    refine ea_iload_n (pc := 14) dX12_keeps_14 rfl 1 rfl ?_
    refine ea_aload_n (pc := 15) dX12_keeps_15 rfl 0 rfl ?_
    refine ea_getR (pc := 16) dX12_keeps_16 ec_12 (k := 81) (Nat.le_of_ble_eq_true rfl) rfl (Or.inl ew_1483) (cShM_326 hs).1 (cShM_326 hs).2.1 (rShM_326_81 hs) ?_
    refine ea_iload_n (pc := 19) dX12_keeps_19 rfl 1 rfl ?_
    obtain ⟨z2, E⟩ := gd_some E
    refine ea_iald (pc := 20) dX12_keeps_20 (cShM_381 hs).1 (cShM_381 hs).2.1 (ea_vpl (cShM_381 hs).2.2 z1) ?_
    obtain ⟨H3, eH3, E⟩ := let_some E
    refine ea_iast (pc := 21) dX12_keeps_21 (cShM_407 hs).1 (cShM_407 hs).2.1 (ea_vpl (cShM_407 hs).2.2 z2) ?_
    refine ea_nm eH3 ?_
    have hsH3 : ShM H3 := by rw [eH3]; exact hs
    obtain ⟨z4, E⟩ := gd_some E
    refine ea_aload_n (pc := 22) dX12_keeps_22 rfl 0 rfl ?_
    refine ea_getR (pc := 23) dX12_keeps_23 ec_12 (k := 110) (Nat.le_of_ble_eq_true rfl) rfl (Or.inl ew_1512) (cShM_326 hsH3).1 (cShM_326 hsH3).2.1 (rShM_326_110 hsH3) ?_
    refine ea_iload_n (pc := 26) dX12_keeps_26 rfl 1 rfl ?_
    refine ea_aload_n (pc := 27) dX12_keeps_27 rfl 0 rfl ?_
    refine ea_getR (pc := 28) dX12_keeps_28 ec_12 (k := 82) (Nat.le_of_ble_eq_true rfl) rfl (Or.inl ew_1484) (cShM_326 hsH3).1 (cShM_326 hsH3).2.1 (rShM_326_82 hsH3) ?_
    refine ea_iload_n (pc := 31) dX12_keeps_31 rfl 1 rfl ?_
    obtain ⟨z5, E⟩ := gd_some E
    refine ea_iald (pc := 32) dX12_keeps_32 (cShM_382 hsH3).1 (cShM_382 hsH3).2.1 (ea_vpl (cShM_382 hsH3).2.2 z4) ?_
    obtain ⟨H6, eH6, E⟩ := let_some E
    refine ea_iast (pc := 33) dX12_keeps_33 (cShM_408 hsH3).1 (cShM_408 hsH3).2.1 (ea_vpl (cShM_408 hsH3).2.2 z5) ?_
    refine ea_nm eH6 ?_
    have hsH6 : ShM H6 := by rw [eH6]; exact hsH3
    obtain ⟨z7, E⟩ := gd_some E
    refine ea_aload_n (pc := 34) dX12_keeps_34 rfl 0 rfl ?_
    refine ea_getR (pc := 35) dX12_keeps_35 ec_12 (k := 111) (Nat.le_of_ble_eq_true rfl) rfl (Or.inl ew_1513) (cShM_326 hsH6).1 (cShM_326 hsH6).2.1 (rShM_326_111 hsH6) ?_
    refine ea_iload_n (pc := 38) dX12_keeps_38 rfl 1 rfl ?_
    refine ea_aload_n (pc := 39) dX12_keeps_39 rfl 0 rfl ?_
    refine ea_getR (pc := 40) dX12_keeps_40 ec_12 (k := 83) (Nat.le_of_ble_eq_true rfl) rfl (Or.inl ew_1485) (cShM_326 hsH6).1 (cShM_326 hsH6).2.1 (rShM_326_83 hsH6) ?_
    refine ea_iload_n (pc := 43) dX12_keeps_43 rfl 1 rfl ?_
    obtain ⟨z8, E⟩ := gd_some E
    refine ea_iald (pc := 44) dX12_keeps_44 (cShM_383 hsH6).1 (cShM_383 hsH6).2.1 (ea_vpl (cShM_383 hsH6).2.2 z7) ?_
    obtain ⟨H9, eH9, E⟩ := let_some E
    refine ea_iast (pc := 45) dX12_keeps_45 (cShM_409 hsH6).1 (cShM_409 hsH6).2.1 (ea_vpl (cShM_409 hsH6).2.2 z8) ?_
    refine ea_nm eH9 ?_
    have hsH9 : ShM H9 := by rw [eH9]; exact hsH6
    obtain ⟨z10, E⟩ := gd_some E
    refine ea_aload_n (pc := 46) dX12_keeps_46 rfl 0 rfl ?_
    refine ea_getR (pc := 47) dX12_keeps_47 ec_12 (k := 112) (Nat.le_of_ble_eq_true rfl) rfl (Or.inl ew_1514) (cShM_326 hsH9).1 (cShM_326 hsH9).2.1 (rShM_326_112 hsH9) ?_
    refine ea_iload_n (pc := 50) dX12_keeps_50 rfl 1 rfl ?_
    refine ea_aload_n (pc := 51) dX12_keeps_51 rfl 0 rfl ?_
    refine ea_getR (pc := 52) dX12_keeps_52 ec_12 (k := 84) (Nat.le_of_ble_eq_true rfl) rfl (Or.inl ew_1486) (cShM_326 hsH9).1 (cShM_326 hsH9).2.1 (rShM_326_84 hsH9) ?_
    refine ea_iload_n (pc := 55) dX12_keeps_55 rfl 1 rfl ?_
    obtain ⟨z11, E⟩ := gd_some E
    refine ea_iald (pc := 56) dX12_keeps_56 (cShM_384 hsH9).1 (cShM_384 hsH9).2.1 (ea_vpl (cShM_384 hsH9).2.2 z10) ?_
    obtain ⟨H12, eH12, E⟩ := let_some E
    refine ea_iast (pc := 57) dX12_keeps_57 (cShM_410 hsH9).1 (cShM_410 hsH9).2.1 (ea_vpl (cShM_410 hsH9).2.2 z11) ?_
    refine ea_nm eH12 ?_
    have hsH12 : ShM H12 := by rw [eH12]; exact hsH9
    obtain ⟨z13, E⟩ := gd_some E
    refine ea_aload_n (pc := 58) dX12_keeps_58 rfl 0 rfl ?_
    refine ea_getR (pc := 59) dX12_keeps_59 ec_12 (k := 113) (Nat.le_of_ble_eq_true rfl) rfl (Or.inl ew_1515) (cShM_326 hsH12).1 (cShM_326 hsH12).2.1 (rShM_326_113 hsH12) ?_
    refine ea_iload_n (pc := 62) dX12_keeps_62 rfl 1 rfl ?_
    refine ea_aload_n (pc := 63) dX12_keeps_63 rfl 0 rfl ?_
    refine ea_getR (pc := 64) dX12_keeps_64 ec_12 (k := 85) (Nat.le_of_ble_eq_true rfl) rfl (Or.inl ew_1487) (cShM_326 hsH12).1 (cShM_326 hsH12).2.1 (rShM_326_85 hsH12) ?_
    refine ea_iload_n (pc := 67) dX12_keeps_67 rfl 1 rfl ?_
    obtain ⟨z14, E⟩ := gd_some E
    refine ea_iald (pc := 68) dX12_keeps_68 (cShM_385 hsH12).1 (cShM_385 hsH12).2.1 (ea_vpl (cShM_385 hsH12).2.2 z13) ?_
    obtain ⟨H15, eH15, E⟩ := let_some E
    refine ea_iast (pc := 69) dX12_keeps_69 (cShM_411 hsH12).1 (cShM_411 hsH12).2.1 (ea_vpl (cShM_411 hsH12).2.2 z14) ?_
    refine ea_nm eH15 ?_
    have hsH15 : ShM H15 := by rw [eH15]; exact hsH12
    obtain ⟨z16, E⟩ := gd_some E
    refine ea_aload_n (pc := 70) dX12_keeps_70 rfl 0 rfl ?_
    refine ea_getR (pc := 71) dX12_keeps_71 ec_12 (k := 114) (Nat.le_of_ble_eq_true rfl) rfl (Or.inl ew_1516) (cShM_326 hsH15).1 (cShM_326 hsH15).2.1 (rShM_326_114 hsH15) ?_
    refine ea_iload_n (pc := 74) dX12_keeps_74 rfl 1 rfl ?_
    refine ea_aload_n (pc := 75) dX12_keeps_75 rfl 0 rfl ?_
    refine ea_getR (pc := 76) dX12_keeps_76 ec_12 (k := 76) (Nat.le_of_ble_eq_true rfl) rfl (Or.inl ew_1478) (cShM_326 hsH15).1 (cShM_326 hsH15).2.1 (rShM_326_76 hsH15) ?_
    refine ea_iload_n (pc := 79) dX12_keeps_79 rfl 1 rfl ?_
    obtain ⟨z17, E⟩ := gd_some E
    refine ea_iald (pc := 80) dX12_keeps_80 (cShM_376 hsH15).1 (cShM_376 hsH15).2.1 (ea_vpl (cShM_376 hsH15).2.2 z16) ?_
    obtain ⟨H18, eH18, E⟩ := let_some E
    refine ea_iast (pc := 81) dX12_keeps_81 (cShM_412 hsH15).1 (cShM_412 hsH15).2.1 (ea_vpl (cShM_412 hsH15).2.2 z17) ?_
    refine ea_nm eH18 ?_
    have hsH18 : ShM H18 := by rw [eH18]; exact hsH15
    obtain ⟨z19, E⟩ := gd_some E
    refine ea_aload_n (pc := 82) dX12_keeps_82 rfl 0 rfl ?_
    refine ea_getR (pc := 83) dX12_keeps_83 ec_12 (k := 115) (Nat.le_of_ble_eq_true rfl) rfl (Or.inl ew_1517) (cShM_326 hsH18).1 (cShM_326 hsH18).2.1 (rShM_326_115 hsH18) ?_
    refine ea_iload_n (pc := 86) dX12_keeps_86 rfl 1 rfl ?_
    refine ea_aload_n (pc := 87) dX12_keeps_87 rfl 0 rfl ?_
    refine ea_getR (pc := 88) dX12_keeps_88 ec_12 (k := 77) (Nat.le_of_ble_eq_true rfl) rfl (Or.inl ew_1479) (cShM_326 hsH18).1 (cShM_326 hsH18).2.1 (rShM_326_77 hsH18) ?_
    refine ea_iload_n (pc := 91) dX12_keeps_91 rfl 1 rfl ?_
    obtain ⟨z20, E⟩ := gd_some E
    refine ea_iald (pc := 92) dX12_keeps_92 (cShM_377 hsH18).1 (cShM_377 hsH18).2.1 (ea_vpl (cShM_377 hsH18).2.2 z19) ?_
    obtain ⟨H21, eH21, E⟩ := let_some E
    refine ea_iast (pc := 93) dX12_keeps_93 (cShM_413 hsH18).1 (cShM_413 hsH18).2.1 (ea_vpl (cShM_413 hsH18).2.2 z20) ?_
    refine ea_nm eH21 ?_
    have hsH21 : ShM H21 := by rw [eH21]; exact hsH18
    obtain ⟨z22, E⟩ := gd_some E
    refine ea_aload_n (pc := 94) dX12_keeps_94 rfl 0 rfl ?_
    refine ea_getR (pc := 95) dX12_keeps_95 ec_12 (k := 117) (Nat.le_of_ble_eq_true rfl) rfl (Or.inl ew_1519) (cShM_326 hsH21).1 (cShM_326 hsH21).2.1 (rShM_326_117 hsH21) ?_
    refine ea_iload_n (pc := 98) dX12_keeps_98 rfl 1 rfl ?_
    refine ea_aload_n (pc := 99) dX12_keeps_99 rfl 0 rfl ?_
    refine ea_getR (pc := 100) dX12_keeps_100 ec_12 (k := 87) (Nat.le_of_ble_eq_true rfl) rfl (Or.inl ew_1489) (cShM_326 hsH21).1 (cShM_326 hsH21).2.1 (rShM_326_87 hsH21) ?_
    refine ea_iload_n (pc := 103) dX12_keeps_103 rfl 1 rfl ?_
    obtain ⟨z23, E⟩ := gd_some E
    refine ea_zald (pc := 104) dX12_keeps_104 (cShM_387 hsH21).1 (cShM_387 hsH21).2.1 (ea_vpl (cShM_387 hsH21).2.2 z22) ?_
    obtain ⟨z24, E⟩ := gd_some E
    obtain ⟨H25, eH25, E⟩ := let_some E
    refine ea_zast (pc := 105) dX12_keeps_105 (y := (ea_i H21 387 (Int32.toNatClampNeg x1))) (ea_bn z24) (cShM_415 hsH21).1 (cShM_415 hsH21).2.1 (ea_vpl (cShM_415 hsH21).2.2 z23) ?_
    refine ea_nm eH25 ?_
    have hsH25 : ShM H25 := by rw [eH25]; exact hsH21
    refine ea_iinc (pc := 106) (v := 1) (lv' := [(0, vR (some 326)), (1, vI (x1 + (1 : Int32)))]) dX12_keeps_106 1 rfl rfl (Nat.le_of_ble_eq_true rfl) [1, 0] rfl ?_
    refine ea_goto (pc := 109) (tgt := 2) dX12_keeps_109 rfl ?_
    exact (kJ2 ((x1 + (1 : Int32)) : Int32) H25 _ _ E hsH25)
theorem kBX12_keeps_2 {J2 : Int32 → ea_H → Option (Unit × ea_H)} {J114 : Int32 → ea_H → Option (Unit × ea_H)}  (cJ2 : ∀ (x1 : Int32) (h : ea_H), kp (ea_core h) (J2 x1 h)) (cJ114 : ∀ (x1 : Int32) (h : ea_H), kp (ea_core h) (J114 x1 h)) {x1 : Int32} {h : ea_H} : kp (ea_core h) (BX12_keeps_2 J2 J114 x1 h) :=
  (kp_ite (kp_tw (cJ114 _ _) rfl) (kp_gd (kp_gd (kp_let (kp_gd (kp_gd (kp_let (kp_gd (kp_gd (kp_let (kp_gd (kp_gd (kp_let (kp_gd (kp_gd (kp_let (kp_gd (kp_gd (kp_let (kp_gd (kp_gd (kp_let (kp_gd (kp_gd (kp_gd (kp_let (kp_tw (cJ2 _ _) rfl)))))))))))))))))))))))))))
theorem lBX12_keeps_2 {J2 : Int32 → ea_H → Option (Unit × ea_H)} {J114 : Int32 → ea_H → Option (Unit × ea_H)} {J2_ : Int32 → ea_H → Option (Unit × ea_H)} {J114_ : Int32 → ea_H → Option (Unit × ea_H)}  (mJ2 : ∀ (x1 : Int32) (h : ea_H), fle (J2 x1 h) (J2_ x1 h)) (mJ114 : ∀ (x1 : Int32) (h : ea_H), fle (J114 x1 h) (J114_ x1 h)) {x1 : Int32} {h : ea_H} : fle (BX12_keeps_2 J2 J114 x1 h) (BX12_keeps_2 J2_ J114_ x1 h) :=
  (fle_ite (mJ114 _ _) (fle_gd (fle_gd (fle_let fun _ => (fle_gd (fle_gd (fle_let fun _ => (fle_gd (fle_gd (fle_let fun _ => (fle_gd (fle_gd (fle_let fun _ => (fle_gd (fle_gd (fle_let fun _ => (fle_gd (fle_gd (fle_let fun _ => (fle_gd (fle_gd (fle_let fun _ => (fle_gd (fle_gd (fle_gd (fle_let fun _ => (mJ2 _ _)))))))))))))))))))))))))))
theorem nBX12_keeps_2 {J2 : Int32 → ea_H → Option (Unit × ea_H)} {J114 : Int32 → ea_H → Option (Unit × ea_H)} {J2_ : Nat → (Int32 → ea_H → Option (Unit × ea_H))} {J114_ : Nat → (Int32 → ea_H → Option (Unit × ea_H))}  (mJ2 : ∀ (x1 : Int32) (h : ea_H), fct (J2 x1 h) (fun f => J2_ f x1 h)) (mJ114 : ∀ (x1 : Int32) (h : ea_H), fct (J114 x1 h) (fun f => J114_ f x1 h)) {x1 : Int32} {h : ea_H} : fct (BX12_keeps_2 J2 J114 x1 h) (fun f => BX12_keeps_2 (J2_ f) (J114_ f) x1 h) :=
  (fct_ite (mJ114 _ _) (fct_gd (fct_gd (fct_let fun _ => (fct_gd (fct_gd (fct_let fun _ => (fct_gd (fct_gd (fct_let fun _ => (fct_gd (fct_gd (fct_let fun _ => (fct_gd (fct_gd (fct_let fun _ => (fct_gd (fct_gd (fct_let fun _ => (fct_gd (fct_gd (fct_let fun _ => (fct_gd (fct_gd (fct_gd (fct_let fun _ => (mJ2 _ _)))))))))))))))))))))))))))
noncomputable def BX12_keeps_114 (J114 : Int32 → ea_H → Option (Unit × ea_H)) (x1 : Int32) (h : ea_H) : Option (Unit × ea_H) :=
  (if (70 : Int32) ≤ x1 then (some ((), h)) else (gd (vp_in x1 70) (gd (vp_in x1 70) (ea_let (ea_wi h 414 (Int32.toNatClampNeg x1) (ea_i h 386 (Int32.toNatClampNeg x1))) fun H29 => (J114 ((x1 + (1 : Int32)) : Int32) H29)))))
theorem tBX12_keeps_114 {d : Nat} {h0 : ea_H} (hd : 1 ≤ d) {J114 : Int32 → ea_H → Option (Unit × ea_H)}  (kJ114 : ∀ (x1 : Int32) (h : ea_H) (r : Unit) (h' : ea_H), J114 x1 h = some (r, h') → ShM h → ea_W mX12_keeps d h0 none h' 114 [(0, vR (some 326)), (1, vI x1)] [] h) {x1 : Int32} {h : ea_H} {r : Unit} {h' : ea_H} (E : BX12_keeps_114 J114 x1 h = some (r, h')) (hs : ShM h) : ea_W mX12_keeps d h0 none h' 114 [(0, vR (some 326)), (1, vI x1)] [] h := by
  unfold BX12_keeps_114 at E
  refine ea_iload_n (pc := 114) dX12_keeps_114 rfl 1 rfl ?_
  refine ea_bipush (pc := 115) dX12_keeps_115 (v := 70) rfl ?_
  refine ea_icmp_ge (pc := 117) (tgt := 138) dX12_keeps_117 rfl (fun c30 => ?_) (fun c30 => ?_)
  · have E := (if_pos c30).symm.trans E
    exact ea_vretO (pc := 138) dX12_keeps_138 rfl E
  · have E := (if_neg c30).symm.trans E
    obtain ⟨z27, E⟩ := gd_some E
    refine ea_aload_n (pc := 120) dX12_keeps_120 rfl 0 rfl ?_
    refine ea_getR (pc := 121) dX12_keeps_121 ec_12 (k := 116) (Nat.le_of_ble_eq_true rfl) rfl (Or.inl ew_1518) (cShM_326 hs).1 (cShM_326 hs).2.1 (rShM_326_116 hs) ?_
    refine ea_iload_n (pc := 124) dX12_keeps_124 rfl 1 rfl ?_
    refine ea_aload_n (pc := 125) dX12_keeps_125 rfl 0 rfl ?_
    refine ea_getR (pc := 126) dX12_keeps_126 ec_12 (k := 86) (Nat.le_of_ble_eq_true rfl) rfl (Or.inl ew_1488) (cShM_326 hs).1 (cShM_326 hs).2.1 (rShM_326_86 hs) ?_
    refine ea_iload_n (pc := 129) dX12_keeps_129 rfl 1 rfl ?_
    obtain ⟨z28, E⟩ := gd_some E
    refine ea_iald (pc := 130) dX12_keeps_130 (cShM_386 hs).1 (cShM_386 hs).2.1 (ea_vpl (cShM_386 hs).2.2 z27) ?_
    obtain ⟨H29, eH29, E⟩ := let_some E
    refine ea_iast (pc := 131) dX12_keeps_131 (cShM_414 hs).1 (cShM_414 hs).2.1 (ea_vpl (cShM_414 hs).2.2 z28) ?_
    refine ea_nm eH29 ?_
    have hsH29 : ShM H29 := by rw [eH29]; exact hs
    refine ea_iinc (pc := 132) (v := 1) (lv' := [(0, vR (some 326)), (1, vI (x1 + (1 : Int32)))]) dX12_keeps_132 1 rfl rfl (Nat.le_of_ble_eq_true rfl) [1, 0] rfl ?_
    refine ea_goto (pc := 135) (tgt := 114) dX12_keeps_135 rfl ?_
    exact (kJ114 ((x1 + (1 : Int32)) : Int32) H29 _ _ E hsH29)
theorem kBX12_keeps_114 {J114 : Int32 → ea_H → Option (Unit × ea_H)}  (cJ114 : ∀ (x1 : Int32) (h : ea_H), kp (ea_core h) (J114 x1 h)) {x1 : Int32} {h : ea_H} : kp (ea_core h) (BX12_keeps_114 J114 x1 h) :=
  (kp_ite (kp_ret rfl) (kp_gd (kp_gd (kp_let (kp_tw (cJ114 _ _) rfl)))))
theorem lBX12_keeps_114 {J114 : Int32 → ea_H → Option (Unit × ea_H)} {J114_ : Int32 → ea_H → Option (Unit × ea_H)}  (mJ114 : ∀ (x1 : Int32) (h : ea_H), fle (J114 x1 h) (J114_ x1 h)) {x1 : Int32} {h : ea_H} : fle (BX12_keeps_114 J114 x1 h) (BX12_keeps_114 J114_ x1 h) :=
  (fle_ite (fle_rfl _) (fle_gd (fle_gd (fle_let fun _ => (mJ114 _ _)))))
theorem nBX12_keeps_114 {J114 : Int32 → ea_H → Option (Unit × ea_H)} {J114_ : Nat → (Int32 → ea_H → Option (Unit × ea_H))}  (mJ114 : ∀ (x1 : Int32) (h : ea_H), fct (J114 x1 h) (fun f => J114_ f x1 h)) {x1 : Int32} {h : ea_H} : fct (BX12_keeps_114 J114 x1 h) (fun f => BX12_keeps_114 (J114_ f) x1 h) :=
  (fct_ite (fct_rfl _) (fct_gd (fct_gd (fct_let fun _ => (mJ114 _ _)))))
noncomputable def gX12_keeps : Nat → (ea_H → Option (Unit × ea_H)) × (Int32 → ea_H → Option (Unit × ea_H)) × (Int32 → ea_H → Option (Unit × ea_H))
  | 0 => (fun _ => none, fun _ _ => none, fun _ _ => none)
  | f + 1 => (BX12_keeps_0 (gX12_keeps f).2.1, BX12_keeps_2 (gX12_keeps f).2.1 (gX12_keeps f).2.2, BX12_keeps_114 (gX12_keeps f).2.2)
theorem mgX12_keeps : ∀ f : Nat, (∀ (h : ea_H), fle ((gX12_keeps f).1 h) ((gX12_keeps (f + 1)).1 h)) ∧ (∀ (x1 : Int32) (h : ea_H), fle ((gX12_keeps f).2.1 x1 h) ((gX12_keeps (f + 1)).2.1 x1 h)) ∧ (∀ (x1 : Int32) (h : ea_H), fle ((gX12_keeps f).2.2 x1 h) ((gX12_keeps (f + 1)).2.2 x1 h)) := by
  intro f
  induction f with
  | zero => exact ⟨fun _ => fle_none _, fun _ _ => fle_none _, fun _ _ => fle_none _⟩
  | succ f ih => exact ⟨fun _ => lBX12_keeps_0 ih.2.1, fun _ _ => lBX12_keeps_2 ih.2.1 ih.2.2, fun _ _ => lBX12_keeps_114 ih.2.2⟩
noncomputable def qX12_keeps_0 (h : ea_H) : Option (Unit × ea_H) := flim fun f => (gX12_keeps f).1 h
noncomputable def qX12_keeps_2 (x1 : Int32) (h : ea_H) : Option (Unit × ea_H) := flim fun f => (gX12_keeps f).2.1 x1 h
noncomputable def qX12_keeps_114 (x1 : Int32) (h : ea_H) : Option (Unit × ea_H) := flim fun f => (gX12_keeps f).2.2 x1 h
theorem fqX12_keeps_0 (h : ea_H) : fct (qX12_keeps_0 h) fun f => (gX12_keeps f).1 h := flim_ct fun f => (mgX12_keeps f).1 h
theorem fqX12_keeps_2 (x1 : Int32) (h : ea_H) : fct (qX12_keeps_2 x1 h) fun f => (gX12_keeps f).2.1 x1 h := flim_ct fun f => (mgX12_keeps f).2.1 x1 h
theorem fqX12_keeps_114 (x1 : Int32) (h : ea_H) : fct (qX12_keeps_114 x1 h) fun f => (gX12_keeps f).2.2 x1 h := flim_ct fun f => (mgX12_keeps f).2.2 x1 h
/-- how a block opens -/
theorem uqX12_keeps_0 {h : ea_H} {P : Unit × ea_H → Prop} (H : sat (BX12_keeps_0 qX12_keeps_2 h) P) : sat (qX12_keeps_0 h) P := by
  obtain ⟨x, e, hp⟩ := H
  obtain ⟨n, hn⟩ := nBX12_keeps_0 fqX12_keeps_2 x e
  exact ⟨x, flim_at (fun f => (mgX12_keeps f).1 h) (f := n + 1) (hn n (Nat.le_refl _)), hp⟩
/-- how a block opens -/
theorem uqX12_keeps_2 {x1 : Int32} {h : ea_H} {P : Unit × ea_H → Prop} (H : sat (BX12_keeps_2 qX12_keeps_2 qX12_keeps_114 x1 h) P) : sat (qX12_keeps_2 x1 h) P := by
  obtain ⟨x, e, hp⟩ := H
  obtain ⟨n, hn⟩ := nBX12_keeps_2 fqX12_keeps_2 fqX12_keeps_114 x e
  exact ⟨x, flim_at (fun f => (mgX12_keeps f).2.1 x1 h) (f := n + 1) (hn n (Nat.le_refl _)), hp⟩
/-- how a block opens -/
theorem uqX12_keeps_114 {x1 : Int32} {h : ea_H} {P : Unit × ea_H → Prop} (H : sat (BX12_keeps_114 qX12_keeps_114 x1 h) P) : sat (qX12_keeps_114 x1 h) P := by
  obtain ⟨x, e, hp⟩ := H
  obtain ⟨n, hn⟩ := nBX12_keeps_114 fqX12_keeps_114 x e
  exact ⟨x, flim_at (fun f => (mgX12_keeps f).2.2 x1 h) (f := n + 1) (hn n (Nat.le_refl _)), hp⟩
theorem kgX12_keeps : ∀ f : Nat, (∀ (h : ea_H), kp (ea_core h) ((gX12_keeps f).1 h)) ∧ (∀ (x1 : Int32) (h : ea_H), kp (ea_core h) ((gX12_keeps f).2.1 x1 h)) ∧ (∀ (x1 : Int32) (h : ea_H), kp (ea_core h) ((gX12_keeps f).2.2 x1 h)) := by
  intro f
  induction f with
  | zero => exact ⟨fun _ => kp_none _, fun _ _ => kp_none _, fun _ _ => kp_none _⟩
  | succ f ih => exact ⟨fun _ => kBX12_keeps_0 ih.2.1, fun _ _ => kBX12_keeps_2 ih.2.1 ih.2.2, fun _ _ => kBX12_keeps_114 ih.2.2⟩
theorem tgX12_keeps {d : Nat} {h0 : ea_H} (hd : 1 ≤ d) : ∀ f : Nat, (∀ (h : ea_H) (r : Unit) (h' : ea_H), (gX12_keeps f).1 h = some (r, h') → ShM h → ea_W mX12_keeps d h0 none h' 0 [(0, vR (some 326))] [] h) ∧ (∀ (x1 : Int32) (h : ea_H) (r : Unit) (h' : ea_H), (gX12_keeps f).2.1 x1 h = some (r, h') → ShM h → ea_W mX12_keeps d h0 none h' 2 [(0, vR (some 326)), (1, vI x1)] [] h) ∧ (∀ (x1 : Int32) (h : ea_H) (r : Unit) (h' : ea_H), (gX12_keeps f).2.2 x1 h = some (r, h') → ShM h → ea_W mX12_keeps d h0 none h' 114 [(0, vR (some 326)), (1, vI x1)] [] h) := by
  intro f
  induction f with
  | zero => exact ⟨fun _ _ _ E => no_some E, fun _ _ _ _ E => no_some E, fun _ _ _ _ E => no_some E⟩
  | succ f ih => exact ⟨fun _ _ _ E hs => tBX12_keeps_0 hd ih.2.1 E hs, fun _ _ _ _ E hs => tBX12_keeps_2 hd ih.2.1 ih.2.2 E hs, fun _ _ _ _ E hs => tBX12_keeps_114 hd ih.2.2 E hs⟩
noncomputable def qX12_keeps (h : ea_H) : Option (Unit × ea_H) := qX12_keeps_0  h
theorem sX12_keeps {d : Nat} {h : ea_H} {r : Unit} {h' : ea_H} (hd : 1 ≤ d) (hs : ShM h) (K : qX12_keeps h = some (r, h')) : ea_Met mX12_keeps d [vR (some 326)] h none h' := by
  unfold qX12_keeps at K
  obtain ⟨n, hn⟩ := fqX12_keeps_0  h _ K
  have W := (tgX12_keeps (d := d) (h0 := h) hd n).1  h _ _ (hn n (Nat.le_refl _)) hs
  exact ea_enter rfl (Nat.le_of_ble_eq_true rfl) W
theorem kpX12_keeps (h : ea_H) : kp (ea_core h) (qX12_keeps h) := fun x e => by
  obtain ⟨n, hn⟩ := fqX12_keeps_0  h x e
  exact (kgX12_keeps n).1  h x (hn n (Nat.le_refl _))
noncomputable def BX12_putsBack_0 (J2 : Int32 → ea_H → Option (Unit × ea_H)) (h : ea_H) : Option (Unit × ea_H) :=
  (J2 (0 : Int32) h)
theorem tBX12_putsBack_0 {d : Nat} {h0 : ea_H} (hd : 1 ≤ d) {J2 : Int32 → ea_H → Option (Unit × ea_H)}  (kJ2 : ∀ (x1 : Int32) (h : ea_H) (r : Unit) (h' : ea_H), J2 x1 h = some (r, h') → ShM h → ea_W mX12_putsBack d h0 none h' 2 [(0, vR (some 326)), (1, vI x1)] [] h) {h : ea_H} {r : Unit} {h' : ea_H} (E : BX12_putsBack_0 J2 h = some (r, h')) (hs : ShM h) : ea_W mX12_putsBack d h0 none h' 0 [(0, vR (some 326))] [] h := by
  unfold BX12_putsBack_0 at E
  refine ea_iconst (pc := 0) dX12_putsBack_0 (v := 0) rfl ?_
  refine ea_istore_n (pc := 1) (lv' := [(0, vR (some 326)), (1, vI 0)]) dX12_putsBack_1 rfl (Nat.le_of_ble_eq_true rfl) [1, 0] rfl ?_
  exact (kJ2 (0 : Int32) h _ _ E hs)
theorem kBX12_putsBack_0 {J2 : Int32 → ea_H → Option (Unit × ea_H)}  (cJ2 : ∀ (x1 : Int32) (h : ea_H), kp (ea_core h) (J2 x1 h)) {h : ea_H} : kp (ea_core h) (BX12_putsBack_0 J2 h) :=
  (kp_tw (cJ2 _ _) rfl)
theorem lBX12_putsBack_0 {J2 : Int32 → ea_H → Option (Unit × ea_H)} {J2_ : Int32 → ea_H → Option (Unit × ea_H)}  (mJ2 : ∀ (x1 : Int32) (h : ea_H), fle (J2 x1 h) (J2_ x1 h)) {h : ea_H} : fle (BX12_putsBack_0 J2 h) (BX12_putsBack_0 J2_ h) :=
  (mJ2 _ _)
theorem nBX12_putsBack_0 {J2 : Int32 → ea_H → Option (Unit × ea_H)} {J2_ : Nat → (Int32 → ea_H → Option (Unit × ea_H))}  (mJ2 : ∀ (x1 : Int32) (h : ea_H), fct (J2 x1 h) (fun f => J2_ f x1 h)) {h : ea_H} : fct (BX12_putsBack_0 J2 h) (fun f => BX12_putsBack_0 (J2_ f) h) :=
  (mJ2 _ _)
noncomputable def BX12_putsBack_2 (J2 : Int32 → ea_H → Option (Unit × ea_H)) (J114 : Int32 → ea_H → Option (Unit × ea_H)) (x1 : Int32) (h : ea_H) : Option (Unit × ea_H) :=
  (if (ea_i h 326 63) ≤ x1 then (J114 (0 : Int32) h) else (gd (vp_in x1 120) (gd (vp_in x1 120) (ea_let (ea_wi h 381 (Int32.toNatClampNeg x1) (ea_i h 407 (Int32.toNatClampNeg x1))) fun H3 => (gd (vp_in x1 120) (gd (vp_in x1 120) (ea_let (ea_wi H3 382 (Int32.toNatClampNeg x1) (ea_i H3 408 (Int32.toNatClampNeg x1))) fun H6 => (gd (vp_in x1 120) (gd (vp_in x1 120) (ea_let (ea_wi H6 383 (Int32.toNatClampNeg x1) (ea_i H6 409 (Int32.toNatClampNeg x1))) fun H9 => (gd (vp_in x1 120) (gd (vp_in x1 120) (ea_let (ea_wi H9 384 (Int32.toNatClampNeg x1) (ea_i H9 410 (Int32.toNatClampNeg x1))) fun H12 => (gd (vp_in x1 120) (gd (vp_in x1 120) (ea_let (ea_wi H12 385 (Int32.toNatClampNeg x1) (ea_i H12 411 (Int32.toNatClampNeg x1))) fun H15 => (gd (vp_in x1 120) (gd (vp_in x1 120) (ea_let (ea_wi H15 376 (Int32.toNatClampNeg x1) (ea_i H15 412 (Int32.toNatClampNeg x1))) fun H18 => (gd (vp_in x1 120) (gd (vp_in x1 120) (ea_let (ea_wi H18 377 (Int32.toNatClampNeg x1) (ea_i H18 413 (Int32.toNatClampNeg x1))) fun H21 => (gd (vp_in x1 120) (gd (vp_in x1 120) (gd (((ea_i H21 415 (Int32.toNatClampNeg x1)) = 0 ∨ (ea_i H21 415 (Int32.toNatClampNeg x1)) = 1)) (ea_let (ea_wi H21 387 (Int32.toNatClampNeg x1) (ea_i H21 415 (Int32.toNatClampNeg x1))) fun H25 => (J2 ((x1 + (1 : Int32)) : Int32) H25)))))))))))))))))))))))))))
theorem tBX12_putsBack_2 {d : Nat} {h0 : ea_H} (hd : 1 ≤ d) {J2 : Int32 → ea_H → Option (Unit × ea_H)} {J114 : Int32 → ea_H → Option (Unit × ea_H)}  (kJ2 : ∀ (x1 : Int32) (h : ea_H) (r : Unit) (h' : ea_H), J2 x1 h = some (r, h') → ShM h → ea_W mX12_putsBack d h0 none h' 2 [(0, vR (some 326)), (1, vI x1)] [] h) (kJ114 : ∀ (x1 : Int32) (h : ea_H) (r : Unit) (h' : ea_H), J114 x1 h = some (r, h') → ShM h → ea_W mX12_putsBack d h0 none h' 114 [(0, vR (some 326)), (1, vI x1)] [] h) {x1 : Int32} {h : ea_H} {r : Unit} {h' : ea_H} (E : BX12_putsBack_2 J2 J114 x1 h = some (r, h')) (hs : ShM h) : ea_W mX12_putsBack d h0 none h' 2 [(0, vR (some 326)), (1, vI x1)] [] h := by
  unfold BX12_putsBack_2 at E
  refine ea_iload_n (pc := 2) dX12_putsBack_2 rfl 1 rfl ?_
  refine ea_aload_n (pc := 3) dX12_putsBack_3 rfl 0 rfl ?_
  refine ea_getI (pc := 4) dX12_putsBack_4 ec_12 (k := 63) (Nat.le_of_ble_eq_true rfl) rfl (Or.inl ew_1465) (cShM_326 hs).1 (cShM_326 hs).2.1 ?_
  refine ea_icmp_ge (pc := 7) (tgt := 112) dX12_putsBack_7 rfl (fun c26 => ?_) (fun c26 => ?_)
  · have E := (if_pos c26).symm.trans E
    refine ea_iconst (pc := 112) dX12_putsBack_112 (v := 0) rfl ?_
    refine ea_istore_n (pc := 113) (lv' := [(0, vR (some 326)), (1, vI 0)]) dX12_putsBack_113 rfl (Nat.le_of_ble_eq_true rfl) [1, 0] rfl ?_
    exact (kJ114 (0 : Int32) h _ _ E hs)
  · have E := (if_neg c26).symm.trans E
    obtain ⟨z1, E⟩ := gd_some E
    refine ea_aload_n (pc := 10) dX12_putsBack_10 rfl 0 rfl ?_
    refine ea_getR (pc := 11) dX12_putsBack_11 ec_12 (k := 81) (Nat.le_of_ble_eq_true rfl) rfl (Or.inl ew_1483) (cShM_326 hs).1 (cShM_326 hs).2.1 (rShM_326_81 hs) ?_
    refine ea_iload_n (pc := 14) dX12_putsBack_14 rfl 1 rfl ?_
    refine ea_aload_n (pc := 15) dX12_putsBack_15 rfl 0 rfl ?_
    refine ea_getR (pc := 16) dX12_putsBack_16 ec_12 (k := 109) (Nat.le_of_ble_eq_true rfl) rfl (Or.inl ew_1511) (cShM_326 hs).1 (cShM_326 hs).2.1 (rShM_326_109 hs) ?_
    refine ea_iload_n (pc := 19) dX12_putsBack_19 rfl 1 rfl ?_
    obtain ⟨z2, E⟩ := gd_some E
    refine ea_iald (pc := 20) dX12_putsBack_20 (cShM_407 hs).1 (cShM_407 hs).2.1 (ea_vpl (cShM_407 hs).2.2 z1) ?_
    obtain ⟨H3, eH3, E⟩ := let_some E
    refine ea_iast (pc := 21) dX12_putsBack_21 (cShM_381 hs).1 (cShM_381 hs).2.1 (ea_vpl (cShM_381 hs).2.2 z2) ?_
    refine ea_nm eH3 ?_
    have hsH3 : ShM H3 := by rw [eH3]; exact hs
    obtain ⟨z4, E⟩ := gd_some E
    refine ea_aload_n (pc := 22) dX12_putsBack_22 rfl 0 rfl ?_
    refine ea_getR (pc := 23) dX12_putsBack_23 ec_12 (k := 82) (Nat.le_of_ble_eq_true rfl) rfl (Or.inl ew_1484) (cShM_326 hsH3).1 (cShM_326 hsH3).2.1 (rShM_326_82 hsH3) ?_
    refine ea_iload_n (pc := 26) dX12_putsBack_26 rfl 1 rfl ?_
    refine ea_aload_n (pc := 27) dX12_putsBack_27 rfl 0 rfl ?_
    refine ea_getR (pc := 28) dX12_putsBack_28 ec_12 (k := 110) (Nat.le_of_ble_eq_true rfl) rfl (Or.inl ew_1512) (cShM_326 hsH3).1 (cShM_326 hsH3).2.1 (rShM_326_110 hsH3) ?_
    refine ea_iload_n (pc := 31) dX12_putsBack_31 rfl 1 rfl ?_
    obtain ⟨z5, E⟩ := gd_some E
    refine ea_iald (pc := 32) dX12_putsBack_32 (cShM_408 hsH3).1 (cShM_408 hsH3).2.1 (ea_vpl (cShM_408 hsH3).2.2 z4) ?_
    obtain ⟨H6, eH6, E⟩ := let_some E
    refine ea_iast (pc := 33) dX12_putsBack_33 (cShM_382 hsH3).1 (cShM_382 hsH3).2.1 (ea_vpl (cShM_382 hsH3).2.2 z5) ?_
    refine ea_nm eH6 ?_
    have hsH6 : ShM H6 := by rw [eH6]; exact hsH3
    obtain ⟨z7, E⟩ := gd_some E
    refine ea_aload_n (pc := 34) dX12_putsBack_34 rfl 0 rfl ?_
    refine ea_getR (pc := 35) dX12_putsBack_35 ec_12 (k := 83) (Nat.le_of_ble_eq_true rfl) rfl (Or.inl ew_1485) (cShM_326 hsH6).1 (cShM_326 hsH6).2.1 (rShM_326_83 hsH6) ?_
    refine ea_iload_n (pc := 38) dX12_putsBack_38 rfl 1 rfl ?_
    refine ea_aload_n (pc := 39) dX12_putsBack_39 rfl 0 rfl ?_
    refine ea_getR (pc := 40) dX12_putsBack_40 ec_12 (k := 111) (Nat.le_of_ble_eq_true rfl) rfl (Or.inl ew_1513) (cShM_326 hsH6).1 (cShM_326 hsH6).2.1 (rShM_326_111 hsH6) ?_
    refine ea_iload_n (pc := 43) dX12_putsBack_43 rfl 1 rfl ?_
    obtain ⟨z8, E⟩ := gd_some E
    refine ea_iald (pc := 44) dX12_putsBack_44 (cShM_409 hsH6).1 (cShM_409 hsH6).2.1 (ea_vpl (cShM_409 hsH6).2.2 z7) ?_
    obtain ⟨H9, eH9, E⟩ := let_some E
    refine ea_iast (pc := 45) dX12_putsBack_45 (cShM_383 hsH6).1 (cShM_383 hsH6).2.1 (ea_vpl (cShM_383 hsH6).2.2 z8) ?_
    refine ea_nm eH9 ?_
    have hsH9 : ShM H9 := by rw [eH9]; exact hsH6
    obtain ⟨z10, E⟩ := gd_some E
    refine ea_aload_n (pc := 46) dX12_putsBack_46 rfl 0 rfl ?_
    refine ea_getR (pc := 47) dX12_putsBack_47 ec_12 (k := 84) (Nat.le_of_ble_eq_true rfl) rfl (Or.inl ew_1486) (cShM_326 hsH9).1 (cShM_326 hsH9).2.1 (rShM_326_84 hsH9) ?_
    refine ea_iload_n (pc := 50) dX12_putsBack_50 rfl 1 rfl ?_
    refine ea_aload_n (pc := 51) dX12_putsBack_51 rfl 0 rfl ?_
    refine ea_getR (pc := 52) dX12_putsBack_52 ec_12 (k := 112) (Nat.le_of_ble_eq_true rfl) rfl (Or.inl ew_1514) (cShM_326 hsH9).1 (cShM_326 hsH9).2.1 (rShM_326_112 hsH9) ?_
    refine ea_iload_n (pc := 55) dX12_putsBack_55 rfl 1 rfl ?_
    obtain ⟨z11, E⟩ := gd_some E
    refine ea_iald (pc := 56) dX12_putsBack_56 (cShM_410 hsH9).1 (cShM_410 hsH9).2.1 (ea_vpl (cShM_410 hsH9).2.2 z10) ?_
    obtain ⟨H12, eH12, E⟩ := let_some E
    refine ea_iast (pc := 57) dX12_putsBack_57 (cShM_384 hsH9).1 (cShM_384 hsH9).2.1 (ea_vpl (cShM_384 hsH9).2.2 z11) ?_
    refine ea_nm eH12 ?_
    have hsH12 : ShM H12 := by rw [eH12]; exact hsH9
    obtain ⟨z13, E⟩ := gd_some E
    refine ea_aload_n (pc := 58) dX12_putsBack_58 rfl 0 rfl ?_
    refine ea_getR (pc := 59) dX12_putsBack_59 ec_12 (k := 85) (Nat.le_of_ble_eq_true rfl) rfl (Or.inl ew_1487) (cShM_326 hsH12).1 (cShM_326 hsH12).2.1 (rShM_326_85 hsH12) ?_
    refine ea_iload_n (pc := 62) dX12_putsBack_62 rfl 1 rfl ?_
    refine ea_aload_n (pc := 63) dX12_putsBack_63 rfl 0 rfl ?_
    refine ea_getR (pc := 64) dX12_putsBack_64 ec_12 (k := 113) (Nat.le_of_ble_eq_true rfl) rfl (Or.inl ew_1515) (cShM_326 hsH12).1 (cShM_326 hsH12).2.1 (rShM_326_113 hsH12) ?_
    refine ea_iload_n (pc := 67) dX12_putsBack_67 rfl 1 rfl ?_
    obtain ⟨z14, E⟩ := gd_some E
    refine ea_iald (pc := 68) dX12_putsBack_68 (cShM_411 hsH12).1 (cShM_411 hsH12).2.1 (ea_vpl (cShM_411 hsH12).2.2 z13) ?_
    obtain ⟨H15, eH15, E⟩ := let_some E
    refine ea_iast (pc := 69) dX12_putsBack_69 (cShM_385 hsH12).1 (cShM_385 hsH12).2.1 (ea_vpl (cShM_385 hsH12).2.2 z14) ?_
    refine ea_nm eH15 ?_
    have hsH15 : ShM H15 := by rw [eH15]; exact hsH12
    obtain ⟨z16, E⟩ := gd_some E
    refine ea_aload_n (pc := 70) dX12_putsBack_70 rfl 0 rfl ?_
    refine ea_getR (pc := 71) dX12_putsBack_71 ec_12 (k := 76) (Nat.le_of_ble_eq_true rfl) rfl (Or.inl ew_1478) (cShM_326 hsH15).1 (cShM_326 hsH15).2.1 (rShM_326_76 hsH15) ?_
    refine ea_iload_n (pc := 74) dX12_putsBack_74 rfl 1 rfl ?_
    refine ea_aload_n (pc := 75) dX12_putsBack_75 rfl 0 rfl ?_
    refine ea_getR (pc := 76) dX12_putsBack_76 ec_12 (k := 114) (Nat.le_of_ble_eq_true rfl) rfl (Or.inl ew_1516) (cShM_326 hsH15).1 (cShM_326 hsH15).2.1 (rShM_326_114 hsH15) ?_
    refine ea_iload_n (pc := 79) dX12_putsBack_79 rfl 1 rfl ?_
    obtain ⟨z17, E⟩ := gd_some E
    refine ea_iald (pc := 80) dX12_putsBack_80 (cShM_412 hsH15).1 (cShM_412 hsH15).2.1 (ea_vpl (cShM_412 hsH15).2.2 z16) ?_
    obtain ⟨H18, eH18, E⟩ := let_some E
    refine ea_iast (pc := 81) dX12_putsBack_81 (cShM_376 hsH15).1 (cShM_376 hsH15).2.1 (ea_vpl (cShM_376 hsH15).2.2 z17) ?_
    refine ea_nm eH18 ?_
    have hsH18 : ShM H18 := by rw [eH18]; exact hsH15
    obtain ⟨z19, E⟩ := gd_some E
    refine ea_aload_n (pc := 82) dX12_putsBack_82 rfl 0 rfl ?_
    refine ea_getR (pc := 83) dX12_putsBack_83 ec_12 (k := 77) (Nat.le_of_ble_eq_true rfl) rfl (Or.inl ew_1479) (cShM_326 hsH18).1 (cShM_326 hsH18).2.1 (rShM_326_77 hsH18) ?_
    refine ea_iload_n (pc := 86) dX12_putsBack_86 rfl 1 rfl ?_
    refine ea_aload_n (pc := 87) dX12_putsBack_87 rfl 0 rfl ?_
    refine ea_getR (pc := 88) dX12_putsBack_88 ec_12 (k := 115) (Nat.le_of_ble_eq_true rfl) rfl (Or.inl ew_1517) (cShM_326 hsH18).1 (cShM_326 hsH18).2.1 (rShM_326_115 hsH18) ?_
    refine ea_iload_n (pc := 91) dX12_putsBack_91 rfl 1 rfl ?_
    obtain ⟨z20, E⟩ := gd_some E
    refine ea_iald (pc := 92) dX12_putsBack_92 (cShM_413 hsH18).1 (cShM_413 hsH18).2.1 (ea_vpl (cShM_413 hsH18).2.2 z19) ?_
    obtain ⟨H21, eH21, E⟩ := let_some E
    refine ea_iast (pc := 93) dX12_putsBack_93 (cShM_377 hsH18).1 (cShM_377 hsH18).2.1 (ea_vpl (cShM_377 hsH18).2.2 z20) ?_
    refine ea_nm eH21 ?_
    have hsH21 : ShM H21 := by rw [eH21]; exact hsH18
    obtain ⟨z22, E⟩ := gd_some E
    refine ea_aload_n (pc := 94) dX12_putsBack_94 rfl 0 rfl ?_
    refine ea_getR (pc := 95) dX12_putsBack_95 ec_12 (k := 87) (Nat.le_of_ble_eq_true rfl) rfl (Or.inl ew_1489) (cShM_326 hsH21).1 (cShM_326 hsH21).2.1 (rShM_326_87 hsH21) ?_
    refine ea_iload_n (pc := 98) dX12_putsBack_98 rfl 1 rfl ?_
    refine ea_aload_n (pc := 99) dX12_putsBack_99 rfl 0 rfl ?_
    refine ea_getR (pc := 100) dX12_putsBack_100 ec_12 (k := 117) (Nat.le_of_ble_eq_true rfl) rfl (Or.inl ew_1519) (cShM_326 hsH21).1 (cShM_326 hsH21).2.1 (rShM_326_117 hsH21) ?_
    refine ea_iload_n (pc := 103) dX12_putsBack_103 rfl 1 rfl ?_
    obtain ⟨z23, E⟩ := gd_some E
    refine ea_zald (pc := 104) dX12_putsBack_104 (cShM_415 hsH21).1 (cShM_415 hsH21).2.1 (ea_vpl (cShM_415 hsH21).2.2 z22) ?_
    obtain ⟨z24, E⟩ := gd_some E
    obtain ⟨H25, eH25, E⟩ := let_some E
    refine ea_zast (pc := 105) dX12_putsBack_105 (y := (ea_i H21 415 (Int32.toNatClampNeg x1))) (ea_bn z24) (cShM_387 hsH21).1 (cShM_387 hsH21).2.1 (ea_vpl (cShM_387 hsH21).2.2 z23) ?_
    refine ea_nm eH25 ?_
    have hsH25 : ShM H25 := by rw [eH25]; exact hsH21
    refine ea_iinc (pc := 106) (v := 1) (lv' := [(0, vR (some 326)), (1, vI (x1 + (1 : Int32)))]) dX12_putsBack_106 1 rfl rfl (Nat.le_of_ble_eq_true rfl) [1, 0] rfl ?_
    refine ea_goto (pc := 109) (tgt := 2) dX12_putsBack_109 rfl ?_
    exact (kJ2 ((x1 + (1 : Int32)) : Int32) H25 _ _ E hsH25)
theorem kBX12_putsBack_2 {J2 : Int32 → ea_H → Option (Unit × ea_H)} {J114 : Int32 → ea_H → Option (Unit × ea_H)}  (cJ2 : ∀ (x1 : Int32) (h : ea_H), kp (ea_core h) (J2 x1 h)) (cJ114 : ∀ (x1 : Int32) (h : ea_H), kp (ea_core h) (J114 x1 h)) {x1 : Int32} {h : ea_H} : kp (ea_core h) (BX12_putsBack_2 J2 J114 x1 h) :=
  (kp_ite (kp_tw (cJ114 _ _) rfl) (kp_gd (kp_gd (kp_let (kp_gd (kp_gd (kp_let (kp_gd (kp_gd (kp_let (kp_gd (kp_gd (kp_let (kp_gd (kp_gd (kp_let (kp_gd (kp_gd (kp_let (kp_gd (kp_gd (kp_let (kp_gd (kp_gd (kp_gd (kp_let (kp_tw (cJ2 _ _) rfl)))))))))))))))))))))))))))
theorem lBX12_putsBack_2 {J2 : Int32 → ea_H → Option (Unit × ea_H)} {J114 : Int32 → ea_H → Option (Unit × ea_H)} {J2_ : Int32 → ea_H → Option (Unit × ea_H)} {J114_ : Int32 → ea_H → Option (Unit × ea_H)}  (mJ2 : ∀ (x1 : Int32) (h : ea_H), fle (J2 x1 h) (J2_ x1 h)) (mJ114 : ∀ (x1 : Int32) (h : ea_H), fle (J114 x1 h) (J114_ x1 h)) {x1 : Int32} {h : ea_H} : fle (BX12_putsBack_2 J2 J114 x1 h) (BX12_putsBack_2 J2_ J114_ x1 h) :=
  (fle_ite (mJ114 _ _) (fle_gd (fle_gd (fle_let fun _ => (fle_gd (fle_gd (fle_let fun _ => (fle_gd (fle_gd (fle_let fun _ => (fle_gd (fle_gd (fle_let fun _ => (fle_gd (fle_gd (fle_let fun _ => (fle_gd (fle_gd (fle_let fun _ => (fle_gd (fle_gd (fle_let fun _ => (fle_gd (fle_gd (fle_gd (fle_let fun _ => (mJ2 _ _)))))))))))))))))))))))))))
theorem nBX12_putsBack_2 {J2 : Int32 → ea_H → Option (Unit × ea_H)} {J114 : Int32 → ea_H → Option (Unit × ea_H)} {J2_ : Nat → (Int32 → ea_H → Option (Unit × ea_H))} {J114_ : Nat → (Int32 → ea_H → Option (Unit × ea_H))}  (mJ2 : ∀ (x1 : Int32) (h : ea_H), fct (J2 x1 h) (fun f => J2_ f x1 h)) (mJ114 : ∀ (x1 : Int32) (h : ea_H), fct (J114 x1 h) (fun f => J114_ f x1 h)) {x1 : Int32} {h : ea_H} : fct (BX12_putsBack_2 J2 J114 x1 h) (fun f => BX12_putsBack_2 (J2_ f) (J114_ f) x1 h) :=
  (fct_ite (mJ114 _ _) (fct_gd (fct_gd (fct_let fun _ => (fct_gd (fct_gd (fct_let fun _ => (fct_gd (fct_gd (fct_let fun _ => (fct_gd (fct_gd (fct_let fun _ => (fct_gd (fct_gd (fct_let fun _ => (fct_gd (fct_gd (fct_let fun _ => (fct_gd (fct_gd (fct_let fun _ => (fct_gd (fct_gd (fct_gd (fct_let fun _ => (mJ2 _ _)))))))))))))))))))))))))))
noncomputable def BX12_putsBack_114 (J114 : Int32 → ea_H → Option (Unit × ea_H)) (x1 : Int32) (h : ea_H) : Option (Unit × ea_H) :=
  (if (70 : Int32) ≤ x1 then (some ((), h)) else (gd (vp_in x1 70) (gd (vp_in x1 70) (ea_let (ea_wi h 386 (Int32.toNatClampNeg x1) (ea_i h 414 (Int32.toNatClampNeg x1))) fun H29 => (J114 ((x1 + (1 : Int32)) : Int32) H29)))))
theorem tBX12_putsBack_114 {d : Nat} {h0 : ea_H} (hd : 1 ≤ d) {J114 : Int32 → ea_H → Option (Unit × ea_H)}  (kJ114 : ∀ (x1 : Int32) (h : ea_H) (r : Unit) (h' : ea_H), J114 x1 h = some (r, h') → ShM h → ea_W mX12_putsBack d h0 none h' 114 [(0, vR (some 326)), (1, vI x1)] [] h) {x1 : Int32} {h : ea_H} {r : Unit} {h' : ea_H} (E : BX12_putsBack_114 J114 x1 h = some (r, h')) (hs : ShM h) : ea_W mX12_putsBack d h0 none h' 114 [(0, vR (some 326)), (1, vI x1)] [] h := by
  unfold BX12_putsBack_114 at E
  refine ea_iload_n (pc := 114) dX12_putsBack_114 rfl 1 rfl ?_
  refine ea_bipush (pc := 115) dX12_putsBack_115 (v := 70) rfl ?_
  refine ea_icmp_ge (pc := 117) (tgt := 138) dX12_putsBack_117 rfl (fun c30 => ?_) (fun c30 => ?_)
  · have E := (if_pos c30).symm.trans E
    exact ea_vretO (pc := 138) dX12_putsBack_138 rfl E
  · have E := (if_neg c30).symm.trans E
    obtain ⟨z27, E⟩ := gd_some E
    refine ea_aload_n (pc := 120) dX12_putsBack_120 rfl 0 rfl ?_
    refine ea_getR (pc := 121) dX12_putsBack_121 ec_12 (k := 86) (Nat.le_of_ble_eq_true rfl) rfl (Or.inl ew_1488) (cShM_326 hs).1 (cShM_326 hs).2.1 (rShM_326_86 hs) ?_
    refine ea_iload_n (pc := 124) dX12_putsBack_124 rfl 1 rfl ?_
    refine ea_aload_n (pc := 125) dX12_putsBack_125 rfl 0 rfl ?_
    refine ea_getR (pc := 126) dX12_putsBack_126 ec_12 (k := 116) (Nat.le_of_ble_eq_true rfl) rfl (Or.inl ew_1518) (cShM_326 hs).1 (cShM_326 hs).2.1 (rShM_326_116 hs) ?_
    refine ea_iload_n (pc := 129) dX12_putsBack_129 rfl 1 rfl ?_
    obtain ⟨z28, E⟩ := gd_some E
    refine ea_iald (pc := 130) dX12_putsBack_130 (cShM_414 hs).1 (cShM_414 hs).2.1 (ea_vpl (cShM_414 hs).2.2 z27) ?_
    obtain ⟨H29, eH29, E⟩ := let_some E
    refine ea_iast (pc := 131) dX12_putsBack_131 (cShM_386 hs).1 (cShM_386 hs).2.1 (ea_vpl (cShM_386 hs).2.2 z28) ?_
    refine ea_nm eH29 ?_
    have hsH29 : ShM H29 := by rw [eH29]; exact hs
    refine ea_iinc (pc := 132) (v := 1) (lv' := [(0, vR (some 326)), (1, vI (x1 + (1 : Int32)))]) dX12_putsBack_132 1 rfl rfl (Nat.le_of_ble_eq_true rfl) [1, 0] rfl ?_
    refine ea_goto (pc := 135) (tgt := 114) dX12_putsBack_135 rfl ?_
    exact (kJ114 ((x1 + (1 : Int32)) : Int32) H29 _ _ E hsH29)
theorem kBX12_putsBack_114 {J114 : Int32 → ea_H → Option (Unit × ea_H)}  (cJ114 : ∀ (x1 : Int32) (h : ea_H), kp (ea_core h) (J114 x1 h)) {x1 : Int32} {h : ea_H} : kp (ea_core h) (BX12_putsBack_114 J114 x1 h) :=
  (kp_ite (kp_ret rfl) (kp_gd (kp_gd (kp_let (kp_tw (cJ114 _ _) rfl)))))
theorem lBX12_putsBack_114 {J114 : Int32 → ea_H → Option (Unit × ea_H)} {J114_ : Int32 → ea_H → Option (Unit × ea_H)}  (mJ114 : ∀ (x1 : Int32) (h : ea_H), fle (J114 x1 h) (J114_ x1 h)) {x1 : Int32} {h : ea_H} : fle (BX12_putsBack_114 J114 x1 h) (BX12_putsBack_114 J114_ x1 h) :=
  (fle_ite (fle_rfl _) (fle_gd (fle_gd (fle_let fun _ => (mJ114 _ _)))))
theorem nBX12_putsBack_114 {J114 : Int32 → ea_H → Option (Unit × ea_H)} {J114_ : Nat → (Int32 → ea_H → Option (Unit × ea_H))}  (mJ114 : ∀ (x1 : Int32) (h : ea_H), fct (J114 x1 h) (fun f => J114_ f x1 h)) {x1 : Int32} {h : ea_H} : fct (BX12_putsBack_114 J114 x1 h) (fun f => BX12_putsBack_114 (J114_ f) x1 h) :=
  (fct_ite (fct_rfl _) (fct_gd (fct_gd (fct_let fun _ => (mJ114 _ _)))))
noncomputable def gX12_putsBack : Nat → (ea_H → Option (Unit × ea_H)) × (Int32 → ea_H → Option (Unit × ea_H)) × (Int32 → ea_H → Option (Unit × ea_H))
  | 0 => (fun _ => none, fun _ _ => none, fun _ _ => none)
  | f + 1 => (BX12_putsBack_0 (gX12_putsBack f).2.1, BX12_putsBack_2 (gX12_putsBack f).2.1 (gX12_putsBack f).2.2, BX12_putsBack_114 (gX12_putsBack f).2.2)
theorem mgX12_putsBack : ∀ f : Nat, (∀ (h : ea_H), fle ((gX12_putsBack f).1 h) ((gX12_putsBack (f + 1)).1 h)) ∧ (∀ (x1 : Int32) (h : ea_H), fle ((gX12_putsBack f).2.1 x1 h) ((gX12_putsBack (f + 1)).2.1 x1 h)) ∧ (∀ (x1 : Int32) (h : ea_H), fle ((gX12_putsBack f).2.2 x1 h) ((gX12_putsBack (f + 1)).2.2 x1 h)) := by
  intro f
  induction f with
  | zero => exact ⟨fun _ => fle_none _, fun _ _ => fle_none _, fun _ _ => fle_none _⟩
  | succ f ih => exact ⟨fun _ => lBX12_putsBack_0 ih.2.1, fun _ _ => lBX12_putsBack_2 ih.2.1 ih.2.2, fun _ _ => lBX12_putsBack_114 ih.2.2⟩
noncomputable def qX12_putsBack_0 (h : ea_H) : Option (Unit × ea_H) := flim fun f => (gX12_putsBack f).1 h
noncomputable def qX12_putsBack_2 (x1 : Int32) (h : ea_H) : Option (Unit × ea_H) := flim fun f => (gX12_putsBack f).2.1 x1 h
noncomputable def qX12_putsBack_114 (x1 : Int32) (h : ea_H) : Option (Unit × ea_H) := flim fun f => (gX12_putsBack f).2.2 x1 h
theorem fqX12_putsBack_0 (h : ea_H) : fct (qX12_putsBack_0 h) fun f => (gX12_putsBack f).1 h := flim_ct fun f => (mgX12_putsBack f).1 h
theorem fqX12_putsBack_2 (x1 : Int32) (h : ea_H) : fct (qX12_putsBack_2 x1 h) fun f => (gX12_putsBack f).2.1 x1 h := flim_ct fun f => (mgX12_putsBack f).2.1 x1 h
theorem fqX12_putsBack_114 (x1 : Int32) (h : ea_H) : fct (qX12_putsBack_114 x1 h) fun f => (gX12_putsBack f).2.2 x1 h := flim_ct fun f => (mgX12_putsBack f).2.2 x1 h
/-- how a block opens -/
theorem uqX12_putsBack_0 {h : ea_H} {P : Unit × ea_H → Prop} (H : sat (BX12_putsBack_0 qX12_putsBack_2 h) P) : sat (qX12_putsBack_0 h) P := by
  obtain ⟨x, e, hp⟩ := H
  obtain ⟨n, hn⟩ := nBX12_putsBack_0 fqX12_putsBack_2 x e
  exact ⟨x, flim_at (fun f => (mgX12_putsBack f).1 h) (f := n + 1) (hn n (Nat.le_refl _)), hp⟩
/-- how a block opens -/
theorem uqX12_putsBack_2 {x1 : Int32} {h : ea_H} {P : Unit × ea_H → Prop} (H : sat (BX12_putsBack_2 qX12_putsBack_2 qX12_putsBack_114 x1 h) P) : sat (qX12_putsBack_2 x1 h) P := by
  obtain ⟨x, e, hp⟩ := H
  obtain ⟨n, hn⟩ := nBX12_putsBack_2 fqX12_putsBack_2 fqX12_putsBack_114 x e
  exact ⟨x, flim_at (fun f => (mgX12_putsBack f).2.1 x1 h) (f := n + 1) (hn n (Nat.le_refl _)), hp⟩
/-- how a block opens -/
theorem uqX12_putsBack_114 {x1 : Int32} {h : ea_H} {P : Unit × ea_H → Prop} (H : sat (BX12_putsBack_114 qX12_putsBack_114 x1 h) P) : sat (qX12_putsBack_114 x1 h) P := by
  obtain ⟨x, e, hp⟩ := H
  obtain ⟨n, hn⟩ := nBX12_putsBack_114 fqX12_putsBack_114 x e
  exact ⟨x, flim_at (fun f => (mgX12_putsBack f).2.2 x1 h) (f := n + 1) (hn n (Nat.le_refl _)), hp⟩
theorem kgX12_putsBack : ∀ f : Nat, (∀ (h : ea_H), kp (ea_core h) ((gX12_putsBack f).1 h)) ∧ (∀ (x1 : Int32) (h : ea_H), kp (ea_core h) ((gX12_putsBack f).2.1 x1 h)) ∧ (∀ (x1 : Int32) (h : ea_H), kp (ea_core h) ((gX12_putsBack f).2.2 x1 h)) := by
  intro f
  induction f with
  | zero => exact ⟨fun _ => kp_none _, fun _ _ => kp_none _, fun _ _ => kp_none _⟩
  | succ f ih => exact ⟨fun _ => kBX12_putsBack_0 ih.2.1, fun _ _ => kBX12_putsBack_2 ih.2.1 ih.2.2, fun _ _ => kBX12_putsBack_114 ih.2.2⟩
theorem tgX12_putsBack {d : Nat} {h0 : ea_H} (hd : 1 ≤ d) : ∀ f : Nat, (∀ (h : ea_H) (r : Unit) (h' : ea_H), (gX12_putsBack f).1 h = some (r, h') → ShM h → ea_W mX12_putsBack d h0 none h' 0 [(0, vR (some 326))] [] h) ∧ (∀ (x1 : Int32) (h : ea_H) (r : Unit) (h' : ea_H), (gX12_putsBack f).2.1 x1 h = some (r, h') → ShM h → ea_W mX12_putsBack d h0 none h' 2 [(0, vR (some 326)), (1, vI x1)] [] h) ∧ (∀ (x1 : Int32) (h : ea_H) (r : Unit) (h' : ea_H), (gX12_putsBack f).2.2 x1 h = some (r, h') → ShM h → ea_W mX12_putsBack d h0 none h' 114 [(0, vR (some 326)), (1, vI x1)] [] h) := by
  intro f
  induction f with
  | zero => exact ⟨fun _ _ _ E => no_some E, fun _ _ _ _ E => no_some E, fun _ _ _ _ E => no_some E⟩
  | succ f ih => exact ⟨fun _ _ _ E hs => tBX12_putsBack_0 hd ih.2.1 E hs, fun _ _ _ _ E hs => tBX12_putsBack_2 hd ih.2.1 ih.2.2 E hs, fun _ _ _ _ E hs => tBX12_putsBack_114 hd ih.2.2 E hs⟩
noncomputable def qX12_putsBack (h : ea_H) : Option (Unit × ea_H) := qX12_putsBack_0  h
theorem sX12_putsBack {d : Nat} {h : ea_H} {r : Unit} {h' : ea_H} (hd : 1 ≤ d) (hs : ShM h) (K : qX12_putsBack h = some (r, h')) : ea_Met mX12_putsBack d [vR (some 326)] h none h' := by
  unfold qX12_putsBack at K
  obtain ⟨n, hn⟩ := fqX12_putsBack_0  h _ K
  have W := (tgX12_putsBack (d := d) (h0 := h) hd n).1  h _ _ (hn n (Nat.le_refl _)) hs
  exact ea_enter rfl (Nat.le_of_ble_eq_true rfl) W
theorem kpX12_putsBack (h : ea_H) : kp (ea_core h) (qX12_putsBack h) := fun x e => by
  obtain ⟨n, hn⟩ := fqX12_putsBack_0  h x e
  exact (kgX12_putsBack n).1  h x (hn n (Nat.le_refl _))
