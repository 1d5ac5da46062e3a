/-! the class, 6 -/
noncomputable def BX1_carry_at62_0 (J18 : Int32 → Int32 → Int32 → ea_H → Option (Unit × ea_H)) (x1 : Int32) (x2 : Int32) (h : ea_H) : Option (Unit × ea_H) :=
  (ea_let ((x1 / (1440 : Int32)) + (1 : Int32)) fun (v1 : Int32) => (Option.bind (qX10_firstBehind (x1 : Int32) h) fun w2 => (J18 (x2 : Int32) (v1 : Int32) (w2.1 : Int32) w2.2)))
theorem tBX1_carry_at62_0 {d : Nat} {h0 : ea_H} (hd : 5 ≤ d) {J18 : Int32 → Int32 → Int32 → ea_H → Option (Unit × ea_H)}  (kJ18 : ∀ (x2 : Int32) (x3 : Int32) (x4 : Int32) (h : ea_H) (r : Unit) (h' : ea_H), J18 x2 x3 x4 h = some (r, h') → ShC h → ea_W mX1_carry d h0 none h' 18 [(0, vR (some 62)), (2, vI x2), (3, vI x3), (4, vI x4)] [] h) {x1 : Int32} {x2 : Int32} {h : ea_H} {r : Unit} {h' : ea_H} (E : BX1_carry_at62_0 J18 x1 x2 h = some (r, h')) (hs : ShC h) : ea_W mX1_carry d h0 none h' 0 [(0, vR (some 62)), (1, vI x1), (2, vI x2)] [] h := by
  unfold BX1_carry_at62_0 at E
  obtain ⟨v1, ev1, E⟩ := let_some E
  refine ea_iload_n (pc := 0) dX1_carry_0 rfl 1 rfl ?_
  refine ea_sipush (pc := 1) dX1_carry_1 (v := 1440) rfl ?_
  refine ea_idiv (pc := 4) dX1_carry_4 (by decide) ?_
  refine ea_iconst (pc := 5) dX1_carry_5 (v := 1) rfl ?_
  refine ea_iadd (pc := 6) dX1_carry_6 ?_
  obtain ⟨w2, Ew2, E⟩ := bd_some E
  have hsw2 : ShC w2.2 := ShC_core ((kpX10_firstBehind _ _) _ Ew2) hs
  refine ea_istore_n (pc := 7) (lv' := [(0, vR (some 62)), (1, vI x1), (2, vI x2), (3, vI v1)]) dX1_carry_7 rfl (Nat.le_of_ble_eq_true rfl) [1, 2, 3, 0] (by rw [ev1]; rfl) ?_
  refine ea_aload_n (pc := 8) dX1_carry_8 rfl 0 rfl ?_
  refine ea_getR (pc := 9) dX1_carry_9 ec_1 (k := 12) (Nat.le_of_ble_eq_true rfl) rfl (Or.inl ew_460) (cShC_62 hs).1 (cShC_62 hs).2.1 (rShC_62_12 hs) ?_
  refine ea_iload_n (pc := 12) dX1_carry_12 rfl 1 rfl ?_
  refine ea_callV (pc := 13) (d' := d - 1) (As := [vI x1]) (st := []) dX1_carry_13 kX10_firstBehind (sX10_firstBehind (d := d - 1) (by omega) hs Ew2) (by omega) rfl (Nat.le_of_ble_eq_true rfl) ew_837 ew_838 ew_839 (ci := 10) rfl (by decide) (cShC_13 hs).1 (cShC_13 hs).2.1 ?_
  refine ea_istore (pc := 16) (lv' := [(0, vR (some 62)), (2, vI x2), (3, vI v1), (4, vI w2.1)]) dX1_carry_16 (Nat.le_of_ble_eq_true rfl) [1, 3, 4, 0] rfl ?_
  exact (kJ18 (x2 : Int32) (v1 : Int32) (w2.1 : Int32) w2.2 _ _ E hsw2)
theorem kBX1_carry_at62_0 {J18 : Int32 → Int32 → Int32 → ea_H → Option (Unit × ea_H)}  (cJ18 : ∀ (x2 : Int32) (x3 : Int32) (x4 : Int32) (h : ea_H), kp (ea_core h) (J18 x2 x3 x4 h)) {x1 : Int32} {x2 : Int32} {h : ea_H} : kp (ea_core h) (BX1_carry_at62_0 J18 x1 x2 h) :=
  (kp_let (kp_bind (kp_tw (kpX10_firstBehind _ _) rfl) fun w2 hcw2 => (kp_tw (cJ18 _ _ _ _) hcw2)))
theorem lBX1_carry_at62_0 {J18 : Int32 → Int32 → Int32 → ea_H → Option (Unit × ea_H)} {J18_ : Int32 → Int32 → Int32 → ea_H → Option (Unit × ea_H)}  (mJ18 : ∀ (x2 : Int32) (x3 : Int32) (x4 : Int32) (h : ea_H), fle (J18 x2 x3 x4 h) (J18_ x2 x3 x4 h)) {x1 : Int32} {x2 : Int32} {h : ea_H} : fle (BX1_carry_at62_0 J18 x1 x2 h) (BX1_carry_at62_0 J18_ x1 x2 h) :=
  (fle_let fun _ => (fle_bind (fle_rfl _) fun _ => (mJ18 _ _ _ _)))
theorem nBX1_carry_at62_0 {J18 : Int32 → Int32 → Int32 → ea_H → Option (Unit × ea_H)} {J18_ : Nat → (Int32 → Int32 → Int32 → ea_H → Option (Unit × ea_H))}  (mJ18 : ∀ (x2 : Int32) (x3 : Int32) (x4 : Int32) (h : ea_H), fct (J18 x2 x3 x4 h) (fun f => J18_ f x2 x3 x4 h)) {x1 : Int32} {x2 : Int32} {h : ea_H} : fct (BX1_carry_at62_0 J18 x1 x2 h) (fun f => BX1_carry_at62_0 (J18_ f) x1 x2 h) :=
  (fct_let fun _ => (fct_bind (fct_rfl _) fun _ => (mJ18 _ _ _ _)))
noncomputable def BX1_carry_at62_18 (J64 : Int32 → Int32 → Int32 → Int32 → Int32 → ea_H → Option (Unit × ea_H)) (J118 : Int32 → Int32 → ea_H → Option (Unit × ea_H)) (x2 : Int32) (x3 : Int32) (x4 : Int32) (h : ea_H) : Option (Unit × ea_H) :=
  (if (ea_i h 13 1) ≤ x4 then (J118 (x2 : Int32) (x3 : Int32) h) else (if (ea_i h 62 10) ≤ (0 : Int32) then (J118 (x2 : Int32) (x3 : Int32) h) else (Option.bind (qX10_keyAt (x4 : Int32) h) fun w3 => (Option.bind (qX10_minuteIn (w3.1 : Int32) w3.2) fun w4 => (if w4.1 ≤ x2 then (J64 (x2 : Int32) (x3 : Int32) (x4 : Int32) (w3.1 : Int32) (w4.1 : Int32) w4.2) else (J118 (x2 : Int32) (x3 : Int32) w4.2))))))
theorem tBX1_carry_at62_18 {d : Nat} {h0 : ea_H} (hd : 5 ≤ d) {J64 : Int32 → Int32 → Int32 → Int32 → Int32 → ea_H → Option (Unit × ea_H)} {J118 : Int32 → Int32 → ea_H → Option (Unit × ea_H)}  (kJ64 : ∀ (x2 : Int32) (x3 : Int32) (x4 : Int32) (x5 : Int32) (x6 : Int32) (h : ea_H) (r : Unit) (h' : ea_H), J64 x2 x3 x4 x5 x6 h = some (r, h') → ShC h → ea_W mX1_carry d h0 none h' 64 [(0, vR (some 62)), (2, vI x2), (3, vI x3), (4, vI x4), (5, vI x5), (6, vI x6)] [] h) (kJ118 : ∀ (x2 : Int32) (x3 : Int32) (h : ea_H) (r : Unit) (h' : ea_H), J118 x2 x3 h = some (r, h') → ShC h → ea_W mX1_carry d h0 none h' 118 [(0, vR (some 62)), (2, vI x2), (3, vI x3)] [] h) {x2 : Int32} {x3 : Int32} {x4 : Int32} {h : ea_H} {r : Unit} {h' : ea_H} (E : BX1_carry_at62_18 J64 J118 x2 x3 x4 h = some (r, h')) (hs : ShC h) : ea_W mX1_carry d h0 none h' 18 [(0, vR (some 62)), (2, vI x2), (3, vI x3), (4, vI x4)] [] h := by
  unfold BX1_carry_at62_18 at E
  refine ea_iload (pc := 18) dX1_carry_18 3 rfl ?_
  refine ea_aload_n (pc := 20) dX1_carry_20 rfl 0 rfl ?_
  refine ea_getR (pc := 21) dX1_carry_21 ec_1 (k := 12) (Nat.le_of_ble_eq_true rfl) rfl (Or.inl ew_460) (cShC_62 hs).1 (cShC_62 hs).2.1 (rShC_62_12 hs) ?_
  refine ea_getI (pc := 24) dX1_carry_24 ec_10 (k := 1) (Nat.le_of_ble_eq_true rfl) rfl (Or.inl ew_236) (cShC_13 hs).1 (cShC_13 hs).2.1 ?_
  refine ea_icmp_ge (pc := 27) (tgt := 118) dX1_carry_27 rfl (fun c7 => ?_) (fun c7 => ?_)
  · have E := (if_pos c7).symm.trans E
    exact ea_fewer [0, 1, 2] rfl (kJ118 (x2 : Int32) (x3 : Int32) h _ _ E hs)
  · have E := (if_neg c7).symm.trans E
    refine ea_aload_n (pc := 30) dX1_carry_30 rfl 0 rfl ?_
    refine ea_getI (pc := 31) dX1_carry_31 ec_1 (k := 10) (Nat.le_of_ble_eq_true rfl) rfl (Or.inl ew_458) (cShC_62 hs).1 (cShC_62 hs).2.1 ?_
    refine ea_if_le (pc := 34) (tgt := 118) dX1_carry_34 rfl (fun c6 => ?_) (fun c6 => ?_)
    · have E := (if_pos c6).symm.trans E
      exact ea_fewer [0, 1, 2] rfl (kJ118 (x2 : Int32) (x3 : Int32) h _ _ E hs)
    · have E := (if_neg c6).symm.trans E
      obtain ⟨w3, Ew3, E⟩ := bd_some E
      have hsw3 : ShC w3.2 := ShC_core ((kpX10_keyAt _ _) _ Ew3) hs
      refine ea_aload_n (pc := 37) dX1_carry_37 rfl 0 rfl ?_
      refine ea_getR (pc := 38) dX1_carry_38 ec_1 (k := 12) (Nat.le_of_ble_eq_true rfl) rfl (Or.inl ew_460) (cShC_62 hs).1 (cShC_62 hs).2.1 (rShC_62_12 hs) ?_
      refine ea_iload (pc := 41) dX1_carry_41 3 rfl ?_
      refine ea_callV (pc := 43) (d' := d - 1) (As := [vI x4]) (st := []) dX1_carry_43 kX10_keyAt (sX10_keyAt (d := d - 1) (by omega) hs Ew3) (by omega) rfl (Nat.le_of_ble_eq_true rfl) ew_845 ew_842 ew_843 (ci := 10) rfl (by decide) (cShC_13 hs).1 (cShC_13 hs).2.1 ?_
      obtain ⟨w4, Ew4, E⟩ := bd_some E
      have hsw4 : ShC w4.2 := ShC_core ((kpX10_minuteIn _ _) _ Ew4) hsw3
      refine ea_istore (pc := 46) (lv' := [(0, vR (some 62)), (2, vI x2), (3, vI x3), (4, vI x4), (5, vI w3.1)]) dX1_carry_46 (Nat.le_of_ble_eq_true rfl) [1, 2, 3, 4, 0] rfl ?_
      refine ea_iload (pc := 48) dX1_carry_48 4 rfl ?_
      refine ea_callS (pc := 50) (d' := d - 1) (As := [vI w3.1]) (st := []) dX1_carry_50 kX10_minuteIn (sX10_minuteIn (d := d - 1) (by omega) Ew4) (by omega) rfl (Nat.le_of_ble_eq_true rfl) ew_846 ew_812 ?_
      refine ea_istore (pc := 53) (lv' := [(0, vR (some 62)), (2, vI x2), (3, vI x3), (4, vI x4), (5, vI w3.1), (6, vI w4.1)]) dX1_carry_53 (Nat.le_of_ble_eq_true rfl) [1, 2, 3, 4, 5, 0] rfl ?_
      refine ea_iload (pc := 55) dX1_carry_55 5 rfl ?_
      refine ea_iload_n (pc := 57) dX1_carry_57 rfl 1 rfl ?_
      refine ea_icmp_le (pc := 58) (tgt := 64) dX1_carry_58 rfl (fun c5 => ?_) (fun c5 => ?_)
      · have E := (if_pos c5).symm.trans E
        exact (kJ64 (x2 : Int32) (x3 : Int32) (x4 : Int32) (w3.1 : Int32) (w4.1 : Int32) w4.2 _ _ E hsw4)
      · have E := (if_neg c5).symm.trans E
        refine ea_goto (pc := 61) (tgt := 118) dX1_carry_61 rfl ?_
        exact ea_fewer [0, 1, 2] rfl (kJ118 (x2 : Int32) (x3 : Int32) w4.2 _ _ E hsw4)
theorem kBX1_carry_at62_18 {J64 : Int32 → Int32 → Int32 → Int32 → Int32 → ea_H → Option (Unit × ea_H)} {J118 : Int32 → Int32 → ea_H → Option (Unit × ea_H)}  (cJ64 : ∀ (x2 : Int32) (x3 : Int32) (x4 : Int32) (x5 : Int32) (x6 : Int32) (h : ea_H), kp (ea_core h) (J64 x2 x3 x4 x5 x6 h)) (cJ118 : ∀ (x2 : Int32) (x3 : Int32) (h : ea_H), kp (ea_core h) (J118 x2 x3 h)) {x2 : Int32} {x3 : Int32} {x4 : Int32} {h : ea_H} : kp (ea_core h) (BX1_carry_at62_18 J64 J118 x2 x3 x4 h) :=
  (kp_ite (kp_tw (cJ118 _ _ _) rfl) (kp_ite (kp_tw (cJ118 _ _ _) rfl) (kp_bind (kp_tw (kpX10_keyAt _ _) rfl) fun w3 hcw3 => (kp_bind (kp_tw (kpX10_minuteIn _ _) hcw3) fun w4 hcw4 => (kp_ite (kp_tw (cJ64 _ _ _ _ _ _) hcw4) (kp_tw (cJ118 _ _ _) hcw4))))))
theorem lBX1_carry_at62_18 {J64 : Int32 → Int32 → Int32 → Int32 → Int32 → ea_H → Option (Unit × ea_H)} {J118 : Int32 → Int32 → ea_H → Option (Unit × ea_H)} {J64_ : Int32 → Int32 → Int32 → Int32 → Int32 → ea_H → Option (Unit × ea_H)} {J118_ : Int32 → Int32 → ea_H → Option (Unit × ea_H)}  (mJ64 : ∀ (x2 : Int32) (x3 : Int32) (x4 : Int32) (x5 : Int32) (x6 : Int32) (h : ea_H), fle (J64 x2 x3 x4 x5 x6 h) (J64_ x2 x3 x4 x5 x6 h)) (mJ118 : ∀ (x2 : Int32) (x3 : Int32) (h : ea_H), fle (J118 x2 x3 h) (J118_ x2 x3 h)) {x2 : Int32} {x3 : Int32} {x4 : Int32} {h : ea_H} : fle (BX1_carry_at62_18 J64 J118 x2 x3 x4 h) (BX1_carry_at62_18 J64_ J118_ x2 x3 x4 h) :=
  (fle_ite (mJ118 _ _ _) (fle_ite (mJ118 _ _ _) (fle_bind (fle_rfl _) fun _ => (fle_bind (fle_rfl _) fun _ => (fle_ite (mJ64 _ _ _ _ _ _) (mJ118 _ _ _))))))
theorem nBX1_carry_at62_18 {J64 : Int32 → Int32 → Int32 → Int32 → Int32 → ea_H → Option (Unit × ea_H)} {J118 : Int32 → Int32 → ea_H → Option (Unit × ea_H)} {J64_ : Nat → (Int32 → Int32 → Int32 → Int32 → Int32 → ea_H → Option (Unit × ea_H))} {J118_ : Nat → (Int32 → Int32 → ea_H → Option (Unit × ea_H))}  (mJ64 : ∀ (x2 : Int32) (x3 : Int32) (x4 : Int32) (x5 : Int32) (x6 : Int32) (h : ea_H), fct (J64 x2 x3 x4 x5 x6 h) (fun f => J64_ f x2 x3 x4 x5 x6 h)) (mJ118 : ∀ (x2 : Int32) (x3 : Int32) (h : ea_H), fct (J118 x2 x3 h) (fun f => J118_ f x2 x3 h)) {x2 : Int32} {x3 : Int32} {x4 : Int32} {h : ea_H} : fct (BX1_carry_at62_18 J64 J118 x2 x3 x4 h) (fun f => BX1_carry_at62_18 (J64_ f) (J118_ f) x2 x3 x4 h) :=
  (fct_ite (mJ118 _ _ _) (fct_ite (mJ118 _ _ _) (fct_bind (fct_rfl _) fun _ => (fct_bind (fct_rfl _) fun _ => (fct_ite (mJ64 _ _ _ _ _ _) (mJ118 _ _ _))))))
noncomputable def BX1_carry_at62_64 (J18 : Int32 → Int32 → Int32 → ea_H → Option (Unit × ea_H)) (J64 : Int32 → Int32 → Int32 → Int32 → Int32 → ea_H → Option (Unit × ea_H)) (x2 : Int32) (x3 : Int32) (x4 : Int32) (x5 : Int32) (x6 : Int32) (h : ea_H) : Option (Unit × ea_H) :=
  (if x6 < (x3 * (1440 : Int32)) then (Option.bind (qX10_isGoing (x5 : Int32) h) fun w8 => (if w8.1 = (0 : Int32) then (Option.bind (qX1_comes_at62 (x5 : Int32) (x6 : Int32) w8.2) fun w9 => (J18 (x2 : Int32) (x3 : Int32) ((x4 + (1 : Int32)) : Int32) w9.2)) else (Option.bind (qX1_goes_at62 (x5 : Int32) (x6 : Int32) w8.2) fun w10 => (J18 (x2 : Int32) (x3 : Int32) ((x4 + (1 : Int32)) : Int32) w10.2)))) else (Option.bind (qX1_burn_at62 (x3 : Int32) h) fun w12 => (J64 (x2 : Int32) ((x3 + (1 : Int32)) : Int32) (x4 : Int32) (x5 : Int32) (x6 : Int32) w12.2)))
theorem tBX1_carry_at62_64 {d : Nat} {h0 : ea_H} (hd : 5 ≤ d) {J18 : Int32 → Int32 → Int32 → ea_H → Option (Unit × ea_H)} {J64 : Int32 → Int32 → Int32 → Int32 → Int32 → ea_H → Option (Unit × ea_H)}  (kJ18 : ∀ (x2 : Int32) (x3 : Int32) (x4 : Int32) (h : ea_H) (r : Unit) (h' : ea_H), J18 x2 x3 x4 h = some (r, h') → ShC h → ea_W mX1_carry d h0 none h' 18 [(0, vR (some 62)), (2, vI x2), (3, vI x3), (4, vI x4)] [] h) (kJ64 : ∀ (x2 : Int32) (x3 : Int32) (x4 : Int32) (x5 : Int32) (x6 : Int32) (h : ea_H) (r : Unit) (h' : ea_H), J64 x2 x3 x4 x5 x6 h = some (r, h') → ShC h → ea_W mX1_carry d h0 none h' 64 [(0, vR (some 62)), (2, vI x2), (3, vI x3), (4, vI x4), (5, vI x5), (6, vI x6)] [] h) {x2 : Int32} {x3 : Int32} {x4 : Int32} {x5 : Int32} {x6 : Int32} {h : ea_H} {r : Unit} {h' : ea_H} (E : BX1_carry_at62_64 J18 J64 x2 x3 x4 x5 x6 h = some (r, h')) (hs : ShC h) : ea_W mX1_carry d h0 none h' 64 [(0, vR (some 62)), (2, vI x2), (3, vI x3), (4, vI x4), (5, vI x5), (6, vI x6)] [] h := by
  unfold BX1_carry_at62_64 at E
  refine ea_iload_n (pc := 64) dX1_carry_64 rfl 2 rfl ?_
  refine ea_sipush (pc := 65) dX1_carry_65 (v := 1440) rfl ?_
  refine ea_imul (pc := 68) dX1_carry_68 ?_
  refine ea_iload (pc := 69) dX1_carry_69 5 rfl ?_
  refine ea_icmp_gt (pc := 71) (tgt := 85) dX1_carry_71 rfl (fun c13 => ?_) (fun c13 => ?_)
  · have E := (if_pos c13).symm.trans E
    obtain ⟨w8, Ew8, E⟩ := bd_some E
    have hsw8 : ShC w8.2 := ShC_core ((kpX10_isGoing _ _) _ Ew8) hs
    refine ea_iload (pc := 85) dX1_carry_85 4 rfl ?_
    refine ea_callS (pc := 87) (d' := d - 1) (As := [vI x5]) (st := []) dX1_carry_87 kX10_isGoing (sX10_isGoing (d := d - 1) (by omega) Ew8) (by omega) rfl (Nat.le_of_ble_eq_true rfl) ew_862 ew_779 ?_
    refine ea_if_eq (pc := 90) (tgt := 104) dX1_carry_90 rfl (fun c11 => ?_) (fun c11 => ?_)
    · have E := (if_pos c11).symm.trans E
      obtain ⟨w9, Ew9, E⟩ := bd_some E
      have hsw9 : ShC w9.2 := ShC_core ((kpX1_comes_at62 _ _ _) _ Ew9) hsw8
      refine ea_aload_n (pc := 104) dX1_carry_104 rfl 0 rfl ?_
      refine ea_iload (pc := 105) dX1_carry_105 4 rfl ?_
      refine ea_iload (pc := 107) dX1_carry_107 5 rfl ?_
      refine ea_callV (pc := 109) (d' := d - 1) (As := [vI x5, vI x6]) (st := []) dX1_carry_109 kX1_comes (sX1_comes_at62 (d := d - 1) (by omega) hsw8 Ew9) (by omega) rfl (Nat.le_of_ble_eq_true rfl) ew_904 ew_906 ew_14 (ci := 1) rfl (by decide) (cShC_62 hsw8).1 (cShC_62 hsw8).2.1 ?_
      refine ea_iinc (pc := 112) (v := 1) (lv' := [(0, vR (some 62)), (2, vI x2), (3, vI x3), (4, vI (x4 + (1 : Int32)))]) dX1_carry_112 3 rfl rfl (Nat.le_of_ble_eq_true rfl) [1, 2, 3, 0] rfl ?_
      refine ea_goto (pc := 115) (tgt := 18) dX1_carry_115 rfl ?_
      exact (kJ18 (x2 : Int32) (x3 : Int32) ((x4 + (1 : Int32)) : Int32) w9.2 _ _ E hsw9)
    · have E := (if_neg c11).symm.trans E
      obtain ⟨w10, Ew10, E⟩ := bd_some E
      have hsw10 : ShC w10.2 := ShC_core ((kpX1_goes_at62 _ _ _) _ Ew10) hsw8
      refine ea_aload_n (pc := 93) dX1_carry_93 rfl 0 rfl ?_
      refine ea_iload (pc := 94) dX1_carry_94 4 rfl ?_
      refine ea_iload (pc := 96) dX1_carry_96 5 rfl ?_
      refine ea_callV (pc := 98) (d' := d - 1) (As := [vI x5, vI x6]) (st := []) dX1_carry_98 kX1_goes (sX1_goes_at62 (d := d - 1) (by omega) hsw8 Ew10) (by omega) rfl (Nat.le_of_ble_eq_true rfl) ew_863 ew_865 ew_12 (ci := 1) rfl (by decide) (cShC_62 hsw8).1 (cShC_62 hsw8).2.1 ?_
      refine ea_goto (pc := 101) (tgt := 112) dX1_carry_101 rfl ?_
      refine ea_iinc (pc := 112) (v := 1) (lv' := [(0, vR (some 62)), (2, vI x2), (3, vI x3), (4, vI (x4 + (1 : Int32)))]) dX1_carry_112 3 rfl rfl (Nat.le_of_ble_eq_true rfl) [1, 2, 3, 0] rfl ?_
      refine ea_goto (pc := 115) (tgt := 18) dX1_carry_115 rfl ?_
      exact (kJ18 (x2 : Int32) (x3 : Int32) ((x4 + (1 : Int32)) : Int32) w10.2 _ _ E hsw10)
  · have E := (if_neg c13).symm.trans E
    obtain ⟨w12, Ew12, E⟩ := bd_some E
    have hsw12 : ShC w12.2 := ShC_core ((kpX1_burn_at62 _ _) _ Ew12) hs
    refine ea_aload_n (pc := 74) dX1_carry_74 rfl 0 rfl ?_
    refine ea_iload_n (pc := 75) dX1_carry_75 rfl 2 rfl ?_
    refine ea_callV (pc := 76) (d' := d - 1) (As := [vI x3]) (st := []) dX1_carry_76 kX1_burn (sX1_burn_at62 (d := d - 1) (by omega) hs Ew12) (by omega) rfl (Nat.le_of_ble_eq_true rfl) ew_847 ew_849 ew_11 (ci := 1) rfl (by decide) (cShC_62 hs).1 (cShC_62 hs).2.1 ?_
    refine ea_iinc (pc := 79) (v := 1) (lv' := [(0, vR (some 62)), (2, vI x2), (3, vI (x3 + (1 : Int32))), (4, vI x4), (5, vI x5), (6, vI x6)]) dX1_carry_79 2 rfl rfl (Nat.le_of_ble_eq_true rfl) [1, 2, 0, 3, 4, 5] rfl ?_
    refine ea_goto (pc := 82) (tgt := 64) dX1_carry_82 rfl ?_
    exact (kJ64 (x2 : Int32) ((x3 + (1 : Int32)) : Int32) (x4 : Int32) (x5 : Int32) (x6 : Int32) w12.2 _ _ E hsw12)
theorem kBX1_carry_at62_64 {J18 : Int32 → Int32 → Int32 → ea_H → Option (Unit × ea_H)} {J64 : Int32 → Int32 → Int32 → Int32 → Int32 → ea_H → Option (Unit × ea_H)}  (cJ18 : ∀ (x2 : Int32) (x3 : Int32) (x4 : Int32) (h : ea_H), kp (ea_core h) (J18 x2 x3 x4 h)) (cJ64 : ∀ (x2 : Int32) (x3 : Int32) (x4 : Int32) (x5 : Int32) (x6 : Int32) (h : ea_H), kp (ea_core h) (J64 x2 x3 x4 x5 x6 h)) {x2 : Int32} {x3 : Int32} {x4 : Int32} {x5 : Int32} {x6 : Int32} {h : ea_H} : kp (ea_core h) (BX1_carry_at62_64 J18 J64 x2 x3 x4 x5 x6 h) :=
  (kp_ite (kp_bind (kp_tw (kpX10_isGoing _ _) rfl) fun w8 hcw8 => (kp_ite (kp_bind (kp_tw (kpX1_comes_at62 _ _ _) hcw8) fun w9 hcw9 => (kp_tw (cJ18 _ _ _ _) hcw9)) (kp_bind (kp_tw (kpX1_goes_at62 _ _ _) hcw8) fun w10 hcw10 => (kp_tw (cJ18 _ _ _ _) hcw10)))) (kp_bind (kp_tw (kpX1_burn_at62 _ _) rfl) fun w12 hcw12 => (kp_tw (cJ64 _ _ _ _ _ _) hcw12)))
theorem lBX1_carry_at62_64 {J18 : Int32 → Int32 → Int32 → ea_H → Option (Unit × ea_H)} {J64 : Int32 → Int32 → Int32 → Int32 → Int32 → ea_H → Option (Unit × ea_H)} {J18_ : Int32 → Int32 → Int32 → ea_H → Option (Unit × ea_H)} {J64_ : Int32 → Int32 → Int32 → Int32 → Int32 → ea_H → Option (Unit × ea_H)}  (mJ18 : ∀ (x2 : Int32) (x3 : Int32) (x4 : Int32) (h : ea_H), fle (J18 x2 x3 x4 h) (J18_ x2 x3 x4 h)) (mJ64 : ∀ (x2 : Int32) (x3 : Int32) (x4 : Int32) (x5 : Int32) (x6 : Int32) (h : ea_H), fle (J64 x2 x3 x4 x5 x6 h) (J64_ x2 x3 x4 x5 x6 h)) {x2 : Int32} {x3 : Int32} {x4 : Int32} {x5 : Int32} {x6 : Int32} {h : ea_H} : fle (BX1_carry_at62_64 J18 J64 x2 x3 x4 x5 x6 h) (BX1_carry_at62_64 J18_ J64_ x2 x3 x4 x5 x6 h) :=
  (fle_ite (fle_bind (fle_rfl _) fun _ => (fle_ite (fle_bind (fle_rfl _) fun _ => (mJ18 _ _ _ _)) (fle_bind (fle_rfl _) fun _ => (mJ18 _ _ _ _)))) (fle_bind (fle_rfl _) fun _ => (mJ64 _ _ _ _ _ _)))
theorem nBX1_carry_at62_64 {J18 : Int32 → Int32 → Int32 → ea_H → Option (Unit × ea_H)} {J64 : Int32 → Int32 → Int32 → Int32 → Int32 → ea_H → Option (Unit × ea_H)} {J18_ : Nat → (Int32 → Int32 → Int32 → ea_H → Option (Unit × ea_H))} {J64_ : Nat → (Int32 → Int32 → Int32 → Int32 → Int32 → ea_H → Option (Unit × ea_H))}  (mJ18 : ∀ (x2 : Int32) (x3 : Int32) (x4 : Int32) (h : ea_H), fct (J18 x2 x3 x4 h) (fun f => J18_ f x2 x3 x4 h)) (mJ64 : ∀ (x2 : Int32) (x3 : Int32) (x4 : Int32) (x5 : Int32) (x6 : Int32) (h : ea_H), fct (J64 x2 x3 x4 x5 x6 h) (fun f => J64_ f x2 x3 x4 x5 x6 h)) {x2 : Int32} {x3 : Int32} {x4 : Int32} {x5 : Int32} {x6 : Int32} {h : ea_H} : fct (BX1_carry_at62_64 J18 J64 x2 x3 x4 x5 x6 h) (fun f => BX1_carry_at62_64 (J18_ f) (J64_ f) x2 x3 x4 x5 x6 h) :=
  (fct_ite (fct_bind (fct_rfl _) fun _ => (fct_ite (fct_bind (fct_rfl _) fun _ => (mJ18 _ _ _ _)) (fct_bind (fct_rfl _) fun _ => (mJ18 _ _ _ _)))) (fct_bind (fct_rfl _) fun _ => (mJ64 _ _ _ _ _ _)))
noncomputable def BX1_carry_at62_118 (J118 : Int32 → Int32 → ea_H → Option (Unit × ea_H)) (x2 : Int32) (x3 : Int32) (h : ea_H) : Option (Unit × ea_H) :=
  (if x2 < (x3 * (1440 : Int32)) then (some ((), h)) else (Option.bind (qX1_burn_at62 (x3 : Int32) h) fun w14 => (J118 (x2 : Int32) ((x3 + (1 : Int32)) : Int32) w14.2)))
theorem tBX1_carry_at62_118 {d : Nat} {h0 : ea_H} (hd : 5 ≤ d) {J118 : Int32 → Int32 → ea_H → Option (Unit × ea_H)}  (kJ118 : ∀ (x2 : Int32) (x3 : Int32) (h : ea_H) (r : Unit) (h' : ea_H), J118 x2 x3 h = some (r, h') → ShC h → ea_W mX1_carry d h0 none h' 118 [(0, vR (some 62)), (2, vI x2), (3, vI x3)] [] h) {x2 : Int32} {x3 : Int32} {h : ea_H} {r : Unit} {h' : ea_H} (E : BX1_carry_at62_118 J118 x2 x3 h = some (r, h')) (hs : ShC h) : ea_W mX1_carry d h0 none h' 118 [(0, vR (some 62)), (2, vI x2), (3, vI x3)] [] h := by
  unfold BX1_carry_at62_118 at E
  refine ea_iload_n (pc := 118) dX1_carry_118 rfl 2 rfl ?_
  refine ea_sipush (pc := 119) dX1_carry_119 (v := 1440) rfl ?_
  refine ea_imul (pc := 122) dX1_carry_122 ?_
  refine ea_iload_n (pc := 123) dX1_carry_123 rfl 1 rfl ?_
  refine ea_icmp_gt (pc := 124) (tgt := 138) dX1_carry_124 rfl (fun c15 => ?_) (fun c15 => ?_)
  · have E := (if_pos c15).symm.trans E
    exact ea_vretO (pc := 138) dX1_carry_138 rfl E
  · have E := (if_neg c15).symm.trans E
    obtain ⟨w14, Ew14, E⟩ := bd_some E
    have hsw14 : ShC w14.2 := ShC_core ((kpX1_burn_at62 _ _) _ Ew14) hs
    refine ea_aload_n (pc := 127) dX1_carry_127 rfl 0 rfl ?_
    refine ea_iload_n (pc := 128) dX1_carry_128 rfl 2 rfl ?_
    refine ea_callV (pc := 129) (d' := d - 1) (As := [vI x3]) (st := []) dX1_carry_129 kX1_burn (sX1_burn_at62 (d := d - 1) (by omega) hs Ew14) (by omega) rfl (Nat.le_of_ble_eq_true rfl) ew_847 ew_849 ew_11 (ci := 1) rfl (by decide) (cShC_62 hs).1 (cShC_62 hs).2.1 ?_
    refine ea_iinc (pc := 132) (v := 1) (lv' := [(0, vR (some 62)), (2, vI x2), (3, vI (x3 + (1 : Int32)))]) dX1_carry_132 2 rfl rfl (Nat.le_of_ble_eq_true rfl) [1, 2, 0] rfl ?_
    refine ea_goto (pc := 135) (tgt := 118) dX1_carry_135 rfl ?_
    exact (kJ118 (x2 : Int32) ((x3 + (1 : Int32)) : Int32) w14.2 _ _ E hsw14)
theorem kBX1_carry_at62_118 {J118 : Int32 → Int32 → ea_H → Option (Unit × ea_H)}  (cJ118 : ∀ (x2 : Int32) (x3 : Int32) (h : ea_H), kp (ea_core h) (J118 x2 x3 h)) {x2 : Int32} {x3 : Int32} {h : ea_H} : kp (ea_core h) (BX1_carry_at62_118 J118 x2 x3 h) :=
  (kp_ite (kp_ret rfl) (kp_bind (kp_tw (kpX1_burn_at62 _ _) rfl) fun w14 hcw14 => (kp_tw (cJ118 _ _ _) hcw14)))
theorem lBX1_carry_at62_118 {J118 : Int32 → Int32 → ea_H → Option (Unit × ea_H)} {J118_ : Int32 → Int32 → ea_H → Option (Unit × ea_H)}  (mJ118 : ∀ (x2 : Int32) (x3 : Int32) (h : ea_H), fle (J118 x2 x3 h) (J118_ x2 x3 h)) {x2 : Int32} {x3 : Int32} {h : ea_H} : fle (BX1_carry_at62_118 J118 x2 x3 h) (BX1_carry_at62_118 J118_ x2 x3 h) :=
  (fle_ite (fle_rfl _) (fle_bind (fle_rfl _) fun _ => (mJ118 _ _ _)))
theorem nBX1_carry_at62_118 {J118 : Int32 → Int32 → ea_H → Option (Unit × ea_H)} {J118_ : Nat → (Int32 → Int32 → ea_H → Option (Unit × ea_H))}  (mJ118 : ∀ (x2 : Int32) (x3 : Int32) (h : ea_H), fct (J118 x2 x3 h) (fun f => J118_ f x2 x3 h)) {x2 : Int32} {x3 : Int32} {h : ea_H} : fct (BX1_carry_at62_118 J118 x2 x3 h) (fun f => BX1_carry_at62_118 (J118_ f) x2 x3 h) :=
  (fct_ite (fct_rfl _) (fct_bind (fct_rfl _) fun _ => (mJ118 _ _ _)))
noncomputable def gX1_carry_at62 : Nat → (Int32 → Int32 → ea_H → Option (Unit × ea_H)) × (Int32 → Int32 → Int32 → ea_H → Option (Unit × ea_H)) × (Int32 → Int32 → Int32 → Int32 → Int32 → ea_H → Option (Unit × ea_H)) × (Int32 → Int32 → ea_H → Option (Unit × ea_H))
  | 0 => (fun _ _ _ => none, fun _ _ _ _ => none, fun _ _ _ _ _ _ => none, fun _ _ _ => none)
  | f + 1 => (BX1_carry_at62_0 (gX1_carry_at62 f).2.1, BX1_carry_at62_18 (gX1_carry_at62 f).2.2.1 (gX1_carry_at62 f).2.2.2, BX1_carry_at62_64 (gX1_carry_at62 f).2.1 (gX1_carry_at62 f).2.2.1, BX1_carry_at62_118 (gX1_carry_at62 f).2.2.2)
theorem mgX1_carry_at62 : ∀ f : Nat, (∀ (x1 : Int32) (x2 : Int32) (h : ea_H), fle ((gX1_carry_at62 f).1 x1 x2 h) ((gX1_carry_at62 (f + 1)).1 x1 x2 h)) ∧ (∀ (x2 : Int32) (x3 : Int32) (x4 : Int32) (h : ea_H), fle ((gX1_carry_at62 f).2.1 x2 x3 x4 h) ((gX1_carry_at62 (f + 1)).2.1 x2 x3 x4 h)) ∧ (∀ (x2 : Int32) (x3 : Int32) (x4 : Int32) (x5 : Int32) (x6 : Int32) (h : ea_H), fle ((gX1_carry_at62 f).2.2.1 x2 x3 x4 x5 x6 h) ((gX1_carry_at62 (f + 1)).2.2.1 x2 x3 x4 x5 x6 h)) ∧ (∀ (x2 : Int32) (x3 : Int32) (h : ea_H), fle ((gX1_carry_at62 f).2.2.2 x2 x3 h) ((gX1_carry_at62 (f + 1)).2.2.2 x2 x3 h)) := by
  intro f
  induction f with
  | zero => exact ⟨fun _ _ _ => fle_none _, fun _ _ _ _ => fle_none _, fun _ _ _ _ _ _ => fle_none _, fun _ _ _ => fle_none _⟩
  | succ f ih => exact ⟨fun _ _ _ => lBX1_carry_at62_0 ih.2.1, fun _ _ _ _ => lBX1_carry_at62_18 ih.2.2.1 ih.2.2.2, fun _ _ _ _ _ _ => lBX1_carry_at62_64 ih.2.1 ih.2.2.1, fun _ _ _ => lBX1_carry_at62_118 ih.2.2.2⟩
noncomputable def qX1_carry_at62_0 (x1 : Int32) (x2 : Int32) (h : ea_H) : Option (Unit × ea_H) := flim fun f => (gX1_carry_at62 f).1 x1 x2 h
noncomputable def qX1_carry_at62_18 (x2 : Int32) (x3 : Int32) (x4 : Int32) (h : ea_H) : Option (Unit × ea_H) := flim fun f => (gX1_carry_at62 f).2.1 x2 x3 x4 h
noncomputable def qX1_carry_at62_64 (x2 : Int32) (x3 : Int32) (x4 : Int32) (x5 : Int32) (x6 : Int32) (h : ea_H) : Option (Unit × ea_H) := flim fun f => (gX1_carry_at62 f).2.2.1 x2 x3 x4 x5 x6 h
noncomputable def qX1_carry_at62_118 (x2 : Int32) (x3 : Int32) (h : ea_H) : Option (Unit × ea_H) := flim fun f => (gX1_carry_at62 f).2.2.2 x2 x3 h
theorem fqX1_carry_at62_0 (x1 : Int32) (x2 : Int32) (h : ea_H) : fct (qX1_carry_at62_0 x1 x2 h) fun f => (gX1_carry_at62 f).1 x1 x2 h := flim_ct fun f => (mgX1_carry_at62 f).1 x1 x2 h
theorem fqX1_carry_at62_18 (x2 : Int32) (x3 : Int32) (x4 : Int32) (h : ea_H) : fct (qX1_carry_at62_18 x2 x3 x4 h) fun f => (gX1_carry_at62 f).2.1 x2 x3 x4 h := flim_ct fun f => (mgX1_carry_at62 f).2.1 x2 x3 x4 h
theorem fqX1_carry_at62_64 (x2 : Int32) (x3 : Int32) (x4 : Int32) (x5 : Int32) (x6 : Int32) (h : ea_H) : fct (qX1_carry_at62_64 x2 x3 x4 x5 x6 h) fun f => (gX1_carry_at62 f).2.2.1 x2 x3 x4 x5 x6 h := flim_ct fun f => (mgX1_carry_at62 f).2.2.1 x2 x3 x4 x5 x6 h
theorem fqX1_carry_at62_118 (x2 : Int32) (x3 : Int32) (h : ea_H) : fct (qX1_carry_at62_118 x2 x3 h) fun f => (gX1_carry_at62 f).2.2.2 x2 x3 h := flim_ct fun f => (mgX1_carry_at62 f).2.2.2 x2 x3 h
/-- how a block opens -/
theorem uqX1_carry_at62_0 {x1 : Int32} {x2 : Int32} {h : ea_H} {P : Unit × ea_H → Prop} (H : sat (BX1_carry_at62_0 qX1_carry_at62_18 x1 x2 h) P) : sat (qX1_carry_at62_0 x1 x2 h) P := by
  obtain ⟨x, e, hp⟩ := H
  obtain ⟨n, hn⟩ := nBX1_carry_at62_0 fqX1_carry_at62_18 x e
  exact ⟨x, flim_at (fun f => (mgX1_carry_at62 f).1 x1 x2 h) (f := n + 1) (hn n (Nat.le_refl _)), hp⟩
/-- how a block opens -/
theorem uqX1_carry_at62_18 {x2 : Int32} {x3 : Int32} {x4 : Int32} {h : ea_H} {P : Unit × ea_H → Prop} (H : sat (BX1_carry_at62_18 qX1_carry_at62_64 qX1_carry_at62_118 x2 x3 x4 h) P) : sat (qX1_carry_at62_18 x2 x3 x4 h) P := by
  obtain ⟨x, e, hp⟩ := H
  obtain ⟨n, hn⟩ := nBX1_carry_at62_18 fqX1_carry_at62_64 fqX1_carry_at62_118 x e
  exact ⟨x, flim_at (fun f => (mgX1_carry_at62 f).2.1 x2 x3 x4 h) (f := n + 1) (hn n (Nat.le_refl _)), hp⟩
/-- how a block opens -/
theorem uqX1_carry_at62_64 {x2 : Int32} {x3 : Int32} {x4 : Int32} {x5 : Int32} {x6 : Int32} {h : ea_H} {P : Unit × ea_H → Prop} (H : sat (BX1_carry_at62_64 qX1_carry_at62_18 qX1_carry_at62_64 x2 x3 x4 x5 x6 h) P) : sat (qX1_carry_at62_64 x2 x3 x4 x5 x6 h) P := by
  obtain ⟨x, e, hp⟩ := H
  obtain ⟨n, hn⟩ := nBX1_carry_at62_64 fqX1_carry_at62_18 fqX1_carry_at62_64 x e
  exact ⟨x, flim_at (fun f => (mgX1_carry_at62 f).2.2.1 x2 x3 x4 x5 x6 h) (f := n + 1) (hn n (Nat.le_refl _)), hp⟩
/-- how a block opens -/
theorem uqX1_carry_at62_118 {x2 : Int32} {x3 : Int32} {h : ea_H} {P : Unit × ea_H → Prop} (H : sat (BX1_carry_at62_118 qX1_carry_at62_118 x2 x3 h) P) : sat (qX1_carry_at62_118 x2 x3 h) P := by
  obtain ⟨x, e, hp⟩ := H
  obtain ⟨n, hn⟩ := nBX1_carry_at62_118 fqX1_carry_at62_118 x e
  exact ⟨x, flim_at (fun f => (mgX1_carry_at62 f).2.2.2 x2 x3 h) (f := n + 1) (hn n (Nat.le_refl _)), hp⟩
theorem kgX1_carry_at62 : ∀ f : Nat, (∀ (x1 : Int32) (x2 : Int32) (h : ea_H), kp (ea_core h) ((gX1_carry_at62 f).1 x1 x2 h)) ∧ (∀ (x2 : Int32) (x3 : Int32) (x4 : Int32) (h : ea_H), kp (ea_core h) ((gX1_carry_at62 f).2.1 x2 x3 x4 h)) ∧ (∀ (x2 : Int32) (x3 : Int32) (x4 : Int32) (x5 : Int32) (x6 : Int32) (h : ea_H), kp (ea_core h) ((gX1_carry_at62 f).2.2.1 x2 x3 x4 x5 x6 h)) ∧ (∀ (x2 : Int32) (x3 : Int32) (h : ea_H), kp (ea_core h) ((gX1_carry_at62 f).2.2.2 x2 x3 h)) := by
  intro f
  induction f with
  | zero => exact ⟨fun _ _ _ => kp_none _, fun _ _ _ _ => kp_none _, fun _ _ _ _ _ _ => kp_none _, fun _ _ _ => kp_none _⟩
  | succ f ih => exact ⟨fun _ _ _ => kBX1_carry_at62_0 ih.2.1, fun _ _ _ _ => kBX1_carry_at62_18 ih.2.2.1 ih.2.2.2, fun _ _ _ _ _ _ => kBX1_carry_at62_64 ih.2.1 ih.2.2.1, fun _ _ _ => kBX1_carry_at62_118 ih.2.2.2⟩
theorem tgX1_carry_at62 {d : Nat} {h0 : ea_H} (hd : 5 ≤ d) : ∀ f : Nat, (∀ (x1 : Int32) (x2 : Int32) (h : ea_H) (r : Unit) (h' : ea_H), (gX1_carry_at62 f).1 x1 x2 h = some (r, h') → ShC h → ea_W mX1_carry d h0 none h' 0 [(0, vR (some 62)), (1, vI x1), (2, vI x2)] [] h) ∧ (∀ (x2 : Int32) (x3 : Int32) (x4 : Int32) (h : ea_H) (r : Unit) (h' : ea_H), (gX1_carry_at62 f).2.1 x2 x3 x4 h = some (r, h') → ShC h → ea_W mX1_carry d h0 none h' 18 [(0, vR (some 62)), (2, vI x2), (3, vI x3), (4, vI x4)] [] h) ∧ (∀ (x2 : Int32) (x3 : Int32) (x4 : Int32) (x5 : Int32) (x6 : Int32) (h : ea_H) (r : Unit) (h' : ea_H), (gX1_carry_at62 f).2.2.1 x2 x3 x4 x5 x6 h = some (r, h') → ShC h → ea_W mX1_carry d h0 none h' 64 [(0, vR (some 62)), (2, vI x2), (3, vI x3), (4, vI x4), (5, vI x5), (6, vI x6)] [] h) ∧ (∀ (x2 : Int32) (x3 : Int32) (h : ea_H) (r : Unit) (h' : ea_H), (gX1_carry_at62 f).2.2.2 x2 x3 h = some (r, h') → ShC h → ea_W mX1_carry d h0 none h' 118 [(0, vR (some 62)), (2, vI x2), (3, vI x3)] [] h) := by
  intro f
  induction f with
  | zero => exact ⟨fun _ _ _ _ _ E => no_some E, fun _ _ _ _ _ _ E => no_some E, fun _ _ _ _ _ _ _ _ E => no_some E, fun _ _ _ _ _ E => no_some E⟩
  | succ f ih => exact ⟨fun _ _ _ _ _ E hs => tBX1_carry_at62_0 hd ih.2.1 E hs, fun _ _ _ _ _ _ E hs => tBX1_carry_at62_18 hd ih.2.2.1 ih.2.2.2 E hs, fun _ _ _ _ _ _ _ _ E hs => tBX1_carry_at62_64 hd ih.2.1 ih.2.2.1 E hs, fun _ _ _ _ _ E hs => tBX1_carry_at62_118 hd ih.2.2.2 E hs⟩
noncomputable def qX1_carry_at62 (x1 : Int32) (x2 : Int32) (h : ea_H) : Option (Unit × ea_H) := qX1_carry_at62_0 x1 x2 h
theorem sX1_carry_at62 {d : Nat} {x1 : Int32} {x2 : Int32} {h : ea_H} {r : Unit} {h' : ea_H} (hd : 5 ≤ d) (hs : ShC h) (K : qX1_carry_at62 x1 x2 h = some (r, h')) : ea_Met mX1_carry d [vR (some 62), vI x1, vI x2] h none h' := by
  unfold qX1_carry_at62 at K
  obtain ⟨n, hn⟩ := fqX1_carry_at62_0 x1 x2 h _ K
  have W := (tgX1_carry_at62 (d := d) (h0 := h) hd n).1 x1 x2 h _ _ (hn n (Nat.le_refl _)) hs
  exact ea_enter rfl (Nat.le_of_ble_eq_true rfl) W
theorem kpX1_carry_at62 (x1 : Int32) (x2 : Int32) (h : ea_H) : kp (ea_core h) (qX1_carry_at62 x1 x2 h) := fun x e => by
  obtain ⟨n, hn⟩ := fqX1_carry_at62_0 x1 x2 h x e
  exact (kgX1_carry_at62 n).1 x1 x2 h x (hn n (Nat.le_refl _))
noncomputable def BX4_rowOf_0 (J37 : Int32 → Int32 → Int32 → Option Nat → ea_H → Option (Int32 × ea_H)) (x1 : Int32) (x2 : Int32) (x3 : Int32) (h : ea_H) : Option (Int32 × ea_H) :=
  (gd (vp_in x1 120) (ea_let (ea_r h 49 (Int32.toNatClampNeg x1)) fun (v2 : Option Nat) => (gd (v2 = some (Option.getD v2 0)) (gd (((Option.getD v2 0) < ea_n h ∧ ea_c h (Option.getD v2 0) = 5)) (if x2 = ((ea_i h (Option.getD v2 0) 16) - (1 : Int32)) then (gd (v2 = some (Option.getD v2 0)) (gd (((Option.getD v2 0) < ea_n h ∧ ea_c h (Option.getD v2 0) = 5)) (Option.bind (qX5_minuteOf ((ea_i h (Option.getD v2 0) 17) : Int32) h) fun w7 => (if x3 < w7.1 then (J37 (x1 : Int32) (x2 : Int32) (x3 : Int32) (v2 : Option Nat) w7.2) else (gd (v2 = some (Option.getD v2 0)) (gd (((Option.getD v2 0) < ea_n w7.2 ∧ ea_c w7.2 (Option.getD v2 0) = 5)) (some ((ea_i w7.2 (Option.getD v2 0) 17), w7.2)))))))) else (J37 (x1 : Int32) (x2 : Int32) (x3 : Int32) (v2 : Option Nat) h))))))
theorem tBX4_rowOf_0 {d : Nat} {h0 : ea_H} (hd : 6 ≤ d) {J37 : Int32 → Int32 → Int32 → Option Nat → ea_H → Option (Int32 × ea_H)}  (kJ37 : ∀ (x1 : Int32) (x2 : Int32) (x3 : Int32) (r4 : Option Nat) (h : ea_H) (r : Int32) (h' : ea_H), J37 x1 x2 x3 r4 h = some (r, h') → ShC h → ea_W mX4_rowOf d h0 (some (vI r)) h' 37 [(0, vR (some 50)), (1, vI x1), (2, vI x2), (3, vI x3), (4, vR r4)] [] h) {x1 : Int32} {x2 : Int32} {x3 : Int32} {h : ea_H} {r : Int32} {h' : ea_H} (E : BX4_rowOf_0 J37 x1 x2 x3 h = some (r, h')) (hs : ShC h) : ea_W mX4_rowOf d h0 (some (vI r)) h' 0 [(0, vR (some 50)), (1, vI x1), (2, vI x2), (3, vI x3)] [] h := by
  unfold BX4_rowOf_0 at E
  obtain ⟨z1, E⟩ := gd_some E
  refine ea_aload_n (pc := 0) dX4_rowOf_0 rfl 0 rfl ?_
  refine ea_getR (pc := 1) dX4_rowOf_1 ec_4 (k := 3) (Nat.le_of_ble_eq_true rfl) rfl (Or.inl ew_425) (cShC_50 hs).1 (cShC_50 hs).2.1 (rShC_50_3 hs) ?_
  refine ea_iload_n (pc := 4) dX4_rowOf_4 rfl 1 rfl ?_
  obtain ⟨v2, ev2, E⟩ := let_some E
  refine ea_aald23 (pc := 5) dX4_rowOf_5 (cShC_49 hs).1 (cShC_49 hs).2.1 (ea_vpl (cShC_49 hs).2.2 z1) rfl ?_
  obtain ⟨e3, E⟩ := gd_some E
  refine ea_astore (pc := 6) (lv' := [(0, vR (some 50)), (1, vI x1), (2, vI x2), (3, vI x3), (4, vR v2)]) dX4_rowOf_6 (Nat.le_of_ble_eq_true rfl) [1, 2, 3, 4, 0] (by rw [ev2]; rfl) ?_
  refine ea_iload_n (pc := 8) dX4_rowOf_8 rfl 2 rfl ?_
  refine ea_aload (pc := 9) dX4_rowOf_9 4 rfl ?_
  obtain ⟨f4, E⟩ := gd_some E
  refine ea_deref0 e3 ?_
  refine ea_getI (pc := 11) dX4_rowOf_11 ec_5 (k := 16) (Nat.le_of_ble_eq_true rfl) rfl (Or.inl ew_547) f4.1 f4.2 ?_
  refine ea_iconst (pc := 14) dX4_rowOf_14 (v := 1) rfl ?_
  refine ea_isub (pc := 15) dX4_rowOf_15 ?_
  refine ea_icmp_ne (pc := 16) (tgt := 37) dX4_rowOf_16 rfl (fun c11 => ?_) (fun c11 => ?_)
  · have E := (if_neg c11).symm.trans E
    exact (kJ37 (x1 : Int32) (x2 : Int32) (x3 : Int32) (v2 : Option Nat) h _ _ E hs)
  · have E := (if_pos c11).symm.trans E
    obtain ⟨e5, E⟩ := gd_some E
    refine ea_aload (pc := 19) dX4_rowOf_19 4 rfl ?_
    obtain ⟨f6, E⟩ := gd_some E
    obtain ⟨w7, Ew7, E⟩ := bd_some E
    have hsw7 : ShC w7.2 := ShC_core ((kpX5_minuteOf _ _) _ Ew7) hs
    refine ea_deref0 e5 ?_
    refine ea_getI (pc := 21) dX4_rowOf_21 ec_5 (k := 17) (Nat.le_of_ble_eq_true rfl) rfl (Or.inl ew_551) f6.1 f6.2 ?_
    refine ea_callS (pc := 24) (d' := d - 1) (As := [vI (ea_i h (Option.getD v2 0) 17)]) (st := []) dX4_rowOf_24 kX5_minuteOf (sX5_minuteOf (d := d - 1) (by omega) Ew7) (by omega) rfl (Nat.le_of_ble_eq_true rfl) ew_1177 ew_1178 ?_
    refine ea_iload_n (pc := 27) dX4_rowOf_27 rfl 3 rfl ?_
    refine ea_icmp_gt (pc := 28) (tgt := 37) dX4_rowOf_28 rfl (fun c10 => ?_) (fun c10 => ?_)
    · have E := (if_pos c10).symm.trans E
      exact (kJ37 (x1 : Int32) (x2 : Int32) (x3 : Int32) (v2 : Option Nat) w7.2 _ _ E hsw7)
    · have E := (if_neg c10).symm.trans E
      obtain ⟨e8, E⟩ := gd_some E
      refine ea_aload (pc := 31) dX4_rowOf_31 4 rfl ?_
      obtain ⟨f9, E⟩ := gd_some E
      refine ea_deref0 e8 ?_
      refine ea_getI (pc := 33) dX4_rowOf_33 ec_5 (k := 17) (Nat.le_of_ble_eq_true rfl) rfl (Or.inl ew_551) f9.1 f9.2 ?_
      exact ea_iretO (pc := 36) dX4_rowOf_36 rfl rfl E
theorem kBX4_rowOf_0 {J37 : Int32 → Int32 → Int32 → Option Nat → ea_H → Option (Int32 × ea_H)}  (cJ37 : ∀ (x1 : Int32) (x2 : Int32) (x3 : Int32) (r4 : Option Nat) (h : ea_H), kp (ea_core h) (J37 x1 x2 x3 r4 h)) {x1 : Int32} {x2 : Int32} {x3 : Int32} {h : ea_H} : kp (ea_core h) (BX4_rowOf_0 J37 x1 x2 x3 h) :=
  (kp_gd (kp_let (kp_gd (kp_gd (kp_ite (kp_gd (kp_gd (kp_bind (kp_tw (kpX5_minuteOf _ _) rfl) fun w7 hcw7 => (kp_ite (kp_tw (cJ37 _ _ _ _ _) hcw7) (kp_gd (kp_gd (kp_ret hcw7))))))) (kp_tw (cJ37 _ _ _ _ _) rfl))))))
theorem lBX4_rowOf_0 {J37 : Int32 → Int32 → Int32 → Option Nat → ea_H → Option (Int32 × ea_H)} {J37_ : Int32 → Int32 → Int32 → Option Nat → ea_H → Option (Int32 × ea_H)}  (mJ37 : ∀ (x1 : Int32) (x2 : Int32) (x3 : Int32) (r4 : Option Nat) (h : ea_H), fle (J37 x1 x2 x3 r4 h) (J37_ x1 x2 x3 r4 h)) {x1 : Int32} {x2 : Int32} {x3 : Int32} {h : ea_H} : fle (BX4_rowOf_0 J37 x1 x2 x3 h) (BX4_rowOf_0 J37_ x1 x2 x3 h) :=
  (fle_gd (fle_let fun _ => (fle_gd (fle_gd (fle_ite (fle_gd (fle_gd (fle_bind (fle_rfl _) fun _ => (fle_ite (mJ37 _ _ _ _ _) (fle_rfl _))))) (mJ37 _ _ _ _ _))))))
theorem nBX4_rowOf_0 {J37 : Int32 → Int32 → Int32 → Option Nat → ea_H → Option (Int32 × ea_H)} {J37_ : Nat → (Int32 → Int32 → Int32 → Option Nat → ea_H → Option (Int32 × ea_H))}  (mJ37 : ∀ (x1 : Int32) (x2 : Int32) (x3 : Int32) (r4 : Option Nat) (h : ea_H), fct (J37 x1 x2 x3 r4 h) (fun f => J37_ f x1 x2 x3 r4 h)) {x1 : Int32} {x2 : Int32} {x3 : Int32} {h : ea_H} : fct (BX4_rowOf_0 J37 x1 x2 x3 h) (fun f => BX4_rowOf_0 (J37_ f) x1 x2 x3 h) :=
  (fct_gd (fct_let fun _ => (fct_gd (fct_gd (fct_ite (fct_gd (fct_gd (fct_bind (fct_rfl _) fun _ => (fct_ite (mJ37 _ _ _ _ _) (fct_rfl _))))) (mJ37 _ _ _ _ _))))))
noncomputable def BX4_rowOf_37 (J77 : Int32 → Int32 → Int32 → Option Nat → Int32 → Int32 → Int32 → ea_H → Option (Int32 × ea_H)) (x1 : Int32) (x2 : Int32) (x3 : Int32) (r4 : Option Nat) (h : ea_H) : Option (Int32 × ea_H) :=
  (Option.bind (qX10_refresh  h) fun w12 => (gd (r4 = some (Option.getD r4 0)) (gd (((Option.getD r4 0) < ea_n w12.2 ∧ ea_c w12.2 (Option.getD r4 0) = 5)) (gd (r4 = some (Option.getD r4 0)) (gd (((Option.getD r4 0) < ea_n w12.2 ∧ ea_c w12.2 (Option.getD r4 0) = 5)) (Option.bind (qX5_row ((ea_i w12.2 (Option.getD r4 0) 6) : Int32) (0 : Int32) ((ea_i w12.2 (Option.getD r4 0) 1) : Int32) w12.2) fun w17 => (gd (r4 = some (Option.getD r4 0)) (gd (((Option.getD r4 0) < ea_n w17.2 ∧ ea_c w17.2 (Option.getD r4 0) = 5)) (Option.bind (qX10_firstBehind ((ea_i w17.2 (Option.getD r4 0) 6) : Int32) w17.2) fun w20 => (J77 (x1 : Int32) (x2 : Int32) (x3 : Int32) (r4 : Option Nat) (w17.1 : Int32) (0 : Int32) (w20.1 : Int32) w20.2))))))))))
theorem tBX4_rowOf_37 {d : Nat} {h0 : ea_H} (hd : 6 ≤ d) {J77 : Int32 → Int32 → Int32 → Option Nat → Int32 → Int32 → Int32 → ea_H → Option (Int32 × ea_H)}  (kJ77 : ∀ (x1 : Int32) (x2 : Int32) (x3 : Int32) (r4 : Option Nat) (x5 : Int32) (x6 : Int32) (x7 : Int32) (h : ea_H) (r : Int32) (h' : ea_H), J77 x1 x2 x3 r4 x5 x6 x7 h = some (r, h') → ShC h → ea_W mX4_rowOf d h0 (some (vI r)) h' 77 [(0, vR (some 50)), (1, vI x1), (2, vI x2), (3, vI x3), (4, vR r4), (5, vI x5), (6, vI x6), (7, vI x7)] [] h) {x1 : Int32} {x2 : Int32} {x3 : Int32} {r4 : Option Nat} {h : ea_H} {r : Int32} {h' : ea_H} (E : BX4_rowOf_37 J77 x1 x2 x3 r4 h = some (r, h')) (hs : ShC h) : ea_W mX4_rowOf d h0 (some (vI r)) h' 37 [(0, vR (some 50)), (1, vI x1), (2, vI x2), (3, vI x3), (4, vR r4)] [] h := by
  unfold BX4_rowOf_37 at E
  obtain ⟨w12, Ew12, E⟩ := bd_some E
  have hsw12 : ShC w12.2 := ShC_core ((kpX10_refresh _) _ Ew12) hs
  refine ea_aload_n (pc := 37) dX4_rowOf_37 rfl 0 rfl ?_
  refine ea_getR (pc := 38) dX4_rowOf_38 ec_4 (k := 2) (Nat.le_of_ble_eq_true rfl) rfl (Or.inl ew_424) (cShC_50 hs).1 (cShC_50 hs).2.1 (rShC_50_2 hs) ?_
  refine ea_callV (pc := 41) (d' := d - 1) (As := []) (st := []) dX4_rowOf_41 kX10_refresh (sX10_refresh (d := d - 1) (by omega) hs Ew12) (by omega) rfl (Nat.le_of_ble_eq_true rfl) ew_1180 ew_750 ew_751 (ci := 10) rfl (by decide) (cShC_13 hs).1 (cShC_13 hs).2.1 ?_
  obtain ⟨e13, E⟩ := gd_some E
  refine ea_aload (pc := 44) dX4_rowOf_44 4 rfl ?_
  obtain ⟨f14, E⟩ := gd_some E
  obtain ⟨e15, E⟩ := gd_some E
  refine ea_deref0 e13 ?_
  refine ea_getI (pc := 46) dX4_rowOf_46 ec_5 (k := 6) (Nat.le_of_ble_eq_true rfl) rfl (Or.inl ew_522) f14.1 f14.2 ?_
  refine ea_iconst (pc := 49) dX4_rowOf_49 (v := 0) rfl ?_
  refine ea_aload (pc := 50) dX4_rowOf_50 4 rfl ?_
  obtain ⟨f16, E⟩ := gd_some E
  obtain ⟨w17, Ew17, E⟩ := bd_some E
  have hsw17 : ShC w17.2 := ShC_core ((kpX5_row _ _ _ _) _ Ew17) hsw12
  refine ea_deref0 e15 ?_
  refine ea_getI (pc := 52) dX4_rowOf_52 ec_5 (k := 1) (Nat.le_of_ble_eq_true rfl) rfl (Or.inl ew_508) f16.1 f16.2 ?_
  refine ea_callS (pc := 55) (d' := d - 1) (As := [vI (ea_i w12.2 (Option.getD r4 0) 6), vI 0, vI (ea_i w12.2 (Option.getD r4 0) 1)]) (st := []) dX4_rowOf_55 kX5_row (sX5_row (d := d - 1) (by omega) Ew17) (by omega) rfl (Nat.le_of_ble_eq_true rfl) ew_1181 ew_860 ?_
  obtain ⟨e18, E⟩ := gd_some E
  refine ea_istore (pc := 58) (lv' := [(0, vR (some 50)), (1, vI x1), (2, vI x2), (3, vI x3), (4, vR r4), (5, vI w17.1)]) dX4_rowOf_58 (Nat.le_of_ble_eq_true rfl) [1, 2, 3, 4, 5, 0] rfl ?_
  refine ea_iconst (pc := 60) dX4_rowOf_60 (v := 0) rfl ?_
  refine ea_istore (pc := 61) (lv' := [(0, vR (some 50)), (1, vI x1), (2, vI x2), (3, vI x3), (4, vR r4), (5, vI w17.1), (6, vI 0)]) dX4_rowOf_61 (Nat.le_of_ble_eq_true rfl) [1, 2, 3, 4, 5, 6, 0] rfl ?_
  refine ea_aload_n (pc := 63) dX4_rowOf_63 rfl 0 rfl ?_
  refine ea_getR (pc := 64) dX4_rowOf_64 ec_4 (k := 2) (Nat.le_of_ble_eq_true rfl) rfl (Or.inl ew_424) (cShC_50 hsw17).1 (cShC_50 hsw17).2.1 (rShC_50_2 hsw17) ?_
  refine ea_aload (pc := 67) dX4_rowOf_67 4 rfl ?_
  obtain ⟨f19, E⟩ := gd_some E
  obtain ⟨w20, Ew20, E⟩ := bd_some E
  have hsw20 : ShC w20.2 := ShC_core ((kpX10_firstBehind _ _) _ Ew20) hsw17
  refine ea_deref0 e18 ?_
  refine ea_getI (pc := 69) dX4_rowOf_69 ec_5 (k := 6) (Nat.le_of_ble_eq_true rfl) rfl (Or.inl ew_522) f19.1 f19.2 ?_
  refine ea_callV (pc := 72) (d' := d - 1) (As := [vI (ea_i w17.2 (Option.getD r4 0) 6)]) (st := []) dX4_rowOf_72 kX10_firstBehind (sX10_firstBehind (d := d - 1) (by omega) hsw17 Ew20) (by omega) rfl (Nat.le_of_ble_eq_true rfl) ew_1182 ew_838 ew_839 (ci := 10) rfl (by decide) (cShC_13 hsw17).1 (cShC_13 hsw17).2.1 ?_
  refine ea_istore (pc := 75) (lv' := [(0, vR (some 50)), (1, vI x1), (2, vI x2), (3, vI x3), (4, vR r4), (5, vI w17.1), (6, vI 0), (7, vI w20.1)]) dX4_rowOf_75 (Nat.le_of_ble_eq_true rfl) [1, 2, 3, 4, 5, 6, 7, 0] rfl ?_
  exact (kJ77 (x1 : Int32) (x2 : Int32) (x3 : Int32) (r4 : Option Nat) (w17.1 : Int32) (0 : Int32) (w20.1 : Int32) w20.2 _ _ E hsw20)
theorem kBX4_rowOf_37 {J77 : Int32 → Int32 → Int32 → Option Nat → Int32 → Int32 → Int32 → ea_H → Option (Int32 × ea_H)}  (cJ77 : ∀ (x1 : Int32) (x2 : Int32) (x3 : Int32) (r4 : Option Nat) (x5 : Int32) (x6 : Int32) (x7 : Int32) (h : ea_H), kp (ea_core h) (J77 x1 x2 x3 r4 x5 x6 x7 h)) {x1 : Int32} {x2 : Int32} {x3 : Int32} {r4 : Option Nat} {h : ea_H} : kp (ea_core h) (BX4_rowOf_37 J77 x1 x2 x3 r4 h) :=
  (kp_bind (kp_tw (kpX10_refresh _) rfl) fun w12 hcw12 => (kp_gd (kp_gd (kp_gd (kp_gd (kp_bind (kp_tw (kpX5_row _ _ _ _) hcw12) fun w17 hcw17 => (kp_gd (kp_gd (kp_bind (kp_tw (kpX10_firstBehind _ _) hcw17) fun w20 hcw20 => (kp_tw (cJ77 _ _ _ _ _ _ _ _) hcw20))))))))))
theorem lBX4_rowOf_37 {J77 : Int32 → Int32 → Int32 → Option Nat → Int32 → Int32 → Int32 → ea_H → Option (Int32 × ea_H)} {J77_ : Int32 → Int32 → Int32 → Option Nat → Int32 → Int32 → Int32 → ea_H → Option (Int32 × ea_H)}  (mJ77 : ∀ (x1 : Int32) (x2 : Int32) (x3 : Int32) (r4 : Option Nat) (x5 : Int32) (x6 : Int32) (x7 : Int32) (h : ea_H), fle (J77 x1 x2 x3 r4 x5 x6 x7 h) (J77_ x1 x2 x3 r4 x5 x6 x7 h)) {x1 : Int32} {x2 : Int32} {x3 : Int32} {r4 : Option Nat} {h : ea_H} : fle (BX4_rowOf_37 J77 x1 x2 x3 r4 h) (BX4_rowOf_37 J77_ x1 x2 x3 r4 h) :=
  (fle_bind (fle_rfl _) fun _ => (fle_gd (fle_gd (fle_gd (fle_gd (fle_bind (fle_rfl _) fun _ => (fle_gd (fle_gd (fle_bind (fle_rfl _) fun _ => (mJ77 _ _ _ _ _ _ _ _))))))))))
theorem nBX4_rowOf_37 {J77 : Int32 → Int32 → Int32 → Option Nat → Int32 → Int32 → Int32 → ea_H → Option (Int32 × ea_H)} {J77_ : Nat → (Int32 → Int32 → Int32 → Option Nat → Int32 → Int32 → Int32 → ea_H → Option (Int32 × ea_H))}  (mJ77 : ∀ (x1 : Int32) (x2 : Int32) (x3 : Int32) (r4 : Option Nat) (x5 : Int32) (x6 : Int32) (x7 : Int32) (h : ea_H), fct (J77 x1 x2 x3 r4 x5 x6 x7 h) (fun f => J77_ f x1 x2 x3 r4 x5 x6 x7 h)) {x1 : Int32} {x2 : Int32} {x3 : Int32} {r4 : Option Nat} {h : ea_H} : fct (BX4_rowOf_37 J77 x1 x2 x3 r4 h) (fun f => BX4_rowOf_37 (J77_ f) x1 x2 x3 r4 h) :=
  (fct_bind (fct_rfl _) fun _ => (fct_gd (fct_gd (fct_gd (fct_gd (fct_bind (fct_rfl _) fun _ => (fct_gd (fct_gd (fct_bind (fct_rfl _) fun _ => (mJ77 _ _ _ _ _ _ _ _))))))))))
noncomputable def BX4_rowOf_77 (J77 : Int32 → Int32 → Int32 → Option Nat → Int32 → Int32 → Int32 → ea_H → Option (Int32 × ea_H)) (x1 : Int32) (x2 : Int32) (x3 : Int32) (r4 : Option Nat) (x5 : Int32) (x6 : Int32) (x7 : Int32) (h : ea_H) : Option (Int32 × ea_H) :=
  (if (ea_i h 13 1) ≤ x7 then (some (x5, h)) else (if x2 ≤ x6 then (some (x5, h)) else (Option.bind (qX10_keyAt (x7 : Int32) h) fun w21 => (Option.bind (qX10_minuteIn (w21.1 : Int32) w21.2) fun w22 => (if w22.1 ≤ x3 then (Option.bind (qX4_isMarked (w21.1 : Int32) (x1 : Int32) w22.2) fun w23 => (if w23.1 = (0 : Int32) then (J77 (x1 : Int32) (x2 : Int32) (x3 : Int32) (r4 : Option Nat) (x5 : Int32) (x6 : Int32) ((x7 + (1 : Int32)) : Int32) w23.2) else (Option.bind (qX4_rowBy (w21.1 : Int32) (r4 : Option Nat) w23.2) fun w24 => (J77 (x1 : Int32) (x2 : Int32) (x3 : Int32) (r4 : Option Nat) (w24.1 : Int32) ((x6 + (1 : Int32)) : Int32) ((x7 + (1 : Int32)) : Int32) w24.2)))) else (some (x5, w22.2)))))))
theorem tBX4_rowOf_77 {d : Nat} {h0 : ea_H} (hd : 6 ≤ d) {J77 : Int32 → Int32 → Int32 → Option Nat → Int32 → Int32 → Int32 → ea_H → Option (Int32 × ea_H)}  (kJ77 : ∀ (x1 : Int32) (x2 : Int32) (x3 : Int32) (r4 : Option Nat) (x5 : Int32) (x6 : Int32) (x7 : Int32) (h : ea_H) (r : Int32) (h' : ea_H), J77 x1 x2 x3 r4 x5 x6 x7 h = some (r, h') → ShC h → ea_W mX4_rowOf d h0 (some (vI r)) h' 77 [(0, vR (some 50)), (1, vI x1), (2, vI x2), (3, vI x3), (4, vR r4), (5, vI x5), (6, vI x6), (7, vI x7)] [] h) {x1 : Int32} {x2 : Int32} {x3 : Int32} {r4 : Option Nat} {x5 : Int32} {x6 : Int32} {x7 : Int32} {h : ea_H} {r : Int32} {h' : ea_H} (E : BX4_rowOf_77 J77 x1 x2 x3 r4 x5 x6 x7 h = some (r, h')) (hs : ShC h) : ea_W mX4_rowOf d h0 (some (vI r)) h' 77 [(0, vR (some 50)), (1, vI x1), (2, vI x2), (3, vI x3), (4, vR r4), (5, vI x5), (6, vI x6), (7, vI x7)] [] h := by
  unfold BX4_rowOf_77 at E
  refine ea_iload (pc := 77) dX4_rowOf_77 7 rfl ?_
  refine ea_aload_n (pc := 79) dX4_rowOf_79 rfl 0 rfl ?_
  refine ea_getR (pc := 80) dX4_rowOf_80 ec_4 (k := 2) (Nat.le_of_ble_eq_true rfl) rfl (Or.inl ew_424) (cShC_50 hs).1 (cShC_50 hs).2.1 (rShC_50_2 hs) ?_
  refine ea_getI (pc := 83) dX4_rowOf_83 ec_10 (k := 1) (Nat.le_of_ble_eq_true rfl) rfl (Or.inl ew_234) (cShC_13 hs).1 (cShC_13 hs).2.1 ?_
  refine ea_icmp_ge (pc := 86) (tgt := 147) dX4_rowOf_86 rfl (fun c28 => ?_) (fun c28 => ?_)
  · have E := (if_pos c28).symm.trans E
    refine ea_iload (pc := 147) dX4_rowOf_147 5 rfl ?_
    exact ea_iretO (pc := 149) dX4_rowOf_149 rfl rfl E
  · have E := (if_neg c28).symm.trans E
    refine ea_iload (pc := 89) dX4_rowOf_89 6 rfl ?_
    refine ea_iload_n (pc := 91) dX4_rowOf_91 rfl 2 rfl ?_
    refine ea_icmp_ge (pc := 92) (tgt := 147) dX4_rowOf_92 rfl (fun c27 => ?_) (fun c27 => ?_)
    · have E := (if_pos c27).symm.trans E
      refine ea_iload (pc := 147) dX4_rowOf_147 5 rfl ?_
      exact ea_iretO (pc := 149) dX4_rowOf_149 rfl rfl E
    · have E := (if_neg c27).symm.trans E
      obtain ⟨w21, Ew21, E⟩ := bd_some E
      have hsw21 : ShC w21.2 := ShC_core ((kpX10_keyAt _ _) _ Ew21) hs
      refine ea_aload_n (pc := 95) dX4_rowOf_95 rfl 0 rfl ?_
      refine ea_getR (pc := 96) dX4_rowOf_96 ec_4 (k := 2) (Nat.le_of_ble_eq_true rfl) rfl (Or.inl ew_424) (cShC_50 hs).1 (cShC_50 hs).2.1 (rShC_50_2 hs) ?_
      refine ea_iload (pc := 99) dX4_rowOf_99 7 rfl ?_
      refine ea_callV (pc := 101) (d' := d - 1) (As := [vI x7]) (st := []) dX4_rowOf_101 kX10_keyAt (sX10_keyAt (d := d - 1) (by omega) hs Ew21) (by omega) rfl (Nat.le_of_ble_eq_true rfl) ew_1183 ew_842 ew_843 (ci := 10) rfl (by decide) (cShC_13 hs).1 (cShC_13 hs).2.1 ?_
      obtain ⟨w22, Ew22, E⟩ := bd_some E
      have hsw22 : ShC w22.2 := ShC_core ((kpX10_minuteIn _ _) _ Ew22) hsw21
      refine ea_istore (pc := 104) (lv' := [(0, vR (some 50)), (1, vI x1), (2, vI x2), (3, vI x3), (4, vR r4), (5, vI x5), (6, vI x6), (7, vI x7), (8, vI w21.1)]) dX4_rowOf_104 (Nat.le_of_ble_eq_true rfl) [1, 2, 3, 4, 5, 6, 7, 8, 0] rfl ?_
      refine ea_iload (pc := 106) dX4_rowOf_106 8 rfl ?_
      refine ea_callS (pc := 108) (d' := d - 1) (As := [vI w21.1]) (st := []) dX4_rowOf_108 kX10_minuteIn (sX10_minuteIn (d := d - 1) (by omega) Ew22) (by omega) rfl (Nat.le_of_ble_eq_true rfl) ew_1184 ew_812 ?_
      refine ea_iload_n (pc := 111) dX4_rowOf_111 rfl 3 rfl ?_
      refine ea_icmp_le (pc := 112) (tgt := 118) dX4_rowOf_112 rfl (fun c26 => ?_) (fun c26 => ?_)
      · have E := (if_pos c26).symm.trans E
        obtain ⟨w23, Ew23, E⟩ := bd_some E
        have hsw23 : ShC w23.2 := ShC_core ((kpX4_isMarked _ _ _) _ Ew23) hsw22
        refine ea_aload_n (pc := 118) dX4_rowOf_118 rfl 0 rfl ?_
        refine ea_iload (pc := 119) dX4_rowOf_119 8 rfl ?_
        refine ea_iload_n (pc := 121) dX4_rowOf_121 rfl 1 rfl ?_
        refine ea_callV (pc := 122) (d' := d - 1) (As := [vI w21.1, vI x1]) (st := []) dX4_rowOf_122 kX4_isMarked (sX4_isMarked (d := d - 1) (by omega) hsw22 Ew23) (by omega) rfl (Nat.le_of_ble_eq_true rfl) ew_1185 ew_1187 ew_39 (ci := 4) rfl (by decide) (cShC_50 hsw22).1 (cShC_50 hsw22).2.1 ?_
        refine ea_if_eq (pc := 125) (tgt := 141) dX4_rowOf_125 rfl (fun c25 => ?_) (fun c25 => ?_)
        · have E := (if_pos c25).symm.trans E
          refine ea_iinc (pc := 141) (v := 1) (lv' := [(0, vR (some 50)), (1, vI x1), (2, vI x2), (3, vI x3), (4, vR r4), (5, vI x5), (6, vI x6), (7, vI (x7 + (1 : Int32)))]) dX4_rowOf_141 7 rfl rfl (Nat.le_of_ble_eq_true rfl) [1, 2, 3, 4, 5, 6, 7, 0] rfl ?_
          refine ea_goto (pc := 144) (tgt := 77) dX4_rowOf_144 rfl ?_
          exact (kJ77 (x1 : Int32) (x2 : Int32) (x3 : Int32) (r4 : Option Nat) (x5 : Int32) (x6 : Int32) ((x7 + (1 : Int32)) : Int32) w23.2 _ _ E hsw23)
        · have E := (if_neg c25).symm.trans E
          obtain ⟨w24, Ew24, E⟩ := bd_some E
          have hsw24 : ShC w24.2 := ShC_core ((kpX4_rowBy _ _ _) _ Ew24) hsw23
          refine ea_aload_n (pc := 128) dX4_rowOf_128 rfl 0 rfl ?_
          refine ea_iload (pc := 129) dX4_rowOf_129 8 rfl ?_
          refine ea_aload (pc := 131) dX4_rowOf_131 4 rfl ?_
          refine ea_callV (pc := 133) (d' := d - 1) (As := [vI w21.1, vR r4]) (st := []) dX4_rowOf_133 kX4_rowBy (sX4_rowBy (d := d - 1) (by omega) hsw23 Ew24) (by omega) rfl (Nat.le_of_ble_eq_true rfl) ew_1189 ew_1191 ew_40 (ci := 4) rfl (by decide) (cShC_50 hsw23).1 (cShC_50 hsw23).2.1 ?_
          refine ea_istore (pc := 136) (lv' := [(0, vR (some 50)), (1, vI x1), (2, vI x2), (3, vI x3), (4, vR r4), (5, vI w24.1), (6, vI x6), (7, vI x7)]) dX4_rowOf_136 (Nat.le_of_ble_eq_true rfl) [1, 2, 3, 4, 5, 0, 6, 7] rfl ?_
          refine ea_iinc (pc := 138) (v := 1) (lv' := [(0, vR (some 50)), (1, vI x1), (2, vI x2), (3, vI x3), (4, vR r4), (5, vI w24.1), (6, vI (x6 + (1 : Int32))), (7, vI x7)]) dX4_rowOf_138 6 rfl rfl (Nat.le_of_ble_eq_true rfl) [1, 2, 3, 4, 5, 6, 0, 7] rfl ?_
          refine ea_iinc (pc := 141) (v := 1) (lv' := [(0, vR (some 50)), (1, vI x1), (2, vI x2), (3, vI x3), (4, vR r4), (5, vI w24.1), (6, vI (x6 + (1 : Int32))), (7, vI (x7 + (1 : Int32)))]) dX4_rowOf_141 7 rfl rfl (Nat.le_of_ble_eq_true rfl) [1, 2, 3, 4, 5, 6, 7, 0] rfl ?_
          refine ea_goto (pc := 144) (tgt := 77) dX4_rowOf_144 rfl ?_
          exact (kJ77 (x1 : Int32) (x2 : Int32) (x3 : Int32) (r4 : Option Nat) (w24.1 : Int32) ((x6 + (1 : Int32)) : Int32) ((x7 + (1 : Int32)) : Int32) w24.2 _ _ E hsw24)
      · have E := (if_neg c26).symm.trans E
        refine ea_goto (pc := 115) (tgt := 147) dX4_rowOf_115 rfl ?_
        refine ea_iload (pc := 147) dX4_rowOf_147 5 rfl ?_
        exact ea_iretO (pc := 149) dX4_rowOf_149 rfl rfl E
theorem kBX4_rowOf_77 {J77 : Int32 → Int32 → Int32 → Option Nat → Int32 → Int32 → Int32 → ea_H → Option (Int32 × ea_H)}  (cJ77 : ∀ (x1 : Int32) (x2 : Int32) (x3 : Int32) (r4 : Option Nat) (x5 : Int32) (x6 : Int32) (x7 : Int32) (h : ea_H), kp (ea_core h) (J77 x1 x2 x3 r4 x5 x6 x7 h)) {x1 : Int32} {x2 : Int32} {x3 : Int32} {r4 : Option Nat} {x5 : Int32} {x6 : Int32} {x7 : Int32} {h : ea_H} : kp (ea_core h) (BX4_rowOf_77 J77 x1 x2 x3 r4 x5 x6 x7 h) :=
  (kp_ite (kp_ret rfl) (kp_ite (kp_ret rfl) (kp_bind (kp_tw (kpX10_keyAt _ _) rfl) fun w21 hcw21 => (kp_bind (kp_tw (kpX10_minuteIn _ _) hcw21) fun w22 hcw22 => (kp_ite (kp_bind (kp_tw (kpX4_isMarked _ _ _) hcw22) fun w23 hcw23 => (kp_ite (kp_tw (cJ77 _ _ _ _ _ _ _ _) hcw23) (kp_bind (kp_tw (kpX4_rowBy _ _ _) hcw23) fun w24 hcw24 => (kp_tw (cJ77 _ _ _ _ _ _ _ _) hcw24)))) (kp_ret hcw22))))))
theorem lBX4_rowOf_77 {J77 : Int32 → Int32 → Int32 → Option Nat → Int32 → Int32 → Int32 → ea_H → Option (Int32 × ea_H)} {J77_ : Int32 → Int32 → Int32 → Option Nat → Int32 → Int32 → Int32 → ea_H → Option (Int32 × ea_H)}  (mJ77 : ∀ (x1 : Int32) (x2 : Int32) (x3 : Int32) (r4 : Option Nat) (x5 : Int32) (x6 : Int32) (x7 : Int32) (h : ea_H), fle (J77 x1 x2 x3 r4 x5 x6 x7 h) (J77_ x1 x2 x3 r4 x5 x6 x7 h)) {x1 : Int32} {x2 : Int32} {x3 : Int32} {r4 : Option Nat} {x5 : Int32} {x6 : Int32} {x7 : Int32} {h : ea_H} : fle (BX4_rowOf_77 J77 x1 x2 x3 r4 x5 x6 x7 h) (BX4_rowOf_77 J77_ x1 x2 x3 r4 x5 x6 x7 h) :=
  (fle_ite (fle_rfl _) (fle_ite (fle_rfl _) (fle_bind (fle_rfl _) fun _ => (fle_bind (fle_rfl _) fun _ => (fle_ite (fle_bind (fle_rfl _) fun _ => (fle_ite (mJ77 _ _ _ _ _ _ _ _) (fle_bind (fle_rfl _) fun _ => (mJ77 _ _ _ _ _ _ _ _)))) (fle_rfl _))))))
theorem nBX4_rowOf_77 {J77 : Int32 → Int32 → Int32 → Option Nat → Int32 → Int32 → Int32 → ea_H → Option (Int32 × ea_H)} {J77_ : Nat → (Int32 → Int32 → Int32 → Option Nat → Int32 → Int32 → Int32 → ea_H → Option (Int32 × ea_H))}  (mJ77 : ∀ (x1 : Int32) (x2 : Int32) (x3 : Int32) (r4 : Option Nat) (x5 : Int32) (x6 : Int32) (x7 : Int32) (h : ea_H), fct (J77 x1 x2 x3 r4 x5 x6 x7 h) (fun f => J77_ f x1 x2 x3 r4 x5 x6 x7 h)) {x1 : Int32} {x2 : Int32} {x3 : Int32} {r4 : Option Nat} {x5 : Int32} {x6 : Int32} {x7 : Int32} {h : ea_H} : fct (BX4_rowOf_77 J77 x1 x2 x3 r4 x5 x6 x7 h) (fun f => BX4_rowOf_77 (J77_ f) x1 x2 x3 r4 x5 x6 x7 h) :=
  (fct_ite (fct_rfl _) (fct_ite (fct_rfl _) (fct_bind (fct_rfl _) fun _ => (fct_bind (fct_rfl _) fun _ => (fct_ite (fct_bind (fct_rfl _) fun _ => (fct_ite (mJ77 _ _ _ _ _ _ _ _) (fct_bind (fct_rfl _) fun _ => (mJ77 _ _ _ _ _ _ _ _)))) (fct_rfl _))))))
noncomputable def gX4_rowOf : Nat → (Int32 → Int32 → Int32 → ea_H → Option (Int32 × ea_H)) × (Int32 → Int32 → Int32 → Option Nat → ea_H → Option (Int32 × ea_H)) × (Int32 → Int32 → Int32 → Option Nat → Int32 → Int32 → Int32 → ea_H → Option (Int32 × ea_H))
  | 0 => (fun _ _ _ _ => none, fun _ _ _ _ _ => none, fun _ _ _ _ _ _ _ _ => none)
  | f + 1 => (BX4_rowOf_0 (gX4_rowOf f).2.1, BX4_rowOf_37 (gX4_rowOf f).2.2, BX4_rowOf_77 (gX4_rowOf f).2.2)
theorem mgX4_rowOf : ∀ f : Nat, (∀ (x1 : Int32) (x2 : Int32) (x3 : Int32) (h : ea_H), fle ((gX4_rowOf f).1 x1 x2 x3 h) ((gX4_rowOf (f + 1)).1 x1 x2 x3 h)) ∧ (∀ (x1 : Int32) (x2 : Int32) (x3 : Int32) (r4 : Option Nat) (h : ea_H), fle ((gX4_rowOf f).2.1 x1 x2 x3 r4 h) ((gX4_rowOf (f + 1)).2.1 x1 x2 x3 r4 h)) ∧ (∀ (x1 : Int32) (x2 : Int32) (x3 : Int32) (r4 : Option Nat) (x5 : Int32) (x6 : Int32) (x7 : Int32) (h : ea_H), fle ((gX4_rowOf f).2.2 x1 x2 x3 r4 x5 x6 x7 h) ((gX4_rowOf (f + 1)).2.2 x1 x2 x3 r4 x5 x6 x7 h)) := by
  intro f
  induction f with
  | zero => exact ⟨fun _ _ _ _ => fle_none _, fun _ _ _ _ _ => fle_none _, fun _ _ _ _ _ _ _ _ => fle_none _⟩
  | succ f ih => exact ⟨fun _ _ _ _ => lBX4_rowOf_0 ih.2.1, fun _ _ _ _ _ => lBX4_rowOf_37 ih.2.2, fun _ _ _ _ _ _ _ _ => lBX4_rowOf_77 ih.2.2⟩
noncomputable def qX4_rowOf_0 (x1 : Int32) (x2 : Int32) (x3 : Int32) (h : ea_H) : Option (Int32 × ea_H) := flim fun f => (gX4_rowOf f).1 x1 x2 x3 h
noncomputable def qX4_rowOf_37 (x1 : Int32) (x2 : Int32) (x3 : Int32) (r4 : Option Nat) (h : ea_H) : Option (Int32 × ea_H) := flim fun f => (gX4_rowOf f).2.1 x1 x2 x3 r4 h
noncomputable def qX4_rowOf_77 (x1 : Int32) (x2 : Int32) (x3 : Int32) (r4 : Option Nat) (x5 : Int32) (x6 : Int32) (x7 : Int32) (h : ea_H) : Option (Int32 × ea_H) := flim fun f => (gX4_rowOf f).2.2 x1 x2 x3 r4 x5 x6 x7 h
theorem fqX4_rowOf_0 (x1 : Int32) (x2 : Int32) (x3 : Int32) (h : ea_H) : fct (qX4_rowOf_0 x1 x2 x3 h) fun f => (gX4_rowOf f).1 x1 x2 x3 h := flim_ct fun f => (mgX4_rowOf f).1 x1 x2 x3 h
theorem fqX4_rowOf_37 (x1 : Int32) (x2 : Int32) (x3 : Int32) (r4 : Option Nat) (h : ea_H) : fct (qX4_rowOf_37 x1 x2 x3 r4 h) fun f => (gX4_rowOf f).2.1 x1 x2 x3 r4 h := flim_ct fun f => (mgX4_rowOf f).2.1 x1 x2 x3 r4 h
theorem fqX4_rowOf_77 (x1 : Int32) (x2 : Int32) (x3 : Int32) (r4 : Option Nat) (x5 : Int32) (x6 : Int32) (x7 : Int32) (h : ea_H) : fct (qX4_rowOf_77 x1 x2 x3 r4 x5 x6 x7 h) fun f => (gX4_rowOf f).2.2 x1 x2 x3 r4 x5 x6 x7 h := flim_ct fun f => (mgX4_rowOf f).2.2 x1 x2 x3 r4 x5 x6 x7 h
/-- how a block opens -/
theorem uqX4_rowOf_0 {x1 : Int32} {x2 : Int32} {x3 : Int32} {h : ea_H} {P : Int32 × ea_H → Prop} (H : sat (BX4_rowOf_0 qX4_rowOf_37 x1 x2 x3 h) P) : sat (qX4_rowOf_0 x1 x2 x3 h) P := by
  obtain ⟨x, e, hp⟩ := H
  obtain ⟨n, hn⟩ := nBX4_rowOf_0 fqX4_rowOf_37 x e
  exact ⟨x, flim_at (fun f => (mgX4_rowOf f).1 x1 x2 x3 h) (f := n + 1) (hn n (Nat.le_refl _)), hp⟩
/-- how a block opens -/
theorem uqX4_rowOf_37 {x1 : Int32} {x2 : Int32} {x3 : Int32} {r4 : Option Nat} {h : ea_H} {P : Int32 × ea_H → Prop} (H : sat (BX4_rowOf_37 qX4_rowOf_77 x1 x2 x3 r4 h) P) : sat (qX4_rowOf_37 x1 x2 x3 r4 h) P := by
  obtain ⟨x, e, hp⟩ := H
  obtain ⟨n, hn⟩ := nBX4_rowOf_37 fqX4_rowOf_77 x e
  exact ⟨x, flim_at (fun f => (mgX4_rowOf f).2.1 x1 x2 x3 r4 h) (f := n + 1) (hn n (Nat.le_refl _)), hp⟩
/-- how a block opens -/
theorem uqX4_rowOf_77 {x1 : Int32} {x2 : Int32} {x3 : Int32} {r4 : Option Nat} {x5 : Int32} {x6 : Int32} {x7 : Int32} {h : ea_H} {P : Int32 × ea_H → Prop} (H : sat (BX4_rowOf_77 qX4_rowOf_77 x1 x2 x3 r4 x5 x6 x7 h) P) : sat (qX4_rowOf_77 x1 x2 x3 r4 x5 x6 x7 h) P := by
  obtain ⟨x, e, hp⟩ := H
  obtain ⟨n, hn⟩ := nBX4_rowOf_77 fqX4_rowOf_77 x e
  exact ⟨x, flim_at (fun f => (mgX4_rowOf f).2.2 x1 x2 x3 r4 x5 x6 x7 h) (f := n + 1) (hn n (Nat.le_refl _)), hp⟩
theorem kgX4_rowOf : ∀ f : Nat, (∀ (x1 : Int32) (x2 : Int32) (x3 : Int32) (h : ea_H), kp (ea_core h) ((gX4_rowOf f).1 x1 x2 x3 h)) ∧ (∀ (x1 : Int32) (x2 : Int32) (x3 : Int32) (r4 : Option Nat) (h : ea_H), kp (ea_core h) ((gX4_rowOf f).2.1 x1 x2 x3 r4 h)) ∧ (∀ (x1 : Int32) (x2 : Int32) (x3 : Int32) (r4 : Option Nat) (x5 : Int32) (x6 : Int32) (x7 : Int32) (h : ea_H), kp (ea_core h) ((gX4_rowOf f).2.2 x1 x2 x3 r4 x5 x6 x7 h)) := by
  intro f
  induction f with
  | zero => exact ⟨fun _ _ _ _ => kp_none _, fun _ _ _ _ _ => kp_none _, fun _ _ _ _ _ _ _ _ => kp_none _⟩
  | succ f ih => exact ⟨fun _ _ _ _ => kBX4_rowOf_0 ih.2.1, fun _ _ _ _ _ => kBX4_rowOf_37 ih.2.2, fun _ _ _ _ _ _ _ _ => kBX4_rowOf_77 ih.2.2⟩
theorem tgX4_rowOf {d : Nat} {h0 : ea_H} (hd : 6 ≤ d) : ∀ f : Nat, (∀ (x1 : Int32) (x2 : Int32) (x3 : Int32) (h : ea_H) (r : Int32) (h' : ea_H), (gX4_rowOf f).1 x1 x2 x3 h = some (r, h') → ShC h → ea_W mX4_rowOf d h0 (some (vI r)) h' 0 [(0, vR (some 50)), (1, vI x1), (2, vI x2), (3, vI x3)] [] h) ∧ (∀ (x1 : Int32) (x2 : Int32) (x3 : Int32) (r4 : Option Nat) (h : ea_H) (r : Int32) (h' : ea_H), (gX4_rowOf f).2.1 x1 x2 x3 r4 h = some (r, h') → ShC h → ea_W mX4_rowOf d h0 (some (vI r)) h' 37 [(0, vR (some 50)), (1, vI x1), (2, vI x2), (3, vI x3), (4, vR r4)] [] h) ∧ (∀ (x1 : Int32) (x2 : Int32) (x3 : Int32) (r4 : Option Nat) (x5 : Int32) (x6 : Int32) (x7 : Int32) (h : ea_H) (r : Int32) (h' : ea_H), (gX4_rowOf f).2.2 x1 x2 x3 r4 x5 x6 x7 h = some (r, h') → ShC h → ea_W mX4_rowOf d h0 (some (vI r)) h' 77 [(0, vR (some 50)), (1, vI x1), (2, vI x2), (3, vI x3), (4, vR r4), (5, vI x5), (6, vI x6), (7, vI x7)] [] h) := by
  intro f
  induction f with
  | zero => exact ⟨fun _ _ _ _ _ _ E => no_some E, fun _ _ _ _ _ _ _ E => no_some E, fun _ _ _ _ _ _ _ _ _ _ E => no_some E⟩
  | succ f ih => exact ⟨fun _ _ _ _ _ _ E hs => tBX4_rowOf_0 hd ih.2.1 E hs, fun _ _ _ _ _ _ _ E hs => tBX4_rowOf_37 hd ih.2.2 E hs, fun _ _ _ _ _ _ _ _ _ _ E hs => tBX4_rowOf_77 hd ih.2.2 E hs⟩
noncomputable def qX4_rowOf (x1 : Int32) (x2 : Int32) (x3 : Int32) (h : ea_H) : Option (Int32 × ea_H) := qX4_rowOf_0 x1 x2 x3 h
theorem sX4_rowOf {d : Nat} {x1 : Int32} {x2 : Int32} {x3 : Int32} {h : ea_H} {r : Int32} {h' : ea_H} (hd : 6 ≤ d) (hs : ShC h) (K : qX4_rowOf x1 x2 x3 h = some (r, h')) : ea_Met mX4_rowOf d [vR (some 50), vI x1, vI x2, vI x3] h (some (vI r)) h' := by
  unfold qX4_rowOf at K
  obtain ⟨n, hn⟩ := fqX4_rowOf_0 x1 x2 x3 h _ K
  have W := (tgX4_rowOf (d := d) (h0 := h) hd n).1 x1 x2 x3 h _ _ (hn n (Nat.le_refl _)) hs
  exact ea_enter rfl (Nat.le_of_ble_eq_true rfl) W
theorem kpX4_rowOf (x1 : Int32) (x2 : Int32) (x3 : Int32) (h : ea_H) : kp (ea_core h) (qX4_rowOf x1 x2 x3 h) := fun x e => by
  obtain ⟨n, hn⟩ := fqX4_rowOf_0 x1 x2 x3 h x e
  exact (kgX4_rowOf n).1 x1 x2 x3 h x (hn n (Nat.le_refl _))
noncomputable def BX8_price_0 (r1 : Option Nat) (h : ea_H) : Option (Unit × ea_H) :=
  (gd (r1 = some (Option.getD r1 0)) (gd (((Option.getD r1 0) < ea_n h ∧ ea_c h (Option.getD r1 0) = 5)) (Option.bind (qX5_dayOf (Option.getD r1 0) h) fun w1 => (Option.bind (qX8_numberOn (w1.1 : Int32) w1.2) fun w4 => (gd (r1 = some (Option.getD r1 0)) (gd (((Option.getD r1 0) < ea_n w4.2 ∧ ea_c w4.2 (Option.getD r1 0) = 5)) (ea_let (ea_wi w4.2 (Option.getD r1 0) 11 w4.1) fun H7 => (gd (r1 = some (Option.getD r1 0)) (gd (((Option.getD r1 0) < ea_n H7 ∧ ea_c H7 (Option.getD r1 0) = 5)) (Option.bind (qX8_actOf ((ea_i H7 (Option.getD r1 0) 11) : Int32) H7) fun w10 => (if w10.1 = none then (some ((), w10.2)) else (gd (w10.1 = some (Option.getD w10.1 0)) (gd (((Option.getD w10.1 0) < ea_n w10.2 ∧ ea_c w10.2 (Option.getD w10.1 0) = 0)) (gd (r1 = some (Option.getD r1 0)) (gd (((Option.getD r1 0) < ea_n w10.2 ∧ ea_c w10.2 (Option.getD r1 0) = 5)) (ea_let (ea_wi w10.2 (Option.getD r1 0) 14 (ea_i w10.2 (Option.getD w10.1 0) 7)) fun H15 => (Option.bind (qX8_isFree (w10.1 : Option Nat) (r1 : Option Nat) H15) fun w16 => (gd (r1 = some (Option.getD r1 0)) (gd (((Option.getD r1 0) < ea_n w16.2 ∧ ea_c w16.2 (Option.getD r1 0) = 5)) (gd ((w16.1 = 0 ∨ w16.1 = 1)) (ea_let (ea_wi w16.2 (Option.getD r1 0) 13 w16.1) fun H20 => (Option.bind (qX8_chargeBy (w10.1 : Option Nat) (r1 : Option Nat) H20) fun w21 => (gd (r1 = some (Option.getD r1 0)) (gd (((Option.getD r1 0) < ea_n w21.2 ∧ ea_c w21.2 (Option.getD r1 0) = 5)) (ea_let (ea_wi w21.2 (Option.getD r1 0) 10 w21.1) fun H24 => (gd (r1 = some (Option.getD r1 0)) (gd (((Option.getD r1 0) < ea_n H24 ∧ ea_c H24 (Option.getD r1 0) = 5)) (if (ea_i H24 (Option.getD r1 0) 13) = (0 : Int32) then (Option.bind (qX8_lineFor (w10.1 : Option Nat) (r1 : Option Nat) H24) fun w27 => (gd (r1 = some (Option.getD r1 0)) (gd (((Option.getD r1 0) < ea_n w27.2 ∧ ea_c w27.2 (Option.getD r1 0) = 5)) (ea_let (ea_wi w27.2 (Option.getD r1 0) 12 w27.1) fun H30 => (some ((), H30)))))) else (gd (r1 = some (Option.getD r1 0)) (gd (((Option.getD r1 0) < ea_n H24 ∧ ea_c H24 (Option.getD r1 0) = 5)) (ea_let (ea_wi H24 (Option.getD r1 0) 12 (-1)) fun H33 => (some ((), H33)))))))))))))))))))))))))))))))))
theorem tBX8_price_0 {d : Nat} {h0 : ea_H} (hd : 5 ≤ d)  {r1 : Option Nat} {h : ea_H} {r : Unit} {h' : ea_H} (E : BX8_price_0 r1 h = some (r, h')) (hs : ShC h) : ea_W mX8_price d h0 none h' 0 [(0, vR (some 23)), (1, vR r1)] [] h := by
  unfold BX8_price_0 at E
  obtain ⟨e2, E⟩ := gd_some E
  refine ea_aload_n (pc := 0) dX8_price_0 rfl 1 rfl ?_
  refine ea_aload_n (pc := 1) dX8_price_1 rfl 0 rfl ?_
  refine ea_aload_n (pc := 2) dX8_price_2 rfl 1 rfl ?_
  obtain ⟨f3, E⟩ := gd_some E
  obtain ⟨w1, Ew1, E⟩ := bd_some E
  have hsw1 : ShC w1.2 := ShC_core ((kpX5_dayOf _ _) _ Ew1) hs
  refine ea_deref0 e2 ?_
  refine ea_callV (pc := 3) (d' := d - 1) (As := []) (st := [vR (some 23), vR r1]) dX8_price_3 kX5_dayOf (sX5_dayOf (d := d - 1) (by omega) Ew1) (by omega) rfl (Nat.le_of_ble_eq_true rfl) ew_1090 ew_1083 ew_1084 (ci := 5) rfl (by decide) f3.1 f3.2 ?_
  obtain ⟨w4, Ew4, E⟩ := bd_some E
  have hsw4 : ShC w4.2 := ShC_core ((kpX8_numberOn _ _) _ Ew4) hsw1
  refine ea_callV (pc := 6) (d' := d - 1) (As := [vI w1.1]) (st := [vR r1]) dX8_price_6 kX8_numberOn (sX8_numberOn (d := d - 1) (by omega) hsw1 Ew4) (by omega) rfl (Nat.le_of_ble_eq_true rfl) ew_1091 ew_1058 ew_1059 (ci := 8) rfl (by decide) (cShC_23 hsw1).1 (cShC_23 hsw1).2.1 ?_
  obtain ⟨e5, E⟩ := gd_some E
  obtain ⟨f6, E⟩ := gd_some E
  obtain ⟨H7, eH7, E⟩ := let_some E
  refine ea_deref1 e5 ?_
  refine ea_putI (pc := 9) dX8_price_9 ec_5 (k := 11) (Nat.le_of_ble_eq_true rfl) rfl (Or.inl ⟨rfl, Or.inl ew_535⟩) rfl rfl f6.1 f6.2 ?_
  refine ea_nm eH7 ?_
  have hsH7 : ShC H7 := by rw [eH7]; exact hsw4
  obtain ⟨e8, E⟩ := gd_some E
  refine ea_aload_n (pc := 12) dX8_price_12 rfl 0 rfl ?_
  refine ea_aload_n (pc := 13) dX8_price_13 rfl 1 rfl ?_
  obtain ⟨f9, E⟩ := gd_some E
  obtain ⟨w10, Ew10, E⟩ := bd_some E
  have hsw10 : ShC w10.2 := ShC_core ((kpX8_actOf _ _) _ Ew10) hsH7
  refine ea_deref0 e8 ?_
  refine ea_getI (pc := 14) dX8_price_14 ec_5 (k := 11) (Nat.le_of_ble_eq_true rfl) rfl (Or.inl ew_535) f9.1 f9.2 ?_
  refine ea_callV (pc := 17) (d' := d - 1) (As := [vI (ea_i H7 (Option.getD r1 0) 11)]) (st := []) dX8_price_17 kX8_actOf (sX8_actOf (d := d - 1) (by omega) hsH7 Ew10) (by omega) rfl (Nat.le_of_ble_eq_true rfl) ew_1092 ew_1062 ew_1063 (ci := 8) rfl (by decide) (cShC_23 hsH7).1 (cShC_23 hsH7).2.1 ?_
  refine ea_astore_n (pc := 20) (lv' := [(0, vR (some 23)), (1, vR r1), (2, vR w10.1)]) dX8_price_20 rfl (Nat.le_of_ble_eq_true rfl) [1, 2, 0] rfl ?_
  refine ea_aload_n (pc := 21) dX8_price_21 rfl 2 rfl ?_
  refine ea_ifnonnull (pc := 22) (tgt := 26) dX8_price_22 rfl (fun a36 c35 => ?_) (fun c35 => ?_)
  · have c35n : ¬ w10.1 = none := by rw [c35]; exact fun q => nomatch q
    have E := (if_neg c35n).symm.trans E
    obtain ⟨e11, E⟩ := gd_some E
    refine ea_aload_n (pc := 26) dX8_price_26 rfl 1 rfl ?_
    refine ea_aload_n (pc := 27) dX8_price_27 rfl 2 rfl ?_
    obtain ⟨f12, E⟩ := gd_some E
    obtain ⟨e13, E⟩ := gd_some E
    refine ea_deref0 e11 ?_
    refine ea_getI (pc := 28) dX8_price_28 ec_0 (k := 7) (Nat.le_of_ble_eq_true rfl) rfl (Or.inl ew_362) f12.1 f12.2 ?_
    obtain ⟨f14, E⟩ := gd_some E
    obtain ⟨H15, eH15, E⟩ := let_some E
    refine ea_deref1 e13 ?_
    refine ea_putI (pc := 31) dX8_price_31 ec_5 (k := 14) (Nat.le_of_ble_eq_true rfl) rfl (Or.inl ⟨rfl, Or.inl ew_543⟩) rfl rfl f14.1 f14.2 ?_
    refine ea_nm eH15 ?_
    have hsH15 : ShC H15 := by rw [eH15]; exact hsw10
    obtain ⟨w16, Ew16, E⟩ := bd_some E
    have hsw16 : ShC w16.2 := ShC_core ((kpX8_isFree _ _ _) _ Ew16) hsH15
    refine ea_aload_n (pc := 34) dX8_price_34 rfl 1 rfl ?_
    refine ea_aload_n (pc := 35) dX8_price_35 rfl 2 rfl ?_
    refine ea_aload_n (pc := 36) dX8_price_36 rfl 1 rfl ?_
    refine ea_callS (pc := 37) (d' := d - 1) (As := [vR w10.1, vR r1]) (st := [vR r1]) dX8_price_37 kX8_isFree (sX8_isFree (d := d - 1) (by omega) Ew16) (by omega) rfl (Nat.le_of_ble_eq_true rfl) ew_1093 ew_1094 ?_
    obtain ⟨e17, E⟩ := gd_some E
    obtain ⟨f18, E⟩ := gd_some E
    obtain ⟨z19, E⟩ := gd_some E
    obtain ⟨H20, eH20, E⟩ := let_some E
    refine ea_deref1 e17 ?_
    refine ea_putI (pc := 40) dX8_price_40 ec_5 (k := 13) (Nat.le_of_ble_eq_true rfl) rfl (Or.inl ⟨rfl, Or.inl ew_540⟩) (ea_bn z19) (ea_bf z19) f18.1 f18.2 ?_
    refine ea_nm eH20 ?_
    have hsH20 : ShC H20 := by rw [eH20]; exact hsw16
    obtain ⟨w21, Ew21, E⟩ := bd_some E
    have hsw21 : ShC w21.2 := ShC_core ((kpX8_chargeBy _ _ _) _ Ew21) hsH20
    refine ea_aload_n (pc := 43) dX8_price_43 rfl 1 rfl ?_
    refine ea_aload_n (pc := 44) dX8_price_44 rfl 0 rfl ?_
    refine ea_aload_n (pc := 45) dX8_price_45 rfl 2 rfl ?_
    refine ea_aload_n (pc := 46) dX8_price_46 rfl 1 rfl ?_
    refine ea_callV (pc := 47) (d' := d - 1) (As := [vR w10.1, vR r1]) (st := [vR r1]) dX8_price_47 kX8_chargeBy (sX8_chargeBy (d := d - 1) (by omega) hsH20 Ew21) (by omega) rfl (Nat.le_of_ble_eq_true rfl) ew_1096 ew_1097 ew_1098 (ci := 8) rfl (by decide) (cShC_23 hsH20).1 (cShC_23 hsH20).2.1 ?_
    obtain ⟨e22, E⟩ := gd_some E
    obtain ⟨f23, E⟩ := gd_some E
    obtain ⟨H24, eH24, E⟩ := let_some E
    refine ea_deref1 e22 ?_
    refine ea_putI (pc := 50) dX8_price_50 ec_5 (k := 10) (Nat.le_of_ble_eq_true rfl) rfl (Or.inl ⟨rfl, Or.inl ew_532⟩) rfl rfl f23.1 f23.2 ?_
    refine ea_nm eH24 ?_
    have hsH24 : ShC H24 := by rw [eH24]; exact hsw21
    obtain ⟨e25, E⟩ := gd_some E
    refine ea_aload_n (pc := 53) dX8_price_53 rfl 1 rfl ?_
    refine ea_aload_n (pc := 54) dX8_price_54 rfl 1 rfl ?_
    obtain ⟨f26, E⟩ := gd_some E
    refine ea_deref0 e25 ?_
    refine ea_getI (pc := 55) dX8_price_55 ec_5 (k := 13) (Nat.le_of_ble_eq_true rfl) rfl (Or.inl ew_540) f26.1 f26.2 ?_
    refine ea_if_eq (pc := 58) (tgt := 65) dX8_price_58 rfl (fun c34 => ?_) (fun c34 => ?_)
    · have E := (if_pos c34).symm.trans E
      obtain ⟨w27, Ew27, E⟩ := bd_some E
      have hsw27 : ShC w27.2 := ShC_core ((kpX8_lineFor _ _ _) _ Ew27) hsH24
      refine ea_aload_n (pc := 65) dX8_price_65 rfl 0 rfl ?_
      refine ea_aload_n (pc := 66) dX8_price_66 rfl 2 rfl ?_
      refine ea_aload_n (pc := 67) dX8_price_67 rfl 1 rfl ?_
      refine ea_callV (pc := 68) (d' := d - 1) (As := [vR w10.1, vR r1]) (st := [vR r1]) dX8_price_68 kX8_lineFor (sX8_lineFor (d := d - 1) (by omega) hsH24 Ew27) (by omega) rfl (Nat.le_of_ble_eq_true rfl) ew_1100 ew_1102 ew_34 (ci := 8) rfl (by decide) (cShC_23 hsH24).1 (cShC_23 hsH24).2.1 ?_
      obtain ⟨e28, E⟩ := gd_some E
      obtain ⟨f29, E⟩ := gd_some E
      obtain ⟨H30, eH30, E⟩ := let_some E
      refine ea_deref1 e28 ?_
      refine ea_putI (pc := 71) dX8_price_71 ec_5 (k := 12) (Nat.le_of_ble_eq_true rfl) rfl (Or.inl ⟨rfl, Or.inl ew_538⟩) rfl rfl f29.1 f29.2 ?_
      refine ea_nm eH30 ?_
      have hsH30 : ShC H30 := by rw [eH30]; exact hsw27
      exact ea_vretO (pc := 74) dX8_price_74 rfl E
    · have E := (if_neg c34).symm.trans E
      obtain ⟨e31, E⟩ := gd_some E
      refine ea_iconst (pc := 61) dX8_price_61 (v := (-1)) rfl ?_
      refine ea_goto (pc := 62) (tgt := 71) dX8_price_62 rfl ?_
      obtain ⟨f32, E⟩ := gd_some E
      obtain ⟨H33, eH33, E⟩ := let_some E
      refine ea_deref1 e31 ?_
      refine ea_putI (pc := 71) dX8_price_71 ec_5 (k := 12) (Nat.le_of_ble_eq_true rfl) rfl (Or.inl ⟨rfl, Or.inl ew_538⟩) rfl rfl f32.1 f32.2 ?_
      refine ea_nm eH33 ?_
      have hsH33 : ShC H33 := by rw [eH33]; exact hsH24
      exact ea_vretO (pc := 74) dX8_price_74 rfl E
  · have E := (if_pos c35).symm.trans E
    exact ea_vretO (pc := 25) dX8_price_25 rfl E
theorem kBX8_price_0  {r1 : Option Nat} {h : ea_H} : kp (ea_core h) (BX8_price_0 r1 h) :=
  (kp_gd (kp_gd (kp_bind (kp_tw (kpX5_dayOf _ _) rfl) fun w1 hcw1 => (kp_bind (kp_tw (kpX8_numberOn _ _) hcw1) fun w4 hcw4 => (kp_gd (kp_gd (kp_let (kp_gd (kp_gd (kp_bind (kp_tw (kpX8_actOf _ _) hcw4) fun w10 hcw10 => (kp_ite (kp_ret hcw10) (kp_gd (kp_gd (kp_gd (kp_gd (kp_let (kp_bind (kp_tw (kpX8_isFree _ _ _) hcw10) fun w16 hcw16 => (kp_gd (kp_gd (kp_gd (kp_let (kp_bind (kp_tw (kpX8_chargeBy _ _ _) hcw16) fun w21 hcw21 => (kp_gd (kp_gd (kp_let (kp_gd (kp_gd (kp_ite (kp_bind (kp_tw (kpX8_lineFor _ _ _) hcw21) fun w27 hcw27 => (kp_gd (kp_gd (kp_let (kp_ret hcw27))))) (kp_gd (kp_gd (kp_let (kp_ret hcw21))))))))))))))))))))))))))))))))
noncomputable def qX8_price (r1 : Option Nat) (h : ea_H) : Option (Unit × ea_H) := BX8_price_0 r1 h
theorem sX8_price {d : Nat} {r1 : Option Nat} {h : ea_H} {r : Unit} {h' : ea_H} (hd : 5 ≤ d) (hs : ShC h) (K : qX8_price r1 h = some (r, h')) : ea_Met mX8_price d [vR (some 23), vR r1] h none h' := by
  unfold qX8_price at K
  have W := tBX8_price_0 hd (h0 := h) K hs
  exact ea_enter rfl (Nat.le_of_ble_eq_true rfl) W
theorem kpX8_price (r1 : Option Nat) (h : ea_H) : kp (ea_core h) (qX8_price r1 h) := kBX8_price_0
noncomputable def BX11_minutes_0 (x1 : Int32) (h : ea_H) : Option (Int32 × ea_H) :=
  (if x1 < (1 : Int32) then (some (((-1) : Int32), h)) else (if (3000 : Int32) < x1 then (some (((-1) : Int32), h)) else (if ((ea_i h 0 14) + x1) ≤ (10079 : Int32) then (ea_let (ea_wi h 0 15 0) fun H1 => (Option.bind (qX10_refresh  H1) fun w2 => (Option.bind (qX1_carry_at52 ((ea_i w2.2 0 14) : Int32) (((ea_i w2.2 0 14) + x1) : Int32) w2.2) fun w3 => (ea_let (ea_wi w3.2 0 14 ((ea_i w3.2 0 14) + x1)) fun H4 => (some ((ea_i H4 0 14), H4)))))) else (some (((-1) : Int32), h)))))
theorem tBX11_minutes_0 {d : Nat} {h0 : ea_H} (hd : 6 ≤ d)  {x1 : Int32} {h : ea_H} {r : Int32} {h' : ea_H} (E : BX11_minutes_0 x1 h = some (r, h')) (hs : ShC h) : ea_W mX11_minutes d h0 (some (vI r)) h' 0 [(0, vR (some 0)), (1, vI x1)] [] h := by
  unfold BX11_minutes_0 at E
  refine ea_iload_n (pc := 0) dX11_minutes_0 rfl 1 rfl ?_
  refine ea_iconst (pc := 1) dX11_minutes_1 (v := 1) rfl ?_
  refine ea_icmp_lt (pc := 2) (tgt := 24) dX11_minutes_2 rfl (fun c7 => ?_) (fun c7 => ?_)
  · have E := (if_pos c7).symm.trans E
    refine ea_iconst (pc := 24) dX11_minutes_24 (v := (-1)) rfl ?_
    exact ea_iretO (pc := 25) dX11_minutes_25 rfl rfl E
  · have E := (if_neg c7).symm.trans E
    refine ea_iload_n (pc := 5) dX11_minutes_5 rfl 1 rfl ?_
    refine ea_sipush (pc := 6) dX11_minutes_6 (v := 3000) rfl ?_
    refine ea_icmp_gt (pc := 9) (tgt := 24) dX11_minutes_9 rfl (fun c6 => ?_) (fun c6 => ?_)
    · have E := (if_pos c6).symm.trans E
      refine ea_iconst (pc := 24) dX11_minutes_24 (v := (-1)) rfl ?_
      exact ea_iretO (pc := 25) dX11_minutes_25 rfl rfl E
    · have E := (if_neg c6).symm.trans E
      refine ea_aload_n (pc := 12) dX11_minutes_12 rfl 0 rfl ?_
      refine ea_getI (pc := 13) dX11_minutes_13 ec_11 (k := 14) (Nat.le_of_ble_eq_true rfl) rfl (Or.inl ew_628) (cShC_0 hs).1 (cShC_0 hs).2.1 ?_
      refine ea_iload_n (pc := 16) dX11_minutes_16 rfl 1 rfl ?_
      refine ea_iadd (pc := 17) dX11_minutes_17 ?_
      refine ea_sipush (pc := 18) dX11_minutes_18 (v := 10079) rfl ?_
      refine ea_icmp_le (pc := 21) (tgt := 26) dX11_minutes_21 rfl (fun c5 => ?_) (fun c5 => ?_)
      · have E := (if_pos c5).symm.trans E
        obtain ⟨H1, eH1, E⟩ := let_some E
        refine ea_aload_n (pc := 26) dX11_minutes_26 rfl 0 rfl ?_
        refine ea_iconst (pc := 27) dX11_minutes_27 (v := 0) rfl ?_
        refine ea_putI (pc := 28) dX11_minutes_28 ec_11 (k := 15) (Nat.le_of_ble_eq_true rfl) rfl (Or.inl ⟨rfl, Or.inl ew_629⟩) (ea_bn (Or.inl rfl)) (ea_bf (Or.inl rfl)) (cShC_0 hs).1 (cShC_0 hs).2.1 ?_
        refine ea_nm eH1 ?_
        have hsH1 : ShC H1 := by rw [eH1]; exact hs
        obtain ⟨w2, Ew2, E⟩ := bd_some E
        have hsw2 : ShC w2.2 := ShC_core ((kpX10_refresh _) _ Ew2) hsH1
        refine ea_aload_n (pc := 31) dX11_minutes_31 rfl 0 rfl ?_
        refine ea_getR (pc := 32) dX11_minutes_32 ec_11 (k := 2) (Nat.le_of_ble_eq_true rfl) rfl (Or.inl ew_616) (cShC_0 hsH1).1 (cShC_0 hsH1).2.1 (rShC_0_2 hsH1) ?_
        refine ea_callV (pc := 35) (d' := d - 1) (As := []) (st := []) dX11_minutes_35 kX10_refresh (sX10_refresh (d := d - 1) (by omega) hsH1 Ew2) (by omega) rfl (Nat.le_of_ble_eq_true rfl) ew_749 ew_750 ew_751 (ci := 10) rfl (by decide) (cShC_13 hsH1).1 (cShC_13 hsH1).2.1 ?_
        obtain ⟨w3, Ew3, E⟩ := bd_some E
        have hsw3 : ShC w3.2 := ShC_core ((kpX1_carry_at52 _ _ _) _ Ew3) hsw2
        refine ea_aload_n (pc := 38) dX11_minutes_38 rfl 0 rfl ?_
        refine ea_getR (pc := 39) dX11_minutes_39 ec_11 (k := 7) (Nat.le_of_ble_eq_true rfl) rfl (Or.inl ew_621) (cShC_0 hsw2).1 (cShC_0 hsw2).2.1 (rShC_0_7 hsw2) ?_
        refine ea_aload_n (pc := 42) dX11_minutes_42 rfl 0 rfl ?_
        refine ea_getI (pc := 43) dX11_minutes_43 ec_11 (k := 14) (Nat.le_of_ble_eq_true rfl) rfl (Or.inl ew_628) (cShC_0 hsw2).1 (cShC_0 hsw2).2.1 ?_
        refine ea_aload_n (pc := 46) dX11_minutes_46 rfl 0 rfl ?_
        refine ea_getI (pc := 47) dX11_minutes_47 ec_11 (k := 14) (Nat.le_of_ble_eq_true rfl) rfl (Or.inl ew_628) (cShC_0 hsw2).1 (cShC_0 hsw2).2.1 ?_
        refine ea_iload_n (pc := 50) dX11_minutes_50 rfl 1 rfl ?_
        refine ea_iadd (pc := 51) dX11_minutes_51 ?_
        refine ea_callV (pc := 52) (d' := d - 1) (As := [vI (ea_i w2.2 0 14), vI ((ea_i w2.2 0 14) + x1)]) (st := []) dX11_minutes_52 kX1_carry (sX1_carry_at52 (d := d - 1) (by omega) hsw2 Ew3) (by omega) rfl (Nat.le_of_ble_eq_true rfl) ew_833 ew_834 ew_835 (ci := 1) rfl (by decide) (cShC_52 hsw2).1 (cShC_52 hsw2).2.1 ?_
        obtain ⟨H4, eH4, E⟩ := let_some E
        refine ea_aload_n (pc := 55) dX11_minutes_55 rfl 0 rfl ?_
        refine ea_dup (pc := 56) dX11_minutes_56 rfl ?_
        refine ea_getI (pc := 57) dX11_minutes_57 ec_11 (k := 14) (Nat.le_of_ble_eq_true rfl) rfl (Or.inl ew_628) (cShC_0 hsw3).1 (cShC_0 hsw3).2.1 ?_
        refine ea_iload_n (pc := 60) dX11_minutes_60 rfl 1 rfl ?_
        refine ea_iadd (pc := 61) dX11_minutes_61 ?_
        refine ea_putI (pc := 62) dX11_minutes_62 ec_11 (k := 14) (Nat.le_of_ble_eq_true rfl) rfl (Or.inl ⟨rfl, Or.inl ew_628⟩) rfl rfl (cShC_0 hsw3).1 (cShC_0 hsw3).2.1 ?_
        refine ea_nm eH4 ?_
        have hsH4 : ShC H4 := by rw [eH4]; exact hsw3
        refine ea_aload_n (pc := 65) dX11_minutes_65 rfl 0 rfl ?_
        refine ea_getI (pc := 66) dX11_minutes_66 ec_11 (k := 14) (Nat.le_of_ble_eq_true rfl) rfl (Or.inl ew_628) (cShC_0 hsH4).1 (cShC_0 hsH4).2.1 ?_
        exact ea_iretO (pc := 69) dX11_minutes_69 rfl rfl E
      · have E := (if_neg c5).symm.trans E
        refine ea_iconst (pc := 24) dX11_minutes_24 (v := (-1)) rfl ?_
        exact ea_iretO (pc := 25) dX11_minutes_25 rfl rfl E
theorem kBX11_minutes_0  {x1 : Int32} {h : ea_H} : kp (ea_core h) (BX11_minutes_0 x1 h) :=
  (kp_ite (kp_ret rfl) (kp_ite (kp_ret rfl) (kp_ite (kp_let (kp_bind (kp_tw (kpX10_refresh _) rfl) fun w2 hcw2 => (kp_bind (kp_tw (kpX1_carry_at52 _ _ _) hcw2) fun w3 hcw3 => (kp_let (kp_ret hcw3))))) (kp_ret rfl))))
noncomputable def qX11_minutes (x1 : Int32) (h : ea_H) : Option (Int32 × ea_H) := BX11_minutes_0 x1 h
theorem sX11_minutes {d : Nat} {x1 : Int32} {h : ea_H} {r : Int32} {h' : ea_H} (hd : 6 ≤ d) (hs : ShC h) (K : qX11_minutes x1 h = some (r, h')) : ea_Met mX11_minutes d [vR (some 0), vI x1] h (some (vI r)) h' := by
  unfold qX11_minutes at K
  have W := tBX11_minutes_0 hd (h0 := h) K hs
  exact ea_enter rfl (Nat.le_of_ble_eq_true rfl) W
theorem kpX11_minutes (x1 : Int32) (h : ea_H) : kp (ea_core h) (qX11_minutes x1 h) := kBX11_minutes_0
noncomputable def BX11_post_0 (x1 : Int32) (x2 : Int32) (x3 : Int32) (x4 : Int32) (x5 : Int32) (x6 : Int32) (h : ea_H) : Option (Int32 × ea_H) :=
  (if x1 < (0 : Int32) then (some (((-1) : Int32), h)) else (if (4 : Int32) < x1 then (some (((-1) : Int32), h)) else (Option.bind (qX7_has (x2 : Int32) h) fun w1 => (if w1.1 = (0 : Int32) then (some (((-1) : Int32), w1.2)) else (Option.bind (qX7_has (x3 : Int32) w1.2) fun w2 => (if w2.1 = (0 : Int32) then (some (((-1) : Int32), w2.2)) else (if x2 = x3 then (some (((-1) : Int32), w2.2)) else (if x4 < (1 : Int32) then (some (((-1) : Int32), w2.2)) else (if (9 : Int32) < x4 then (some (((-1) : Int32), w2.2)) else (if x5 < (0 : Int32) then (some (((-1) : Int32), w2.2)) else (if (99 : Int32) < x5 then (some (((-1) : Int32), w2.2)) else (if x6 < (0 : Int32) then (some (((-1) : Int32), w2.2)) else (if x6 ≤ (9 : Int32) then (if (ea_i w2.2 52 0) < (120 : Int32) then (ea_let (ea_i w2.2 52 0) fun (v3 : Int32) => (gd (vp_in v3 120) (ea_let (ea_r w2.2 49 (Int32.toNatClampNeg v3)) fun (v5 : Option Nat) => (gd (v5 = some (Option.getD v5 0)) (gd (((Option.getD v5 0) < ea_n w2.2 ∧ ea_c w2.2 (Option.getD v5 0) = 5)) (Option.bind (qX5_begin (Option.getD v5 0) (x1 : Int32) (x2 : Int32) (x3 : Int32) (x4 : Int32) (x5 : Int32) (x6 : Int32) w2.2) fun w6 => (gd (v5 = some (Option.getD v5 0)) (gd (((Option.getD v5 0) < ea_n w6.2 ∧ ea_c w6.2 (Option.getD v5 0) = 5)) (ea_let (ea_wi w6.2 (Option.getD v5 0) 6 (ea_i w6.2 0 14)) fun H11 => (Option.bind (qX7_between (x2 : Int32) (x3 : Int32) H11) fun w12 => (gd (v5 = some (Option.getD v5 0)) (gd (((Option.getD v5 0) < ea_n w12.2 ∧ ea_c w12.2 (Option.getD v5 0) = 5)) (ea_let (ea_wi w12.2 (Option.getD v5 0) 7 (if w12.1 < (0 : Int32) then (0 : Int32) else w12.1)) fun H15 => (Option.bind (qX7_isCross (x2 : Int32) (x3 : Int32) H15) fun w16 => (gd (v5 = some (Option.getD v5 0)) (gd (((Option.getD v5 0) < ea_n w16.2 ∧ ea_c w16.2 (Option.getD v5 0) = 5)) (gd ((w16.1 = 0 ∨ w16.1 = 1)) (ea_let (ea_wi w16.2 (Option.getD v5 0) 8 w16.1) fun H20 => (Option.bind (qX11_franksAhead (v5 : Option Nat) H20) fun w21 => (gd (v5 = some (Option.getD v5 0)) (gd (((Option.getD v5 0) < ea_n w21.2 ∧ ea_c w21.2 (Option.getD v5 0) = 5)) (ea_let (ea_wi w21.2 (Option.getD v5 0) 9 w21.1) fun H24 => (Option.bind (qX8_price (v5 : Option Nat) H24) fun w25 => (Option.bind (qX1_begin_at52 ((ea_i w25.2 0 14) : Int32) (x2 : Int32) w25.2) fun w26 => (ea_let (ea_wi w26.2 0 15 0) fun H27 => (some (v3, H27))))))))))))))))))))))))))) else (some (((-1) : Int32), w2.2))) else (some (((-1) : Int32), w2.2)))))))))))))))
theorem tBX11_post_0 {d : Nat} {h0 : ea_H} (hd : 6 ≤ d)  {x1 : Int32} {x2 : Int32} {x3 : Int32} {x4 : Int32} {x5 : Int32} {x6 : Int32} {h : ea_H} {r : Int32} {h' : ea_H} (E : BX11_post_0 x1 x2 x3 x4 x5 x6 h = some (r, h')) (hs : ShC h) : ea_W mX11_post d h0 (some (vI r)) h' 0 [(0, vR (some 0)), (1, vI x1), (2, vI x2), (3, vI x3), (4, vI x4), (5, vI x5), (6, vI x6)] [] h := by
  unfold BX11_post_0 at E
  refine ea_iload_n (pc := 0) dX11_post_0 rfl 1 rfl ?_
  refine ea_if_lt (pc := 1) (tgt := 36) dX11_post_1 rfl (fun c39 => ?_) (fun c39 => ?_)
  · have E := (if_pos c39).symm.trans E
    refine ea_iconst (pc := 36) dX11_post_36 (v := (-1)) rfl ?_
    exact ea_iretO (pc := 37) dX11_post_37 rfl rfl E
  · have E := (if_neg c39).symm.trans E
    refine ea_iload_n (pc := 4) dX11_post_4 rfl 1 rfl ?_
    refine ea_iconst (pc := 5) dX11_post_5 (v := 4) rfl ?_
    refine ea_icmp_gt (pc := 6) (tgt := 36) dX11_post_6 rfl (fun c38 => ?_) (fun c38 => ?_)
    · have E := (if_pos c38).symm.trans E
      refine ea_iconst (pc := 36) dX11_post_36 (v := (-1)) rfl ?_
      exact ea_iretO (pc := 37) dX11_post_37 rfl rfl E
    · have E := (if_neg c38).symm.trans E
      obtain ⟨w1, Ew1, E⟩ := bd_some E
      have hsw1 : ShC w1.2 := ShC_core ((kpX7_has _ _) _ Ew1) hs
      refine ea_aload_n (pc := 9) dX11_post_9 rfl 0 rfl ?_
      refine ea_getR (pc := 10) dX11_post_10 ec_11 (k := 0) (Nat.le_of_ble_eq_true rfl) rfl (Or.inl ew_614) (cShC_0 hs).1 (cShC_0 hs).2.1 (rShC_0_0 hs) ?_
      refine ea_iload_n (pc := 13) dX11_post_13 rfl 2 rfl ?_
      refine ea_callV (pc := 14) (d' := d - 1) (As := [vI x2]) (st := []) dX11_post_14 kX7_has (sX7_has (d := d - 1) (by omega) hs Ew1) (by omega) rfl (Nat.le_of_ble_eq_true rfl) ew_680 ew_681 ew_682 (ci := 7) rfl (by decide) (cShC_1 hs).1 (cShC_1 hs).2.1 ?_
      refine ea_if_eq (pc := 17) (tgt := 36) dX11_post_17 rfl (fun c37 => ?_) (fun c37 => ?_)
      · have E := (if_pos c37).symm.trans E
        refine ea_iconst (pc := 36) dX11_post_36 (v := (-1)) rfl ?_
        exact ea_iretO (pc := 37) dX11_post_37 rfl rfl E
      · have E := (if_neg c37).symm.trans E
        obtain ⟨w2, Ew2, E⟩ := bd_some E
        have hsw2 : ShC w2.2 := ShC_core ((kpX7_has _ _) _ Ew2) hsw1
        refine ea_aload_n (pc := 20) dX11_post_20 rfl 0 rfl ?_
        refine ea_getR (pc := 21) dX11_post_21 ec_11 (k := 0) (Nat.le_of_ble_eq_true rfl) rfl (Or.inl ew_614) (cShC_0 hsw1).1 (cShC_0 hsw1).2.1 (rShC_0_0 hsw1) ?_
        refine ea_iload_n (pc := 24) dX11_post_24 rfl 3 rfl ?_
        refine ea_callV (pc := 25) (d' := d - 1) (As := [vI x3]) (st := []) dX11_post_25 kX7_has (sX7_has (d := d - 1) (by omega) hsw1 Ew2) (by omega) rfl (Nat.le_of_ble_eq_true rfl) ew_680 ew_681 ew_682 (ci := 7) rfl (by decide) (cShC_1 hsw1).1 (cShC_1 hsw1).2.1 ?_
        refine ea_if_eq (pc := 28) (tgt := 36) dX11_post_28 rfl (fun c36 => ?_) (fun c36 => ?_)
        · have E := (if_pos c36).symm.trans E
          refine ea_iconst (pc := 36) dX11_post_36 (v := (-1)) rfl ?_
          exact ea_iretO (pc := 37) dX11_post_37 rfl rfl E
        · have E := (if_neg c36).symm.trans E
          refine ea_iload_n (pc := 31) dX11_post_31 rfl 2 rfl ?_
          refine ea_iload_n (pc := 32) dX11_post_32 rfl 3 rfl ?_
          refine ea_icmp_ne (pc := 33) (tgt := 38) dX11_post_33 rfl (fun c35 => ?_) (fun c35 => ?_)
          · have E := (if_neg c35).symm.trans E
            refine ea_iload (pc := 38) dX11_post_38 4 rfl ?_
            refine ea_iconst (pc := 40) dX11_post_40 (v := 1) rfl ?_
            refine ea_icmp_lt (pc := 41) (tgt := 75) dX11_post_41 rfl (fun c34 => ?_) (fun c34 => ?_)
            · have E := (if_pos c34).symm.trans E
              refine ea_iconst (pc := 75) dX11_post_75 (v := (-1)) rfl ?_
              exact ea_iretO (pc := 76) dX11_post_76 rfl rfl E
            · have E := (if_neg c34).symm.trans E
              refine ea_iload (pc := 44) dX11_post_44 4 rfl ?_
              refine ea_bipush (pc := 46) dX11_post_46 (v := 9) rfl ?_
              refine ea_icmp_gt (pc := 48) (tgt := 75) dX11_post_48 rfl (fun c33 => ?_) (fun c33 => ?_)
              · have E := (if_pos c33).symm.trans E
                refine ea_iconst (pc := 75) dX11_post_75 (v := (-1)) rfl ?_
                exact ea_iretO (pc := 76) dX11_post_76 rfl rfl E
              · have E := (if_neg c33).symm.trans E
                refine ea_iload (pc := 51) dX11_post_51 5 rfl ?_
                refine ea_if_lt (pc := 53) (tgt := 75) dX11_post_53 rfl (fun c32 => ?_) (fun c32 => ?_)
                · have E := (if_pos c32).symm.trans E
                  refine ea_iconst (pc := 75) dX11_post_75 (v := (-1)) rfl ?_
                  exact ea_iretO (pc := 76) dX11_post_76 rfl rfl E
                · have E := (if_neg c32).symm.trans E
                  refine ea_iload (pc := 56) dX11_post_56 5 rfl ?_
                  refine ea_bipush (pc := 58) dX11_post_58 (v := 99) rfl ?_
                  refine ea_icmp_gt (pc := 60) (tgt := 75) dX11_post_60 rfl (fun c31 => ?_) (fun c31 => ?_)
                  · have E := (if_pos c31).symm.trans E
                    refine ea_iconst (pc := 75) dX11_post_75 (v := (-1)) rfl ?_
                    exact ea_iretO (pc := 76) dX11_post_76 rfl rfl E
                  · have E := (if_neg c31).symm.trans E
                    refine ea_iload (pc := 63) dX11_post_63 6 rfl ?_
                    refine ea_if_lt (pc := 65) (tgt := 75) dX11_post_65 rfl (fun c30 => ?_) (fun c30 => ?_)
                    · have E := (if_pos c30).symm.trans E
                      refine ea_iconst (pc := 75) dX11_post_75 (v := (-1)) rfl ?_
                      exact ea_iretO (pc := 76) dX11_post_76 rfl rfl E
                    · have E := (if_neg c30).symm.trans E
                      refine ea_iload (pc := 68) dX11_post_68 6 rfl ?_
                      refine ea_bipush (pc := 70) dX11_post_70 (v := 9) rfl ?_
                      refine ea_icmp_le (pc := 72) (tgt := 77) dX11_post_72 rfl (fun c29 => ?_) (fun c29 => ?_)
                      · have E := (if_pos c29).symm.trans E
                        refine ea_aload_n (pc := 77) dX11_post_77 rfl 0 rfl ?_
                        refine ea_getR (pc := 78) dX11_post_78 ec_11 (k := 7) (Nat.le_of_ble_eq_true rfl) rfl (Or.inl ew_621) (cShC_0 hsw2).1 (cShC_0 hsw2).2.1 (rShC_0_7 hsw2) ?_
                        refine ea_getI (pc := 81) dX11_post_81 ec_1 (k := 0) (Nat.le_of_ble_eq_true rfl) rfl (Or.inl ew_442) (cShC_52 hsw2).1 (cShC_52 hsw2).2.1 ?_
                        refine ea_bipush (pc := 84) dX11_post_84 (v := 120) rfl ?_
                        refine ea_icmp_lt (pc := 86) (tgt := 91) dX11_post_86 rfl (fun c28 => ?_) (fun c28 => ?_)
                        · have E := (if_pos c28).symm.trans E
                          obtain ⟨v3, ev3, E⟩ := let_some E
                          refine ea_aload_n (pc := 91) dX11_post_91 rfl 0 rfl ?_
                          refine ea_getR (pc := 92) dX11_post_92 ec_11 (k := 7) (Nat.le_of_ble_eq_true rfl) rfl (Or.inl ew_621) (cShC_0 hsw2).1 (cShC_0 hsw2).2.1 (rShC_0_7 hsw2) ?_
                          refine ea_getI (pc := 95) dX11_post_95 ec_1 (k := 0) (Nat.le_of_ble_eq_true rfl) rfl (Or.inl ew_442) (cShC_52 hsw2).1 (cShC_52 hsw2).2.1 ?_
                          obtain ⟨z4, E⟩ := gd_some E
                          refine ea_istore (pc := 98) (lv' := [(0, vR (some 0)), (1, vI x1), (2, vI x2), (3, vI x3), (4, vI x4), (5, vI x5), (6, vI x6), (7, vI v3)]) dX11_post_98 (Nat.le_of_ble_eq_true rfl) [1, 2, 3, 4, 5, 6, 7, 0] (by rw [ev3]; rfl) ?_
                          refine ea_aload_n (pc := 100) dX11_post_100 rfl 0 rfl ?_
                          refine ea_getR (pc := 101) dX11_post_101 ec_11 (k := 5) (Nat.le_of_ble_eq_true rfl) rfl (Or.inl ew_619) (cShC_0 hsw2).1 (cShC_0 hsw2).2.1 (rShC_0_5 hsw2) ?_
                          refine ea_iload (pc := 104) dX11_post_104 7 rfl ?_
                          obtain ⟨v5, ev5, E⟩ := let_some E
                          refine ea_aald23 (pc := 106) dX11_post_106 (cShC_49 hsw2).1 (cShC_49 hsw2).2.1 (ea_vpl (cShC_49 hsw2).2.2 z4) rfl ?_
                          obtain ⟨e7, E⟩ := gd_some E
                          refine ea_astore (pc := 107) (lv' := [(0, vR (some 0)), (1, vI x1), (2, vI x2), (3, vI x3), (4, vI x4), (5, vI x5), (6, vI x6), (7, vI v3), (8, vR v5)]) dX11_post_107 (Nat.le_of_ble_eq_true rfl) [1, 2, 3, 4, 5, 6, 7, 8, 0] (by rw [ev5]; rfl) ?_
                          refine ea_aload (pc := 109) dX11_post_109 8 rfl ?_
                          refine ea_iload_n (pc := 111) dX11_post_111 rfl 1 rfl ?_
                          refine ea_iload_n (pc := 112) dX11_post_112 rfl 2 rfl ?_
                          refine ea_iload_n (pc := 113) dX11_post_113 rfl 3 rfl ?_
                          refine ea_iload (pc := 114) dX11_post_114 4 rfl ?_
                          refine ea_iload (pc := 116) dX11_post_116 5 rfl ?_
                          refine ea_iload (pc := 118) dX11_post_118 6 rfl ?_
                          obtain ⟨f8, E⟩ := gd_some E
                          obtain ⟨w6, Ew6, E⟩ := bd_some E
                          have hsw6 : ShC w6.2 := ShC_core ((kpX5_begin _ _ _ _ _ _ _ _) _ Ew6) hsw2
                          refine ea_deref6 e7 ?_
                          refine ea_callV (pc := 120) (d' := d - 1) (As := [vI x1, vI x2, vI x3, vI x4, vI x5, vI x6]) (st := []) dX11_post_120 kX5_begin (sX5_begin (d := d - 1) (by omega) Ew6) (by omega) rfl (Nat.le_of_ble_eq_true rfl) ew_1069 ew_1070 ew_1071 (ci := 5) rfl (by decide) f8.1 f8.2 ?_
                          obtain ⟨e9, E⟩ := gd_some E
                          refine ea_aload (pc := 123) dX11_post_123 8 rfl ?_
                          refine ea_aload_n (pc := 125) dX11_post_125 rfl 0 rfl ?_
                          refine ea_getI (pc := 126) dX11_post_126 ec_11 (k := 14) (Nat.le_of_ble_eq_true rfl) rfl (Or.inl ew_628) (cShC_0 hsw6).1 (cShC_0 hsw6).2.1 ?_
                          obtain ⟨f10, E⟩ := gd_some E
                          obtain ⟨H11, eH11, E⟩ := let_some E
                          refine ea_deref1 e9 ?_
                          refine ea_putI (pc := 129) dX11_post_129 ec_5 (k := 6) (Nat.le_of_ble_eq_true rfl) rfl (Or.inl ⟨rfl, Or.inl ew_524⟩) rfl rfl f10.1 f10.2 ?_
                          refine ea_nm eH11 ?_
                          have hsH11 : ShC H11 := by rw [eH11]; exact hsw6
                          obtain ⟨w12, Ew12, E⟩ := bd_some E
                          have hsw12 : ShC w12.2 := ShC_core ((kpX7_between _ _ _) _ Ew12) hsH11
                          refine ea_aload (pc := 132) dX11_post_132 8 rfl ?_
                          refine ea_aload_n (pc := 134) dX11_post_134 rfl 0 rfl ?_
                          refine ea_getR (pc := 135) dX11_post_135 ec_11 (k := 0) (Nat.le_of_ble_eq_true rfl) rfl (Or.inl ew_614) (cShC_0 hsH11).1 (cShC_0 hsH11).2.1 (rShC_0_0 hsH11) ?_
                          refine ea_iload_n (pc := 138) dX11_post_138 rfl 2 rfl ?_
                          refine ea_iload_n (pc := 139) dX11_post_139 rfl 3 rfl ?_
                          refine ea_callV (pc := 140) (d' := d - 1) (As := [vI x2, vI x3]) (st := [vR v5]) dX11_post_140 kX7_between (sX7_between (d := d - 1) (by omega) hsH11 Ew12) (by omega) rfl (Nat.le_of_ble_eq_true rfl) ew_692 ew_693 ew_694 (ci := 7) rfl (by decide) (cShC_1 hsH11).1 (cShC_1 hsH11).2.1 ?_
                          obtain ⟨e13, E⟩ := gd_some E
                          refine ea_iconst (pc := 143) dX11_post_143 (v := 0) rfl ?_
                          refine ea_mmaxI (pc := 144) dX11_post_144 ew_1073 ew_982 ew_119 ew_983 (by omega) (Nat.le_of_ble_eq_true rfl) ?_
                          obtain ⟨f14, E⟩ := gd_some E
                          obtain ⟨H15, eH15, E⟩ := let_some E
                          refine ea_deref1 e13 ?_
                          refine ea_putI (pc := 147) dX11_post_147 ec_5 (k := 7) (Nat.le_of_ble_eq_true rfl) rfl (Or.inl ⟨rfl, Or.inl ew_526⟩) rfl rfl f14.1 f14.2 ?_
                          refine ea_nm eH15 ?_
                          have hsH15 : ShC H15 := by rw [eH15]; exact hsw12
                          obtain ⟨w16, Ew16, E⟩ := bd_some E
                          have hsw16 : ShC w16.2 := ShC_core ((kpX7_isCross _ _ _) _ Ew16) hsH15
                          refine ea_aload (pc := 150) dX11_post_150 8 rfl ?_
                          refine ea_aload_n (pc := 152) dX11_post_152 rfl 0 rfl ?_
                          refine ea_getR (pc := 153) dX11_post_153 ec_11 (k := 0) (Nat.le_of_ble_eq_true rfl) rfl (Or.inl ew_614) (cShC_0 hsH15).1 (cShC_0 hsH15).2.1 (rShC_0_0 hsH15) ?_
                          refine ea_iload_n (pc := 156) dX11_post_156 rfl 2 rfl ?_
                          refine ea_iload_n (pc := 157) dX11_post_157 rfl 3 rfl ?_
                          refine ea_callV (pc := 158) (d' := d - 1) (As := [vI x2, vI x3]) (st := [vR v5]) dX11_post_158 kX7_isCross (sX7_isCross (d := d - 1) (by omega) hsH15 Ew16) (by omega) rfl (Nat.le_of_ble_eq_true rfl) ew_1074 ew_1075 ew_1076 (ci := 7) rfl (by decide) (cShC_1 hsH15).1 (cShC_1 hsH15).2.1 ?_
                          obtain ⟨e17, E⟩ := gd_some E
                          obtain ⟨f18, E⟩ := gd_some E
                          obtain ⟨z19, E⟩ := gd_some E
                          obtain ⟨H20, eH20, E⟩ := let_some E
                          refine ea_deref1 e17 ?_
                          refine ea_putI (pc := 161) dX11_post_161 ec_5 (k := 8) (Nat.le_of_ble_eq_true rfl) rfl (Or.inl ⟨rfl, Or.inl ew_528⟩) (ea_bn z19) (ea_bf z19) f18.1 f18.2 ?_
                          refine ea_nm eH20 ?_
                          have hsH20 : ShC H20 := by rw [eH20]; exact hsw16
                          obtain ⟨w21, Ew21, E⟩ := bd_some E
                          have hsw21 : ShC w21.2 := ShC_core ((kpX11_franksAhead _ _) _ Ew21) hsH20
                          refine ea_aload (pc := 164) dX11_post_164 8 rfl ?_
                          refine ea_aload_n (pc := 166) dX11_post_166 rfl 0 rfl ?_
                          refine ea_aload (pc := 167) dX11_post_167 8 rfl ?_
                          refine ea_callV (pc := 169) (d' := d - 1) (As := [vR v5]) (st := [vR v5]) dX11_post_169 kX11_franksAhead (sX11_franksAhead (d := d - 1) (by omega) hsH20 Ew21) (by omega) rfl (Nat.le_of_ble_eq_true rfl) ew_1078 ew_1080 ew_33 (ci := 11) rfl (by decide) (cShC_0 hsH20).1 (cShC_0 hsH20).2.1 ?_
                          obtain ⟨e22, E⟩ := gd_some E
                          obtain ⟨f23, E⟩ := gd_some E
                          obtain ⟨H24, eH24, E⟩ := let_some E
                          refine ea_deref1 e22 ?_
                          refine ea_putI (pc := 172) dX11_post_172 ec_5 (k := 9) (Nat.le_of_ble_eq_true rfl) rfl (Or.inl ⟨rfl, Or.inl ew_530⟩) rfl rfl f23.1 f23.2 ?_
                          refine ea_nm eH24 ?_
                          have hsH24 : ShC H24 := by rw [eH24]; exact hsw21
                          obtain ⟨w25, Ew25, E⟩ := bd_some E
                          have hsw25 : ShC w25.2 := ShC_core ((kpX8_price _ _) _ Ew25) hsH24
                          refine ea_aload_n (pc := 175) dX11_post_175 rfl 0 rfl ?_
                          refine ea_getR (pc := 176) dX11_post_176 ec_11 (k := 4) (Nat.le_of_ble_eq_true rfl) rfl (Or.inl ew_618) (cShC_0 hsH24).1 (cShC_0 hsH24).2.1 (rShC_0_4 hsH24) ?_
                          refine ea_aload (pc := 179) dX11_post_179 8 rfl ?_
                          refine ea_callV (pc := 181) (d' := d - 1) (As := [vR v5]) (st := []) dX11_post_181 kX8_price (sX8_price (d := d - 1) (by omega) hsH24 Ew25) (by omega) rfl (Nat.le_of_ble_eq_true rfl) ew_1086 ew_1087 ew_1088 (ci := 8) rfl (by decide) (cShC_23 hsH24).1 (cShC_23 hsH24).2.1 ?_
                          obtain ⟨w26, Ew26, E⟩ := bd_some E
                          have hsw26 : ShC w26.2 := ShC_core ((kpX1_begin_at52 _ _ _) _ Ew26) hsw25
                          refine ea_aload_n (pc := 184) dX11_post_184 rfl 0 rfl ?_
                          refine ea_getR (pc := 185) dX11_post_185 ec_11 (k := 7) (Nat.le_of_ble_eq_true rfl) rfl (Or.inl ew_621) (cShC_0 hsw25).1 (cShC_0 hsw25).2.1 (rShC_0_7 hsw25) ?_
                          refine ea_aload_n (pc := 188) dX11_post_188 rfl 0 rfl ?_
                          refine ea_getI (pc := 189) dX11_post_189 ec_11 (k := 14) (Nat.le_of_ble_eq_true rfl) rfl (Or.inl ew_628) (cShC_0 hsw25).1 (cShC_0 hsw25).2.1 ?_
                          refine ea_iload_n (pc := 192) dX11_post_192 rfl 2 rfl ?_
                          refine ea_callV (pc := 193) (d' := d - 1) (As := [vI (ea_i w25.2 0 14), vI x2]) (st := []) dX11_post_193 kX1_begin (sX1_begin_at52 (d := d - 1) (by omega) hsw25 Ew26) (by omega) rfl (Nat.le_of_ble_eq_true rfl) ew_1122 ew_1123 ew_1124 (ci := 1) rfl (by decide) (cShC_52 hsw25).1 (cShC_52 hsw25).2.1 ?_
                          obtain ⟨H27, eH27, E⟩ := let_some E
                          refine ea_aload_n (pc := 196) dX11_post_196 rfl 0 rfl ?_
                          refine ea_iconst (pc := 197) dX11_post_197 (v := 0) rfl ?_
                          refine ea_putI (pc := 198) dX11_post_198 ec_11 (k := 15) (Nat.le_of_ble_eq_true rfl) rfl (Or.inl ⟨rfl, Or.inl ew_629⟩) (ea_bn (Or.inl rfl)) (ea_bf (Or.inl rfl)) (cShC_0 hsw26).1 (cShC_0 hsw26).2.1 ?_
                          refine ea_nm eH27 ?_
                          have hsH27 : ShC H27 := by rw [eH27]; exact hsw26
                          refine ea_iload (pc := 201) dX11_post_201 7 rfl ?_
                          exact ea_iretO (pc := 203) dX11_post_203 rfl rfl E
                        · have E := (if_neg c28).symm.trans E
                          refine ea_iconst (pc := 89) dX11_post_89 (v := (-1)) rfl ?_
                          exact ea_iretO (pc := 90) dX11_post_90 rfl rfl E
                      · have E := (if_neg c29).symm.trans E
                        refine ea_iconst (pc := 75) dX11_post_75 (v := (-1)) rfl ?_
                        exact ea_iretO (pc := 76) dX11_post_76 rfl rfl E
          · have E := (if_pos c35).symm.trans E
            refine ea_iconst (pc := 36) dX11_post_36 (v := (-1)) rfl ?_
            exact ea_iretO (pc := 37) dX11_post_37 rfl rfl E
theorem kBX11_post_0  {x1 : Int32} {x2 : Int32} {x3 : Int32} {x4 : Int32} {x5 : Int32} {x6 : Int32} {h : ea_H} : kp (ea_core h) (BX11_post_0 x1 x2 x3 x4 x5 x6 h) :=
  (kp_ite (kp_ret rfl) (kp_ite (kp_ret rfl) (kp_bind (kp_tw (kpX7_has _ _) rfl) fun w1 hcw1 => (kp_ite (kp_ret hcw1) (kp_bind (kp_tw (kpX7_has _ _) hcw1) fun w2 hcw2 => (kp_ite (kp_ret hcw2) (kp_ite (kp_ret hcw2) (kp_ite (kp_ret hcw2) (kp_ite (kp_ret hcw2) (kp_ite (kp_ret hcw2) (kp_ite (kp_ret hcw2) (kp_ite (kp_ret hcw2) (kp_ite (kp_ite (kp_let (kp_gd (kp_let (kp_gd (kp_gd (kp_bind (kp_tw (kpX5_begin _ _ _ _ _ _ _ _) hcw2) fun w6 hcw6 => (kp_gd (kp_gd (kp_let (kp_bind (kp_tw (kpX7_between _ _ _) hcw6) fun w12 hcw12 => (kp_gd (kp_gd (kp_let (kp_bind (kp_tw (kpX7_isCross _ _ _) hcw12) fun w16 hcw16 => (kp_gd (kp_gd (kp_gd (kp_let (kp_bind (kp_tw (kpX11_franksAhead _ _) hcw16) fun w21 hcw21 => (kp_gd (kp_gd (kp_let (kp_bind (kp_tw (kpX8_price _ _) hcw21) fun w25 hcw25 => (kp_bind (kp_tw (kpX1_begin_at52 _ _ _) hcw25) fun w26 hcw26 => (kp_let (kp_ret hcw26)))))))))))))))))))))))))) (kp_ret hcw2)) (kp_ret hcw2))))))))))))))
noncomputable def qX11_post (x1 : Int32) (x2 : Int32) (x3 : Int32) (x4 : Int32) (x5 : Int32) (x6 : Int32) (h : ea_H) : Option (Int32 × ea_H) := BX11_post_0 x1 x2 x3 x4 x5 x6 h
theorem sX11_post {d : Nat} {x1 : Int32} {x2 : Int32} {x3 : Int32} {x4 : Int32} {x5 : Int32} {x6 : Int32} {h : ea_H} {r : Int32} {h' : ea_H} (hd : 6 ≤ d) (hs : ShC h) (K : qX11_post x1 x2 x3 x4 x5 x6 h = some (r, h')) : ea_Met mX11_post d [vR (some 0), vI x1, vI x2, vI x3, vI x4, vI x5, vI x6] h (some (vI r)) h' := by
  unfold qX11_post at K
  have W := tBX11_post_0 hd (h0 := h) K hs
  exact ea_enter rfl (Nat.le_of_ble_eq_true rfl) W
theorem kpX11_post (x1 : Int32) (x2 : Int32) (x3 : Int32) (x4 : Int32) (x5 : Int32) (x6 : Int32) (h : ea_H) : kp (ea_core h) (qX11_post x1 x2 x3 x4 x5 x6 h) := kBX11_post_0
noncomputable def BX11_lead_0 (x1 : Int32) (x2 : Int32) (x3 : Int32) (h : ea_H) : Option (Int32 × ea_H) :=
  (Option.bind (qX11_letterOf (x1 : Int32) h) fun w1 => (if w1.1 = none then (some (((-1) : Int32), w1.2)) else (if x2 < (0 : Int32) then (some (((-1) : Int32), w1.2)) else (gd (w1.1 = some (Option.getD w1.1 0)) (gd (((Option.getD w1.1 0) < ea_n w1.2 ∧ ea_c w1.2 (Option.getD w1.1 0) = 5)) (if x2 < (ea_i w1.2 (Option.getD w1.1 0) 16) then (Option.bind (qX4_rowOf (x1 : Int32) (x2 : Int32) ((ea_i w1.2 0 14) : Int32) w1.2) fun w4 => (if Int32.toInt x3 = 0 then (Option.bind (qX5_minuteOf (w4.1 : Int32) w4.2) fun w7 => (some (w7.1, w7.2))) else (if Int32.toInt x3 = 1 then (Option.bind (qX5_stateOf (w4.1 : Int32) w4.2) fun w6 => (some (w6.1, w6.2))) else (if Int32.toInt x3 = 2 then (Option.bind (qX5_placeOf (w4.1 : Int32) w4.2) fun w5 => (some (w5.1, w5.2))) else (some (((-1) : Int32), w4.2)))))) else (some (((-1) : Int32), w1.2))))))))
theorem tBX11_lead_0 {d : Nat} {h0 : ea_H} (hd : 7 ≤ d)  {x1 : Int32} {x2 : Int32} {x3 : Int32} {h : ea_H} {r : Int32} {h' : ea_H} (E : BX11_lead_0 x1 x2 x3 h = some (r, h')) (hs : ShC h) : ea_W mX11_lead d h0 (some (vI r)) h' 0 [(0, vR (some 0)), (1, vI x1), (2, vI x2), (3, vI x3)] [] h := by
  unfold BX11_lead_0 at E
  obtain ⟨w1, Ew1, E⟩ := bd_some E
  have hsw1 : ShC w1.2 := ShC_core ((kpX11_letterOf _ _) _ Ew1) hs
  refine ea_aload_n (pc := 0) dX11_lead_0 rfl 0 rfl ?_
  refine ea_iload_n (pc := 1) dX11_lead_1 rfl 1 rfl ?_
  refine ea_callV (pc := 2) (d' := d - 1) (As := [vI x1]) (st := []) dX11_lead_2 kX11_letterOf (sX11_letterOf (d := d - 1) (by omega) hs Ew1) (by omega) rfl (Nat.le_of_ble_eq_true rfl) ew_1130 ew_1132 ew_37 (ci := 11) rfl (by decide) (cShC_0 hs).1 (cShC_0 hs).2.1 ?_
  refine ea_astore (pc := 5) (lv' := [(0, vR (some 0)), (1, vI x1), (2, vI x2), (3, vI x3), (4, vR w1.1)]) dX11_lead_5 (Nat.le_of_ble_eq_true rfl) [1, 2, 3, 4, 0] rfl ?_
  refine ea_aload (pc := 7) dX11_lead_7 4 rfl ?_
  refine ea_ifnull (pc := 9) (tgt := 25) dX11_lead_9 rfl (fun c10 => ?_) (fun a11 c10 => ?_)
  · have E := (if_pos c10).symm.trans E
    refine ea_iconst (pc := 25) dX11_lead_25 (v := (-1)) rfl ?_
    exact ea_iretO (pc := 26) dX11_lead_26 rfl rfl E
  · have c10n : ¬ w1.1 = none := by rw [c10]; exact fun q => nomatch q
    have E := (if_neg c10n).symm.trans E
    refine ea_iload_n (pc := 12) dX11_lead_12 rfl 2 rfl ?_
    refine ea_if_lt (pc := 13) (tgt := 25) dX11_lead_13 rfl (fun c9 => ?_) (fun c9 => ?_)
    · have E := (if_pos c9).symm.trans E
      refine ea_iconst (pc := 25) dX11_lead_25 (v := (-1)) rfl ?_
      exact ea_iretO (pc := 26) dX11_lead_26 rfl rfl E
    · have E := (if_neg c9).symm.trans E
      obtain ⟨e2, E⟩ := gd_some E
      refine ea_iload_n (pc := 16) dX11_lead_16 rfl 2 rfl ?_
      refine ea_aload (pc := 17) dX11_lead_17 4 rfl ?_
      obtain ⟨f3, E⟩ := gd_some E
      refine ea_deref0 e2 ?_
      refine ea_getI (pc := 19) dX11_lead_19 ec_5 (k := 16) (Nat.le_of_ble_eq_true rfl) rfl (Or.inl ew_549) f3.1 f3.2 ?_
      refine ea_icmp_lt (pc := 22) (tgt := 27) dX11_lead_22 rfl (fun c8 => ?_) (fun c8 => ?_)
      · have E := (if_pos c8).symm.trans E
        obtain ⟨w4, Ew4, E⟩ := bd_some E
        have hsw4 : ShC w4.2 := ShC_core ((kpX4_rowOf _ _ _ _) _ Ew4) hsw1
        refine ea_aload_n (pc := 27) dX11_lead_27 rfl 0 rfl ?_
        refine ea_getR (pc := 28) dX11_lead_28 ec_11 (k := 6) (Nat.le_of_ble_eq_true rfl) rfl (Or.inl ew_620) (cShC_0 hsw1).1 (cShC_0 hsw1).2.1 (rShC_0_6 hsw1) ?_
        refine ea_iload_n (pc := 31) dX11_lead_31 rfl 1 rfl ?_
        refine ea_iload_n (pc := 32) dX11_lead_32 rfl 2 rfl ?_
        refine ea_aload_n (pc := 33) dX11_lead_33 rfl 0 rfl ?_
        refine ea_getI (pc := 34) dX11_lead_34 ec_11 (k := 14) (Nat.le_of_ble_eq_true rfl) rfl (Or.inl ew_628) (cShC_0 hsw1).1 (cShC_0 hsw1).2.1 ?_
        refine ea_callV (pc := 37) (d' := d - 1) (As := [vI x1, vI x2, vI (ea_i w1.2 0 14)]) (st := []) dX11_lead_37 kX4_rowOf (sX4_rowOf (d := d - 1) (by omega) hsw1 Ew4) (by omega) rfl (Nat.le_of_ble_eq_true rfl) ew_1173 ew_1174 ew_1175 (ci := 4) rfl (by decide) (cShC_50 hsw1).1 (cShC_50 hsw1).2.1 ?_
        refine ea_istore (pc := 40) (lv' := [(3, vI x3), (5, vI w4.1)]) dX11_lead_40 (Nat.le_of_ble_eq_true rfl) [4, 0] rfl ?_
        refine ea_iload_n (pc := 42) dX11_lead_42 rfl 0 rfl ?_
        by_cases q43_0 : Int32.toInt x3 = 0
        · have E := (if_pos q43_0).symm.trans E
          obtain ⟨w7, Ew7, E⟩ := bd_some E
          have hsw7 : ShC w7.2 := ShC_core ((kpX5_minuteOf _ _) _ Ew7) hsw4
          refine ea_tswIn (pc := 43) (tgt := 68) dX11_lead_43 (by rw [q43_0]; decide) (by rw [q43_0]; decide) (by rw [q43_0]; rfl) rfl ?_
          refine ea_iload (pc := 68) dX11_lead_68 1 rfl ?_
          refine ea_callS (pc := 70) (d' := d - 1) (As := [vI w4.1]) (st := []) dX11_lead_70 kX5_minuteOf (sX5_minuteOf (d := d - 1) (by omega) Ew7) (by omega) rfl (Nat.le_of_ble_eq_true rfl) ew_1197 ew_1178 ?_
          exact ea_iretO (pc := 73) dX11_lead_73 rfl rfl E
        have E := (if_neg q43_0).symm.trans E
        by_cases q43_1 : Int32.toInt x3 = 1
        · have E := (if_pos q43_1).symm.trans E
          obtain ⟨w6, Ew6, E⟩ := bd_some E
          have hsw6 : ShC w6.2 := ShC_core ((kpX5_stateOf _ _) _ Ew6) hsw4
          refine ea_tswIn (pc := 43) (tgt := 74) dX11_lead_43 (by rw [q43_1]; decide) (by rw [q43_1]; decide) (by rw [q43_1]; rfl) rfl ?_
          refine ea_iload (pc := 74) dX11_lead_74 1 rfl ?_
          refine ea_callS (pc := 76) (d' := d - 1) (As := [vI w4.1]) (st := []) dX11_lead_76 kX5_stateOf (sX5_stateOf (d := d - 1) (by omega) Ew6) (by omega) rfl (Nat.le_of_ble_eq_true rfl) ew_1198 ew_1199 ?_
          exact ea_iretO (pc := 79) dX11_lead_79 rfl rfl E
        have E := (if_neg q43_1).symm.trans E
        by_cases q43_2 : Int32.toInt x3 = 2
        · have E := (if_pos q43_2).symm.trans E
          obtain ⟨w5, Ew5, E⟩ := bd_some E
          have hsw5 : ShC w5.2 := ShC_core ((kpX5_placeOf _ _) _ Ew5) hsw4
          refine ea_tswIn (pc := 43) (tgt := 80) dX11_lead_43 (by rw [q43_2]; decide) (by rw [q43_2]; decide) (by rw [q43_2]; rfl) rfl ?_
          refine ea_iload (pc := 80) dX11_lead_80 1 rfl ?_
          refine ea_callS (pc := 82) (d' := d - 1) (As := [vI w4.1]) (st := []) dX11_lead_82 kX5_placeOf (sX5_placeOf (d := d - 1) (by omega) Ew5) (by omega) rfl (Nat.le_of_ble_eq_true rfl) ew_1201 ew_1202 ?_
          exact ea_iretO (pc := 85) dX11_lead_85 rfl rfl E
        have E := (if_neg q43_2).symm.trans E
        refine ea_tswOut (pc := 43) (tgt := 86) dX11_lead_43 (ea_sw_0_2 q43_0 q43_1 q43_2) rfl ?_
        refine ea_iconst (pc := 86) dX11_lead_86 (v := (-1)) rfl ?_
        exact ea_iretO (pc := 87) dX11_lead_87 rfl rfl E
      · have E := (if_neg c8).symm.trans E
        refine ea_iconst (pc := 25) dX11_lead_25 (v := (-1)) rfl ?_
        exact ea_iretO (pc := 26) dX11_lead_26 rfl rfl E
theorem kBX11_lead_0  {x1 : Int32} {x2 : Int32} {x3 : Int32} {h : ea_H} : kp (ea_core h) (BX11_lead_0 x1 x2 x3 h) :=
  (kp_bind (kp_tw (kpX11_letterOf _ _) rfl) fun w1 hcw1 => (kp_ite (kp_ret hcw1) (kp_ite (kp_ret hcw1) (kp_gd (kp_gd (kp_ite (kp_bind (kp_tw (kpX4_rowOf _ _ _ _) hcw1) fun w4 hcw4 => (kp_ite (kp_bind (kp_tw (kpX5_minuteOf _ _) hcw4) fun w7 hcw7 => (kp_ret hcw7)) (kp_ite (kp_bind (kp_tw (kpX5_stateOf _ _) hcw4) fun w6 hcw6 => (kp_ret hcw6)) (kp_ite (kp_bind (kp_tw (kpX5_placeOf _ _) hcw4) fun w5 hcw5 => (kp_ret hcw5)) (kp_ret hcw4))))) (kp_ret hcw1)))))))
noncomputable def qX11_lead (x1 : Int32) (x2 : Int32) (x3 : Int32) (h : ea_H) : Option (Int32 × ea_H) := BX11_lead_0 x1 x2 x3 h
theorem sX11_lead {d : Nat} {x1 : Int32} {x2 : Int32} {x3 : Int32} {h : ea_H} {r : Int32} {h' : ea_H} (hd : 7 ≤ d) (hs : ShC h) (K : qX11_lead x1 x2 x3 h = some (r, h')) : ea_Met mX11_lead d [vR (some 0), vI x1, vI x2, vI x3] h (some (vI r)) h' := by
  unfold qX11_lead at K
  have W := tBX11_lead_0 hd (h0 := h) K hs
  exact ea_enter rfl (Nat.le_of_ble_eq_true rfl) W
theorem kpX11_lead (x1 : Int32) (x2 : Int32) (x3 : Int32) (h : ea_H) : kp (ea_core h) (qX11_lead x1 x2 x3 h) := kBX11_lead_0
noncomputable def BX11_where_0 (x1 : Int32) (x2 : Int32) (x3 : Int32) (h : ea_H) : Option (Int32 × ea_H) :=
  (Option.bind (qX11_letterOf (x1 : Int32) h) fun w1 => (if w1.1 = none then (some (((-1) : Int32), w1.2)) else (gd (w1.1 = some (Option.getD w1.1 0)) (gd (((Option.getD w1.1 0) < ea_n w1.2 ∧ ea_c w1.2 (Option.getD w1.1 0) = 5)) (if x2 < (ea_i w1.2 (Option.getD w1.1 0) 6) then (some (((-1) : Int32), w1.2)) else (if x2 ≤ (ea_i w1.2 0 14) then (gd (w1.1 = some (Option.getD w1.1 0)) (gd (((Option.getD w1.1 0) < ea_n w1.2 ∧ ea_c w1.2 (Option.getD w1.1 0) = 5)) (Option.bind (qX4_rowOf (x1 : Int32) (((ea_i w1.2 (Option.getD w1.1 0) 16) - (1 : Int32)) : Int32) (x2 : Int32) w1.2) fun w6 => (if Int32.toInt x3 = 0 then (Option.bind (qX5_stateOf (w6.1 : Int32) w6.2) fun w8 => (some (w8.1, w8.2))) else (if Int32.toInt x3 = 1 then (Option.bind (qX5_placeOf (w6.1 : Int32) w6.2) fun w7 => (some (w7.1, w7.2))) else (some (((-1) : Int32), w6.2))))))) else (some (((-1) : Int32), w1.2))))))))
theorem tBX11_where_0 {d : Nat} {h0 : ea_H} (hd : 7 ≤ d)  {x1 : Int32} {x2 : Int32} {x3 : Int32} {h : ea_H} {r : Int32} {h' : ea_H} (E : BX11_where_0 x1 x2 x3 h = some (r, h')) (hs : ShC h) : ea_W mX11_where d h0 (some (vI r)) h' 0 [(0, vR (some 0)), (1, vI x1), (2, vI x2), (3, vI x3)] [] h := by
  unfold BX11_where_0 at E
  obtain ⟨w1, Ew1, E⟩ := bd_some E
  have hsw1 : ShC w1.2 := ShC_core ((kpX11_letterOf _ _) _ Ew1) hs
  refine ea_aload_n (pc := 0) dX11_where_0 rfl 0 rfl ?_
  refine ea_iload_n (pc := 1) dX11_where_1 rfl 1 rfl ?_
  refine ea_callV (pc := 2) (d' := d - 1) (As := [vI x1]) (st := []) dX11_where_2 kX11_letterOf (sX11_letterOf (d := d - 1) (by omega) hs Ew1) (by omega) rfl (Nat.le_of_ble_eq_true rfl) ew_1130 ew_1132 ew_37 (ci := 11) rfl (by decide) (cShC_0 hs).1 (cShC_0 hs).2.1 ?_
  refine ea_astore (pc := 5) (lv' := [(0, vR (some 0)), (1, vI x1), (2, vI x2), (3, vI x3), (4, vR w1.1)]) dX11_where_5 (Nat.le_of_ble_eq_true rfl) [1, 2, 3, 4, 0] rfl ?_
  refine ea_aload (pc := 7) dX11_where_7 4 rfl ?_
  refine ea_ifnull (pc := 9) (tgt := 29) dX11_where_9 rfl (fun c11 => ?_) (fun a12 c11 => ?_)
  · have E := (if_pos c11).symm.trans E
    refine ea_iconst (pc := 29) dX11_where_29 (v := (-1)) rfl ?_
    exact ea_iretO (pc := 30) dX11_where_30 rfl rfl E
  · have c11n : ¬ w1.1 = none := by rw [c11]; exact fun q => nomatch q
    have E := (if_neg c11n).symm.trans E
    obtain ⟨e2, E⟩ := gd_some E
    refine ea_iload_n (pc := 12) dX11_where_12 rfl 2 rfl ?_
    refine ea_aload (pc := 13) dX11_where_13 4 rfl ?_
    obtain ⟨f3, E⟩ := gd_some E
    refine ea_deref0 e2 ?_
    refine ea_getI (pc := 15) dX11_where_15 ec_5 (k := 6) (Nat.le_of_ble_eq_true rfl) rfl (Or.inl ew_524) f3.1 f3.2 ?_
    refine ea_icmp_lt (pc := 18) (tgt := 29) dX11_where_18 rfl (fun c10 => ?_) (fun c10 => ?_)
    · have E := (if_pos c10).symm.trans E
      refine ea_iconst (pc := 29) dX11_where_29 (v := (-1)) rfl ?_
      exact ea_iretO (pc := 30) dX11_where_30 rfl rfl E
    · have E := (if_neg c10).symm.trans E
      refine ea_iload_n (pc := 21) dX11_where_21 rfl 2 rfl ?_
      refine ea_aload_n (pc := 22) dX11_where_22 rfl 0 rfl ?_
      refine ea_getI (pc := 23) dX11_where_23 ec_11 (k := 14) (Nat.le_of_ble_eq_true rfl) rfl (Or.inl ew_628) (cShC_0 hsw1).1 (cShC_0 hsw1).2.1 ?_
      refine ea_icmp_le (pc := 26) (tgt := 31) dX11_where_26 rfl (fun c9 => ?_) (fun c9 => ?_)
      · have E := (if_pos c9).symm.trans E
        obtain ⟨e4, E⟩ := gd_some E
        refine ea_aload_n (pc := 31) dX11_where_31 rfl 0 rfl ?_
        refine ea_getR (pc := 32) dX11_where_32 ec_11 (k := 6) (Nat.le_of_ble_eq_true rfl) rfl (Or.inl ew_620) (cShC_0 hsw1).1 (cShC_0 hsw1).2.1 (rShC_0_6 hsw1) ?_
        refine ea_iload_n (pc := 35) dX11_where_35 rfl 1 rfl ?_
        refine ea_aload (pc := 36) dX11_where_36 4 rfl ?_
        obtain ⟨f5, E⟩ := gd_some E
        obtain ⟨w6, Ew6, E⟩ := bd_some E
        have hsw6 : ShC w6.2 := ShC_core ((kpX4_rowOf _ _ _ _) _ Ew6) hsw1
        refine ea_deref0 e4 ?_
        refine ea_getI (pc := 38) dX11_where_38 ec_5 (k := 16) (Nat.le_of_ble_eq_true rfl) rfl (Or.inl ew_549) f5.1 f5.2 ?_
        refine ea_iconst (pc := 41) dX11_where_41 (v := 1) rfl ?_
        refine ea_isub (pc := 42) dX11_where_42 ?_
        refine ea_iload_n (pc := 43) dX11_where_43 rfl 2 rfl ?_
        refine ea_callV (pc := 44) (d' := d - 1) (As := [vI x1, vI ((ea_i w1.2 (Option.getD w1.1 0) 16) - (1 : Int32)), vI x2]) (st := []) dX11_where_44 kX4_rowOf (sX4_rowOf (d := d - 1) (by omega) hsw1 Ew6) (by omega) rfl (Nat.le_of_ble_eq_true rfl) ew_1173 ew_1174 ew_1175 (ci := 4) rfl (by decide) (cShC_50 hsw1).1 (cShC_50 hsw1).2.1 ?_
        refine ea_istore (pc := 47) (lv' := [(3, vI x3), (5, vI w6.1)]) dX11_where_47 (Nat.le_of_ble_eq_true rfl) [4, 0] rfl ?_
        refine ea_iload_n (pc := 49) dX11_where_49 rfl 0 rfl ?_
        by_cases q50_0 : Int32.toInt x3 = 0
        · have E := (if_pos q50_0).symm.trans E
          obtain ⟨w8, Ew8, E⟩ := bd_some E
          have hsw8 : ShC w8.2 := ShC_core ((kpX5_stateOf _ _) _ Ew8) hsw6
          refine ea_lsw (pc := 50) (tgt := 76) (off := 26) dX11_where_50 (by decide) (by rw [q50_0]; rfl) rfl ?_
          refine ea_iload (pc := 76) dX11_where_76 1 rfl ?_
          refine ea_callS (pc := 78) (d' := d - 1) (As := [vI w6.1]) (st := []) dX11_where_78 kX5_stateOf (sX5_stateOf (d := d - 1) (by omega) Ew8) (by omega) rfl (Nat.le_of_ble_eq_true rfl) ew_1198 ew_1199 ?_
          exact ea_iretO (pc := 81) dX11_where_81 rfl rfl E
        have E := (if_neg q50_0).symm.trans E
        by_cases q50_1 : Int32.toInt x3 = 1
        · have E := (if_pos q50_1).symm.trans E
          obtain ⟨w7, Ew7, E⟩ := bd_some E
          have hsw7 : ShC w7.2 := ShC_core ((kpX5_placeOf _ _) _ Ew7) hsw6
          refine ea_lsw (pc := 50) (tgt := 82) (off := 32) dX11_where_50 (by decide) (by rw [q50_1]; rfl) rfl ?_
          refine ea_iload (pc := 82) dX11_where_82 1 rfl ?_
          refine ea_callS (pc := 84) (d' := d - 1) (As := [vI w6.1]) (st := []) dX11_where_84 kX5_placeOf (sX5_placeOf (d := d - 1) (by omega) Ew7) (by omega) rfl (Nat.le_of_ble_eq_true rfl) ew_1201 ew_1202 ?_
          exact ea_iretO (pc := 87) dX11_where_87 rfl rfl E
        have E := (if_neg q50_1).symm.trans E
        refine ea_lsw (pc := 50) (tgt := 88) (off := 38) dX11_where_50 (by decide) (by show (if (0 : Int) = Int32.toInt x3 then (26 : Int) else if (1 : Int) = Int32.toInt x3 then (32 : Int) else (38 : Int)) = 38; rw [if_neg (fun h => q50_0 h.symm), if_neg (fun h => q50_1 h.symm)]) rfl ?_
        refine ea_iconst (pc := 88) dX11_where_88 (v := (-1)) rfl ?_
        exact ea_iretO (pc := 89) dX11_where_89 rfl rfl E
      · have E := (if_neg c9).symm.trans E
        refine ea_iconst (pc := 29) dX11_where_29 (v := (-1)) rfl ?_
        exact ea_iretO (pc := 30) dX11_where_30 rfl rfl E
theorem kBX11_where_0  {x1 : Int32} {x2 : Int32} {x3 : Int32} {h : ea_H} : kp (ea_core h) (BX11_where_0 x1 x2 x3 h) :=
  (kp_bind (kp_tw (kpX11_letterOf _ _) rfl) fun w1 hcw1 => (kp_ite (kp_ret hcw1) (kp_gd (kp_gd (kp_ite (kp_ret hcw1) (kp_ite (kp_gd (kp_gd (kp_bind (kp_tw (kpX4_rowOf _ _ _ _) hcw1) fun w6 hcw6 => (kp_ite (kp_bind (kp_tw (kpX5_stateOf _ _) hcw6) fun w8 hcw8 => (kp_ret hcw8)) (kp_ite (kp_bind (kp_tw (kpX5_placeOf _ _) hcw6) fun w7 hcw7 => (kp_ret hcw7)) (kp_ret hcw6)))))) (kp_ret hcw1)))))))
noncomputable def qX11_where (x1 : Int32) (x2 : Int32) (x3 : Int32) (h : ea_H) : Option (Int32 × ea_H) := BX11_where_0 x1 x2 x3 h
theorem sX11_where {d : Nat} {x1 : Int32} {x2 : Int32} {x3 : Int32} {h : ea_H} {r : Int32} {h' : ea_H} (hd : 7 ≤ d) (hs : ShC h) (K : qX11_where x1 x2 x3 h = some (r, h')) : ea_Met mX11_where d [vR (some 0), vI x1, vI x2, vI x3] h (some (vI r)) h' := by
  unfold qX11_where at K
  have W := tBX11_where_0 hd (h0 := h) K hs
  exact ea_enter rfl (Nat.le_of_ble_eq_true rfl) W
theorem kpX11_where (x1 : Int32) (x2 : Int32) (x3 : Int32) (h : ea_H) : kp (ea_core h) (qX11_where x1 x2 x3 h) := kBX11_where_0
noncomputable def BX11_outcome_0 (h : ea_H) : Option (Int32 × ea_H) :=
  (Option.bind (qX10_refresh  h) fun w1 => (Option.bind (qX1_copy_at62 ((some 52) : Option Nat) w1.2) fun w2 => (Option.bind (qX1_carry_at62 ((ea_i w2.2 0 14) : Int32) (10079 : Int32) w2.2) fun w3 => (Option.bind (qX1_sumOfMinutes_at62  w3.2) fun w4 => (some (w4.1, w4.2))))))
theorem tBX11_outcome_0 {d : Nat} {h0 : ea_H} (hd : 6 ≤ d)  {h : ea_H} {r : Int32} {h' : ea_H} (E : BX11_outcome_0 h = some (r, h')) (hs : ShC h) : ea_W mX11_outcome d h0 (some (vI r)) h' 0 [(0, vR (some 0))] [] h := by
  unfold BX11_outcome_0 at E
  obtain ⟨w1, Ew1, E⟩ := bd_some E
  have hsw1 : ShC w1.2 := ShC_core ((kpX10_refresh _) _ Ew1) hs
  refine ea_aload_n (pc := 0) dX11_outcome_0 rfl 0 rfl ?_
  refine ea_getR (pc := 1) dX11_outcome_1 ec_11 (k := 2) (Nat.le_of_ble_eq_true rfl) rfl (Or.inl ew_616) (cShC_0 hs).1 (cShC_0 hs).2.1 (rShC_0_2 hs) ?_
  refine ea_callV (pc := 4) (d' := d - 1) (As := []) (st := []) dX11_outcome_4 kX10_refresh (sX10_refresh (d := d - 1) (by omega) hs Ew1) (by omega) rfl (Nat.le_of_ble_eq_true rfl) ew_749 ew_750 ew_751 (ci := 10) rfl (by decide) (cShC_13 hs).1 (cShC_13 hs).2.1 ?_
  obtain ⟨w2, Ew2, E⟩ := bd_some E
  have hsw2 : ShC w2.2 := ShC_core ((kpX1_copy_at62 _ _) _ Ew2) hsw1
  refine ea_aload_n (pc := 7) dX11_outcome_7 rfl 0 rfl ?_
  refine ea_getR (pc := 8) dX11_outcome_8 ec_11 (k := 8) (Nat.le_of_ble_eq_true rfl) rfl (Or.inl ew_622) (cShC_0 hsw1).1 (cShC_0 hsw1).2.1 (rShC_0_8 hsw1) ?_
  refine ea_aload_n (pc := 11) dX11_outcome_11 rfl 0 rfl ?_
  refine ea_getR (pc := 12) dX11_outcome_12 ec_11 (k := 7) (Nat.le_of_ble_eq_true rfl) rfl (Or.inl ew_621) (cShC_0 hsw1).1 (cShC_0 hsw1).2.1 (rShC_0_7 hsw1) ?_
  refine ea_callV (pc := 15) (d' := d - 1) (As := [vR (some 52)]) (st := []) dX11_outcome_15 kX1_copy (sX1_copy_at62 (d := d - 1) (by omega) hsw1 Ew2) (by omega) rfl (Nat.le_of_ble_eq_true rfl) ew_1377 ew_1378 ew_1379 (ci := 1) rfl (by decide) (cShC_62 hsw1).1 (cShC_62 hsw1).2.1 ?_
  obtain ⟨w3, Ew3, E⟩ := bd_some E
  have hsw3 : ShC w3.2 := ShC_core ((kpX1_carry_at62 _ _ _) _ Ew3) hsw2
  refine ea_aload_n (pc := 18) dX11_outcome_18 rfl 0 rfl ?_
  refine ea_getR (pc := 19) dX11_outcome_19 ec_11 (k := 8) (Nat.le_of_ble_eq_true rfl) rfl (Or.inl ew_622) (cShC_0 hsw2).1 (cShC_0 hsw2).2.1 (rShC_0_8 hsw2) ?_
  refine ea_aload_n (pc := 22) dX11_outcome_22 rfl 0 rfl ?_
  refine ea_getI (pc := 23) dX11_outcome_23 ec_11 (k := 14) (Nat.le_of_ble_eq_true rfl) rfl (Or.inl ew_628) (cShC_0 hsw2).1 (cShC_0 hsw2).2.1 ?_
  refine ea_sipush (pc := 26) dX11_outcome_26 (v := 10079) rfl ?_
  refine ea_callV (pc := 29) (d' := d - 1) (As := [vI (ea_i w2.2 0 14), vI 10079]) (st := []) dX11_outcome_29 kX1_carry (sX1_carry_at62 (d := d - 1) (by omega) hsw2 Ew3) (by omega) rfl (Nat.le_of_ble_eq_true rfl) ew_833 ew_834 ew_835 (ci := 1) rfl (by decide) (cShC_62 hsw2).1 (cShC_62 hsw2).2.1 ?_
  obtain ⟨w4, Ew4, E⟩ := bd_some E
  have hsw4 : ShC w4.2 := ShC_core ((kpX1_sumOfMinutes_at62 _) _ Ew4) hsw3
  refine ea_aload_n (pc := 32) dX11_outcome_32 rfl 0 rfl ?_
  refine ea_getR (pc := 33) dX11_outcome_33 ec_11 (k := 8) (Nat.le_of_ble_eq_true rfl) rfl (Or.inl ew_622) (cShC_0 hsw3).1 (cShC_0 hsw3).2.1 (rShC_0_8 hsw3) ?_
  refine ea_callV (pc := 36) (d' := d - 1) (As := []) (st := []) dX11_outcome_36 kX1_sumOfMinutes (sX1_sumOfMinutes_at62 (d := d - 1) (by omega) hsw3 Ew4) (by omega) rfl (Nat.le_of_ble_eq_true rfl) ew_1382 ew_1383 ew_1384 (ci := 1) rfl (by decide) (cShC_62 hsw3).1 (cShC_62 hsw3).2.1 ?_
  exact ea_iretO (pc := 39) dX11_outcome_39 rfl rfl E
theorem kBX11_outcome_0  {h : ea_H} : kp (ea_core h) (BX11_outcome_0 h) :=
  (kp_bind (kp_tw (kpX10_refresh _) rfl) fun w1 hcw1 => (kp_bind (kp_tw (kpX1_copy_at62 _ _) hcw1) fun w2 hcw2 => (kp_bind (kp_tw (kpX1_carry_at62 _ _ _) hcw2) fun w3 hcw3 => (kp_bind (kp_tw (kpX1_sumOfMinutes_at62 _) hcw3) fun w4 hcw4 => (kp_ret hcw4)))))
noncomputable def qX11_outcome (h : ea_H) : Option (Int32 × ea_H) := BX11_outcome_0 h
theorem sX11_outcome {d : Nat} {h : ea_H} {r : Int32} {h' : ea_H} (hd : 6 ≤ d) (hs : ShC h) (K : qX11_outcome h = some (r, h')) : ea_Met mX11_outcome d [vR (some 0)] h (some (vI r)) h' := by
  unfold qX11_outcome at K
  have W := tBX11_outcome_0 hd (h0 := h) K hs
  exact ea_enter rfl (Nat.le_of_ble_eq_true rfl) W
theorem kpX11_outcome (h : ea_H) : kp (ea_core h) (qX11_outcome h) := kBX11_outcome_0
noncomputable def BX11_seekSeats_0 (J53 : Int32 → Int32 → Int32 → Int32 → ea_H → Option (Unit × ea_H)) (h : ea_H) : Option (Unit × ea_H) :=
  (if (ea_i h 18 0) ≤ (1 : Int32) then (ea_let (ea_wi h 0 16 1209601) fun H1 => (J53 ((ea_i h 19 0) : Int32) ((ea_i h 19 1) : Int32) (1 : Int32) (0 : Int32) H1)) else (ea_let (ea_wi h 0 16 1209601) fun H2 => (J53 ((ea_i h 19 0) : Int32) ((ea_i h 19 1) : Int32) ((ea_i h 5 0) : Int32) (0 : Int32) H2)))
theorem tBX11_seekSeats_0 {d : Nat} {h0 : ea_H} (hd : 7 ≤ d) {J53 : Int32 → Int32 → Int32 → Int32 → ea_H → Option (Unit × ea_H)}  (kJ53 : ∀ (x1 : Int32) (x2 : Int32) (x3 : Int32) (x4 : Int32) (h : ea_H) (r : Unit) (h' : ea_H), J53 x1 x2 x3 x4 h = some (r, h') → ShC h → ea_W mX11_seekSeats d h0 none h' 53 [(0, vR (some 0)), (1, vI x1), (2, vI x2), (3, vI x3), (4, vI x4)] [] h) {h : ea_H} {r : Unit} {h' : ea_H} (E : BX11_seekSeats_0 J53 h = some (r, h')) (hs : ShC h) : ea_W mX11_seekSeats d h0 none h' 0 [(0, vR (some 0))] [] h := by
  unfold BX11_seekSeats_0 at E
  refine ea_aload_n (pc := 0) dX11_seekSeats_0 rfl 0 rfl ?_
  refine ea_getR (pc := 1) dX11_seekSeats_1 ec_11 (k := 3) (Nat.le_of_ble_eq_true rfl) rfl (Or.inl ew_617) (cShC_0 hs).1 (cShC_0 hs).2.1 (rShC_0_3 hs) ?_
  refine ea_getR (pc := 4) dX11_seekSeats_4 ec_3 (k := 1) (Nat.le_of_ble_eq_true rfl) rfl (Or.inl ew_267) (cShC_18 hs).1 (cShC_18 hs).2.1 (rShC_18_1 hs) ?_
  refine ea_iconst (pc := 7) dX11_seekSeats_7 (v := 0) rfl ?_
  refine ea_iald (pc := 8) dX11_seekSeats_8 (cShC_19 hs).1 (cShC_19 hs).2.1 (ea_vpl (n := 8) (cShC_19 hs).2.2 (by unfold vp_in; decide)) ?_
  refine ea_istore_n (pc := 9) (lv' := [(0, vR (some 0)), (1, vI (ea_i h 19 0))]) dX11_seekSeats_9 rfl (Nat.le_of_ble_eq_true rfl) [1, 0] rfl ?_
  refine ea_aload_n (pc := 10) dX11_seekSeats_10 rfl 0 rfl ?_
  refine ea_getR (pc := 11) dX11_seekSeats_11 ec_11 (k := 3) (Nat.le_of_ble_eq_true rfl) rfl (Or.inl ew_617) (cShC_0 hs).1 (cShC_0 hs).2.1 (rShC_0_3 hs) ?_
  refine ea_getR (pc := 14) dX11_seekSeats_14 ec_3 (k := 1) (Nat.le_of_ble_eq_true rfl) rfl (Or.inl ew_267) (cShC_18 hs).1 (cShC_18 hs).2.1 (rShC_18_1 hs) ?_
  refine ea_iconst (pc := 17) dX11_seekSeats_17 (v := 1) rfl ?_
  refine ea_iald (pc := 18) dX11_seekSeats_18 (cShC_19 hs).1 (cShC_19 hs).2.1 (ea_vpl (n := 8) (cShC_19 hs).2.2 (by unfold vp_in; decide)) ?_
  refine ea_istore_n (pc := 19) (lv' := [(0, vR (some 0)), (1, vI (ea_i h 19 0)), (2, vI (ea_i h 19 1))]) dX11_seekSeats_19 rfl (Nat.le_of_ble_eq_true rfl) [1, 2, 0] rfl ?_
  refine ea_aload_n (pc := 20) dX11_seekSeats_20 rfl 0 rfl ?_
  refine ea_getR (pc := 21) dX11_seekSeats_21 ec_11 (k := 3) (Nat.le_of_ble_eq_true rfl) rfl (Or.inl ew_617) (cShC_0 hs).1 (cShC_0 hs).2.1 (rShC_0_3 hs) ?_
  refine ea_getI (pc := 24) dX11_seekSeats_24 ec_3 (k := 0) (Nat.le_of_ble_eq_true rfl) rfl (Or.inl ew_265) (cShC_18 hs).1 (cShC_18 hs).2.1 ?_
  refine ea_iconst (pc := 27) dX11_seekSeats_27 (v := 1) rfl ?_
  refine ea_icmp_le (pc := 28) (tgt := 41) dX11_seekSeats_28 rfl (fun c3 => ?_) (fun c3 => ?_)
  · have E := (if_pos c3).symm.trans E
    obtain ⟨H1, eH1, E⟩ := let_some E
    refine ea_iconst (pc := 41) dX11_seekSeats_41 (v := 1) rfl ?_
    refine ea_istore_n (pc := 42) (lv' := [(0, vR (some 0)), (1, vI (ea_i h 19 0)), (2, vI (ea_i h 19 1)), (3, vI 1)]) dX11_seekSeats_42 rfl (Nat.le_of_ble_eq_true rfl) [1, 2, 3, 0] rfl ?_
    refine ea_aload_n (pc := 43) dX11_seekSeats_43 rfl 0 rfl ?_
    refine ea_ldcw (pc := 44) dX11_seekSeats_44 ew_1394 ?_
    refine ea_putI (pc := 47) dX11_seekSeats_47 ec_11 (k := 16) (Nat.le_of_ble_eq_true rfl) rfl (Or.inl ⟨rfl, Or.inl ew_630⟩) rfl rfl (cShC_0 hs).1 (cShC_0 hs).2.1 ?_
    refine ea_nm eH1 ?_
    have hsH1 : ShC H1 := by rw [eH1]; exact hs
    refine ea_iconst (pc := 50) dX11_seekSeats_50 (v := 0) rfl ?_
    refine ea_istore (pc := 51) (lv' := [(0, vR (some 0)), (1, vI (ea_i h 19 0)), (2, vI (ea_i h 19 1)), (3, vI 1), (4, vI 0)]) dX11_seekSeats_51 (Nat.le_of_ble_eq_true rfl) [1, 2, 3, 4, 0] rfl ?_
    exact (kJ53 ((ea_i h 19 0) : Int32) ((ea_i h 19 1) : Int32) (1 : Int32) (0 : Int32) H1 _ _ E hsH1)
  · have E := (if_neg c3).symm.trans E
    obtain ⟨H2, eH2, E⟩ := let_some E
    refine ea_aload_n (pc := 31) dX11_seekSeats_31 rfl 0 rfl ?_
    refine ea_getR (pc := 32) dX11_seekSeats_32 ec_11 (k := 1) (Nat.le_of_ble_eq_true rfl) rfl (Or.inl ew_615) (cShC_0 hs).1 (cShC_0 hs).2.1 (rShC_0_1 hs) ?_
    refine ea_getI (pc := 35) dX11_seekSeats_35 ec_9 (k := 0) (Nat.le_of_ble_eq_true rfl) rfl (Or.inl ew_185) (cShC_5 hs).1 (cShC_5 hs).2.1 ?_
    refine ea_goto (pc := 38) (tgt := 42) dX11_seekSeats_38 rfl ?_
    refine ea_istore_n (pc := 42) (lv' := [(0, vR (some 0)), (1, vI (ea_i h 19 0)), (2, vI (ea_i h 19 1)), (3, vI (ea_i h 5 0))]) dX11_seekSeats_42 rfl (Nat.le_of_ble_eq_true rfl) [1, 2, 3, 0] rfl ?_
    refine ea_aload_n (pc := 43) dX11_seekSeats_43 rfl 0 rfl ?_
    refine ea_ldcw (pc := 44) dX11_seekSeats_44 ew_1394 ?_
    refine ea_putI (pc := 47) dX11_seekSeats_47 ec_11 (k := 16) (Nat.le_of_ble_eq_true rfl) rfl (Or.inl ⟨rfl, Or.inl ew_630⟩) rfl rfl (cShC_0 hs).1 (cShC_0 hs).2.1 ?_
    refine ea_nm eH2 ?_
    have hsH2 : ShC H2 := by rw [eH2]; exact hs
    refine ea_iconst (pc := 50) dX11_seekSeats_50 (v := 0) rfl ?_
    refine ea_istore (pc := 51) (lv' := [(0, vR (some 0)), (1, vI (ea_i h 19 0)), (2, vI (ea_i h 19 1)), (3, vI (ea_i h 5 0)), (4, vI 0)]) dX11_seekSeats_51 (Nat.le_of_ble_eq_true rfl) [1, 2, 3, 4, 0] rfl ?_
    exact (kJ53 ((ea_i h 19 0) : Int32) ((ea_i h 19 1) : Int32) ((ea_i h 5 0) : Int32) (0 : Int32) H2 _ _ E hsH2)
theorem kBX11_seekSeats_0 {J53 : Int32 → Int32 → Int32 → Int32 → ea_H → Option (Unit × ea_H)}  (cJ53 : ∀ (x1 : Int32) (x2 : Int32) (x3 : Int32) (x4 : Int32) (h : ea_H), kp (ea_core h) (J53 x1 x2 x3 x4 h)) {h : ea_H} : kp (ea_core h) (BX11_seekSeats_0 J53 h) :=
  (kp_ite (kp_let (kp_tw (cJ53 _ _ _ _ _) rfl)) (kp_let (kp_tw (cJ53 _ _ _ _ _) rfl)))
theorem lBX11_seekSeats_0 {J53 : Int32 → Int32 → Int32 → Int32 → ea_H → Option (Unit × ea_H)} {J53_ : Int32 → Int32 → Int32 → Int32 → ea_H → Option (Unit × ea_H)}  (mJ53 : ∀ (x1 : Int32) (x2 : Int32) (x3 : Int32) (x4 : Int32) (h : ea_H), fle (J53 x1 x2 x3 x4 h) (J53_ x1 x2 x3 x4 h)) {h : ea_H} : fle (BX11_seekSeats_0 J53 h) (BX11_seekSeats_0 J53_ h) :=
  (fle_ite (fle_let fun _ => (mJ53 _ _ _ _ _)) (fle_let fun _ => (mJ53 _ _ _ _ _)))
theorem nBX11_seekSeats_0 {J53 : Int32 → Int32 → Int32 → Int32 → ea_H → Option (Unit × ea_H)} {J53_ : Nat → (Int32 → Int32 → Int32 → Int32 → ea_H → Option (Unit × ea_H))}  (mJ53 : ∀ (x1 : Int32) (x2 : Int32) (x3 : Int32) (x4 : Int32) (h : ea_H), fct (J53 x1 x2 x3 x4 h) (fun f => J53_ f x1 x2 x3 x4 h)) {h : ea_H} : fct (BX11_seekSeats_0 J53 h) (fun f => BX11_seekSeats_0 (J53_ f) h) :=
  (fct_ite (fct_let fun _ => (mJ53 _ _ _ _ _)) (fct_let fun _ => (mJ53 _ _ _ _ _)))
noncomputable def BX11_seekSeats_53 (J68 : Int32 → Int32 → Int32 → Int32 → Int32 → ea_H → Option (Unit × ea_H)) (x1 : Int32) (x2 : Int32) (x3 : Int32) (x4 : Int32) (h : ea_H) : Option (Unit × ea_H) :=
  (if (ea_i h 5 0) ≤ x4 then (gd (vp_in 0 8) (ea_let (ea_wi h 19 (Int32.toNatClampNeg 0) x1) fun H5 => (gd (vp_in 1 8) (ea_let (ea_wi H5 19 (Int32.toNatClampNeg 1) x2) fun H7 => (ea_let (ea_wi H7 0 15 1) fun H8 => (some ((), H8))))))) else (J68 (x1 : Int32) (x2 : Int32) (x3 : Int32) (x4 : Int32) (0 : Int32) h))
theorem tBX11_seekSeats_53 {d : Nat} {h0 : ea_H} (hd : 7 ≤ d) {J68 : Int32 → Int32 → Int32 → Int32 → Int32 → ea_H → Option (Unit × ea_H)}  (kJ68 : ∀ (x1 : Int32) (x2 : Int32) (x3 : Int32) (x4 : Int32) (x5 : Int32) (h : ea_H) (r : Unit) (h' : ea_H), J68 x1 x2 x3 x4 x5 h = some (r, h') → ShC h → ea_W mX11_seekSeats d h0 none h' 68 [(0, vR (some 0)), (1, vI x1), (2, vI x2), (3, vI x3), (4, vI x4), (5, vI x5)] [] h) {x1 : Int32} {x2 : Int32} {x3 : Int32} {x4 : Int32} {h : ea_H} {r : Unit} {h' : ea_H} (E : BX11_seekSeats_53 J68 x1 x2 x3 x4 h = some (r, h')) (hs : ShC h) : ea_W mX11_seekSeats d h0 none h' 53 [(0, vR (some 0)), (1, vI x1), (2, vI x2), (3, vI x3), (4, vI x4)] [] h := by
  unfold BX11_seekSeats_53 at E
  refine ea_iload (pc := 53) dX11_seekSeats_53 4 rfl ?_
  refine ea_aload_n (pc := 55) dX11_seekSeats_55 rfl 0 rfl ?_
  refine ea_getR (pc := 56) dX11_seekSeats_56 ec_11 (k := 1) (Nat.le_of_ble_eq_true rfl) rfl (Or.inl ew_615) (cShC_0 hs).1 (cShC_0 hs).2.1 (rShC_0_1 hs) ?_
  refine ea_getI (pc := 59) dX11_seekSeats_59 ec_9 (k := 0) (Nat.le_of_ble_eq_true rfl) rfl (Or.inl ew_185) (cShC_5 hs).1 (cShC_5 hs).2.1 ?_
  refine ea_icmp_ge (pc := 62) (tgt := 141) dX11_seekSeats_62 rfl (fun c9 => ?_) (fun c9 => ?_)
  · have E := (if_pos c9).symm.trans E
    obtain ⟨z4, E⟩ := gd_some E
    refine ea_aload_n (pc := 141) dX11_seekSeats_141 rfl 0 rfl ?_
    refine ea_getR (pc := 142) dX11_seekSeats_142 ec_11 (k := 3) (Nat.le_of_ble_eq_true rfl) rfl (Or.inl ew_617) (cShC_0 hs).1 (cShC_0 hs).2.1 (rShC_0_3 hs) ?_
    refine ea_getR (pc := 145) dX11_seekSeats_145 ec_3 (k := 1) (Nat.le_of_ble_eq_true rfl) rfl (Or.inl ew_267) (cShC_18 hs).1 (cShC_18 hs).2.1 (rShC_18_1 hs) ?_
    refine ea_iconst (pc := 148) dX11_seekSeats_148 (v := 0) rfl ?_
    refine ea_iload_n (pc := 149) dX11_seekSeats_149 rfl 1 rfl ?_
    obtain ⟨H5, eH5, E⟩ := let_some E
    refine ea_iast (pc := 150) dX11_seekSeats_150 (cShC_19 hs).1 (cShC_19 hs).2.1 (ea_vpl (cShC_19 hs).2.2 z4) ?_
    refine ea_nm eH5 ?_
    have hsH5 : ShC H5 := by rw [eH5]; exact hs
    obtain ⟨z6, E⟩ := gd_some E
    refine ea_aload_n (pc := 151) dX11_seekSeats_151 rfl 0 rfl ?_
    refine ea_getR (pc := 152) dX11_seekSeats_152 ec_11 (k := 3) (Nat.le_of_ble_eq_true rfl) rfl (Or.inl ew_617) (cShC_0 hsH5).1 (cShC_0 hsH5).2.1 (rShC_0_3 hsH5) ?_
    refine ea_getR (pc := 155) dX11_seekSeats_155 ec_3 (k := 1) (Nat.le_of_ble_eq_true rfl) rfl (Or.inl ew_267) (cShC_18 hsH5).1 (cShC_18 hsH5).2.1 (rShC_18_1 hsH5) ?_
    refine ea_iconst (pc := 158) dX11_seekSeats_158 (v := 1) rfl ?_
    refine ea_iload_n (pc := 159) dX11_seekSeats_159 rfl 2 rfl ?_
    obtain ⟨H7, eH7, E⟩ := let_some E
    refine ea_iast (pc := 160) dX11_seekSeats_160 (cShC_19 hsH5).1 (cShC_19 hsH5).2.1 (ea_vpl (cShC_19 hsH5).2.2 z6) ?_
    refine ea_nm eH7 ?_
    have hsH7 : ShC H7 := by rw [eH7]; exact hsH5
    obtain ⟨H8, eH8, E⟩ := let_some E
    refine ea_aload_n (pc := 161) dX11_seekSeats_161 rfl 0 rfl ?_
    refine ea_iconst (pc := 162) dX11_seekSeats_162 (v := 1) rfl ?_
    refine ea_putI (pc := 163) dX11_seekSeats_163 ec_11 (k := 15) (Nat.le_of_ble_eq_true rfl) rfl (Or.inl ⟨rfl, Or.inl ew_629⟩) (ea_bn (Or.inr rfl)) (ea_bf (Or.inr rfl)) (cShC_0 hsH7).1 (cShC_0 hsH7).2.1 ?_
    refine ea_nm eH8 ?_
    have hsH8 : ShC H8 := by rw [eH8]; exact hsH7
    exact ea_vretO (pc := 166) dX11_seekSeats_166 rfl E
  · have E := (if_neg c9).symm.trans E
    refine ea_iconst (pc := 65) dX11_seekSeats_65 (v := 0) rfl ?_
    refine ea_istore (pc := 66) (lv' := [(0, vR (some 0)), (1, vI x1), (2, vI x2), (3, vI x3), (4, vI x4), (5, vI 0)]) dX11_seekSeats_66 (Nat.le_of_ble_eq_true rfl) [1, 2, 3, 4, 5, 0] rfl ?_
    exact (kJ68 (x1 : Int32) (x2 : Int32) (x3 : Int32) (x4 : Int32) (0 : Int32) h _ _ E hs)
theorem kBX11_seekSeats_53 {J68 : Int32 → Int32 → Int32 → Int32 → Int32 → ea_H → Option (Unit × ea_H)}  (cJ68 : ∀ (x1 : Int32) (x2 : Int32) (x3 : Int32) (x4 : Int32) (x5 : Int32) (h : ea_H), kp (ea_core h) (J68 x1 x2 x3 x4 x5 h)) {x1 : Int32} {x2 : Int32} {x3 : Int32} {x4 : Int32} {h : ea_H} : kp (ea_core h) (BX11_seekSeats_53 J68 x1 x2 x3 x4 h) :=
  (kp_ite (kp_gd (kp_let (kp_gd (kp_let (kp_let (kp_ret rfl)))))) (kp_tw (cJ68 _ _ _ _ _ _) rfl))
theorem lBX11_seekSeats_53 {J68 : Int32 → Int32 → Int32 → Int32 → Int32 → ea_H → Option (Unit × ea_H)} {J68_ : Int32 → Int32 → Int32 → Int32 → Int32 → ea_H → Option (Unit × ea_H)}  (mJ68 : ∀ (x1 : Int32) (x2 : Int32) (x3 : Int32) (x4 : Int32) (x5 : Int32) (h : ea_H), fle (J68 x1 x2 x3 x4 x5 h) (J68_ x1 x2 x3 x4 x5 h)) {x1 : Int32} {x2 : Int32} {x3 : Int32} {x4 : Int32} {h : ea_H} : fle (BX11_seekSeats_53 J68 x1 x2 x3 x4 h) (BX11_seekSeats_53 J68_ x1 x2 x3 x4 h) :=
  (fle_ite (fle_rfl _) (mJ68 _ _ _ _ _ _))
theorem nBX11_seekSeats_53 {J68 : Int32 → Int32 → Int32 → Int32 → Int32 → ea_H → Option (Unit × ea_H)} {J68_ : Nat → (Int32 → Int32 → Int32 → Int32 → Int32 → ea_H → Option (Unit × ea_H))}  (mJ68 : ∀ (x1 : Int32) (x2 : Int32) (x3 : Int32) (x4 : Int32) (x5 : Int32) (h : ea_H), fct (J68 x1 x2 x3 x4 x5 h) (fun f => J68_ f x1 x2 x3 x4 x5 h)) {x1 : Int32} {x2 : Int32} {x3 : Int32} {x4 : Int32} {h : ea_H} : fct (BX11_seekSeats_53 J68 x1 x2 x3 x4 h) (fun f => BX11_seekSeats_53 (J68_ f) x1 x2 x3 x4 h) :=
  (fct_ite (fct_rfl _) (mJ68 _ _ _ _ _ _))
noncomputable def BX11_seekSeats_68 (J53 : Int32 → Int32 → Int32 → Int32 → ea_H → Option (Unit × ea_H)) (J68 : Int32 → Int32 → Int32 → Int32 → Int32 → ea_H → Option (Unit × ea_H)) (x1 : Int32) (x2 : Int32) (x3 : Int32) (x4 : Int32) (x5 : Int32) (h : ea_H) : Option (Unit × ea_H) :=
  (if x3 ≤ x5 then (J53 (x1 : Int32) (x2 : Int32) (x3 : Int32) ((x4 + (1 : Int32)) : Int32) h) else (gd (vp_in 0 8) (ea_let (ea_wi h 19 (Int32.toNatClampNeg 0) x4) fun H11 => (gd (vp_in 1 8) (ea_let (ea_wi H11 19 (Int32.toNatClampNeg 1) x5) fun H13 => (Option.bind (qX11_outcome  H13) fun w14 => (if (ea_i w14.2 0 16) ≤ w14.1 then (J68 (x1 : Int32) (x2 : Int32) (x3 : Int32) (x4 : Int32) ((x5 + (1 : Int32)) : Int32) w14.2) else (ea_let (ea_wi w14.2 0 16 w14.1) fun H15 => (ea_let (ea_wi H15 0 17 x4) fun H16 => (ea_let (ea_wi H16 0 18 x5) fun H17 => (J68 (x1 : Int32) (x2 : Int32) (x3 : Int32) (x4 : Int32) ((x5 + (1 : Int32)) : Int32) H17)))))))))))
theorem tBX11_seekSeats_68 {d : Nat} {h0 : ea_H} (hd : 7 ≤ d) {J53 : Int32 → Int32 → Int32 → Int32 → ea_H → Option (Unit × ea_H)} {J68 : Int32 → Int32 → Int32 → Int32 → Int32 → ea_H → Option (Unit × ea_H)}  (kJ53 : ∀ (x1 : Int32) (x2 : Int32) (x3 : Int32) (x4 : Int32) (h : ea_H) (r : Unit) (h' : ea_H), J53 x1 x2 x3 x4 h = some (r, h') → ShC h → ea_W mX11_seekSeats d h0 none h' 53 [(0, vR (some 0)), (1, vI x1), (2, vI x2), (3, vI x3), (4, vI x4)] [] h) (kJ68 : ∀ (x1 : Int32) (x2 : Int32) (x3 : Int32) (x4 : Int32) (x5 : Int32) (h : ea_H) (r : Unit) (h' : ea_H), J68 x1 x2 x3 x4 x5 h = some (r, h') → ShC h → ea_W mX11_seekSeats d h0 none h' 68 [(0, vR (some 0)), (1, vI x1), (2, vI x2), (3, vI x3), (4, vI x4), (5, vI x5)] [] h) {x1 : Int32} {x2 : Int32} {x3 : Int32} {x4 : Int32} {x5 : Int32} {h : ea_H} {r : Unit} {h' : ea_H} (E : BX11_seekSeats_68 J53 J68 x1 x2 x3 x4 x5 h = some (r, h')) (hs : ShC h) : ea_W mX11_seekSeats d h0 none h' 68 [(0, vR (some 0)), (1, vI x1), (2, vI x2), (3, vI x3), (4, vI x4), (5, vI x5)] [] h := by
  unfold BX11_seekSeats_68 at E
  refine ea_iload (pc := 68) dX11_seekSeats_68 5 rfl ?_
  refine ea_iload_n (pc := 70) dX11_seekSeats_70 rfl 3 rfl ?_
  refine ea_icmp_ge (pc := 71) (tgt := 135) dX11_seekSeats_71 rfl (fun c19 => ?_) (fun c19 => ?_)
  · have E := (if_pos c19).symm.trans E
    refine ea_iinc (pc := 135) (v := 1) (lv' := [(0, vR (some 0)), (1, vI x1), (2, vI x2), (3, vI x3), (4, vI (x4 + (1 : Int32)))]) dX11_seekSeats_135 4 rfl rfl (Nat.le_of_ble_eq_true rfl) [1, 2, 3, 4, 0] rfl ?_
    refine ea_goto (pc := 138) (tgt := 53) dX11_seekSeats_138 rfl ?_
    exact (kJ53 (x1 : Int32) (x2 : Int32) (x3 : Int32) ((x4 + (1 : Int32)) : Int32) h _ _ E hs)
  · have E := (if_neg c19).symm.trans E
    obtain ⟨z10, E⟩ := gd_some E
    refine ea_aload_n (pc := 74) dX11_seekSeats_74 rfl 0 rfl ?_
    refine ea_getR (pc := 75) dX11_seekSeats_75 ec_11 (k := 3) (Nat.le_of_ble_eq_true rfl) rfl (Or.inl ew_617) (cShC_0 hs).1 (cShC_0 hs).2.1 (rShC_0_3 hs) ?_
    refine ea_getR (pc := 78) dX11_seekSeats_78 ec_3 (k := 1) (Nat.le_of_ble_eq_true rfl) rfl (Or.inl ew_267) (cShC_18 hs).1 (cShC_18 hs).2.1 (rShC_18_1 hs) ?_
    refine ea_iconst (pc := 81) dX11_seekSeats_81 (v := 0) rfl ?_
    refine ea_iload (pc := 82) dX11_seekSeats_82 4 rfl ?_
    obtain ⟨H11, eH11, E⟩ := let_some E
    refine ea_iast (pc := 84) dX11_seekSeats_84 (cShC_19 hs).1 (cShC_19 hs).2.1 (ea_vpl (cShC_19 hs).2.2 z10) ?_
    refine ea_nm eH11 ?_
    have hsH11 : ShC H11 := by rw [eH11]; exact hs
    obtain ⟨z12, E⟩ := gd_some E
    refine ea_aload_n (pc := 85) dX11_seekSeats_85 rfl 0 rfl ?_
    refine ea_getR (pc := 86) dX11_seekSeats_86 ec_11 (k := 3) (Nat.le_of_ble_eq_true rfl) rfl (Or.inl ew_617) (cShC_0 hsH11).1 (cShC_0 hsH11).2.1 (rShC_0_3 hsH11) ?_
    refine ea_getR (pc := 89) dX11_seekSeats_89 ec_3 (k := 1) (Nat.le_of_ble_eq_true rfl) rfl (Or.inl ew_267) (cShC_18 hsH11).1 (cShC_18 hsH11).2.1 (rShC_18_1 hsH11) ?_
    refine ea_iconst (pc := 92) dX11_seekSeats_92 (v := 1) rfl ?_
    refine ea_iload (pc := 93) dX11_seekSeats_93 5 rfl ?_
    obtain ⟨H13, eH13, E⟩ := let_some E
    refine ea_iast (pc := 95) dX11_seekSeats_95 (cShC_19 hsH11).1 (cShC_19 hsH11).2.1 (ea_vpl (cShC_19 hsH11).2.2 z12) ?_
    refine ea_nm eH13 ?_
    have hsH13 : ShC H13 := by rw [eH13]; exact hsH11
    obtain ⟨w14, Ew14, E⟩ := bd_some E
    have hsw14 : ShC w14.2 := ShC_core ((kpX11_outcome _) _ Ew14) hsH13
    refine ea_aload_n (pc := 96) dX11_seekSeats_96 rfl 0 rfl ?_
    refine ea_callV (pc := 97) (d' := d - 1) (As := []) (st := []) dX11_seekSeats_97 kX11_outcome (sX11_outcome (d := d - 1) (by omega) hsH13 Ew14) (by omega) rfl (Nat.le_of_ble_eq_true rfl) ew_1373 ew_1375 ew_52 (ci := 11) rfl (by decide) (cShC_0 hsH13).1 (cShC_0 hsH13).2.1 ?_
    refine ea_istore (pc := 100) (lv' := [(0, vR (some 0)), (1, vI x1), (2, vI x2), (3, vI x3), (4, vI x4), (5, vI x5), (6, vI w14.1)]) dX11_seekSeats_100 (Nat.le_of_ble_eq_true rfl) [1, 2, 3, 4, 5, 6, 0] rfl ?_
    refine ea_iload (pc := 102) dX11_seekSeats_102 6 rfl ?_
    refine ea_aload_n (pc := 104) dX11_seekSeats_104 rfl 0 rfl ?_
    refine ea_getI (pc := 105) dX11_seekSeats_105 ec_11 (k := 16) (Nat.le_of_ble_eq_true rfl) rfl (Or.inl ew_630) (cShC_0 hsw14).1 (cShC_0 hsw14).2.1 ?_
    refine ea_icmp_ge (pc := 108) (tgt := 129) dX11_seekSeats_108 rfl (fun c18 => ?_) (fun c18 => ?_)
    · have E := (if_pos c18).symm.trans E
      refine ea_iinc (pc := 129) (v := 1) (lv' := [(0, vR (some 0)), (1, vI x1), (2, vI x2), (3, vI x3), (4, vI x4), (5, vI (x5 + (1 : Int32)))]) dX11_seekSeats_129 5 rfl rfl (Nat.le_of_ble_eq_true rfl) [1, 2, 3, 4, 5, 0] rfl ?_
      refine ea_goto (pc := 132) (tgt := 68) dX11_seekSeats_132 rfl ?_
      exact (kJ68 (x1 : Int32) (x2 : Int32) (x3 : Int32) (x4 : Int32) ((x5 + (1 : Int32)) : Int32) w14.2 _ _ E hsw14)
    · have E := (if_neg c18).symm.trans E
      obtain ⟨H15, eH15, E⟩ := let_some E
      refine ea_aload_n (pc := 111) dX11_seekSeats_111 rfl 0 rfl ?_
      refine ea_iload (pc := 112) dX11_seekSeats_112 6 rfl ?_
      refine ea_putI (pc := 114) dX11_seekSeats_114 ec_11 (k := 16) (Nat.le_of_ble_eq_true rfl) rfl (Or.inl ⟨rfl, Or.inl ew_630⟩) rfl rfl (cShC_0 hsw14).1 (cShC_0 hsw14).2.1 ?_
      refine ea_nm eH15 ?_
      have hsH15 : ShC H15 := by rw [eH15]; exact hsw14
      obtain ⟨H16, eH16, E⟩ := let_some E
      refine ea_aload_n (pc := 117) dX11_seekSeats_117 rfl 0 rfl ?_
      refine ea_iload (pc := 118) dX11_seekSeats_118 4 rfl ?_
      refine ea_putI (pc := 120) dX11_seekSeats_120 ec_11 (k := 17) (Nat.le_of_ble_eq_true rfl) rfl (Or.inl ⟨rfl, Or.inl ew_631⟩) rfl rfl (cShC_0 hsH15).1 (cShC_0 hsH15).2.1 ?_
      refine ea_nm eH16 ?_
      have hsH16 : ShC H16 := by rw [eH16]; exact hsH15
      obtain ⟨H17, eH17, E⟩ := let_some E
      refine ea_aload_n (pc := 123) dX11_seekSeats_123 rfl 0 rfl ?_
      refine ea_iload (pc := 124) dX11_seekSeats_124 5 rfl ?_
      refine ea_putI (pc := 126) dX11_seekSeats_126 ec_11 (k := 18) (Nat.le_of_ble_eq_true rfl) rfl (Or.inl ⟨rfl, Or.inl ew_632⟩) rfl rfl (cShC_0 hsH16).1 (cShC_0 hsH16).2.1 ?_
      refine ea_nm eH17 ?_
      have hsH17 : ShC H17 := by rw [eH17]; exact hsH16
      refine ea_iinc (pc := 129) (v := 1) (lv' := [(0, vR (some 0)), (1, vI x1), (2, vI x2), (3, vI x3), (4, vI x4), (5, vI (x5 + (1 : Int32)))]) dX11_seekSeats_129 5 rfl rfl (Nat.le_of_ble_eq_true rfl) [1, 2, 3, 4, 5, 0] rfl ?_
      refine ea_goto (pc := 132) (tgt := 68) dX11_seekSeats_132 rfl ?_
      exact (kJ68 (x1 : Int32) (x2 : Int32) (x3 : Int32) (x4 : Int32) ((x5 + (1 : Int32)) : Int32) H17 _ _ E hsH17)
theorem kBX11_seekSeats_68 {J53 : Int32 → Int32 → Int32 → Int32 → ea_H → Option (Unit × ea_H)} {J68 : Int32 → Int32 → Int32 → Int32 → Int32 → ea_H → Option (Unit × ea_H)}  (cJ53 : ∀ (x1 : Int32) (x2 : Int32) (x3 : Int32) (x4 : Int32) (h : ea_H), kp (ea_core h) (J53 x1 x2 x3 x4 h)) (cJ68 : ∀ (x1 : Int32) (x2 : Int32) (x3 : Int32) (x4 : Int32) (x5 : Int32) (h : ea_H), kp (ea_core h) (J68 x1 x2 x3 x4 x5 h)) {x1 : Int32} {x2 : Int32} {x3 : Int32} {x4 : Int32} {x5 : Int32} {h : ea_H} : kp (ea_core h) (BX11_seekSeats_68 J53 J68 x1 x2 x3 x4 x5 h) :=
  (kp_ite (kp_tw (cJ53 _ _ _ _ _) rfl) (kp_gd (kp_let (kp_gd (kp_let (kp_bind (kp_tw (kpX11_outcome _) rfl) fun w14 hcw14 => (kp_ite (kp_tw (cJ68 _ _ _ _ _ _) hcw14) (kp_let (kp_let (kp_let (kp_tw (cJ68 _ _ _ _ _ _) hcw14)))))))))))
theorem lBX11_seekSeats_68 {J53 : Int32 → Int32 → Int32 → Int32 → ea_H → Option (Unit × ea_H)} {J68 : Int32 → Int32 → Int32 → Int32 → Int32 → ea_H → Option (Unit × ea_H)} {J53_ : Int32 → Int32 → Int32 → Int32 → ea_H → Option (Unit × ea_H)} {J68_ : Int32 → Int32 → Int32 → Int32 → Int32 → ea_H → Option (Unit × ea_H)}  (mJ53 : ∀ (x1 : Int32) (x2 : Int32) (x3 : Int32) (x4 : Int32) (h : ea_H), fle (J53 x1 x2 x3 x4 h) (J53_ x1 x2 x3 x4 h)) (mJ68 : ∀ (x1 : Int32) (x2 : Int32) (x3 : Int32) (x4 : Int32) (x5 : Int32) (h : ea_H), fle (J68 x1 x2 x3 x4 x5 h) (J68_ x1 x2 x3 x4 x5 h)) {x1 : Int32} {x2 : Int32} {x3 : Int32} {x4 : Int32} {x5 : Int32} {h : ea_H} : fle (BX11_seekSeats_68 J53 J68 x1 x2 x3 x4 x5 h) (BX11_seekSeats_68 J53_ J68_ x1 x2 x3 x4 x5 h) :=
  (fle_ite (mJ53 _ _ _ _ _) (fle_gd (fle_let fun _ => (fle_gd (fle_let fun _ => (fle_bind (fle_rfl _) fun _ => (fle_ite (mJ68 _ _ _ _ _ _) (fle_let fun _ => (fle_let fun _ => (fle_let fun _ => (mJ68 _ _ _ _ _ _)))))))))))
theorem nBX11_seekSeats_68 {J53 : Int32 → Int32 → Int32 → Int32 → ea_H → Option (Unit × ea_H)} {J68 : Int32 → Int32 → Int32 → Int32 → Int32 → ea_H → Option (Unit × ea_H)} {J53_ : Nat → (Int32 → Int32 → Int32 → Int32 → ea_H → Option (Unit × ea_H))} {J68_ : Nat → (Int32 → Int32 → Int32 → Int32 → Int32 → ea_H → Option (Unit × ea_H))}  (mJ53 : ∀ (x1 : Int32) (x2 : Int32) (x3 : Int32) (x4 : Int32) (h : ea_H), fct (J53 x1 x2 x3 x4 h) (fun f => J53_ f x1 x2 x3 x4 h)) (mJ68 : ∀ (x1 : Int32) (x2 : Int32) (x3 : Int32) (x4 : Int32) (x5 : Int32) (h : ea_H), fct (J68 x1 x2 x3 x4 x5 h) (fun f => J68_ f x1 x2 x3 x4 x5 h)) {x1 : Int32} {x2 : Int32} {x3 : Int32} {x4 : Int32} {x5 : Int32} {h : ea_H} : fct (BX11_seekSeats_68 J53 J68 x1 x2 x3 x4 x5 h) (fun f => BX11_seekSeats_68 (J53_ f) (J68_ f) x1 x2 x3 x4 x5 h) :=
  (fct_ite (mJ53 _ _ _ _ _) (fct_gd (fct_let fun _ => (fct_gd (fct_let fun _ => (fct_bind (fct_rfl _) fun _ => (fct_ite (mJ68 _ _ _ _ _ _) (fct_let fun _ => (fct_let fun _ => (fct_let fun _ => (mJ68 _ _ _ _ _ _)))))))))))
noncomputable def gX11_seekSeats : Nat → (ea_H → Option (Unit × ea_H)) × (Int32 → Int32 → Int32 → Int32 → ea_H → Option (Unit × ea_H)) × (Int32 → Int32 → Int32 → Int32 → Int32 → ea_H → Option (Unit × ea_H))
  | 0 => (fun _ => none, fun _ _ _ _ _ => none, fun _ _ _ _ _ _ => none)
  | f + 1 => (BX11_seekSeats_0 (gX11_seekSeats f).2.1, BX11_seekSeats_53 (gX11_seekSeats f).2.2, BX11_seekSeats_68 (gX11_seekSeats f).2.1 (gX11_seekSeats f).2.2)
theorem mgX11_seekSeats : ∀ f : Nat, (∀ (h : ea_H), fle ((gX11_seekSeats f).1 h) ((gX11_seekSeats (f + 1)).1 h)) ∧ (∀ (x1 : Int32) (x2 : Int32) (x3 : Int32) (x4 : Int32) (h : ea_H), fle ((gX11_seekSeats f).2.1 x1 x2 x3 x4 h) ((gX11_seekSeats (f + 1)).2.1 x1 x2 x3 x4 h)) ∧ (∀ (x1 : Int32) (x2 : Int32) (x3 : Int32) (x4 : Int32) (x5 : Int32) (h : ea_H), fle ((gX11_seekSeats f).2.2 x1 x2 x3 x4 x5 h) ((gX11_seekSeats (f + 1)).2.2 x1 x2 x3 x4 x5 h)) := by
  intro f
  induction f with
  | zero => exact ⟨fun _ => fle_none _, fun _ _ _ _ _ => fle_none _, fun _ _ _ _ _ _ => fle_none _⟩
  | succ f ih => exact ⟨fun _ => lBX11_seekSeats_0 ih.2.1, fun _ _ _ _ _ => lBX11_seekSeats_53 ih.2.2, fun _ _ _ _ _ _ => lBX11_seekSeats_68 ih.2.1 ih.2.2⟩
noncomputable def qX11_seekSeats_0 (h : ea_H) : Option (Unit × ea_H) := flim fun f => (gX11_seekSeats f).1 h
noncomputable def qX11_seekSeats_53 (x1 : Int32) (x2 : Int32) (x3 : Int32) (x4 : Int32) (h : ea_H) : Option (Unit × ea_H) := flim fun f => (gX11_seekSeats f).2.1 x1 x2 x3 x4 h
noncomputable def qX11_seekSeats_68 (x1 : Int32) (x2 : Int32) (x3 : Int32) (x4 : Int32) (x5 : Int32) (h : ea_H) : Option (Unit × ea_H) := flim fun f => (gX11_seekSeats f).2.2 x1 x2 x3 x4 x5 h
theorem fqX11_seekSeats_0 (h : ea_H) : fct (qX11_seekSeats_0 h) fun f => (gX11_seekSeats f).1 h := flim_ct fun f => (mgX11_seekSeats f).1 h
theorem fqX11_seekSeats_53 (x1 : Int32) (x2 : Int32) (x3 : Int32) (x4 : Int32) (h : ea_H) : fct (qX11_seekSeats_53 x1 x2 x3 x4 h) fun f => (gX11_seekSeats f).2.1 x1 x2 x3 x4 h := flim_ct fun f => (mgX11_seekSeats f).2.1 x1 x2 x3 x4 h
theorem fqX11_seekSeats_68 (x1 : Int32) (x2 : Int32) (x3 : Int32) (x4 : Int32) (x5 : Int32) (h : ea_H) : fct (qX11_seekSeats_68 x1 x2 x3 x4 x5 h) fun f => (gX11_seekSeats f).2.2 x1 x2 x3 x4 x5 h := flim_ct fun f => (mgX11_seekSeats f).2.2 x1 x2 x3 x4 x5 h
/-- how a block opens -/
theorem uqX11_seekSeats_0 {h : ea_H} {P : Unit × ea_H → Prop} (H : sat (BX11_seekSeats_0 qX11_seekSeats_53 h) P) : sat (qX11_seekSeats_0 h) P := by
  obtain ⟨x, e, hp⟩ := H
  obtain ⟨n, hn⟩ := nBX11_seekSeats_0 fqX11_seekSeats_53 x e
  exact ⟨x, flim_at (fun f => (mgX11_seekSeats f).1 h) (f := n + 1) (hn n (Nat.le_refl _)), hp⟩
/-- how a block opens -/
theorem uqX11_seekSeats_53 {x1 : Int32} {x2 : Int32} {x3 : Int32} {x4 : Int32} {h : ea_H} {P : Unit × ea_H → Prop} (H : sat (BX11_seekSeats_53 qX11_seekSeats_68 x1 x2 x3 x4 h) P) : sat (qX11_seekSeats_53 x1 x2 x3 x4 h) P := by
  obtain ⟨x, e, hp⟩ := H
  obtain ⟨n, hn⟩ := nBX11_seekSeats_53 fqX11_seekSeats_68 x e
  exact ⟨x, flim_at (fun f => (mgX11_seekSeats f).2.1 x1 x2 x3 x4 h) (f := n + 1) (hn n (Nat.le_refl _)), hp⟩
/-- how a block opens -/
theorem uqX11_seekSeats_68 {x1 : Int32} {x2 : Int32} {x3 : Int32} {x4 : Int32} {x5 : Int32} {h : ea_H} {P : Unit × ea_H → Prop} (H : sat (BX11_seekSeats_68 qX11_seekSeats_53 qX11_seekSeats_68 x1 x2 x3 x4 x5 h) P) : sat (qX11_seekSeats_68 x1 x2 x3 x4 x5 h) P := by
  obtain ⟨x, e, hp⟩ := H
  obtain ⟨n, hn⟩ := nBX11_seekSeats_68 fqX11_seekSeats_53 fqX11_seekSeats_68 x e
  exact ⟨x, flim_at (fun f => (mgX11_seekSeats f).2.2 x1 x2 x3 x4 x5 h) (f := n + 1) (hn n (Nat.le_refl _)), hp⟩
theorem kgX11_seekSeats : ∀ f : Nat, (∀ (h : ea_H), kp (ea_core h) ((gX11_seekSeats f).1 h)) ∧ (∀ (x1 : Int32) (x2 : Int32) (x3 : Int32) (x4 : Int32) (h : ea_H), kp (ea_core h) ((gX11_seekSeats f).2.1 x1 x2 x3 x4 h)) ∧ (∀ (x1 : Int32) (x2 : Int32) (x3 : Int32) (x4 : Int32) (x5 : Int32) (h : ea_H), kp (ea_core h) ((gX11_seekSeats f).2.2 x1 x2 x3 x4 x5 h)) := by
  intro f
  induction f with
  | zero => exact ⟨fun _ => kp_none _, fun _ _ _ _ _ => kp_none _, fun _ _ _ _ _ _ => kp_none _⟩
  | succ f ih => exact ⟨fun _ => kBX11_seekSeats_0 ih.2.1, fun _ _ _ _ _ => kBX11_seekSeats_53 ih.2.2, fun _ _ _ _ _ _ => kBX11_seekSeats_68 ih.2.1 ih.2.2⟩
theorem tgX11_seekSeats {d : Nat} {h0 : ea_H} (hd : 7 ≤ d) : ∀ f : Nat, (∀ (h : ea_H) (r : Unit) (h' : ea_H), (gX11_seekSeats f).1 h = some (r, h') → ShC h → ea_W mX11_seekSeats d h0 none h' 0 [(0, vR (some 0))] [] h) ∧ (∀ (x1 : Int32) (x2 : Int32) (x3 : Int32) (x4 : Int32) (h : ea_H) (r : Unit) (h' : ea_H), (gX11_seekSeats f).2.1 x1 x2 x3 x4 h = some (r, h') → ShC h → ea_W mX11_seekSeats d h0 none h' 53 [(0, vR (some 0)), (1, vI x1), (2, vI x2), (3, vI x3), (4, vI x4)] [] h) ∧ (∀ (x1 : Int32) (x2 : Int32) (x3 : Int32) (x4 : Int32) (x5 : Int32) (h : ea_H) (r : Unit) (h' : ea_H), (gX11_seekSeats f).2.2 x1 x2 x3 x4 x5 h = some (r, h') → ShC h → ea_W mX11_seekSeats d h0 none h' 68 [(0, vR (some 0)), (1, vI x1), (2, vI x2), (3, vI x3), (4, vI x4), (5, vI x5)] [] h) := by
  intro f
  induction f with
  | zero => exact ⟨fun _ _ _ E => no_some E, fun _ _ _ _ _ _ _ E => no_some E, fun _ _ _ _ _ _ _ _ E => no_some E⟩
  | succ f ih => exact ⟨fun _ _ _ E hs => tBX11_seekSeats_0 hd ih.2.1 E hs, fun _ _ _ _ _ _ _ E hs => tBX11_seekSeats_53 hd ih.2.2 E hs, fun _ _ _ _ _ _ _ _ E hs => tBX11_seekSeats_68 hd ih.2.1 ih.2.2 E hs⟩
noncomputable def qX11_seekSeats (h : ea_H) : Option (Unit × ea_H) := qX11_seekSeats_0  h
theorem sX11_seekSeats {d : Nat} {h : ea_H} {r : Unit} {h' : ea_H} (hd : 7 ≤ d) (hs : ShC h) (K : qX11_seekSeats h = some (r, h')) : ea_Met mX11_seekSeats d [vR (some 0)] h none h' := by
  unfold qX11_seekSeats at K
  obtain ⟨n, hn⟩ := fqX11_seekSeats_0  h _ K
  have W := (tgX11_seekSeats (d := d) (h0 := h) hd n).1  h _ _ (hn n (Nat.le_refl _)) hs
  exact ea_enter rfl (Nat.le_of_ble_eq_true rfl) W
theorem kpX11_seekSeats (h : ea_H) : kp (ea_core h) (qX11_seekSeats h) := fun x e => by
  obtain ⟨n, hn⟩ := fqX11_seekSeats_0  h x e
  exact (kgX11_seekSeats n).1  h x (hn n (Nat.le_refl _))
noncomputable def BX11_whatIf_0 (x1 : Int32) (x2 : Int32) (x3 : Int32) (h : ea_H) : Option (Int32 × ea_H) :=
  (if x1 = ((-1) : Int32) then (Option.bind (qX11_outcome  h) fun w13 => (some (w13.1, w13.2))) else (Option.bind (qX11_mayBeTold (x1 : Int32) (x2 : Int32) (x3 : Int32) h) fun w1 => (if w1.1 = (0 : Int32) then (some (((-1) : Int32), w1.2)) else (ea_let (((10 : Int32) * x2) + x1) fun (v2 : Int32) => (gd (vp_in v2 70) (ea_let (ea_i w1.2 11 (Int32.toNatClampNeg v2)) fun (v4 : Int32) => (gd (vp_in v2 70) (ea_let (ea_wi w1.2 11 (Int32.toNatClampNeg v2) x3) fun H6 => (ea_let (ea_wi H6 13 0 0) fun H7 => (Option.bind (qX11_outcome  H7) fun w8 => (gd (vp_in v2 70) (ea_let (ea_wi w8.2 11 (Int32.toNatClampNeg v2) v4) fun H10 => (ea_let (ea_wi H10 13 0 0) fun H11 => (some (w8.1, H11)))))))))))))))
theorem tBX11_whatIf_0 {d : Nat} {h0 : ea_H} (hd : 7 ≤ d)  {x1 : Int32} {x2 : Int32} {x3 : Int32} {h : ea_H} {r : Int32} {h' : ea_H} (E : BX11_whatIf_0 x1 x2 x3 h = some (r, h')) (hs : ShC h) : ea_W mX11_whatIf d h0 (some (vI r)) h' 0 [(0, vR (some 0)), (1, vI x1), (2, vI x2), (3, vI x3)] [] h := by
  unfold BX11_whatIf_0 at E
  refine ea_iload_n (pc := 0) dX11_whatIf_0 rfl 1 rfl ?_
  refine ea_iconst (pc := 1) dX11_whatIf_1 (v := (-1)) rfl ?_
  refine ea_icmp_ne (pc := 2) (tgt := 10) dX11_whatIf_2 rfl (fun c14 => ?_) (fun c14 => ?_)
  · have E := (if_neg c14).symm.trans E
    obtain ⟨w1, Ew1, E⟩ := bd_some E
    have hsw1 : ShC w1.2 := ShC_core ((kpX11_mayBeTold _ _ _ _) _ Ew1) hs
    refine ea_aload_n (pc := 10) dX11_whatIf_10 rfl 0 rfl ?_
    refine ea_iload_n (pc := 11) dX11_whatIf_11 rfl 1 rfl ?_
    refine ea_iload_n (pc := 12) dX11_whatIf_12 rfl 2 rfl ?_
    refine ea_iload_n (pc := 13) dX11_whatIf_13 rfl 3 rfl ?_
    refine ea_callV (pc := 14) (d' := d - 1) (As := [vI x1, vI x2, vI x3]) (st := []) dX11_whatIf_14 kX11_mayBeTold (sX11_mayBeTold (d := d - 1) (by omega) hs Ew1) (by omega) rfl (Nat.le_of_ble_eq_true rfl) ew_724 ew_726 ew_2 (ci := 11) rfl (by decide) (cShC_0 hs).1 (cShC_0 hs).2.1 ?_
    refine ea_if_ne (pc := 17) (tgt := 22) dX11_whatIf_17 rfl (fun c12 => ?_) (fun c12 => ?_)
    · have E := (if_neg c12).symm.trans E
      obtain ⟨v2, ev2, E⟩ := let_some E
      refine ea_bipush (pc := 22) dX11_whatIf_22 (v := 10) rfl ?_
      refine ea_iload_n (pc := 24) dX11_whatIf_24 rfl 2 rfl ?_
      refine ea_imul (pc := 25) dX11_whatIf_25 ?_
      refine ea_iload_n (pc := 26) dX11_whatIf_26 rfl 1 rfl ?_
      refine ea_iadd (pc := 27) dX11_whatIf_27 ?_
      obtain ⟨z3, E⟩ := gd_some E
      refine ea_istore (pc := 28) (lv' := [(0, vR (some 0)), (3, vI x3), (4, vI v2)]) dX11_whatIf_28 (Nat.le_of_ble_eq_true rfl) [1, 4, 0] (by rw [ev2]; rfl) ?_
      refine ea_aload_n (pc := 30) dX11_whatIf_30 rfl 0 rfl ?_
      refine ea_getR (pc := 31) dX11_whatIf_31 ec_11 (k := 1) (Nat.le_of_ble_eq_true rfl) rfl (Or.inl ew_615) (cShC_0 hsw1).1 (cShC_0 hsw1).2.1 (rShC_0_1 hsw1) ?_
      refine ea_getR (pc := 34) dX11_whatIf_34 ec_9 (k := 6) (Nat.le_of_ble_eq_true rfl) rfl (Or.inl ew_205) (cShC_5 hsw1).1 (cShC_5 hsw1).2.1 (rShC_5_6 hsw1) ?_
      refine ea_iload (pc := 37) dX11_whatIf_37 2 rfl ?_
      obtain ⟨v4, ev4, E⟩ := let_some E
      refine ea_iald (pc := 39) dX11_whatIf_39 (cShC_11 hsw1).1 (cShC_11 hsw1).2.1 (ea_vpl (cShC_11 hsw1).2.2 z3) ?_
      obtain ⟨z5, E⟩ := gd_some E
      refine ea_istore (pc := 40) (lv' := [(0, vR (some 0)), (3, vI x3), (4, vI v2), (5, vI v4)]) dX11_whatIf_40 (Nat.le_of_ble_eq_true rfl) [1, 2, 3, 0] (by rw [ev4]; rfl) ?_
      refine ea_aload_n (pc := 42) dX11_whatIf_42 rfl 0 rfl ?_
      refine ea_getR (pc := 43) dX11_whatIf_43 ec_11 (k := 1) (Nat.le_of_ble_eq_true rfl) rfl (Or.inl ew_615) (cShC_0 hsw1).1 (cShC_0 hsw1).2.1 (rShC_0_1 hsw1) ?_
      refine ea_getR (pc := 46) dX11_whatIf_46 ec_9 (k := 6) (Nat.le_of_ble_eq_true rfl) rfl (Or.inl ew_205) (cShC_5 hsw1).1 (cShC_5 hsw1).2.1 (rShC_5_6 hsw1) ?_
      refine ea_iload (pc := 49) dX11_whatIf_49 2 rfl ?_
      refine ea_iload_n (pc := 51) dX11_whatIf_51 rfl 1 rfl ?_
      obtain ⟨H6, eH6, E⟩ := let_some E
      refine ea_iast (pc := 52) dX11_whatIf_52 (cShC_11 hsw1).1 (cShC_11 hsw1).2.1 (ea_vpl (cShC_11 hsw1).2.2 z5) ?_
      refine ea_nm eH6 ?_
      have hsH6 : ShC H6 := by rw [eH6]; exact hsw1
      obtain ⟨H7, eH7, E⟩ := let_some E
      refine ea_aload_n (pc := 53) dX11_whatIf_53 rfl 0 rfl ?_
      refine ea_getR (pc := 54) dX11_whatIf_54 ec_11 (k := 2) (Nat.le_of_ble_eq_true rfl) rfl (Or.inl ew_616) (cShC_0 hsH6).1 (cShC_0 hsH6).2.1 (rShC_0_2 hsH6) ?_
      refine ea_iconst (pc := 57) dX11_whatIf_57 (v := 0) rfl ?_
      refine ea_putI (pc := 58) dX11_whatIf_58 ec_10 (k := 0) (Nat.le_of_ble_eq_true rfl) rfl (Or.inl ⟨rfl, Or.inl ew_233⟩) (ea_bn (Or.inl rfl)) (ea_bf (Or.inl rfl)) (cShC_13 hsH6).1 (cShC_13 hsH6).2.1 ?_
      refine ea_nm eH7 ?_
      have hsH7 : ShC H7 := by rw [eH7]; exact hsH6
      obtain ⟨w8, Ew8, E⟩ := bd_some E
      have hsw8 : ShC w8.2 := ShC_core ((kpX11_outcome _) _ Ew8) hsH7
      refine ea_aload_n (pc := 61) dX11_whatIf_61 rfl 0 rfl ?_
      refine ea_callV (pc := 62) (d' := d - 1) (As := []) (st := []) dX11_whatIf_62 kX11_outcome (sX11_outcome (d := d - 1) (by omega) hsH7 Ew8) (by omega) rfl (Nat.le_of_ble_eq_true rfl) ew_1373 ew_1375 ew_52 (ci := 11) rfl (by decide) (cShC_0 hsH7).1 (cShC_0 hsH7).2.1 ?_
      obtain ⟨z9, E⟩ := gd_some E
      refine ea_istore (pc := 65) (lv' := [(0, vR (some 0)), (4, vI v2), (5, vI v4), (6, vI w8.1)]) dX11_whatIf_65 (Nat.le_of_ble_eq_true rfl) [1, 3, 4, 0] rfl ?_
      refine ea_aload_n (pc := 67) dX11_whatIf_67 rfl 0 rfl ?_
      refine ea_getR (pc := 68) dX11_whatIf_68 ec_11 (k := 1) (Nat.le_of_ble_eq_true rfl) rfl (Or.inl ew_615) (cShC_0 hsw8).1 (cShC_0 hsw8).2.1 (rShC_0_1 hsw8) ?_
      refine ea_getR (pc := 71) dX11_whatIf_71 ec_9 (k := 6) (Nat.le_of_ble_eq_true rfl) rfl (Or.inl ew_205) (cShC_5 hsw8).1 (cShC_5 hsw8).2.1 (rShC_5_6 hsw8) ?_
      refine ea_iload (pc := 74) dX11_whatIf_74 1 rfl ?_
      refine ea_iload (pc := 76) dX11_whatIf_76 2 rfl ?_
      obtain ⟨H10, eH10, E⟩ := let_some E
      refine ea_iast (pc := 78) dX11_whatIf_78 (cShC_11 hsw8).1 (cShC_11 hsw8).2.1 (ea_vpl (cShC_11 hsw8).2.2 z9) ?_
      refine ea_nm eH10 ?_
      have hsH10 : ShC H10 := by rw [eH10]; exact hsw8
      obtain ⟨H11, eH11, E⟩ := let_some E
      refine ea_aload_n (pc := 79) dX11_whatIf_79 rfl 0 rfl ?_
      refine ea_getR (pc := 80) dX11_whatIf_80 ec_11 (k := 2) (Nat.le_of_ble_eq_true rfl) rfl (Or.inl ew_616) (cShC_0 hsH10).1 (cShC_0 hsH10).2.1 (rShC_0_2 hsH10) ?_
      refine ea_iconst (pc := 83) dX11_whatIf_83 (v := 0) rfl ?_
      refine ea_putI (pc := 84) dX11_whatIf_84 ec_10 (k := 0) (Nat.le_of_ble_eq_true rfl) rfl (Or.inl ⟨rfl, Or.inl ew_233⟩) (ea_bn (Or.inl rfl)) (ea_bf (Or.inl rfl)) (cShC_13 hsH10).1 (cShC_13 hsH10).2.1 ?_
      refine ea_nm eH11 ?_
      have hsH11 : ShC H11 := by rw [eH11]; exact hsH10
      refine ea_iload (pc := 87) dX11_whatIf_87 3 rfl ?_
      exact ea_iretO (pc := 89) dX11_whatIf_89 rfl rfl E
    · have E := (if_pos c12).symm.trans E
      refine ea_iconst (pc := 20) dX11_whatIf_20 (v := (-1)) rfl ?_
      exact ea_iretO (pc := 21) dX11_whatIf_21 rfl rfl E
  · have E := (if_pos c14).symm.trans E
    obtain ⟨w13, Ew13, E⟩ := bd_some E
    have hsw13 : ShC w13.2 := ShC_core ((kpX11_outcome _) _ Ew13) hs
    refine ea_aload_n (pc := 5) dX11_whatIf_5 rfl 0 rfl ?_
    refine ea_callV (pc := 6) (d' := d - 1) (As := []) (st := []) dX11_whatIf_6 kX11_outcome (sX11_outcome (d := d - 1) (by omega) hs Ew13) (by omega) rfl (Nat.le_of_ble_eq_true rfl) ew_1373 ew_1375 ew_52 (ci := 11) rfl (by decide) (cShC_0 hs).1 (cShC_0 hs).2.1 ?_
    exact ea_iretO (pc := 9) dX11_whatIf_9 rfl rfl E
theorem kBX11_whatIf_0  {x1 : Int32} {x2 : Int32} {x3 : Int32} {h : ea_H} : kp (ea_core h) (BX11_whatIf_0 x1 x2 x3 h) :=
  (kp_ite (kp_bind (kp_tw (kpX11_outcome _) rfl) fun w13 hcw13 => (kp_ret hcw13)) (kp_bind (kp_tw (kpX11_mayBeTold _ _ _ _) rfl) fun w1 hcw1 => (kp_ite (kp_ret hcw1) (kp_let (kp_gd (kp_let (kp_gd (kp_let (kp_let (kp_bind (kp_tw (kpX11_outcome _) hcw1) fun w8 hcw8 => (kp_gd (kp_let (kp_let (kp_ret hcw8))))))))))))))
noncomputable def qX11_whatIf (x1 : Int32) (x2 : Int32) (x3 : Int32) (h : ea_H) : Option (Int32 × ea_H) := BX11_whatIf_0 x1 x2 x3 h
theorem sX11_whatIf {d : Nat} {x1 : Int32} {x2 : Int32} {x3 : Int32} {h : ea_H} {r : Int32} {h' : ea_H} (hd : 7 ≤ d) (hs : ShC h) (K : qX11_whatIf x1 x2 x3 h = some (r, h')) : ea_Met mX11_whatIf d [vR (some 0), vI x1, vI x2, vI x3] h (some (vI r)) h' := by
  unfold qX11_whatIf at K
  have W := tBX11_whatIf_0 hd (h0 := h) K hs
  exact ea_enter rfl (Nat.le_of_ble_eq_true rfl) W
theorem kpX11_whatIf (x1 : Int32) (x2 : Int32) (x3 : Int32) (h : ea_H) : kp (ea_core h) (qX11_whatIf x1 x2 x3 h) := kBX11_whatIf_0
noncomputable def BX11_seats_0 (J51 : Int32 → ea_H → Option (Int32 × ea_H)) (x1 : Int32) (h : ea_H) : Option (Int32 × ea_H) :=
  (if (ea_i h 5 0) = (0 : Int32) then (some (((-1) : Int32), h)) else (if (ea_i h 18 0) = (0 : Int32) then (some (((-1) : Int32), h)) else (if x1 = (0 : Int32) then (J51 (x1 : Int32) h) else (if x1 = (10 : Int32) then (J51 (x1 : Int32) h) else (if x1 = (11 : Int32) then (if (2 : Int32) ≤ (ea_i h 18 0) then (J51 (x1 : Int32) h) else (some (((-1) : Int32), h))) else (some (((-1) : Int32), h)))))))
theorem tBX11_seats_0 {d : Nat} {h0 : ea_H} (hd : 8 ≤ d) {J51 : Int32 → ea_H → Option (Int32 × ea_H)}  (kJ51 : ∀ (x1 : Int32) (h : ea_H) (r : Int32) (h' : ea_H), J51 x1 h = some (r, h') → ShC h → ea_W mX11_seats d h0 (some (vI r)) h' 51 [(0, vR (some 0)), (1, vI x1)] [] h) {x1 : Int32} {h : ea_H} {r : Int32} {h' : ea_H} (E : BX11_seats_0 J51 x1 h = some (r, h')) (hs : ShC h) : ea_W mX11_seats d h0 (some (vI r)) h' 0 [(0, vR (some 0)), (1, vI x1)] [] h := by
  unfold BX11_seats_0 at E
  refine ea_aload_n (pc := 0) dX11_seats_0 rfl 0 rfl ?_
  refine ea_getR (pc := 1) dX11_seats_1 ec_11 (k := 1) (Nat.le_of_ble_eq_true rfl) rfl (Or.inl ew_615) (cShC_0 hs).1 (cShC_0 hs).2.1 (rShC_0_1 hs) ?_
  refine ea_getI (pc := 4) dX11_seats_4 ec_9 (k := 0) (Nat.le_of_ble_eq_true rfl) rfl (Or.inl ew_185) (cShC_5 hs).1 (cShC_5 hs).2.1 ?_
  refine ea_if_eq (pc := 7) (tgt := 20) dX11_seats_7 rfl (fun c6 => ?_) (fun c6 => ?_)
  · have E := (if_pos c6).symm.trans E
    refine ea_iconst (pc := 20) dX11_seats_20 (v := (-1)) rfl ?_
    exact ea_iretO (pc := 21) dX11_seats_21 rfl rfl E
  · have E := (if_neg c6).symm.trans E
    refine ea_aload_n (pc := 10) dX11_seats_10 rfl 0 rfl ?_
    refine ea_getR (pc := 11) dX11_seats_11 ec_11 (k := 3) (Nat.le_of_ble_eq_true rfl) rfl (Or.inl ew_617) (cShC_0 hs).1 (cShC_0 hs).2.1 (rShC_0_3 hs) ?_
    refine ea_getI (pc := 14) dX11_seats_14 ec_3 (k := 0) (Nat.le_of_ble_eq_true rfl) rfl (Or.inl ew_265) (cShC_18 hs).1 (cShC_18 hs).2.1 ?_
    refine ea_if_ne (pc := 17) (tgt := 22) dX11_seats_17 rfl (fun c5 => ?_) (fun c5 => ?_)
    · have E := (if_neg c5).symm.trans E
      refine ea_iload_n (pc := 22) dX11_seats_22 rfl 1 rfl ?_
      refine ea_if_eq (pc := 23) (tgt := 51) dX11_seats_23 rfl (fun c4 => ?_) (fun c4 => ?_)
      · have E := (if_pos c4).symm.trans E
        exact (kJ51 (x1 : Int32) h _ _ E hs)
      · have E := (if_neg c4).symm.trans E
        refine ea_iload_n (pc := 26) dX11_seats_26 rfl 1 rfl ?_
        refine ea_bipush (pc := 27) dX11_seats_27 (v := 10) rfl ?_
        refine ea_icmp_eq (pc := 29) (tgt := 51) dX11_seats_29 rfl (fun c3 => ?_) (fun c3 => ?_)
        · have E := (if_pos c3).symm.trans E
          exact (kJ51 (x1 : Int32) h _ _ E hs)
        · have E := (if_neg c3).symm.trans E
          refine ea_iload_n (pc := 32) dX11_seats_32 rfl 1 rfl ?_
          refine ea_bipush (pc := 33) dX11_seats_33 (v := 11) rfl ?_
          refine ea_icmp_ne (pc := 35) (tgt := 49) dX11_seats_35 rfl (fun c2 => ?_) (fun c2 => ?_)
          · have E := (if_neg c2).symm.trans E
            refine ea_iconst (pc := 49) dX11_seats_49 (v := (-1)) rfl ?_
            exact ea_iretO (pc := 50) dX11_seats_50 rfl rfl E
          · have E := (if_pos c2).symm.trans E
            refine ea_aload_n (pc := 38) dX11_seats_38 rfl 0 rfl ?_
            refine ea_getR (pc := 39) dX11_seats_39 ec_11 (k := 3) (Nat.le_of_ble_eq_true rfl) rfl (Or.inl ew_617) (cShC_0 hs).1 (cShC_0 hs).2.1 (rShC_0_3 hs) ?_
            refine ea_getI (pc := 42) dX11_seats_42 ec_3 (k := 0) (Nat.le_of_ble_eq_true rfl) rfl (Or.inl ew_265) (cShC_18 hs).1 (cShC_18 hs).2.1 ?_
            refine ea_iconst (pc := 45) dX11_seats_45 (v := 2) rfl ?_
            refine ea_icmp_ge (pc := 46) (tgt := 51) dX11_seats_46 rfl (fun c1 => ?_) (fun c1 => ?_)
            · have E := (if_pos c1).symm.trans E
              exact (kJ51 (x1 : Int32) h _ _ E hs)
            · have E := (if_neg c1).symm.trans E
              refine ea_iconst (pc := 49) dX11_seats_49 (v := (-1)) rfl ?_
              exact ea_iretO (pc := 50) dX11_seats_50 rfl rfl E
    · have E := (if_pos c5).symm.trans E
      refine ea_iconst (pc := 20) dX11_seats_20 (v := (-1)) rfl ?_
      exact ea_iretO (pc := 21) dX11_seats_21 rfl rfl E
theorem kBX11_seats_0 {J51 : Int32 → ea_H → Option (Int32 × ea_H)}  (cJ51 : ∀ (x1 : Int32) (h : ea_H), kp (ea_core h) (J51 x1 h)) {x1 : Int32} {h : ea_H} : kp (ea_core h) (BX11_seats_0 J51 x1 h) :=
  (kp_ite (kp_ret rfl) (kp_ite (kp_ret rfl) (kp_ite (kp_tw (cJ51 _ _) rfl) (kp_ite (kp_tw (cJ51 _ _) rfl) (kp_ite (kp_ite (kp_tw (cJ51 _ _) rfl) (kp_ret rfl)) (kp_ret rfl))))))
theorem lBX11_seats_0 {J51 : Int32 → ea_H → Option (Int32 × ea_H)} {J51_ : Int32 → ea_H → Option (Int32 × ea_H)}  (mJ51 : ∀ (x1 : Int32) (h : ea_H), fle (J51 x1 h) (J51_ x1 h)) {x1 : Int32} {h : ea_H} : fle (BX11_seats_0 J51 x1 h) (BX11_seats_0 J51_ x1 h) :=
  (fle_ite (fle_rfl _) (fle_ite (fle_rfl _) (fle_ite (mJ51 _ _) (fle_ite (mJ51 _ _) (fle_ite (fle_ite (mJ51 _ _) (fle_rfl _)) (fle_rfl _))))))
theorem nBX11_seats_0 {J51 : Int32 → ea_H → Option (Int32 × ea_H)} {J51_ : Nat → (Int32 → ea_H → Option (Int32 × ea_H))}  (mJ51 : ∀ (x1 : Int32) (h : ea_H), fct (J51 x1 h) (fun f => J51_ f x1 h)) {x1 : Int32} {h : ea_H} : fct (BX11_seats_0 J51 x1 h) (fun f => BX11_seats_0 (J51_ f) x1 h) :=
  (fct_ite (fct_rfl _) (fct_ite (fct_rfl _) (fct_ite (mJ51 _ _) (fct_ite (mJ51 _ _) (fct_ite (fct_ite (mJ51 _ _) (fct_rfl _)) (fct_rfl _))))))
noncomputable def BX11_seats_51 (J62 : Int32 → ea_H → Option (Int32 × ea_H)) (x1 : Int32) (h : ea_H) : Option (Int32 × ea_H) :=
  (if (ea_i h 0 15) = (0 : Int32) then (Option.bind (qX11_seekSeats  h) fun w7 => (J62 (x1 : Int32) w7.2)) else (J62 (x1 : Int32) h))
theorem tBX11_seats_51 {d : Nat} {h0 : ea_H} (hd : 8 ≤ d) {J62 : Int32 → ea_H → Option (Int32 × ea_H)}  (kJ62 : ∀ (x1 : Int32) (h : ea_H) (r : Int32) (h' : ea_H), J62 x1 h = some (r, h') → ShC h → ea_W mX11_seats d h0 (some (vI r)) h' 62 [(0, vR (some 0)), (1, vI x1)] [] h) {x1 : Int32} {h : ea_H} {r : Int32} {h' : ea_H} (E : BX11_seats_51 J62 x1 h = some (r, h')) (hs : ShC h) : ea_W mX11_seats d h0 (some (vI r)) h' 51 [(0, vR (some 0)), (1, vI x1)] [] h := by
  unfold BX11_seats_51 at E
  refine ea_aload_n (pc := 51) dX11_seats_51 rfl 0 rfl ?_
  refine ea_getI (pc := 52) dX11_seats_52 ec_11 (k := 15) (Nat.le_of_ble_eq_true rfl) rfl (Or.inl ew_629) (cShC_0 hs).1 (cShC_0 hs).2.1 ?_
  refine ea_if_ne (pc := 55) (tgt := 62) dX11_seats_55 rfl (fun c8 => ?_) (fun c8 => ?_)
  · have E := (if_neg c8).symm.trans E
    exact (kJ62 (x1 : Int32) h _ _ E hs)
  · have E := (if_pos c8).symm.trans E
    obtain ⟨w7, Ew7, E⟩ := bd_some E
    have hsw7 : ShC w7.2 := ShC_core ((kpX11_seekSeats _) _ Ew7) hs
    refine ea_aload_n (pc := 58) dX11_seats_58 rfl 0 rfl ?_
    refine ea_callV (pc := 59) (d' := d - 1) (As := []) (st := []) dX11_seats_59 kX11_seekSeats (sX11_seekSeats (d := d - 1) (by omega) hs Ew7) (by omega) rfl (Nat.le_of_ble_eq_true rfl) ew_1390 ew_1392 ew_53 (ci := 11) rfl (by decide) (cShC_0 hs).1 (cShC_0 hs).2.1 ?_
    exact (kJ62 (x1 : Int32) w7.2 _ _ E hsw7)
theorem kBX11_seats_51 {J62 : Int32 → ea_H → Option (Int32 × ea_H)}  (cJ62 : ∀ (x1 : Int32) (h : ea_H), kp (ea_core h) (J62 x1 h)) {x1 : Int32} {h : ea_H} : kp (ea_core h) (BX11_seats_51 J62 x1 h) :=
  (kp_ite (kp_bind (kp_tw (kpX11_seekSeats _) rfl) fun w7 hcw7 => (kp_tw (cJ62 _ _) hcw7)) (kp_tw (cJ62 _ _) rfl))
theorem lBX11_seats_51 {J62 : Int32 → ea_H → Option (Int32 × ea_H)} {J62_ : Int32 → ea_H → Option (Int32 × ea_H)}  (mJ62 : ∀ (x1 : Int32) (h : ea_H), fle (J62 x1 h) (J62_ x1 h)) {x1 : Int32} {h : ea_H} : fle (BX11_seats_51 J62 x1 h) (BX11_seats_51 J62_ x1 h) :=
  (fle_ite (fle_bind (fle_rfl _) fun _ => (mJ62 _ _)) (mJ62 _ _))
theorem nBX11_seats_51 {J62 : Int32 → ea_H → Option (Int32 × ea_H)} {J62_ : Nat → (Int32 → ea_H → Option (Int32 × ea_H))}  (mJ62 : ∀ (x1 : Int32) (h : ea_H), fct (J62 x1 h) (fun f => J62_ f x1 h)) {x1 : Int32} {h : ea_H} : fct (BX11_seats_51 J62 x1 h) (fun f => BX11_seats_51 (J62_ f) x1 h) :=
  (fct_ite (fct_bind (fct_rfl _) fun _ => (mJ62 _ _)) (mJ62 _ _))
noncomputable def BX11_seats_62 (x1 : Int32) (h : ea_H) : Option (Int32 × ea_H) :=
  (if x1 = (0 : Int32) then (some ((ea_i h 0 16), h)) else (if x1 = (10 : Int32) then (some ((ea_i h 0 17), h)) else (some ((ea_i h 0 18), h))))
theorem tBX11_seats_62 {d : Nat} {h0 : ea_H} (hd : 8 ≤ d)  {x1 : Int32} {h : ea_H} {r : Int32} {h' : ea_H} (E : BX11_seats_62 x1 h = some (r, h')) (hs : ShC h) : ea_W mX11_seats d h0 (some (vI r)) h' 62 [(0, vR (some 0)), (1, vI x1)] [] h := by
  unfold BX11_seats_62 at E
  refine ea_iload_n (pc := 62) dX11_seats_62 rfl 1 rfl ?_
  refine ea_if_ne (pc := 63) (tgt := 71) dX11_seats_63 rfl (fun c10 => ?_) (fun c10 => ?_)
  · have E := (if_neg c10).symm.trans E
    refine ea_iload_n (pc := 71) dX11_seats_71 rfl 1 rfl ?_
    refine ea_bipush (pc := 72) dX11_seats_72 (v := 10) rfl ?_
    refine ea_icmp_ne (pc := 74) (tgt := 84) dX11_seats_74 rfl (fun c9 => ?_) (fun c9 => ?_)
    · have E := (if_neg c9).symm.trans E
      refine ea_aload_n (pc := 84) dX11_seats_84 rfl 0 rfl ?_
      refine ea_getI (pc := 85) dX11_seats_85 ec_11 (k := 18) (Nat.le_of_ble_eq_true rfl) rfl (Or.inl ew_632) (cShC_0 hs).1 (cShC_0 hs).2.1 ?_
      exact ea_iretO (pc := 88) dX11_seats_88 rfl rfl E
    · have E := (if_pos c9).symm.trans E
      refine ea_aload_n (pc := 77) dX11_seats_77 rfl 0 rfl ?_
      refine ea_getI (pc := 78) dX11_seats_78 ec_11 (k := 17) (Nat.le_of_ble_eq_true rfl) rfl (Or.inl ew_631) (cShC_0 hs).1 (cShC_0 hs).2.1 ?_
      refine ea_goto (pc := 81) (tgt := 88) dX11_seats_81 rfl ?_
      exact ea_iretO (pc := 88) dX11_seats_88 rfl rfl E
  · have E := (if_pos c10).symm.trans E
    refine ea_aload_n (pc := 66) dX11_seats_66 rfl 0 rfl ?_
    refine ea_getI (pc := 67) dX11_seats_67 ec_11 (k := 16) (Nat.le_of_ble_eq_true rfl) rfl (Or.inl ew_630) (cShC_0 hs).1 (cShC_0 hs).2.1 ?_
    exact ea_iretO (pc := 70) dX11_seats_70 rfl rfl E
theorem kBX11_seats_62  {x1 : Int32} {h : ea_H} : kp (ea_core h) (BX11_seats_62 x1 h) :=
  (kp_ite (kp_ret rfl) (kp_ite (kp_ret rfl) (kp_ret rfl)))
theorem lBX11_seats_62  {x1 : Int32} {h : ea_H} : fle (BX11_seats_62 x1 h) (BX11_seats_62 x1 h) :=
  (fle_rfl _)
theorem nBX11_seats_62  {x1 : Int32} {h : ea_H} : fct (BX11_seats_62 x1 h) (fun f => BX11_seats_62 x1 h) :=
  (fct_rfl _)
noncomputable def gX11_seats : Nat → (Int32 → ea_H → Option (Int32 × ea_H)) × (Int32 → ea_H → Option (Int32 × ea_H)) × (Int32 → ea_H → Option (Int32 × ea_H))
  | 0 => (fun _ _ => none, fun _ _ => none, fun _ _ => none)
  | f + 1 => (BX11_seats_0 (gX11_seats f).2.1, BX11_seats_51 (gX11_seats f).2.2, BX11_seats_62)
theorem mgX11_seats : ∀ f : Nat, (∀ (x1 : Int32) (h : ea_H), fle ((gX11_seats f).1 x1 h) ((gX11_seats (f + 1)).1 x1 h)) ∧ (∀ (x1 : Int32) (h : ea_H), fle ((gX11_seats f).2.1 x1 h) ((gX11_seats (f + 1)).2.1 x1 h)) ∧ (∀ (x1 : Int32) (h : ea_H), fle ((gX11_seats f).2.2 x1 h) ((gX11_seats (f + 1)).2.2 x1 h)) := by
  intro f
  induction f with
  | zero => exact ⟨fun _ _ => fle_none _, fun _ _ => fle_none _, fun _ _ => fle_none _⟩
  | succ f ih => exact ⟨fun _ _ => lBX11_seats_0 ih.2.1, fun _ _ => lBX11_seats_51 ih.2.2, fun _ _ => lBX11_seats_62⟩
noncomputable def qX11_seats_0 (x1 : Int32) (h : ea_H) : Option (Int32 × ea_H) := flim fun f => (gX11_seats f).1 x1 h
noncomputable def qX11_seats_51 (x1 : Int32) (h : ea_H) : Option (Int32 × ea_H) := flim fun f => (gX11_seats f).2.1 x1 h
noncomputable def qX11_seats_62 (x1 : Int32) (h : ea_H) : Option (Int32 × ea_H) := flim fun f => (gX11_seats f).2.2 x1 h
theorem fqX11_seats_0 (x1 : Int32) (h : ea_H) : fct (qX11_seats_0 x1 h) fun f => (gX11_seats f).1 x1 h := flim_ct fun f => (mgX11_seats f).1 x1 h
theorem fqX11_seats_51 (x1 : Int32) (h : ea_H) : fct (qX11_seats_51 x1 h) fun f => (gX11_seats f).2.1 x1 h := flim_ct fun f => (mgX11_seats f).2.1 x1 h
theorem fqX11_seats_62 (x1 : Int32) (h : ea_H) : fct (qX11_seats_62 x1 h) fun f => (gX11_seats f).2.2 x1 h := flim_ct fun f => (mgX11_seats f).2.2 x1 h
/-- how a block opens -/
theorem uqX11_seats_0 {x1 : Int32} {h : ea_H} {P : Int32 × ea_H → Prop} (H : sat (BX11_seats_0 qX11_seats_51 x1 h) P) : sat (qX11_seats_0 x1 h) P := by
  obtain ⟨x, e, hp⟩ := H
  obtain ⟨n, hn⟩ := nBX11_seats_0 fqX11_seats_51 x e
  exact ⟨x, flim_at (fun f => (mgX11_seats f).1 x1 h) (f := n + 1) (hn n (Nat.le_refl _)), hp⟩
/-- how a block opens -/
theorem uqX11_seats_51 {x1 : Int32} {h : ea_H} {P : Int32 × ea_H → Prop} (H : sat (BX11_seats_51 qX11_seats_62 x1 h) P) : sat (qX11_seats_51 x1 h) P := by
  obtain ⟨x, e, hp⟩ := H
  obtain ⟨n, hn⟩ := nBX11_seats_51 fqX11_seats_62 x e
  exact ⟨x, flim_at (fun f => (mgX11_seats f).2.1 x1 h) (f := n + 1) (hn n (Nat.le_refl _)), hp⟩
/-- how a block opens -/
theorem uqX11_seats_62 {x1 : Int32} {h : ea_H} {P : Int32 × ea_H → Prop} (H : sat (BX11_seats_62 x1 h) P) : sat (qX11_seats_62 x1 h) P := by
  obtain ⟨x, e, hp⟩ := H
  obtain ⟨n, hn⟩ := nBX11_seats_62 x e
  exact ⟨x, flim_at (fun f => (mgX11_seats f).2.2 x1 h) (f := n + 1) (hn n (Nat.le_refl _)), hp⟩
theorem kgX11_seats : ∀ f : Nat, (∀ (x1 : Int32) (h : ea_H), kp (ea_core h) ((gX11_seats f).1 x1 h)) ∧ (∀ (x1 : Int32) (h : ea_H), kp (ea_core h) ((gX11_seats f).2.1 x1 h)) ∧ (∀ (x1 : Int32) (h : ea_H), kp (ea_core h) ((gX11_seats f).2.2 x1 h)) := by
  intro f
  induction f with
  | zero => exact ⟨fun _ _ => kp_none _, fun _ _ => kp_none _, fun _ _ => kp_none _⟩
  | succ f ih => exact ⟨fun _ _ => kBX11_seats_0 ih.2.1, fun _ _ => kBX11_seats_51 ih.2.2, fun _ _ => kBX11_seats_62⟩
theorem tgX11_seats {d : Nat} {h0 : ea_H} (hd : 8 ≤ d) : ∀ f : Nat, (∀ (x1 : Int32) (h : ea_H) (r : Int32) (h' : ea_H), (gX11_seats f).1 x1 h = some (r, h') → ShC h → ea_W mX11_seats d h0 (some (vI r)) h' 0 [(0, vR (some 0)), (1, vI x1)] [] h) ∧ (∀ (x1 : Int32) (h : ea_H) (r : Int32) (h' : ea_H), (gX11_seats f).2.1 x1 h = some (r, h') → ShC h → ea_W mX11_seats d h0 (some (vI r)) h' 51 [(0, vR (some 0)), (1, vI x1)] [] h) ∧ (∀ (x1 : Int32) (h : ea_H) (r : Int32) (h' : ea_H), (gX11_seats f).2.2 x1 h = some (r, h') → ShC h → ea_W mX11_seats d h0 (some (vI r)) h' 62 [(0, vR (some 0)), (1, vI x1)] [] h) := by
  intro f
  induction f with
  | zero => exact ⟨fun _ _ _ _ E => no_some E, fun _ _ _ _ E => no_some E, fun _ _ _ _ E => no_some E⟩
  | succ f ih => exact ⟨fun _ _ _ _ E hs => tBX11_seats_0 hd ih.2.1 E hs, fun _ _ _ _ E hs => tBX11_seats_51 hd ih.2.2 E hs, fun _ _ _ _ E hs => tBX11_seats_62 hd E hs⟩
noncomputable def qX11_seats (x1 : Int32) (h : ea_H) : Option (Int32 × ea_H) := qX11_seats_0 x1 h
theorem sX11_seats {d : Nat} {x1 : Int32} {h : ea_H} {r : Int32} {h' : ea_H} (hd : 8 ≤ d) (hs : ShC h) (K : qX11_seats x1 h = some (r, h')) : ea_Met mX11_seats d [vR (some 0), vI x1] h (some (vI r)) h' := by
  unfold qX11_seats at K
  obtain ⟨n, hn⟩ := fqX11_seats_0 x1 h _ K
  have W := (tgX11_seats (d := d) (h0 := h) hd n).1 x1 h _ _ (hn n (Nat.le_refl _)) hs
  exact ea_enter rfl (Nat.le_of_ble_eq_true rfl) W
theorem kpX11_seats (x1 : Int32) (h : ea_H) : kp (ea_core h) (qX11_seats x1 h) := fun x e => by
  obtain ⟨n, hn⟩ := fqX11_seats_0 x1 h x e
  exact (kgX11_seats n).1 x1 h x (hn n (Nat.le_refl _))
noncomputable def BX6_readSum_0 (JX6_readSum_12 : Nat → Int32 → Int32 → ea_H → Option (Int32 × ea_H)) (JX6_readProduct_0 : Nat → Int32 → ea_H → Option (Int32 × ea_H)) (dep : Nat) (x1 : Int32) (h : ea_H) : Option (Int32 × ea_H) :=
  (gd (0 < dep) (Option.bind (JX6_readProduct_0 (dep - 1) (x1 : Int32) h) fun w1 => (if w1.1 = (0 : Int32) then (some ((0 : Int32), w1.2)) else (JX6_readSum_12 dep (x1 : Int32) (0 : Int32) w1.2))))
theorem tBX6_readSum_0 {JX6_readSum_12 : Nat → Int32 → Int32 → ea_H → Option (Int32 × ea_H)} {JX6_readProduct_0 : Nat → Int32 → ea_H → Option (Int32 × ea_H)}  (kJX6_readSum_12 : ∀ (dep : Nat) (x1 : Int32) (x2 : Int32) (h : ea_H) (r : Int32) (h' : ea_H), JX6_readSum_12 dep x1 x2 h = some (r, h') → ShC h → ∀ (d : Nat) (h0 : ea_H), 2 + dep ≤ d → ea_W mX6_readSum d h0 (some (vI r)) h' 12 [(0, vR (some 24)), (1, vI x1), (2, vI x2)] [] h) (kJX6_readProduct_0 : ∀ (dep : Nat) (x1 : Int32) (h : ea_H) (r : Int32) (h' : ea_H), JX6_readProduct_0 dep x1 h = some (r, h') → ShC h → ∀ (d : Nat) (h0 : ea_H), 2 + dep ≤ d → ea_W mX6_readProduct d h0 (some (vI r)) h' 0 [(0, vR (some 24)), (1, vI x1)] [] h) (cJX6_readProduct_0 : ∀ (dep : Nat) (x1 : Int32) (h : ea_H), kp (ea_core h) (JX6_readProduct_0 dep x1 h)) {x1 : Int32} {dep : Nat} {h : ea_H} {r : Int32} {h' : ea_H} (E : BX6_readSum_0 JX6_readSum_12 JX6_readProduct_0 dep x1 h = some (r, h')) (hs : ShC h) {d : Nat} {h0 : ea_H} (hd : 2 + dep ≤ d) : ea_W mX6_readSum d h0 (some (vI r)) h' 0 [(0, vR (some 24)), (1, vI x1)] [] h := by
  unfold BX6_readSum_0 at E
  obtain ⟨zd2, E⟩ := gd_some E
  refine ea_aload_n (pc := 0) dX6_readSum_0 rfl 0 rfl ?_
  refine ea_iload_n (pc := 1) dX6_readSum_1 rfl 1 rfl ?_
  obtain ⟨w1, Ew1, E⟩ := bd_some E
  have hsw1 : ShC w1.2 := ShC_core ((cJX6_readProduct_0 (dep - 1) _ _) _ Ew1) hs
  refine ea_callV (pc := 2) (d' := d - 1) (As := [vI x1]) (st := []) dX6_readSum_2 kX6_readProduct (ea_enter rfl (Nat.le_of_ble_eq_true rfl) (kJX6_readProduct_0 (dep - 1) (x1 : Int32) _ _ _ Ew1 hs (d - 1) h (by omega))) (by omega) rfl (Nat.le_of_ble_eq_true rfl) ew_1004 ew_1006 ew_23 (ci := 6) rfl (by decide) (cShC_24 hs).1 (cShC_24 hs).2.1 ?_
  refine ea_if_ne (pc := 5) (tgt := 10) dX6_readSum_5 rfl (fun c3 => ?_) (fun c3 => ?_)
  · have E := (if_neg c3).symm.trans E
    refine ea_iconst (pc := 10) dX6_readSum_10 (v := 0) rfl ?_
    refine ea_istore_n (pc := 11) (lv' := [(0, vR (some 24)), (1, vI x1), (2, vI 0)]) dX6_readSum_11 rfl (Nat.le_of_ble_eq_true rfl) [1, 2, 0] rfl ?_
    exact (kJX6_readSum_12 dep (x1 : Int32) (0 : Int32) w1.2 _ _ E hsw1 d h0 hd)
  · have E := (if_pos c3).symm.trans E
    refine ea_iconst (pc := 8) dX6_readSum_8 (v := 0) rfl ?_
    exact ea_iretO (pc := 9) dX6_readSum_9 rfl (ea_bn (Or.inl rfl)) E
theorem kBX6_readSum_0 {JX6_readSum_12 : Nat → Int32 → Int32 → ea_H → Option (Int32 × ea_H)} {JX6_readProduct_0 : Nat → Int32 → ea_H → Option (Int32 × ea_H)}  (cJX6_readSum_12 : ∀ (dep : Nat) (x1 : Int32) (x2 : Int32) (h : ea_H), kp (ea_core h) (JX6_readSum_12 dep x1 x2 h)) (cJX6_readProduct_0 : ∀ (dep : Nat) (x1 : Int32) (h : ea_H), kp (ea_core h) (JX6_readProduct_0 dep x1 h)) {dep : Nat} {x1 : Int32} {h : ea_H} : kp (ea_core h) (BX6_readSum_0 JX6_readSum_12 JX6_readProduct_0 dep x1 h) :=
  (kp_gd (kp_bind (kp_tw (cJX6_readProduct_0 (dep - 1) _ _) rfl) fun w1 hcw1 => (kp_ite (kp_ret hcw1) (kp_tw (cJX6_readSum_12 _ _ _ _) hcw1))))
theorem lBX6_readSum_0 {JX6_readSum_12 : Nat → Int32 → Int32 → ea_H → Option (Int32 × ea_H)} {JX6_readProduct_0 : Nat → Int32 → ea_H → Option (Int32 × ea_H)} {JX6_readSum_12_ : Nat → Int32 → Int32 → ea_H → Option (Int32 × ea_H)} {JX6_readProduct_0_ : Nat → Int32 → ea_H → Option (Int32 × ea_H)}  (mJX6_readSum_12 : ∀ (dep : Nat) (x1 : Int32) (x2 : Int32) (h : ea_H), fle (JX6_readSum_12 dep x1 x2 h) (JX6_readSum_12_ dep x1 x2 h)) (mJX6_readProduct_0 : ∀ (dep : Nat) (x1 : Int32) (h : ea_H), fle (JX6_readProduct_0 dep x1 h) (JX6_readProduct_0_ dep x1 h)) {dep : Nat} {x1 : Int32} {h : ea_H} : fle (BX6_readSum_0 JX6_readSum_12 JX6_readProduct_0 dep x1 h) (BX6_readSum_0 JX6_readSum_12_ JX6_readProduct_0_ dep x1 h) :=
  (fle_gd (fle_bind (mJX6_readProduct_0 _ _ _) fun _ => (fle_ite (fle_rfl _) (mJX6_readSum_12 _ _ _ _))))
theorem nBX6_readSum_0 {JX6_readSum_12 : Nat → Int32 → Int32 → ea_H → Option (Int32 × ea_H)} {JX6_readProduct_0 : Nat → Int32 → ea_H → Option (Int32 × ea_H)} {JX6_readSum_12_ : Nat → (Nat → Int32 → Int32 → ea_H → Option (Int32 × ea_H))} {JX6_readProduct_0_ : Nat → (Nat → Int32 → ea_H → Option (Int32 × ea_H))}  (mJX6_readSum_12 : ∀ (dep : Nat) (x1 : Int32) (x2 : Int32) (h : ea_H), fct (JX6_readSum_12 dep x1 x2 h) (fun f => JX6_readSum_12_ f dep x1 x2 h)) (mJX6_readProduct_0 : ∀ (dep : Nat) (x1 : Int32) (h : ea_H), fct (JX6_readProduct_0 dep x1 h) (fun f => JX6_readProduct_0_ f dep x1 h)) {dep : Nat} {x1 : Int32} {h : ea_H} : fct (BX6_readSum_0 JX6_readSum_12 JX6_readProduct_0 dep x1 h) (fun f => BX6_readSum_0 (JX6_readSum_12_ f) (JX6_readProduct_0_ f) dep x1 h) :=
  (fct_gd (fct_bind (mJX6_readProduct_0 _ _ _) fun _ => (fct_ite (fct_rfl _) (mJX6_readSum_12 _ _ _ _))))
noncomputable def BX6_readSum_12 (JX6_readSum_37 : Nat → Int32 → Int32 → ea_H → Option (Int32 × ea_H)) (dep : Nat) (x1 : Int32) (x2 : Int32) (h : ea_H) : Option (Int32 × ea_H) :=
  (if (600 : Int32) < x2 then (some ((1 : Int32), h)) else (if (ea_i h 24 7) = (43 : Int32) then (JX6_readSum_37 dep (x1 : Int32) (x2 : Int32) h) else (if (ea_i h 24 7) = (45 : Int32) then (JX6_readSum_37 dep (x1 : Int32) (x2 : Int32) h) else (some ((1 : Int32), h)))))
theorem tBX6_readSum_12 {JX6_readSum_37 : Nat → Int32 → Int32 → ea_H → Option (Int32 × ea_H)}  (kJX6_readSum_37 : ∀ (dep : Nat) (x1 : Int32) (x2 : Int32) (h : ea_H) (r : Int32) (h' : ea_H), JX6_readSum_37 dep x1 x2 h = some (r, h') → ShC h → ∀ (d : Nat) (h0 : ea_H), 2 + dep ≤ d → ea_W mX6_readSum d h0 (some (vI r)) h' 37 [(0, vR (some 24)), (1, vI x1), (2, vI x2)] [] h) {x1 : Int32} {x2 : Int32} {dep : Nat} {h : ea_H} {r : Int32} {h' : ea_H} (E : BX6_readSum_12 JX6_readSum_37 dep x1 x2 h = some (r, h')) (hs : ShC h) {d : Nat} {h0 : ea_H} (hd : 2 + dep ≤ d) : ea_W mX6_readSum d h0 (some (vI r)) h' 12 [(0, vR (some 24)), (1, vI x1), (2, vI x2)] [] h := by
  unfold BX6_readSum_12 at E
  refine ea_iload_n (pc := 12) dX6_readSum_12 rfl 2 rfl ?_
  refine ea_sipush (pc := 13) dX6_readSum_13 (v := 600) rfl ?_
  refine ea_icmp_gt (pc := 16) (tgt := 79) dX6_readSum_16 rfl (fun c6 => ?_) (fun c6 => ?_)
  · have E := (if_pos c6).symm.trans E
    refine ea_iconst (pc := 79) dX6_readSum_79 (v := 1) rfl ?_
    exact ea_iretO (pc := 80) dX6_readSum_80 rfl (ea_bn (Or.inr rfl)) E
  · have E := (if_neg c6).symm.trans E
    refine ea_aload_n (pc := 19) dX6_readSum_19 rfl 0 rfl ?_
    refine ea_getI (pc := 20) dX6_readSum_20 ec_6 (k := 7) (Nat.le_of_ble_eq_true rfl) rfl (Or.inl ew_304) (cShC_24 hs).1 (cShC_24 hs).2.1 ?_
    refine ea_bipush (pc := 23) dX6_readSum_23 (v := 43) rfl ?_
    refine ea_icmp_eq (pc := 25) (tgt := 37) dX6_readSum_25 rfl (fun c5 => ?_) (fun c5 => ?_)
    · have E := (if_pos c5).symm.trans E
      exact (kJX6_readSum_37 dep (x1 : Int32) (x2 : Int32) h _ _ E hs d h0 hd)
    · have E := (if_neg c5).symm.trans E
      refine ea_aload_n (pc := 28) dX6_readSum_28 rfl 0 rfl ?_
      refine ea_getI (pc := 29) dX6_readSum_29 ec_6 (k := 7) (Nat.le_of_ble_eq_true rfl) rfl (Or.inl ew_304) (cShC_24 hs).1 (cShC_24 hs).2.1 ?_
      refine ea_bipush (pc := 32) dX6_readSum_32 (v := 45) rfl ?_
      refine ea_icmp_ne (pc := 34) (tgt := 79) dX6_readSum_34 rfl (fun c4 => ?_) (fun c4 => ?_)
      · have E := (if_neg c4).symm.trans E
        refine ea_iconst (pc := 79) dX6_readSum_79 (v := 1) rfl ?_
        exact ea_iretO (pc := 80) dX6_readSum_80 rfl (ea_bn (Or.inr rfl)) E
      · have E := (if_pos c4).symm.trans E
        exact (kJX6_readSum_37 dep (x1 : Int32) (x2 : Int32) h _ _ E hs d h0 hd)
theorem kBX6_readSum_12 {JX6_readSum_37 : Nat → Int32 → Int32 → ea_H → Option (Int32 × ea_H)}  (cJX6_readSum_37 : ∀ (dep : Nat) (x1 : Int32) (x2 : Int32) (h : ea_H), kp (ea_core h) (JX6_readSum_37 dep x1 x2 h)) {dep : Nat} {x1 : Int32} {x2 : Int32} {h : ea_H} : kp (ea_core h) (BX6_readSum_12 JX6_readSum_37 dep x1 x2 h) :=
  (kp_ite (kp_ret rfl) (kp_ite (kp_tw (cJX6_readSum_37 _ _ _ _) rfl) (kp_ite (kp_tw (cJX6_readSum_37 _ _ _ _) rfl) (kp_ret rfl))))
theorem lBX6_readSum_12 {JX6_readSum_37 : Nat → Int32 → Int32 → ea_H → Option (Int32 × ea_H)} {JX6_readSum_37_ : Nat → Int32 → Int32 → ea_H → Option (Int32 × ea_H)}  (mJX6_readSum_37 : ∀ (dep : Nat) (x1 : Int32) (x2 : Int32) (h : ea_H), fle (JX6_readSum_37 dep x1 x2 h) (JX6_readSum_37_ dep x1 x2 h)) {dep : Nat} {x1 : Int32} {x2 : Int32} {h : ea_H} : fle (BX6_readSum_12 JX6_readSum_37 dep x1 x2 h) (BX6_readSum_12 JX6_readSum_37_ dep x1 x2 h) :=
  (fle_ite (fle_rfl _) (fle_ite (mJX6_readSum_37 _ _ _ _) (fle_ite (mJX6_readSum_37 _ _ _ _) (fle_rfl _))))
theorem nBX6_readSum_12 {JX6_readSum_37 : Nat → Int32 → Int32 → ea_H → Option (Int32 × ea_H)} {JX6_readSum_37_ : Nat → (Nat → Int32 → Int32 → ea_H → Option (Int32 × ea_H))}  (mJX6_readSum_37 : ∀ (dep : Nat) (x1 : Int32) (x2 : Int32) (h : ea_H), fct (JX6_readSum_37 dep x1 x2 h) (fun f => JX6_readSum_37_ f dep x1 x2 h)) {dep : Nat} {x1 : Int32} {x2 : Int32} {h : ea_H} : fct (BX6_readSum_12 JX6_readSum_37 dep x1 x2 h) (fun f => BX6_readSum_12 (JX6_readSum_37_ f) dep x1 x2 h) :=
  (fct_ite (fct_rfl _) (fct_ite (mJX6_readSum_37 _ _ _ _) (fct_ite (mJX6_readSum_37 _ _ _ _) (fct_rfl _))))
noncomputable def BX6_readSum_37 (JX6_readSum_53 : Nat → Int32 → Int32 → Int32 → ea_H → Option (Int32 × ea_H)) (dep : Nat) (x1 : Int32) (x2 : Int32) (h : ea_H) : Option (Int32 × ea_H) :=
  (if (ea_i h 24 7) = (43 : Int32) then (JX6_readSum_53 dep (x1 : Int32) (x2 : Int32) ((-10) : Int32) h) else (JX6_readSum_53 dep (x1 : Int32) (x2 : Int32) ((-11) : Int32) h))
theorem tBX6_readSum_37 {JX6_readSum_53 : Nat → Int32 → Int32 → Int32 → ea_H → Option (Int32 × ea_H)}  (kJX6_readSum_53 : ∀ (dep : Nat) (x1 : Int32) (x2 : Int32) (sx0 : Int32) (h : ea_H) (r : Int32) (h' : ea_H), JX6_readSum_53 dep x1 x2 sx0 h = some (r, h') → ShC h → ∀ (d : Nat) (h0 : ea_H), 2 + dep ≤ d → ea_W mX6_readSum d h0 (some (vI r)) h' 53 [(0, vR (some 24)), (1, vI x1), (2, vI x2)] [vI sx0] h) {x1 : Int32} {x2 : Int32} {dep : Nat} {h : ea_H} {r : Int32} {h' : ea_H} (E : BX6_readSum_37 JX6_readSum_53 dep x1 x2 h = some (r, h')) (hs : ShC h) {d : Nat} {h0 : ea_H} (hd : 2 + dep ≤ d) : ea_W mX6_readSum d h0 (some (vI r)) h' 37 [(0, vR (some 24)), (1, vI x1), (2, vI x2)] [] h := by
  unfold BX6_readSum_37 at E
  refine ea_aload_n (pc := 37) dX6_readSum_37 rfl 0 rfl ?_
  refine ea_getI (pc := 38) dX6_readSum_38 ec_6 (k := 7) (Nat.le_of_ble_eq_true rfl) rfl (Or.inl ew_304) (cShC_24 hs).1 (cShC_24 hs).2.1 ?_
  refine ea_bipush (pc := 41) dX6_readSum_41 (v := 43) rfl ?_
  refine ea_icmp_ne (pc := 43) (tgt := 51) dX6_readSum_43 rfl (fun c7 => ?_) (fun c7 => ?_)
  · have E := (if_neg c7).symm.trans E
    refine ea_bipush (pc := 51) dX6_readSum_51 (v := (-11)) rfl ?_
    exact (kJX6_readSum_53 dep (x1 : Int32) (x2 : Int32) ((-11) : Int32) h _ _ E hs d h0 hd)
  · have E := (if_pos c7).symm.trans E
    refine ea_bipush (pc := 46) dX6_readSum_46 (v := (-10)) rfl ?_
    refine ea_goto (pc := 48) (tgt := 53) dX6_readSum_48 rfl ?_
    exact (kJX6_readSum_53 dep (x1 : Int32) (x2 : Int32) ((-10) : Int32) h _ _ E hs d h0 hd)
theorem kBX6_readSum_37 {JX6_readSum_53 : Nat → Int32 → Int32 → Int32 → ea_H → Option (Int32 × ea_H)}  (cJX6_readSum_53 : ∀ (dep : Nat) (x1 : Int32) (x2 : Int32) (sx0 : Int32) (h : ea_H), kp (ea_core h) (JX6_readSum_53 dep x1 x2 sx0 h)) {dep : Nat} {x1 : Int32} {x2 : Int32} {h : ea_H} : kp (ea_core h) (BX6_readSum_37 JX6_readSum_53 dep x1 x2 h) :=
  (kp_ite (kp_tw (cJX6_readSum_53 _ _ _ _ _) rfl) (kp_tw (cJX6_readSum_53 _ _ _ _ _) rfl))
theorem lBX6_readSum_37 {JX6_readSum_53 : Nat → Int32 → Int32 → Int32 → ea_H → Option (Int32 × ea_H)} {JX6_readSum_53_ : Nat → Int32 → Int32 → Int32 → ea_H → Option (Int32 × ea_H)}  (mJX6_readSum_53 : ∀ (dep : Nat) (x1 : Int32) (x2 : Int32) (sx0 : Int32) (h : ea_H), fle (JX6_readSum_53 dep x1 x2 sx0 h) (JX6_readSum_53_ dep x1 x2 sx0 h)) {dep : Nat} {x1 : Int32} {x2 : Int32} {h : ea_H} : fle (BX6_readSum_37 JX6_readSum_53 dep x1 x2 h) (BX6_readSum_37 JX6_readSum_53_ dep x1 x2 h) :=
  (fle_ite (mJX6_readSum_53 _ _ _ _ _) (mJX6_readSum_53 _ _ _ _ _))
theorem nBX6_readSum_37 {JX6_readSum_53 : Nat → Int32 → Int32 → Int32 → ea_H → Option (Int32 × ea_H)} {JX6_readSum_53_ : Nat → (Nat → Int32 → Int32 → Int32 → ea_H → Option (Int32 × ea_H))}  (mJX6_readSum_53 : ∀ (dep : Nat) (x1 : Int32) (x2 : Int32) (sx0 : Int32) (h : ea_H), fct (JX6_readSum_53 dep x1 x2 sx0 h) (fun f => JX6_readSum_53_ f dep x1 x2 sx0 h)) {dep : Nat} {x1 : Int32} {x2 : Int32} {h : ea_H} : fct (BX6_readSum_37 JX6_readSum_53 dep x1 x2 h) (fun f => BX6_readSum_37 (JX6_readSum_53_ f) dep x1 x2 h) :=
  (fct_ite (mJX6_readSum_53 _ _ _ _ _) (mJX6_readSum_53 _ _ _ _ _))
noncomputable def BX6_readSum_53 (JX6_readSum_12 : Nat → Int32 → Int32 → ea_H → Option (Int32 × ea_H)) (JX6_readProduct_0 : Nat → Int32 → ea_H → Option (Int32 × ea_H)) (dep : Nat) (x1 : Int32) (x2 : Int32) (sx0 : Int32) (h : ea_H) : Option (Int32 × ea_H) :=
  (Option.bind (qX6_step  h) fun w8 => (gd (0 < dep) (Option.bind (JX6_readProduct_0 (dep - 1) (x1 : Int32) w8.2) fun w9 => (if w9.1 = (0 : Int32) then (some ((0 : Int32), w9.2)) else (Option.bind (qX6_put (sx0 : Int32) w9.2) fun w11 => (JX6_readSum_12 dep (x1 : Int32) ((x2 + (1 : Int32)) : Int32) w11.2))))))
theorem tBX6_readSum_53 {JX6_readSum_12 : Nat → Int32 → Int32 → ea_H → Option (Int32 × ea_H)} {JX6_readProduct_0 : Nat → Int32 → ea_H → Option (Int32 × ea_H)}  (kJX6_readSum_12 : ∀ (dep : Nat) (x1 : Int32) (x2 : Int32) (h : ea_H) (r : Int32) (h' : ea_H), JX6_readSum_12 dep x1 x2 h = some (r, h') → ShC h → ∀ (d : Nat) (h0 : ea_H), 2 + dep ≤ d → ea_W mX6_readSum d h0 (some (vI r)) h' 12 [(0, vR (some 24)), (1, vI x1), (2, vI x2)] [] h) (kJX6_readProduct_0 : ∀ (dep : Nat) (x1 : Int32) (h : ea_H) (r : Int32) (h' : ea_H), JX6_readProduct_0 dep x1 h = some (r, h') → ShC h → ∀ (d : Nat) (h0 : ea_H), 2 + dep ≤ d → ea_W mX6_readProduct d h0 (some (vI r)) h' 0 [(0, vR (some 24)), (1, vI x1)] [] h) (cJX6_readProduct_0 : ∀ (dep : Nat) (x1 : Int32) (h : ea_H), kp (ea_core h) (JX6_readProduct_0 dep x1 h)) {x1 : Int32} {x2 : Int32} {sx0 : Int32} {dep : Nat} {h : ea_H} {r : Int32} {h' : ea_H} (E : BX6_readSum_53 JX6_readSum_12 JX6_readProduct_0 dep x1 x2 sx0 h = some (r, h')) (hs : ShC h) {d : Nat} {h0 : ea_H} (hd : 2 + dep ≤ d) : ea_W mX6_readSum d h0 (some (vI r)) h' 53 [(0, vR (some 24)), (1, vI x1), (2, vI x2)] [vI sx0] h := by
  unfold BX6_readSum_53 at E
  obtain ⟨w8, Ew8, E⟩ := bd_some E
  have hsw8 : ShC w8.2 := ShC_core ((kpX6_step _) _ Ew8) hs
  refine ea_istore_n (pc := 53) (lv' := [(0, vR (some 24)), (1, vI x1), (2, vI x2), (3, vI sx0)]) dX6_readSum_53 rfl (Nat.le_of_ble_eq_true rfl) [1, 2, 3, 0] rfl ?_
  refine ea_aload_n (pc := 54) dX6_readSum_54 rfl 0 rfl ?_
  refine ea_callV (pc := 55) (d' := d - 1) (As := []) (st := []) dX6_readSum_55 kX6_step (sX6_step (d := d - 1) (by omega) hs Ew8) (by omega) rfl (Nat.le_of_ble_eq_true rfl) ew_996 ew_998 ew_21 (ci := 6) rfl (by decide) (cShC_24 hs).1 (cShC_24 hs).2.1 ?_
  obtain ⟨zd10, E⟩ := gd_some E
  refine ea_aload_n (pc := 58) dX6_readSum_58 rfl 0 rfl ?_
  refine ea_iload_n (pc := 59) dX6_readSum_59 rfl 1 rfl ?_
  obtain ⟨w9, Ew9, E⟩ := bd_some E
  have hsw9 : ShC w9.2 := ShC_core ((cJX6_readProduct_0 (dep - 1) _ _) _ Ew9) hsw8
  refine ea_callV (pc := 60) (d' := d - 1) (As := [vI x1]) (st := []) dX6_readSum_60 kX6_readProduct (ea_enter rfl (Nat.le_of_ble_eq_true rfl) (kJX6_readProduct_0 (dep - 1) (x1 : Int32) _ _ _ Ew9 hsw8 (d - 1) w8.2 (by omega))) (by omega) rfl (Nat.le_of_ble_eq_true rfl) ew_1004 ew_1006 ew_23 (ci := 6) rfl (by decide) (cShC_24 hsw8).1 (cShC_24 hsw8).2.1 ?_
  refine ea_if_ne (pc := 63) (tgt := 68) dX6_readSum_63 rfl (fun c12 => ?_) (fun c12 => ?_)
  · have E := (if_neg c12).symm.trans E
    obtain ⟨w11, Ew11, E⟩ := bd_some E
    have hsw11 : ShC w11.2 := ShC_core ((kpX6_put _ _) _ Ew11) hsw9
    refine ea_aload_n (pc := 68) dX6_readSum_68 rfl 0 rfl ?_
    refine ea_iload_n (pc := 69) dX6_readSum_69 rfl 3 rfl ?_
    refine ea_callV (pc := 70) (d' := d - 1) (As := [vI sx0]) (st := []) dX6_readSum_70 kX6_put (sX6_put (d := d - 1) (by omega) hsw9 Ew11) (by omega) rfl (Nat.le_of_ble_eq_true rfl) ew_1016 ew_1018 ew_26 (ci := 6) rfl (by decide) (cShC_24 hsw9).1 (cShC_24 hsw9).2.1 ?_
    refine ea_iinc (pc := 73) (v := 1) (lv' := [(0, vR (some 24)), (1, vI x1), (2, vI (x2 + (1 : Int32)))]) dX6_readSum_73 2 rfl rfl (Nat.le_of_ble_eq_true rfl) [1, 2, 0] rfl ?_
    refine ea_goto (pc := 76) (tgt := 12) dX6_readSum_76 rfl ?_
    exact (kJX6_readSum_12 dep (x1 : Int32) ((x2 + (1 : Int32)) : Int32) w11.2 _ _ E hsw11 d h0 hd)
  · have E := (if_pos c12).symm.trans E
    refine ea_iconst (pc := 66) dX6_readSum_66 (v := 0) rfl ?_
    exact ea_iretO (pc := 67) dX6_readSum_67 rfl (ea_bn (Or.inl rfl)) E
theorem kBX6_readSum_53 {JX6_readSum_12 : Nat → Int32 → Int32 → ea_H → Option (Int32 × ea_H)} {JX6_readProduct_0 : Nat → Int32 → ea_H → Option (Int32 × ea_H)}  (cJX6_readSum_12 : ∀ (dep : Nat) (x1 : Int32) (x2 : Int32) (h : ea_H), kp (ea_core h) (JX6_readSum_12 dep x1 x2 h)) (cJX6_readProduct_0 : ∀ (dep : Nat) (x1 : Int32) (h : ea_H), kp (ea_core h) (JX6_readProduct_0 dep x1 h)) {dep : Nat} {x1 : Int32} {x2 : Int32} {sx0 : Int32} {h : ea_H} : kp (ea_core h) (BX6_readSum_53 JX6_readSum_12 JX6_readProduct_0 dep x1 x2 sx0 h) :=
  (kp_bind (kp_tw (kpX6_step _) rfl) fun w8 hcw8 => (kp_gd (kp_bind (kp_tw (cJX6_readProduct_0 (dep - 1) _ _) hcw8) fun w9 hcw9 => (kp_ite (kp_ret hcw9) (kp_bind (kp_tw (kpX6_put _ _) hcw9) fun w11 hcw11 => (kp_tw (cJX6_readSum_12 _ _ _ _) hcw11))))))
theorem lBX6_readSum_53 {JX6_readSum_12 : Nat → Int32 → Int32 → ea_H → Option (Int32 × ea_H)} {JX6_readProduct_0 : Nat → Int32 → ea_H → Option (Int32 × ea_H)} {JX6_readSum_12_ : Nat → Int32 → Int32 → ea_H → Option (Int32 × ea_H)} {JX6_readProduct_0_ : Nat → Int32 → ea_H → Option (Int32 × ea_H)}  (mJX6_readSum_12 : ∀ (dep : Nat) (x1 : Int32) (x2 : Int32) (h : ea_H), fle (JX6_readSum_12 dep x1 x2 h) (JX6_readSum_12_ dep x1 x2 h)) (mJX6_readProduct_0 : ∀ (dep : Nat) (x1 : Int32) (h : ea_H), fle (JX6_readProduct_0 dep x1 h) (JX6_readProduct_0_ dep x1 h)) {dep : Nat} {x1 : Int32} {x2 : Int32} {sx0 : Int32} {h : ea_H} : fle (BX6_readSum_53 JX6_readSum_12 JX6_readProduct_0 dep x1 x2 sx0 h) (BX6_readSum_53 JX6_readSum_12_ JX6_readProduct_0_ dep x1 x2 sx0 h) :=
  (fle_bind (fle_rfl _) fun _ => (fle_gd (fle_bind (mJX6_readProduct_0 _ _ _) fun _ => (fle_ite (fle_rfl _) (fle_bind (fle_rfl _) fun _ => (mJX6_readSum_12 _ _ _ _))))))
theorem nBX6_readSum_53 {JX6_readSum_12 : Nat → Int32 → Int32 → ea_H → Option (Int32 × ea_H)} {JX6_readProduct_0 : Nat → Int32 → ea_H → Option (Int32 × ea_H)} {JX6_readSum_12_ : Nat → (Nat → Int32 → Int32 → ea_H → Option (Int32 × ea_H))} {JX6_readProduct_0_ : Nat → (Nat → Int32 → ea_H → Option (Int32 × ea_H))}  (mJX6_readSum_12 : ∀ (dep : Nat) (x1 : Int32) (x2 : Int32) (h : ea_H), fct (JX6_readSum_12 dep x1 x2 h) (fun f => JX6_readSum_12_ f dep x1 x2 h)) (mJX6_readProduct_0 : ∀ (dep : Nat) (x1 : Int32) (h : ea_H), fct (JX6_readProduct_0 dep x1 h) (fun f => JX6_readProduct_0_ f dep x1 h)) {dep : Nat} {x1 : Int32} {x2 : Int32} {sx0 : Int32} {h : ea_H} : fct (BX6_readSum_53 JX6_readSum_12 JX6_readProduct_0 dep x1 x2 sx0 h) (fun f => BX6_readSum_53 (JX6_readSum_12_ f) (JX6_readProduct_0_ f) dep x1 x2 sx0 h) :=
  (fct_bind (fct_rfl _) fun _ => (fct_gd (fct_bind (mJX6_readProduct_0 _ _ _) fun _ => (fct_ite (fct_rfl _) (fct_bind (fct_rfl _) fun _ => (mJX6_readSum_12 _ _ _ _))))))
noncomputable def BX6_readProduct_0 (JX6_readProduct_12 : Nat → Int32 → Int32 → ea_H → Option (Int32 × ea_H)) (JX6_readUnit_0 : Nat → Int32 → ea_H → Option (Int32 × ea_H)) (dep : Nat) (x1 : Int32) (h : ea_H) : Option (Int32 × ea_H) :=
  (gd (0 < dep) (Option.bind (JX6_readUnit_0 (dep - 1) (x1 : Int32) h) fun w1 => (if w1.1 = (0 : Int32) then (some ((0 : Int32), w1.2)) else (JX6_readProduct_12 dep (x1 : Int32) (0 : Int32) w1.2))))
theorem tBX6_readProduct_0 {JX6_readProduct_12 : Nat → Int32 → Int32 → ea_H → Option (Int32 × ea_H)} {JX6_readUnit_0 : Nat → Int32 → ea_H → Option (Int32 × ea_H)}  (kJX6_readProduct_12 : ∀ (dep : Nat) (x1 : Int32) (x2 : Int32) (h : ea_H) (r : Int32) (h' : ea_H), JX6_readProduct_12 dep x1 x2 h = some (r, h') → ShC h → ∀ (d : Nat) (h0 : ea_H), 2 + dep ≤ d → ea_W mX6_readProduct d h0 (some (vI r)) h' 12 [(0, vR (some 24)), (1, vI x1), (2, vI x2)] [] h) (kJX6_readUnit_0 : ∀ (dep : Nat) (x1 : Int32) (h : ea_H) (r : Int32) (h' : ea_H), JX6_readUnit_0 dep x1 h = some (r, h') → ShC h → ∀ (d : Nat) (h0 : ea_H), 2 + dep ≤ d → ea_W mX6_readUnit d h0 (some (vI r)) h' 0 [(0, vR (some 24)), (1, vI x1)] [] h) (cJX6_readUnit_0 : ∀ (dep : Nat) (x1 : Int32) (h : ea_H), kp (ea_core h) (JX6_readUnit_0 dep x1 h)) {x1 : Int32} {dep : Nat} {h : ea_H} {r : Int32} {h' : ea_H} (E : BX6_readProduct_0 JX6_readProduct_12 JX6_readUnit_0 dep x1 h = some (r, h')) (hs : ShC h) {d : Nat} {h0 : ea_H} (hd : 2 + dep ≤ d) : ea_W mX6_readProduct d h0 (some (vI r)) h' 0 [(0, vR (some 24)), (1, vI x1)] [] h := by
  unfold BX6_readProduct_0 at E
  obtain ⟨zd2, E⟩ := gd_some E
  refine ea_aload_n (pc := 0) dX6_readProduct_0 rfl 0 rfl ?_
  refine ea_iload_n (pc := 1) dX6_readProduct_1 rfl 1 rfl ?_
  obtain ⟨w1, Ew1, E⟩ := bd_some E
  have hsw1 : ShC w1.2 := ShC_core ((cJX6_readUnit_0 (dep - 1) _ _) _ Ew1) hs
  refine ea_callV (pc := 2) (d' := d - 1) (As := [vI x1]) (st := []) dX6_readProduct_2 kX6_readUnit (ea_enter rfl (Nat.le_of_ble_eq_true rfl) (kJX6_readUnit_0 (dep - 1) (x1 : Int32) _ _ _ Ew1 hs (d - 1) h (by omega))) (by omega) rfl (Nat.le_of_ble_eq_true rfl) ew_1008 ew_1010 ew_24 (ci := 6) rfl (by decide) (cShC_24 hs).1 (cShC_24 hs).2.1 ?_
  refine ea_if_ne (pc := 5) (tgt := 10) dX6_readProduct_5 rfl (fun c3 => ?_) (fun c3 => ?_)
  · have E := (if_neg c3).symm.trans E
    refine ea_iconst (pc := 10) dX6_readProduct_10 (v := 0) rfl ?_
    refine ea_istore_n (pc := 11) (lv' := [(0, vR (some 24)), (1, vI x1), (2, vI 0)]) dX6_readProduct_11 rfl (Nat.le_of_ble_eq_true rfl) [1, 2, 0] rfl ?_
    exact (kJX6_readProduct_12 dep (x1 : Int32) (0 : Int32) w1.2 _ _ E hsw1 d h0 hd)
  · have E := (if_pos c3).symm.trans E
    refine ea_iconst (pc := 8) dX6_readProduct_8 (v := 0) rfl ?_
    exact ea_iretO (pc := 9) dX6_readProduct_9 rfl (ea_bn (Or.inl rfl)) E
theorem kBX6_readProduct_0 {JX6_readProduct_12 : Nat → Int32 → Int32 → ea_H → Option (Int32 × ea_H)} {JX6_readUnit_0 : Nat → Int32 → ea_H → Option (Int32 × ea_H)}  (cJX6_readProduct_12 : ∀ (dep : Nat) (x1 : Int32) (x2 : Int32) (h : ea_H), kp (ea_core h) (JX6_readProduct_12 dep x1 x2 h)) (cJX6_readUnit_0 : ∀ (dep : Nat) (x1 : Int32) (h : ea_H), kp (ea_core h) (JX6_readUnit_0 dep x1 h)) {dep : Nat} {x1 : Int32} {h : ea_H} : kp (ea_core h) (BX6_readProduct_0 JX6_readProduct_12 JX6_readUnit_0 dep x1 h) :=
  (kp_gd (kp_bind (kp_tw (cJX6_readUnit_0 (dep - 1) _ _) rfl) fun w1 hcw1 => (kp_ite (kp_ret hcw1) (kp_tw (cJX6_readProduct_12 _ _ _ _) hcw1))))
theorem lBX6_readProduct_0 {JX6_readProduct_12 : Nat → Int32 → Int32 → ea_H → Option (Int32 × ea_H)} {JX6_readUnit_0 : Nat → Int32 → ea_H → Option (Int32 × ea_H)} {JX6_readProduct_12_ : Nat → Int32 → Int32 → ea_H → Option (Int32 × ea_H)} {JX6_readUnit_0_ : Nat → Int32 → ea_H → Option (Int32 × ea_H)}  (mJX6_readProduct_12 : ∀ (dep : Nat) (x1 : Int32) (x2 : Int32) (h : ea_H), fle (JX6_readProduct_12 dep x1 x2 h) (JX6_readProduct_12_ dep x1 x2 h)) (mJX6_readUnit_0 : ∀ (dep : Nat) (x1 : Int32) (h : ea_H), fle (JX6_readUnit_0 dep x1 h) (JX6_readUnit_0_ dep x1 h)) {dep : Nat} {x1 : Int32} {h : ea_H} : fle (BX6_readProduct_0 JX6_readProduct_12 JX6_readUnit_0 dep x1 h) (BX6_readProduct_0 JX6_readProduct_12_ JX6_readUnit_0_ dep x1 h) :=
  (fle_gd (fle_bind (mJX6_readUnit_0 _ _ _) fun _ => (fle_ite (fle_rfl _) (mJX6_readProduct_12 _ _ _ _))))
theorem nBX6_readProduct_0 {JX6_readProduct_12 : Nat → Int32 → Int32 → ea_H → Option (Int32 × ea_H)} {JX6_readUnit_0 : Nat → Int32 → ea_H → Option (Int32 × ea_H)} {JX6_readProduct_12_ : Nat → (Nat → Int32 → Int32 → ea_H → Option (Int32 × ea_H))} {JX6_readUnit_0_ : Nat → (Nat → Int32 → ea_H → Option (Int32 × ea_H))}  (mJX6_readProduct_12 : ∀ (dep : Nat) (x1 : Int32) (x2 : Int32) (h : ea_H), fct (JX6_readProduct_12 dep x1 x2 h) (fun f => JX6_readProduct_12_ f dep x1 x2 h)) (mJX6_readUnit_0 : ∀ (dep : Nat) (x1 : Int32) (h : ea_H), fct (JX6_readUnit_0 dep x1 h) (fun f => JX6_readUnit_0_ f dep x1 h)) {dep : Nat} {x1 : Int32} {h : ea_H} : fct (BX6_readProduct_0 JX6_readProduct_12 JX6_readUnit_0 dep x1 h) (fun f => BX6_readProduct_0 (JX6_readProduct_12_ f) (JX6_readUnit_0_ f) dep x1 h) :=
  (fct_gd (fct_bind (mJX6_readUnit_0 _ _ _) fun _ => (fct_ite (fct_rfl _) (mJX6_readProduct_12 _ _ _ _))))
noncomputable def BX6_readProduct_12 (JX6_readProduct_37 : Nat → Int32 → Int32 → ea_H → Option (Int32 × ea_H)) (dep : Nat) (x1 : Int32) (x2 : Int32) (h : ea_H) : Option (Int32 × ea_H) :=
  (if (600 : Int32) < x2 then (some ((1 : Int32), h)) else (if (ea_i h 24 7) = (42 : Int32) then (JX6_readProduct_37 dep (x1 : Int32) (x2 : Int32) h) else (if (ea_i h 24 7) = (47 : Int32) then (JX6_readProduct_37 dep (x1 : Int32) (x2 : Int32) h) else (some ((1 : Int32), h)))))
theorem tBX6_readProduct_12 {JX6_readProduct_37 : Nat → Int32 → Int32 → ea_H → Option (Int32 × ea_H)}  (kJX6_readProduct_37 : ∀ (dep : Nat) (x1 : Int32) (x2 : Int32) (h : ea_H) (r : Int32) (h' : ea_H), JX6_readProduct_37 dep x1 x2 h = some (r, h') → ShC h → ∀ (d : Nat) (h0 : ea_H), 2 + dep ≤ d → ea_W mX6_readProduct d h0 (some (vI r)) h' 37 [(0, vR (some 24)), (1, vI x1), (2, vI x2)] [] h) {x1 : Int32} {x2 : Int32} {dep : Nat} {h : ea_H} {r : Int32} {h' : ea_H} (E : BX6_readProduct_12 JX6_readProduct_37 dep x1 x2 h = some (r, h')) (hs : ShC h) {d : Nat} {h0 : ea_H} (hd : 2 + dep ≤ d) : ea_W mX6_readProduct d h0 (some (vI r)) h' 12 [(0, vR (some 24)), (1, vI x1), (2, vI x2)] [] h := by
  unfold BX6_readProduct_12 at E
  refine ea_iload_n (pc := 12) dX6_readProduct_12 rfl 2 rfl ?_
  refine ea_sipush (pc := 13) dX6_readProduct_13 (v := 600) rfl ?_
  refine ea_icmp_gt (pc := 16) (tgt := 123) dX6_readProduct_16 rfl (fun c6 => ?_) (fun c6 => ?_)
  · have E := (if_pos c6).symm.trans E
    refine ea_iconst (pc := 123) dX6_readProduct_123 (v := 1) rfl ?_
    exact ea_iretO (pc := 124) dX6_readProduct_124 rfl (ea_bn (Or.inr rfl)) E
  · have E := (if_neg c6).symm.trans E
    refine ea_aload_n (pc := 19) dX6_readProduct_19 rfl 0 rfl ?_
    refine ea_getI (pc := 20) dX6_readProduct_20 ec_6 (k := 7) (Nat.le_of_ble_eq_true rfl) rfl (Or.inl ew_304) (cShC_24 hs).1 (cShC_24 hs).2.1 ?_
    refine ea_bipush (pc := 23) dX6_readProduct_23 (v := 42) rfl ?_
    refine ea_icmp_eq (pc := 25) (tgt := 37) dX6_readProduct_25 rfl (fun c5 => ?_) (fun c5 => ?_)
    · have E := (if_pos c5).symm.trans E
      exact (kJX6_readProduct_37 dep (x1 : Int32) (x2 : Int32) h _ _ E hs d h0 hd)
    · have E := (if_neg c5).symm.trans E
      refine ea_aload_n (pc := 28) dX6_readProduct_28 rfl 0 rfl ?_
      refine ea_getI (pc := 29) dX6_readProduct_29 ec_6 (k := 7) (Nat.le_of_ble_eq_true rfl) rfl (Or.inl ew_304) (cShC_24 hs).1 (cShC_24 hs).2.1 ?_
      refine ea_bipush (pc := 32) dX6_readProduct_32 (v := 47) rfl ?_
      refine ea_icmp_ne (pc := 34) (tgt := 123) dX6_readProduct_34 rfl (fun c4 => ?_) (fun c4 => ?_)
      · have E := (if_neg c4).symm.trans E
        refine ea_iconst (pc := 123) dX6_readProduct_123 (v := 1) rfl ?_
        exact ea_iretO (pc := 124) dX6_readProduct_124 rfl (ea_bn (Or.inr rfl)) E
      · have E := (if_pos c4).symm.trans E
        exact (kJX6_readProduct_37 dep (x1 : Int32) (x2 : Int32) h _ _ E hs d h0 hd)
theorem kBX6_readProduct_12 {JX6_readProduct_37 : Nat → Int32 → Int32 → ea_H → Option (Int32 × ea_H)}  (cJX6_readProduct_37 : ∀ (dep : Nat) (x1 : Int32) (x2 : Int32) (h : ea_H), kp (ea_core h) (JX6_readProduct_37 dep x1 x2 h)) {dep : Nat} {x1 : Int32} {x2 : Int32} {h : ea_H} : kp (ea_core h) (BX6_readProduct_12 JX6_readProduct_37 dep x1 x2 h) :=
  (kp_ite (kp_ret rfl) (kp_ite (kp_tw (cJX6_readProduct_37 _ _ _ _) rfl) (kp_ite (kp_tw (cJX6_readProduct_37 _ _ _ _) rfl) (kp_ret rfl))))
theorem lBX6_readProduct_12 {JX6_readProduct_37 : Nat → Int32 → Int32 → ea_H → Option (Int32 × ea_H)} {JX6_readProduct_37_ : Nat → Int32 → Int32 → ea_H → Option (Int32 × ea_H)}  (mJX6_readProduct_37 : ∀ (dep : Nat) (x1 : Int32) (x2 : Int32) (h : ea_H), fle (JX6_readProduct_37 dep x1 x2 h) (JX6_readProduct_37_ dep x1 x2 h)) {dep : Nat} {x1 : Int32} {x2 : Int32} {h : ea_H} : fle (BX6_readProduct_12 JX6_readProduct_37 dep x1 x2 h) (BX6_readProduct_12 JX6_readProduct_37_ dep x1 x2 h) :=
  (fle_ite (fle_rfl _) (fle_ite (mJX6_readProduct_37 _ _ _ _) (fle_ite (mJX6_readProduct_37 _ _ _ _) (fle_rfl _))))
theorem nBX6_readProduct_12 {JX6_readProduct_37 : Nat → Int32 → Int32 → ea_H → Option (Int32 × ea_H)} {JX6_readProduct_37_ : Nat → (Nat → Int32 → Int32 → ea_H → Option (Int32 × ea_H))}  (mJX6_readProduct_37 : ∀ (dep : Nat) (x1 : Int32) (x2 : Int32) (h : ea_H), fct (JX6_readProduct_37 dep x1 x2 h) (fun f => JX6_readProduct_37_ f dep x1 x2 h)) {dep : Nat} {x1 : Int32} {x2 : Int32} {h : ea_H} : fct (BX6_readProduct_12 JX6_readProduct_37 dep x1 x2 h) (fun f => BX6_readProduct_12 (JX6_readProduct_37_ f) dep x1 x2 h) :=
  (fct_ite (fct_rfl _) (fct_ite (mJX6_readProduct_37 _ _ _ _) (fct_ite (mJX6_readProduct_37 _ _ _ _) (fct_rfl _))))
noncomputable def BX6_readProduct_37 (JX6_readProduct_51 : Nat → Int32 → Int32 → Int32 → ea_H → Option (Int32 × ea_H)) (dep : Nat) (x1 : Int32) (x2 : Int32) (h : ea_H) : Option (Int32 × ea_H) :=
  (if (ea_i h 24 7) = (47 : Int32) then (JX6_readProduct_51 dep (x1 : Int32) (x2 : Int32) (1 : Int32) h) else (JX6_readProduct_51 dep (x1 : Int32) (x2 : Int32) (0 : Int32) h))
theorem tBX6_readProduct_37 {JX6_readProduct_51 : Nat → Int32 → Int32 → Int32 → ea_H → Option (Int32 × ea_H)}  (kJX6_readProduct_51 : ∀ (dep : Nat) (x1 : Int32) (x2 : Int32) (sx0 : Int32) (h : ea_H) (r : Int32) (h' : ea_H), JX6_readProduct_51 dep x1 x2 sx0 h = some (r, h') → ShC h → ∀ (d : Nat) (h0 : ea_H), 2 + dep ≤ d → ea_W mX6_readProduct d h0 (some (vI r)) h' 51 [(0, vR (some 24)), (1, vI x1), (2, vI x2)] [vI sx0] h) {x1 : Int32} {x2 : Int32} {dep : Nat} {h : ea_H} {r : Int32} {h' : ea_H} (E : BX6_readProduct_37 JX6_readProduct_51 dep x1 x2 h = some (r, h')) (hs : ShC h) {d : Nat} {h0 : ea_H} (hd : 2 + dep ≤ d) : ea_W mX6_readProduct d h0 (some (vI r)) h' 37 [(0, vR (some 24)), (1, vI x1), (2, vI x2)] [] h := by
  unfold BX6_readProduct_37 at E
  refine ea_aload_n (pc := 37) dX6_readProduct_37 rfl 0 rfl ?_
  refine ea_getI (pc := 38) dX6_readProduct_38 ec_6 (k := 7) (Nat.le_of_ble_eq_true rfl) rfl (Or.inl ew_304) (cShC_24 hs).1 (cShC_24 hs).2.1 ?_
  refine ea_bipush (pc := 41) dX6_readProduct_41 (v := 47) rfl ?_
  refine ea_icmp_ne (pc := 43) (tgt := 50) dX6_readProduct_43 rfl (fun c7 => ?_) (fun c7 => ?_)
  · have E := (if_neg c7).symm.trans E
    refine ea_iconst (pc := 50) dX6_readProduct_50 (v := 0) rfl ?_
    exact (kJX6_readProduct_51 dep (x1 : Int32) (x2 : Int32) (0 : Int32) h _ _ E hs d h0 hd)
  · have E := (if_pos c7).symm.trans E
    refine ea_iconst (pc := 46) dX6_readProduct_46 (v := 1) rfl ?_
    refine ea_goto (pc := 47) (tgt := 51) dX6_readProduct_47 rfl ?_
    exact (kJX6_readProduct_51 dep (x1 : Int32) (x2 : Int32) (1 : Int32) h _ _ E hs d h0 hd)
theorem kBX6_readProduct_37 {JX6_readProduct_51 : Nat → Int32 → Int32 → Int32 → ea_H → Option (Int32 × ea_H)}  (cJX6_readProduct_51 : ∀ (dep : Nat) (x1 : Int32) (x2 : Int32) (sx0 : Int32) (h : ea_H), kp (ea_core h) (JX6_readProduct_51 dep x1 x2 sx0 h)) {dep : Nat} {x1 : Int32} {x2 : Int32} {h : ea_H} : kp (ea_core h) (BX6_readProduct_37 JX6_readProduct_51 dep x1 x2 h) :=
  (kp_ite (kp_tw (cJX6_readProduct_51 _ _ _ _ _) rfl) (kp_tw (cJX6_readProduct_51 _ _ _ _ _) rfl))
theorem lBX6_readProduct_37 {JX6_readProduct_51 : Nat → Int32 → Int32 → Int32 → ea_H → Option (Int32 × ea_H)} {JX6_readProduct_51_ : Nat → Int32 → Int32 → Int32 → ea_H → Option (Int32 × ea_H)}  (mJX6_readProduct_51 : ∀ (dep : Nat) (x1 : Int32) (x2 : Int32) (sx0 : Int32) (h : ea_H), fle (JX6_readProduct_51 dep x1 x2 sx0 h) (JX6_readProduct_51_ dep x1 x2 sx0 h)) {dep : Nat} {x1 : Int32} {x2 : Int32} {h : ea_H} : fle (BX6_readProduct_37 JX6_readProduct_51 dep x1 x2 h) (BX6_readProduct_37 JX6_readProduct_51_ dep x1 x2 h) :=
  (fle_ite (mJX6_readProduct_51 _ _ _ _ _) (mJX6_readProduct_51 _ _ _ _ _))
theorem nBX6_readProduct_37 {JX6_readProduct_51 : Nat → Int32 → Int32 → Int32 → ea_H → Option (Int32 × ea_H)} {JX6_readProduct_51_ : Nat → (Nat → Int32 → Int32 → Int32 → ea_H → Option (Int32 × ea_H))}  (mJX6_readProduct_51 : ∀ (dep : Nat) (x1 : Int32) (x2 : Int32) (sx0 : Int32) (h : ea_H), fct (JX6_readProduct_51 dep x1 x2 sx0 h) (fun f => JX6_readProduct_51_ f dep x1 x2 sx0 h)) {dep : Nat} {x1 : Int32} {x2 : Int32} {h : ea_H} : fct (BX6_readProduct_37 JX6_readProduct_51 dep x1 x2 h) (fun f => BX6_readProduct_37 (JX6_readProduct_51_ f) dep x1 x2 h) :=
  (fct_ite (mJX6_readProduct_51 _ _ _ _ _) (mJX6_readProduct_51 _ _ _ _ _))
noncomputable def BX6_readProduct_51 (JX6_readProduct_75 : Nat → Int32 → Int32 → Int32 → ea_H → Option (Int32 × ea_H)) (dep : Nat) (x1 : Int32) (x2 : Int32) (sx0 : Int32) (h : ea_H) : Option (Int32 × ea_H) :=
  (Option.bind (qX6_step  h) fun w8 => (if sx0 = (0 : Int32) then (JX6_readProduct_75 dep (x1 : Int32) (x2 : Int32) (sx0 : Int32) w8.2) else (if (ea_i w8.2 24 7) = (18 : Int32) then (JX6_readProduct_75 dep (x1 : Int32) (x2 : Int32) (sx0 : Int32) w8.2) else (Option.bind (qX6_refuse (1 : Int32) w8.2) fun w9 => (gd ((w9.1 = 0 ∨ w9.1 = 1)) (some (w9.1, w9.2)))))))
theorem tBX6_readProduct_51 {JX6_readProduct_75 : Nat → Int32 → Int32 → Int32 → ea_H → Option (Int32 × ea_H)}  (kJX6_readProduct_75 : ∀ (dep : Nat) (x1 : Int32) (x2 : Int32) (x3 : Int32) (h : ea_H) (r : Int32) (h' : ea_H), JX6_readProduct_75 dep x1 x2 x3 h = some (r, h') → ShC h → ∀ (d : Nat) (h0 : ea_H), 2 + dep ≤ d → ea_W mX6_readProduct d h0 (some (vI r)) h' 75 [(0, vR (some 24)), (1, vI x1), (2, vI x2), (3, vI x3)] [] h) {x1 : Int32} {x2 : Int32} {sx0 : Int32} {dep : Nat} {h : ea_H} {r : Int32} {h' : ea_H} (E : BX6_readProduct_51 JX6_readProduct_75 dep x1 x2 sx0 h = some (r, h')) (hs : ShC h) {d : Nat} {h0 : ea_H} (hd : 2 + dep ≤ d) : ea_W mX6_readProduct d h0 (some (vI r)) h' 51 [(0, vR (some 24)), (1, vI x1), (2, vI x2)] [vI sx0] h := by
  unfold BX6_readProduct_51 at E
  obtain ⟨w8, Ew8, E⟩ := bd_some E
  have hsw8 : ShC w8.2 := ShC_core ((kpX6_step _) _ Ew8) hs
  refine ea_istore_n (pc := 51) (lv' := [(0, vR (some 24)), (1, vI x1), (2, vI x2), (3, vI sx0)]) dX6_readProduct_51 rfl (Nat.le_of_ble_eq_true rfl) [1, 2, 3, 0] rfl ?_
  refine ea_aload_n (pc := 52) dX6_readProduct_52 rfl 0 rfl ?_
  refine ea_callV (pc := 53) (d' := d - 1) (As := []) (st := []) dX6_readProduct_53 kX6_step (sX6_step (d := d - 1) (by omega) hs Ew8) (by omega) rfl (Nat.le_of_ble_eq_true rfl) ew_996 ew_998 ew_21 (ci := 6) rfl (by decide) (cShC_24 hs).1 (cShC_24 hs).2.1 ?_
  refine ea_iload_n (pc := 56) dX6_readProduct_56 rfl 3 rfl ?_
  refine ea_if_eq (pc := 57) (tgt := 75) dX6_readProduct_57 rfl (fun c12 => ?_) (fun c12 => ?_)
  · have E := (if_pos c12).symm.trans E
    exact (kJX6_readProduct_75 dep (x1 : Int32) (x2 : Int32) (sx0 : Int32) w8.2 _ _ E hsw8 d h0 hd)
  · have E := (if_neg c12).symm.trans E
    refine ea_aload_n (pc := 60) dX6_readProduct_60 rfl 0 rfl ?_
    refine ea_getI (pc := 61) dX6_readProduct_61 ec_6 (k := 7) (Nat.le_of_ble_eq_true rfl) rfl (Or.inl ew_304) (cShC_24 hsw8).1 (cShC_24 hsw8).2.1 ?_
    refine ea_bipush (pc := 64) dX6_readProduct_64 (v := 18) rfl ?_
    refine ea_icmp_eq (pc := 66) (tgt := 75) dX6_readProduct_66 rfl (fun c11 => ?_) (fun c11 => ?_)
    · have E := (if_pos c11).symm.trans E
      exact (kJX6_readProduct_75 dep (x1 : Int32) (x2 : Int32) (sx0 : Int32) w8.2 _ _ E hsw8 d h0 hd)
    · have E := (if_neg c11).symm.trans E
      obtain ⟨w9, Ew9, E⟩ := bd_some E
      have hsw9 : ShC w9.2 := ShC_core ((kpX6_refuse _ _) _ Ew9) hsw8
      refine ea_aload_n (pc := 69) dX6_readProduct_69 rfl 0 rfl ?_
      refine ea_iconst (pc := 70) dX6_readProduct_70 (v := 1) rfl ?_
      refine ea_callV (pc := 71) (d' := d - 1) (As := [vI 1]) (st := []) dX6_readProduct_71 kX6_refuse (sX6_refuse (d := d - 1) (by omega) hsw8 Ew9) (by omega) rfl (Nat.le_of_ble_eq_true rfl) ew_988 ew_990 ew_19 (ci := 6) rfl (by decide) (cShC_24 hsw8).1 (cShC_24 hsw8).2.1 ?_
      obtain ⟨z10, E⟩ := gd_some E
      exact ea_iretO (pc := 74) dX6_readProduct_74 rfl (ea_bn z10) E
theorem kBX6_readProduct_51 {JX6_readProduct_75 : Nat → Int32 → Int32 → Int32 → ea_H → Option (Int32 × ea_H)}  (cJX6_readProduct_75 : ∀ (dep : Nat) (x1 : Int32) (x2 : Int32) (x3 : Int32) (h : ea_H), kp (ea_core h) (JX6_readProduct_75 dep x1 x2 x3 h)) {dep : Nat} {x1 : Int32} {x2 : Int32} {sx0 : Int32} {h : ea_H} : kp (ea_core h) (BX6_readProduct_51 JX6_readProduct_75 dep x1 x2 sx0 h) :=
  (kp_bind (kp_tw (kpX6_step _) rfl) fun w8 hcw8 => (kp_ite (kp_tw (cJX6_readProduct_75 _ _ _ _ _) hcw8) (kp_ite (kp_tw (cJX6_readProduct_75 _ _ _ _ _) hcw8) (kp_bind (kp_tw (kpX6_refuse _ _) hcw8) fun w9 hcw9 => (kp_gd (kp_ret hcw9))))))
theorem lBX6_readProduct_51 {JX6_readProduct_75 : Nat → Int32 → Int32 → Int32 → ea_H → Option (Int32 × ea_H)} {JX6_readProduct_75_ : Nat → Int32 → Int32 → Int32 → ea_H → Option (Int32 × ea_H)}  (mJX6_readProduct_75 : ∀ (dep : Nat) (x1 : Int32) (x2 : Int32) (x3 : Int32) (h : ea_H), fle (JX6_readProduct_75 dep x1 x2 x3 h) (JX6_readProduct_75_ dep x1 x2 x3 h)) {dep : Nat} {x1 : Int32} {x2 : Int32} {sx0 : Int32} {h : ea_H} : fle (BX6_readProduct_51 JX6_readProduct_75 dep x1 x2 sx0 h) (BX6_readProduct_51 JX6_readProduct_75_ dep x1 x2 sx0 h) :=
  (fle_bind (fle_rfl _) fun _ => (fle_ite (mJX6_readProduct_75 _ _ _ _ _) (fle_ite (mJX6_readProduct_75 _ _ _ _ _) (fle_rfl _))))
theorem nBX6_readProduct_51 {JX6_readProduct_75 : Nat → Int32 → Int32 → Int32 → ea_H → Option (Int32 × ea_H)} {JX6_readProduct_75_ : Nat → (Nat → Int32 → Int32 → Int32 → ea_H → Option (Int32 × ea_H))}  (mJX6_readProduct_75 : ∀ (dep : Nat) (x1 : Int32) (x2 : Int32) (x3 : Int32) (h : ea_H), fct (JX6_readProduct_75 dep x1 x2 x3 h) (fun f => JX6_readProduct_75_ f dep x1 x2 x3 h)) {dep : Nat} {x1 : Int32} {x2 : Int32} {sx0 : Int32} {h : ea_H} : fct (BX6_readProduct_51 JX6_readProduct_75 dep x1 x2 sx0 h) (fun f => BX6_readProduct_51 (JX6_readProduct_75_ f) dep x1 x2 sx0 h) :=
  (fct_bind (fct_rfl _) fun _ => (fct_ite (mJX6_readProduct_75 _ _ _ _ _) (fct_ite (mJX6_readProduct_75 _ _ _ _ _) (fct_rfl _))))
noncomputable def BX6_readProduct_75 (JX6_readProduct_92 : Nat → Int32 → Int32 → Int32 → ea_H → Option (Int32 × ea_H)) (dep : Nat) (x1 : Int32) (x2 : Int32) (x3 : Int32) (h : ea_H) : Option (Int32 × ea_H) :=
  (if x3 = (0 : Int32) then (JX6_readProduct_92 dep (x1 : Int32) (x2 : Int32) (x3 : Int32) h) else (Option.bind (qX6_value  h) fun w13 => (if w13.1 = (0 : Int32) then (Option.bind (qX6_refuse (2 : Int32) w13.2) fun w14 => (gd ((w14.1 = 0 ∨ w14.1 = 1)) (some (w14.1, w14.2)))) else (JX6_readProduct_92 dep (x1 : Int32) (x2 : Int32) (x3 : Int32) w13.2))))
theorem tBX6_readProduct_75 {JX6_readProduct_92 : Nat → Int32 → Int32 → Int32 → ea_H → Option (Int32 × ea_H)}  (kJX6_readProduct_92 : ∀ (dep : Nat) (x1 : Int32) (x2 : Int32) (x3 : Int32) (h : ea_H) (r : Int32) (h' : ea_H), JX6_readProduct_92 dep x1 x2 x3 h = some (r, h') → ShC h → ∀ (d : Nat) (h0 : ea_H), 2 + dep ≤ d → ea_W mX6_readProduct d h0 (some (vI r)) h' 92 [(0, vR (some 24)), (1, vI x1), (2, vI x2), (3, vI x3)] [] h) {x1 : Int32} {x2 : Int32} {x3 : Int32} {dep : Nat} {h : ea_H} {r : Int32} {h' : ea_H} (E : BX6_readProduct_75 JX6_readProduct_92 dep x1 x2 x3 h = some (r, h')) (hs : ShC h) {d : Nat} {h0 : ea_H} (hd : 2 + dep ≤ d) : ea_W mX6_readProduct d h0 (some (vI r)) h' 75 [(0, vR (some 24)), (1, vI x1), (2, vI x2), (3, vI x3)] [] h := by
  unfold BX6_readProduct_75 at E
  refine ea_iload_n (pc := 75) dX6_readProduct_75 rfl 3 rfl ?_
  refine ea_if_eq (pc := 76) (tgt := 92) dX6_readProduct_76 rfl (fun c17 => ?_) (fun c17 => ?_)
  · have E := (if_pos c17).symm.trans E
    exact (kJX6_readProduct_92 dep (x1 : Int32) (x2 : Int32) (x3 : Int32) h _ _ E hs d h0 hd)
  · have E := (if_neg c17).symm.trans E
    obtain ⟨w13, Ew13, E⟩ := bd_some E
    have hsw13 : ShC w13.2 := ShC_core ((kpX6_value _) _ Ew13) hs
    refine ea_aload_n (pc := 79) dX6_readProduct_79 rfl 0 rfl ?_
    refine ea_callV (pc := 80) (d' := d - 1) (As := []) (st := []) dX6_readProduct_80 kX6_value (sX6_value (d := d - 1) (by omega) hs Ew13) (by omega) rfl (Nat.le_of_ble_eq_true rfl) ew_1012 ew_1014 ew_25 (ci := 6) rfl (by decide) (cShC_24 hs).1 (cShC_24 hs).2.1 ?_
    refine ea_if_ne (pc := 83) (tgt := 92) dX6_readProduct_83 rfl (fun c16 => ?_) (fun c16 => ?_)
    · have E := (if_neg c16).symm.trans E
      exact (kJX6_readProduct_92 dep (x1 : Int32) (x2 : Int32) (x3 : Int32) w13.2 _ _ E hsw13 d h0 hd)
    · have E := (if_pos c16).symm.trans E
      obtain ⟨w14, Ew14, E⟩ := bd_some E
      have hsw14 : ShC w14.2 := ShC_core ((kpX6_refuse _ _) _ Ew14) hsw13
      refine ea_aload_n (pc := 86) dX6_readProduct_86 rfl 0 rfl ?_
      refine ea_iconst (pc := 87) dX6_readProduct_87 (v := 2) rfl ?_
      refine ea_callV (pc := 88) (d' := d - 1) (As := [vI 2]) (st := []) dX6_readProduct_88 kX6_refuse (sX6_refuse (d := d - 1) (by omega) hsw13 Ew14) (by omega) rfl (Nat.le_of_ble_eq_true rfl) ew_988 ew_990 ew_19 (ci := 6) rfl (by decide) (cShC_24 hsw13).1 (cShC_24 hsw13).2.1 ?_
      obtain ⟨z15, E⟩ := gd_some E
      exact ea_iretO (pc := 91) dX6_readProduct_91 rfl (ea_bn z15) E
theorem kBX6_readProduct_75 {JX6_readProduct_92 : Nat → Int32 → Int32 → Int32 → ea_H → Option (Int32 × ea_H)}  (cJX6_readProduct_92 : ∀ (dep : Nat) (x1 : Int32) (x2 : Int32) (x3 : Int32) (h : ea_H), kp (ea_core h) (JX6_readProduct_92 dep x1 x2 x3 h)) {dep : Nat} {x1 : Int32} {x2 : Int32} {x3 : Int32} {h : ea_H} : kp (ea_core h) (BX6_readProduct_75 JX6_readProduct_92 dep x1 x2 x3 h) :=
  (kp_ite (kp_tw (cJX6_readProduct_92 _ _ _ _ _) rfl) (kp_bind (kp_tw (kpX6_value _) rfl) fun w13 hcw13 => (kp_ite (kp_bind (kp_tw (kpX6_refuse _ _) hcw13) fun w14 hcw14 => (kp_gd (kp_ret hcw14))) (kp_tw (cJX6_readProduct_92 _ _ _ _ _) hcw13))))
theorem lBX6_readProduct_75 {JX6_readProduct_92 : Nat → Int32 → Int32 → Int32 → ea_H → Option (Int32 × ea_H)} {JX6_readProduct_92_ : Nat → Int32 → Int32 → Int32 → ea_H → Option (Int32 × ea_H)}  (mJX6_readProduct_92 : ∀ (dep : Nat) (x1 : Int32) (x2 : Int32) (x3 : Int32) (h : ea_H), fle (JX6_readProduct_92 dep x1 x2 x3 h) (JX6_readProduct_92_ dep x1 x2 x3 h)) {dep : Nat} {x1 : Int32} {x2 : Int32} {x3 : Int32} {h : ea_H} : fle (BX6_readProduct_75 JX6_readProduct_92 dep x1 x2 x3 h) (BX6_readProduct_75 JX6_readProduct_92_ dep x1 x2 x3 h) :=
  (fle_ite (mJX6_readProduct_92 _ _ _ _ _) (fle_bind (fle_rfl _) fun _ => (fle_ite (fle_rfl _) (mJX6_readProduct_92 _ _ _ _ _))))
theorem nBX6_readProduct_75 {JX6_readProduct_92 : Nat → Int32 → Int32 → Int32 → ea_H → Option (Int32 × ea_H)} {JX6_readProduct_92_ : Nat → (Nat → Int32 → Int32 → Int32 → ea_H → Option (Int32 × ea_H))}  (mJX6_readProduct_92 : ∀ (dep : Nat) (x1 : Int32) (x2 : Int32) (x3 : Int32) (h : ea_H), fct (JX6_readProduct_92 dep x1 x2 x3 h) (fun f => JX6_readProduct_92_ f dep x1 x2 x3 h)) {dep : Nat} {x1 : Int32} {x2 : Int32} {x3 : Int32} {h : ea_H} : fct (BX6_readProduct_75 JX6_readProduct_92 dep x1 x2 x3 h) (fun f => BX6_readProduct_75 (JX6_readProduct_92_ f) dep x1 x2 x3 h) :=
  (fct_ite (mJX6_readProduct_92 _ _ _ _ _) (fct_bind (fct_rfl _) fun _ => (fct_ite (fct_rfl _) (mJX6_readProduct_92 _ _ _ _ _))))
noncomputable def BX6_readProduct_92 (JX6_readProduct_12 : Nat → Int32 → Int32 → ea_H → Option (Int32 × ea_H)) (JX6_readUnit_0 : Nat → Int32 → ea_H → Option (Int32 × ea_H)) (dep : Nat) (x1 : Int32) (x2 : Int32) (x3 : Int32) (h : ea_H) : Option (Int32 × ea_H) :=
  (gd (0 < dep) (Option.bind (JX6_readUnit_0 (dep - 1) (x1 : Int32) h) fun w18 => (if w18.1 = (0 : Int32) then (some ((0 : Int32), w18.2)) else (if x3 = (0 : Int32) then (Option.bind (qX6_put ((-12) : Int32) w18.2) fun w20 => (JX6_readProduct_12 dep (x1 : Int32) ((x2 + (1 : Int32)) : Int32) w20.2)) else (Option.bind (qX6_put ((-13) : Int32) w18.2) fun w21 => (JX6_readProduct_12 dep (x1 : Int32) ((x2 + (1 : Int32)) : Int32) w21.2))))))
theorem tBX6_readProduct_92 {JX6_readProduct_12 : Nat → Int32 → Int32 → ea_H → Option (Int32 × ea_H)} {JX6_readUnit_0 : Nat → Int32 → ea_H → Option (Int32 × ea_H)}  (kJX6_readProduct_12 : ∀ (dep : Nat) (x1 : Int32) (x2 : Int32) (h : ea_H) (r : Int32) (h' : ea_H), JX6_readProduct_12 dep x1 x2 h = some (r, h') → ShC h → ∀ (d : Nat) (h0 : ea_H), 2 + dep ≤ d → ea_W mX6_readProduct d h0 (some (vI r)) h' 12 [(0, vR (some 24)), (1, vI x1), (2, vI x2)] [] h) (kJX6_readUnit_0 : ∀ (dep : Nat) (x1 : Int32) (h : ea_H) (r : Int32) (h' : ea_H), JX6_readUnit_0 dep x1 h = some (r, h') → ShC h → ∀ (d : Nat) (h0 : ea_H), 2 + dep ≤ d → ea_W mX6_readUnit d h0 (some (vI r)) h' 0 [(0, vR (some 24)), (1, vI x1)] [] h) (cJX6_readUnit_0 : ∀ (dep : Nat) (x1 : Int32) (h : ea_H), kp (ea_core h) (JX6_readUnit_0 dep x1 h)) {x1 : Int32} {x2 : Int32} {x3 : Int32} {dep : Nat} {h : ea_H} {r : Int32} {h' : ea_H} (E : BX6_readProduct_92 JX6_readProduct_12 JX6_readUnit_0 dep x1 x2 x3 h = some (r, h')) (hs : ShC h) {d : Nat} {h0 : ea_H} (hd : 2 + dep ≤ d) : ea_W mX6_readProduct d h0 (some (vI r)) h' 92 [(0, vR (some 24)), (1, vI x1), (2, vI x2), (3, vI x3)] [] h := by
  unfold BX6_readProduct_92 at E
  obtain ⟨zd19, E⟩ := gd_some E
  refine ea_aload_n (pc := 92) dX6_readProduct_92 rfl 0 rfl ?_
  refine ea_iload_n (pc := 93) dX6_readProduct_93 rfl 1 rfl ?_
  obtain ⟨w18, Ew18, E⟩ := bd_some E
  have hsw18 : ShC w18.2 := ShC_core ((cJX6_readUnit_0 (dep - 1) _ _) _ Ew18) hs
  refine ea_callV (pc := 94) (d' := d - 1) (As := [vI x1]) (st := []) dX6_readProduct_94 kX6_readUnit (ea_enter rfl (Nat.le_of_ble_eq_true rfl) (kJX6_readUnit_0 (dep - 1) (x1 : Int32) _ _ _ Ew18 hs (d - 1) h (by omega))) (by omega) rfl (Nat.le_of_ble_eq_true rfl) ew_1008 ew_1010 ew_24 (ci := 6) rfl (by decide) (cShC_24 hs).1 (cShC_24 hs).2.1 ?_
  refine ea_if_ne (pc := 97) (tgt := 102) dX6_readProduct_97 rfl (fun c23 => ?_) (fun c23 => ?_)
  · have E := (if_neg c23).symm.trans E
    refine ea_aload_n (pc := 102) dX6_readProduct_102 rfl 0 rfl ?_
    refine ea_iload_n (pc := 103) dX6_readProduct_103 rfl 3 rfl ?_
    refine ea_if_eq (pc := 104) (tgt := 112) dX6_readProduct_104 rfl (fun c22 => ?_) (fun c22 => ?_)
    · have E := (if_pos c22).symm.trans E
      obtain ⟨w20, Ew20, E⟩ := bd_some E
      have hsw20 : ShC w20.2 := ShC_core ((kpX6_put _ _) _ Ew20) hsw18
      refine ea_bipush (pc := 112) dX6_readProduct_112 (v := (-12)) rfl ?_
      refine ea_callV (pc := 114) (d' := d - 1) (As := [vI (-12)]) (st := []) dX6_readProduct_114 kX6_put (sX6_put (d := d - 1) (by omega) hsw18 Ew20) (by omega) rfl (Nat.le_of_ble_eq_true rfl) ew_1016 ew_1018 ew_26 (ci := 6) rfl (by decide) (cShC_24 hsw18).1 (cShC_24 hsw18).2.1 ?_
      refine ea_iinc (pc := 117) (v := 1) (lv' := [(0, vR (some 24)), (1, vI x1), (2, vI (x2 + (1 : Int32)))]) dX6_readProduct_117 2 rfl rfl (Nat.le_of_ble_eq_true rfl) [1, 2, 0] rfl ?_
      refine ea_goto (pc := 120) (tgt := 12) dX6_readProduct_120 rfl ?_
      exact (kJX6_readProduct_12 dep (x1 : Int32) ((x2 + (1 : Int32)) : Int32) w20.2 _ _ E hsw20 d h0 hd)
    · have E := (if_neg c22).symm.trans E
      obtain ⟨w21, Ew21, E⟩ := bd_some E
      have hsw21 : ShC w21.2 := ShC_core ((kpX6_put _ _) _ Ew21) hsw18
      refine ea_bipush (pc := 107) dX6_readProduct_107 (v := (-13)) rfl ?_
      refine ea_goto (pc := 109) (tgt := 114) dX6_readProduct_109 rfl ?_
      refine ea_callV (pc := 114) (d' := d - 1) (As := [vI (-13)]) (st := []) dX6_readProduct_114 kX6_put (sX6_put (d := d - 1) (by omega) hsw18 Ew21) (by omega) rfl (Nat.le_of_ble_eq_true rfl) ew_1016 ew_1018 ew_26 (ci := 6) rfl (by decide) (cShC_24 hsw18).1 (cShC_24 hsw18).2.1 ?_
      refine ea_iinc (pc := 117) (v := 1) (lv' := [(0, vR (some 24)), (1, vI x1), (2, vI (x2 + (1 : Int32)))]) dX6_readProduct_117 2 rfl rfl (Nat.le_of_ble_eq_true rfl) [1, 2, 0] rfl ?_
      refine ea_goto (pc := 120) (tgt := 12) dX6_readProduct_120 rfl ?_
      exact (kJX6_readProduct_12 dep (x1 : Int32) ((x2 + (1 : Int32)) : Int32) w21.2 _ _ E hsw21 d h0 hd)
  · have E := (if_pos c23).symm.trans E
    refine ea_iconst (pc := 100) dX6_readProduct_100 (v := 0) rfl ?_
    exact ea_iretO (pc := 101) dX6_readProduct_101 rfl (ea_bn (Or.inl rfl)) E
theorem kBX6_readProduct_92 {JX6_readProduct_12 : Nat → Int32 → Int32 → ea_H → Option (Int32 × ea_H)} {JX6_readUnit_0 : Nat → Int32 → ea_H → Option (Int32 × ea_H)}  (cJX6_readProduct_12 : ∀ (dep : Nat) (x1 : Int32) (x2 : Int32) (h : ea_H), kp (ea_core h) (JX6_readProduct_12 dep x1 x2 h)) (cJX6_readUnit_0 : ∀ (dep : Nat) (x1 : Int32) (h : ea_H), kp (ea_core h) (JX6_readUnit_0 dep x1 h)) {dep : Nat} {x1 : Int32} {x2 : Int32} {x3 : Int32} {h : ea_H} : kp (ea_core h) (BX6_readProduct_92 JX6_readProduct_12 JX6_readUnit_0 dep x1 x2 x3 h) :=
  (kp_gd (kp_bind (kp_tw (cJX6_readUnit_0 (dep - 1) _ _) rfl) fun w18 hcw18 => (kp_ite (kp_ret hcw18) (kp_ite (kp_bind (kp_tw (kpX6_put _ _) hcw18) fun w20 hcw20 => (kp_tw (cJX6_readProduct_12 _ _ _ _) hcw20)) (kp_bind (kp_tw (kpX6_put _ _) hcw18) fun w21 hcw21 => (kp_tw (cJX6_readProduct_12 _ _ _ _) hcw21))))))
theorem lBX6_readProduct_92 {JX6_readProduct_12 : Nat → Int32 → Int32 → ea_H → Option (Int32 × ea_H)} {JX6_readUnit_0 : Nat → Int32 → ea_H → Option (Int32 × ea_H)} {JX6_readProduct_12_ : Nat → Int32 → Int32 → ea_H → Option (Int32 × ea_H)} {JX6_readUnit_0_ : Nat → Int32 → ea_H → Option (Int32 × ea_H)}  (mJX6_readProduct_12 : ∀ (dep : Nat) (x1 : Int32) (x2 : Int32) (h : ea_H), fle (JX6_readProduct_12 dep x1 x2 h) (JX6_readProduct_12_ dep x1 x2 h)) (mJX6_readUnit_0 : ∀ (dep : Nat) (x1 : Int32) (h : ea_H), fle (JX6_readUnit_0 dep x1 h) (JX6_readUnit_0_ dep x1 h)) {dep : Nat} {x1 : Int32} {x2 : Int32} {x3 : Int32} {h : ea_H} : fle (BX6_readProduct_92 JX6_readProduct_12 JX6_readUnit_0 dep x1 x2 x3 h) (BX6_readProduct_92 JX6_readProduct_12_ JX6_readUnit_0_ dep x1 x2 x3 h) :=
  (fle_gd (fle_bind (mJX6_readUnit_0 _ _ _) fun _ => (fle_ite (fle_rfl _) (fle_ite (fle_bind (fle_rfl _) fun _ => (mJX6_readProduct_12 _ _ _ _)) (fle_bind (fle_rfl _) fun _ => (mJX6_readProduct_12 _ _ _ _))))))
theorem nBX6_readProduct_92 {JX6_readProduct_12 : Nat → Int32 → Int32 → ea_H → Option (Int32 × ea_H)} {JX6_readUnit_0 : Nat → Int32 → ea_H → Option (Int32 × ea_H)} {JX6_readProduct_12_ : Nat → (Nat → Int32 → Int32 → ea_H → Option (Int32 × ea_H))} {JX6_readUnit_0_ : Nat → (Nat → Int32 → ea_H → Option (Int32 × ea_H))}  (mJX6_readProduct_12 : ∀ (dep : Nat) (x1 : Int32) (x2 : Int32) (h : ea_H), fct (JX6_readProduct_12 dep x1 x2 h) (fun f => JX6_readProduct_12_ f dep x1 x2 h)) (mJX6_readUnit_0 : ∀ (dep : Nat) (x1 : Int32) (h : ea_H), fct (JX6_readUnit_0 dep x1 h) (fun f => JX6_readUnit_0_ f dep x1 h)) {dep : Nat} {x1 : Int32} {x2 : Int32} {x3 : Int32} {h : ea_H} : fct (BX6_readProduct_92 JX6_readProduct_12 JX6_readUnit_0 dep x1 x2 x3 h) (fun f => BX6_readProduct_92 (JX6_readProduct_12_ f) (JX6_readUnit_0_ f) dep x1 x2 x3 h) :=
  (fct_gd (fct_bind (mJX6_readUnit_0 _ _ _) fun _ => (fct_ite (fct_rfl _) (fct_ite (fct_bind (fct_rfl _) fun _ => (mJX6_readProduct_12 _ _ _ _)) (fct_bind (fct_rfl _) fun _ => (mJX6_readProduct_12 _ _ _ _))))))
noncomputable def BX6_readUnit_0 (JX6_readUnit_60 : Nat → Int32 → ea_H → Option (Int32 × ea_H)) (dep : Nat) (x1 : Int32) (h : ea_H) : Option (Int32 × ea_H) :=
  (if (ea_i h 24 7) = (18 : Int32) then (Option.bind (qX6_value  h) fun w5 => (Option.bind (qX6_put (w5.1 : Int32) w5.2) fun w6 => (Option.bind (qX6_step  w6.2) fun w7 => (some ((1 : Int32), w7.2))))) else (if (ea_i h 24 7) < (6 : Int32) then (JX6_readUnit_60 dep (x1 : Int32) h) else (if (12 : Int32) < (ea_i h 24 7) then (JX6_readUnit_60 dep (x1 : Int32) h) else (Option.bind (qX6_put ((((-1) : Int32) - ((ea_i h 24 7) - (6 : Int32))) : Int32) h) fun w1 => (Option.bind (qX6_step  w1.2) fun w2 => (some ((1 : Int32), w2.2)))))))
theorem tBX6_readUnit_0 {JX6_readUnit_60 : Nat → Int32 → ea_H → Option (Int32 × ea_H)}  (kJX6_readUnit_60 : ∀ (dep : Nat) (x1 : Int32) (h : ea_H) (r : Int32) (h' : ea_H), JX6_readUnit_60 dep x1 h = some (r, h') → ShC h → ∀ (d : Nat) (h0 : ea_H), 2 + dep ≤ d → ea_W mX6_readUnit d h0 (some (vI r)) h' 60 [(0, vR (some 24)), (1, vI x1)] [] h) {x1 : Int32} {dep : Nat} {h : ea_H} {r : Int32} {h' : ea_H} (E : BX6_readUnit_0 JX6_readUnit_60 dep x1 h = some (r, h')) (hs : ShC h) {d : Nat} {h0 : ea_H} (hd : 2 + dep ≤ d) : ea_W mX6_readUnit d h0 (some (vI r)) h' 0 [(0, vR (some 24)), (1, vI x1)] [] h := by
  unfold BX6_readUnit_0 at E
  refine ea_aload_n (pc := 0) dX6_readUnit_0 rfl 0 rfl ?_
  refine ea_getI (pc := 1) dX6_readUnit_1 ec_6 (k := 7) (Nat.le_of_ble_eq_true rfl) rfl (Or.inl ew_304) (cShC_24 hs).1 (cShC_24 hs).2.1 ?_
  refine ea_bipush (pc := 4) dX6_readUnit_4 (v := 18) rfl ?_
  refine ea_icmp_ne (pc := 6) (tgt := 23) dX6_readUnit_6 rfl (fun c8 => ?_) (fun c8 => ?_)
  · have E := (if_neg c8).symm.trans E
    refine ea_aload_n (pc := 23) dX6_readUnit_23 rfl 0 rfl ?_
    refine ea_getI (pc := 24) dX6_readUnit_24 ec_6 (k := 7) (Nat.le_of_ble_eq_true rfl) rfl (Or.inl ew_304) (cShC_24 hs).1 (cShC_24 hs).2.1 ?_
    refine ea_bipush (pc := 27) dX6_readUnit_27 (v := 6) rfl ?_
    refine ea_icmp_lt (pc := 29) (tgt := 60) dX6_readUnit_29 rfl (fun c4 => ?_) (fun c4 => ?_)
    · have E := (if_pos c4).symm.trans E
      exact (kJX6_readUnit_60 dep (x1 : Int32) h _ _ E hs d h0 hd)
    · have E := (if_neg c4).symm.trans E
      refine ea_aload_n (pc := 32) dX6_readUnit_32 rfl 0 rfl ?_
      refine ea_getI (pc := 33) dX6_readUnit_33 ec_6 (k := 7) (Nat.le_of_ble_eq_true rfl) rfl (Or.inl ew_304) (cShC_24 hs).1 (cShC_24 hs).2.1 ?_
      refine ea_bipush (pc := 36) dX6_readUnit_36 (v := 12) rfl ?_
      refine ea_icmp_gt (pc := 38) (tgt := 60) dX6_readUnit_38 rfl (fun c3 => ?_) (fun c3 => ?_)
      · have E := (if_pos c3).symm.trans E
        exact (kJX6_readUnit_60 dep (x1 : Int32) h _ _ E hs d h0 hd)
      · have E := (if_neg c3).symm.trans E
        obtain ⟨w1, Ew1, E⟩ := bd_some E
        have hsw1 : ShC w1.2 := ShC_core ((kpX6_put _ _) _ Ew1) hs
        refine ea_aload_n (pc := 41) dX6_readUnit_41 rfl 0 rfl ?_
        refine ea_iconst (pc := 42) dX6_readUnit_42 (v := (-1)) rfl ?_
        refine ea_aload_n (pc := 43) dX6_readUnit_43 rfl 0 rfl ?_
        refine ea_getI (pc := 44) dX6_readUnit_44 ec_6 (k := 7) (Nat.le_of_ble_eq_true rfl) rfl (Or.inl ew_304) (cShC_24 hs).1 (cShC_24 hs).2.1 ?_
        refine ea_bipush (pc := 47) dX6_readUnit_47 (v := 6) rfl ?_
        refine ea_isub (pc := 49) dX6_readUnit_49 ?_
        refine ea_isub (pc := 50) dX6_readUnit_50 ?_
        refine ea_callV (pc := 51) (d' := d - 1) (As := [vI (((-1) : Int32) - ((ea_i h 24 7) - (6 : Int32)))]) (st := []) dX6_readUnit_51 kX6_put (sX6_put (d := d - 1) (by omega) hs Ew1) (by omega) rfl (Nat.le_of_ble_eq_true rfl) ew_1016 ew_1018 ew_26 (ci := 6) rfl (by decide) (cShC_24 hs).1 (cShC_24 hs).2.1 ?_
        obtain ⟨w2, Ew2, E⟩ := bd_some E
        have hsw2 : ShC w2.2 := ShC_core ((kpX6_step _) _ Ew2) hsw1
        refine ea_aload_n (pc := 54) dX6_readUnit_54 rfl 0 rfl ?_
        refine ea_callV (pc := 55) (d' := d - 1) (As := []) (st := []) dX6_readUnit_55 kX6_step (sX6_step (d := d - 1) (by omega) hsw1 Ew2) (by omega) rfl (Nat.le_of_ble_eq_true rfl) ew_996 ew_998 ew_21 (ci := 6) rfl (by decide) (cShC_24 hsw1).1 (cShC_24 hsw1).2.1 ?_
        refine ea_iconst (pc := 58) dX6_readUnit_58 (v := 1) rfl ?_
        exact ea_iretO (pc := 59) dX6_readUnit_59 rfl (ea_bn (Or.inr rfl)) E
  · have E := (if_pos c8).symm.trans E
    obtain ⟨w5, Ew5, E⟩ := bd_some E
    have hsw5 : ShC w5.2 := ShC_core ((kpX6_value _) _ Ew5) hs
    refine ea_aload_n (pc := 9) dX6_readUnit_9 rfl 0 rfl ?_
    refine ea_aload_n (pc := 10) dX6_readUnit_10 rfl 0 rfl ?_
    refine ea_callV (pc := 11) (d' := d - 1) (As := []) (st := [vR (some 24)]) dX6_readUnit_11 kX6_value (sX6_value (d := d - 1) (by omega) hs Ew5) (by omega) rfl (Nat.le_of_ble_eq_true rfl) ew_1012 ew_1014 ew_25 (ci := 6) rfl (by decide) (cShC_24 hs).1 (cShC_24 hs).2.1 ?_
    obtain ⟨w6, Ew6, E⟩ := bd_some E
    have hsw6 : ShC w6.2 := ShC_core ((kpX6_put _ _) _ Ew6) hsw5
    refine ea_callV (pc := 14) (d' := d - 1) (As := [vI w5.1]) (st := []) dX6_readUnit_14 kX6_put (sX6_put (d := d - 1) (by omega) hsw5 Ew6) (by omega) rfl (Nat.le_of_ble_eq_true rfl) ew_1016 ew_1018 ew_26 (ci := 6) rfl (by decide) (cShC_24 hsw5).1 (cShC_24 hsw5).2.1 ?_
    obtain ⟨w7, Ew7, E⟩ := bd_some E
    have hsw7 : ShC w7.2 := ShC_core ((kpX6_step _) _ Ew7) hsw6
    refine ea_aload_n (pc := 17) dX6_readUnit_17 rfl 0 rfl ?_
    refine ea_callV (pc := 18) (d' := d - 1) (As := []) (st := []) dX6_readUnit_18 kX6_step (sX6_step (d := d - 1) (by omega) hsw6 Ew7) (by omega) rfl (Nat.le_of_ble_eq_true rfl) ew_996 ew_998 ew_21 (ci := 6) rfl (by decide) (cShC_24 hsw6).1 (cShC_24 hsw6).2.1 ?_
    refine ea_iconst (pc := 21) dX6_readUnit_21 (v := 1) rfl ?_
    exact ea_iretO (pc := 22) dX6_readUnit_22 rfl (ea_bn (Or.inr rfl)) E
theorem kBX6_readUnit_0 {JX6_readUnit_60 : Nat → Int32 → ea_H → Option (Int32 × ea_H)}  (cJX6_readUnit_60 : ∀ (dep : Nat) (x1 : Int32) (h : ea_H), kp (ea_core h) (JX6_readUnit_60 dep x1 h)) {dep : Nat} {x1 : Int32} {h : ea_H} : kp (ea_core h) (BX6_readUnit_0 JX6_readUnit_60 dep x1 h) :=
  (kp_ite (kp_bind (kp_tw (kpX6_value _) rfl) fun w5 hcw5 => (kp_bind (kp_tw (kpX6_put _ _) hcw5) fun w6 hcw6 => (kp_bind (kp_tw (kpX6_step _) hcw6) fun w7 hcw7 => (kp_ret hcw7)))) (kp_ite (kp_tw (cJX6_readUnit_60 _ _ _) rfl) (kp_ite (kp_tw (cJX6_readUnit_60 _ _ _) rfl) (kp_bind (kp_tw (kpX6_put _ _) rfl) fun w1 hcw1 => (kp_bind (kp_tw (kpX6_step _) hcw1) fun w2 hcw2 => (kp_ret hcw2))))))
theorem lBX6_readUnit_0 {JX6_readUnit_60 : Nat → Int32 → ea_H → Option (Int32 × ea_H)} {JX6_readUnit_60_ : Nat → Int32 → ea_H → Option (Int32 × ea_H)}  (mJX6_readUnit_60 : ∀ (dep : Nat) (x1 : Int32) (h : ea_H), fle (JX6_readUnit_60 dep x1 h) (JX6_readUnit_60_ dep x1 h)) {dep : Nat} {x1 : Int32} {h : ea_H} : fle (BX6_readUnit_0 JX6_readUnit_60 dep x1 h) (BX6_readUnit_0 JX6_readUnit_60_ dep x1 h) :=
  (fle_ite (fle_rfl _) (fle_ite (mJX6_readUnit_60 _ _ _) (fle_ite (mJX6_readUnit_60 _ _ _) (fle_rfl _))))
theorem nBX6_readUnit_0 {JX6_readUnit_60 : Nat → Int32 → ea_H → Option (Int32 × ea_H)} {JX6_readUnit_60_ : Nat → (Nat → Int32 → ea_H → Option (Int32 × ea_H))}  (mJX6_readUnit_60 : ∀ (dep : Nat) (x1 : Int32) (h : ea_H), fct (JX6_readUnit_60 dep x1 h) (fun f => JX6_readUnit_60_ f dep x1 h)) {dep : Nat} {x1 : Int32} {h : ea_H} : fct (BX6_readUnit_0 JX6_readUnit_60 dep x1 h) (fun f => BX6_readUnit_0 (JX6_readUnit_60_ f) dep x1 h) :=
  (fct_ite (fct_rfl _) (fct_ite (mJX6_readUnit_60 _ _ _) (fct_ite (mJX6_readUnit_60 _ _ _) (fct_rfl _))))
noncomputable def BX6_readUnit_60 (JX6_readSum_0 : Nat → Int32 → ea_H → Option (Int32 × ea_H)) (dep : Nat) (x1 : Int32) (h : ea_H) : Option (Int32 × ea_H) :=
  (if (ea_i h 24 7) = (40 : Int32) then (if x1 < (8 : Int32) then (Option.bind (qX6_step  h) fun w9 => (gd (0 < dep) (Option.bind (JX6_readSum_0 (dep - 1) ((x1 + (1 : Int32)) : Int32) w9.2) fun w10 => (if w10.1 = (0 : Int32) then (some ((0 : Int32), w10.2)) else (if (ea_i w10.2 24 7) = (41 : Int32) then (Option.bind (qX6_step  w10.2) fun w12 => (some ((1 : Int32), w12.2))) else (Option.bind (qX6_refuse (1 : Int32) w10.2) fun w13 => (gd ((w13.1 = 0 ∨ w13.1 = 1)) (some (w13.1, w13.2))))))))) else (Option.bind (qX6_refuse (3 : Int32) h) fun w17 => (gd ((w17.1 = 0 ∨ w17.1 = 1)) (some (w17.1, w17.2))))) else (Option.bind (qX6_refuse (1 : Int32) h) fun w20 => (gd ((w20.1 = 0 ∨ w20.1 = 1)) (some (w20.1, w20.2)))))
theorem tBX6_readUnit_60 {JX6_readSum_0 : Nat → Int32 → ea_H → Option (Int32 × ea_H)}  (kJX6_readSum_0 : ∀ (dep : Nat) (x1 : Int32) (h : ea_H) (r : Int32) (h' : ea_H), JX6_readSum_0 dep x1 h = some (r, h') → ShC h → ∀ (d : Nat) (h0 : ea_H), 2 + dep ≤ d → ea_W mX6_readSum d h0 (some (vI r)) h' 0 [(0, vR (some 24)), (1, vI x1)] [] h) (cJX6_readSum_0 : ∀ (dep : Nat) (x1 : Int32) (h : ea_H), kp (ea_core h) (JX6_readSum_0 dep x1 h)) {x1 : Int32} {dep : Nat} {h : ea_H} {r : Int32} {h' : ea_H} (E : BX6_readUnit_60 JX6_readSum_0 dep x1 h = some (r, h')) (hs : ShC h) {d : Nat} {h0 : ea_H} (hd : 2 + dep ≤ d) : ea_W mX6_readUnit d h0 (some (vI r)) h' 60 [(0, vR (some 24)), (1, vI x1)] [] h := by
  unfold BX6_readUnit_60 at E
  refine ea_aload_n (pc := 60) dX6_readUnit_60 rfl 0 rfl ?_
  refine ea_getI (pc := 61) dX6_readUnit_61 ec_6 (k := 7) (Nat.le_of_ble_eq_true rfl) rfl (Or.inl ew_304) (cShC_24 hs).1 (cShC_24 hs).2.1 ?_
  refine ea_bipush (pc := 64) dX6_readUnit_64 (v := 40) rfl ?_
  refine ea_icmp_eq (pc := 66) (tgt := 75) dX6_readUnit_66 rfl (fun c22 => ?_) (fun c22 => ?_)
  · have E := (if_pos c22).symm.trans E
    refine ea_iload_n (pc := 75) dX6_readUnit_75 rfl 1 rfl ?_
    refine ea_bipush (pc := 76) dX6_readUnit_76 (v := 8) rfl ?_
    refine ea_icmp_lt (pc := 78) (tgt := 87) dX6_readUnit_78 rfl (fun c19 => ?_) (fun c19 => ?_)
    · have E := (if_pos c19).symm.trans E
      obtain ⟨w9, Ew9, E⟩ := bd_some E
      have hsw9 : ShC w9.2 := ShC_core ((kpX6_step _) _ Ew9) hs
      refine ea_aload_n (pc := 87) dX6_readUnit_87 rfl 0 rfl ?_
      refine ea_callV (pc := 88) (d' := d - 1) (As := []) (st := []) dX6_readUnit_88 kX6_step (sX6_step (d := d - 1) (by omega) hs Ew9) (by omega) rfl (Nat.le_of_ble_eq_true rfl) ew_996 ew_998 ew_21 (ci := 6) rfl (by decide) (cShC_24 hs).1 (cShC_24 hs).2.1 ?_
      obtain ⟨zd11, E⟩ := gd_some E
      refine ea_aload_n (pc := 91) dX6_readUnit_91 rfl 0 rfl ?_
      refine ea_iload_n (pc := 92) dX6_readUnit_92 rfl 1 rfl ?_
      refine ea_iconst (pc := 93) dX6_readUnit_93 (v := 1) rfl ?_
      refine ea_iadd (pc := 94) dX6_readUnit_94 ?_
      obtain ⟨w10, Ew10, E⟩ := bd_some E
      have hsw10 : ShC w10.2 := ShC_core ((cJX6_readSum_0 (dep - 1) _ _) _ Ew10) hsw9
      refine ea_callV (pc := 95) (d' := d - 1) (As := [vI (x1 + (1 : Int32))]) (st := []) dX6_readUnit_95 kX6_readSum (ea_enter rfl (Nat.le_of_ble_eq_true rfl) (kJX6_readSum_0 (dep - 1) ((x1 + (1 : Int32)) : Int32) _ _ _ Ew10 hsw9 (d - 1) w9.2 (by omega))) (by omega) rfl (Nat.le_of_ble_eq_true rfl) ew_1000 ew_1002 ew_22 (ci := 6) rfl (by decide) (cShC_24 hsw9).1 (cShC_24 hsw9).2.1 ?_
      refine ea_if_ne (pc := 98) (tgt := 103) dX6_readUnit_98 rfl (fun c16 => ?_) (fun c16 => ?_)
      · have E := (if_neg c16).symm.trans E
        refine ea_aload_n (pc := 103) dX6_readUnit_103 rfl 0 rfl ?_
        refine ea_getI (pc := 104) dX6_readUnit_104 ec_6 (k := 7) (Nat.le_of_ble_eq_true rfl) rfl (Or.inl ew_304) (cShC_24 hsw10).1 (cShC_24 hsw10).2.1 ?_
        refine ea_bipush (pc := 107) dX6_readUnit_107 (v := 41) rfl ?_
        refine ea_icmp_eq (pc := 109) (tgt := 118) dX6_readUnit_109 rfl (fun c15 => ?_) (fun c15 => ?_)
        · have E := (if_pos c15).symm.trans E
          obtain ⟨w12, Ew12, E⟩ := bd_some E
          have hsw12 : ShC w12.2 := ShC_core ((kpX6_step _) _ Ew12) hsw10
          refine ea_aload_n (pc := 118) dX6_readUnit_118 rfl 0 rfl ?_
          refine ea_callV (pc := 119) (d' := d - 1) (As := []) (st := []) dX6_readUnit_119 kX6_step (sX6_step (d := d - 1) (by omega) hsw10 Ew12) (by omega) rfl (Nat.le_of_ble_eq_true rfl) ew_996 ew_998 ew_21 (ci := 6) rfl (by decide) (cShC_24 hsw10).1 (cShC_24 hsw10).2.1 ?_
          refine ea_iconst (pc := 122) dX6_readUnit_122 (v := 1) rfl ?_
          exact ea_iretO (pc := 123) dX6_readUnit_123 rfl (ea_bn (Or.inr rfl)) E
        · have E := (if_neg c15).symm.trans E
          obtain ⟨w13, Ew13, E⟩ := bd_some E
          have hsw13 : ShC w13.2 := ShC_core ((kpX6_refuse _ _) _ Ew13) hsw10
          refine ea_aload_n (pc := 112) dX6_readUnit_112 rfl 0 rfl ?_
          refine ea_iconst (pc := 113) dX6_readUnit_113 (v := 1) rfl ?_
          refine ea_callV (pc := 114) (d' := d - 1) (As := [vI 1]) (st := []) dX6_readUnit_114 kX6_refuse (sX6_refuse (d := d - 1) (by omega) hsw10 Ew13) (by omega) rfl (Nat.le_of_ble_eq_true rfl) ew_988 ew_990 ew_19 (ci := 6) rfl (by decide) (cShC_24 hsw10).1 (cShC_24 hsw10).2.1 ?_
          obtain ⟨z14, E⟩ := gd_some E
          exact ea_iretO (pc := 117) dX6_readUnit_117 rfl (ea_bn z14) E
      · have E := (if_pos c16).symm.trans E
        refine ea_iconst (pc := 101) dX6_readUnit_101 (v := 0) rfl ?_
        exact ea_iretO (pc := 102) dX6_readUnit_102 rfl (ea_bn (Or.inl rfl)) E
    · have E := (if_neg c19).symm.trans E
      obtain ⟨w17, Ew17, E⟩ := bd_some E
      have hsw17 : ShC w17.2 := ShC_core ((kpX6_refuse _ _) _ Ew17) hs
      refine ea_aload_n (pc := 81) dX6_readUnit_81 rfl 0 rfl ?_
      refine ea_iconst (pc := 82) dX6_readUnit_82 (v := 3) rfl ?_
      refine ea_callV (pc := 83) (d' := d - 1) (As := [vI 3]) (st := []) dX6_readUnit_83 kX6_refuse (sX6_refuse (d := d - 1) (by omega) hs Ew17) (by omega) rfl (Nat.le_of_ble_eq_true rfl) ew_988 ew_990 ew_19 (ci := 6) rfl (by decide) (cShC_24 hs).1 (cShC_24 hs).2.1 ?_
      obtain ⟨z18, E⟩ := gd_some E
      exact ea_iretO (pc := 86) dX6_readUnit_86 rfl (ea_bn z18) E
  · have E := (if_neg c22).symm.trans E
    obtain ⟨w20, Ew20, E⟩ := bd_some E
    have hsw20 : ShC w20.2 := ShC_core ((kpX6_refuse _ _) _ Ew20) hs
    refine ea_aload_n (pc := 69) dX6_readUnit_69 rfl 0 rfl ?_
    refine ea_iconst (pc := 70) dX6_readUnit_70 (v := 1) rfl ?_
    refine ea_callV (pc := 71) (d' := d - 1) (As := [vI 1]) (st := []) dX6_readUnit_71 kX6_refuse (sX6_refuse (d := d - 1) (by omega) hs Ew20) (by omega) rfl (Nat.le_of_ble_eq_true rfl) ew_988 ew_990 ew_19 (ci := 6) rfl (by decide) (cShC_24 hs).1 (cShC_24 hs).2.1 ?_
    obtain ⟨z21, E⟩ := gd_some E
    exact ea_iretO (pc := 74) dX6_readUnit_74 rfl (ea_bn z21) E
theorem kBX6_readUnit_60 {JX6_readSum_0 : Nat → Int32 → ea_H → Option (Int32 × ea_H)}  (cJX6_readSum_0 : ∀ (dep : Nat) (x1 : Int32) (h : ea_H), kp (ea_core h) (JX6_readSum_0 dep x1 h)) {dep : Nat} {x1 : Int32} {h : ea_H} : kp (ea_core h) (BX6_readUnit_60 JX6_readSum_0 dep x1 h) :=
  (kp_ite (kp_ite (kp_bind (kp_tw (kpX6_step _) rfl) fun w9 hcw9 => (kp_gd (kp_bind (kp_tw (cJX6_readSum_0 (dep - 1) _ _) hcw9) fun w10 hcw10 => (kp_ite (kp_ret hcw10) (kp_ite (kp_bind (kp_tw (kpX6_step _) hcw10) fun w12 hcw12 => (kp_ret hcw12)) (kp_bind (kp_tw (kpX6_refuse _ _) hcw10) fun w13 hcw13 => (kp_gd (kp_ret hcw13)))))))) (kp_bind (kp_tw (kpX6_refuse _ _) rfl) fun w17 hcw17 => (kp_gd (kp_ret hcw17)))) (kp_bind (kp_tw (kpX6_refuse _ _) rfl) fun w20 hcw20 => (kp_gd (kp_ret hcw20))))
theorem lBX6_readUnit_60 {JX6_readSum_0 : Nat → Int32 → ea_H → Option (Int32 × ea_H)} {JX6_readSum_0_ : Nat → Int32 → ea_H → Option (Int32 × ea_H)}  (mJX6_readSum_0 : ∀ (dep : Nat) (x1 : Int32) (h : ea_H), fle (JX6_readSum_0 dep x1 h) (JX6_readSum_0_ dep x1 h)) {dep : Nat} {x1 : Int32} {h : ea_H} : fle (BX6_readUnit_60 JX6_readSum_0 dep x1 h) (BX6_readUnit_60 JX6_readSum_0_ dep x1 h) :=
  (fle_ite (fle_ite (fle_bind (fle_rfl _) fun _ => (fle_gd (fle_bind (mJX6_readSum_0 _ _ _) fun _ => (fle_rfl _)))) (fle_rfl _)) (fle_rfl _))
theorem nBX6_readUnit_60 {JX6_readSum_0 : Nat → Int32 → ea_H → Option (Int32 × ea_H)} {JX6_readSum_0_ : Nat → (Nat → Int32 → ea_H → Option (Int32 × ea_H))}  (mJX6_readSum_0 : ∀ (dep : Nat) (x1 : Int32) (h : ea_H), fct (JX6_readSum_0 dep x1 h) (fun f => JX6_readSum_0_ f dep x1 h)) {dep : Nat} {x1 : Int32} {h : ea_H} : fct (BX6_readUnit_60 JX6_readSum_0 dep x1 h) (fun f => BX6_readUnit_60 (JX6_readSum_0_ f) dep x1 h) :=
  (fct_ite (fct_ite (fct_bind (fct_rfl _) fun _ => (fct_gd (fct_bind (mJX6_readSum_0 _ _ _) fun _ => (fct_rfl _)))) (fct_rfl _)) (fct_rfl _))
noncomputable def gCG : Nat → (Nat → Int32 → ea_H → Option (Int32 × ea_H)) × (Nat → Int32 → Int32 → ea_H → Option (Int32 × ea_H)) × (Nat → Int32 → Int32 → ea_H → Option (Int32 × ea_H)) × (Nat → Int32 → Int32 → Int32 → ea_H → Option (Int32 × ea_H)) × (Nat → Int32 → ea_H → Option (Int32 × ea_H)) × (Nat → Int32 → Int32 → ea_H → Option (Int32 × ea_H)) × (Nat → Int32 → Int32 → ea_H → Option (Int32 × ea_H)) × (Nat → Int32 → Int32 → Int32 → ea_H → Option (Int32 × ea_H)) × (Nat → Int32 → Int32 → Int32 → ea_H → Option (Int32 × ea_H)) × (Nat → Int32 → Int32 → Int32 → ea_H → Option (Int32 × ea_H)) × (Nat → Int32 → ea_H → Option (Int32 × ea_H)) × (Nat → Int32 → ea_H → Option (Int32 × ea_H))
  | 0 => (fun _ _ _ => none, fun _ _ _ _ => none, fun _ _ _ _ => none, fun _ _ _ _ _ => none, fun _ _ _ => none, fun _ _ _ _ => none, fun _ _ _ _ => none, fun _ _ _ _ _ => none, fun _ _ _ _ _ => none, fun _ _ _ _ _ => none, fun _ _ _ => none, fun _ _ _ => none)
  | f + 1 => (BX6_readSum_0 (gCG f).2.1 (gCG f).2.2.2.2.1, BX6_readSum_12 (gCG f).2.2.1, BX6_readSum_37 (gCG f).2.2.2.1, BX6_readSum_53 (gCG f).2.1 (gCG f).2.2.2.2.1, BX6_readProduct_0 (gCG f).2.2.2.2.2.1 (gCG f).2.2.2.2.2.2.2.2.2.2.1, BX6_readProduct_12 (gCG f).2.2.2.2.2.2.1, BX6_readProduct_37 (gCG f).2.2.2.2.2.2.2.1, BX6_readProduct_51 (gCG f).2.2.2.2.2.2.2.2.1, BX6_readProduct_75 (gCG f).2.2.2.2.2.2.2.2.2.1, BX6_readProduct_92 (gCG f).2.2.2.2.2.1 (gCG f).2.2.2.2.2.2.2.2.2.2.1, BX6_readUnit_0 (gCG f).2.2.2.2.2.2.2.2.2.2.2, BX6_readUnit_60 (gCG f).1)
theorem mgCG : ∀ f : Nat, (∀ (dep : Nat) (x1 : Int32) (h : ea_H), fle ((gCG f).1 dep x1 h) ((gCG (f + 1)).1 dep x1 h)) ∧ (∀ (dep : Nat) (x1 : Int32) (x2 : Int32) (h : ea_H), fle ((gCG f).2.1 dep x1 x2 h) ((gCG (f + 1)).2.1 dep x1 x2 h)) ∧ (∀ (dep : Nat) (x1 : Int32) (x2 : Int32) (h : ea_H), fle ((gCG f).2.2.1 dep x1 x2 h) ((gCG (f + 1)).2.2.1 dep x1 x2 h)) ∧ (∀ (dep : Nat) (x1 : Int32) (x2 : Int32) (sx0 : Int32) (h : ea_H), fle ((gCG f).2.2.2.1 dep x1 x2 sx0 h) ((gCG (f + 1)).2.2.2.1 dep x1 x2 sx0 h)) ∧ (∀ (dep : Nat) (x1 : Int32) (h : ea_H), fle ((gCG f).2.2.2.2.1 dep x1 h) ((gCG (f + 1)).2.2.2.2.1 dep x1 h)) ∧ (∀ (dep : Nat) (x1 : Int32) (x2 : Int32) (h : ea_H), fle ((gCG f).2.2.2.2.2.1 dep x1 x2 h) ((gCG (f + 1)).2.2.2.2.2.1 dep x1 x2 h)) ∧ (∀ (dep : Nat) (x1 : Int32) (x2 : Int32) (h : ea_H), fle ((gCG f).2.2.2.2.2.2.1 dep x1 x2 h) ((gCG (f + 1)).2.2.2.2.2.2.1 dep x1 x2 h)) ∧ (∀ (dep : Nat) (x1 : Int32) (x2 : Int32) (sx0 : Int32) (h : ea_H), fle ((gCG f).2.2.2.2.2.2.2.1 dep x1 x2 sx0 h) ((gCG (f + 1)).2.2.2.2.2.2.2.1 dep x1 x2 sx0 h)) ∧ (∀ (dep : Nat) (x1 : Int32) (x2 : Int32) (x3 : Int32) (h : ea_H), fle ((gCG f).2.2.2.2.2.2.2.2.1 dep x1 x2 x3 h) ((gCG (f + 1)).2.2.2.2.2.2.2.2.1 dep x1 x2 x3 h)) ∧ (∀ (dep : Nat) (x1 : Int32) (x2 : Int32) (x3 : Int32) (h : ea_H), fle ((gCG f).2.2.2.2.2.2.2.2.2.1 dep x1 x2 x3 h) ((gCG (f + 1)).2.2.2.2.2.2.2.2.2.1 dep x1 x2 x3 h)) ∧ (∀ (dep : Nat) (x1 : Int32) (h : ea_H), fle ((gCG f).2.2.2.2.2.2.2.2.2.2.1 dep x1 h) ((gCG (f + 1)).2.2.2.2.2.2.2.2.2.2.1 dep x1 h)) ∧ (∀ (dep : Nat) (x1 : Int32) (h : ea_H), fle ((gCG f).2.2.2.2.2.2.2.2.2.2.2 dep x1 h) ((gCG (f + 1)).2.2.2.2.2.2.2.2.2.2.2 dep x1 h)) := by
  intro f
  induction f with
  | zero => exact ⟨fun dp _ _ => fle_none _, fun dp _ _ _ => fle_none _, fun dp _ _ _ => fle_none _, fun dp _ _ _ _ => fle_none _, fun dp _ _ => fle_none _, fun dp _ _ _ => fle_none _, fun dp _ _ _ => fle_none _, fun dp _ _ _ _ => fle_none _, fun dp _ _ _ _ => fle_none _, fun dp _ _ _ _ => fle_none _, fun dp _ _ => fle_none _, fun dp _ _ => fle_none _⟩
  | succ f ih => exact ⟨fun dp _ _ => lBX6_readSum_0 (dep := dp) ih.2.1 ih.2.2.2.2.1, fun dp _ _ _ => lBX6_readSum_12 (dep := dp) ih.2.2.1, fun dp _ _ _ => lBX6_readSum_37 (dep := dp) ih.2.2.2.1, fun dp _ _ _ _ => lBX6_readSum_53 (dep := dp) ih.2.1 ih.2.2.2.2.1, fun dp _ _ => lBX6_readProduct_0 (dep := dp) ih.2.2.2.2.2.1 ih.2.2.2.2.2.2.2.2.2.2.1, fun dp _ _ _ => lBX6_readProduct_12 (dep := dp) ih.2.2.2.2.2.2.1, fun dp _ _ _ => lBX6_readProduct_37 (dep := dp) ih.2.2.2.2.2.2.2.1, fun dp _ _ _ _ => lBX6_readProduct_51 (dep := dp) ih.2.2.2.2.2.2.2.2.1, fun dp _ _ _ _ => lBX6_readProduct_75 (dep := dp) ih.2.2.2.2.2.2.2.2.2.1, fun dp _ _ _ _ => lBX6_readProduct_92 (dep := dp) ih.2.2.2.2.2.1 ih.2.2.2.2.2.2.2.2.2.2.1, fun dp _ _ => lBX6_readUnit_0 (dep := dp) ih.2.2.2.2.2.2.2.2.2.2.2, fun dp _ _ => lBX6_readUnit_60 (dep := dp) ih.1⟩
noncomputable def qX6_readSum_0 (dep : Nat) (x1 : Int32) (h : ea_H) : Option (Int32 × ea_H) := flim fun f => (gCG f).1 dep x1 h
noncomputable def qX6_readSum_12 (dep : Nat) (x1 : Int32) (x2 : Int32) (h : ea_H) : Option (Int32 × ea_H) := flim fun f => (gCG f).2.1 dep x1 x2 h
noncomputable def qX6_readSum_37 (dep : Nat) (x1 : Int32) (x2 : Int32) (h : ea_H) : Option (Int32 × ea_H) := flim fun f => (gCG f).2.2.1 dep x1 x2 h
noncomputable def qX6_readSum_53 (dep : Nat) (x1 : Int32) (x2 : Int32) (sx0 : Int32) (h : ea_H) : Option (Int32 × ea_H) := flim fun f => (gCG f).2.2.2.1 dep x1 x2 sx0 h
noncomputable def qX6_readProduct_0 (dep : Nat) (x1 : Int32) (h : ea_H) : Option (Int32 × ea_H) := flim fun f => (gCG f).2.2.2.2.1 dep x1 h
noncomputable def qX6_readProduct_12 (dep : Nat) (x1 : Int32) (x2 : Int32) (h : ea_H) : Option (Int32 × ea_H) := flim fun f => (gCG f).2.2.2.2.2.1 dep x1 x2 h
noncomputable def qX6_readProduct_37 (dep : Nat) (x1 : Int32) (x2 : Int32) (h : ea_H) : Option (Int32 × ea_H) := flim fun f => (gCG f).2.2.2.2.2.2.1 dep x1 x2 h
noncomputable def qX6_readProduct_51 (dep : Nat) (x1 : Int32) (x2 : Int32) (sx0 : Int32) (h : ea_H) : Option (Int32 × ea_H) := flim fun f => (gCG f).2.2.2.2.2.2.2.1 dep x1 x2 sx0 h
noncomputable def qX6_readProduct_75 (dep : Nat) (x1 : Int32) (x2 : Int32) (x3 : Int32) (h : ea_H) : Option (Int32 × ea_H) := flim fun f => (gCG f).2.2.2.2.2.2.2.2.1 dep x1 x2 x3 h
noncomputable def qX6_readProduct_92 (dep : Nat) (x1 : Int32) (x2 : Int32) (x3 : Int32) (h : ea_H) : Option (Int32 × ea_H) := flim fun f => (gCG f).2.2.2.2.2.2.2.2.2.1 dep x1 x2 x3 h
noncomputable def qX6_readUnit_0 (dep : Nat) (x1 : Int32) (h : ea_H) : Option (Int32 × ea_H) := flim fun f => (gCG f).2.2.2.2.2.2.2.2.2.2.1 dep x1 h
noncomputable def qX6_readUnit_60 (dep : Nat) (x1 : Int32) (h : ea_H) : Option (Int32 × ea_H) := flim fun f => (gCG f).2.2.2.2.2.2.2.2.2.2.2 dep x1 h
theorem fqX6_readSum_0 (dep : Nat) (x1 : Int32) (h : ea_H) : fct (qX6_readSum_0 dep x1 h) fun f => (gCG f).1 dep x1 h := flim_ct fun f => (mgCG f).1 dep x1 h
theorem fqX6_readSum_12 (dep : Nat) (x1 : Int32) (x2 : Int32) (h : ea_H) : fct (qX6_readSum_12 dep x1 x2 h) fun f => (gCG f).2.1 dep x1 x2 h := flim_ct fun f => (mgCG f).2.1 dep x1 x2 h
theorem fqX6_readSum_37 (dep : Nat) (x1 : Int32) (x2 : Int32) (h : ea_H) : fct (qX6_readSum_37 dep x1 x2 h) fun f => (gCG f).2.2.1 dep x1 x2 h := flim_ct fun f => (mgCG f).2.2.1 dep x1 x2 h
theorem fqX6_readSum_53 (dep : Nat) (x1 : Int32) (x2 : Int32) (sx0 : Int32) (h : ea_H) : fct (qX6_readSum_53 dep x1 x2 sx0 h) fun f => (gCG f).2.2.2.1 dep x1 x2 sx0 h := flim_ct fun f => (mgCG f).2.2.2.1 dep x1 x2 sx0 h
theorem fqX6_readProduct_0 (dep : Nat) (x1 : Int32) (h : ea_H) : fct (qX6_readProduct_0 dep x1 h) fun f => (gCG f).2.2.2.2.1 dep x1 h := flim_ct fun f => (mgCG f).2.2.2.2.1 dep x1 h
theorem fqX6_readProduct_12 (dep : Nat) (x1 : Int32) (x2 : Int32) (h : ea_H) : fct (qX6_readProduct_12 dep x1 x2 h) fun f => (gCG f).2.2.2.2.2.1 dep x1 x2 h := flim_ct fun f => (mgCG f).2.2.2.2.2.1 dep x1 x2 h
theorem fqX6_readProduct_37 (dep : Nat) (x1 : Int32) (x2 : Int32) (h : ea_H) : fct (qX6_readProduct_37 dep x1 x2 h) fun f => (gCG f).2.2.2.2.2.2.1 dep x1 x2 h := flim_ct fun f => (mgCG f).2.2.2.2.2.2.1 dep x1 x2 h
theorem fqX6_readProduct_51 (dep : Nat) (x1 : Int32) (x2 : Int32) (sx0 : Int32) (h : ea_H) : fct (qX6_readProduct_51 dep x1 x2 sx0 h) fun f => (gCG f).2.2.2.2.2.2.2.1 dep x1 x2 sx0 h := flim_ct fun f => (mgCG f).2.2.2.2.2.2.2.1 dep x1 x2 sx0 h
theorem fqX6_readProduct_75 (dep : Nat) (x1 : Int32) (x2 : Int32) (x3 : Int32) (h : ea_H) : fct (qX6_readProduct_75 dep x1 x2 x3 h) fun f => (gCG f).2.2.2.2.2.2.2.2.1 dep x1 x2 x3 h := flim_ct fun f => (mgCG f).2.2.2.2.2.2.2.2.1 dep x1 x2 x3 h
theorem fqX6_readProduct_92 (dep : Nat) (x1 : Int32) (x2 : Int32) (x3 : Int32) (h : ea_H) : fct (qX6_readProduct_92 dep x1 x2 x3 h) fun f => (gCG f).2.2.2.2.2.2.2.2.2.1 dep x1 x2 x3 h := flim_ct fun f => (mgCG f).2.2.2.2.2.2.2.2.2.1 dep x1 x2 x3 h
theorem fqX6_readUnit_0 (dep : Nat) (x1 : Int32) (h : ea_H) : fct (qX6_readUnit_0 dep x1 h) fun f => (gCG f).2.2.2.2.2.2.2.2.2.2.1 dep x1 h := flim_ct fun f => (mgCG f).2.2.2.2.2.2.2.2.2.2.1 dep x1 h
theorem fqX6_readUnit_60 (dep : Nat) (x1 : Int32) (h : ea_H) : fct (qX6_readUnit_60 dep x1 h) fun f => (gCG f).2.2.2.2.2.2.2.2.2.2.2 dep x1 h := flim_ct fun f => (mgCG f).2.2.2.2.2.2.2.2.2.2.2 dep x1 h
/-- how a block opens -/
theorem uqX6_readSum_0 {dep : Nat} {x1 : Int32} {h : ea_H} {P : Int32 × ea_H → Prop} (H : sat (BX6_readSum_0 qX6_readSum_12 qX6_readProduct_0 dep x1 h) P) : sat (qX6_readSum_0 dep x1 h) P := by
  obtain ⟨x, e, hp⟩ := H
  obtain ⟨n, hn⟩ := nBX6_readSum_0 (dep := dep) fqX6_readSum_12 fqX6_readProduct_0 x e
  exact ⟨x, flim_at (fun f => (mgCG f).1 dep x1 h) (f := n + 1) (hn n (Nat.le_refl _)), hp⟩
/-- how a block opens -/
theorem uqX6_readSum_12 {dep : Nat} {x1 : Int32} {x2 : Int32} {h : ea_H} {P : Int32 × ea_H → Prop} (H : sat (BX6_readSum_12 qX6_readSum_37 dep x1 x2 h) P) : sat (qX6_readSum_12 dep x1 x2 h) P := by
  obtain ⟨x, e, hp⟩ := H
  obtain ⟨n, hn⟩ := nBX6_readSum_12 (dep := dep) fqX6_readSum_37 x e
  exact ⟨x, flim_at (fun f => (mgCG f).2.1 dep x1 x2 h) (f := n + 1) (hn n (Nat.le_refl _)), hp⟩
/-- how a block opens -/
theorem uqX6_readSum_37 {dep : Nat} {x1 : Int32} {x2 : Int32} {h : ea_H} {P : Int32 × ea_H → Prop} (H : sat (BX6_readSum_37 qX6_readSum_53 dep x1 x2 h) P) : sat (qX6_readSum_37 dep x1 x2 h) P := by
  obtain ⟨x, e, hp⟩ := H
  obtain ⟨n, hn⟩ := nBX6_readSum_37 (dep := dep) fqX6_readSum_53 x e
  exact ⟨x, flim_at (fun f => (mgCG f).2.2.1 dep x1 x2 h) (f := n + 1) (hn n (Nat.le_refl _)), hp⟩
/-- how a block opens -/
theorem uqX6_readSum_53 {dep : Nat} {x1 : Int32} {x2 : Int32} {sx0 : Int32} {h : ea_H} {P : Int32 × ea_H → Prop} (H : sat (BX6_readSum_53 qX6_readSum_12 qX6_readProduct_0 dep x1 x2 sx0 h) P) : sat (qX6_readSum_53 dep x1 x2 sx0 h) P := by
  obtain ⟨x, e, hp⟩ := H
  obtain ⟨n, hn⟩ := nBX6_readSum_53 (dep := dep) fqX6_readSum_12 fqX6_readProduct_0 x e
  exact ⟨x, flim_at (fun f => (mgCG f).2.2.2.1 dep x1 x2 sx0 h) (f := n + 1) (hn n (Nat.le_refl _)), hp⟩
/-- how a block opens -/
theorem uqX6_readProduct_0 {dep : Nat} {x1 : Int32} {h : ea_H} {P : Int32 × ea_H → Prop} (H : sat (BX6_readProduct_0 qX6_readProduct_12 qX6_readUnit_0 dep x1 h) P) : sat (qX6_readProduct_0 dep x1 h) P := by
  obtain ⟨x, e, hp⟩ := H
  obtain ⟨n, hn⟩ := nBX6_readProduct_0 (dep := dep) fqX6_readProduct_12 fqX6_readUnit_0 x e
  exact ⟨x, flim_at (fun f => (mgCG f).2.2.2.2.1 dep x1 h) (f := n + 1) (hn n (Nat.le_refl _)), hp⟩
/-- how a block opens -/
theorem uqX6_readProduct_12 {dep : Nat} {x1 : Int32} {x2 : Int32} {h : ea_H} {P : Int32 × ea_H → Prop} (H : sat (BX6_readProduct_12 qX6_readProduct_37 dep x1 x2 h) P) : sat (qX6_readProduct_12 dep x1 x2 h) P := by
  obtain ⟨x, e, hp⟩ := H
  obtain ⟨n, hn⟩ := nBX6_readProduct_12 (dep := dep) fqX6_readProduct_37 x e
  exact ⟨x, flim_at (fun f => (mgCG f).2.2.2.2.2.1 dep x1 x2 h) (f := n + 1) (hn n (Nat.le_refl _)), hp⟩
/-- how a block opens -/
theorem uqX6_readProduct_37 {dep : Nat} {x1 : Int32} {x2 : Int32} {h : ea_H} {P : Int32 × ea_H → Prop} (H : sat (BX6_readProduct_37 qX6_readProduct_51 dep x1 x2 h) P) : sat (qX6_readProduct_37 dep x1 x2 h) P := by
  obtain ⟨x, e, hp⟩ := H
  obtain ⟨n, hn⟩ := nBX6_readProduct_37 (dep := dep) fqX6_readProduct_51 x e
  exact ⟨x, flim_at (fun f => (mgCG f).2.2.2.2.2.2.1 dep x1 x2 h) (f := n + 1) (hn n (Nat.le_refl _)), hp⟩
/-- how a block opens -/
theorem uqX6_readProduct_51 {dep : Nat} {x1 : Int32} {x2 : Int32} {sx0 : Int32} {h : ea_H} {P : Int32 × ea_H → Prop} (H : sat (BX6_readProduct_51 qX6_readProduct_75 dep x1 x2 sx0 h) P) : sat (qX6_readProduct_51 dep x1 x2 sx0 h) P := by
  obtain ⟨x, e, hp⟩ := H
  obtain ⟨n, hn⟩ := nBX6_readProduct_51 (dep := dep) fqX6_readProduct_75 x e
  exact ⟨x, flim_at (fun f => (mgCG f).2.2.2.2.2.2.2.1 dep x1 x2 sx0 h) (f := n + 1) (hn n (Nat.le_refl _)), hp⟩
/-- how a block opens -/
theorem uqX6_readProduct_75 {dep : Nat} {x1 : Int32} {x2 : Int32} {x3 : Int32} {h : ea_H} {P : Int32 × ea_H → Prop} (H : sat (BX6_readProduct_75 qX6_readProduct_92 dep x1 x2 x3 h) P) : sat (qX6_readProduct_75 dep x1 x2 x3 h) P := by
  obtain ⟨x, e, hp⟩ := H
  obtain ⟨n, hn⟩ := nBX6_readProduct_75 (dep := dep) fqX6_readProduct_92 x e
  exact ⟨x, flim_at (fun f => (mgCG f).2.2.2.2.2.2.2.2.1 dep x1 x2 x3 h) (f := n + 1) (hn n (Nat.le_refl _)), hp⟩
/-- how a block opens -/
theorem uqX6_readProduct_92 {dep : Nat} {x1 : Int32} {x2 : Int32} {x3 : Int32} {h : ea_H} {P : Int32 × ea_H → Prop} (H : sat (BX6_readProduct_92 qX6_readProduct_12 qX6_readUnit_0 dep x1 x2 x3 h) P) : sat (qX6_readProduct_92 dep x1 x2 x3 h) P := by
  obtain ⟨x, e, hp⟩ := H
  obtain ⟨n, hn⟩ := nBX6_readProduct_92 (dep := dep) fqX6_readProduct_12 fqX6_readUnit_0 x e
  exact ⟨x, flim_at (fun f => (mgCG f).2.2.2.2.2.2.2.2.2.1 dep x1 x2 x3 h) (f := n + 1) (hn n (Nat.le_refl _)), hp⟩
/-- how a block opens -/
theorem uqX6_readUnit_0 {dep : Nat} {x1 : Int32} {h : ea_H} {P : Int32 × ea_H → Prop} (H : sat (BX6_readUnit_0 qX6_readUnit_60 dep x1 h) P) : sat (qX6_readUnit_0 dep x1 h) P := by
  obtain ⟨x, e, hp⟩ := H
  obtain ⟨n, hn⟩ := nBX6_readUnit_0 (dep := dep) fqX6_readUnit_60 x e
  exact ⟨x, flim_at (fun f => (mgCG f).2.2.2.2.2.2.2.2.2.2.1 dep x1 h) (f := n + 1) (hn n (Nat.le_refl _)), hp⟩
/-- how a block opens -/
theorem uqX6_readUnit_60 {dep : Nat} {x1 : Int32} {h : ea_H} {P : Int32 × ea_H → Prop} (H : sat (BX6_readUnit_60 qX6_readSum_0 dep x1 h) P) : sat (qX6_readUnit_60 dep x1 h) P := by
  obtain ⟨x, e, hp⟩ := H
  obtain ⟨n, hn⟩ := nBX6_readUnit_60 (dep := dep) fqX6_readSum_0 x e
  exact ⟨x, flim_at (fun f => (mgCG f).2.2.2.2.2.2.2.2.2.2.2 dep x1 h) (f := n + 1) (hn n (Nat.le_refl _)), hp⟩
theorem kgCG : ∀ f : Nat, (∀ (dep : Nat) (x1 : Int32) (h : ea_H), kp (ea_core h) ((gCG f).1 dep x1 h)) ∧ (∀ (dep : Nat) (x1 : Int32) (x2 : Int32) (h : ea_H), kp (ea_core h) ((gCG f).2.1 dep x1 x2 h)) ∧ (∀ (dep : Nat) (x1 : Int32) (x2 : Int32) (h : ea_H), kp (ea_core h) ((gCG f).2.2.1 dep x1 x2 h)) ∧ (∀ (dep : Nat) (x1 : Int32) (x2 : Int32) (sx0 : Int32) (h : ea_H), kp (ea_core h) ((gCG f).2.2.2.1 dep x1 x2 sx0 h)) ∧ (∀ (dep : Nat) (x1 : Int32) (h : ea_H), kp (ea_core h) ((gCG f).2.2.2.2.1 dep x1 h)) ∧ (∀ (dep : Nat) (x1 : Int32) (x2 : Int32) (h : ea_H), kp (ea_core h) ((gCG f).2.2.2.2.2.1 dep x1 x2 h)) ∧ (∀ (dep : Nat) (x1 : Int32) (x2 : Int32) (h : ea_H), kp (ea_core h) ((gCG f).2.2.2.2.2.2.1 dep x1 x2 h)) ∧ (∀ (dep : Nat) (x1 : Int32) (x2 : Int32) (sx0 : Int32) (h : ea_H), kp (ea_core h) ((gCG f).2.2.2.2.2.2.2.1 dep x1 x2 sx0 h)) ∧ (∀ (dep : Nat) (x1 : Int32) (x2 : Int32) (x3 : Int32) (h : ea_H), kp (ea_core h) ((gCG f).2.2.2.2.2.2.2.2.1 dep x1 x2 x3 h)) ∧ (∀ (dep : Nat) (x1 : Int32) (x2 : Int32) (x3 : Int32) (h : ea_H), kp (ea_core h) ((gCG f).2.2.2.2.2.2.2.2.2.1 dep x1 x2 x3 h)) ∧ (∀ (dep : Nat) (x1 : Int32) (h : ea_H), kp (ea_core h) ((gCG f).2.2.2.2.2.2.2.2.2.2.1 dep x1 h)) ∧ (∀ (dep : Nat) (x1 : Int32) (h : ea_H), kp (ea_core h) ((gCG f).2.2.2.2.2.2.2.2.2.2.2 dep x1 h)) := by
  intro f
  induction f with
  | zero => exact ⟨fun dp _ _ => kp_none _, fun dp _ _ _ => kp_none _, fun dp _ _ _ => kp_none _, fun dp _ _ _ _ => kp_none _, fun dp _ _ => kp_none _, fun dp _ _ _ => kp_none _, fun dp _ _ _ => kp_none _, fun dp _ _ _ _ => kp_none _, fun dp _ _ _ _ => kp_none _, fun dp _ _ _ _ => kp_none _, fun dp _ _ => kp_none _, fun dp _ _ => kp_none _⟩
  | succ f ih => exact ⟨fun dp _ _ => kBX6_readSum_0 (dep := dp) ih.2.1 ih.2.2.2.2.1, fun dp _ _ _ => kBX6_readSum_12 (dep := dp) ih.2.2.1, fun dp _ _ _ => kBX6_readSum_37 (dep := dp) ih.2.2.2.1, fun dp _ _ _ _ => kBX6_readSum_53 (dep := dp) ih.2.1 ih.2.2.2.2.1, fun dp _ _ => kBX6_readProduct_0 (dep := dp) ih.2.2.2.2.2.1 ih.2.2.2.2.2.2.2.2.2.2.1, fun dp _ _ _ => kBX6_readProduct_12 (dep := dp) ih.2.2.2.2.2.2.1, fun dp _ _ _ => kBX6_readProduct_37 (dep := dp) ih.2.2.2.2.2.2.2.1, fun dp _ _ _ _ => kBX6_readProduct_51 (dep := dp) ih.2.2.2.2.2.2.2.2.1, fun dp _ _ _ _ => kBX6_readProduct_75 (dep := dp) ih.2.2.2.2.2.2.2.2.2.1, fun dp _ _ _ _ => kBX6_readProduct_92 (dep := dp) ih.2.2.2.2.2.1 ih.2.2.2.2.2.2.2.2.2.2.1, fun dp _ _ => kBX6_readUnit_0 (dep := dp) ih.2.2.2.2.2.2.2.2.2.2.2, fun dp _ _ => kBX6_readUnit_60 (dep := dp) ih.1⟩
theorem tgCG : ∀ f : Nat, (∀ (dep : Nat) (x1 : Int32) (h : ea_H) (r : Int32) (h' : ea_H), (gCG f).1 dep x1 h = some (r, h') → ShC h → ∀ (d : Nat) (h0 : ea_H), 2 + dep ≤ d → ea_W mX6_readSum d h0 (some (vI r)) h' 0 [(0, vR (some 24)), (1, vI x1)] [] h) ∧ (∀ (dep : Nat) (x1 : Int32) (x2 : Int32) (h : ea_H) (r : Int32) (h' : ea_H), (gCG f).2.1 dep x1 x2 h = some (r, h') → ShC h → ∀ (d : Nat) (h0 : ea_H), 2 + dep ≤ d → ea_W mX6_readSum d h0 (some (vI r)) h' 12 [(0, vR (some 24)), (1, vI x1), (2, vI x2)] [] h) ∧ (∀ (dep : Nat) (x1 : Int32) (x2 : Int32) (h : ea_H) (r : Int32) (h' : ea_H), (gCG f).2.2.1 dep x1 x2 h = some (r, h') → ShC h → ∀ (d : Nat) (h0 : ea_H), 2 + dep ≤ d → ea_W mX6_readSum d h0 (some (vI r)) h' 37 [(0, vR (some 24)), (1, vI x1), (2, vI x2)] [] h) ∧ (∀ (dep : Nat) (x1 : Int32) (x2 : Int32) (sx0 : Int32) (h : ea_H) (r : Int32) (h' : ea_H), (gCG f).2.2.2.1 dep x1 x2 sx0 h = some (r, h') → ShC h → ∀ (d : Nat) (h0 : ea_H), 2 + dep ≤ d → ea_W mX6_readSum d h0 (some (vI r)) h' 53 [(0, vR (some 24)), (1, vI x1), (2, vI x2)] [vI sx0] h) ∧ (∀ (dep : Nat) (x1 : Int32) (h : ea_H) (r : Int32) (h' : ea_H), (gCG f).2.2.2.2.1 dep x1 h = some (r, h') → ShC h → ∀ (d : Nat) (h0 : ea_H), 2 + dep ≤ d → ea_W mX6_readProduct d h0 (some (vI r)) h' 0 [(0, vR (some 24)), (1, vI x1)] [] h) ∧ (∀ (dep : Nat) (x1 : Int32) (x2 : Int32) (h : ea_H) (r : Int32) (h' : ea_H), (gCG f).2.2.2.2.2.1 dep x1 x2 h = some (r, h') → ShC h → ∀ (d : Nat) (h0 : ea_H), 2 + dep ≤ d → ea_W mX6_readProduct d h0 (some (vI r)) h' 12 [(0, vR (some 24)), (1, vI x1), (2, vI x2)] [] h) ∧ (∀ (dep : Nat) (x1 : Int32) (x2 : Int32) (h : ea_H) (r : Int32) (h' : ea_H), (gCG f).2.2.2.2.2.2.1 dep x1 x2 h = some (r, h') → ShC h → ∀ (d : Nat) (h0 : ea_H), 2 + dep ≤ d → ea_W mX6_readProduct d h0 (some (vI r)) h' 37 [(0, vR (some 24)), (1, vI x1), (2, vI x2)] [] h) ∧ (∀ (dep : Nat) (x1 : Int32) (x2 : Int32) (sx0 : Int32) (h : ea_H) (r : Int32) (h' : ea_H), (gCG f).2.2.2.2.2.2.2.1 dep x1 x2 sx0 h = some (r, h') → ShC h → ∀ (d : Nat) (h0 : ea_H), 2 + dep ≤ d → ea_W mX6_readProduct d h0 (some (vI r)) h' 51 [(0, vR (some 24)), (1, vI x1), (2, vI x2)] [vI sx0] h) ∧ (∀ (dep : Nat) (x1 : Int32) (x2 : Int32) (x3 : Int32) (h : ea_H) (r : Int32) (h' : ea_H), (gCG f).2.2.2.2.2.2.2.2.1 dep x1 x2 x3 h = some (r, h') → ShC h → ∀ (d : Nat) (h0 : ea_H), 2 + dep ≤ d → ea_W mX6_readProduct d h0 (some (vI r)) h' 75 [(0, vR (some 24)), (1, vI x1), (2, vI x2), (3, vI x3)] [] h) ∧ (∀ (dep : Nat) (x1 : Int32) (x2 : Int32) (x3 : Int32) (h : ea_H) (r : Int32) (h' : ea_H), (gCG f).2.2.2.2.2.2.2.2.2.1 dep x1 x2 x3 h = some (r, h') → ShC h → ∀ (d : Nat) (h0 : ea_H), 2 + dep ≤ d → ea_W mX6_readProduct d h0 (some (vI r)) h' 92 [(0, vR (some 24)), (1, vI x1), (2, vI x2), (3, vI x3)] [] h) ∧ (∀ (dep : Nat) (x1 : Int32) (h : ea_H) (r : Int32) (h' : ea_H), (gCG f).2.2.2.2.2.2.2.2.2.2.1 dep x1 h = some (r, h') → ShC h → ∀ (d : Nat) (h0 : ea_H), 2 + dep ≤ d → ea_W mX6_readUnit d h0 (some (vI r)) h' 0 [(0, vR (some 24)), (1, vI x1)] [] h) ∧ (∀ (dep : Nat) (x1 : Int32) (h : ea_H) (r : Int32) (h' : ea_H), (gCG f).2.2.2.2.2.2.2.2.2.2.2 dep x1 h = some (r, h') → ShC h → ∀ (d : Nat) (h0 : ea_H), 2 + dep ≤ d → ea_W mX6_readUnit d h0 (some (vI r)) h' 60 [(0, vR (some 24)), (1, vI x1)] [] h) := by
  intro f
  induction f with
  | zero => exact ⟨fun dp _ _ _ _ E => no_some E, fun dp _ _ _ _ _ E => no_some E, fun dp _ _ _ _ _ E => no_some E, fun dp _ _ _ _ _ _ E => no_some E, fun dp _ _ _ _ E => no_some E, fun dp _ _ _ _ _ E => no_some E, fun dp _ _ _ _ _ E => no_some E, fun dp _ _ _ _ _ _ E => no_some E, fun dp _ _ _ _ _ _ E => no_some E, fun dp _ _ _ _ _ _ E => no_some E, fun dp _ _ _ _ E => no_some E, fun dp _ _ _ _ E => no_some E⟩
  | succ f ih => exact ⟨fun dp _ _ _ _ E hs d h0 hd => tBX6_readSum_0 (dep := dp) ih.2.1 ih.2.2.2.2.1 (kgCG f).2.2.2.2.1 E hs hd, fun dp _ _ _ _ _ E hs d h0 hd => tBX6_readSum_12 (dep := dp) ih.2.2.1 E hs hd, fun dp _ _ _ _ _ E hs d h0 hd => tBX6_readSum_37 (dep := dp) ih.2.2.2.1 E hs hd, fun dp _ _ _ _ _ _ E hs d h0 hd => tBX6_readSum_53 (dep := dp) ih.2.1 ih.2.2.2.2.1 (kgCG f).2.2.2.2.1 E hs hd, fun dp _ _ _ _ E hs d h0 hd => tBX6_readProduct_0 (dep := dp) ih.2.2.2.2.2.1 ih.2.2.2.2.2.2.2.2.2.2.1 (kgCG f).2.2.2.2.2.2.2.2.2.2.1 E hs hd, fun dp _ _ _ _ _ E hs d h0 hd => tBX6_readProduct_12 (dep := dp) ih.2.2.2.2.2.2.1 E hs hd, fun dp _ _ _ _ _ E hs d h0 hd => tBX6_readProduct_37 (dep := dp) ih.2.2.2.2.2.2.2.1 E hs hd, fun dp _ _ _ _ _ _ E hs d h0 hd => tBX6_readProduct_51 (dep := dp) ih.2.2.2.2.2.2.2.2.1 E hs hd, fun dp _ _ _ _ _ _ E hs d h0 hd => tBX6_readProduct_75 (dep := dp) ih.2.2.2.2.2.2.2.2.2.1 E hs hd, fun dp _ _ _ _ _ _ E hs d h0 hd => tBX6_readProduct_92 (dep := dp) ih.2.2.2.2.2.1 ih.2.2.2.2.2.2.2.2.2.2.1 (kgCG f).2.2.2.2.2.2.2.2.2.2.1 E hs hd, fun dp _ _ _ _ E hs d h0 hd => tBX6_readUnit_0 (dep := dp) ih.2.2.2.2.2.2.2.2.2.2.2 E hs hd, fun dp _ _ _ _ E hs d h0 hd => tBX6_readUnit_60 (dep := dp) ih.1 (kgCG f).1 E hs hd⟩
noncomputable def qX6_readSum (x1 : Int32) (h : ea_H) : Option (Int32 × ea_H) := qX6_readSum_0 40 x1 h
theorem sX6_readSum {d : Nat} {x1 : Int32} {h : ea_H} {r : Int32} {h' : ea_H} (hd : 42 ≤ d) (hs : ShC h) (K : qX6_readSum x1 h = some (r, h')) : ea_Met mX6_readSum d [vR (some 24), vI x1] h (some (vI r)) h' := by
  unfold qX6_readSum at K
  obtain ⟨n, hn⟩ := fqX6_readSum_0 40 x1 h _ K
  have W := (tgCG n).1 40 x1 h _ _ (hn n (Nat.le_refl _)) hs d h hd
  exact ea_enter rfl (Nat.le_of_ble_eq_true rfl) W
theorem kpX6_readSum (x1 : Int32) (h : ea_H) : kp (ea_core h) (qX6_readSum x1 h) := fun x e => by
  obtain ⟨n, hn⟩ := fqX6_readSum_0 40 x1 h x e
  exact (kgCG n).1 40 x1 h x (hn n (Nat.le_refl _))
noncomputable def qX6_readProduct (x1 : Int32) (h : ea_H) : Option (Int32 × ea_H) := qX6_readProduct_0 40 x1 h
theorem sX6_readProduct {d : Nat} {x1 : Int32} {h : ea_H} {r : Int32} {h' : ea_H} (hd : 42 ≤ d) (hs : ShC h) (K : qX6_readProduct x1 h = some (r, h')) : ea_Met mX6_readProduct d [vR (some 24), vI x1] h (some (vI r)) h' := by
  unfold qX6_readProduct at K
  obtain ⟨n, hn⟩ := fqX6_readProduct_0 40 x1 h _ K
  have W := (tgCG n).2.2.2.2.1 40 x1 h _ _ (hn n (Nat.le_refl _)) hs d h hd
  exact ea_enter rfl (Nat.le_of_ble_eq_true rfl) W
theorem kpX6_readProduct (x1 : Int32) (h : ea_H) : kp (ea_core h) (qX6_readProduct x1 h) := fun x e => by
  obtain ⟨n, hn⟩ := fqX6_readProduct_0 40 x1 h x e
  exact (kgCG n).2.2.2.2.1 40 x1 h x (hn n (Nat.le_refl _))
noncomputable def qX6_readUnit (x1 : Int32) (h : ea_H) : Option (Int32 × ea_H) := qX6_readUnit_0 40 x1 h
theorem sX6_readUnit {d : Nat} {x1 : Int32} {h : ea_H} {r : Int32} {h' : ea_H} (hd : 42 ≤ d) (hs : ShC h) (K : qX6_readUnit x1 h = some (r, h')) : ea_Met mX6_readUnit d [vR (some 24), vI x1] h (some (vI r)) h' := by
  unfold qX6_readUnit at K
  obtain ⟨n, hn⟩ := fqX6_readUnit_0 40 x1 h _ K
  have W := (tgCG n).2.2.2.2.2.2.2.2.2.2.1 40 x1 h _ _ (hn n (Nat.le_refl _)) hs d h hd
  exact ea_enter rfl (Nat.le_of_ble_eq_true rfl) W
theorem kpX6_readUnit (x1 : Int32) (h : ea_H) : kp (ea_core h) (qX6_readUnit x1 h) := fun x e => by
  obtain ⟨n, hn⟩ := fqX6_readUnit_0 40 x1 h x e
  exact (kgCG n).2.2.2.2.2.2.2.2.2.2.1 40 x1 h x (hn n (Nat.le_refl _))
noncomputable def BX6_readWhen_0 (J7 : Int32 → Int32 → Int32 → ea_H → Option (Int32 × ea_H)) (h : ea_H) : Option (Int32 × ea_H) :=
  (J7 (0 : Int32) (13 : Int32) (0 : Int32) h)
theorem tBX6_readWhen_0 {d : Nat} {h0 : ea_H} (hd : 43 ≤ d) {J7 : Int32 → Int32 → Int32 → ea_H → Option (Int32 × ea_H)}  (kJ7 : ∀ (x1 : Int32) (x2 : Int32) (x3 : Int32) (h : ea_H) (r : Int32) (h' : ea_H), J7 x1 x2 x3 h = some (r, h') → ShC h → ea_W mX6_readWhen d h0 (some (vI r)) h' 7 [(0, vR (some 24)), (1, vI x1), (2, vI x2), (3, vI x3)] [] h) {h : ea_H} {r : Int32} {h' : ea_H} (E : BX6_readWhen_0 J7 h = some (r, h')) (hs : ShC h) : ea_W mX6_readWhen d h0 (some (vI r)) h' 0 [(0, vR (some 24))] [] h := by
  unfold BX6_readWhen_0 at E
  refine ea_iconst (pc := 0) dX6_readWhen_0 (v := 0) rfl ?_
  refine ea_istore_n (pc := 1) (lv' := [(0, vR (some 24)), (1, vI 0)]) dX6_readWhen_1 rfl (Nat.le_of_ble_eq_true rfl) [1, 0] rfl ?_
  refine ea_bipush (pc := 2) dX6_readWhen_2 (v := 13) rfl ?_
  refine ea_istore_n (pc := 4) (lv' := [(0, vR (some 24)), (1, vI 0), (2, vI 13)]) dX6_readWhen_4 rfl (Nat.le_of_ble_eq_true rfl) [1, 2, 0] rfl ?_
  refine ea_iconst (pc := 5) dX6_readWhen_5 (v := 0) rfl ?_
  refine ea_istore_n (pc := 6) (lv' := [(0, vR (some 24)), (1, vI 0), (2, vI 13), (3, vI 0)]) dX6_readWhen_6 rfl (Nat.le_of_ble_eq_true rfl) [1, 2, 3, 0] rfl ?_
  exact (kJ7 (0 : Int32) (13 : Int32) (0 : Int32) h _ _ E hs)
theorem kBX6_readWhen_0 {J7 : Int32 → Int32 → Int32 → ea_H → Option (Int32 × ea_H)}  (cJ7 : ∀ (x1 : Int32) (x2 : Int32) (x3 : Int32) (h : ea_H), kp (ea_core h) (J7 x1 x2 x3 h)) {h : ea_H} : kp (ea_core h) (BX6_readWhen_0 J7 h) :=
  (kp_tw (cJ7 _ _ _ _) rfl)
theorem lBX6_readWhen_0 {J7 : Int32 → Int32 → Int32 → ea_H → Option (Int32 × ea_H)} {J7_ : Int32 → Int32 → Int32 → ea_H → Option (Int32 × ea_H)}  (mJ7 : ∀ (x1 : Int32) (x2 : Int32) (x3 : Int32) (h : ea_H), fle (J7 x1 x2 x3 h) (J7_ x1 x2 x3 h)) {h : ea_H} : fle (BX6_readWhen_0 J7 h) (BX6_readWhen_0 J7_ h) :=
  (mJ7 _ _ _ _)
theorem nBX6_readWhen_0 {J7 : Int32 → Int32 → Int32 → ea_H → Option (Int32 × ea_H)} {J7_ : Nat → (Int32 → Int32 → Int32 → ea_H → Option (Int32 × ea_H))}  (mJ7 : ∀ (x1 : Int32) (x2 : Int32) (x3 : Int32) (h : ea_H), fct (J7 x1 x2 x3 h) (fun f => J7_ f x1 x2 x3 h)) {h : ea_H} : fct (BX6_readWhen_0 J7 h) (fun f => BX6_readWhen_0 (J7_ f) h) :=
  (mJ7 _ _ _ _)
noncomputable def BX6_readWhen_7 (J90 : Int32 → Int32 → Int32 → ea_H → Option (Int32 × ea_H)) (x1 : Int32) (x2 : Int32) (x3 : Int32) (h : ea_H) : Option (Int32 × ea_H) :=
  (if (600 : Int32) < x3 then (some ((0 : Int32), h)) else (Option.bind (qX6_readNots  h) fun w1 => (if w1.1 = ((-1) : Int32) then (some ((0 : Int32), w1.2)) else (Option.bind (qX6_readSum (w1.1 : Int32) w1.2) fun w2 => (if w2.1 = (0 : Int32) then (some ((0 : Int32), w2.2)) else (Option.bind (qX6_comparison  w2.2) fun w3 => (if w3.1 = ((-1) : Int32) then (Option.bind (qX6_refuse (1 : Int32) w3.2) fun w10 => (gd ((w10.1 = 0 ∨ w10.1 = 1)) (some (w10.1, w10.2)))) else (Option.bind (qX6_step  w3.2) fun w4 => (Option.bind (qX6_readSum (w1.1 : Int32) w4.2) fun w5 => (if w5.1 = (0 : Int32) then (some ((0 : Int32), w5.2)) else (Option.bind (qX6_put (w3.1 : Int32) w5.2) fun w6 => (if (w1.1 - w1.1 / (2 : Int32) * (2 : Int32)) = (1 : Int32) then (Option.bind (qX6_put ((-17) : Int32) w6.2) fun w7 => (J90 (x1 : Int32) (x2 : Int32) (x3 : Int32) w7.2)) else (J90 (x1 : Int32) (x2 : Int32) (x3 : Int32) w6.2)))))))))))))
theorem tBX6_readWhen_7 {d : Nat} {h0 : ea_H} (hd : 43 ≤ d) {J90 : Int32 → Int32 → Int32 → ea_H → Option (Int32 × ea_H)}  (kJ90 : ∀ (x1 : Int32) (x2 : Int32) (x3 : Int32) (h : ea_H) (r : Int32) (h' : ea_H), J90 x1 x2 x3 h = some (r, h') → ShC h → ea_W mX6_readWhen d h0 (some (vI r)) h' 90 [(0, vR (some 24)), (1, vI x1), (2, vI x2), (3, vI x3)] [] h) {x1 : Int32} {x2 : Int32} {x3 : Int32} {h : ea_H} {r : Int32} {h' : ea_H} (E : BX6_readWhen_7 J90 x1 x2 x3 h = some (r, h')) (hs : ShC h) : ea_W mX6_readWhen d h0 (some (vI r)) h' 7 [(0, vR (some 24)), (1, vI x1), (2, vI x2), (3, vI x3)] [] h := by
  unfold BX6_readWhen_7 at E
  refine ea_iload_n (pc := 7) dX6_readWhen_7 rfl 3 rfl ?_
  refine ea_sipush (pc := 8) dX6_readWhen_8 (v := 600) rfl ?_
  refine ea_icmp_gt (pc := 11) (tgt := 151) dX6_readWhen_11 rfl (fun c15 => ?_) (fun c15 => ?_)
  · have E := (if_pos c15).symm.trans E
    refine ea_iconst (pc := 151) dX6_readWhen_151 (v := 0) rfl ?_
    exact ea_iretO (pc := 152) dX6_readWhen_152 rfl (ea_bn (Or.inl rfl)) E
  · have E := (if_neg c15).symm.trans E
    obtain ⟨w1, Ew1, E⟩ := bd_some E
    have hsw1 : ShC w1.2 := ShC_core ((kpX6_readNots _) _ Ew1) hs
    refine ea_aload_n (pc := 14) dX6_readWhen_14 rfl 0 rfl ?_
    refine ea_callV (pc := 15) (d' := d - 1) (As := []) (st := []) dX6_readWhen_15 kX6_readNots (sX6_readNots (d := d - 1) (by omega) hs Ew1) (by omega) rfl (Nat.le_of_ble_eq_true rfl) ew_1025 ew_1027 ew_28 (ci := 6) rfl (by decide) (cShC_24 hs).1 (cShC_24 hs).2.1 ?_
    refine ea_istore (pc := 18) (lv' := [(0, vR (some 24)), (1, vI x1), (2, vI x2), (3, vI x3), (4, vI w1.1)]) dX6_readWhen_18 (Nat.le_of_ble_eq_true rfl) [1, 2, 3, 4, 0] rfl ?_
    refine ea_iload (pc := 20) dX6_readWhen_20 4 rfl ?_
    refine ea_iconst (pc := 22) dX6_readWhen_22 (v := (-1)) rfl ?_
    refine ea_icmp_eq (pc := 23) (tgt := 35) dX6_readWhen_23 rfl (fun c14 => ?_) (fun c14 => ?_)
    · have E := (if_pos c14).symm.trans E
      refine ea_iconst (pc := 35) dX6_readWhen_35 (v := 0) rfl ?_
      exact ea_iretO (pc := 36) dX6_readWhen_36 rfl (ea_bn (Or.inl rfl)) E
    · have E := (if_neg c14).symm.trans E
      obtain ⟨w2, Ew2, E⟩ := bd_some E
      have hsw2 : ShC w2.2 := ShC_core ((kpX6_readSum _ _) _ Ew2) hsw1
      refine ea_aload_n (pc := 26) dX6_readWhen_26 rfl 0 rfl ?_
      refine ea_iload (pc := 27) dX6_readWhen_27 4 rfl ?_
      refine ea_callV (pc := 29) (d' := d - 1) (As := [vI w1.1]) (st := []) dX6_readWhen_29 kX6_readSum (sX6_readSum (d := d - 1) (by omega) hsw1 Ew2) (by omega) rfl (Nat.le_of_ble_eq_true rfl) ew_1000 ew_1002 ew_22 (ci := 6) rfl (by decide) (cShC_24 hsw1).1 (cShC_24 hsw1).2.1 ?_
      refine ea_if_ne (pc := 32) (tgt := 37) dX6_readWhen_32 rfl (fun c13 => ?_) (fun c13 => ?_)
      · have E := (if_neg c13).symm.trans E
        obtain ⟨w3, Ew3, E⟩ := bd_some E
        have hsw3 : ShC w3.2 := ShC_core ((kpX6_comparison _) _ Ew3) hsw2
        refine ea_aload_n (pc := 37) dX6_readWhen_37 rfl 0 rfl ?_
        refine ea_callV (pc := 38) (d' := d - 1) (As := []) (st := []) dX6_readWhen_38 kX6_comparison (sX6_comparison (d := d - 1) (by omega) hsw2 Ew3) (by omega) rfl (Nat.le_of_ble_eq_true rfl) ew_1029 ew_1031 ew_29 (ci := 6) rfl (by decide) (cShC_24 hsw2).1 (cShC_24 hsw2).2.1 ?_
        refine ea_istore (pc := 41) (lv' := [(0, vR (some 24)), (1, vI x1), (2, vI x2), (3, vI x3), (4, vI w1.1), (5, vI w3.1)]) dX6_readWhen_41 (Nat.le_of_ble_eq_true rfl) [1, 2, 3, 4, 5, 0] rfl ?_
        refine ea_iload (pc := 43) dX6_readWhen_43 5 rfl ?_
        refine ea_iconst (pc := 45) dX6_readWhen_45 (v := (-1)) rfl ?_
        refine ea_icmp_ne (pc := 46) (tgt := 55) dX6_readWhen_46 rfl (fun c12 => ?_) (fun c12 => ?_)
        · have E := (if_neg c12).symm.trans E
          obtain ⟨w4, Ew4, E⟩ := bd_some E
          have hsw4 : ShC w4.2 := ShC_core ((kpX6_step _) _ Ew4) hsw3
          refine ea_aload_n (pc := 55) dX6_readWhen_55 rfl 0 rfl ?_
          refine ea_callV (pc := 56) (d' := d - 1) (As := []) (st := []) dX6_readWhen_56 kX6_step (sX6_step (d := d - 1) (by omega) hsw3 Ew4) (by omega) rfl (Nat.le_of_ble_eq_true rfl) ew_996 ew_998 ew_21 (ci := 6) rfl (by decide) (cShC_24 hsw3).1 (cShC_24 hsw3).2.1 ?_
          obtain ⟨w5, Ew5, E⟩ := bd_some E
          have hsw5 : ShC w5.2 := ShC_core ((kpX6_readSum _ _) _ Ew5) hsw4
          refine ea_aload_n (pc := 59) dX6_readWhen_59 rfl 0 rfl ?_
          refine ea_iload (pc := 60) dX6_readWhen_60 4 rfl ?_
          refine ea_callV (pc := 62) (d' := d - 1) (As := [vI w1.1]) (st := []) dX6_readWhen_62 kX6_readSum (sX6_readSum (d := d - 1) (by omega) hsw4 Ew5) (by omega) rfl (Nat.le_of_ble_eq_true rfl) ew_1000 ew_1002 ew_22 (ci := 6) rfl (by decide) (cShC_24 hsw4).1 (cShC_24 hsw4).2.1 ?_
          refine ea_if_ne (pc := 65) (tgt := 70) dX6_readWhen_65 rfl (fun c9 => ?_) (fun c9 => ?_)
          · have E := (if_neg c9).symm.trans E
            obtain ⟨w6, Ew6, E⟩ := bd_some E
            have hsw6 : ShC w6.2 := ShC_core ((kpX6_put _ _) _ Ew6) hsw5
            refine ea_aload_n (pc := 70) dX6_readWhen_70 rfl 0 rfl ?_
            refine ea_iload (pc := 71) dX6_readWhen_71 5 rfl ?_
            refine ea_callV (pc := 73) (d' := d - 1) (As := [vI w3.1]) (st := []) dX6_readWhen_73 kX6_put (sX6_put (d := d - 1) (by omega) hsw5 Ew6) (by omega) rfl (Nat.le_of_ble_eq_true rfl) ew_1016 ew_1018 ew_26 (ci := 6) rfl (by decide) (cShC_24 hsw5).1 (cShC_24 hsw5).2.1 ?_
            refine ea_iload (pc := 76) dX6_readWhen_76 4 rfl ?_
            refine ea_iconst (pc := 78) dX6_readWhen_78 (v := 2) rfl ?_
            refine ea_irem (pc := 79) dX6_readWhen_79 (by decide) ?_
            refine ea_iconst (pc := 80) dX6_readWhen_80 (v := 1) rfl ?_
            refine ea_icmp_ne (pc := 81) (tgt := 90) dX6_readWhen_81 rfl (fun c8 => ?_) (fun c8 => ?_)
            · have E := (if_neg c8).symm.trans E
              exact ea_fewer [0, 1, 2, 3] rfl (kJ90 (x1 : Int32) (x2 : Int32) (x3 : Int32) w6.2 _ _ E hsw6)
            · have E := (if_pos c8).symm.trans E
              obtain ⟨w7, Ew7, E⟩ := bd_some E
              have hsw7 : ShC w7.2 := ShC_core ((kpX6_put _ _) _ Ew7) hsw6
              refine ea_aload_n (pc := 84) dX6_readWhen_84 rfl 0 rfl ?_
              refine ea_bipush (pc := 85) dX6_readWhen_85 (v := (-17)) rfl ?_
              refine ea_callV (pc := 87) (d' := d - 1) (As := [vI (-17)]) (st := []) dX6_readWhen_87 kX6_put (sX6_put (d := d - 1) (by omega) hsw6 Ew7) (by omega) rfl (Nat.le_of_ble_eq_true rfl) ew_1016 ew_1018 ew_26 (ci := 6) rfl (by decide) (cShC_24 hsw6).1 (cShC_24 hsw6).2.1 ?_
              exact ea_fewer [0, 1, 2, 3] rfl (kJ90 (x1 : Int32) (x2 : Int32) (x3 : Int32) w7.2 _ _ E hsw7)
          · have E := (if_pos c9).symm.trans E
            refine ea_iconst (pc := 68) dX6_readWhen_68 (v := 0) rfl ?_
            exact ea_iretO (pc := 69) dX6_readWhen_69 rfl (ea_bn (Or.inl rfl)) E
        · have E := (if_pos c12).symm.trans E
          obtain ⟨w10, Ew10, E⟩ := bd_some E
          have hsw10 : ShC w10.2 := ShC_core ((kpX6_refuse _ _) _ Ew10) hsw3
          refine ea_aload_n (pc := 49) dX6_readWhen_49 rfl 0 rfl ?_
          refine ea_iconst (pc := 50) dX6_readWhen_50 (v := 1) rfl ?_
          refine ea_callV (pc := 51) (d' := d - 1) (As := [vI 1]) (st := []) dX6_readWhen_51 kX6_refuse (sX6_refuse (d := d - 1) (by omega) hsw3 Ew10) (by omega) rfl (Nat.le_of_ble_eq_true rfl) ew_988 ew_990 ew_19 (ci := 6) rfl (by decide) (cShC_24 hsw3).1 (cShC_24 hsw3).2.1 ?_
          obtain ⟨z11, E⟩ := gd_some E
          exact ea_iretO (pc := 54) dX6_readWhen_54 rfl (ea_bn z11) E
      · have E := (if_pos c13).symm.trans E
        refine ea_iconst (pc := 35) dX6_readWhen_35 (v := 0) rfl ?_
        exact ea_iretO (pc := 36) dX6_readWhen_36 rfl (ea_bn (Or.inl rfl)) E
theorem kBX6_readWhen_7 {J90 : Int32 → Int32 → Int32 → ea_H → Option (Int32 × ea_H)}  (cJ90 : ∀ (x1 : Int32) (x2 : Int32) (x3 : Int32) (h : ea_H), kp (ea_core h) (J90 x1 x2 x3 h)) {x1 : Int32} {x2 : Int32} {x3 : Int32} {h : ea_H} : kp (ea_core h) (BX6_readWhen_7 J90 x1 x2 x3 h) :=
  (kp_ite (kp_ret rfl) (kp_bind (kp_tw (kpX6_readNots _) rfl) fun w1 hcw1 => (kp_ite (kp_ret hcw1) (kp_bind (kp_tw (kpX6_readSum _ _) hcw1) fun w2 hcw2 => (kp_ite (kp_ret hcw2) (kp_bind (kp_tw (kpX6_comparison _) hcw2) fun w3 hcw3 => (kp_ite (kp_bind (kp_tw (kpX6_refuse _ _) hcw3) fun w10 hcw10 => (kp_gd (kp_ret hcw10))) (kp_bind (kp_tw (kpX6_step _) hcw3) fun w4 hcw4 => (kp_bind (kp_tw (kpX6_readSum _ _) hcw4) fun w5 hcw5 => (kp_ite (kp_ret hcw5) (kp_bind (kp_tw (kpX6_put _ _) hcw5) fun w6 hcw6 => (kp_ite (kp_bind (kp_tw (kpX6_put _ _) hcw6) fun w7 hcw7 => (kp_tw (cJ90 _ _ _ _) hcw7)) (kp_tw (cJ90 _ _ _ _) hcw6)))))))))))))
theorem lBX6_readWhen_7 {J90 : Int32 → Int32 → Int32 → ea_H → Option (Int32 × ea_H)} {J90_ : Int32 → Int32 → Int32 → ea_H → Option (Int32 × ea_H)}  (mJ90 : ∀ (x1 : Int32) (x2 : Int32) (x3 : Int32) (h : ea_H), fle (J90 x1 x2 x3 h) (J90_ x1 x2 x3 h)) {x1 : Int32} {x2 : Int32} {x3 : Int32} {h : ea_H} : fle (BX6_readWhen_7 J90 x1 x2 x3 h) (BX6_readWhen_7 J90_ x1 x2 x3 h) :=
  (fle_ite (fle_rfl _) (fle_bind (fle_rfl _) fun _ => (fle_ite (fle_rfl _) (fle_bind (fle_rfl _) fun _ => (fle_ite (fle_rfl _) (fle_bind (fle_rfl _) fun _ => (fle_ite (fle_rfl _) (fle_bind (fle_rfl _) fun _ => (fle_bind (fle_rfl _) fun _ => (fle_ite (fle_rfl _) (fle_bind (fle_rfl _) fun _ => (fle_ite (fle_bind (fle_rfl _) fun _ => (mJ90 _ _ _ _)) (mJ90 _ _ _ _)))))))))))))
theorem nBX6_readWhen_7 {J90 : Int32 → Int32 → Int32 → ea_H → Option (Int32 × ea_H)} {J90_ : Nat → (Int32 → Int32 → Int32 → ea_H → Option (Int32 × ea_H))}  (mJ90 : ∀ (x1 : Int32) (x2 : Int32) (x3 : Int32) (h : ea_H), fct (J90 x1 x2 x3 h) (fun f => J90_ f x1 x2 x3 h)) {x1 : Int32} {x2 : Int32} {x3 : Int32} {h : ea_H} : fct (BX6_readWhen_7 J90 x1 x2 x3 h) (fun f => BX6_readWhen_7 (J90_ f) x1 x2 x3 h) :=
  (fct_ite (fct_rfl _) (fct_bind (fct_rfl _) fun _ => (fct_ite (fct_rfl _) (fct_bind (fct_rfl _) fun _ => (fct_ite (fct_rfl _) (fct_bind (fct_rfl _) fun _ => (fct_ite (fct_rfl _) (fct_bind (fct_rfl _) fun _ => (fct_bind (fct_rfl _) fun _ => (fct_ite (fct_rfl _) (fct_bind (fct_rfl _) fun _ => (fct_ite (fct_bind (fct_rfl _) fun _ => (mJ90 _ _ _ _)) (mJ90 _ _ _ _)))))))))))))
noncomputable def BX6_readWhen_90 (J102 : Int32 → Int32 → ea_H → Option (Int32 × ea_H)) (x1 : Int32) (x2 : Int32) (x3 : Int32) (h : ea_H) : Option (Int32 × ea_H) :=
  (if x2 = (16 : Int32) then (Option.bind (qX6_put ((-18) : Int32) h) fun w16 => (J102 (x1 : Int32) (x3 : Int32) w16.2)) else (J102 (x1 : Int32) (x3 : Int32) h))
theorem tBX6_readWhen_90 {d : Nat} {h0 : ea_H} (hd : 43 ≤ d) {J102 : Int32 → Int32 → ea_H → Option (Int32 × ea_H)}  (kJ102 : ∀ (x1 : Int32) (x3 : Int32) (h : ea_H) (r : Int32) (h' : ea_H), J102 x1 x3 h = some (r, h') → ShC h → ea_W mX6_readWhen d h0 (some (vI r)) h' 102 [(0, vR (some 24)), (1, vI x1), (3, vI x3)] [] h) {x1 : Int32} {x2 : Int32} {x3 : Int32} {h : ea_H} {r : Int32} {h' : ea_H} (E : BX6_readWhen_90 J102 x1 x2 x3 h = some (r, h')) (hs : ShC h) : ea_W mX6_readWhen d h0 (some (vI r)) h' 90 [(0, vR (some 24)), (1, vI x1), (2, vI x2), (3, vI x3)] [] h := by
  unfold BX6_readWhen_90 at E
  refine ea_iload_n (pc := 90) dX6_readWhen_90 rfl 2 rfl ?_
  refine ea_bipush (pc := 91) dX6_readWhen_91 (v := 16) rfl ?_
  refine ea_icmp_ne (pc := 93) (tgt := 102) dX6_readWhen_93 rfl (fun c17 => ?_) (fun c17 => ?_)
  · have E := (if_neg c17).symm.trans E
    exact ea_fewer [0, 1, 3] rfl (kJ102 (x1 : Int32) (x3 : Int32) h _ _ E hs)
  · have E := (if_pos c17).symm.trans E
    obtain ⟨w16, Ew16, E⟩ := bd_some E
    have hsw16 : ShC w16.2 := ShC_core ((kpX6_put _ _) _ Ew16) hs
    refine ea_aload_n (pc := 96) dX6_readWhen_96 rfl 0 rfl ?_
    refine ea_bipush (pc := 97) dX6_readWhen_97 (v := (-18)) rfl ?_
    refine ea_callV (pc := 99) (d' := d - 1) (As := [vI (-18)]) (st := []) dX6_readWhen_99 kX6_put (sX6_put (d := d - 1) (by omega) hs Ew16) (by omega) rfl (Nat.le_of_ble_eq_true rfl) ew_1016 ew_1018 ew_26 (ci := 6) rfl (by decide) (cShC_24 hs).1 (cShC_24 hs).2.1 ?_
    exact ea_fewer [0, 1, 3] rfl (kJ102 (x1 : Int32) (x3 : Int32) w16.2 _ _ E hsw16)
theorem kBX6_readWhen_90 {J102 : Int32 → Int32 → ea_H → Option (Int32 × ea_H)}  (cJ102 : ∀ (x1 : Int32) (x3 : Int32) (h : ea_H), kp (ea_core h) (J102 x1 x3 h)) {x1 : Int32} {x2 : Int32} {x3 : Int32} {h : ea_H} : kp (ea_core h) (BX6_readWhen_90 J102 x1 x2 x3 h) :=
  (kp_ite (kp_bind (kp_tw (kpX6_put _ _) rfl) fun w16 hcw16 => (kp_tw (cJ102 _ _ _) hcw16)) (kp_tw (cJ102 _ _ _) rfl))
theorem lBX6_readWhen_90 {J102 : Int32 → Int32 → ea_H → Option (Int32 × ea_H)} {J102_ : Int32 → Int32 → ea_H → Option (Int32 × ea_H)}  (mJ102 : ∀ (x1 : Int32) (x3 : Int32) (h : ea_H), fle (J102 x1 x3 h) (J102_ x1 x3 h)) {x1 : Int32} {x2 : Int32} {x3 : Int32} {h : ea_H} : fle (BX6_readWhen_90 J102 x1 x2 x3 h) (BX6_readWhen_90 J102_ x1 x2 x3 h) :=
  (fle_ite (fle_bind (fle_rfl _) fun _ => (mJ102 _ _ _)) (mJ102 _ _ _))
theorem nBX6_readWhen_90 {J102 : Int32 → Int32 → ea_H → Option (Int32 × ea_H)} {J102_ : Nat → (Int32 → Int32 → ea_H → Option (Int32 × ea_H))}  (mJ102 : ∀ (x1 : Int32) (x3 : Int32) (h : ea_H), fct (J102 x1 x3 h) (fun f => J102_ f x1 x3 h)) {x1 : Int32} {x2 : Int32} {x3 : Int32} {h : ea_H} : fct (BX6_readWhen_90 J102 x1 x2 x3 h) (fun f => BX6_readWhen_90 (J102_ f) x1 x2 x3 h) :=
  (fct_ite (fct_bind (fct_rfl _) fun _ => (mJ102 _ _ _)) (mJ102 _ _ _))
noncomputable def BX6_readWhen_102 (J7 : Int32 → Int32 → Int32 → ea_H → Option (Int32 × ea_H)) (J123 : Int32 → Int32 → ea_H → Option (Int32 × ea_H)) (x1 : Int32) (x3 : Int32) (h : ea_H) : Option (Int32 × ea_H) :=
  (if (ea_i h 24 7) = (16 : Int32) then (Option.bind (qX6_step  h) fun w18 => (J7 (x1 : Int32) ((ea_i h 24 7) : Int32) ((x3 + (1 : Int32)) : Int32) w18.2)) else (if x1 = (0 : Int32) then (J123 ((ea_i h 24 7) : Int32) (x3 : Int32) h) else (Option.bind (qX6_put ((-19) : Int32) h) fun w19 => (J123 ((ea_i h 24 7) : Int32) (x3 : Int32) w19.2))))
theorem tBX6_readWhen_102 {d : Nat} {h0 : ea_H} (hd : 43 ≤ d) {J7 : Int32 → Int32 → Int32 → ea_H → Option (Int32 × ea_H)} {J123 : Int32 → Int32 → ea_H → Option (Int32 × ea_H)}  (kJ7 : ∀ (x1 : Int32) (x2 : Int32) (x3 : Int32) (h : ea_H) (r : Int32) (h' : ea_H), J7 x1 x2 x3 h = some (r, h') → ShC h → ea_W mX6_readWhen d h0 (some (vI r)) h' 7 [(0, vR (some 24)), (1, vI x1), (2, vI x2), (3, vI x3)] [] h) (kJ123 : ∀ (x2 : Int32) (x3 : Int32) (h : ea_H) (r : Int32) (h' : ea_H), J123 x2 x3 h = some (r, h') → ShC h → ea_W mX6_readWhen d h0 (some (vI r)) h' 123 [(0, vR (some 24)), (2, vI x2), (3, vI x3)] [] h) {x1 : Int32} {x3 : Int32} {h : ea_H} {r : Int32} {h' : ea_H} (E : BX6_readWhen_102 J7 J123 x1 x3 h = some (r, h')) (hs : ShC h) : ea_W mX6_readWhen d h0 (some (vI r)) h' 102 [(0, vR (some 24)), (1, vI x1), (3, vI x3)] [] h := by
  unfold BX6_readWhen_102 at E
  refine ea_aload_n (pc := 102) dX6_readWhen_102 rfl 0 rfl ?_
  refine ea_getI (pc := 103) dX6_readWhen_103 ec_6 (k := 7) (Nat.le_of_ble_eq_true rfl) rfl (Or.inl ew_304) (cShC_24 hs).1 (cShC_24 hs).2.1 ?_
  refine ea_istore_n (pc := 106) (lv' := [(0, vR (some 24)), (1, vI x1), (2, vI (ea_i h 24 7)), (3, vI x3)]) dX6_readWhen_106 rfl (Nat.le_of_ble_eq_true rfl) [1, 2, 0, 3] rfl ?_
  refine ea_iload_n (pc := 107) dX6_readWhen_107 rfl 2 rfl ?_
  refine ea_bipush (pc := 108) dX6_readWhen_108 (v := 16) rfl ?_
  refine ea_icmp_eq (pc := 110) (tgt := 141) dX6_readWhen_110 rfl (fun c21 => ?_) (fun c21 => ?_)
  · have E := (if_pos c21).symm.trans E
    obtain ⟨w18, Ew18, E⟩ := bd_some E
    have hsw18 : ShC w18.2 := ShC_core ((kpX6_step _) _ Ew18) hs
    refine ea_aload_n (pc := 141) dX6_readWhen_141 rfl 0 rfl ?_
    refine ea_callV (pc := 142) (d' := d - 1) (As := []) (st := []) dX6_readWhen_142 kX6_step (sX6_step (d := d - 1) (by omega) hs Ew18) (by omega) rfl (Nat.le_of_ble_eq_true rfl) ew_996 ew_998 ew_21 (ci := 6) rfl (by decide) (cShC_24 hs).1 (cShC_24 hs).2.1 ?_
    refine ea_iinc (pc := 145) (v := 1) (lv' := [(0, vR (some 24)), (1, vI x1), (2, vI (ea_i h 24 7)), (3, vI (x3 + (1 : Int32)))]) dX6_readWhen_145 3 rfl rfl (Nat.le_of_ble_eq_true rfl) [1, 2, 3, 0] rfl ?_
    refine ea_goto (pc := 148) (tgt := 7) dX6_readWhen_148 rfl ?_
    exact (kJ7 (x1 : Int32) ((ea_i h 24 7) : Int32) ((x3 + (1 : Int32)) : Int32) w18.2 _ _ E hsw18)
  · have E := (if_neg c21).symm.trans E
    refine ea_iload_n (pc := 113) dX6_readWhen_113 rfl 1 rfl ?_
    refine ea_if_eq (pc := 114) (tgt := 123) dX6_readWhen_114 rfl (fun c20 => ?_) (fun c20 => ?_)
    · have E := (if_pos c20).symm.trans E
      exact ea_fewer [0, 2, 3] rfl (kJ123 ((ea_i h 24 7) : Int32) (x3 : Int32) h _ _ E hs)
    · have E := (if_neg c20).symm.trans E
      obtain ⟨w19, Ew19, E⟩ := bd_some E
      have hsw19 : ShC w19.2 := ShC_core ((kpX6_put _ _) _ Ew19) hs
      refine ea_aload_n (pc := 117) dX6_readWhen_117 rfl 0 rfl ?_
      refine ea_bipush (pc := 118) dX6_readWhen_118 (v := (-19)) rfl ?_
      refine ea_callV (pc := 120) (d' := d - 1) (As := [vI (-19)]) (st := []) dX6_readWhen_120 kX6_put (sX6_put (d := d - 1) (by omega) hs Ew19) (by omega) rfl (Nat.le_of_ble_eq_true rfl) ew_1016 ew_1018 ew_26 (ci := 6) rfl (by decide) (cShC_24 hs).1 (cShC_24 hs).2.1 ?_
      exact ea_fewer [0, 2, 3] rfl (kJ123 ((ea_i h 24 7) : Int32) (x3 : Int32) w19.2 _ _ E hsw19)
theorem kBX6_readWhen_102 {J7 : Int32 → Int32 → Int32 → ea_H → Option (Int32 × ea_H)} {J123 : Int32 → Int32 → ea_H → Option (Int32 × ea_H)}  (cJ7 : ∀ (x1 : Int32) (x2 : Int32) (x3 : Int32) (h : ea_H), kp (ea_core h) (J7 x1 x2 x3 h)) (cJ123 : ∀ (x2 : Int32) (x3 : Int32) (h : ea_H), kp (ea_core h) (J123 x2 x3 h)) {x1 : Int32} {x3 : Int32} {h : ea_H} : kp (ea_core h) (BX6_readWhen_102 J7 J123 x1 x3 h) :=
  (kp_ite (kp_bind (kp_tw (kpX6_step _) rfl) fun w18 hcw18 => (kp_tw (cJ7 _ _ _ _) hcw18)) (kp_ite (kp_tw (cJ123 _ _ _) rfl) (kp_bind (kp_tw (kpX6_put _ _) rfl) fun w19 hcw19 => (kp_tw (cJ123 _ _ _) hcw19))))
theorem lBX6_readWhen_102 {J7 : Int32 → Int32 → Int32 → ea_H → Option (Int32 × ea_H)} {J123 : Int32 → Int32 → ea_H → Option (Int32 × ea_H)} {J7_ : Int32 → Int32 → Int32 → ea_H → Option (Int32 × ea_H)} {J123_ : Int32 → Int32 → ea_H → Option (Int32 × ea_H)}  (mJ7 : ∀ (x1 : Int32) (x2 : Int32) (x3 : Int32) (h : ea_H), fle (J7 x1 x2 x3 h) (J7_ x1 x2 x3 h)) (mJ123 : ∀ (x2 : Int32) (x3 : Int32) (h : ea_H), fle (J123 x2 x3 h) (J123_ x2 x3 h)) {x1 : Int32} {x3 : Int32} {h : ea_H} : fle (BX6_readWhen_102 J7 J123 x1 x3 h) (BX6_readWhen_102 J7_ J123_ x1 x3 h) :=
  (fle_ite (fle_bind (fle_rfl _) fun _ => (mJ7 _ _ _ _)) (fle_ite (mJ123 _ _ _) (fle_bind (fle_rfl _) fun _ => (mJ123 _ _ _))))
theorem nBX6_readWhen_102 {J7 : Int32 → Int32 → Int32 → ea_H → Option (Int32 × ea_H)} {J123 : Int32 → Int32 → ea_H → Option (Int32 × ea_H)} {J7_ : Nat → (Int32 → Int32 → Int32 → ea_H → Option (Int32 × ea_H))} {J123_ : Nat → (Int32 → Int32 → ea_H → Option (Int32 × ea_H))}  (mJ7 : ∀ (x1 : Int32) (x2 : Int32) (x3 : Int32) (h : ea_H), fct (J7 x1 x2 x3 h) (fun f => J7_ f x1 x2 x3 h)) (mJ123 : ∀ (x2 : Int32) (x3 : Int32) (h : ea_H), fct (J123 x2 x3 h) (fun f => J123_ f x2 x3 h)) {x1 : Int32} {x3 : Int32} {h : ea_H} : fct (BX6_readWhen_102 J7 J123 x1 x3 h) (fun f => BX6_readWhen_102 (J7_ f) (J123_ f) x1 x3 h) :=
  (fct_ite (fct_bind (fct_rfl _) fun _ => (mJ7 _ _ _ _)) (fct_ite (mJ123 _ _ _) (fct_bind (fct_rfl _) fun _ => (mJ123 _ _ _))))
noncomputable def BX6_readWhen_123 (J134 : Int32 → Int32 → Int32 → ea_H → Option (Int32 × ea_H)) (x2 : Int32) (x3 : Int32) (h : ea_H) : Option (Int32 × ea_H) :=
  (if x2 = (17 : Int32) then (J134 (x2 : Int32) (x3 : Int32) (1 : Int32) h) else (J134 (x2 : Int32) (x3 : Int32) (0 : Int32) h))
theorem tBX6_readWhen_123 {d : Nat} {h0 : ea_H} (hd : 43 ≤ d) {J134 : Int32 → Int32 → Int32 → ea_H → Option (Int32 × ea_H)}  (kJ134 : ∀ (x2 : Int32) (x3 : Int32) (sx0 : Int32) (h : ea_H) (r : Int32) (h' : ea_H), J134 x2 x3 sx0 h = some (r, h') → ShC h → ea_W mX6_readWhen d h0 (some (vI r)) h' 134 [(0, vR (some 24)), (2, vI x2), (3, vI x3)] [vI sx0] h) {x2 : Int32} {x3 : Int32} {h : ea_H} {r : Int32} {h' : ea_H} (E : BX6_readWhen_123 J134 x2 x3 h = some (r, h')) (hs : ShC h) : ea_W mX6_readWhen d h0 (some (vI r)) h' 123 [(0, vR (some 24)), (2, vI x2), (3, vI x3)] [] h := by
  unfold BX6_readWhen_123 at E
  refine ea_iload_n (pc := 123) dX6_readWhen_123 rfl 1 rfl ?_
  refine ea_bipush (pc := 124) dX6_readWhen_124 (v := 17) rfl ?_
  refine ea_icmp_ne (pc := 126) (tgt := 133) dX6_readWhen_126 rfl (fun c22 => ?_) (fun c22 => ?_)
  · have E := (if_neg c22).symm.trans E
    refine ea_iconst (pc := 133) dX6_readWhen_133 (v := 0) rfl ?_
    exact (kJ134 (x2 : Int32) (x3 : Int32) (0 : Int32) h _ _ E hs)
  · have E := (if_pos c22).symm.trans E
    refine ea_iconst (pc := 129) dX6_readWhen_129 (v := 1) rfl ?_
    refine ea_goto (pc := 130) (tgt := 134) dX6_readWhen_130 rfl ?_
    exact (kJ134 (x2 : Int32) (x3 : Int32) (1 : Int32) h _ _ E hs)
theorem kBX6_readWhen_123 {J134 : Int32 → Int32 → Int32 → ea_H → Option (Int32 × ea_H)}  (cJ134 : ∀ (x2 : Int32) (x3 : Int32) (sx0 : Int32) (h : ea_H), kp (ea_core h) (J134 x2 x3 sx0 h)) {x2 : Int32} {x3 : Int32} {h : ea_H} : kp (ea_core h) (BX6_readWhen_123 J134 x2 x3 h) :=
  (kp_ite (kp_tw (cJ134 _ _ _ _) rfl) (kp_tw (cJ134 _ _ _ _) rfl))
theorem lBX6_readWhen_123 {J134 : Int32 → Int32 → Int32 → ea_H → Option (Int32 × ea_H)} {J134_ : Int32 → Int32 → Int32 → ea_H → Option (Int32 × ea_H)}  (mJ134 : ∀ (x2 : Int32) (x3 : Int32) (sx0 : Int32) (h : ea_H), fle (J134 x2 x3 sx0 h) (J134_ x2 x3 sx0 h)) {x2 : Int32} {x3 : Int32} {h : ea_H} : fle (BX6_readWhen_123 J134 x2 x3 h) (BX6_readWhen_123 J134_ x2 x3 h) :=
  (fle_ite (mJ134 _ _ _ _) (mJ134 _ _ _ _))
theorem nBX6_readWhen_123 {J134 : Int32 → Int32 → Int32 → ea_H → Option (Int32 × ea_H)} {J134_ : Nat → (Int32 → Int32 → Int32 → ea_H → Option (Int32 × ea_H))}  (mJ134 : ∀ (x2 : Int32) (x3 : Int32) (sx0 : Int32) (h : ea_H), fct (J134 x2 x3 sx0 h) (fun f => J134_ f x2 x3 sx0 h)) {x2 : Int32} {x3 : Int32} {h : ea_H} : fct (BX6_readWhen_123 J134 x2 x3 h) (fun f => BX6_readWhen_123 (J134_ f) x2 x3 h) :=
  (fct_ite (mJ134 _ _ _ _) (mJ134 _ _ _ _))
noncomputable def BX6_readWhen_134 (J7 : Int32 → Int32 → Int32 → ea_H → Option (Int32 × ea_H)) (x2 : Int32) (x3 : Int32) (sx0 : Int32) (h : ea_H) : Option (Int32 × ea_H) :=
  (if sx0 = (0 : Int32) then (some ((1 : Int32), h)) else (Option.bind (qX6_step  h) fun w23 => (J7 (sx0 : Int32) (x2 : Int32) ((x3 + (1 : Int32)) : Int32) w23.2)))
theorem tBX6_readWhen_134 {d : Nat} {h0 : ea_H} (hd : 43 ≤ d) {J7 : Int32 → Int32 → Int32 → ea_H → Option (Int32 × ea_H)}  (kJ7 : ∀ (x1 : Int32) (x2 : Int32) (x3 : Int32) (h : ea_H) (r : Int32) (h' : ea_H), J7 x1 x2 x3 h = some (r, h') → ShC h → ea_W mX6_readWhen d h0 (some (vI r)) h' 7 [(0, vR (some 24)), (1, vI x1), (2, vI x2), (3, vI x3)] [] h) {x2 : Int32} {x3 : Int32} {sx0 : Int32} {h : ea_H} {r : Int32} {h' : ea_H} (E : BX6_readWhen_134 J7 x2 x3 sx0 h = some (r, h')) (hs : ShC h) : ea_W mX6_readWhen d h0 (some (vI r)) h' 134 [(0, vR (some 24)), (2, vI x2), (3, vI x3)] [vI sx0] h := by
  unfold BX6_readWhen_134 at E
  refine ea_istore_n (pc := 134) (lv' := [(0, vR (some 24)), (1, vI sx0), (2, vI x2), (3, vI x3)]) dX6_readWhen_134 rfl (Nat.le_of_ble_eq_true rfl) [1, 0, 2, 3] rfl ?_
  refine ea_iload_n (pc := 135) dX6_readWhen_135 rfl 1 rfl ?_
  refine ea_if_ne (pc := 136) (tgt := 141) dX6_readWhen_136 rfl (fun c24 => ?_) (fun c24 => ?_)
  · have E := (if_neg c24).symm.trans E
    obtain ⟨w23, Ew23, E⟩ := bd_some E
    have hsw23 : ShC w23.2 := ShC_core ((kpX6_step _) _ Ew23) hs
    refine ea_aload_n (pc := 141) dX6_readWhen_141 rfl 0 rfl ?_
    refine ea_callV (pc := 142) (d' := d - 1) (As := []) (st := []) dX6_readWhen_142 kX6_step (sX6_step (d := d - 1) (by omega) hs Ew23) (by omega) rfl (Nat.le_of_ble_eq_true rfl) ew_996 ew_998 ew_21 (ci := 6) rfl (by decide) (cShC_24 hs).1 (cShC_24 hs).2.1 ?_
    refine ea_iinc (pc := 145) (v := 1) (lv' := [(0, vR (some 24)), (1, vI sx0), (2, vI x2), (3, vI (x3 + (1 : Int32)))]) dX6_readWhen_145 3 rfl rfl (Nat.le_of_ble_eq_true rfl) [1, 2, 3, 0] rfl ?_
    refine ea_goto (pc := 148) (tgt := 7) dX6_readWhen_148 rfl ?_
    exact (kJ7 (sx0 : Int32) (x2 : Int32) ((x3 + (1 : Int32)) : Int32) w23.2 _ _ E hsw23)
  · have E := (if_pos c24).symm.trans E
    refine ea_iconst (pc := 139) dX6_readWhen_139 (v := 1) rfl ?_
    exact ea_iretO (pc := 140) dX6_readWhen_140 rfl (ea_bn (Or.inr rfl)) E
theorem kBX6_readWhen_134 {J7 : Int32 → Int32 → Int32 → ea_H → Option (Int32 × ea_H)}  (cJ7 : ∀ (x1 : Int32) (x2 : Int32) (x3 : Int32) (h : ea_H), kp (ea_core h) (J7 x1 x2 x3 h)) {x2 : Int32} {x3 : Int32} {sx0 : Int32} {h : ea_H} : kp (ea_core h) (BX6_readWhen_134 J7 x2 x3 sx0 h) :=
  (kp_ite (kp_ret rfl) (kp_bind (kp_tw (kpX6_step _) rfl) fun w23 hcw23 => (kp_tw (cJ7 _ _ _ _) hcw23)))
theorem lBX6_readWhen_134 {J7 : Int32 → Int32 → Int32 → ea_H → Option (Int32 × ea_H)} {J7_ : Int32 → Int32 → Int32 → ea_H → Option (Int32 × ea_H)}  (mJ7 : ∀ (x1 : Int32) (x2 : Int32) (x3 : Int32) (h : ea_H), fle (J7 x1 x2 x3 h) (J7_ x1 x2 x3 h)) {x2 : Int32} {x3 : Int32} {sx0 : Int32} {h : ea_H} : fle (BX6_readWhen_134 J7 x2 x3 sx0 h) (BX6_readWhen_134 J7_ x2 x3 sx0 h) :=
  (fle_ite (fle_rfl _) (fle_bind (fle_rfl _) fun _ => (mJ7 _ _ _ _)))
theorem nBX6_readWhen_134 {J7 : Int32 → Int32 → Int32 → ea_H → Option (Int32 × ea_H)} {J7_ : Nat → (Int32 → Int32 → Int32 → ea_H → Option (Int32 × ea_H))}  (mJ7 : ∀ (x1 : Int32) (x2 : Int32) (x3 : Int32) (h : ea_H), fct (J7 x1 x2 x3 h) (fun f => J7_ f x1 x2 x3 h)) {x2 : Int32} {x3 : Int32} {sx0 : Int32} {h : ea_H} : fct (BX6_readWhen_134 J7 x2 x3 sx0 h) (fun f => BX6_readWhen_134 (J7_ f) x2 x3 sx0 h) :=
  (fct_ite (fct_rfl _) (fct_bind (fct_rfl _) fun _ => (mJ7 _ _ _ _)))
noncomputable def gX6_readWhen : Nat → (ea_H → Option (Int32 × ea_H)) × (Int32 → Int32 → Int32 → ea_H → Option (Int32 × ea_H)) × (Int32 → Int32 → Int32 → ea_H → Option (Int32 × ea_H)) × (Int32 → Int32 → ea_H → Option (Int32 × ea_H)) × (Int32 → Int32 → ea_H → Option (Int32 × ea_H)) × (Int32 → Int32 → Int32 → ea_H → Option (Int32 × ea_H))
  | 0 => (fun _ => none, fun _ _ _ _ => none, fun _ _ _ _ => none, fun _ _ _ => none, fun _ _ _ => none, fun _ _ _ _ => none)
  | f + 1 => (BX6_readWhen_0 (gX6_readWhen f).2.1, BX6_readWhen_7 (gX6_readWhen f).2.2.1, BX6_readWhen_90 (gX6_readWhen f).2.2.2.1, BX6_readWhen_102 (gX6_readWhen f).2.1 (gX6_readWhen f).2.2.2.2.1, BX6_readWhen_123 (gX6_readWhen f).2.2.2.2.2, BX6_readWhen_134 (gX6_readWhen f).2.1)
theorem mgX6_readWhen : ∀ f : Nat, (∀ (h : ea_H), fle ((gX6_readWhen f).1 h) ((gX6_readWhen (f + 1)).1 h)) ∧ (∀ (x1 : Int32) (x2 : Int32) (x3 : Int32) (h : ea_H), fle ((gX6_readWhen f).2.1 x1 x2 x3 h) ((gX6_readWhen (f + 1)).2.1 x1 x2 x3 h)) ∧ (∀ (x1 : Int32) (x2 : Int32) (x3 : Int32) (h : ea_H), fle ((gX6_readWhen f).2.2.1 x1 x2 x3 h) ((gX6_readWhen (f + 1)).2.2.1 x1 x2 x3 h)) ∧ (∀ (x1 : Int32) (x3 : Int32) (h : ea_H), fle ((gX6_readWhen f).2.2.2.1 x1 x3 h) ((gX6_readWhen (f + 1)).2.2.2.1 x1 x3 h)) ∧ (∀ (x2 : Int32) (x3 : Int32) (h : ea_H), fle ((gX6_readWhen f).2.2.2.2.1 x2 x3 h) ((gX6_readWhen (f + 1)).2.2.2.2.1 x2 x3 h)) ∧ (∀ (x2 : Int32) (x3 : Int32) (sx0 : Int32) (h : ea_H), fle ((gX6_readWhen f).2.2.2.2.2 x2 x3 sx0 h) ((gX6_readWhen (f + 1)).2.2.2.2.2 x2 x3 sx0 h)) := by
  intro f
  induction f with
  | zero => exact ⟨fun _ => fle_none _, fun _ _ _ _ => fle_none _, fun _ _ _ _ => fle_none _, fun _ _ _ => fle_none _, fun _ _ _ => fle_none _, fun _ _ _ _ => fle_none _⟩
  | succ f ih => exact ⟨fun _ => lBX6_readWhen_0 ih.2.1, fun _ _ _ _ => lBX6_readWhen_7 ih.2.2.1, fun _ _ _ _ => lBX6_readWhen_90 ih.2.2.2.1, fun _ _ _ => lBX6_readWhen_102 ih.2.1 ih.2.2.2.2.1, fun _ _ _ => lBX6_readWhen_123 ih.2.2.2.2.2, fun _ _ _ _ => lBX6_readWhen_134 ih.2.1⟩
noncomputable def qX6_readWhen_0 (h : ea_H) : Option (Int32 × ea_H) := flim fun f => (gX6_readWhen f).1 h
noncomputable def qX6_readWhen_7 (x1 : Int32) (x2 : Int32) (x3 : Int32) (h : ea_H) : Option (Int32 × ea_H) := flim fun f => (gX6_readWhen f).2.1 x1 x2 x3 h
noncomputable def qX6_readWhen_90 (x1 : Int32) (x2 : Int32) (x3 : Int32) (h : ea_H) : Option (Int32 × ea_H) := flim fun f => (gX6_readWhen f).2.2.1 x1 x2 x3 h
noncomputable def qX6_readWhen_102 (x1 : Int32) (x3 : Int32) (h : ea_H) : Option (Int32 × ea_H) := flim fun f => (gX6_readWhen f).2.2.2.1 x1 x3 h
noncomputable def qX6_readWhen_123 (x2 : Int32) (x3 : Int32) (h : ea_H) : Option (Int32 × ea_H) := flim fun f => (gX6_readWhen f).2.2.2.2.1 x2 x3 h
noncomputable def qX6_readWhen_134 (x2 : Int32) (x3 : Int32) (sx0 : Int32) (h : ea_H) : Option (Int32 × ea_H) := flim fun f => (gX6_readWhen f).2.2.2.2.2 x2 x3 sx0 h
theorem fqX6_readWhen_0 (h : ea_H) : fct (qX6_readWhen_0 h) fun f => (gX6_readWhen f).1 h := flim_ct fun f => (mgX6_readWhen f).1 h
theorem fqX6_readWhen_7 (x1 : Int32) (x2 : Int32) (x3 : Int32) (h : ea_H) : fct (qX6_readWhen_7 x1 x2 x3 h) fun f => (gX6_readWhen f).2.1 x1 x2 x3 h := flim_ct fun f => (mgX6_readWhen f).2.1 x1 x2 x3 h
theorem fqX6_readWhen_90 (x1 : Int32) (x2 : Int32) (x3 : Int32) (h : ea_H) : fct (qX6_readWhen_90 x1 x2 x3 h) fun f => (gX6_readWhen f).2.2.1 x1 x2 x3 h := flim_ct fun f => (mgX6_readWhen f).2.2.1 x1 x2 x3 h
theorem fqX6_readWhen_102 (x1 : Int32) (x3 : Int32) (h : ea_H) : fct (qX6_readWhen_102 x1 x3 h) fun f => (gX6_readWhen f).2.2.2.1 x1 x3 h := flim_ct fun f => (mgX6_readWhen f).2.2.2.1 x1 x3 h
theorem fqX6_readWhen_123 (x2 : Int32) (x3 : Int32) (h : ea_H) : fct (qX6_readWhen_123 x2 x3 h) fun f => (gX6_readWhen f).2.2.2.2.1 x2 x3 h := flim_ct fun f => (mgX6_readWhen f).2.2.2.2.1 x2 x3 h
theorem fqX6_readWhen_134 (x2 : Int32) (x3 : Int32) (sx0 : Int32) (h : ea_H) : fct (qX6_readWhen_134 x2 x3 sx0 h) fun f => (gX6_readWhen f).2.2.2.2.2 x2 x3 sx0 h := flim_ct fun f => (mgX6_readWhen f).2.2.2.2.2 x2 x3 sx0 h
/-- how a block opens -/
theorem uqX6_readWhen_0 {h : ea_H} {P : Int32 × ea_H → Prop} (H : sat (BX6_readWhen_0 qX6_readWhen_7 h) P) : sat (qX6_readWhen_0 h) P := by
  obtain ⟨x, e, hp⟩ := H
  obtain ⟨n, hn⟩ := nBX6_readWhen_0 fqX6_readWhen_7 x e
  exact ⟨x, flim_at (fun f => (mgX6_readWhen f).1 h) (f := n + 1) (hn n (Nat.le_refl _)), hp⟩
/-- how a block opens -/
theorem uqX6_readWhen_7 {x1 : Int32} {x2 : Int32} {x3 : Int32} {h : ea_H} {P : Int32 × ea_H → Prop} (H : sat (BX6_readWhen_7 qX6_readWhen_90 x1 x2 x3 h) P) : sat (qX6_readWhen_7 x1 x2 x3 h) P := by
  obtain ⟨x, e, hp⟩ := H
  obtain ⟨n, hn⟩ := nBX6_readWhen_7 fqX6_readWhen_90 x e
  exact ⟨x, flim_at (fun f => (mgX6_readWhen f).2.1 x1 x2 x3 h) (f := n + 1) (hn n (Nat.le_refl _)), hp⟩
/-- how a block opens -/
theorem uqX6_readWhen_90 {x1 : Int32} {x2 : Int32} {x3 : Int32} {h : ea_H} {P : Int32 × ea_H → Prop} (H : sat (BX6_readWhen_90 qX6_readWhen_102 x1 x2 x3 h) P) : sat (qX6_readWhen_90 x1 x2 x3 h) P := by
  obtain ⟨x, e, hp⟩ := H
  obtain ⟨n, hn⟩ := nBX6_readWhen_90 fqX6_readWhen_102 x e
  exact ⟨x, flim_at (fun f => (mgX6_readWhen f).2.2.1 x1 x2 x3 h) (f := n + 1) (hn n (Nat.le_refl _)), hp⟩
/-- how a block opens -/
theorem uqX6_readWhen_102 {x1 : Int32} {x3 : Int32} {h : ea_H} {P : Int32 × ea_H → Prop} (H : sat (BX6_readWhen_102 qX6_readWhen_7 qX6_readWhen_123 x1 x3 h) P) : sat (qX6_readWhen_102 x1 x3 h) P := by
  obtain ⟨x, e, hp⟩ := H
  obtain ⟨n, hn⟩ := nBX6_readWhen_102 fqX6_readWhen_7 fqX6_readWhen_123 x e
  exact ⟨x, flim_at (fun f => (mgX6_readWhen f).2.2.2.1 x1 x3 h) (f := n + 1) (hn n (Nat.le_refl _)), hp⟩
/-- how a block opens -/
theorem uqX6_readWhen_123 {x2 : Int32} {x3 : Int32} {h : ea_H} {P : Int32 × ea_H → Prop} (H : sat (BX6_readWhen_123 qX6_readWhen_134 x2 x3 h) P) : sat (qX6_readWhen_123 x2 x3 h) P := by
  obtain ⟨x, e, hp⟩ := H
  obtain ⟨n, hn⟩ := nBX6_readWhen_123 fqX6_readWhen_134 x e
  exact ⟨x, flim_at (fun f => (mgX6_readWhen f).2.2.2.2.1 x2 x3 h) (f := n + 1) (hn n (Nat.le_refl _)), hp⟩
/-- how a block opens -/
theorem uqX6_readWhen_134 {x2 : Int32} {x3 : Int32} {sx0 : Int32} {h : ea_H} {P : Int32 × ea_H → Prop} (H : sat (BX6_readWhen_134 qX6_readWhen_7 x2 x3 sx0 h) P) : sat (qX6_readWhen_134 x2 x3 sx0 h) P := by
  obtain ⟨x, e, hp⟩ := H
  obtain ⟨n, hn⟩ := nBX6_readWhen_134 fqX6_readWhen_7 x e
  exact ⟨x, flim_at (fun f => (mgX6_readWhen f).2.2.2.2.2 x2 x3 sx0 h) (f := n + 1) (hn n (Nat.le_refl _)), hp⟩
theorem kgX6_readWhen : ∀ f : Nat, (∀ (h : ea_H), kp (ea_core h) ((gX6_readWhen f).1 h)) ∧ (∀ (x1 : Int32) (x2 : Int32) (x3 : Int32) (h : ea_H), kp (ea_core h) ((gX6_readWhen f).2.1 x1 x2 x3 h)) ∧ (∀ (x1 : Int32) (x2 : Int32) (x3 : Int32) (h : ea_H), kp (ea_core h) ((gX6_readWhen f).2.2.1 x1 x2 x3 h)) ∧ (∀ (x1 : Int32) (x3 : Int32) (h : ea_H), kp (ea_core h) ((gX6_readWhen f).2.2.2.1 x1 x3 h)) ∧ (∀ (x2 : Int32) (x3 : Int32) (h : ea_H), kp (ea_core h) ((gX6_readWhen f).2.2.2.2.1 x2 x3 h)) ∧ (∀ (x2 : Int32) (x3 : Int32) (sx0 : Int32) (h : ea_H), kp (ea_core h) ((gX6_readWhen f).2.2.2.2.2 x2 x3 sx0 h)) := by
  intro f
  induction f with
  | zero => exact ⟨fun _ => kp_none _, fun _ _ _ _ => kp_none _, fun _ _ _ _ => kp_none _, fun _ _ _ => kp_none _, fun _ _ _ => kp_none _, fun _ _ _ _ => kp_none _⟩
  | succ f ih => exact ⟨fun _ => kBX6_readWhen_0 ih.2.1, fun _ _ _ _ => kBX6_readWhen_7 ih.2.2.1, fun _ _ _ _ => kBX6_readWhen_90 ih.2.2.2.1, fun _ _ _ => kBX6_readWhen_102 ih.2.1 ih.2.2.2.2.1, fun _ _ _ => kBX6_readWhen_123 ih.2.2.2.2.2, fun _ _ _ _ => kBX6_readWhen_134 ih.2.1⟩
theorem tgX6_readWhen {d : Nat} {h0 : ea_H} (hd : 43 ≤ d) : ∀ f : Nat, (∀ (h : ea_H) (r : Int32) (h' : ea_H), (gX6_readWhen f).1 h = some (r, h') → ShC h → ea_W mX6_readWhen d h0 (some (vI r)) h' 0 [(0, vR (some 24))] [] h) ∧ (∀ (x1 : Int32) (x2 : Int32) (x3 : Int32) (h : ea_H) (r : Int32) (h' : ea_H), (gX6_readWhen f).2.1 x1 x2 x3 h = some (r, h') → ShC h → ea_W mX6_readWhen d h0 (some (vI r)) h' 7 [(0, vR (some 24)), (1, vI x1), (2, vI x2), (3, vI x3)] [] h) ∧ (∀ (x1 : Int32) (x2 : Int32) (x3 : Int32) (h : ea_H) (r : Int32) (h' : ea_H), (gX6_readWhen f).2.2.1 x1 x2 x3 h = some (r, h') → ShC h → ea_W mX6_readWhen d h0 (some (vI r)) h' 90 [(0, vR (some 24)), (1, vI x1), (2, vI x2), (3, vI x3)] [] h) ∧ (∀ (x1 : Int32) (x3 : Int32) (h : ea_H) (r : Int32) (h' : ea_H), (gX6_readWhen f).2.2.2.1 x1 x3 h = some (r, h') → ShC h → ea_W mX6_readWhen d h0 (some (vI r)) h' 102 [(0, vR (some 24)), (1, vI x1), (3, vI x3)] [] h) ∧ (∀ (x2 : Int32) (x3 : Int32) (h : ea_H) (r : Int32) (h' : ea_H), (gX6_readWhen f).2.2.2.2.1 x2 x3 h = some (r, h') → ShC h → ea_W mX6_readWhen d h0 (some (vI r)) h' 123 [(0, vR (some 24)), (2, vI x2), (3, vI x3)] [] h) ∧ (∀ (x2 : Int32) (x3 : Int32) (sx0 : Int32) (h : ea_H) (r : Int32) (h' : ea_H), (gX6_readWhen f).2.2.2.2.2 x2 x3 sx0 h = some (r, h') → ShC h → ea_W mX6_readWhen d h0 (some (vI r)) h' 134 [(0, vR (some 24)), (2, vI x2), (3, vI x3)] [vI sx0] h) := by
  intro f
  induction f with
  | zero => exact ⟨fun _ _ _ E => no_some E, fun _ _ _ _ _ _ E => no_some E, fun _ _ _ _ _ _ E => no_some E, fun _ _ _ _ _ E => no_some E, fun _ _ _ _ _ E => no_some E, fun _ _ _ _ _ _ E => no_some E⟩
  | succ f ih => exact ⟨fun _ _ _ E hs => tBX6_readWhen_0 hd ih.2.1 E hs, fun _ _ _ _ _ _ E hs => tBX6_readWhen_7 hd ih.2.2.1 E hs, fun _ _ _ _ _ _ E hs => tBX6_readWhen_90 hd ih.2.2.2.1 E hs, fun _ _ _ _ _ E hs => tBX6_readWhen_102 hd ih.2.1 ih.2.2.2.2.1 E hs, fun _ _ _ _ _ E hs => tBX6_readWhen_123 hd ih.2.2.2.2.2 E hs, fun _ _ _ _ _ _ E hs => tBX6_readWhen_134 hd ih.2.1 E hs⟩
noncomputable def qX6_readWhen (h : ea_H) : Option (Int32 × ea_H) := qX6_readWhen_0  h
theorem sX6_readWhen {d : Nat} {h : ea_H} {r : Int32} {h' : ea_H} (hd : 43 ≤ d) (hs : ShC h) (K : qX6_readWhen h = some (r, h')) : ea_Met mX6_readWhen d [vR (some 24)] h (some (vI r)) h' := by
  unfold qX6_readWhen at K
  obtain ⟨n, hn⟩ := fqX6_readWhen_0  h _ K
  have W := (tgX6_readWhen (d := d) (h0 := h) hd n).1  h _ _ (hn n (Nat.le_refl _)) hs
  exact ea_enter rfl (Nat.le_of_ble_eq_true rfl) W
theorem kpX6_readWhen (h : ea_H) : kp (ea_core h) (qX6_readWhen h) := fun x e => by
  obtain ⟨n, hn⟩ := fqX6_readWhen_0  h x e
  exact (kgX6_readWhen n).1  h x (hn n (Nat.le_refl _))
noncomputable def BX6_readCharge_0 (r1 : Option Nat) (h : ea_H) : Option (Int32 × ea_H) :=
  (gd (r1 = some (Option.getD r1 0)) (gd (((Option.getD r1 0) < ea_n h ∧ ea_c h (Option.getD r1 0) = 0)) (ea_let (ea_i h (Option.getD r1 0) 8) fun (v3 : Int32) => (if v3 < (24 : Int32) then (gd (r1 = some (Option.getD r1 0)) (gd (((Option.getD r1 0) < ea_n h ∧ ea_c h (Option.getD r1 0) = 0)) (gd (r1 = some (Option.getD r1 0)) (gd (((Option.getD r1 0) < ea_n h ∧ ea_c h (Option.getD r1 0) = 0)) (ea_let (ea_wi h (Option.getD r1 0) 8 ((ea_i h (Option.getD r1 0) 8) + (1 : Int32))) fun H8 => (gd (r1 = some (Option.getD r1 0)) (gd (((Option.getD r1 0) < ea_n H8 ∧ ea_c H8 (Option.getD r1 0) = 0)) (gd ((ea_r H8 (Option.getD r1 0) 9) = some (Option.getD (ea_r H8 (Option.getD r1 0) 9) 0)) (gd (((Option.getD (ea_r H8 (Option.getD r1 0) 9) 0) < ea_n H8 ∧ ea_c H8 (Option.getD (ea_r H8 (Option.getD r1 0) 9) 0) = 20)) (gd (vp_in v3 (ea_l H8 (Option.getD (ea_r H8 (Option.getD r1 0) 9) 0))) (ea_let (ea_wi H8 (Option.getD (ea_r H8 (Option.getD r1 0) 9) 0) (Int32.toNatClampNeg v3) (ea_i H8 24 9)) fun H14 => (gd (r1 = some (Option.getD r1 0)) (gd (((Option.getD r1 0) < ea_n H14 ∧ ea_c H14 (Option.getD r1 0) = 0)) (gd ((ea_r H14 (Option.getD r1 0) 10) = some (Option.getD (ea_r H14 (Option.getD r1 0) 10) 0)) (gd (((Option.getD (ea_r H14 (Option.getD r1 0) 10) 0) < ea_n H14 ∧ ea_c H14 (Option.getD (ea_r H14 (Option.getD r1 0) 10) 0) = 20)) (gd (vp_in v3 (ea_l H14 (Option.getD (ea_r H14 (Option.getD r1 0) 10) 0))) (ea_let (ea_wi H14 (Option.getD (ea_r H14 (Option.getD r1 0) 10) 0) (Int32.toNatClampNeg v3) (-1)) fun H20 => (Option.bind (qX6_step  H20) fun w21 => (Option.bind (qX6_readSum (0 : Int32) w21.2) fun w22 => (if w22.1 = (0 : Int32) then (some ((0 : Int32), w22.2)) else (Option.bind (qX6_put ((-100) : Int32) w22.2) fun w23 => (if (ea_i w23.2 24 7) = (13 : Int32) then (Option.bind (qX6_step  w23.2) fun w24 => (gd (r1 = some (Option.getD r1 0)) (gd (((Option.getD r1 0) < ea_n w24.2 ∧ ea_c w24.2 (Option.getD r1 0) = 0)) (gd ((ea_r w24.2 (Option.getD r1 0) 10) = some (Option.getD (ea_r w24.2 (Option.getD r1 0) 10) 0)) (gd (((Option.getD (ea_r w24.2 (Option.getD r1 0) 10) 0) < ea_n w24.2 ∧ ea_c w24.2 (Option.getD (ea_r w24.2 (Option.getD r1 0) 10) 0) = 20)) (gd (vp_in v3 (ea_l w24.2 (Option.getD (ea_r w24.2 (Option.getD r1 0) 10) 0))) (ea_let (ea_wi w24.2 (Option.getD (ea_r w24.2 (Option.getD r1 0) 10) 0) (Int32.toNatClampNeg v3) (ea_i w24.2 24 9)) fun H30 => (Option.bind (qX6_readWhen  H30) fun w31 => (Option.bind (qX6_put ((-100) : Int32) w31.2) fun w32 => (gd ((w31.1 = 0 ∨ w31.1 = 1)) (some (w31.1, w32.2)))))))))))) else (some ((1 : Int32), w23.2)))))))))))))))))))))))) else (Option.bind (qX6_refuse (3 : Int32) h) fun w36 => (gd ((w36.1 = 0 ∨ w36.1 = 1)) (some (w36.1, w36.2))))))))
theorem tBX6_readCharge_0 {d : Nat} {h0 : ea_H} (hd : 44 ≤ d)  {r1 : Option Nat} {h : ea_H} {r : Int32} {h' : ea_H} (E : BX6_readCharge_0 r1 h = some (r, h')) (hs : ShC h) : ea_W mX6_readCharge d h0 (some (vI r)) h' 0 [(0, vR (some 24)), (1, vR r1)] [] h := by
  unfold BX6_readCharge_0 at E
  obtain ⟨e1, E⟩ := gd_some E
  refine ea_aload_n (pc := 0) dX6_readCharge_0 rfl 1 rfl ?_
  obtain ⟨f2, E⟩ := gd_some E
  obtain ⟨v3, ev3, E⟩ := let_some E
  refine ea_deref0 e1 ?_
  refine ea_getI (pc := 1) dX6_readCharge_1 ec_0 (k := 8) (Nat.le_of_ble_eq_true rfl) rfl (Or.inl ew_365) f2.1 f2.2 ?_
  refine ea_istore_n (pc := 4) (lv' := [(0, vR (some 24)), (1, vR r1), (2, vI v3)]) dX6_readCharge_4 rfl (Nat.le_of_ble_eq_true rfl) [1, 2, 0] (by rw [ev3]; rfl) ?_
  refine ea_iload_n (pc := 5) dX6_readCharge_5 rfl 2 rfl ?_
  refine ea_bipush (pc := 6) dX6_readCharge_6 (v := 24) rfl ?_
  refine ea_icmp_lt (pc := 8) (tgt := 17) dX6_readCharge_8 rfl (fun c38 => ?_) (fun c38 => ?_)
  · have E := (if_pos c38).symm.trans E
    obtain ⟨e4, E⟩ := gd_some E
    refine ea_aload_n (pc := 17) dX6_readCharge_17 rfl 1 rfl ?_
    refine ea_dup (pc := 18) dX6_readCharge_18 rfl ?_
    obtain ⟨f5, E⟩ := gd_some E
    obtain ⟨e6, E⟩ := gd_some E
    refine ea_deref0 e4 ?_
    refine ea_getI (pc := 19) dX6_readCharge_19 ec_0 (k := 8) (Nat.le_of_ble_eq_true rfl) rfl (Or.inl ew_365) f5.1 f5.2 ?_
    refine ea_iconst (pc := 22) dX6_readCharge_22 (v := 1) rfl ?_
    refine ea_iadd (pc := 23) dX6_readCharge_23 ?_
    obtain ⟨f7, E⟩ := gd_some E
    obtain ⟨H8, eH8, E⟩ := let_some E
    refine ea_deref1 e6 ?_
    refine ea_putI (pc := 24) dX6_readCharge_24 ec_0 (k := 8) (Nat.le_of_ble_eq_true rfl) rfl (Or.inl ⟨rfl, Or.inl ew_365⟩) rfl rfl f7.1 f7.2 ?_
    refine ea_nm eH8 ?_
    have hsH8 : ShC H8 := by rw [eH8]; exact hs
    obtain ⟨e9, E⟩ := gd_some E
    refine ea_aload_n (pc := 27) dX6_readCharge_27 rfl 1 rfl ?_
    obtain ⟨f10, E⟩ := gd_some E
    obtain ⟨e11, E⟩ := gd_some E
    refine ea_deref0 e9 ?_
    refine ea_getR (pc := 28) dX6_readCharge_28 ec_0 (k := 9) (Nat.le_of_ble_eq_true rfl) rfl (Or.inl ew_368) f10.1 f10.2 rfl ?_
    refine ea_iload_n (pc := 31) dX6_readCharge_31 rfl 2 rfl ?_
    refine ea_aload_n (pc := 32) dX6_readCharge_32 rfl 0 rfl ?_
    refine ea_getI (pc := 33) dX6_readCharge_33 ec_6 (k := 9) (Nat.le_of_ble_eq_true rfl) rfl (Or.inl ew_306) (cShC_24 hsH8).1 (cShC_24 hsH8).2.1 ?_
    obtain ⟨f12, E⟩ := gd_some E
    obtain ⟨z13, E⟩ := gd_some E
    obtain ⟨H14, eH14, E⟩ := let_some E
    refine ea_deref2 e11 ?_
    refine ea_iast (pc := 36) dX6_readCharge_36 f12.1 f12.2 z13 ?_
    refine ea_nm eH14 ?_
    have hsH14 : ShC H14 := by rw [eH14]; exact hsH8
    obtain ⟨e15, E⟩ := gd_some E
    refine ea_aload_n (pc := 37) dX6_readCharge_37 rfl 1 rfl ?_
    obtain ⟨f16, E⟩ := gd_some E
    obtain ⟨e17, E⟩ := gd_some E
    refine ea_deref0 e15 ?_
    refine ea_getR (pc := 38) dX6_readCharge_38 ec_0 (k := 10) (Nat.le_of_ble_eq_true rfl) rfl (Or.inl ew_371) f16.1 f16.2 rfl ?_
    refine ea_iload_n (pc := 41) dX6_readCharge_41 rfl 2 rfl ?_
    refine ea_iconst (pc := 42) dX6_readCharge_42 (v := (-1)) rfl ?_
    obtain ⟨f18, E⟩ := gd_some E
    obtain ⟨z19, E⟩ := gd_some E
    obtain ⟨H20, eH20, E⟩ := let_some E
    refine ea_deref2 e17 ?_
    refine ea_iast (pc := 43) dX6_readCharge_43 f18.1 f18.2 z19 ?_
    refine ea_nm eH20 ?_
    have hsH20 : ShC H20 := by rw [eH20]; exact hsH14
    obtain ⟨w21, Ew21, E⟩ := bd_some E
    have hsw21 : ShC w21.2 := ShC_core ((kpX6_step _) _ Ew21) hsH20
    refine ea_aload_n (pc := 44) dX6_readCharge_44 rfl 0 rfl ?_
    refine ea_callV (pc := 45) (d' := d - 1) (As := []) (st := []) dX6_readCharge_45 kX6_step (sX6_step (d := d - 1) (by omega) hsH20 Ew21) (by omega) rfl (Nat.le_of_ble_eq_true rfl) ew_996 ew_998 ew_21 (ci := 6) rfl (by decide) (cShC_24 hsH20).1 (cShC_24 hsH20).2.1 ?_
    obtain ⟨w22, Ew22, E⟩ := bd_some E
    have hsw22 : ShC w22.2 := ShC_core ((kpX6_readSum _ _) _ Ew22) hsw21
    refine ea_aload_n (pc := 48) dX6_readCharge_48 rfl 0 rfl ?_
    refine ea_iconst (pc := 49) dX6_readCharge_49 (v := 0) rfl ?_
    refine ea_callV (pc := 50) (d' := d - 1) (As := [vI 0]) (st := []) dX6_readCharge_50 kX6_readSum (sX6_readSum (d := d - 1) (by omega) hsw21 Ew22) (by omega) rfl (Nat.le_of_ble_eq_true rfl) ew_1000 ew_1002 ew_22 (ci := 6) rfl (by decide) (cShC_24 hsw21).1 (cShC_24 hsw21).2.1 ?_
    refine ea_if_ne (pc := 53) (tgt := 58) dX6_readCharge_53 rfl (fun c35 => ?_) (fun c35 => ?_)
    · have E := (if_neg c35).symm.trans E
      obtain ⟨w23, Ew23, E⟩ := bd_some E
      have hsw23 : ShC w23.2 := ShC_core ((kpX6_put _ _) _ Ew23) hsw22
      refine ea_aload_n (pc := 58) dX6_readCharge_58 rfl 0 rfl ?_
      refine ea_bipush (pc := 59) dX6_readCharge_59 (v := (-100)) rfl ?_
      refine ea_callV (pc := 61) (d' := d - 1) (As := [vI (-100)]) (st := []) dX6_readCharge_61 kX6_put (sX6_put (d := d - 1) (by omega) hsw22 Ew23) (by omega) rfl (Nat.le_of_ble_eq_true rfl) ew_1016 ew_1018 ew_26 (ci := 6) rfl (by decide) (cShC_24 hsw22).1 (cShC_24 hsw22).2.1 ?_
      refine ea_aload_n (pc := 64) dX6_readCharge_64 rfl 0 rfl ?_
      refine ea_getI (pc := 65) dX6_readCharge_65 ec_6 (k := 7) (Nat.le_of_ble_eq_true rfl) rfl (Or.inl ew_304) (cShC_24 hsw23).1 (cShC_24 hsw23).2.1 ?_
      refine ea_bipush (pc := 68) dX6_readCharge_68 (v := 13) rfl ?_
      refine ea_icmp_eq (pc := 70) (tgt := 75) dX6_readCharge_70 rfl (fun c34 => ?_) (fun c34 => ?_)
      · have E := (if_pos c34).symm.trans E
        obtain ⟨w24, Ew24, E⟩ := bd_some E
        have hsw24 : ShC w24.2 := ShC_core ((kpX6_step _) _ Ew24) hsw23
        refine ea_aload_n (pc := 75) dX6_readCharge_75 rfl 0 rfl ?_
        refine ea_callV (pc := 76) (d' := d - 1) (As := []) (st := []) dX6_readCharge_76 kX6_step (sX6_step (d := d - 1) (by omega) hsw23 Ew24) (by omega) rfl (Nat.le_of_ble_eq_true rfl) ew_996 ew_998 ew_21 (ci := 6) rfl (by decide) (cShC_24 hsw23).1 (cShC_24 hsw23).2.1 ?_
        obtain ⟨e25, E⟩ := gd_some E
        refine ea_aload_n (pc := 79) dX6_readCharge_79 rfl 1 rfl ?_
        obtain ⟨f26, E⟩ := gd_some E
        obtain ⟨e27, E⟩ := gd_some E
        refine ea_deref0 e25 ?_
        refine ea_getR (pc := 80) dX6_readCharge_80 ec_0 (k := 10) (Nat.le_of_ble_eq_true rfl) rfl (Or.inl ew_371) f26.1 f26.2 rfl ?_
        refine ea_iload_n (pc := 83) dX6_readCharge_83 rfl 2 rfl ?_
        refine ea_aload_n (pc := 84) dX6_readCharge_84 rfl 0 rfl ?_
        refine ea_getI (pc := 85) dX6_readCharge_85 ec_6 (k := 9) (Nat.le_of_ble_eq_true rfl) rfl (Or.inl ew_306) (cShC_24 hsw24).1 (cShC_24 hsw24).2.1 ?_
        obtain ⟨f28, E⟩ := gd_some E
        obtain ⟨z29, E⟩ := gd_some E
        obtain ⟨H30, eH30, E⟩ := let_some E
        refine ea_deref2 e27 ?_
        refine ea_iast (pc := 88) dX6_readCharge_88 f28.1 f28.2 z29 ?_
        refine ea_nm eH30 ?_
        have hsH30 : ShC H30 := by rw [eH30]; exact hsw24
        obtain ⟨w31, Ew31, E⟩ := bd_some E
        have hsw31 : ShC w31.2 := ShC_core ((kpX6_readWhen _) _ Ew31) hsH30
        refine ea_aload_n (pc := 89) dX6_readCharge_89 rfl 0 rfl ?_
        refine ea_callV (pc := 90) (d' := d - 1) (As := []) (st := []) dX6_readCharge_90 kX6_readWhen (sX6_readWhen (d := d - 1) (by omega) hsH30 Ew31) (by omega) rfl (Nat.le_of_ble_eq_true rfl) ew_1021 ew_1023 ew_27 (ci := 6) rfl (by decide) (cShC_24 hsH30).1 (cShC_24 hsH30).2.1 ?_
        obtain ⟨w32, Ew32, E⟩ := bd_some E
        have hsw32 : ShC w32.2 := ShC_core ((kpX6_put _ _) _ Ew32) hsw31
        refine ea_istore_n (pc := 93) (lv' := [(0, vR (some 24)), (3, vI w31.1)]) dX6_readCharge_93 rfl (Nat.le_of_ble_eq_true rfl) [1, 0] rfl ?_
        refine ea_aload_n (pc := 94) dX6_readCharge_94 rfl 0 rfl ?_
        refine ea_bipush (pc := 95) dX6_readCharge_95 (v := (-100)) rfl ?_
        refine ea_callV (pc := 97) (d' := d - 1) (As := [vI (-100)]) (st := []) dX6_readCharge_97 kX6_put (sX6_put (d := d - 1) (by omega) hsw31 Ew32) (by omega) rfl (Nat.le_of_ble_eq_true rfl) ew_1016 ew_1018 ew_26 (ci := 6) rfl (by decide) (cShC_24 hsw31).1 (cShC_24 hsw31).2.1 ?_
        obtain ⟨z33, E⟩ := gd_some E
        refine ea_iload_n (pc := 100) dX6_readCharge_100 rfl 1 rfl ?_
        exact ea_iretO (pc := 101) dX6_readCharge_101 rfl (ea_bn z33) E
      · have E := (if_neg c34).symm.trans E
        refine ea_iconst (pc := 73) dX6_readCharge_73 (v := 1) rfl ?_
        exact ea_iretO (pc := 74) dX6_readCharge_74 rfl (ea_bn (Or.inr rfl)) E
    · have E := (if_pos c35).symm.trans E
      refine ea_iconst (pc := 56) dX6_readCharge_56 (v := 0) rfl ?_
      exact ea_iretO (pc := 57) dX6_readCharge_57 rfl (ea_bn (Or.inl rfl)) E
  · have E := (if_neg c38).symm.trans E
    obtain ⟨w36, Ew36, E⟩ := bd_some E
    have hsw36 : ShC w36.2 := ShC_core ((kpX6_refuse _ _) _ Ew36) hs
    refine ea_aload_n (pc := 11) dX6_readCharge_11 rfl 0 rfl ?_
    refine ea_iconst (pc := 12) dX6_readCharge_12 (v := 3) rfl ?_
    refine ea_callV (pc := 13) (d' := d - 1) (As := [vI 3]) (st := []) dX6_readCharge_13 kX6_refuse (sX6_refuse (d := d - 1) (by omega) hs Ew36) (by omega) rfl (Nat.le_of_ble_eq_true rfl) ew_988 ew_990 ew_19 (ci := 6) rfl (by decide) (cShC_24 hs).1 (cShC_24 hs).2.1 ?_
    obtain ⟨z37, E⟩ := gd_some E
    exact ea_iretO (pc := 16) dX6_readCharge_16 rfl (ea_bn z37) E
theorem kBX6_readCharge_0  {r1 : Option Nat} {h : ea_H} : kp (ea_core h) (BX6_readCharge_0 r1 h) :=
  (kp_gd (kp_gd (kp_let (kp_ite (kp_gd (kp_gd (kp_gd (kp_gd (kp_let (kp_gd (kp_gd (kp_gd (kp_gd (kp_gd (kp_let (kp_gd (kp_gd (kp_gd (kp_gd (kp_gd (kp_let (kp_bind (kp_tw (kpX6_step _) rfl) fun w21 hcw21 => (kp_bind (kp_tw (kpX6_readSum _ _) hcw21) fun w22 hcw22 => (kp_ite (kp_ret hcw22) (kp_bind (kp_tw (kpX6_put _ _) hcw22) fun w23 hcw23 => (kp_ite (kp_bind (kp_tw (kpX6_step _) hcw23) fun w24 hcw24 => (kp_gd (kp_gd (kp_gd (kp_gd (kp_gd (kp_let (kp_bind (kp_tw (kpX6_readWhen _) hcw24) fun w31 hcw31 => (kp_bind (kp_tw (kpX6_put _ _) hcw31) fun w32 hcw32 => (kp_gd (kp_ret hcw32))))))))))) (kp_ret hcw23))))))))))))))))))))))) (kp_bind (kp_tw (kpX6_refuse _ _) rfl) fun w36 hcw36 => (kp_gd (kp_ret hcw36)))))))
noncomputable def qX6_readCharge (r1 : Option Nat) (h : ea_H) : Option (Int32 × ea_H) := BX6_readCharge_0 r1 h
theorem sX6_readCharge {d : Nat} {r1 : Option Nat} {h : ea_H} {r : Int32} {h' : ea_H} (hd : 44 ≤ d) (hs : ShC h) (K : qX6_readCharge r1 h = some (r, h')) : ea_Met mX6_readCharge d [vR (some 24), vR r1] h (some (vI r)) h' := by
  unfold qX6_readCharge at K
  have W := tBX6_readCharge_0 hd (h0 := h) K hs
  exact ea_enter rfl (Nat.le_of_ble_eq_true rfl) W
theorem kpX6_readCharge (r1 : Option Nat) (h : ea_H) : kp (ea_core h) (qX6_readCharge r1 h) := kBX6_readCharge_0
