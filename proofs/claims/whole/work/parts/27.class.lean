/-! the class, 7 -/
noncomputable def BX6_read_0 (J36 : Option Nat → Int32 → Int32 → Int32 → ea_H → Option (Int32 × ea_H)) (r1 : Option Nat) (h : ea_H) : Option (Int32 × ea_H) :=
  (Option.bind (qX6_scan  h) fun w1 => (Option.bind (qX6_drop  w1.2) fun w2 => (ea_let (ea_wi w2.2 24 6 0) fun H3 => (ea_let (ea_wi H3 24 7 ((ea_i H3 26 0) &&& (127 : Int32))) fun H4 => (J36 (r1 : Option Nat) ((ea_i h 24 9) : Int32) (1 : Int32) (0 : Int32) H4)))))
theorem tBX6_read_0 {d : Nat} {h0 : ea_H} (hd : 45 ≤ d) {J36 : Option Nat → Int32 → Int32 → Int32 → ea_H → Option (Int32 × ea_H)}  (kJ36 : ∀ (r1 : Option Nat) (x2 : Int32) (x3 : Int32) (x4 : Int32) (h : ea_H) (r : Int32) (h' : ea_H), J36 r1 x2 x3 x4 h = some (r, h') → ShC h → ea_W mX6_read d h0 (some (vI r)) h' 36 [(0, vR (some 24)), (1, vR r1), (2, vI x2), (3, vI x3), (4, vI x4)] [] h) {r1 : Option Nat} {h : ea_H} {r : Int32} {h' : ea_H} (E : BX6_read_0 J36 r1 h = some (r, h')) (hs : ShC h) : ea_W mX6_read d h0 (some (vI r)) h' 0 [(0, vR (some 24)), (1, vR r1)] [] h := by
  unfold BX6_read_0 at E
  obtain ⟨w1, Ew1, E⟩ := bd_some E
  have hsw1 : ShC w1.2 := ShC_core ((kpX6_scan _) _ Ew1) hs
  refine ea_aload_n (pc := 0) dX6_read_0 rfl 0 rfl ?_
  refine ea_getI (pc := 1) dX6_read_1 ec_6 (k := 9) (Nat.le_of_ble_eq_true rfl) rfl (Or.inl ew_306) (cShC_24 hs).1 (cShC_24 hs).2.1 ?_
  refine ea_istore_n (pc := 4) (lv' := [(0, vR (some 24)), (1, vR r1), (2, vI (ea_i h 24 9))]) dX6_read_4 rfl (Nat.le_of_ble_eq_true rfl) [1, 2, 0] rfl ?_
  refine ea_aload_n (pc := 5) dX6_read_5 rfl 0 rfl ?_
  refine ea_callV (pc := 6) (d' := d - 1) (As := []) (st := []) dX6_read_6 kX6_scan (sX6_scan (d := d - 1) (by omega) hs Ew1) (by omega) rfl (Nat.le_of_ble_eq_true rfl) ew_956 ew_958 ew_15 (ci := 6) rfl (by decide) (cShC_24 hs).1 (cShC_24 hs).2.1 ?_
  obtain ⟨w2, Ew2, E⟩ := bd_some E
  have hsw2 : ShC w2.2 := ShC_core ((kpX6_drop _) _ Ew2) hsw1
  refine ea_aload_n (pc := 9) dX6_read_9 rfl 0 rfl ?_
  refine ea_callV (pc := 10) (d' := d - 1) (As := []) (st := []) dX6_read_10 kX6_drop (sX6_drop (d := d - 1) (by omega) hsw1 Ew2) (by omega) rfl (Nat.le_of_ble_eq_true rfl) ew_987 ew_941 ew_942 (ci := 6) rfl (by decide) (cShC_24 hsw1).1 (cShC_24 hsw1).2.1 ?_
  obtain ⟨H3, eH3, E⟩ := let_some E
  refine ea_aload_n (pc := 13) dX6_read_13 rfl 0 rfl ?_
  refine ea_iconst (pc := 14) dX6_read_14 (v := 0) rfl ?_
  refine ea_putI (pc := 15) dX6_read_15 ec_6 (k := 6) (Nat.le_of_ble_eq_true rfl) rfl (Or.inl ⟨rfl, Or.inl ew_303⟩) rfl rfl (cShC_24 hsw2).1 (cShC_24 hsw2).2.1 ?_
  refine ea_nm eH3 ?_
  have hsH3 : ShC H3 := by rw [eH3]; exact hsw2
  obtain ⟨H4, eH4, E⟩ := let_some E
  refine ea_aload_n (pc := 18) dX6_read_18 rfl 0 rfl ?_
  refine ea_aload_n (pc := 19) dX6_read_19 rfl 0 rfl ?_
  refine ea_getR (pc := 20) dX6_read_20 ec_6 (k := 4) (Nat.le_of_ble_eq_true rfl) rfl (Or.inl ew_301) (cShC_24 hsH3).1 (cShC_24 hsH3).2.1 (rShC_24_4 hsH3) ?_
  refine ea_iconst (pc := 23) dX6_read_23 (v := 0) rfl ?_
  refine ea_iald (pc := 24) dX6_read_24 (cShC_26 hsH3).1 (cShC_26 hsH3).2.1 (ea_vpl (n := 601) (cShC_26 hsH3).2.2 (by unfold vp_in; decide)) ?_
  refine ea_bipush (pc := 25) dX6_read_25 (v := 127) rfl ?_
  refine ea_iand (pc := 27) dX6_read_27 ?_
  refine ea_putI (pc := 28) dX6_read_28 ec_6 (k := 7) (Nat.le_of_ble_eq_true rfl) rfl (Or.inl ⟨rfl, Or.inl ew_304⟩) rfl rfl (cShC_24 hsH3).1 (cShC_24 hsH3).2.1 ?_
  refine ea_nm eH4 ?_
  have hsH4 : ShC H4 := by rw [eH4]; exact hsH3
  refine ea_iconst (pc := 31) dX6_read_31 (v := 1) rfl ?_
  refine ea_istore_n (pc := 32) (lv' := [(0, vR (some 24)), (1, vR r1), (2, vI (ea_i h 24 9)), (3, vI 1)]) dX6_read_32 rfl (Nat.le_of_ble_eq_true rfl) [1, 2, 3, 0] rfl ?_
  refine ea_iconst (pc := 33) dX6_read_33 (v := 0) rfl ?_
  refine ea_istore (pc := 34) (lv' := [(0, vR (some 24)), (1, vR r1), (2, vI (ea_i h 24 9)), (3, vI 1), (4, vI 0)]) dX6_read_34 (Nat.le_of_ble_eq_true rfl) [1, 2, 3, 4, 0] rfl ?_
  exact (kJ36 (r1 : Option Nat) ((ea_i h 24 9) : Int32) (1 : Int32) (0 : Int32) H4 _ _ E hsH4)
theorem kBX6_read_0 {J36 : Option Nat → Int32 → Int32 → Int32 → ea_H → Option (Int32 × ea_H)}  (cJ36 : ∀ (r1 : Option Nat) (x2 : Int32) (x3 : Int32) (x4 : Int32) (h : ea_H), kp (ea_core h) (J36 r1 x2 x3 x4 h)) {r1 : Option Nat} {h : ea_H} : kp (ea_core h) (BX6_read_0 J36 r1 h) :=
  (kp_bind (kp_tw (kpX6_scan _) rfl) fun w1 hcw1 => (kp_bind (kp_tw (kpX6_drop _) hcw1) fun w2 hcw2 => (kp_let (kp_let (kp_tw (cJ36 _ _ _ _ _) hcw2)))))
theorem lBX6_read_0 {J36 : Option Nat → Int32 → Int32 → Int32 → ea_H → Option (Int32 × ea_H)} {J36_ : Option Nat → Int32 → Int32 → Int32 → ea_H → Option (Int32 × ea_H)}  (mJ36 : ∀ (r1 : Option Nat) (x2 : Int32) (x3 : Int32) (x4 : Int32) (h : ea_H), fle (J36 r1 x2 x3 x4 h) (J36_ r1 x2 x3 x4 h)) {r1 : Option Nat} {h : ea_H} : fle (BX6_read_0 J36 r1 h) (BX6_read_0 J36_ r1 h) :=
  (fle_bind (fle_rfl _) fun _ => (fle_bind (fle_rfl _) fun _ => (fle_let fun _ => (fle_let fun _ => (mJ36 _ _ _ _ _)))))
theorem nBX6_read_0 {J36 : Option Nat → Int32 → Int32 → Int32 → ea_H → Option (Int32 × ea_H)} {J36_ : Nat → (Option Nat → Int32 → Int32 → Int32 → ea_H → Option (Int32 × ea_H))}  (mJ36 : ∀ (r1 : Option Nat) (x2 : Int32) (x3 : Int32) (x4 : Int32) (h : ea_H), fct (J36 r1 x2 x3 x4 h) (fun f => J36_ f r1 x2 x3 x4 h)) {r1 : Option Nat} {h : ea_H} : fct (BX6_read_0 J36 r1 h) (fun f => BX6_read_0 (J36_ f) r1 h) :=
  (fct_bind (fct_rfl _) fun _ => (fct_bind (fct_rfl _) fun _ => (fct_let fun _ => (fct_let fun _ => (mJ36 _ _ _ _ _)))))
noncomputable def BX6_read_36 (J134 : Option Nat → Int32 → Int32 → ea_H → Option (Int32 × ea_H)) (J162 : Int32 → Int32 → ea_H → Option (Int32 × ea_H)) (r1 : Option Nat) (x2 : Int32) (x3 : Int32) (x4 : Int32) (h : ea_H) : Option (Int32 × ea_H) :=
  (if (600 : Int32) < x4 then (J162 (x2 : Int32) (x3 : Int32) h) else (if x3 = (0 : Int32) then (J162 (x2 : Int32) (x3 : Int32) h) else (if (ea_i h 24 7) = (19 : Int32) then (J162 (x2 : Int32) (x3 : Int32) h) else (if (ea_i h 24 7) ≤ (5 : Int32) then (gd (r1 = some (Option.getD r1 0)) (gd (((Option.getD r1 0) < ea_n h ∧ ea_c h (Option.getD r1 0) = 0)) (if (ea_i h (Option.getD r1 0) 1) < (24 : Int32) then (if (ea_i h 24 7) = (0 : Int32) then (gd (r1 = some (Option.getD r1 0)) (gd (((Option.getD r1 0) < ea_n h ∧ ea_c h (Option.getD r1 0) = 0)) (gd (r1 = some (Option.getD r1 0)) (gd (((Option.getD r1 0) < ea_n h ∧ ea_c h (Option.getD r1 0) = 0)) (ea_let (ea_wi h (Option.getD r1 0) 1 ((ea_i h (Option.getD r1 0) 1) + (1 : Int32))) fun H17 => (Option.bind (qX6_readCharge (r1 : Option Nat) H17) fun w18 => (J134 (r1 : Option Nat) (x2 : Int32) (x4 : Int32) w18.2))))))) else (gd (r1 = some (Option.getD r1 0)) (gd (((Option.getD r1 0) < ea_n h ∧ ea_c h (Option.getD r1 0) = 0)) (gd (r1 = some (Option.getD r1 0)) (gd (((Option.getD r1 0) < ea_n h ∧ ea_c h (Option.getD r1 0) = 0)) (ea_let (ea_wi h (Option.getD r1 0) 1 ((ea_i h (Option.getD r1 0) 1) + (1 : Int32))) fun H11 => (Option.bind (qX6_readRule (r1 : Option Nat) H11) fun w12 => (J134 (r1 : Option Nat) (x2 : Int32) (x4 : Int32) w12.2)))))))) else (Option.bind (qX6_refuse (3 : Int32) h) fun w20 => (J134 (r1 : Option Nat) (x2 : Int32) (x4 : Int32) w20.2))))) else (Option.bind (qX6_refuse (1 : Int32) h) fun w22 => (J134 (r1 : Option Nat) (x2 : Int32) (x4 : Int32) w22.2))))))
theorem tBX6_read_36 {d : Nat} {h0 : ea_H} (hd : 45 ≤ d) {J134 : Option Nat → Int32 → Int32 → ea_H → Option (Int32 × ea_H)} {J162 : Int32 → Int32 → ea_H → Option (Int32 × ea_H)}  (kJ134 : ∀ (r1 : Option Nat) (x2 : Int32) (x4 : Int32) (h : ea_H) (r : Int32) (h' : ea_H), J134 r1 x2 x4 h = some (r, h') → ShC h → ea_W mX6_read d h0 (some (vI r)) h' 134 [(0, vR (some 24)), (1, vR r1), (2, vI x2), (4, vI x4)] [] h) (kJ162 : ∀ (x2 : Int32) (x3 : Int32) (h : ea_H) (r : Int32) (h' : ea_H), J162 x2 x3 h = some (r, h') → ShC h → ea_W mX6_read d h0 (some (vI r)) h' 162 [(0, vR (some 24)), (2, vI x2), (3, vI x3)] [] h) {r1 : Option Nat} {x2 : Int32} {x3 : Int32} {x4 : Int32} {h : ea_H} {r : Int32} {h' : ea_H} (E : BX6_read_36 J134 J162 r1 x2 x3 x4 h = some (r, h')) (hs : ShC h) : ea_W mX6_read d h0 (some (vI r)) h' 36 [(0, vR (some 24)), (1, vR r1), (2, vI x2), (3, vI x3), (4, vI x4)] [] h := by
  unfold BX6_read_36 at E
  refine ea_iload (pc := 36) dX6_read_36 4 rfl ?_
  refine ea_sipush (pc := 38) dX6_read_38 (v := 600) rfl ?_
  refine ea_icmp_gt (pc := 41) (tgt := 162) dX6_read_41 rfl (fun c26 => ?_) (fun c26 => ?_)
  · have E := (if_pos c26).symm.trans E
    exact ea_fewer [0, 2, 3] rfl (kJ162 (x2 : Int32) (x3 : Int32) h _ _ E hs)
  · have E := (if_neg c26).symm.trans E
    refine ea_iload_n (pc := 44) dX6_read_44 rfl 3 rfl ?_
    refine ea_if_eq (pc := 45) (tgt := 162) dX6_read_45 rfl (fun c25 => ?_) (fun c25 => ?_)
    · have E := (if_pos c25).symm.trans E
      exact ea_fewer [0, 2, 3] rfl (kJ162 (x2 : Int32) (x3 : Int32) h _ _ E hs)
    · have E := (if_neg c25).symm.trans E
      refine ea_aload_n (pc := 48) dX6_read_48 rfl 0 rfl ?_
      refine ea_getI (pc := 49) dX6_read_49 ec_6 (k := 7) (Nat.le_of_ble_eq_true rfl) rfl (Or.inl ew_304) (cShC_24 hs).1 (cShC_24 hs).2.1 ?_
      refine ea_bipush (pc := 52) dX6_read_52 (v := 19) rfl ?_
      refine ea_icmp_eq (pc := 54) (tgt := 162) dX6_read_54 rfl (fun c24 => ?_) (fun c24 => ?_)
      · have E := (if_pos c24).symm.trans E
        exact ea_fewer [0, 2, 3] rfl (kJ162 (x2 : Int32) (x3 : Int32) h _ _ E hs)
      · have E := (if_neg c24).symm.trans E
        refine ea_aload_n (pc := 57) dX6_read_57 rfl 0 rfl ?_
        refine ea_getI (pc := 58) dX6_read_58 ec_6 (k := 7) (Nat.le_of_ble_eq_true rfl) rfl (Or.inl ew_304) (cShC_24 hs).1 (cShC_24 hs).2.1 ?_
        refine ea_iconst (pc := 61) dX6_read_61 (v := 5) rfl ?_
        refine ea_icmp_le (pc := 62) (tgt := 74) dX6_read_62 rfl (fun c23 => ?_) (fun c23 => ?_)
        · have E := (if_pos c23).symm.trans E
          obtain ⟨e5, E⟩ := gd_some E
          refine ea_aload_n (pc := 74) dX6_read_74 rfl 1 rfl ?_
          obtain ⟨f6, E⟩ := gd_some E
          refine ea_deref0 e5 ?_
          refine ea_getI (pc := 75) dX6_read_75 ec_0 (k := 1) (Nat.le_of_ble_eq_true rfl) rfl (Or.inl ew_338) f6.1 f6.2 ?_
          refine ea_bipush (pc := 78) dX6_read_78 (v := 24) rfl ?_
          refine ea_icmp_lt (pc := 80) (tgt := 92) dX6_read_80 rfl (fun c21 => ?_) (fun c21 => ?_)
          · have E := (if_pos c21).symm.trans E
            refine ea_aload_n (pc := 92) dX6_read_92 rfl 0 rfl ?_
            refine ea_getI (pc := 93) dX6_read_93 ec_6 (k := 7) (Nat.le_of_ble_eq_true rfl) rfl (Or.inl ew_304) (cShC_24 hs).1 (cShC_24 hs).2.1 ?_
            refine ea_if_ne (pc := 96) (tgt := 118) dX6_read_96 rfl (fun c19 => ?_) (fun c19 => ?_)
            · have E := (if_neg c19).symm.trans E
              obtain ⟨e7, E⟩ := gd_some E
              refine ea_aload_n (pc := 118) dX6_read_118 rfl 1 rfl ?_
              refine ea_dup (pc := 119) dX6_read_119 rfl ?_
              obtain ⟨f8, E⟩ := gd_some E
              obtain ⟨e9, E⟩ := gd_some E
              refine ea_deref0 e7 ?_
              refine ea_getI (pc := 120) dX6_read_120 ec_0 (k := 1) (Nat.le_of_ble_eq_true rfl) rfl (Or.inl ew_338) f8.1 f8.2 ?_
              refine ea_iconst (pc := 123) dX6_read_123 (v := 1) rfl ?_
              refine ea_iadd (pc := 124) dX6_read_124 ?_
              obtain ⟨f10, E⟩ := gd_some E
              obtain ⟨H11, eH11, E⟩ := let_some E
              refine ea_deref1 e9 ?_
              refine ea_putI (pc := 125) dX6_read_125 ec_0 (k := 1) (Nat.le_of_ble_eq_true rfl) rfl (Or.inl ⟨rfl, Or.inl ew_338⟩) rfl rfl f10.1 f10.2 ?_
              refine ea_nm eH11 ?_
              have hsH11 : ShC H11 := by rw [eH11]; exact hs
              obtain ⟨w12, Ew12, E⟩ := bd_some E
              have hsw12 : ShC w12.2 := ShC_core ((kpX6_readRule _ _) _ Ew12) hsH11
              refine ea_aload_n (pc := 128) dX6_read_128 rfl 0 rfl ?_
              refine ea_aload_n (pc := 129) dX6_read_129 rfl 1 rfl ?_
              refine ea_callV (pc := 130) (d' := d - 1) (As := [vR r1]) (st := []) dX6_read_130 kX6_readRule (sX6_readRule (d := d - 1) (by omega) hsH11 Ew12) (by omega) rfl (Nat.le_of_ble_eq_true rfl) ew_1033 ew_1035 ew_30 (ci := 6) rfl (by decide) (cShC_24 hsH11).1 (cShC_24 hsH11).2.1 ?_
              refine ea_pop (pc := 133) dX6_read_133 rfl ?_
              exact ea_fewer [0, 1, 2, 4] rfl (kJ134 (r1 : Option Nat) (x2 : Int32) (x4 : Int32) w12.2 _ _ E hsw12)
            · have E := (if_pos c19).symm.trans E
              obtain ⟨e13, E⟩ := gd_some E
              refine ea_aload_n (pc := 99) dX6_read_99 rfl 1 rfl ?_
              refine ea_dup (pc := 100) dX6_read_100 rfl ?_
              obtain ⟨f14, E⟩ := gd_some E
              obtain ⟨e15, E⟩ := gd_some E
              refine ea_deref0 e13 ?_
              refine ea_getI (pc := 101) dX6_read_101 ec_0 (k := 1) (Nat.le_of_ble_eq_true rfl) rfl (Or.inl ew_338) f14.1 f14.2 ?_
              refine ea_iconst (pc := 104) dX6_read_104 (v := 1) rfl ?_
              refine ea_iadd (pc := 105) dX6_read_105 ?_
              obtain ⟨f16, E⟩ := gd_some E
              obtain ⟨H17, eH17, E⟩ := let_some E
              refine ea_deref1 e15 ?_
              refine ea_putI (pc := 106) dX6_read_106 ec_0 (k := 1) (Nat.le_of_ble_eq_true rfl) rfl (Or.inl ⟨rfl, Or.inl ew_338⟩) rfl rfl f16.1 f16.2 ?_
              refine ea_nm eH17 ?_
              have hsH17 : ShC H17 := by rw [eH17]; exact hs
              obtain ⟨w18, Ew18, E⟩ := bd_some E
              have hsw18 : ShC w18.2 := ShC_core ((kpX6_readCharge _ _) _ Ew18) hsH17
              refine ea_aload_n (pc := 109) dX6_read_109 rfl 0 rfl ?_
              refine ea_aload_n (pc := 110) dX6_read_110 rfl 1 rfl ?_
              refine ea_callV (pc := 111) (d' := d - 1) (As := [vR r1]) (st := []) dX6_read_111 kX6_readCharge (sX6_readCharge (d := d - 1) (by omega) hsH17 Ew18) (by omega) rfl (Nat.le_of_ble_eq_true rfl) ew_992 ew_994 ew_20 (ci := 6) rfl (by decide) (cShC_24 hsH17).1 (cShC_24 hsH17).2.1 ?_
              refine ea_pop (pc := 114) dX6_read_114 rfl ?_
              refine ea_goto (pc := 115) (tgt := 134) dX6_read_115 rfl ?_
              exact ea_fewer [0, 1, 2, 4] rfl (kJ134 (r1 : Option Nat) (x2 : Int32) (x4 : Int32) w18.2 _ _ E hsw18)
          · have E := (if_neg c21).symm.trans E
            obtain ⟨w20, Ew20, E⟩ := bd_some E
            have hsw20 : ShC w20.2 := ShC_core ((kpX6_refuse _ _) _ Ew20) hs
            refine ea_aload_n (pc := 83) dX6_read_83 rfl 0 rfl ?_
            refine ea_iconst (pc := 84) dX6_read_84 (v := 3) rfl ?_
            refine ea_callV (pc := 85) (d' := d - 1) (As := [vI 3]) (st := []) dX6_read_85 kX6_refuse (sX6_refuse (d := d - 1) (by omega) hs Ew20) (by omega) rfl (Nat.le_of_ble_eq_true rfl) ew_988 ew_990 ew_19 (ci := 6) rfl (by decide) (cShC_24 hs).1 (cShC_24 hs).2.1 ?_
            refine ea_pop (pc := 88) dX6_read_88 rfl ?_
            refine ea_goto (pc := 89) (tgt := 134) dX6_read_89 rfl ?_
            exact ea_fewer [0, 1, 2, 4] rfl (kJ134 (r1 : Option Nat) (x2 : Int32) (x4 : Int32) w20.2 _ _ E hsw20)
        · have E := (if_neg c23).symm.trans E
          obtain ⟨w22, Ew22, E⟩ := bd_some E
          have hsw22 : ShC w22.2 := ShC_core ((kpX6_refuse _ _) _ Ew22) hs
          refine ea_aload_n (pc := 65) dX6_read_65 rfl 0 rfl ?_
          refine ea_iconst (pc := 66) dX6_read_66 (v := 1) rfl ?_
          refine ea_callV (pc := 67) (d' := d - 1) (As := [vI 1]) (st := []) dX6_read_67 kX6_refuse (sX6_refuse (d := d - 1) (by omega) hs Ew22) (by omega) rfl (Nat.le_of_ble_eq_true rfl) ew_988 ew_990 ew_19 (ci := 6) rfl (by decide) (cShC_24 hs).1 (cShC_24 hs).2.1 ?_
          refine ea_pop (pc := 70) dX6_read_70 rfl ?_
          refine ea_goto (pc := 71) (tgt := 134) dX6_read_71 rfl ?_
          exact ea_fewer [0, 1, 2, 4] rfl (kJ134 (r1 : Option Nat) (x2 : Int32) (x4 : Int32) w22.2 _ _ E hsw22)
theorem kBX6_read_36 {J134 : Option Nat → Int32 → Int32 → ea_H → Option (Int32 × ea_H)} {J162 : Int32 → Int32 → ea_H → Option (Int32 × ea_H)}  (cJ134 : ∀ (r1 : Option Nat) (x2 : Int32) (x4 : Int32) (h : ea_H), kp (ea_core h) (J134 r1 x2 x4 h)) (cJ162 : ∀ (x2 : Int32) (x3 : Int32) (h : ea_H), kp (ea_core h) (J162 x2 x3 h)) {r1 : Option Nat} {x2 : Int32} {x3 : Int32} {x4 : Int32} {h : ea_H} : kp (ea_core h) (BX6_read_36 J134 J162 r1 x2 x3 x4 h) :=
  (kp_ite (kp_tw (cJ162 _ _ _) rfl) (kp_ite (kp_tw (cJ162 _ _ _) rfl) (kp_ite (kp_tw (cJ162 _ _ _) rfl) (kp_ite (kp_gd (kp_gd (kp_ite (kp_ite (kp_gd (kp_gd (kp_gd (kp_gd (kp_let (kp_bind (kp_tw (kpX6_readCharge _ _) rfl) fun w18 hcw18 => (kp_tw (cJ134 _ _ _ _) hcw18))))))) (kp_gd (kp_gd (kp_gd (kp_gd (kp_let (kp_bind (kp_tw (kpX6_readRule _ _) rfl) fun w12 hcw12 => (kp_tw (cJ134 _ _ _ _) hcw12)))))))) (kp_bind (kp_tw (kpX6_refuse _ _) rfl) fun w20 hcw20 => (kp_tw (cJ134 _ _ _ _) hcw20))))) (kp_bind (kp_tw (kpX6_refuse _ _) rfl) fun w22 hcw22 => (kp_tw (cJ134 _ _ _ _) hcw22))))))
theorem lBX6_read_36 {J134 : Option Nat → Int32 → Int32 → ea_H → Option (Int32 × ea_H)} {J162 : Int32 → Int32 → ea_H → Option (Int32 × ea_H)} {J134_ : Option Nat → Int32 → Int32 → ea_H → Option (Int32 × ea_H)} {J162_ : Int32 → Int32 → ea_H → Option (Int32 × ea_H)}  (mJ134 : ∀ (r1 : Option Nat) (x2 : Int32) (x4 : Int32) (h : ea_H), fle (J134 r1 x2 x4 h) (J134_ r1 x2 x4 h)) (mJ162 : ∀ (x2 : Int32) (x3 : Int32) (h : ea_H), fle (J162 x2 x3 h) (J162_ x2 x3 h)) {r1 : Option Nat} {x2 : Int32} {x3 : Int32} {x4 : Int32} {h : ea_H} : fle (BX6_read_36 J134 J162 r1 x2 x3 x4 h) (BX6_read_36 J134_ J162_ r1 x2 x3 x4 h) :=
  (fle_ite (mJ162 _ _ _) (fle_ite (mJ162 _ _ _) (fle_ite (mJ162 _ _ _) (fle_ite (fle_gd (fle_gd (fle_ite (fle_ite (fle_gd (fle_gd (fle_gd (fle_gd (fle_let fun _ => (fle_bind (fle_rfl _) fun _ => (mJ134 _ _ _ _))))))) (fle_gd (fle_gd (fle_gd (fle_gd (fle_let fun _ => (fle_bind (fle_rfl _) fun _ => (mJ134 _ _ _ _)))))))) (fle_bind (fle_rfl _) fun _ => (mJ134 _ _ _ _))))) (fle_bind (fle_rfl _) fun _ => (mJ134 _ _ _ _))))))
theorem nBX6_read_36 {J134 : Option Nat → Int32 → Int32 → ea_H → Option (Int32 × ea_H)} {J162 : Int32 → Int32 → ea_H → Option (Int32 × ea_H)} {J134_ : Nat → (Option Nat → Int32 → Int32 → ea_H → Option (Int32 × ea_H))} {J162_ : Nat → (Int32 → Int32 → ea_H → Option (Int32 × ea_H))}  (mJ134 : ∀ (r1 : Option Nat) (x2 : Int32) (x4 : Int32) (h : ea_H), fct (J134 r1 x2 x4 h) (fun f => J134_ f r1 x2 x4 h)) (mJ162 : ∀ (x2 : Int32) (x3 : Int32) (h : ea_H), fct (J162 x2 x3 h) (fun f => J162_ f x2 x3 h)) {r1 : Option Nat} {x2 : Int32} {x3 : Int32} {x4 : Int32} {h : ea_H} : fct (BX6_read_36 J134 J162 r1 x2 x3 x4 h) (fun f => BX6_read_36 (J134_ f) (J162_ f) r1 x2 x3 x4 h) :=
  (fct_ite (mJ162 _ _ _) (fct_ite (mJ162 _ _ _) (fct_ite (mJ162 _ _ _) (fct_ite (fct_gd (fct_gd (fct_ite (fct_ite (fct_gd (fct_gd (fct_gd (fct_gd (fct_let fun _ => (fct_bind (fct_rfl _) fun _ => (mJ134 _ _ _ _))))))) (fct_gd (fct_gd (fct_gd (fct_gd (fct_let fun _ => (fct_bind (fct_rfl _) fun _ => (mJ134 _ _ _ _)))))))) (fct_bind (fct_rfl _) fun _ => (mJ134 _ _ _ _))))) (fct_bind (fct_rfl _) fun _ => (mJ134 _ _ _ _))))))
noncomputable def BX6_read_134 (J36 : Option Nat → Int32 → Int32 → Int32 → ea_H → Option (Int32 × ea_H)) (r1 : Option Nat) (x2 : Int32) (x4 : Int32) (h : ea_H) : Option (Int32 × ea_H) :=
  (if (ea_i h 24 1) = (0 : Int32) then (Option.bind (qX6_skip (59 : Int32) h) fun w27 => (if w27.1 = (0 : Int32) then (J36 (r1 : Option Nat) (x2 : Int32) (0 : Int32) ((x4 + (1 : Int32)) : Int32) w27.2) else (J36 (r1 : Option Nat) (x2 : Int32) (1 : Int32) ((x4 + (1 : Int32)) : Int32) w27.2))) else (J36 (r1 : Option Nat) (x2 : Int32) (0 : Int32) ((x4 + (1 : Int32)) : Int32) h))
theorem tBX6_read_134 {d : Nat} {h0 : ea_H} (hd : 45 ≤ d) {J36 : Option Nat → Int32 → Int32 → Int32 → ea_H → Option (Int32 × ea_H)}  (kJ36 : ∀ (r1 : Option Nat) (x2 : Int32) (x3 : Int32) (x4 : Int32) (h : ea_H) (r : Int32) (h' : ea_H), J36 r1 x2 x3 x4 h = some (r, h') → ShC h → ea_W mX6_read d h0 (some (vI r)) h' 36 [(0, vR (some 24)), (1, vR r1), (2, vI x2), (3, vI x3), (4, vI x4)] [] h) {r1 : Option Nat} {x2 : Int32} {x4 : Int32} {h : ea_H} {r : Int32} {h' : ea_H} (E : BX6_read_134 J36 r1 x2 x4 h = some (r, h')) (hs : ShC h) : ea_W mX6_read d h0 (some (vI r)) h' 134 [(0, vR (some 24)), (1, vR r1), (2, vI x2), (4, vI x4)] [] h := by
  unfold BX6_read_134 at E
  refine ea_aload_n (pc := 134) dX6_read_134 rfl 0 rfl ?_
  refine ea_getI (pc := 135) dX6_read_135 ec_6 (k := 1) (Nat.le_of_ble_eq_true rfl) rfl (Or.inl ew_296) (cShC_24 hs).1 (cShC_24 hs).2.1 ?_
  refine ea_if_ne (pc := 138) (tgt := 154) dX6_read_138 rfl (fun c29 => ?_) (fun c29 => ?_)
  · have E := (if_neg c29).symm.trans E
    refine ea_iconst (pc := 154) dX6_read_154 (v := 0) rfl ?_
    refine ea_istore_n (pc := 155) (lv' := [(0, vR (some 24)), (1, vR r1), (2, vI x2), (3, vI 0), (4, vI x4)]) dX6_read_155 rfl (Nat.le_of_ble_eq_true rfl) [1, 2, 3, 0, 4] rfl ?_
    refine ea_iinc (pc := 156) (v := 1) (lv' := [(0, vR (some 24)), (1, vR r1), (2, vI x2), (3, vI 0), (4, vI (x4 + (1 : Int32)))]) dX6_read_156 4 rfl rfl (Nat.le_of_ble_eq_true rfl) [1, 2, 3, 4, 0] rfl ?_
    refine ea_goto (pc := 159) (tgt := 36) dX6_read_159 rfl ?_
    exact (kJ36 (r1 : Option Nat) (x2 : Int32) (0 : Int32) ((x4 + (1 : Int32)) : Int32) h _ _ E hs)
  · have E := (if_pos c29).symm.trans E
    obtain ⟨w27, Ew27, E⟩ := bd_some E
    have hsw27 : ShC w27.2 := ShC_core ((kpX6_skip _ _) _ Ew27) hs
    refine ea_aload_n (pc := 141) dX6_read_141 rfl 0 rfl ?_
    refine ea_bipush (pc := 142) dX6_read_142 (v := 59) rfl ?_
    refine ea_callV (pc := 144) (d' := d - 1) (As := [vI 59]) (st := []) dX6_read_144 kX6_skip (sX6_skip (d := d - 1) (by omega) hs Ew27) (by omega) rfl (Nat.le_of_ble_eq_true rfl) ew_1041 ew_1043 ew_32 (ci := 6) rfl (by decide) (cShC_24 hs).1 (cShC_24 hs).2.1 ?_
    refine ea_if_eq (pc := 147) (tgt := 154) dX6_read_147 rfl (fun c28 => ?_) (fun c28 => ?_)
    · have E := (if_pos c28).symm.trans E
      refine ea_iconst (pc := 154) dX6_read_154 (v := 0) rfl ?_
      refine ea_istore_n (pc := 155) (lv' := [(0, vR (some 24)), (1, vR r1), (2, vI x2), (3, vI 0), (4, vI x4)]) dX6_read_155 rfl (Nat.le_of_ble_eq_true rfl) [1, 2, 3, 0, 4] rfl ?_
      refine ea_iinc (pc := 156) (v := 1) (lv' := [(0, vR (some 24)), (1, vR r1), (2, vI x2), (3, vI 0), (4, vI (x4 + (1 : Int32)))]) dX6_read_156 4 rfl rfl (Nat.le_of_ble_eq_true rfl) [1, 2, 3, 4, 0] rfl ?_
      refine ea_goto (pc := 159) (tgt := 36) dX6_read_159 rfl ?_
      exact (kJ36 (r1 : Option Nat) (x2 : Int32) (0 : Int32) ((x4 + (1 : Int32)) : Int32) w27.2 _ _ E hsw27)
    · have E := (if_neg c28).symm.trans E
      refine ea_iconst (pc := 150) dX6_read_150 (v := 1) rfl ?_
      refine ea_goto (pc := 151) (tgt := 155) dX6_read_151 rfl ?_
      refine ea_istore_n (pc := 155) (lv' := [(0, vR (some 24)), (1, vR r1), (2, vI x2), (3, vI 1), (4, vI x4)]) dX6_read_155 rfl (Nat.le_of_ble_eq_true rfl) [1, 2, 3, 0, 4] rfl ?_
      refine ea_iinc (pc := 156) (v := 1) (lv' := [(0, vR (some 24)), (1, vR r1), (2, vI x2), (3, vI 1), (4, vI (x4 + (1 : Int32)))]) dX6_read_156 4 rfl rfl (Nat.le_of_ble_eq_true rfl) [1, 2, 3, 4, 0] rfl ?_
      refine ea_goto (pc := 159) (tgt := 36) dX6_read_159 rfl ?_
      exact (kJ36 (r1 : Option Nat) (x2 : Int32) (1 : Int32) ((x4 + (1 : Int32)) : Int32) w27.2 _ _ E hsw27)
theorem kBX6_read_134 {J36 : Option Nat → Int32 → Int32 → Int32 → ea_H → Option (Int32 × ea_H)}  (cJ36 : ∀ (r1 : Option Nat) (x2 : Int32) (x3 : Int32) (x4 : Int32) (h : ea_H), kp (ea_core h) (J36 r1 x2 x3 x4 h)) {r1 : Option Nat} {x2 : Int32} {x4 : Int32} {h : ea_H} : kp (ea_core h) (BX6_read_134 J36 r1 x2 x4 h) :=
  (kp_ite (kp_bind (kp_tw (kpX6_skip _ _) rfl) fun w27 hcw27 => (kp_ite (kp_tw (cJ36 _ _ _ _ _) hcw27) (kp_tw (cJ36 _ _ _ _ _) hcw27))) (kp_tw (cJ36 _ _ _ _ _) rfl))
theorem lBX6_read_134 {J36 : Option Nat → Int32 → Int32 → Int32 → ea_H → Option (Int32 × ea_H)} {J36_ : Option Nat → Int32 → Int32 → Int32 → ea_H → Option (Int32 × ea_H)}  (mJ36 : ∀ (r1 : Option Nat) (x2 : Int32) (x3 : Int32) (x4 : Int32) (h : ea_H), fle (J36 r1 x2 x3 x4 h) (J36_ r1 x2 x3 x4 h)) {r1 : Option Nat} {x2 : Int32} {x4 : Int32} {h : ea_H} : fle (BX6_read_134 J36 r1 x2 x4 h) (BX6_read_134 J36_ r1 x2 x4 h) :=
  (fle_ite (fle_bind (fle_rfl _) fun _ => (fle_ite (mJ36 _ _ _ _ _) (mJ36 _ _ _ _ _))) (mJ36 _ _ _ _ _))
theorem nBX6_read_134 {J36 : Option Nat → Int32 → Int32 → Int32 → ea_H → Option (Int32 × ea_H)} {J36_ : Nat → (Option Nat → Int32 → Int32 → Int32 → ea_H → Option (Int32 × ea_H))}  (mJ36 : ∀ (r1 : Option Nat) (x2 : Int32) (x3 : Int32) (x4 : Int32) (h : ea_H), fct (J36 r1 x2 x3 x4 h) (fun f => J36_ f r1 x2 x3 x4 h)) {r1 : Option Nat} {x2 : Int32} {x4 : Int32} {h : ea_H} : fct (BX6_read_134 J36 r1 x2 x4 h) (fun f => BX6_read_134 (J36_ f) r1 x2 x4 h) :=
  (fct_ite (fct_bind (fct_rfl _) fun _ => (fct_ite (mJ36 _ _ _ _ _) (mJ36 _ _ _ _ _))) (mJ36 _ _ _ _ _))
noncomputable def BX6_read_162 (x2 : Int32) (x3 : Int32) (h : ea_H) : Option (Int32 × ea_H) :=
  (if x3 = (0 : Int32) then (ea_let (ea_wi h 24 9 x2) fun H31 => (gd ((x3 = 0 ∨ x3 = 1)) (some (x3, H31)))) else (gd ((x3 = 0 ∨ x3 = 1)) (some (x3, h))))
theorem tBX6_read_162 {d : Nat} {h0 : ea_H} (hd : 45 ≤ d)  {x2 : Int32} {x3 : Int32} {h : ea_H} {r : Int32} {h' : ea_H} (E : BX6_read_162 x2 x3 h = some (r, h')) (hs : ShC h) : ea_W mX6_read d h0 (some (vI r)) h' 162 [(0, vR (some 24)), (2, vI x2), (3, vI x3)] [] h := by
  unfold BX6_read_162 at E
  refine ea_iload_n (pc := 162) dX6_read_162 rfl 2 rfl ?_
  refine ea_if_ne (pc := 163) (tgt := 171) dX6_read_163 rfl (fun c33 => ?_) (fun c33 => ?_)
  · have E := (if_neg c33).symm.trans E
    obtain ⟨z30, E⟩ := gd_some E
    refine ea_iload_n (pc := 171) dX6_read_171 rfl 2 rfl ?_
    exact ea_iretO (pc := 172) dX6_read_172 rfl (ea_bn z30) E
  · have E := (if_pos c33).symm.trans E
    obtain ⟨H31, eH31, E⟩ := let_some E
    refine ea_aload_n (pc := 166) dX6_read_166 rfl 0 rfl ?_
    refine ea_iload_n (pc := 167) dX6_read_167 rfl 1 rfl ?_
    refine ea_putI (pc := 168) dX6_read_168 ec_6 (k := 9) (Nat.le_of_ble_eq_true rfl) rfl (Or.inl ⟨rfl, Or.inl ew_306⟩) rfl rfl (cShC_24 hs).1 (cShC_24 hs).2.1 ?_
    refine ea_nm eH31 ?_
    have hsH31 : ShC H31 := by rw [eH31]; exact hs
    obtain ⟨z32, E⟩ := gd_some E
    refine ea_iload_n (pc := 171) dX6_read_171 rfl 2 rfl ?_
    exact ea_iretO (pc := 172) dX6_read_172 rfl (ea_bn z32) E
theorem kBX6_read_162  {x2 : Int32} {x3 : Int32} {h : ea_H} : kp (ea_core h) (BX6_read_162 x2 x3 h) :=
  (kp_ite (kp_let (kp_gd (kp_ret rfl))) (kp_gd (kp_ret rfl)))
theorem lBX6_read_162  {x2 : Int32} {x3 : Int32} {h : ea_H} : fle (BX6_read_162 x2 x3 h) (BX6_read_162 x2 x3 h) :=
  (fle_rfl _)
theorem nBX6_read_162  {x2 : Int32} {x3 : Int32} {h : ea_H} : fct (BX6_read_162 x2 x3 h) (fun f => BX6_read_162 x2 x3 h) :=
  (fct_rfl _)
noncomputable def gX6_read : Nat → (Option Nat → ea_H → Option (Int32 × ea_H)) × (Option Nat → Int32 → Int32 → Int32 → ea_H → Option (Int32 × ea_H)) × (Option Nat → Int32 → Int32 → ea_H → Option (Int32 × ea_H)) × (Int32 → Int32 → ea_H → Option (Int32 × ea_H))
  | 0 => (fun _ _ => none, fun _ _ _ _ _ => none, fun _ _ _ _ => none, fun _ _ _ => none)
  | f + 1 => (BX6_read_0 (gX6_read f).2.1, BX6_read_36 (gX6_read f).2.2.1 (gX6_read f).2.2.2, BX6_read_134 (gX6_read f).2.1, BX6_read_162)
theorem mgX6_read : ∀ f : Nat, (∀ (r1 : Option Nat) (h : ea_H), fle ((gX6_read f).1 r1 h) ((gX6_read (f + 1)).1 r1 h)) ∧ (∀ (r1 : Option Nat) (x2 : Int32) (x3 : Int32) (x4 : Int32) (h : ea_H), fle ((gX6_read f).2.1 r1 x2 x3 x4 h) ((gX6_read (f + 1)).2.1 r1 x2 x3 x4 h)) ∧ (∀ (r1 : Option Nat) (x2 : Int32) (x4 : Int32) (h : ea_H), fle ((gX6_read f).2.2.1 r1 x2 x4 h) ((gX6_read (f + 1)).2.2.1 r1 x2 x4 h)) ∧ (∀ (x2 : Int32) (x3 : Int32) (h : ea_H), fle ((gX6_read f).2.2.2 x2 x3 h) ((gX6_read (f + 1)).2.2.2 x2 x3 h)) := by
  intro f
  induction f with
  | zero => exact ⟨fun _ _ => fle_none _, fun _ _ _ _ _ => fle_none _, fun _ _ _ _ => fle_none _, fun _ _ _ => fle_none _⟩
  | succ f ih => exact ⟨fun _ _ => lBX6_read_0 ih.2.1, fun _ _ _ _ _ => lBX6_read_36 ih.2.2.1 ih.2.2.2, fun _ _ _ _ => lBX6_read_134 ih.2.1, fun _ _ _ => lBX6_read_162⟩
noncomputable def qX6_read_0 (r1 : Option Nat) (h : ea_H) : Option (Int32 × ea_H) := flim fun f => (gX6_read f).1 r1 h
noncomputable def qX6_read_36 (r1 : Option Nat) (x2 : Int32) (x3 : Int32) (x4 : Int32) (h : ea_H) : Option (Int32 × ea_H) := flim fun f => (gX6_read f).2.1 r1 x2 x3 x4 h
noncomputable def qX6_read_134 (r1 : Option Nat) (x2 : Int32) (x4 : Int32) (h : ea_H) : Option (Int32 × ea_H) := flim fun f => (gX6_read f).2.2.1 r1 x2 x4 h
noncomputable def qX6_read_162 (x2 : Int32) (x3 : Int32) (h : ea_H) : Option (Int32 × ea_H) := flim fun f => (gX6_read f).2.2.2 x2 x3 h
theorem fqX6_read_0 (r1 : Option Nat) (h : ea_H) : fct (qX6_read_0 r1 h) fun f => (gX6_read f).1 r1 h := flim_ct fun f => (mgX6_read f).1 r1 h
theorem fqX6_read_36 (r1 : Option Nat) (x2 : Int32) (x3 : Int32) (x4 : Int32) (h : ea_H) : fct (qX6_read_36 r1 x2 x3 x4 h) fun f => (gX6_read f).2.1 r1 x2 x3 x4 h := flim_ct fun f => (mgX6_read f).2.1 r1 x2 x3 x4 h
theorem fqX6_read_134 (r1 : Option Nat) (x2 : Int32) (x4 : Int32) (h : ea_H) : fct (qX6_read_134 r1 x2 x4 h) fun f => (gX6_read f).2.2.1 r1 x2 x4 h := flim_ct fun f => (mgX6_read f).2.2.1 r1 x2 x4 h
theorem fqX6_read_162 (x2 : Int32) (x3 : Int32) (h : ea_H) : fct (qX6_read_162 x2 x3 h) fun f => (gX6_read f).2.2.2 x2 x3 h := flim_ct fun f => (mgX6_read f).2.2.2 x2 x3 h
/-- how a block opens -/
theorem uqX6_read_0 {r1 : Option Nat} {h : ea_H} {P : Int32 × ea_H → Prop} (H : sat (BX6_read_0 qX6_read_36 r1 h) P) : sat (qX6_read_0 r1 h) P := by
  obtain ⟨x, e, hp⟩ := H
  obtain ⟨n, hn⟩ := nBX6_read_0 fqX6_read_36 x e
  exact ⟨x, flim_at (fun f => (mgX6_read f).1 r1 h) (f := n + 1) (hn n (Nat.le_refl _)), hp⟩
/-- how a block opens -/
theorem uqX6_read_36 {r1 : Option Nat} {x2 : Int32} {x3 : Int32} {x4 : Int32} {h : ea_H} {P : Int32 × ea_H → Prop} (H : sat (BX6_read_36 qX6_read_134 qX6_read_162 r1 x2 x3 x4 h) P) : sat (qX6_read_36 r1 x2 x3 x4 h) P := by
  obtain ⟨x, e, hp⟩ := H
  obtain ⟨n, hn⟩ := nBX6_read_36 fqX6_read_134 fqX6_read_162 x e
  exact ⟨x, flim_at (fun f => (mgX6_read f).2.1 r1 x2 x3 x4 h) (f := n + 1) (hn n (Nat.le_refl _)), hp⟩
/-- how a block opens -/
theorem uqX6_read_134 {r1 : Option Nat} {x2 : Int32} {x4 : Int32} {h : ea_H} {P : Int32 × ea_H → Prop} (H : sat (BX6_read_134 qX6_read_36 r1 x2 x4 h) P) : sat (qX6_read_134 r1 x2 x4 h) P := by
  obtain ⟨x, e, hp⟩ := H
  obtain ⟨n, hn⟩ := nBX6_read_134 fqX6_read_36 x e
  exact ⟨x, flim_at (fun f => (mgX6_read f).2.2.1 r1 x2 x4 h) (f := n + 1) (hn n (Nat.le_refl _)), hp⟩
/-- how a block opens -/
theorem uqX6_read_162 {x2 : Int32} {x3 : Int32} {h : ea_H} {P : Int32 × ea_H → Prop} (H : sat (BX6_read_162 x2 x3 h) P) : sat (qX6_read_162 x2 x3 h) P := by
  obtain ⟨x, e, hp⟩ := H
  obtain ⟨n, hn⟩ := nBX6_read_162 x e
  exact ⟨x, flim_at (fun f => (mgX6_read f).2.2.2 x2 x3 h) (f := n + 1) (hn n (Nat.le_refl _)), hp⟩
theorem kgX6_read : ∀ f : Nat, (∀ (r1 : Option Nat) (h : ea_H), kp (ea_core h) ((gX6_read f).1 r1 h)) ∧ (∀ (r1 : Option Nat) (x2 : Int32) (x3 : Int32) (x4 : Int32) (h : ea_H), kp (ea_core h) ((gX6_read f).2.1 r1 x2 x3 x4 h)) ∧ (∀ (r1 : Option Nat) (x2 : Int32) (x4 : Int32) (h : ea_H), kp (ea_core h) ((gX6_read f).2.2.1 r1 x2 x4 h)) ∧ (∀ (x2 : Int32) (x3 : Int32) (h : ea_H), kp (ea_core h) ((gX6_read f).2.2.2 x2 x3 h)) := by
  intro f
  induction f with
  | zero => exact ⟨fun _ _ => kp_none _, fun _ _ _ _ _ => kp_none _, fun _ _ _ _ => kp_none _, fun _ _ _ => kp_none _⟩
  | succ f ih => exact ⟨fun _ _ => kBX6_read_0 ih.2.1, fun _ _ _ _ _ => kBX6_read_36 ih.2.2.1 ih.2.2.2, fun _ _ _ _ => kBX6_read_134 ih.2.1, fun _ _ _ => kBX6_read_162⟩
theorem tgX6_read {d : Nat} {h0 : ea_H} (hd : 45 ≤ d) : ∀ f : Nat, (∀ (r1 : Option Nat) (h : ea_H) (r : Int32) (h' : ea_H), (gX6_read f).1 r1 h = some (r, h') → ShC h → ea_W mX6_read d h0 (some (vI r)) h' 0 [(0, vR (some 24)), (1, vR r1)] [] h) ∧ (∀ (r1 : Option Nat) (x2 : Int32) (x3 : Int32) (x4 : Int32) (h : ea_H) (r : Int32) (h' : ea_H), (gX6_read f).2.1 r1 x2 x3 x4 h = some (r, h') → ShC h → ea_W mX6_read d h0 (some (vI r)) h' 36 [(0, vR (some 24)), (1, vR r1), (2, vI x2), (3, vI x3), (4, vI x4)] [] h) ∧ (∀ (r1 : Option Nat) (x2 : Int32) (x4 : Int32) (h : ea_H) (r : Int32) (h' : ea_H), (gX6_read f).2.2.1 r1 x2 x4 h = some (r, h') → ShC h → ea_W mX6_read d h0 (some (vI r)) h' 134 [(0, vR (some 24)), (1, vR r1), (2, vI x2), (4, vI x4)] [] h) ∧ (∀ (x2 : Int32) (x3 : Int32) (h : ea_H) (r : Int32) (h' : ea_H), (gX6_read f).2.2.2 x2 x3 h = some (r, h') → ShC h → ea_W mX6_read d h0 (some (vI r)) h' 162 [(0, vR (some 24)), (2, vI x2), (3, vI x3)] [] h) := by
  intro f
  induction f with
  | zero => exact ⟨fun _ _ _ _ E => no_some E, fun _ _ _ _ _ _ _ E => no_some E, fun _ _ _ _ _ _ E => no_some E, fun _ _ _ _ _ E => no_some E⟩
  | succ f ih => exact ⟨fun _ _ _ _ E hs => tBX6_read_0 hd ih.2.1 E hs, fun _ _ _ _ _ _ _ E hs => tBX6_read_36 hd ih.2.2.1 ih.2.2.2 E hs, fun _ _ _ _ _ _ E hs => tBX6_read_134 hd ih.2.1 E hs, fun _ _ _ _ _ E hs => tBX6_read_162 hd E hs⟩
noncomputable def qX6_read (r1 : Option Nat) (h : ea_H) : Option (Int32 × ea_H) := qX6_read_0 r1 h
theorem sX6_read {d : Nat} {r1 : Option Nat} {h : ea_H} {r : Int32} {h' : ea_H} (hd : 45 ≤ d) (hs : ShC h) (K : qX6_read r1 h = some (r, h')) : ea_Met mX6_read d [vR (some 24), vR r1] h (some (vI r)) h' := by
  unfold qX6_read at K
  obtain ⟨n, hn⟩ := fqX6_read_0 r1 h _ K
  have W := (tgX6_read (d := d) (h0 := h) hd n).1 r1 h _ _ (hn n (Nat.le_refl _)) hs
  exact ea_enter rfl (Nat.le_of_ble_eq_true rfl) W
theorem kpX6_read (r1 : Option Nat) (h : ea_H) : kp (ea_core h) (qX6_read r1 h) := fun x e => by
  obtain ⟨n, hn⟩ := fqX6_read_0 r1 h x e
  exact (kgX6_read n).1 r1 h x (hn n (Nat.le_refl _))
noncomputable def BX11_act_0 (x1 : Int32) (h : ea_H) : Option (Int32 × ea_H) :=
  (Option.bind (qX8_mayBegin (x1 : Int32) h) fun w1 => (if w1.1 = (0 : Int32) then (Option.bind (qX6_drop  w1.2) fun w6 => (some (((-1) : Int32), w6.2))) else (Option.bind (qX8_next (x1 : Int32) w1.2) fun w2 => (Option.bind (qX6_read (w2.1 : Option Nat) w2.2) fun w3 => (if w3.1 = (0 : Int32) then (some (((-1) : Int32), w3.2)) else (Option.bind (qX8_add  w3.2) fun w4 => (some (w4.1, w4.2))))))))
theorem tBX11_act_0 {d : Nat} {h0 : ea_H} (hd : 46 ≤ d)  {x1 : Int32} {h : ea_H} {r : Int32} {h' : ea_H} (E : BX11_act_0 x1 h = some (r, h')) (hs : ShC h) : ea_W mX11_act d h0 (some (vI r)) h' 0 [(0, vR (some 0)), (1, vI x1)] [] h := by
  unfold BX11_act_0 at E
  obtain ⟨w1, Ew1, E⟩ := bd_some E
  have hsw1 : ShC w1.2 := ShC_core ((kpX8_mayBegin _ _) _ Ew1) hs
  refine ea_aload_n (pc := 0) dX11_act_0 rfl 0 rfl ?_
  refine ea_getR (pc := 1) dX11_act_1 ec_11 (k := 4) (Nat.le_of_ble_eq_true rfl) rfl (Or.inl ew_618) (cShC_0 hs).1 (cShC_0 hs).2.1 (rShC_0_4 hs) ?_
  refine ea_iload_n (pc := 4) dX11_act_4 rfl 1 rfl ?_
  refine ea_callV (pc := 5) (d' := d - 1) (As := [vI x1]) (st := []) dX11_act_5 kX8_mayBegin (sX8_mayBegin (d := d - 1) (by omega) hs Ew1) (by omega) rfl (Nat.le_of_ble_eq_true rfl) ew_936 ew_937 ew_938 (ci := 8) rfl (by decide) (cShC_23 hs).1 (cShC_23 hs).2.1 ?_
  refine ea_if_ne (pc := 8) (tgt := 23) dX11_act_8 rfl (fun c7 => ?_) (fun c7 => ?_)
  · have E := (if_neg c7).symm.trans E
    obtain ⟨w2, Ew2, E⟩ := bd_some E
    have hsw2 : ShC w2.2 := ShC_core ((kpX8_next _ _) _ Ew2) hsw1
    refine ea_aload_n (pc := 23) dX11_act_23 rfl 0 rfl ?_
    refine ea_getR (pc := 24) dX11_act_24 ec_11 (k := 4) (Nat.le_of_ble_eq_true rfl) rfl (Or.inl ew_618) (cShC_0 hsw1).1 (cShC_0 hsw1).2.1 (rShC_0_4 hsw1) ?_
    refine ea_getR (pc := 27) dX11_act_27 ec_8 (k := 0) (Nat.le_of_ble_eq_true rfl) rfl (Or.inl ew_397) (cShC_23 hsw1).1 (cShC_23 hsw1).2.1 (rShC_23_0 hsw1) ?_
    refine ea_aload_n (pc := 30) dX11_act_30 rfl 0 rfl ?_
    refine ea_getR (pc := 31) dX11_act_31 ec_11 (k := 4) (Nat.le_of_ble_eq_true rfl) rfl (Or.inl ew_618) (cShC_0 hsw1).1 (cShC_0 hsw1).2.1 (rShC_0_4 hsw1) ?_
    refine ea_iload_n (pc := 34) dX11_act_34 rfl 1 rfl ?_
    refine ea_callV (pc := 35) (d' := d - 1) (As := [vI x1]) (st := [vR (some 24)]) dX11_act_35 kX8_next (sX8_next (d := d - 1) (by omega) hsw1 Ew2) (by omega) rfl (Nat.le_of_ble_eq_true rfl) ew_944 ew_945 ew_946 (ci := 8) rfl (by decide) (cShC_23 hsw1).1 (cShC_23 hsw1).2.1 ?_
    obtain ⟨w3, Ew3, E⟩ := bd_some E
    have hsw3 : ShC w3.2 := ShC_core ((kpX6_read _ _) _ Ew3) hsw2
    refine ea_callV (pc := 38) (d' := d - 1) (As := [vR w2.1]) (st := []) dX11_act_38 kX6_read (sX6_read (d := d - 1) (by omega) hsw2 Ew3) (by omega) rfl (Nat.le_of_ble_eq_true rfl) ew_952 ew_953 ew_954 (ci := 6) rfl (by decide) (cShC_24 hsw2).1 (cShC_24 hsw2).2.1 ?_
    refine ea_if_eq (pc := 41) (tgt := 54) dX11_act_41 rfl (fun c5 => ?_) (fun c5 => ?_)
    · have E := (if_pos c5).symm.trans E
      refine ea_iconst (pc := 54) dX11_act_54 (v := (-1)) rfl ?_
      exact ea_iretO (pc := 55) dX11_act_55 rfl rfl E
    · have E := (if_neg c5).symm.trans E
      obtain ⟨w4, Ew4, E⟩ := bd_some E
      have hsw4 : ShC w4.2 := ShC_core ((kpX8_add _) _ Ew4) hsw3
      refine ea_aload_n (pc := 44) dX11_act_44 rfl 0 rfl ?_
      refine ea_getR (pc := 45) dX11_act_45 ec_11 (k := 4) (Nat.le_of_ble_eq_true rfl) rfl (Or.inl ew_618) (cShC_0 hsw3).1 (cShC_0 hsw3).2.1 (rShC_0_4 hsw3) ?_
      refine ea_callV (pc := 48) (d' := d - 1) (As := []) (st := []) dX11_act_48 kX8_add (sX8_add (d := d - 1) (by omega) hsw3 Ew4) (by omega) rfl (Nat.le_of_ble_eq_true rfl) ew_1045 ew_1046 ew_1047 (ci := 8) rfl (by decide) (cShC_23 hsw3).1 (cShC_23 hsw3).2.1 ?_
      refine ea_goto (pc := 51) (tgt := 55) dX11_act_51 rfl ?_
      exact ea_iretO (pc := 55) dX11_act_55 rfl rfl E
  · have E := (if_pos c7).symm.trans E
    obtain ⟨w6, Ew6, E⟩ := bd_some E
    have hsw6 : ShC w6.2 := ShC_core ((kpX6_drop _) _ Ew6) hsw1
    refine ea_aload_n (pc := 11) dX11_act_11 rfl 0 rfl ?_
    refine ea_getR (pc := 12) dX11_act_12 ec_11 (k := 4) (Nat.le_of_ble_eq_true rfl) rfl (Or.inl ew_618) (cShC_0 hsw1).1 (cShC_0 hsw1).2.1 (rShC_0_4 hsw1) ?_
    refine ea_getR (pc := 15) dX11_act_15 ec_8 (k := 0) (Nat.le_of_ble_eq_true rfl) rfl (Or.inl ew_397) (cShC_23 hsw1).1 (cShC_23 hsw1).2.1 (rShC_23_0 hsw1) ?_
    refine ea_callV (pc := 18) (d' := d - 1) (As := []) (st := []) dX11_act_18 kX6_drop (sX6_drop (d := d - 1) (by omega) hsw1 Ew6) (by omega) rfl (Nat.le_of_ble_eq_true rfl) ew_940 ew_941 ew_942 (ci := 6) rfl (by decide) (cShC_24 hsw1).1 (cShC_24 hsw1).2.1 ?_
    refine ea_iconst (pc := 21) dX11_act_21 (v := (-1)) rfl ?_
    exact ea_iretO (pc := 22) dX11_act_22 rfl rfl E
theorem kBX11_act_0  {x1 : Int32} {h : ea_H} : kp (ea_core h) (BX11_act_0 x1 h) :=
  (kp_bind (kp_tw (kpX8_mayBegin _ _) rfl) fun w1 hcw1 => (kp_ite (kp_bind (kp_tw (kpX6_drop _) hcw1) fun w6 hcw6 => (kp_ret hcw6)) (kp_bind (kp_tw (kpX8_next _ _) hcw1) fun w2 hcw2 => (kp_bind (kp_tw (kpX6_read _ _) hcw2) fun w3 hcw3 => (kp_ite (kp_ret hcw3) (kp_bind (kp_tw (kpX8_add _) hcw3) fun w4 hcw4 => (kp_ret hcw4)))))))
noncomputable def qX11_act (x1 : Int32) (h : ea_H) : Option (Int32 × ea_H) := BX11_act_0 x1 h
theorem sX11_act {d : Nat} {x1 : Int32} {h : ea_H} {r : Int32} {h' : ea_H} (hd : 46 ≤ d) (hs : ShC h) (K : qX11_act x1 h = some (r, h')) : ea_Met mX11_act d [vR (some 0), vI x1] h (some (vI r)) h' := by
  unfold qX11_act at K
  have W := tBX11_act_0 hd (h0 := h) K hs
  exact ea_enter rfl (Nat.le_of_ble_eq_true rfl) W
theorem kpX11_act (x1 : Int32) (h : ea_H) : kp (ea_core h) (qX11_act x1 h) := kBX11_act_0
