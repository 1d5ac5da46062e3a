/-! the reference: methods with loops, from each loop's head -/
theorem pX12_spreads_0 {d b0 : Nat} {h0 hE h : ea_H} {rv : Option ea_V} {x1 : Int32} {x2 : Int32} (hd : 1 ≤ d) (hs_h : ShM b0 h) (H : ea_W mX12_spreads d h0 rv hE 2 [(0, vR (some (b0 + 0))), (1, vI x1), (2, vI x2), (3, vI 0)] [] h) : ea_W mX12_spreads d h0 rv hE 0 [(0, vR (some (b0 + 0))), (1, vI x1), (2, vI x2)] [] h := by
  refine ea_iconst (pc := 0) dX12_spreads_0 (v := 0) rfl ?_
  refine ea_istore_n (pc := 1) (lv' := [(0, vR (some (b0 + 0))), (1, vI x1), (2, vI x2), (3, vI 0)]) dX12_spreads_1 rfl (Nat.le_of_ble_eq_true rfl) [1, 2, 3, 0] rfl ?_
  exact H
theorem pX12_spreads_2 {d b0 : Nat} {h0 hE h : ea_H} {rv : Option ea_V} {x1 : Int32} {x2 : Int32} {x3 : Int32} (hd : 1 ≤ d) (hs_h : ShM b0 h) (H : ((12 : Int32) ≤ x3 → ea_W mX12_spreads d h0 rv hE 34 [(0, vR (some (b0 + 0))), (2, vI x2), (3, vI 1)] [] h) ∧ (¬ (12 : Int32) ≤ x3 → (¬ x3 = x1 → vp_in x3 12 ∧ ∀ h2, h2 = ea_wi h (b0 + 9) (Int32.toNatClampNeg x3) 1000000 → ea_W mX12_spreads d h0 rv hE 2 [(0, vR (some (b0 + 0))), (1, vI x1), (2, vI x2), (3, vI (x3 + 1))] [] h2) ∧ (x3 = x1 → vp_in x3 12 ∧ ∀ h5, h5 = ea_wi h (b0 + 9) (Int32.toNatClampNeg x3) 0 → ea_W mX12_spreads d h0 rv hE 2 [(0, vR (some (b0 + 0))), (1, vI x1), (2, vI x2), (3, vI (x3 + 1))] [] h5))) : ea_W mX12_spreads d h0 rv hE 2 [(0, vR (some (b0 + 0))), (1, vI x1), (2, vI x2), (3, vI x3)] [] h := by
  refine ea_iload_n (pc := 2) dX12_spreads_2 rfl 3 rfl ?_
  refine ea_bipush (pc := 3) dX12_spreads_3 (v := 12) rfl ?_
  refine ea_icmp_ge (pc := 5) (tgt := 32) dX12_spreads_5 rfl (fun c8 => ?_) (fun c8 => ?_)
  · have H := H.1 c8
    refine ea_iconst (pc := 32) dX12_spreads_32 (v := 1) rfl ?_
    refine ea_istore_n (pc := 33) (lv' := [(0, vR (some (b0 + 0))), (2, vI x2), (3, vI 1)]) dX12_spreads_33 rfl (Nat.le_of_ble_eq_true rfl) [1, 3, 0] rfl ?_
    exact H
  · have H := H.2 c8
    refine ea_aload_n (pc := 8) dX12_spreads_8 rfl 0 rfl ?_
    refine ea_getR (pc := 9) dX12_spreads_9 ec_12 (k := 11) (Nat.le_of_ble_eq_true rfl) rfl (Or.inl ew_1356) (hs_h.1 0 (by decide)).1 (hs_h.1 0 (by decide)).2.1 (hs_h.2 0 11 rfl) ?_
    refine ea_iload_n (pc := 12) dX12_spreads_12 rfl 3 rfl ?_
    refine ea_iload_n (pc := 13) dX12_spreads_13 rfl 3 rfl ?_
    refine ea_iload_n (pc := 14) dX12_spreads_14 rfl 1 rfl ?_
    refine ea_icmp_ne (pc := 15) (tgt := 22) dX12_spreads_15 rfl (fun c7 => ?_) (fun c7 => ?_)
    · have H := H.1 c7
      refine ea_ldcw (pc := 22) dX12_spreads_22 ew_1727 ?_
      obtain ⟨z1, H⟩ := H
      refine ea_iast (pc := 25) dX12_spreads_25 (hs_h.1 9 (by decide)).1 (hs_h.1 9 (by decide)).2.1 (ea_vpl (hs_h.1 9 (by decide)).2.2 z1) ?_
      obtain ⟨h2, E3⟩ : ∃ z, z = ea_wi h (b0 + 9) (Int32.toNatClampNeg x3) 1000000 := ⟨_, rfl⟩
      have H := H h2 E3
      refine ea_nm E3 ?_
      have hs_h2 : ShM b0 h2 := by rw [E3]; exact ShM_wi hs_h
      refine ea_iinc (pc := 26) (v := 1) (lv' := [(0, vR (some (b0 + 0))), (1, vI x1), (2, vI x2), (3, vI (x3 + 1))]) dX12_spreads_26 3 rfl rfl (Nat.le_of_ble_eq_true rfl) [1, 2, 3, 0] rfl ?_
      refine ea_goto (pc := 29) (tgt := 2) dX12_spreads_29 rfl ?_
      exact H
    · have H := H.2 c7
      refine ea_iconst (pc := 18) dX12_spreads_18 (v := 0) rfl ?_
      refine ea_goto (pc := 19) (tgt := 25) dX12_spreads_19 rfl ?_
      obtain ⟨z4, H⟩ := H
      refine ea_iast (pc := 25) dX12_spreads_25 (hs_h.1 9 (by decide)).1 (hs_h.1 9 (by decide)).2.1 (ea_vpl (hs_h.1 9 (by decide)).2.2 z4) ?_
      obtain ⟨h5, E6⟩ : ∃ z, z = ea_wi h (b0 + 9) (Int32.toNatClampNeg x3) 0 := ⟨_, rfl⟩
      have H := H h5 E6
      refine ea_nm E6 ?_
      have hs_h5 : ShM b0 h5 := by rw [E6]; exact ShM_wi hs_h
      refine ea_iinc (pc := 26) (v := 1) (lv' := [(0, vR (some (b0 + 0))), (1, vI x1), (2, vI x2), (3, vI (x3 + 1))]) dX12_spreads_26 3 rfl rfl (Nat.le_of_ble_eq_true rfl) [1, 2, 3, 0] rfl ?_
      refine ea_goto (pc := 29) (tgt := 2) dX12_spreads_29 rfl ?_
      exact H
theorem pX12_spreads_34 {d b0 : Nat} {h0 hE h : ea_H} {rv : Option ea_V} {x2 : Int32} {x3 : Int32} (hd : 1 ≤ d) (hs_h : ShM b0 h) (H : (x3 = (0 : Int32) → rv = none ∧ hE = h) ∧ (¬ x3 = (0 : Int32) → ea_W mX12_spreads d h0 rv hE 43 [(0, vR (some (b0 + 0))), (2, vI x2), (3, vI 0), (4, vI x2)] [] h)) : ea_W mX12_spreads d h0 rv hE 34 [(0, vR (some (b0 + 0))), (2, vI x2), (3, vI x3)] [] h := by
  refine ea_iload_n (pc := 34) dX12_spreads_34 rfl 2 rfl ?_
  refine ea_if_eq (pc := 35) (tgt := 154) dX12_spreads_35 rfl (fun c1 => ?_) (fun c1 => ?_)
  · have H := H.1 c1
    obtain ⟨rfl, rfl⟩ := H
    exact ea_return (pc := 154) dX12_spreads_154 rfl
  · have H := H.2 c1
    refine ea_iconst (pc := 38) dX12_spreads_38 (v := 0) rfl ?_
    refine ea_istore_n (pc := 39) (lv' := [(0, vR (some (b0 + 0))), (2, vI x2), (3, vI 0)]) dX12_spreads_39 rfl (Nat.le_of_ble_eq_true rfl) [1, 2, 0] rfl ?_
    refine ea_iload_n (pc := 40) dX12_spreads_40 rfl 1 rfl ?_
    refine ea_istore (pc := 41) (lv' := [(0, vR (some (b0 + 0))), (2, vI x2), (3, vI 0), (4, vI x2)]) dX12_spreads_41 (Nat.le_of_ble_eq_true rfl) [1, 2, 3, 0] rfl ?_
    exact H
theorem pX12_spreads_43 {d b0 : Nat} {h0 hE h : ea_H} {rv : Option ea_V} {x2 : Int32} {x3 : Int32} {x4 : Int32} (hd : 1 ≤ d) (hs_h : ShM b0 h) (H : ((ea_i h (b0 + 0) 1) ≤ x4 → ea_W mX12_spreads d h0 rv hE 34 [(0, vR (some (b0 + 0))), (2, vI x2), (3, vI x3)] [] h) ∧ (¬ (ea_i h (b0 + 0) 1) ≤ x4 → ea_W mX12_spreads d h0 rv hE 55 [(0, vR (some (b0 + 0))), (2, vI x2), (3, vI x3), (4, vI x4), (5, vI x2)] [] h)) : ea_W mX12_spreads d h0 rv hE 43 [(0, vR (some (b0 + 0))), (2, vI x2), (3, vI x3), (4, vI x4)] [] h := by
  refine ea_iload (pc := 43) dX12_spreads_43 3 rfl ?_
  refine ea_aload_n (pc := 45) dX12_spreads_45 rfl 0 rfl ?_
  refine ea_getI (pc := 46) dX12_spreads_46 ec_12 (k := 1) (Nat.le_of_ble_eq_true rfl) rfl (Or.inl ew_1346) (hs_h.1 0 (by decide)).1 (hs_h.1 0 (by decide)).2.1 ?_
  refine ea_icmp_ge (pc := 49) (tgt := 151) dX12_spreads_49 rfl (fun c1 => ?_) (fun c1 => ?_)
  · have H := H.1 c1
    refine ea_goto (pc := 151) (tgt := 34) dX12_spreads_151 rfl ?_
    exact ea_fewer [0, 1, 2] rfl H
  · have H := H.2 c1
    refine ea_iload_n (pc := 52) dX12_spreads_52 rfl 1 rfl ?_
    refine ea_istore (pc := 53) (lv' := [(0, vR (some (b0 + 0))), (2, vI x2), (3, vI x3), (4, vI x4), (5, vI x2)]) dX12_spreads_53 (Nat.le_of_ble_eq_true rfl) [1, 2, 3, 4, 0] rfl ?_
    exact H
theorem pX12_spreads_55 {d b0 : Nat} {h0 hE h : ea_H} {rv : Option ea_V} {x2 : Int32} {x3 : Int32} {x4 : Int32} {x5 : Int32} (hd : 1 ≤ d) (hs_h : ShM b0 h) (H : ((ea_i h (b0 + 0) 1) ≤ x5 → ea_W mX12_spreads d h0 rv hE 43 [(0, vR (some (b0 + 0))), (2, vI x2), (3, vI x3), (4, vI (x4 + 1))] [] h) ∧ (¬ (ea_i h (b0 + 0) 1) ≤ x5 → vp_in (((12 : Int32) * x4) + x5) 144 ∧ ((ea_i h (b0 + 1) (Int32.toNatClampNeg (((12 : Int32) * x4) + x5))) = (0 : Int32) → ea_W mX12_spreads d h0 rv hE 55 [(0, vR (some (b0 + 0))), (2, vI x2), (3, vI x3), (4, vI x4), (5, vI (x5 + 1))] [] h) ∧ (¬ (ea_i h (b0 + 1) (Int32.toNatClampNeg (((12 : Int32) * x4) + x5))) = (0 : Int32) → vp_in x4 12 ∧ ((ea_i h (b0 + 9) (Int32.toNatClampNeg x4)) = (1000000 : Int32) → ea_W mX12_spreads d h0 rv hE 55 [(0, vR (some (b0 + 0))), (2, vI x2), (3, vI x3), (4, vI x4), (5, vI (x5 + 1))] [] h) ∧ (¬ (ea_i h (b0 + 9) (Int32.toNatClampNeg x4)) = (1000000 : Int32) → vp_in x4 12 ∧ vp_in x5 12 ∧ (((ea_i h (b0 + 9) (Int32.toNatClampNeg x4)) + (ea_i h (b0 + 1) (Int32.toNatClampNeg (((12 : Int32) * x4) + x5)))) < (ea_i h (b0 + 9) (Int32.toNatClampNeg x5)) → vp_in x4 12 ∧ vp_in x5 12 ∧ ∀ h7, h7 = ea_wi h (b0 + 9) (Int32.toNatClampNeg x5) ((ea_i h (b0 + 9) (Int32.toNatClampNeg x4)) + (ea_i h (b0 + 1) (Int32.toNatClampNeg (((12 : Int32) * x4) + x5)))) → ea_W mX12_spreads d h0 rv hE 55 [(0, vR (some (b0 + 0))), (2, vI x2), (3, vI 1), (4, vI x4), (5, vI (x5 + 1))] [] h7) ∧ (¬ ((ea_i h (b0 + 9) (Int32.toNatClampNeg x4)) + (ea_i h (b0 + 1) (Int32.toNatClampNeg (((12 : Int32) * x4) + x5)))) < (ea_i h (b0 + 9) (Int32.toNatClampNeg x5)) → ea_W mX12_spreads d h0 rv hE 55 [(0, vR (some (b0 + 0))), (2, vI x2), (3, vI x3), (4, vI x4), (5, vI (x5 + 1))] [] h))))) : ea_W mX12_spreads d h0 rv hE 55 [(0, vR (some (b0 + 0))), (2, vI x2), (3, vI x3), (4, vI x4), (5, vI x5)] [] h := by
  refine ea_iload (pc := 55) dX12_spreads_55 4 rfl ?_
  refine ea_aload_n (pc := 57) dX12_spreads_57 rfl 0 rfl ?_
  refine ea_getI (pc := 58) dX12_spreads_58 ec_12 (k := 1) (Nat.le_of_ble_eq_true rfl) rfl (Or.inl ew_1346) (hs_h.1 0 (by decide)).1 (hs_h.1 0 (by decide)).2.1 ?_
  refine ea_icmp_ge (pc := 61) (tgt := 145) dX12_spreads_61 rfl (fun c12 => ?_) (fun c12 => ?_)
  · have H := H.1 c12
    refine ea_iinc (pc := 145) (v := 1) (lv' := [(0, vR (some (b0 + 0))), (2, vI x2), (3, vI x3), (4, vI (x4 + 1))]) dX12_spreads_145 3 rfl rfl (Nat.le_of_ble_eq_true rfl) [1, 2, 3, 0] rfl ?_
    refine ea_goto (pc := 148) (tgt := 43) dX12_spreads_148 rfl ?_
    exact H
  · have H := H.2 c12
    refine ea_aload_n (pc := 64) dX12_spreads_64 rfl 0 rfl ?_
    refine ea_getR (pc := 65) dX12_spreads_65 ec_12 (k := 3) (Nat.le_of_ble_eq_true rfl) rfl (Or.inl ew_1348) (hs_h.1 0 (by decide)).1 (hs_h.1 0 (by decide)).2.1 (hs_h.2 0 3 rfl) ?_
    refine ea_bipush (pc := 68) dX12_spreads_68 (v := 12) rfl ?_
    refine ea_iload (pc := 70) dX12_spreads_70 3 rfl ?_
    refine ea_imul (pc := 72) dX12_spreads_72 ?_
    refine ea_iload (pc := 73) dX12_spreads_73 4 rfl ?_
    refine ea_iadd (pc := 75) dX12_spreads_75 ?_
    obtain ⟨z1, H⟩ := H
    refine ea_iald (pc := 76) dX12_spreads_76 (hs_h.1 1 (by decide)).1 (hs_h.1 1 (by decide)).2.1 (ea_vpl (hs_h.1 1 (by decide)).2.2 z1) ?_
    refine ea_istore (pc := 77) (lv' := [(0, vR (some (b0 + 0))), (2, vI x2), (3, vI x3), (4, vI x4), (5, vI x5), (6, vI (ea_i h (b0 + 1) (Int32.toNatClampNeg (((12 : Int32) * x4) + x5))))]) dX12_spreads_77 (Nat.le_of_ble_eq_true rfl) [1, 2, 3, 4, 5, 0] rfl ?_
    refine ea_iload (pc := 79) dX12_spreads_79 5 rfl ?_
    refine ea_if_eq (pc := 81) (tgt := 139) dX12_spreads_81 rfl (fun c11 => ?_) (fun c11 => ?_)
    · have H := H.1 c11
      refine ea_iinc (pc := 139) (v := 1) (lv' := [(0, vR (some (b0 + 0))), (2, vI x2), (3, vI x3), (4, vI x4), (5, vI (x5 + 1))]) dX12_spreads_139 4 rfl rfl (Nat.le_of_ble_eq_true rfl) [1, 2, 3, 4, 0] rfl ?_
      refine ea_goto (pc := 142) (tgt := 55) dX12_spreads_142 rfl ?_
      exact H
    · have H := H.2 c11
      refine ea_aload_n (pc := 84) dX12_spreads_84 rfl 0 rfl ?_
      refine ea_getR (pc := 85) dX12_spreads_85 ec_12 (k := 11) (Nat.le_of_ble_eq_true rfl) rfl (Or.inl ew_1356) (hs_h.1 0 (by decide)).1 (hs_h.1 0 (by decide)).2.1 (hs_h.2 0 11 rfl) ?_
      refine ea_iload (pc := 88) dX12_spreads_88 3 rfl ?_
      obtain ⟨z2, H⟩ := H
      refine ea_iald (pc := 90) dX12_spreads_90 (hs_h.1 9 (by decide)).1 (hs_h.1 9 (by decide)).2.1 (ea_vpl (hs_h.1 9 (by decide)).2.2 z2) ?_
      refine ea_ldcw (pc := 91) dX12_spreads_91 ew_1727 ?_
      refine ea_icmp_eq (pc := 94) (tgt := 139) dX12_spreads_94 rfl (fun c10 => ?_) (fun c10 => ?_)
      · have H := H.1 c10
        refine ea_iinc (pc := 139) (v := 1) (lv' := [(0, vR (some (b0 + 0))), (2, vI x2), (3, vI x3), (4, vI x4), (5, vI (x5 + 1))]) dX12_spreads_139 4 rfl rfl (Nat.le_of_ble_eq_true rfl) [1, 2, 3, 4, 0] rfl ?_
        refine ea_goto (pc := 142) (tgt := 55) dX12_spreads_142 rfl ?_
        exact H
      · have H := H.2 c10
        refine ea_aload_n (pc := 97) dX12_spreads_97 rfl 0 rfl ?_
        refine ea_getR (pc := 98) dX12_spreads_98 ec_12 (k := 11) (Nat.le_of_ble_eq_true rfl) rfl (Or.inl ew_1356) (hs_h.1 0 (by decide)).1 (hs_h.1 0 (by decide)).2.1 (hs_h.2 0 11 rfl) ?_
        refine ea_iload (pc := 101) dX12_spreads_101 3 rfl ?_
        obtain ⟨z3, H⟩ := H
        refine ea_iald (pc := 103) dX12_spreads_103 (hs_h.1 9 (by decide)).1 (hs_h.1 9 (by decide)).2.1 (ea_vpl (hs_h.1 9 (by decide)).2.2 z3) ?_
        refine ea_iload (pc := 104) dX12_spreads_104 5 rfl ?_
        refine ea_iadd (pc := 106) dX12_spreads_106 ?_
        refine ea_aload_n (pc := 107) dX12_spreads_107 rfl 0 rfl ?_
        refine ea_getR (pc := 108) dX12_spreads_108 ec_12 (k := 11) (Nat.le_of_ble_eq_true rfl) rfl (Or.inl ew_1356) (hs_h.1 0 (by decide)).1 (hs_h.1 0 (by decide)).2.1 (hs_h.2 0 11 rfl) ?_
        refine ea_iload (pc := 111) dX12_spreads_111 4 rfl ?_
        obtain ⟨z4, H⟩ := H
        refine ea_iald (pc := 113) dX12_spreads_113 (hs_h.1 9 (by decide)).1 (hs_h.1 9 (by decide)).2.1 (ea_vpl (hs_h.1 9 (by decide)).2.2 z4) ?_
        refine ea_icmp_lt (pc := 114) (tgt := 120) dX12_spreads_114 rfl (fun c9 => ?_) (fun c9 => ?_)
        · have H := H.1 c9
          refine ea_aload_n (pc := 120) dX12_spreads_120 rfl 0 rfl ?_
          refine ea_getR (pc := 121) dX12_spreads_121 ec_12 (k := 11) (Nat.le_of_ble_eq_true rfl) rfl (Or.inl ew_1356) (hs_h.1 0 (by decide)).1 (hs_h.1 0 (by decide)).2.1 (hs_h.2 0 11 rfl) ?_
          refine ea_iload (pc := 124) dX12_spreads_124 4 rfl ?_
          refine ea_aload_n (pc := 126) dX12_spreads_126 rfl 0 rfl ?_
          refine ea_getR (pc := 127) dX12_spreads_127 ec_12 (k := 11) (Nat.le_of_ble_eq_true rfl) rfl (Or.inl ew_1356) (hs_h.1 0 (by decide)).1 (hs_h.1 0 (by decide)).2.1 (hs_h.2 0 11 rfl) ?_
          refine ea_iload (pc := 130) dX12_spreads_130 3 rfl ?_
          obtain ⟨z5, H⟩ := H
          refine ea_iald (pc := 132) dX12_spreads_132 (hs_h.1 9 (by decide)).1 (hs_h.1 9 (by decide)).2.1 (ea_vpl (hs_h.1 9 (by decide)).2.2 z5) ?_
          refine ea_iload (pc := 133) dX12_spreads_133 5 rfl ?_
          refine ea_iadd (pc := 135) dX12_spreads_135 ?_
          obtain ⟨z6, H⟩ := H
          refine ea_iast (pc := 136) dX12_spreads_136 (hs_h.1 9 (by decide)).1 (hs_h.1 9 (by decide)).2.1 (ea_vpl (hs_h.1 9 (by decide)).2.2 z6) ?_
          obtain ⟨h7, E8⟩ : ∃ z, z = ea_wi h (b0 + 9) (Int32.toNatClampNeg x5) ((ea_i h (b0 + 9) (Int32.toNatClampNeg x4)) + (ea_i h (b0 + 1) (Int32.toNatClampNeg (((12 : Int32) * x4) + x5)))) := ⟨_, rfl⟩
          have H := H h7 E8
          refine ea_nm E8 ?_
          have hs_h7 : ShM b0 h7 := by rw [E8]; exact ShM_wi hs_h
          refine ea_iconst (pc := 137) dX12_spreads_137 (v := 1) rfl ?_
          refine ea_istore_n (pc := 138) (lv' := [(0, vR (some (b0 + 0))), (2, vI x2), (3, vI 1), (4, vI x4), (5, vI x5)]) dX12_spreads_138 rfl (Nat.le_of_ble_eq_true rfl) [1, 2, 0, 3, 4] rfl ?_
          refine ea_iinc (pc := 139) (v := 1) (lv' := [(0, vR (some (b0 + 0))), (2, vI x2), (3, vI 1), (4, vI x4), (5, vI (x5 + 1))]) dX12_spreads_139 4 rfl rfl (Nat.le_of_ble_eq_true rfl) [1, 2, 3, 4, 0] rfl ?_
          refine ea_goto (pc := 142) (tgt := 55) dX12_spreads_142 rfl ?_
          exact H
        · have H := H.2 c9
          refine ea_goto (pc := 117) (tgt := 139) dX12_spreads_117 rfl ?_
          refine ea_iinc (pc := 139) (v := 1) (lv' := [(0, vR (some (b0 + 0))), (2, vI x2), (3, vI x3), (4, vI x4), (5, vI (x5 + 1))]) dX12_spreads_139 4 rfl rfl (Nat.le_of_ble_eq_true rfl) [1, 2, 3, 4, 0] rfl ?_
          refine ea_goto (pc := 142) (tgt := 55) dX12_spreads_142 rfl ?_
          exact H
theorem pX12_milesOf_0 {d b0 : Nat} {h0 hE h : ea_H} {rv : Option ea_V} {x1 : Int32} {x2 : Int32} {x3 : Int32} (hd : 1 ≤ d) (hs_h : ShM b0 h) (H : ∃ (d1 : Nat) (h2 : ea_H), ea_Met mX12_spreads d1 [vR (some (b0 + 0)), vI x1, vI x3] h none h2 ∧ d1 + 1 ≤ d ∧ ShM b0 h2 ∧ vp_in x2 12 ∧ rv = some (vI (ea_i h2 (b0 + 9) (Int32.toNatClampNeg x2))) ∧ hE = h2) : ea_W mX12_milesOf d h0 rv hE 0 [(0, vR (some (b0 + 0))), (1, vI x1), (2, vI x2), (3, vI x3)] [] h := by
  refine ea_aload_n (pc := 0) dX12_milesOf_0 rfl 0 rfl ?_
  refine ea_iload_n (pc := 1) dX12_milesOf_1 rfl 1 rfl ?_
  refine ea_iload_n (pc := 2) dX12_milesOf_2 rfl 3 rfl ?_
  obtain ⟨d1, h2, m3, q4, hs_h2, H⟩ := H
  refine ea_callV (pc := 3) (As := [vI x1, vI x3]) (st := []) dX12_milesOf_3 kX12_spreads m3 q4 rfl (Nat.le_of_ble_eq_true rfl) ew_1723 ew_1725 ew_49 (ci := 12) rfl (by decide) (hs_h.1 0 (by decide)).1 (hs_h.1 0 (by decide)).2.1 ?_
  refine ea_aload_n (pc := 6) dX12_milesOf_6 rfl 0 rfl ?_
  refine ea_getR (pc := 7) dX12_milesOf_7 ec_12 (k := 11) (Nat.le_of_ble_eq_true rfl) rfl (Or.inl ew_1356) (hs_h2.1 0 (by decide)).1 (hs_h2.1 0 (by decide)).2.1 (hs_h2.2 0 11 rfl) ?_
  refine ea_iload_n (pc := 10) dX12_milesOf_10 rfl 2 rfl ?_
  obtain ⟨z5, H⟩ := H
  refine ea_iald (pc := 11) dX12_milesOf_11 (hs_h2.1 9 (by decide)).1 (hs_h2.1 9 (by decide)).2.1 (ea_vpl (hs_h2.1 9 (by decide)).2.2 z5) ?_
  obtain ⟨rfl, rfl⟩ := H
  exact ea_ireturn (pc := 12) dX12_milesOf_12 rfl rfl
theorem pX12_miles_0 {d b0 : Nat} {h0 hE h : ea_H} {rv : Option ea_V} {x1 : Int32} {x2 : Int32} (hd : 3 ≤ d) (hs_h : ShM b0 h) (H : ((vX12_isTown b0 (x1 : Int32) h) = (0 : Int32) → rv = some (vI (-1)) ∧ hE = h) ∧ (¬ (vX12_isTown b0 (x1 : Int32) h) = (0 : Int32) → (¬ (vX12_isTown b0 (x2 : Int32) h) = (0 : Int32) → ∃ (d39 : Nat) (xc43 : Int32) (h40 : ea_H), ea_Met mX12_milesOf d39 [vR (some (b0 + 0)), vI x1, vI x2, vI 0] h (some (vI xc43)) h40 ∧ d39 + 1 ≤ d ∧ ShM b0 h40 ∧ (¬ xc43 = (1000000 : Int32) → rv = some (vI xc43) ∧ hE = h40) ∧ (xc43 = (1000000 : Int32) → rv = some (vI (-1)) ∧ hE = h40)) ∧ ((vX12_isTown b0 (x2 : Int32) h) = (0 : Int32) → rv = some (vI (-1)) ∧ hE = h))) : ea_W mX12_miles d h0 rv hE 0 [(0, vR (some (b0 + 0))), (1, vI x1), (2, vI x2)] [] h := by
  refine ea_aload_n (pc := 0) dX12_miles_0 rfl 0 rfl ?_
  refine ea_iload_n (pc := 1) dX12_miles_1 rfl 1 rfl ?_
  refine ea_callV (pc := 2) (d' := d - 1) (As := [vI x1]) (st := []) dX12_miles_2 kX12_isTown (sX12_isTown (d := d - 1) (by omega) hs_h) (by omega) rfl (Nat.le_of_ble_eq_true rfl) ew_1708 ew_1710 ew_47 (ci := 12) rfl (by decide) (hs_h.1 0 (by decide)).1 (hs_h.1 0 (by decide)).2.1 ?_
  refine ea_if_eq (pc := 5) (tgt := 16) dX12_miles_5 rfl (fun c47 => ?_) (fun c47 => ?_)
  · have H := H.1 c47
    refine ea_iconst (pc := 16) dX12_miles_16 (v := (-1)) rfl ?_
    obtain ⟨rfl, rfl⟩ := H
    exact ea_ireturn (pc := 17) dX12_miles_17 rfl rfl
  · have H := H.2 c47
    refine ea_aload_n (pc := 8) dX12_miles_8 rfl 0 rfl ?_
    refine ea_iload_n (pc := 9) dX12_miles_9 rfl 2 rfl ?_
    refine ea_callV (pc := 10) (d' := d - 1) (As := [vI x2]) (st := []) dX12_miles_10 kX12_isTown (sX12_isTown (d := d - 1) (by omega) hs_h) (by omega) rfl (Nat.le_of_ble_eq_true rfl) ew_1708 ew_1710 ew_47 (ci := 12) rfl (by decide) (hs_h.1 0 (by decide)).1 (hs_h.1 0 (by decide)).2.1 ?_
    refine ea_if_ne (pc := 13) (tgt := 18) dX12_miles_13 rfl (fun c45 => ?_) (fun c45 => ?_)
    · have H := H.1 c45
      refine ea_aload_n (pc := 18) dX12_miles_18 rfl 0 rfl ?_
      refine ea_iload_n (pc := 19) dX12_miles_19 rfl 1 rfl ?_
      refine ea_iload_n (pc := 20) dX12_miles_20 rfl 2 rfl ?_
      refine ea_iconst (pc := 21) dX12_miles_21 (v := 0) rfl ?_
      obtain ⟨d39, xc43, h40, m41, q42, hs_h40, H⟩ := H
      refine ea_callV (pc := 22) (As := [vI x1, vI x2, vI 0]) (st := []) dX12_miles_22 kX12_milesOf m41 q42 rfl (Nat.le_of_ble_eq_true rfl) ew_1719 ew_1721 ew_48 (ci := 12) rfl (by decide) (hs_h.1 0 (by decide)).1 (hs_h.1 0 (by decide)).2.1 ?_
      refine ea_istore_n (pc := 25) (lv' := [(3, vI xc43)]) dX12_miles_25 rfl (Nat.le_of_ble_eq_true rfl) [0] rfl ?_
      refine ea_iload_n (pc := 26) dX12_miles_26 rfl 0 rfl ?_
      refine ea_ldcw (pc := 27) dX12_miles_27 ew_1727 ?_
      refine ea_icmp_ne (pc := 30) (tgt := 37) dX12_miles_30 rfl (fun c44 => ?_) (fun c44 => ?_)
      · have H := H.1 c44
        refine ea_iload_n (pc := 37) dX12_miles_37 rfl 0 rfl ?_
        obtain ⟨rfl, rfl⟩ := H
        exact ea_ireturn (pc := 38) dX12_miles_38 rfl rfl
      · have H := H.2 c44
        refine ea_iconst (pc := 33) dX12_miles_33 (v := (-1)) rfl ?_
        refine ea_goto (pc := 34) (tgt := 38) dX12_miles_34 rfl ?_
        obtain ⟨rfl, rfl⟩ := H
        exact ea_ireturn (pc := 38) dX12_miles_38 rfl rfl
    · have H := H.2 c45
      refine ea_iconst (pc := 16) dX12_miles_16 (v := (-1)) rfl ?_
      obtain ⟨rfl, rfl⟩ := H
      exact ea_ireturn (pc := 17) dX12_miles_17 rfl rfl
theorem pX12_table_0 {d b0 : Nat} {h0 hE h : ea_H} {rv : Option ea_V}  (hd : 4 ≤ d) (hs_h : ShM b0 h) (H : ((ea_i h (b0 + 0) 12) = (0 : Int32) → ∀ h1, h1 = ea_wi h (b0 + 0) 12 1 → ∀ h3, h3 = ea_wi h1 (b0 + 0) 13 0 → ea_W mX12_table d h0 rv hE 20 [(0, vR (some (b0 + 0))), (1, vI 0)] [] h3) ∧ (¬ (ea_i h (b0 + 0) 12) = (0 : Int32) → rv = none ∧ hE = h)) : ea_W mX12_table d h0 rv hE 0 [(0, vR (some (b0 + 0)))] [] h := by
  refine ea_aload_n (pc := 0) dX12_table_0 rfl 0 rfl ?_
  refine ea_getI (pc := 1) dX12_table_1 ec_12 (k := 12) (Nat.le_of_ble_eq_true rfl) rfl (Or.inl ew_1357) (hs_h.1 0 (by decide)).1 (hs_h.1 0 (by decide)).2.1 ?_
  refine ea_if_eq (pc := 4) (tgt := 8) dX12_table_4 rfl (fun c5 => ?_) (fun c5 => ?_)
  · have H := H.1 c5
    refine ea_aload_n (pc := 8) dX12_table_8 rfl 0 rfl ?_
    refine ea_iconst (pc := 9) dX12_table_9 (v := 1) rfl ?_
    refine ea_putI (pc := 10) dX12_table_10 ec_12 (k := 12) (Nat.le_of_ble_eq_true rfl) rfl (Or.inl ⟨rfl, Or.inl ew_1357⟩) (ea_bn (Or.inr rfl)) (ea_bf (Or.inr rfl)) (hs_h.1 0 (by decide)).1 (hs_h.1 0 (by decide)).2.1 ?_
    obtain ⟨h1, E2⟩ : ∃ z, z = ea_wi h (b0 + 0) 12 1 := ⟨_, rfl⟩
    have H := H h1 E2
    refine ea_nm E2 ?_
    have hs_h1 : ShM b0 h1 := by rw [E2]; exact ShM_wi hs_h
    refine ea_aload_n (pc := 13) dX12_table_13 rfl 0 rfl ?_
    refine ea_iconst (pc := 14) dX12_table_14 (v := 0) rfl ?_
    refine ea_putI (pc := 15) dX12_table_15 ec_12 (k := 13) (Nat.le_of_ble_eq_true rfl) rfl (Or.inl ⟨rfl, Or.inl ew_1358⟩) rfl rfl (hs_h1.1 0 (by decide)).1 (hs_h1.1 0 (by decide)).2.1 ?_
    obtain ⟨h3, E4⟩ : ∃ z, z = ea_wi h1 (b0 + 0) 13 0 := ⟨_, rfl⟩
    have H := H h3 E4
    refine ea_nm E4 ?_
    have hs_h3 : ShM b0 h3 := by rw [E4]; exact ShM_wi hs_h1
    refine ea_iconst (pc := 18) dX12_table_18 (v := 0) rfl ?_
    refine ea_istore_n (pc := 19) (lv' := [(0, vR (some (b0 + 0))), (1, vI 0)]) dX12_table_19 rfl (Nat.le_of_ble_eq_true rfl) [1, 0] rfl ?_
    exact H
  · have H := H.2 c5
    obtain ⟨rfl, rfl⟩ := H
    exact ea_return (pc := 7) dX12_table_7 rfl
theorem pX12_table_20 {d b0 : Nat} {h0 hE h : ea_H} {rv : Option ea_V} {x1 : Int32} (hd : 4 ≤ d) (hs_h : ShM b0 h) (H : ((70 : Int32) ≤ x1 → ea_W mX12_table d h0 rv hE 41 [(0, vR (some (b0 + 0)))] [] h) ∧ (¬ (70 : Int32) ≤ x1 → vp_in x1 70 ∧ ∀ h2, h2 = ea_wi h (b0 + 14) (Int32.toNatClampNeg x1) 0 → ea_W mX12_table d h0 rv hE 20 [(0, vR (some (b0 + 0))), (1, vI (x1 + 1))] [] h2)) : ea_W mX12_table d h0 rv hE 20 [(0, vR (some (b0 + 0))), (1, vI x1)] [] h := by
  refine ea_iload_n (pc := 20) dX12_table_20 rfl 1 rfl ?_
  refine ea_bipush (pc := 21) dX12_table_21 (v := 70) rfl ?_
  refine ea_icmp_ge (pc := 23) (tgt := 39) dX12_table_23 rfl (fun c4 => ?_) (fun c4 => ?_)
  · have H := H.1 c4
    refine ea_iconst (pc := 39) dX12_table_39 (v := (-1)) rfl ?_
    refine ea_istore_n (pc := 40) (lv' := [(0, vR (some (b0 + 0)))]) dX12_table_40 rfl (Nat.le_of_ble_eq_true rfl) [1] rfl ?_
    exact H
  · have H := H.2 c4
    refine ea_aload_n (pc := 26) dX12_table_26 rfl 0 rfl ?_
    refine ea_getR (pc := 27) dX12_table_27 ec_12 (k := 18) (Nat.le_of_ble_eq_true rfl) rfl (Or.inl ew_1363) (hs_h.1 0 (by decide)).1 (hs_h.1 0 (by decide)).2.1 (hs_h.2 0 18 rfl) ?_
    refine ea_iload_n (pc := 30) dX12_table_30 rfl 1 rfl ?_
    refine ea_iconst (pc := 31) dX12_table_31 (v := 0) rfl ?_
    obtain ⟨z1, H⟩ := H
    refine ea_iast (pc := 32) dX12_table_32 (hs_h.1 14 (by decide)).1 (hs_h.1 14 (by decide)).2.1 (ea_vpl (hs_h.1 14 (by decide)).2.2 z1) ?_
    obtain ⟨h2, E3⟩ : ∃ z, z = ea_wi h (b0 + 14) (Int32.toNatClampNeg x1) 0 := ⟨_, rfl⟩
    have H := H h2 E3
    refine ea_nm E3 ?_
    have hs_h2 : ShM b0 h2 := by rw [E3]; exact ShM_wi hs_h
    refine ea_iinc (pc := 33) (v := 1) (lv' := [(0, vR (some (b0 + 0))), (1, vI (x1 + 1))]) dX12_table_33 1 rfl rfl (Nat.le_of_ble_eq_true rfl) [1, 0] rfl ?_
    refine ea_goto (pc := 36) (tgt := 20) dX12_table_36 rfl ?_
    exact H
theorem pX12_table_41 {d b0 : Nat} {h0 hE h : ea_H} {rv : Option ea_V}  (hd : 4 ≤ d) (hs_h : ShM b0 h) (H : ea_W mX12_table d h0 rv hE 45 [(0, vR (some (b0 + 0))), (1, vI (-1)), (2, vI 0)] [] h) : ea_W mX12_table d h0 rv hE 41 [(0, vR (some (b0 + 0)))] [] h := by
  refine ea_iconst (pc := 41) dX12_table_41 (v := (-1)) rfl ?_
  refine ea_istore_n (pc := 42) (lv' := [(0, vR (some (b0 + 0))), (1, vI (-1))]) dX12_table_42 rfl (Nat.le_of_ble_eq_true rfl) [1, 0] rfl ?_
  refine ea_iconst (pc := 43) dX12_table_43 (v := 0) rfl ?_
  refine ea_istore_n (pc := 44) (lv' := [(0, vR (some (b0 + 0))), (1, vI (-1)), (2, vI 0)]) dX12_table_44 rfl (Nat.le_of_ble_eq_true rfl) [1, 2, 0] rfl ?_
  exact H
theorem pX12_table_45 {d b0 : Nat} {h0 hE h : ea_H} {rv : Option ea_V} {x1 : Int32} {x2 : Int32} (hd : 4 ≤ d) (hs_h : ShM b0 h) (H : (((7 : Int32) * (ea_i h (b0 + 0) 2)) ≤ x2 → (¬ x1 = ((-1) : Int32) → vp_in x1 70 ∧ (okX12_minuteOf b0 (x1 : Int32) ((ea_i h (b0 + 14) (Int32.toNatClampNeg x1)) : Int32) h) ∧ vp_in (ea_i h (b0 + 0) 13) 1000 ∧ ∀ h13, h13 = ea_wi h (b0 + 10) (Int32.toNatClampNeg (ea_i h (b0 + 0) 13)) (vX12_minuteOf b0 (x1 : Int32) ((ea_i h (b0 + 14) (Int32.toNatClampNeg x1)) : Int32) h) → vp_in x1 70 ∧ (¬ ((ea_i h13 (b0 + 14) (Int32.toNatClampNeg x1)) - (ea_i h13 (b0 + 14) (Int32.toNatClampNeg x1)) / (2 : Int32) * (2 : Int32)) = (0 : Int32) → ea_W mX12_table d h0 rv hE 138 [(0, vR (some (b0 + 0))), (1, vI x1)] [vI 0, vI (ea_i h13 (b0 + 0) 13), vR (some (b0 + 11))] h13) ∧ (((ea_i h13 (b0 + 14) (Int32.toNatClampNeg x1)) - (ea_i h13 (b0 + 14) (Int32.toNatClampNeg x1)) / (2 : Int32) * (2 : Int32)) = (0 : Int32) → ea_W mX12_table d h0 rv hE 138 [(0, vR (some (b0 + 0))), (1, vI x1)] [vI 1, vI (ea_i h13 (b0 + 0) 13), vR (some (b0 + 11))] h13)) ∧ (x1 = ((-1) : Int32) → ea_W mX12_table d h0 rv hE 188 [(0, vR (some (b0 + 0))), (1, vI x1)] [] h)) ∧ (¬ ((7 : Int32) * (ea_i h (b0 + 0) 2)) ≤ x2 → (okX12_isMore b0 (x2 : Int32) h) ∧ ((vX12_isMore b0 (x2 : Int32) h) = (0 : Int32) → ea_W mX12_table d h0 rv hE 45 [(0, vR (some (b0 + 0))), (1, vI x1), (2, vI (x2 + 1))] [] h) ∧ (¬ (vX12_isMore b0 (x2 : Int32) h) = (0 : Int32) → (x1 = ((-1) : Int32) → ea_W mX12_table d h0 rv hE 45 [(0, vR (some (b0 + 0))), (1, vI x2), (2, vI (x2 + 1))] [] h) ∧ (¬ x1 = ((-1) : Int32) → (okX12_isAheadOf b0 (x2 : Int32) (x1 : Int32) h) ∧ ((vX12_isAheadOf b0 (x2 : Int32) (x1 : Int32) h) = (0 : Int32) → ea_W mX12_table d h0 rv hE 45 [(0, vR (some (b0 + 0))), (1, vI x1), (2, vI (x2 + 1))] [] h) ∧ (¬ (vX12_isAheadOf b0 (x2 : Int32) (x1 : Int32) h) = (0 : Int32) → ea_W mX12_table d h0 rv hE 45 [(0, vR (some (b0 + 0))), (1, vI x2), (2, vI (x2 + 1))] [] h))))) : ea_W mX12_table d h0 rv hE 45 [(0, vR (some (b0 + 0))), (1, vI x1), (2, vI x2)] [] h := by
  refine ea_iload_n (pc := 45) dX12_table_45 rfl 2 rfl ?_
  refine ea_bipush (pc := 46) dX12_table_46 (v := 7) rfl ?_
  refine ea_aload_n (pc := 48) dX12_table_48 rfl 0 rfl ?_
  refine ea_getI (pc := 49) dX12_table_49 ec_12 (k := 2) (Nat.le_of_ble_eq_true rfl) rfl (Or.inl ew_1347) (hs_h.1 0 (by decide)).1 (hs_h.1 0 (by decide)).2.1 ?_
  refine ea_imul (pc := 52) dX12_table_52 ?_
  refine ea_icmp_ge (pc := 53) (tgt := 86) dX12_table_53 rfl (fun c45 => ?_) (fun c45 => ?_)
  · have H := H.1 c45
    refine ea_iload_n (pc := 86) dX12_table_86 rfl 1 rfl ?_
    refine ea_iconst (pc := 87) dX12_table_87 (v := (-1)) rfl ?_
    refine ea_icmp_ne (pc := 88) (tgt := 94) dX12_table_88 rfl (fun c18 => ?_) (fun c18 => ?_)
    · have H := H.1 c18
      refine ea_aload_n (pc := 94) dX12_table_94 rfl 0 rfl ?_
      refine ea_getR (pc := 95) dX12_table_95 ec_12 (k := 14) (Nat.le_of_ble_eq_true rfl) rfl (Or.inl ew_1359) (hs_h.1 0 (by decide)).1 (hs_h.1 0 (by decide)).2.1 (hs_h.2 0 14 rfl) ?_
      refine ea_aload_n (pc := 98) dX12_table_98 rfl 0 rfl ?_
      refine ea_getI (pc := 99) dX12_table_99 ec_12 (k := 13) (Nat.le_of_ble_eq_true rfl) rfl (Or.inl ew_1358) (hs_h.1 0 (by decide)).1 (hs_h.1 0 (by decide)).2.1 ?_
      refine ea_aload_n (pc := 102) dX12_table_102 rfl 0 rfl ?_
      refine ea_iload_n (pc := 103) dX12_table_103 rfl 1 rfl ?_
      refine ea_aload_n (pc := 104) dX12_table_104 rfl 0 rfl ?_
      refine ea_getR (pc := 105) dX12_table_105 ec_12 (k := 18) (Nat.le_of_ble_eq_true rfl) rfl (Or.inl ew_1363) (hs_h.1 0 (by decide)).1 (hs_h.1 0 (by decide)).2.1 (hs_h.2 0 18 rfl) ?_
      refine ea_iload_n (pc := 108) dX12_table_108 rfl 1 rfl ?_
      obtain ⟨z1, H⟩ := H
      refine ea_iald (pc := 109) dX12_table_109 (hs_h.1 14 (by decide)).1 (hs_h.1 14 (by decide)).2.1 (ea_vpl (hs_h.1 14 (by decide)).2.2 z1) ?_
      obtain ⟨z17, H⟩ := H
      refine ea_callV (pc := 110) (d' := d - 1) (As := [vI x1, vI (ea_i h (b0 + 14) (Int32.toNatClampNeg x1))]) (st := [vI (ea_i h (b0 + 0) 13), vR (some (b0 + 10))]) dX12_table_110 kX12_minuteOf (sX12_minuteOf (d := d - 1) (by omega) hs_h z17) (by omega) rfl (Nat.le_of_ble_eq_true rfl) ew_1782 ew_1784 ew_56 (ci := 12) rfl (by decide) (hs_h.1 0 (by decide)).1 (hs_h.1 0 (by decide)).2.1 ?_
      obtain ⟨z12, H⟩ := H
      refine ea_iast (pc := 113) dX12_table_113 (hs_h.1 10 (by decide)).1 (hs_h.1 10 (by decide)).2.1 (ea_vpl (hs_h.1 10 (by decide)).2.2 z12) ?_
      obtain ⟨h13, E14⟩ : ∃ z, z = ea_wi h (b0 + 10) (Int32.toNatClampNeg (ea_i h (b0 + 0) 13)) (vX12_minuteOf b0 (x1 : Int32) ((ea_i h (b0 + 14) (Int32.toNatClampNeg x1)) : Int32) h) := ⟨_, rfl⟩
      have H := H h13 E14
      refine ea_nm E14 ?_
      have hs_h13 : ShM b0 h13 := by rw [E14]; exact ShM_wi hs_h
      refine ea_aload_n (pc := 114) dX12_table_114 rfl 0 rfl ?_
      refine ea_getR (pc := 115) dX12_table_115 ec_12 (k := 15) (Nat.le_of_ble_eq_true rfl) rfl (Or.inl ew_1360) (hs_h13.1 0 (by decide)).1 (hs_h13.1 0 (by decide)).2.1 (hs_h13.2 0 15 rfl) ?_
      refine ea_aload_n (pc := 118) dX12_table_118 rfl 0 rfl ?_
      refine ea_getI (pc := 119) dX12_table_119 ec_12 (k := 13) (Nat.le_of_ble_eq_true rfl) rfl (Or.inl ew_1358) (hs_h13.1 0 (by decide)).1 (hs_h13.1 0 (by decide)).2.1 ?_
      refine ea_aload_n (pc := 122) dX12_table_122 rfl 0 rfl ?_
      refine ea_getR (pc := 123) dX12_table_123 ec_12 (k := 18) (Nat.le_of_ble_eq_true rfl) rfl (Or.inl ew_1363) (hs_h13.1 0 (by decide)).1 (hs_h13.1 0 (by decide)).2.1 (hs_h13.2 0 18 rfl) ?_
      refine ea_iload_n (pc := 126) dX12_table_126 rfl 1 rfl ?_
      obtain ⟨z15, H⟩ := H
      refine ea_iald (pc := 127) dX12_table_127 (hs_h13.1 14 (by decide)).1 (hs_h13.1 14 (by decide)).2.1 (ea_vpl (hs_h13.1 14 (by decide)).2.2 z15) ?_
      refine ea_iconst (pc := 128) dX12_table_128 (v := 2) rfl ?_
      refine ea_irem (pc := 129) dX12_table_129 (by decide) ?_
      refine ea_if_ne (pc := 130) (tgt := 137) dX12_table_130 rfl (fun c16 => ?_) (fun c16 => ?_)
      · have H := H.1 c16
        refine ea_iconst (pc := 137) dX12_table_137 (v := 0) rfl ?_
        exact ea_fewer [0, 1] rfl H
      · have H := H.2 c16
        refine ea_iconst (pc := 133) dX12_table_133 (v := 1) rfl ?_
        refine ea_goto (pc := 134) (tgt := 138) dX12_table_134 rfl ?_
        exact ea_fewer [0, 1] rfl H
    · have H := H.2 c18
      refine ea_goto (pc := 91) (tgt := 188) dX12_table_91 rfl ?_
      exact ea_fewer [0, 1] rfl H
  · have H := H.2 c45
    refine ea_aload_n (pc := 56) dX12_table_56 rfl 0 rfl ?_
    refine ea_iload_n (pc := 57) dX12_table_57 rfl 2 rfl ?_
    obtain ⟨z44, H⟩ := H
    refine ea_callV (pc := 58) (d' := d - 1) (As := [vI x2]) (st := []) dX12_table_58 kX12_isMore (sX12_isMore (d := d - 1) (by omega) hs_h z44) (by omega) rfl (Nat.le_of_ble_eq_true rfl) ew_1778 ew_1780 ew_55 (ci := 12) rfl (by decide) (hs_h.1 0 (by decide)).1 (hs_h.1 0 (by decide)).2.1 ?_
    refine ea_if_eq (pc := 61) (tgt := 80) dX12_table_61 rfl (fun c43 => ?_) (fun c43 => ?_)
    · have H := H.1 c43
      refine ea_iinc (pc := 80) (v := 1) (lv' := [(0, vR (some (b0 + 0))), (1, vI x1), (2, vI (x2 + 1))]) dX12_table_80 2 rfl rfl (Nat.le_of_ble_eq_true rfl) [1, 2, 0] rfl ?_
      refine ea_goto (pc := 83) (tgt := 45) dX12_table_83 rfl ?_
      exact H
    · have H := H.2 c43
      refine ea_iload_n (pc := 64) dX12_table_64 rfl 1 rfl ?_
      refine ea_iconst (pc := 65) dX12_table_65 (v := (-1)) rfl ?_
      refine ea_icmp_eq (pc := 66) (tgt := 78) dX12_table_66 rfl (fun c42 => ?_) (fun c42 => ?_)
      · have H := H.1 c42
        refine ea_iload_n (pc := 78) dX12_table_78 rfl 2 rfl ?_
        refine ea_istore_n (pc := 79) (lv' := [(0, vR (some (b0 + 0))), (1, vI x2), (2, vI x2)]) dX12_table_79 rfl (Nat.le_of_ble_eq_true rfl) [1, 0, 2] rfl ?_
        refine ea_iinc (pc := 80) (v := 1) (lv' := [(0, vR (some (b0 + 0))), (1, vI x2), (2, vI (x2 + 1))]) dX12_table_80 2 rfl rfl (Nat.le_of_ble_eq_true rfl) [1, 2, 0] rfl ?_
        refine ea_goto (pc := 83) (tgt := 45) dX12_table_83 rfl ?_
        exact H
      · have H := H.2 c42
        refine ea_aload_n (pc := 69) dX12_table_69 rfl 0 rfl ?_
        refine ea_iload_n (pc := 70) dX12_table_70 rfl 2 rfl ?_
        refine ea_iload_n (pc := 71) dX12_table_71 rfl 1 rfl ?_
        obtain ⟨z41, H⟩ := H
        refine ea_callV (pc := 72) (d' := d - 1) (As := [vI x2, vI x1]) (st := []) dX12_table_72 kX12_isAheadOf (sX12_isAheadOf (d := d - 1) (by omega) hs_h z41) (by omega) rfl (Nat.le_of_ble_eq_true rfl) ew_1790 ew_1792 ew_58 (ci := 12) rfl (by decide) (hs_h.1 0 (by decide)).1 (hs_h.1 0 (by decide)).2.1 ?_
        refine ea_if_eq (pc := 75) (tgt := 80) dX12_table_75 rfl (fun c40 => ?_) (fun c40 => ?_)
        · have H := H.1 c40
          refine ea_iinc (pc := 80) (v := 1) (lv' := [(0, vR (some (b0 + 0))), (1, vI x1), (2, vI (x2 + 1))]) dX12_table_80 2 rfl rfl (Nat.le_of_ble_eq_true rfl) [1, 2, 0] rfl ?_
          refine ea_goto (pc := 83) (tgt := 45) dX12_table_83 rfl ?_
          exact H
        · have H := H.2 c40
          refine ea_iload_n (pc := 78) dX12_table_78 rfl 2 rfl ?_
          refine ea_istore_n (pc := 79) (lv' := [(0, vR (some (b0 + 0))), (1, vI x2), (2, vI x2)]) dX12_table_79 rfl (Nat.le_of_ble_eq_true rfl) [1, 0, 2] rfl ?_
          refine ea_iinc (pc := 80) (v := 1) (lv' := [(0, vR (some (b0 + 0))), (1, vI x2), (2, vI (x2 + 1))]) dX12_table_80 2 rfl rfl (Nat.le_of_ble_eq_true rfl) [1, 2, 0] rfl ?_
          refine ea_goto (pc := 83) (tgt := 45) dX12_table_83 rfl ?_
          exact H
theorem pX12_table_138 {d b0 : Nat} {h0 hE h : ea_H} {rv : Option ea_V} {x1 : Int32} {sx0 : Int32} {sx1 : Int32} {sr2 : Option Nat} (hd : 4 ≤ d) (hs_h : ShM b0 h) (H : ∃ a3, sr2 = some a3 ∧ a3 < ea_n h ∧ ea_c h a3 = 20 ∧ vp_in sx1 (ea_l h a3) ∧ ∀ h6, h6 = ea_wi h a3 (Int32.toNatClampNeg sx1) sx0 → vp_in (ea_i h6 (b0 + 0) 13) 1000 ∧ ∀ h9, h9 = ea_wi h6 (b0 + 12) (Int32.toNatClampNeg (ea_i h6 (b0 + 0) 13)) x1 → vp_in x1 70 ∧ vp_in (ea_i h9 (b0 + 0) 13) 1000 ∧ ∀ h13, h13 = ea_wi h9 (b0 + 13) (Int32.toNatClampNeg (ea_i h9 (b0 + 0) 13)) (((ea_i h9 (b0 + 14) (Int32.toNatClampNeg x1)) + (1 : Int32)) / (2 : Int32)) → ∀ h15, h15 = ea_wi h13 (b0 + 0) 13 ((ea_i h13 (b0 + 0) 13) + (1 : Int32)) → vp_in x1 70 ∧ vp_in x1 70 ∧ ∀ h19, h19 = ea_wi h15 (b0 + 14) (Int32.toNatClampNeg x1) ((ea_i h15 (b0 + 14) (Int32.toNatClampNeg x1)) + (1 : Int32)) → ea_W mX12_table d h0 rv hE 188 [(0, vR (some (b0 + 0))), (1, vI x1)] [] h19) : ea_W mX12_table d h0 rv hE 138 [(0, vR (some (b0 + 0))), (1, vI x1)] [vI sx0, vI sx1, vR sr2] h := by
  obtain ⟨a3, e4, f1, g2, H⟩ := H
  refine ea_deref2 e4 ?_
  obtain ⟨z5, H⟩ := H
  refine ea_iast (pc := 138) dX12_table_138 f1 g2 z5 ?_
  obtain ⟨h6, E7⟩ : ∃ z, z = ea_wi h a3 (Int32.toNatClampNeg sx1) sx0 := ⟨_, rfl⟩
  have H := H h6 E7
  refine ea_nm E7 ?_
  have hs_h6 : ShM b0 h6 := by rw [E7]; exact ShM_wi hs_h
  refine ea_aload_n (pc := 139) dX12_table_139 rfl 0 rfl ?_
  refine ea_getR (pc := 140) dX12_table_140 ec_12 (k := 16) (Nat.le_of_ble_eq_true rfl) rfl (Or.inl ew_1361) (hs_h6.1 0 (by decide)).1 (hs_h6.1 0 (by decide)).2.1 (hs_h6.2 0 16 rfl) ?_
  refine ea_aload_n (pc := 143) dX12_table_143 rfl 0 rfl ?_
  refine ea_getI (pc := 144) dX12_table_144 ec_12 (k := 13) (Nat.le_of_ble_eq_true rfl) rfl (Or.inl ew_1358) (hs_h6.1 0 (by decide)).1 (hs_h6.1 0 (by decide)).2.1 ?_
  refine ea_iload_n (pc := 147) dX12_table_147 rfl 1 rfl ?_
  obtain ⟨z8, H⟩ := H
  refine ea_iast (pc := 148) dX12_table_148 (hs_h6.1 12 (by decide)).1 (hs_h6.1 12 (by decide)).2.1 (ea_vpl (hs_h6.1 12 (by decide)).2.2 z8) ?_
  obtain ⟨h9, E10⟩ : ∃ z, z = ea_wi h6 (b0 + 12) (Int32.toNatClampNeg (ea_i h6 (b0 + 0) 13)) x1 := ⟨_, rfl⟩
  have H := H h9 E10
  refine ea_nm E10 ?_
  have hs_h9 : ShM b0 h9 := by rw [E10]; exact ShM_wi hs_h6
  refine ea_aload_n (pc := 149) dX12_table_149 rfl 0 rfl ?_
  refine ea_getR (pc := 150) dX12_table_150 ec_12 (k := 17) (Nat.le_of_ble_eq_true rfl) rfl (Or.inl ew_1362) (hs_h9.1 0 (by decide)).1 (hs_h9.1 0 (by decide)).2.1 (hs_h9.2 0 17 rfl) ?_
  refine ea_aload_n (pc := 153) dX12_table_153 rfl 0 rfl ?_
  refine ea_getI (pc := 154) dX12_table_154 ec_12 (k := 13) (Nat.le_of_ble_eq_true rfl) rfl (Or.inl ew_1358) (hs_h9.1 0 (by decide)).1 (hs_h9.1 0 (by decide)).2.1 ?_
  refine ea_aload_n (pc := 157) dX12_table_157 rfl 0 rfl ?_
  refine ea_getR (pc := 158) dX12_table_158 ec_12 (k := 18) (Nat.le_of_ble_eq_true rfl) rfl (Or.inl ew_1363) (hs_h9.1 0 (by decide)).1 (hs_h9.1 0 (by decide)).2.1 (hs_h9.2 0 18 rfl) ?_
  refine ea_iload_n (pc := 161) dX12_table_161 rfl 1 rfl ?_
  obtain ⟨z11, H⟩ := H
  refine ea_iald (pc := 162) dX12_table_162 (hs_h9.1 14 (by decide)).1 (hs_h9.1 14 (by decide)).2.1 (ea_vpl (hs_h9.1 14 (by decide)).2.2 z11) ?_
  refine ea_iconst (pc := 163) dX12_table_163 (v := 1) rfl ?_
  refine ea_iadd (pc := 164) dX12_table_164 ?_
  refine ea_iconst (pc := 165) dX12_table_165 (v := 2) rfl ?_
  refine ea_idiv (pc := 166) dX12_table_166 (by decide) ?_
  obtain ⟨z12, H⟩ := H
  refine ea_iast (pc := 167) dX12_table_167 (hs_h9.1 13 (by decide)).1 (hs_h9.1 13 (by decide)).2.1 (ea_vpl (hs_h9.1 13 (by decide)).2.2 z12) ?_
  obtain ⟨h13, E14⟩ : ∃ z, z = ea_wi h9 (b0 + 13) (Int32.toNatClampNeg (ea_i h9 (b0 + 0) 13)) (((ea_i h9 (b0 + 14) (Int32.toNatClampNeg x1)) + (1 : Int32)) / (2 : Int32)) := ⟨_, rfl⟩
  have H := H h13 E14
  refine ea_nm E14 ?_
  have hs_h13 : ShM b0 h13 := by rw [E14]; exact ShM_wi hs_h9
  refine ea_aload_n (pc := 168) dX12_table_168 rfl 0 rfl ?_
  refine ea_dup (pc := 169) dX12_table_169 rfl ?_
  refine ea_getI (pc := 170) dX12_table_170 ec_12 (k := 13) (Nat.le_of_ble_eq_true rfl) rfl (Or.inl ew_1358) (hs_h13.1 0 (by decide)).1 (hs_h13.1 0 (by decide)).2.1 ?_
  refine ea_iconst (pc := 173) dX12_table_173 (v := 1) rfl ?_
  refine ea_iadd (pc := 174) dX12_table_174 ?_
  refine ea_putI (pc := 175) dX12_table_175 ec_12 (k := 13) (Nat.le_of_ble_eq_true rfl) rfl (Or.inl ⟨rfl, Or.inl ew_1358⟩) rfl rfl (hs_h13.1 0 (by decide)).1 (hs_h13.1 0 (by decide)).2.1 ?_
  obtain ⟨h15, E16⟩ : ∃ z, z = ea_wi h13 (b0 + 0) 13 ((ea_i h13 (b0 + 0) 13) + (1 : Int32)) := ⟨_, rfl⟩
  have H := H h15 E16
  refine ea_nm E16 ?_
  have hs_h15 : ShM b0 h15 := by rw [E16]; exact ShM_wi hs_h13
  refine ea_aload_n (pc := 178) dX12_table_178 rfl 0 rfl ?_
  refine ea_getR (pc := 179) dX12_table_179 ec_12 (k := 18) (Nat.le_of_ble_eq_true rfl) rfl (Or.inl ew_1363) (hs_h15.1 0 (by decide)).1 (hs_h15.1 0 (by decide)).2.1 (hs_h15.2 0 18 rfl) ?_
  refine ea_iload_n (pc := 182) dX12_table_182 rfl 1 rfl ?_
  refine ea_dup2 (pc := 183) dX12_table_183 rfl rfl ?_
  obtain ⟨z17, H⟩ := H
  refine ea_iald (pc := 184) dX12_table_184 (hs_h15.1 14 (by decide)).1 (hs_h15.1 14 (by decide)).2.1 (ea_vpl (hs_h15.1 14 (by decide)).2.2 z17) ?_
  refine ea_iconst (pc := 185) dX12_table_185 (v := 1) rfl ?_
  refine ea_iadd (pc := 186) dX12_table_186 ?_
  obtain ⟨z18, H⟩ := H
  refine ea_iast (pc := 187) dX12_table_187 (hs_h15.1 14 (by decide)).1 (hs_h15.1 14 (by decide)).2.1 (ea_vpl (hs_h15.1 14 (by decide)).2.2 z18) ?_
  obtain ⟨h19, E20⟩ : ∃ z, z = ea_wi h15 (b0 + 14) (Int32.toNatClampNeg x1) ((ea_i h15 (b0 + 14) (Int32.toNatClampNeg x1)) + (1 : Int32)) := ⟨_, rfl⟩
  have H := H h19 E20
  refine ea_nm E20 ?_
  have hs_h19 : ShM b0 h19 := by rw [E20]; exact ShM_wi hs_h15
  exact H
theorem pX12_table_188 {d b0 : Nat} {h0 hE h : ea_H} {rv : Option ea_V} {x1 : Int32} (hd : 4 ≤ d) (hs_h : ShM b0 h) (H : (¬ x1 = ((-1) : Int32) → ea_W mX12_table d h0 rv hE 41 [(0, vR (some (b0 + 0)))] [] h) ∧ (x1 = ((-1) : Int32) → ea_W mX12_table d h0 rv hE 195 [(0, vR (some (b0 + 0))), (2, vI 0)] [] h)) : ea_W mX12_table d h0 rv hE 188 [(0, vR (some (b0 + 0))), (1, vI x1)] [] h := by
  refine ea_iload_n (pc := 188) dX12_table_188 rfl 1 rfl ?_
  refine ea_iconst (pc := 189) dX12_table_189 (v := (-1)) rfl ?_
  refine ea_icmp_ne (pc := 190) (tgt := 41) dX12_table_190 rfl (fun c1 => ?_) (fun c1 => ?_)
  · have H := H.1 c1
    exact ea_fewer [0] rfl H
  · have H := H.2 c1
    refine ea_iconst (pc := 193) dX12_table_193 (v := 0) rfl ?_
    refine ea_istore_n (pc := 194) (lv' := [(0, vR (some (b0 + 0))), (2, vI 0)]) dX12_table_194 rfl (Nat.le_of_ble_eq_true rfl) [1, 0] rfl ?_
    exact H
theorem pX12_table_195 {d b0 : Nat} {h0 hE h : ea_H} {rv : Option ea_V} {x2 : Int32} (hd : 4 ≤ d) (hs_h : ShM b0 h) (H : ((12 : Int32) ≤ x2 → ea_W mX12_table d h0 rv hE 221 [(0, vR (some (b0 + 0))), (2, vI ((ea_i h (b0 + 0) 13) - (1 : Int32)))] [] h) ∧ (¬ (12 : Int32) ≤ x2 → vp_in x2 12 ∧ ∀ h2, h2 = ea_wi h (b0 + 20) (Int32.toNatClampNeg x2) (-1) → ea_W mX12_table d h0 rv hE 195 [(0, vR (some (b0 + 0))), (2, vI (x2 + 1))] [] h2)) : ea_W mX12_table d h0 rv hE 195 [(0, vR (some (b0 + 0))), (2, vI x2)] [] h := by
  refine ea_iload_n (pc := 195) dX12_table_195 rfl 1 rfl ?_
  refine ea_bipush (pc := 196) dX12_table_196 (v := 12) rfl ?_
  refine ea_icmp_ge (pc := 198) (tgt := 214) dX12_table_198 rfl (fun c4 => ?_) (fun c4 => ?_)
  · have H := H.1 c4
    refine ea_aload_n (pc := 214) dX12_table_214 rfl 0 rfl ?_
    refine ea_getI (pc := 215) dX12_table_215 ec_12 (k := 13) (Nat.le_of_ble_eq_true rfl) rfl (Or.inl ew_1358) (hs_h.1 0 (by decide)).1 (hs_h.1 0 (by decide)).2.1 ?_
    refine ea_iconst (pc := 218) dX12_table_218 (v := 1) rfl ?_
    refine ea_isub (pc := 219) dX12_table_219 ?_
    refine ea_istore_n (pc := 220) (lv' := [(0, vR (some (b0 + 0))), (2, vI ((ea_i h (b0 + 0) 13) - (1 : Int32)))]) dX12_table_220 rfl (Nat.le_of_ble_eq_true rfl) [1, 0] rfl ?_
    exact H
  · have H := H.2 c4
    refine ea_aload_n (pc := 201) dX12_table_201 rfl 0 rfl ?_
    refine ea_getR (pc := 202) dX12_table_202 ec_12 (k := 24) (Nat.le_of_ble_eq_true rfl) rfl (Or.inl ew_1369) (hs_h.1 0 (by decide)).1 (hs_h.1 0 (by decide)).2.1 (hs_h.2 0 24 rfl) ?_
    refine ea_iload_n (pc := 205) dX12_table_205 rfl 1 rfl ?_
    refine ea_iconst (pc := 206) dX12_table_206 (v := (-1)) rfl ?_
    obtain ⟨z1, H⟩ := H
    refine ea_iast (pc := 207) dX12_table_207 (hs_h.1 20 (by decide)).1 (hs_h.1 20 (by decide)).2.1 (ea_vpl (hs_h.1 20 (by decide)).2.2 z1) ?_
    obtain ⟨h2, E3⟩ : ∃ z, z = ea_wi h (b0 + 20) (Int32.toNatClampNeg x2) (-1) := ⟨_, rfl⟩
    have H := H h2 E3
    refine ea_nm E3 ?_
    have hs_h2 : ShM b0 h2 := by rw [E3]; exact ShM_wi hs_h
    refine ea_iinc (pc := 208) (v := 1) (lv' := [(0, vR (some (b0 + 0))), (2, vI (x2 + 1))]) dX12_table_208 1 rfl rfl (Nat.le_of_ble_eq_true rfl) [1, 0] rfl ?_
    refine ea_goto (pc := 211) (tgt := 195) dX12_table_211 rfl ?_
    exact H
theorem pX12_table_221 {d b0 : Nat} {h0 hE h : ea_H} {rv : Option ea_V} {x2 : Int32} (hd : 4 ≤ d) (hs_h : ShM b0 h) (H : (x2 < (0 : Int32) → rv = none ∧ hE = h) ∧ (¬ x2 < (0 : Int32) → vp_in x2 1000 ∧ (¬ (ea_i h (b0 + 11) (Int32.toNatClampNeg x2)) = (1 : Int32) → ea_W mX12_table d h0 rv hE 221 [(0, vR (some (b0 + 0))), (2, vI (x2 + (-1)))] [] h) ∧ ((ea_i h (b0 + 11) (Int32.toNatClampNeg x2)) = (1 : Int32) → ∃ (d2 : Nat) (h3 : ea_H), ea_Met mX12_goings d2 [vR (some (b0 + 0)), vI x2] h none h3 ∧ d2 + 1 ≤ d ∧ ShM b0 h3 ∧ ea_W mX12_table d h0 rv hE 221 [(0, vR (some (b0 + 0))), (2, vI (x2 + (-1)))] [] h3))) : ea_W mX12_table d h0 rv hE 221 [(0, vR (some (b0 + 0))), (2, vI x2)] [] h := by
  refine ea_iload_n (pc := 221) dX12_table_221 rfl 1 rfl ?_
  refine ea_if_lt (pc := 222) (tgt := 246) dX12_table_222 rfl (fun c7 => ?_) (fun c7 => ?_)
  · have H := H.1 c7
    obtain ⟨rfl, rfl⟩ := H
    exact ea_return (pc := 246) dX12_table_246 rfl
  · have H := H.2 c7
    refine ea_aload_n (pc := 225) dX12_table_225 rfl 0 rfl ?_
    refine ea_getR (pc := 226) dX12_table_226 ec_12 (k := 15) (Nat.le_of_ble_eq_true rfl) rfl (Or.inl ew_1360) (hs_h.1 0 (by decide)).1 (hs_h.1 0 (by decide)).2.1 (hs_h.2 0 15 rfl) ?_
    refine ea_iload_n (pc := 229) dX12_table_229 rfl 1 rfl ?_
    obtain ⟨z1, H⟩ := H
    refine ea_iald (pc := 230) dX12_table_230 (hs_h.1 11 (by decide)).1 (hs_h.1 11 (by decide)).2.1 (ea_vpl (hs_h.1 11 (by decide)).2.2 z1) ?_
    refine ea_iconst (pc := 231) dX12_table_231 (v := 1) rfl ?_
    refine ea_icmp_ne (pc := 232) (tgt := 240) dX12_table_232 rfl (fun c6 => ?_) (fun c6 => ?_)
    · have H := H.1 c6
      refine ea_iinc (pc := 240) (v := (-1)) (lv' := [(0, vR (some (b0 + 0))), (2, vI (x2 + (-1)))]) dX12_table_240 1 rfl rfl (Nat.le_of_ble_eq_true rfl) [1, 0] rfl ?_
      refine ea_goto (pc := 243) (tgt := 221) dX12_table_243 rfl ?_
      exact H
    · have H := H.2 c6
      refine ea_aload_n (pc := 235) dX12_table_235 rfl 0 rfl ?_
      refine ea_iload_n (pc := 236) dX12_table_236 rfl 1 rfl ?_
      obtain ⟨d2, h3, m4, q5, hs_h3, H⟩ := H
      refine ea_callV (pc := 237) (As := [vI x2]) (st := []) dX12_table_237 kX12_goings m4 q5 rfl (Nat.le_of_ble_eq_true rfl) ew_1794 ew_1796 ew_59 (ci := 12) rfl (by decide) (hs_h.1 0 (by decide)).1 (hs_h.1 0 (by decide)).2.1 ?_
      refine ea_iinc (pc := 240) (v := (-1)) (lv' := [(0, vR (some (b0 + 0))), (2, vI (x2 + (-1)))]) dX12_table_240 1 rfl rfl (Nat.le_of_ble_eq_true rfl) [1, 0] rfl ?_
      refine ea_goto (pc := 243) (tgt := 221) dX12_table_243 rfl ?_
      exact H
theorem pX12_going_0 {d b0 : Nat} {h0 hE h : ea_H} {rv : Option ea_V} {x1 : Int32} {x2 : Int32} (hd : 1 ≤ d) (hs_h : ShM b0 h) (H : vp_in x1 12 ∧ ea_W mX12_going d h0 rv hE 7 [(0, vR (some (b0 + 0))), (2, vI x2), (3, vI (ea_i h (b0 + 20) (Int32.toNatClampNeg x1)))] [] h) : ea_W mX12_going d h0 rv hE 0 [(0, vR (some (b0 + 0))), (1, vI x1), (2, vI x2)] [] h := by
  refine ea_aload_n (pc := 0) dX12_going_0 rfl 0 rfl ?_
  refine ea_getR (pc := 1) dX12_going_1 ec_12 (k := 24) (Nat.le_of_ble_eq_true rfl) rfl (Or.inl ew_1369) (hs_h.1 0 (by decide)).1 (hs_h.1 0 (by decide)).2.1 (hs_h.2 0 24 rfl) ?_
  refine ea_iload_n (pc := 4) dX12_going_4 rfl 1 rfl ?_
  obtain ⟨z1, H⟩ := H
  refine ea_iald (pc := 5) dX12_going_5 (hs_h.1 20 (by decide)).1 (hs_h.1 20 (by decide)).2.1 (ea_vpl (hs_h.1 20 (by decide)).2.2 z1) ?_
  refine ea_istore_n (pc := 6) (lv' := [(0, vR (some (b0 + 0))), (2, vI x2), (3, vI (ea_i h (b0 + 20) (Int32.toNatClampNeg x1)))]) dX12_going_6 rfl (Nat.le_of_ble_eq_true rfl) [1, 3, 0] rfl ?_
  exact H
theorem pX12_going_7 {d b0 : Nat} {h0 hE h : ea_H} {rv : Option ea_V} {x2 : Int32} {x3 : Int32} (hd : 1 ≤ d) (hs_h : ShM b0 h) (H : (x3 = ((-1) : Int32) → rv = some (vI x3) ∧ hE = h) ∧ (¬ x3 = ((-1) : Int32) → vp_in x3 1000 ∧ (x2 ≤ (ea_i h (b0 + 10) (Int32.toNatClampNeg x3)) → rv = some (vI x3) ∧ hE = h) ∧ (¬ x2 ≤ (ea_i h (b0 + 10) (Int32.toNatClampNeg x3)) → vp_in x3 1000 ∧ ea_W mX12_going d h0 rv hE 7 [(0, vR (some (b0 + 0))), (2, vI x2), (3, vI (ea_i h (b0 + 19) (Int32.toNatClampNeg x3)))] [] h))) : ea_W mX12_going d h0 rv hE 7 [(0, vR (some (b0 + 0))), (2, vI x2), (3, vI x3)] [] h := by
  refine ea_iload_n (pc := 7) dX12_going_7 rfl 2 rfl ?_
  refine ea_iconst (pc := 8) dX12_going_8 (v := (-1)) rfl ?_
  refine ea_icmp_eq (pc := 9) (tgt := 32) dX12_going_9 rfl (fun c4 => ?_) (fun c4 => ?_)
  · have H := H.1 c4
    refine ea_iload_n (pc := 32) dX12_going_32 rfl 2 rfl ?_
    obtain ⟨rfl, rfl⟩ := H
    exact ea_ireturn (pc := 33) dX12_going_33 rfl rfl
  · have H := H.2 c4
    refine ea_aload_n (pc := 12) dX12_going_12 rfl 0 rfl ?_
    refine ea_getR (pc := 13) dX12_going_13 ec_12 (k := 14) (Nat.le_of_ble_eq_true rfl) rfl (Or.inl ew_1359) (hs_h.1 0 (by decide)).1 (hs_h.1 0 (by decide)).2.1 (hs_h.2 0 14 rfl) ?_
    refine ea_iload_n (pc := 16) dX12_going_16 rfl 2 rfl ?_
    obtain ⟨z1, H⟩ := H
    refine ea_iald (pc := 17) dX12_going_17 (hs_h.1 10 (by decide)).1 (hs_h.1 10 (by decide)).2.1 (ea_vpl (hs_h.1 10 (by decide)).2.2 z1) ?_
    refine ea_iload_n (pc := 18) dX12_going_18 rfl 1 rfl ?_
    refine ea_icmp_ge (pc := 19) (tgt := 32) dX12_going_19 rfl (fun c3 => ?_) (fun c3 => ?_)
    · have H := H.1 c3
      refine ea_iload_n (pc := 32) dX12_going_32 rfl 2 rfl ?_
      obtain ⟨rfl, rfl⟩ := H
      exact ea_ireturn (pc := 33) dX12_going_33 rfl rfl
    · have H := H.2 c3
      refine ea_aload_n (pc := 22) dX12_going_22 rfl 0 rfl ?_
      refine ea_getR (pc := 23) dX12_going_23 ec_12 (k := 23) (Nat.le_of_ble_eq_true rfl) rfl (Or.inl ew_1368) (hs_h.1 0 (by decide)).1 (hs_h.1 0 (by decide)).2.1 (hs_h.2 0 23 rfl) ?_
      refine ea_iload_n (pc := 26) dX12_going_26 rfl 2 rfl ?_
      obtain ⟨z2, H⟩ := H
      refine ea_iald (pc := 27) dX12_going_27 (hs_h.1 19 (by decide)).1 (hs_h.1 19 (by decide)).2.1 (ea_vpl (hs_h.1 19 (by decide)).2.2 z2) ?_
      refine ea_istore_n (pc := 28) (lv' := [(0, vR (some (b0 + 0))), (2, vI x2), (3, vI (ea_i h (b0 + 19) (Int32.toNatClampNeg x3)))]) dX12_going_28 rfl (Nat.le_of_ble_eq_true rfl) [1, 2, 0] rfl ?_
      refine ea_goto (pc := 29) (tgt := 7) dX12_going_29 rfl ?_
      exact H
set_option maxRecDepth 100000 in
set_option maxHeartbeats 4000000 in
theorem pX12_goings_0 {d b0 : Nat} {h0 hE h : ea_H} {rv : Option ea_V} {x1 : Int32} (hd : 2 ≤ d) (hs_h : ShM b0 h) (H : vp_in x1 1000 ∧ vp_in x1 1000 ∧ (okX12_townOf b0 ((ea_i h (b0 + 12) (Int32.toNatClampNeg x1)) : Int32) ((ea_i h (b0 + 13) (Int32.toNatClampNeg x1)) : Int32) h) ∧ ea_W mX12_goings d h0 rv hE 22 [(0, vR (some (b0 + 0))), (1, vI x1), (2, vI (ea_i h (b0 + 12) (Int32.toNatClampNeg x1))), (3, vI (vX12_townOf b0 ((ea_i h (b0 + 12) (Int32.toNatClampNeg x1)) : Int32) ((ea_i h (b0 + 13) (Int32.toNatClampNeg x1)) : Int32) h)), (4, vI 0)] [] h) : ea_W mX12_goings d h0 rv hE 0 [(0, vR (some (b0 + 0))), (1, vI x1)] [] h := by
  refine ea_aload_n (pc := 0) dX12_goings_0 rfl 0 rfl ?_
  refine ea_getR (pc := 1) dX12_goings_1 ec_12 (k := 16) (Nat.le_of_ble_eq_true rfl) rfl (Or.inl ew_1361) (hs_h.1 0 (by decide)).1 (hs_h.1 0 (by decide)).2.1 (hs_h.2 0 16 rfl) ?_
  refine ea_iload_n (pc := 4) dX12_goings_4 rfl 1 rfl ?_
  obtain ⟨z1, H⟩ := H
  refine ea_iald (pc := 5) dX12_goings_5 (hs_h.1 12 (by decide)).1 (hs_h.1 12 (by decide)).2.1 (ea_vpl (hs_h.1 12 (by decide)).2.2 z1) ?_
  refine ea_istore_n (pc := 6) (lv' := [(0, vR (some (b0 + 0))), (1, vI x1), (2, vI (ea_i h (b0 + 12) (Int32.toNatClampNeg x1)))]) dX12_goings_6 rfl (Nat.le_of_ble_eq_true rfl) [1, 2, 0] rfl ?_
  refine ea_aload_n (pc := 7) dX12_goings_7 rfl 0 rfl ?_
  refine ea_iload_n (pc := 8) dX12_goings_8 rfl 2 rfl ?_
  refine ea_aload_n (pc := 9) dX12_goings_9 rfl 0 rfl ?_
  refine ea_getR (pc := 10) dX12_goings_10 ec_12 (k := 17) (Nat.le_of_ble_eq_true rfl) rfl (Or.inl ew_1362) (hs_h.1 0 (by decide)).1 (hs_h.1 0 (by decide)).2.1 (hs_h.2 0 17 rfl) ?_
  refine ea_iload_n (pc := 13) dX12_goings_13 rfl 1 rfl ?_
  obtain ⟨z2, H⟩ := H
  refine ea_iald (pc := 14) dX12_goings_14 (hs_h.1 13 (by decide)).1 (hs_h.1 13 (by decide)).2.1 (ea_vpl (hs_h.1 13 (by decide)).2.2 z2) ?_
  obtain ⟨z8, H⟩ := H
  refine ea_callV (pc := 15) (d' := d - 1) (As := [vI (ea_i h (b0 + 12) (Int32.toNatClampNeg x1)), vI (ea_i h (b0 + 13) (Int32.toNatClampNeg x1))]) (st := []) dX12_goings_15 kX12_townOf (sX12_townOf (d := d - 1) (by omega) hs_h z8) (by omega) rfl (Nat.le_of_ble_eq_true rfl) ew_1798 ew_1800 ew_60 (ci := 12) rfl (by decide) (hs_h.1 0 (by decide)).1 (hs_h.1 0 (by decide)).2.1 ?_
  refine ea_istore_n (pc := 18) (lv' := [(0, vR (some (b0 + 0))), (1, vI x1), (2, vI (ea_i h (b0 + 12) (Int32.toNatClampNeg x1))), (3, vI (vX12_townOf b0 ((ea_i h (b0 + 12) (Int32.toNatClampNeg x1)) : Int32) ((ea_i h (b0 + 13) (Int32.toNatClampNeg x1)) : Int32) h))]) dX12_goings_18 rfl (Nat.le_of_ble_eq_true rfl) [1, 2, 3, 0] rfl ?_
  refine ea_iconst (pc := 19) dX12_goings_19 (v := 0) rfl ?_
  refine ea_istore (pc := 20) (lv' := [(0, vR (some (b0 + 0))), (1, vI x1), (2, vI (ea_i h (b0 + 12) (Int32.toNatClampNeg x1))), (3, vI (vX12_townOf b0 ((ea_i h (b0 + 12) (Int32.toNatClampNeg x1)) : Int32) ((ea_i h (b0 + 13) (Int32.toNatClampNeg x1)) : Int32) h)), (4, vI 0)]) dX12_goings_20 (Nat.le_of_ble_eq_true rfl) [1, 2, 3, 4, 0] rfl ?_
  exact H
set_option maxRecDepth 100000 in
set_option maxHeartbeats 4000000 in
theorem pX12_goings_22 {d b0 : Nat} {h0 hE h : ea_H} {rv : Option ea_V} {x1 : Int32} {x2 : Int32} {x3 : Int32} {x4 : Int32} (hd : 2 ≤ d) (hs_h : ShM b0 h) (H : ((ea_i h (b0 + 0) 1) ≤ x4 → vp_in x3 12 ∧ vp_in x1 1000 ∧ ∀ h3, h3 = ea_wi h (b0 + 19) (Int32.toNatClampNeg x1) (ea_i h (b0 + 20) (Int32.toNatClampNeg x3)) → vp_in x3 12 ∧ ∀ h6, h6 = ea_wi h3 (b0 + 20) (Int32.toNatClampNeg x3) x1 → ea_W mX12_goings d h0 rv hE 320 [(0, vR (some (b0 + 0))), (1, vI x1), (4, vI 0)] [] h6) ∧ (¬ (ea_i h (b0 + 0) 1) ≤ x4 → vp_in (((12 : Int32) * x1) + x4) 12000 ∧ ∀ h9, h9 = ea_wi h (b0 + 15) (Int32.toNatClampNeg (((12 : Int32) * x1) + x4)) 1000000 → vp_in x1 1000 ∧ ea_W mX12_goings d h0 rv hE 60 [(0, vR (some (b0 + 0))), (1, vI x1), (2, vI x2), (3, vI x3), (4, vI x4), (5, vI (((12 : Int32) * x1) + x4)), (6, vI ((ea_i h9 (b0 + 13) (Int32.toNatClampNeg x1)) + (1 : Int32)))] [] h9)) : ea_W mX12_goings d h0 rv hE 22 [(0, vR (some (b0 + 0))), (1, vI x1), (2, vI x2), (3, vI x3), (4, vI x4)] [] h := by
  refine ea_iload (pc := 22) dX12_goings_22 4 rfl ?_
  refine ea_aload_n (pc := 24) dX12_goings_24 rfl 0 rfl ?_
  refine ea_getI (pc := 25) dX12_goings_25 ec_12 (k := 1) (Nat.le_of_ble_eq_true rfl) rfl (Or.inl ew_1346) (hs_h.1 0 (by decide)).1 (hs_h.1 0 (by decide)).2.1 ?_
  refine ea_icmp_ge (pc := 28) (tgt := 298) dX12_goings_28 rfl (fun c12 => ?_) (fun c12 => ?_)
  · have H := H.1 c12
    refine ea_aload_n (pc := 298) dX12_goings_298 rfl 0 rfl ?_
    refine ea_getR (pc := 299) dX12_goings_299 ec_12 (k := 23) (Nat.le_of_ble_eq_true rfl) rfl (Or.inl ew_1368) (hs_h.1 0 (by decide)).1 (hs_h.1 0 (by decide)).2.1 (hs_h.2 0 23 rfl) ?_
    refine ea_iload_n (pc := 302) dX12_goings_302 rfl 1 rfl ?_
    refine ea_aload_n (pc := 303) dX12_goings_303 rfl 0 rfl ?_
    refine ea_getR (pc := 304) dX12_goings_304 ec_12 (k := 24) (Nat.le_of_ble_eq_true rfl) rfl (Or.inl ew_1369) (hs_h.1 0 (by decide)).1 (hs_h.1 0 (by decide)).2.1 (hs_h.2 0 24 rfl) ?_
    refine ea_iload_n (pc := 307) dX12_goings_307 rfl 3 rfl ?_
    obtain ⟨z1, H⟩ := H
    refine ea_iald (pc := 308) dX12_goings_308 (hs_h.1 20 (by decide)).1 (hs_h.1 20 (by decide)).2.1 (ea_vpl (hs_h.1 20 (by decide)).2.2 z1) ?_
    obtain ⟨z2, H⟩ := H
    refine ea_iast (pc := 309) dX12_goings_309 (hs_h.1 19 (by decide)).1 (hs_h.1 19 (by decide)).2.1 (ea_vpl (hs_h.1 19 (by decide)).2.2 z2) ?_
    obtain ⟨h3, E4⟩ : ∃ z, z = ea_wi h (b0 + 19) (Int32.toNatClampNeg x1) (ea_i h (b0 + 20) (Int32.toNatClampNeg x3)) := ⟨_, rfl⟩
    have H := H h3 E4
    refine ea_nm E4 ?_
    have hs_h3 : ShM b0 h3 := by rw [E4]; exact ShM_wi hs_h
    refine ea_aload_n (pc := 310) dX12_goings_310 rfl 0 rfl ?_
    refine ea_getR (pc := 311) dX12_goings_311 ec_12 (k := 24) (Nat.le_of_ble_eq_true rfl) rfl (Or.inl ew_1369) (hs_h3.1 0 (by decide)).1 (hs_h3.1 0 (by decide)).2.1 (hs_h3.2 0 24 rfl) ?_
    refine ea_iload_n (pc := 314) dX12_goings_314 rfl 3 rfl ?_
    refine ea_iload_n (pc := 315) dX12_goings_315 rfl 1 rfl ?_
    obtain ⟨z5, H⟩ := H
    refine ea_iast (pc := 316) dX12_goings_316 (hs_h3.1 20 (by decide)).1 (hs_h3.1 20 (by decide)).2.1 (ea_vpl (hs_h3.1 20 (by decide)).2.2 z5) ?_
    obtain ⟨h6, E7⟩ : ∃ z, z = ea_wi h3 (b0 + 20) (Int32.toNatClampNeg x3) x1 := ⟨_, rfl⟩
    have H := H h6 E7
    refine ea_nm E7 ?_
    have hs_h6 : ShM b0 h6 := by rw [E7]; exact ShM_wi hs_h3
    refine ea_iconst (pc := 317) dX12_goings_317 (v := 0) rfl ?_
    refine ea_istore (pc := 318) (lv' := [(0, vR (some (b0 + 0))), (1, vI x1), (4, vI 0)]) dX12_goings_318 (Nat.le_of_ble_eq_true rfl) [1, 2, 0] rfl ?_
    exact H
  · have H := H.2 c12
    refine ea_bipush (pc := 31) dX12_goings_31 (v := 12) rfl ?_
    refine ea_iload_n (pc := 33) dX12_goings_33 rfl 1 rfl ?_
    refine ea_imul (pc := 34) dX12_goings_34 ?_
    refine ea_iload (pc := 35) dX12_goings_35 4 rfl ?_
    refine ea_iadd (pc := 37) dX12_goings_37 ?_
    refine ea_istore (pc := 38) (lv' := [(0, vR (some (b0 + 0))), (1, vI x1), (2, vI x2), (3, vI x3), (4, vI x4), (5, vI (((12 : Int32) * x1) + x4))]) dX12_goings_38 (Nat.le_of_ble_eq_true rfl) [1, 2, 3, 4, 5, 0] rfl ?_
    refine ea_aload_n (pc := 40) dX12_goings_40 rfl 0 rfl ?_
    refine ea_getR (pc := 41) dX12_goings_41 ec_12 (k := 19) (Nat.le_of_ble_eq_true rfl) rfl (Or.inl ew_1364) (hs_h.1 0 (by decide)).1 (hs_h.1 0 (by decide)).2.1 (hs_h.2 0 19 rfl) ?_
    refine ea_iload (pc := 44) dX12_goings_44 5 rfl ?_
    refine ea_ldcw (pc := 46) dX12_goings_46 ew_1727 ?_
    obtain ⟨z8, H⟩ := H
    refine ea_iast (pc := 49) dX12_goings_49 (hs_h.1 15 (by decide)).1 (hs_h.1 15 (by decide)).2.1 (ea_vpl (hs_h.1 15 (by decide)).2.2 z8) ?_
    obtain ⟨h9, E10⟩ : ∃ z, z = ea_wi h (b0 + 15) (Int32.toNatClampNeg (((12 : Int32) * x1) + x4)) 1000000 := ⟨_, rfl⟩
    have H := H h9 E10
    refine ea_nm E10 ?_
    have hs_h9 : ShM b0 h9 := by rw [E10]; exact ShM_wi hs_h
    refine ea_aload_n (pc := 50) dX12_goings_50 rfl 0 rfl ?_
    refine ea_getR (pc := 51) dX12_goings_51 ec_12 (k := 17) (Nat.le_of_ble_eq_true rfl) rfl (Or.inl ew_1362) (hs_h9.1 0 (by decide)).1 (hs_h9.1 0 (by decide)).2.1 (hs_h9.2 0 17 rfl) ?_
    refine ea_iload_n (pc := 54) dX12_goings_54 rfl 1 rfl ?_
    obtain ⟨z11, H⟩ := H
    refine ea_iald (pc := 55) dX12_goings_55 (hs_h9.1 13 (by decide)).1 (hs_h9.1 13 (by decide)).2.1 (ea_vpl (hs_h9.1 13 (by decide)).2.2 z11) ?_
    refine ea_iconst (pc := 56) dX12_goings_56 (v := 1) rfl ?_
    refine ea_iadd (pc := 57) dX12_goings_57 ?_
    refine ea_istore (pc := 58) (lv' := [(0, vR (some (b0 + 0))), (1, vI x1), (2, vI x2), (3, vI x3), (4, vI x4), (5, vI (((12 : Int32) * x1) + x4)), (6, vI ((ea_i h9 (b0 + 13) (Int32.toNatClampNeg x1)) + (1 : Int32)))]) dX12_goings_58 (Nat.le_of_ble_eq_true rfl) [1, 2, 3, 4, 5, 6, 0] rfl ?_
    exact H
set_option maxRecDepth 100000 in
set_option maxHeartbeats 4000000 in
theorem pX12_goings_60 {d b0 : Nat} {h0 hE h : ea_H} {rv : Option ea_V} {x1 : Int32} {x2 : Int32} {x3 : Int32} {x4 : Int32} {x5 : Int32} {x6 : Int32} (hd : 2 ≤ d) (hs_h : ShM b0 h) (H : vp_in (x2 / (7 : Int32)) 10 ∧ ((ea_i h (b0 + 2) (Int32.toNatClampNeg (x2 / (7 : Int32)))) ≤ x6 → ea_W mX12_goings d h0 rv hE 22 [(0, vR (some (b0 + 0))), (1, vI x1), (2, vI x2), (3, vI x3), (4, vI (x4 + 1))] [] h) ∧ (¬ (ea_i h (b0 + 2) (Int32.toNatClampNeg (x2 / (7 : Int32)))) ≤ x6 → (okX12_comesAt b0 (x2 : Int32) (x6 : Int32) h) ∧ ((vX12_comesAt b0 (x2 : Int32) (x6 : Int32) h) ≤ (10079 : Int32) → (okX12_townOf b0 (x2 : Int32) (x6 : Int32) h) ∧ (¬ (vX12_townOf b0 (x2 : Int32) (x6 : Int32) h) = x4 → ∃ (d37 : Nat) (xc41 : Int32) (h38 : ea_H), ea_Met mX12_going d37 [vR (some (b0 + 0)), vI (vX12_townOf b0 (x2 : Int32) (x6 : Int32) h), vI (vX12_comesAt b0 (x2 : Int32) (x6 : Int32) h)] h (some (vI xc41)) h38 ∧ d37 + 1 ≤ d ∧ ShM b0 h38 ∧ ea_W mX12_goings d h0 rv hE 122 [(0, vR (some (b0 + 0))), (1, vI x1), (2, vI x2), (3, vI x3), (4, vI x4), (5, vI x5), (6, vI x6), (7, vI (vX12_comesAt b0 (x2 : Int32) (x6 : Int32) h)), (8, vI (vX12_townOf b0 (x2 : Int32) (x6 : Int32) h))] [vI xc41] h38) ∧ ((vX12_townOf b0 (x2 : Int32) (x6 : Int32) h) = x4 → ea_W mX12_goings d h0 rv hE 122 [(0, vR (some (b0 + 0))), (1, vI x1), (2, vI x2), (3, vI x3), (4, vI x4), (5, vI x5), (6, vI x6), (7, vI (vX12_comesAt b0 (x2 : Int32) (x6 : Int32) h)), (8, vI (vX12_townOf b0 (x2 : Int32) (x6 : Int32) h))] [vI (-1)] h)) ∧ (¬ (vX12_comesAt b0 (x2 : Int32) (x6 : Int32) h) ≤ (10079 : Int32) → ea_W mX12_goings d h0 rv hE 22 [(0, vR (some (b0 + 0))), (1, vI x1), (2, vI x2), (3, vI x3), (4, vI (x4 + 1))] [] h))) : ea_W mX12_goings d h0 rv hE 60 [(0, vR (some (b0 + 0))), (1, vI x1), (2, vI x2), (3, vI x3), (4, vI x4), (5, vI x5), (6, vI x6)] [] h := by
  refine ea_iload (pc := 60) dX12_goings_60 6 rfl ?_
  refine ea_aload_n (pc := 62) dX12_goings_62 rfl 0 rfl ?_
  refine ea_getR (pc := 63) dX12_goings_63 ec_12 (k := 4) (Nat.le_of_ble_eq_true rfl) rfl (Or.inl ew_1349) (hs_h.1 0 (by decide)).1 (hs_h.1 0 (by decide)).2.1 (hs_h.2 0 4 rfl) ?_
  refine ea_iload_n (pc := 66) dX12_goings_66 rfl 2 rfl ?_
  refine ea_bipush (pc := 67) dX12_goings_67 (v := 7) rfl ?_
  refine ea_idiv (pc := 69) dX12_goings_69 (by decide) ?_
  obtain ⟨z1, H⟩ := H
  refine ea_iald (pc := 70) dX12_goings_70 (hs_h.1 2 (by decide)).1 (hs_h.1 2 (by decide)).2.1 (ea_vpl (hs_h.1 2 (by decide)).2.2 z1) ?_
  refine ea_icmp_ge (pc := 71) (tgt := 292) dX12_goings_71 rfl (fun c46 => ?_) (fun c46 => ?_)
  · have H := H.1 c46
    refine ea_iinc (pc := 292) (v := 1) (lv' := [(0, vR (some (b0 + 0))), (1, vI x1), (2, vI x2), (3, vI x3), (4, vI (x4 + 1))]) dX12_goings_292 4 rfl rfl (Nat.le_of_ble_eq_true rfl) [1, 2, 3, 4, 0] rfl ?_
    refine ea_goto (pc := 295) (tgt := 22) dX12_goings_295 rfl ?_
    exact H
  · have H := H.2 c46
    refine ea_aload_n (pc := 74) dX12_goings_74 rfl 0 rfl ?_
    refine ea_iload_n (pc := 75) dX12_goings_75 rfl 2 rfl ?_
    refine ea_iload (pc := 76) dX12_goings_76 6 rfl ?_
    obtain ⟨z45, H⟩ := H
    refine ea_callV (pc := 78) (d' := d - 1) (As := [vI x2, vI x6]) (st := []) dX12_goings_78 kX12_comesAt (sX12_comesAt (d := d - 1) (by omega) hs_h z45) (by omega) rfl (Nat.le_of_ble_eq_true rfl) ew_1762 ew_1764 ew_52 (ci := 12) rfl (by decide) (hs_h.1 0 (by decide)).1 (hs_h.1 0 (by decide)).2.1 ?_
    refine ea_istore (pc := 81) (lv' := [(0, vR (some (b0 + 0))), (1, vI x1), (2, vI x2), (3, vI x3), (4, vI x4), (5, vI x5), (6, vI x6), (7, vI (vX12_comesAt b0 (x2 : Int32) (x6 : Int32) h))]) dX12_goings_81 (Nat.le_of_ble_eq_true rfl) [1, 2, 3, 4, 5, 6, 7, 0] rfl ?_
    refine ea_iload (pc := 83) dX12_goings_83 7 rfl ?_
    refine ea_sipush (pc := 85) dX12_goings_85 (v := 10079) rfl ?_
    refine ea_icmp_le (pc := 88) (tgt := 94) dX12_goings_88 rfl (fun c44 => ?_) (fun c44 => ?_)
    · have H := H.1 c44
      refine ea_aload_n (pc := 94) dX12_goings_94 rfl 0 rfl ?_
      refine ea_iload_n (pc := 95) dX12_goings_95 rfl 2 rfl ?_
      refine ea_iload (pc := 96) dX12_goings_96 6 rfl ?_
      obtain ⟨z43, H⟩ := H
      refine ea_callV (pc := 98) (d' := d - 1) (As := [vI x2, vI x6]) (st := []) dX12_goings_98 kX12_townOf (sX12_townOf (d := d - 1) (by omega) hs_h z43) (by omega) rfl (Nat.le_of_ble_eq_true rfl) ew_1798 ew_1800 ew_60 (ci := 12) rfl (by decide) (hs_h.1 0 (by decide)).1 (hs_h.1 0 (by decide)).2.1 ?_
      refine ea_istore (pc := 101) (lv' := [(0, vR (some (b0 + 0))), (1, vI x1), (2, vI x2), (3, vI x3), (4, vI x4), (5, vI x5), (6, vI x6), (7, vI (vX12_comesAt b0 (x2 : Int32) (x6 : Int32) h)), (8, vI (vX12_townOf b0 (x2 : Int32) (x6 : Int32) h))]) dX12_goings_101 (Nat.le_of_ble_eq_true rfl) [1, 2, 3, 4, 5, 6, 7, 8, 0] rfl ?_
      refine ea_iload (pc := 103) dX12_goings_103 8 rfl ?_
      refine ea_iload (pc := 105) dX12_goings_105 4 rfl ?_
      refine ea_icmp_ne (pc := 107) (tgt := 114) dX12_goings_107 rfl (fun c42 => ?_) (fun c42 => ?_)
      · have H := H.1 c42
        refine ea_aload_n (pc := 114) dX12_goings_114 rfl 0 rfl ?_
        refine ea_iload (pc := 115) dX12_goings_115 8 rfl ?_
        refine ea_iload (pc := 117) dX12_goings_117 7 rfl ?_
        obtain ⟨d37, xc41, h38, m39, q40, hs_h38, H⟩ := H
        refine ea_callV (pc := 119) (As := [vI (vX12_townOf b0 (x2 : Int32) (x6 : Int32) h), vI (vX12_comesAt b0 (x2 : Int32) (x6 : Int32) h)]) (st := []) dX12_goings_119 kX12_going m39 q40 rfl (Nat.le_of_ble_eq_true rfl) ew_1802 ew_1804 ew_61 (ci := 12) rfl (by decide) (hs_h.1 0 (by decide)).1 (hs_h.1 0 (by decide)).2.1 ?_
        exact H
      · have H := H.2 c42
        refine ea_iconst (pc := 110) dX12_goings_110 (v := (-1)) rfl ?_
        refine ea_goto (pc := 111) (tgt := 122) dX12_goings_111 rfl ?_
        exact H
    · have H := H.2 c44
      refine ea_goto (pc := 91) (tgt := 292) dX12_goings_91 rfl ?_
      refine ea_iinc (pc := 292) (v := 1) (lv' := [(0, vR (some (b0 + 0))), (1, vI x1), (2, vI x2), (3, vI x3), (4, vI (x4 + 1))]) dX12_goings_292 4 rfl rfl (Nat.le_of_ble_eq_true rfl) [1, 2, 3, 4, 0] rfl ?_
      refine ea_goto (pc := 295) (tgt := 22) dX12_goings_295 rfl ?_
      exact H
set_option maxRecDepth 100000 in
set_option maxHeartbeats 4000000 in
theorem pX12_goings_122 {d b0 : Nat} {h0 hE h : ea_H} {rv : Option ea_V} {x1 : Int32} {x2 : Int32} {x3 : Int32} {x4 : Int32} {x5 : Int32} {x6 : Int32} {x7 : Int32} {x8 : Int32} {sx0 : Int32} (hd : 2 ≤ d) (hs_h : ShM b0 h) (H : (¬ sx0 = ((-1) : Int32) → vp_in (((12 : Int32) * sx0) + x4) 12000 ∧ ea_W mX12_goings d h0 rv hE 147 [(0, vR (some (b0 + 0))), (1, vI x1), (2, vI x2), (3, vI x3), (4, vI x4), (5, vI x5), (6, vI x6), (7, vI x7), (8, vI x8)] [vI (ea_i h (b0 + 18) (Int32.toNatClampNeg (((12 : Int32) * sx0) + x4)))] h) ∧ (sx0 = ((-1) : Int32) → ea_W mX12_goings d h0 rv hE 147 [(0, vR (some (b0 + 0))), (1, vI x1), (2, vI x2), (3, vI x3), (4, vI x4), (5, vI x5), (6, vI x6), (7, vI x7), (8, vI x8)] [vI (-1)] h)) : ea_W mX12_goings d h0 rv hE 122 [(0, vR (some (b0 + 0))), (1, vI x1), (2, vI x2), (3, vI x3), (4, vI x4), (5, vI x5), (6, vI x6), (7, vI x7), (8, vI x8)] [vI sx0] h := by
  refine ea_istore (pc := 122) (lv' := [(0, vR (some (b0 + 0))), (1, vI x1), (2, vI x2), (3, vI x3), (4, vI x4), (5, vI x5), (6, vI x6), (7, vI x7), (8, vI x8), (9, vI sx0)]) dX12_goings_122 (Nat.le_of_ble_eq_true rfl) [1, 2, 3, 4, 5, 6, 7, 8, 9, 0] rfl ?_
  refine ea_iload (pc := 124) dX12_goings_124 9 rfl ?_
  refine ea_iconst (pc := 126) dX12_goings_126 (v := (-1)) rfl ?_
  refine ea_icmp_ne (pc := 127) (tgt := 134) dX12_goings_127 rfl (fun c2 => ?_) (fun c2 => ?_)
  · have H := H.1 c2
    refine ea_aload_n (pc := 134) dX12_goings_134 rfl 0 rfl ?_
    refine ea_getR (pc := 135) dX12_goings_135 ec_12 (k := 22) (Nat.le_of_ble_eq_true rfl) rfl (Or.inl ew_1367) (hs_h.1 0 (by decide)).1 (hs_h.1 0 (by decide)).2.1 (hs_h.2 0 22 rfl) ?_
    refine ea_bipush (pc := 138) dX12_goings_138 (v := 12) rfl ?_
    refine ea_iload (pc := 140) dX12_goings_140 9 rfl ?_
    refine ea_imul (pc := 142) dX12_goings_142 ?_
    refine ea_iload (pc := 143) dX12_goings_143 4 rfl ?_
    refine ea_iadd (pc := 145) dX12_goings_145 ?_
    obtain ⟨z1, H⟩ := H
    refine ea_iald (pc := 146) dX12_goings_146 (hs_h.1 18 (by decide)).1 (hs_h.1 18 (by decide)).2.1 (ea_vpl (hs_h.1 18 (by decide)).2.2 z1) ?_
    exact ea_fewer [0, 1, 2, 3, 4, 5, 6, 7, 8] rfl H
  · have H := H.2 c2
    refine ea_iconst (pc := 130) dX12_goings_130 (v := (-1)) rfl ?_
    refine ea_goto (pc := 131) (tgt := 147) dX12_goings_131 rfl ?_
    exact ea_fewer [0, 1, 2, 3, 4, 5, 6, 7, 8] rfl H
set_option maxRecDepth 100000 in
set_option maxHeartbeats 4000000 in
theorem pX12_goings_147 {d b0 : Nat} {h0 hE h : ea_H} {rv : Option ea_V} {x1 : Int32} {x2 : Int32} {x3 : Int32} {x4 : Int32} {x5 : Int32} {x6 : Int32} {x7 : Int32} {x8 : Int32} {sx0 : Int32} (hd : 2 ≤ d) (hs_h : ShM b0 h) (H : (x8 = x4 → ea_W mX12_goings d h0 rv hE 165 [(0, vR (some (b0 + 0))), (1, vI x1), (2, vI x2), (3, vI x3), (4, vI x4), (5, vI x5), (6, vI x6), (7, vI x7), (8, vI x8), (10, vI sx0)] [] h) ∧ (¬ x8 = x4 → (¬ sx0 = ((-1) : Int32) → ea_W mX12_goings d h0 rv hE 165 [(0, vR (some (b0 + 0))), (1, vI x1), (2, vI x2), (3, vI x3), (4, vI x4), (5, vI x5), (6, vI x6), (7, vI x7), (8, vI x8), (10, vI sx0)] [] h) ∧ (sx0 = ((-1) : Int32) → ea_W mX12_goings d h0 rv hE 60 [(0, vR (some (b0 + 0))), (1, vI x1), (2, vI x2), (3, vI x3), (4, vI x4), (5, vI x5), (6, vI (x6 + 1))] [] h))) : ea_W mX12_goings d h0 rv hE 147 [(0, vR (some (b0 + 0))), (1, vI x1), (2, vI x2), (3, vI x3), (4, vI x4), (5, vI x5), (6, vI x6), (7, vI x7), (8, vI x8)] [vI sx0] h := by
  refine ea_istore (pc := 147) (lv' := [(0, vR (some (b0 + 0))), (1, vI x1), (2, vI x2), (3, vI x3), (4, vI x4), (5, vI x5), (6, vI x6), (7, vI x7), (8, vI x8), (10, vI sx0)]) dX12_goings_147 (Nat.le_of_ble_eq_true rfl) [1, 2, 3, 4, 5, 6, 7, 8, 9, 0] rfl ?_
  refine ea_iload (pc := 149) dX12_goings_149 8 rfl ?_
  refine ea_iload (pc := 151) dX12_goings_151 4 rfl ?_
  refine ea_icmp_eq (pc := 153) (tgt := 165) dX12_goings_153 rfl (fun c2 => ?_) (fun c2 => ?_)
  · have H := H.1 c2
    exact H
  · have H := H.2 c2
    refine ea_iload (pc := 156) dX12_goings_156 9 rfl ?_
    refine ea_iconst (pc := 158) dX12_goings_158 (v := (-1)) rfl ?_
    refine ea_icmp_ne (pc := 159) (tgt := 165) dX12_goings_159 rfl (fun c1 => ?_) (fun c1 => ?_)
    · have H := H.1 c1
      exact H
    · have H := H.2 c1
      refine ea_goto (pc := 162) (tgt := 286) dX12_goings_162 rfl ?_
      refine ea_iinc (pc := 286) (v := 1) (lv' := [(0, vR (some (b0 + 0))), (1, vI x1), (2, vI x2), (3, vI x3), (4, vI x4), (5, vI x5), (6, vI (x6 + 1))]) dX12_goings_286 6 rfl rfl (Nat.le_of_ble_eq_true rfl) [1, 2, 3, 4, 5, 6, 0] rfl ?_
      refine ea_goto (pc := 289) (tgt := 60) dX12_goings_289 rfl ?_
      exact H
set_option maxRecDepth 100000 in
set_option maxHeartbeats 4000000 in
theorem pX12_goings_165 {d b0 : Nat} {h0 hE h : ea_H} {rv : Option ea_V} {x1 : Int32} {x2 : Int32} {x3 : Int32} {x4 : Int32} {x5 : Int32} {x6 : Int32} {x7 : Int32} {x8 : Int32} {x10 : Int32} (hd : 2 ≤ d) (hs_h : ShM b0 h) (H : (¬ x8 = x4 → vp_in (((12 : Int32) * x10) + x4) 12000 ∧ ea_W mX12_goings d h0 rv hE 190 [(0, vR (some (b0 + 0))), (1, vI x1), (2, vI x2), (3, vI x3), (4, vI x4), (5, vI x5), (6, vI x6), (8, vI x8), (10, vI x10)] [vI (ea_i h (b0 + 15) (Int32.toNatClampNeg (((12 : Int32) * x10) + x4)))] h) ∧ (x8 = x4 → ea_W mX12_goings d h0 rv hE 190 [(0, vR (some (b0 + 0))), (1, vI x1), (2, vI x2), (3, vI x3), (4, vI x4), (5, vI x5), (6, vI x6), (8, vI x8), (10, vI x10)] [vI x7] h)) : ea_W mX12_goings d h0 rv hE 165 [(0, vR (some (b0 + 0))), (1, vI x1), (2, vI x2), (3, vI x3), (4, vI x4), (5, vI x5), (6, vI x6), (7, vI x7), (8, vI x8), (10, vI x10)] [] h := by
  refine ea_iload (pc := 165) dX12_goings_165 8 rfl ?_
  refine ea_iload (pc := 167) dX12_goings_167 4 rfl ?_
  refine ea_icmp_ne (pc := 169) (tgt := 177) dX12_goings_169 rfl (fun c2 => ?_) (fun c2 => ?_)
  · have H := H.1 c2
    refine ea_aload_n (pc := 177) dX12_goings_177 rfl 0 rfl ?_
    refine ea_getR (pc := 178) dX12_goings_178 ec_12 (k := 19) (Nat.le_of_ble_eq_true rfl) rfl (Or.inl ew_1364) (hs_h.1 0 (by decide)).1 (hs_h.1 0 (by decide)).2.1 (hs_h.2 0 19 rfl) ?_
    refine ea_bipush (pc := 181) dX12_goings_181 (v := 12) rfl ?_
    refine ea_iload (pc := 183) dX12_goings_183 9 rfl ?_
    refine ea_imul (pc := 185) dX12_goings_185 ?_
    refine ea_iload (pc := 186) dX12_goings_186 4 rfl ?_
    refine ea_iadd (pc := 188) dX12_goings_188 ?_
    obtain ⟨z1, H⟩ := H
    refine ea_iald (pc := 189) dX12_goings_189 (hs_h.1 15 (by decide)).1 (hs_h.1 15 (by decide)).2.1 (ea_vpl (hs_h.1 15 (by decide)).2.2 z1) ?_
    exact ea_fewer [0, 1, 2, 3, 4, 5, 6, 8, 9] rfl H
  · have H := H.2 c2
    refine ea_iload (pc := 172) dX12_goings_172 7 rfl ?_
    refine ea_goto (pc := 174) (tgt := 190) dX12_goings_174 rfl ?_
    exact ea_fewer [0, 1, 2, 3, 4, 5, 6, 8, 9] rfl H
set_option maxRecDepth 100000 in
set_option maxHeartbeats 4000000 in
theorem pX12_goings_190 {d b0 : Nat} {h0 hE h : ea_H} {rv : Option ea_V} {x1 : Int32} {x2 : Int32} {x3 : Int32} {x4 : Int32} {x5 : Int32} {x6 : Int32} {x8 : Int32} {x10 : Int32} {sx0 : Int32} (hd : 2 ≤ d) (hs_h : ShM b0 h) (H : (¬ x8 = x4 → vp_in (((12 : Int32) * x10) + x4) 12000 ∧ ea_W mX12_goings d h0 rv hE 218 [(0, vR (some (b0 + 0))), (1, vI x1), (2, vI x2), (3, vI x3), (4, vI x4), (5, vI x5), (6, vI x6), (11, vI sx0)] [vI ((ea_i h (b0 + 16) (Int32.toNatClampNeg (((12 : Int32) * x10) + x4))) + (1 : Int32))] h) ∧ (x8 = x4 → ea_W mX12_goings d h0 rv hE 218 [(0, vR (some (b0 + 0))), (1, vI x1), (2, vI x2), (3, vI x3), (4, vI x4), (5, vI x5), (6, vI x6), (11, vI sx0)] [vI 1] h)) : ea_W mX12_goings d h0 rv hE 190 [(0, vR (some (b0 + 0))), (1, vI x1), (2, vI x2), (3, vI x3), (4, vI x4), (5, vI x5), (6, vI x6), (8, vI x8), (10, vI x10)] [vI sx0] h := by
  refine ea_istore (pc := 190) (lv' := [(0, vR (some (b0 + 0))), (1, vI x1), (2, vI x2), (3, vI x3), (4, vI x4), (5, vI x5), (6, vI x6), (8, vI x8), (10, vI x10), (11, vI sx0)]) dX12_goings_190 (Nat.le_of_ble_eq_true rfl) [1, 2, 3, 4, 5, 6, 7, 8, 9, 0] rfl ?_
  refine ea_iload (pc := 192) dX12_goings_192 7 rfl ?_
  refine ea_iload (pc := 194) dX12_goings_194 4 rfl ?_
  refine ea_icmp_ne (pc := 196) (tgt := 203) dX12_goings_196 rfl (fun c2 => ?_) (fun c2 => ?_)
  · have H := H.1 c2
    refine ea_aload_n (pc := 203) dX12_goings_203 rfl 0 rfl ?_
    refine ea_getR (pc := 204) dX12_goings_204 ec_12 (k := 20) (Nat.le_of_ble_eq_true rfl) rfl (Or.inl ew_1365) (hs_h.1 0 (by decide)).1 (hs_h.1 0 (by decide)).2.1 (hs_h.2 0 20 rfl) ?_
    refine ea_bipush (pc := 207) dX12_goings_207 (v := 12) rfl ?_
    refine ea_iload (pc := 209) dX12_goings_209 8 rfl ?_
    refine ea_imul (pc := 211) dX12_goings_211 ?_
    refine ea_iload (pc := 212) dX12_goings_212 4 rfl ?_
    refine ea_iadd (pc := 214) dX12_goings_214 ?_
    obtain ⟨z1, H⟩ := H
    refine ea_iald (pc := 215) dX12_goings_215 (hs_h.1 16 (by decide)).1 (hs_h.1 16 (by decide)).2.1 (ea_vpl (hs_h.1 16 (by decide)).2.2 z1) ?_
    refine ea_iconst (pc := 216) dX12_goings_216 (v := 1) rfl ?_
    refine ea_iadd (pc := 217) dX12_goings_217 ?_
    exact ea_fewer [0, 1, 2, 3, 4, 5, 6, 9] rfl H
  · have H := H.2 c2
    refine ea_iconst (pc := 199) dX12_goings_199 (v := 1) rfl ?_
    refine ea_goto (pc := 200) (tgt := 218) dX12_goings_200 rfl ?_
    exact ea_fewer [0, 1, 2, 3, 4, 5, 6, 9] rfl H
set_option maxRecDepth 100000 in
set_option maxHeartbeats 4000000 in
theorem pX12_goings_218 {d b0 : Nat} {h0 hE h : ea_H} {rv : Option ea_V} {x1 : Int32} {x2 : Int32} {x3 : Int32} {x4 : Int32} {x5 : Int32} {x6 : Int32} {x11 : Int32} {sx0 : Int32} (hd : 2 ≤ d) (hs_h : ShM b0 h) (H : vp_in x5 12000 ∧ ((ea_i h (b0 + 15) (Int32.toNatClampNeg x5)) < x11 → ea_W mX12_goings d h0 rv hE 60 [(0, vR (some (b0 + 0))), (1, vI x1), (2, vI x2), (3, vI x3), (4, vI x4), (5, vI x5), (6, vI (x6 + 1))] [] h) ∧ (¬ (ea_i h (b0 + 15) (Int32.toNatClampNeg x5)) < x11 → vp_in x5 12000 ∧ (¬ x11 = (ea_i h (b0 + 15) (Int32.toNatClampNeg x5)) → ea_W mX12_goings d h0 rv hE 259 [(0, vR (some (b0 + 0))), (1, vI x1), (2, vI x2), (3, vI x3), (4, vI x4), (5, vI x5), (6, vI x6), (11, vI x11), (12, vI sx0)] [] h) ∧ (x11 = (ea_i h (b0 + 15) (Int32.toNatClampNeg x5)) → vp_in x5 12000 ∧ (sx0 < (ea_i h (b0 + 16) (Int32.toNatClampNeg x5)) → ea_W mX12_goings d h0 rv hE 259 [(0, vR (some (b0 + 0))), (1, vI x1), (2, vI x2), (3, vI x3), (4, vI x4), (5, vI x5), (6, vI x6), (11, vI x11), (12, vI sx0)] [] h) ∧ (¬ sx0 < (ea_i h (b0 + 16) (Int32.toNatClampNeg x5)) → ea_W mX12_goings d h0 rv hE 60 [(0, vR (some (b0 + 0))), (1, vI x1), (2, vI x2), (3, vI x3), (4, vI x4), (5, vI x5), (6, vI (x6 + 1))] [] h)))) : ea_W mX12_goings d h0 rv hE 218 [(0, vR (some (b0 + 0))), (1, vI x1), (2, vI x2), (3, vI x3), (4, vI x4), (5, vI x5), (6, vI x6), (11, vI x11)] [vI sx0] h := by
  refine ea_istore (pc := 218) (lv' := [(0, vR (some (b0 + 0))), (1, vI x1), (2, vI x2), (3, vI x3), (4, vI x4), (5, vI x5), (6, vI x6), (11, vI x11), (12, vI sx0)]) dX12_goings_218 (Nat.le_of_ble_eq_true rfl) [1, 2, 3, 4, 5, 6, 7, 8, 0] rfl ?_
  refine ea_iload (pc := 220) dX12_goings_220 7 rfl ?_
  refine ea_aload_n (pc := 222) dX12_goings_222 rfl 0 rfl ?_
  refine ea_getR (pc := 223) dX12_goings_223 ec_12 (k := 19) (Nat.le_of_ble_eq_true rfl) rfl (Or.inl ew_1364) (hs_h.1 0 (by decide)).1 (hs_h.1 0 (by decide)).2.1 (hs_h.2 0 19 rfl) ?_
  refine ea_iload (pc := 226) dX12_goings_226 5 rfl ?_
  obtain ⟨z1, H⟩ := H
  refine ea_iald (pc := 228) dX12_goings_228 (hs_h.1 15 (by decide)).1 (hs_h.1 15 (by decide)).2.1 (ea_vpl (hs_h.1 15 (by decide)).2.2 z1) ?_
  refine ea_icmp_gt (pc := 229) (tgt := 286) dX12_goings_229 rfl (fun c6 => ?_) (fun c6 => ?_)
  · have H := H.1 c6
    refine ea_iinc (pc := 286) (v := 1) (lv' := [(0, vR (some (b0 + 0))), (1, vI x1), (2, vI x2), (3, vI x3), (4, vI x4), (5, vI x5), (6, vI (x6 + 1))]) dX12_goings_286 6 rfl rfl (Nat.le_of_ble_eq_true rfl) [1, 2, 3, 4, 5, 6, 0] rfl ?_
    refine ea_goto (pc := 289) (tgt := 60) dX12_goings_289 rfl ?_
    exact H
  · have H := H.2 c6
    refine ea_iload (pc := 232) dX12_goings_232 7 rfl ?_
    refine ea_aload_n (pc := 234) dX12_goings_234 rfl 0 rfl ?_
    refine ea_getR (pc := 235) dX12_goings_235 ec_12 (k := 19) (Nat.le_of_ble_eq_true rfl) rfl (Or.inl ew_1364) (hs_h.1 0 (by decide)).1 (hs_h.1 0 (by decide)).2.1 (hs_h.2 0 19 rfl) ?_
    refine ea_iload (pc := 238) dX12_goings_238 5 rfl ?_
    obtain ⟨z2, H⟩ := H
    refine ea_iald (pc := 240) dX12_goings_240 (hs_h.1 15 (by decide)).1 (hs_h.1 15 (by decide)).2.1 (ea_vpl (hs_h.1 15 (by decide)).2.2 z2) ?_
    refine ea_icmp_ne (pc := 241) (tgt := 259) dX12_goings_241 rfl (fun c5 => ?_) (fun c5 => ?_)
    · have H := H.1 c5
      exact H
    · have H := H.2 c5
      refine ea_iload (pc := 244) dX12_goings_244 8 rfl ?_
      refine ea_aload_n (pc := 246) dX12_goings_246 rfl 0 rfl ?_
      refine ea_getR (pc := 247) dX12_goings_247 ec_12 (k := 20) (Nat.le_of_ble_eq_true rfl) rfl (Or.inl ew_1365) (hs_h.1 0 (by decide)).1 (hs_h.1 0 (by decide)).2.1 (hs_h.2 0 20 rfl) ?_
      refine ea_iload (pc := 250) dX12_goings_250 5 rfl ?_
      obtain ⟨z3, H⟩ := H
      refine ea_iald (pc := 252) dX12_goings_252 (hs_h.1 16 (by decide)).1 (hs_h.1 16 (by decide)).2.1 (ea_vpl (hs_h.1 16 (by decide)).2.2 z3) ?_
      refine ea_icmp_lt (pc := 253) (tgt := 259) dX12_goings_253 rfl (fun c4 => ?_) (fun c4 => ?_)
      · have H := H.1 c4
        exact H
      · have H := H.2 c4
        refine ea_goto (pc := 256) (tgt := 286) dX12_goings_256 rfl ?_
        refine ea_iinc (pc := 286) (v := 1) (lv' := [(0, vR (some (b0 + 0))), (1, vI x1), (2, vI x2), (3, vI x3), (4, vI x4), (5, vI x5), (6, vI (x6 + 1))]) dX12_goings_286 6 rfl rfl (Nat.le_of_ble_eq_true rfl) [1, 2, 3, 4, 5, 6, 0] rfl ?_
        refine ea_goto (pc := 289) (tgt := 60) dX12_goings_289 rfl ?_
        exact H
set_option maxRecDepth 100000 in
set_option maxHeartbeats 4000000 in
theorem pX12_goings_259 {d b0 : Nat} {h0 hE h : ea_H} {rv : Option ea_V} {x1 : Int32} {x2 : Int32} {x3 : Int32} {x4 : Int32} {x5 : Int32} {x6 : Int32} {x11 : Int32} {x12 : Int32} (hd : 2 ≤ d) (hs_h : ShM b0 h) (H : vp_in x5 12000 ∧ ∀ h2, h2 = ea_wi h (b0 + 15) (Int32.toNatClampNeg x5) x11 → vp_in x5 12000 ∧ ∀ h5, h5 = ea_wi h2 (b0 + 16) (Int32.toNatClampNeg x5) x12 → vp_in x5 12000 ∧ ∀ h8, h8 = ea_wi h5 (b0 + 17) (Int32.toNatClampNeg x5) x6 → ea_W mX12_goings d h0 rv hE 60 [(0, vR (some (b0 + 0))), (1, vI x1), (2, vI x2), (3, vI x3), (4, vI x4), (5, vI x5), (6, vI (x6 + 1))] [] h8) : ea_W mX12_goings d h0 rv hE 259 [(0, vR (some (b0 + 0))), (1, vI x1), (2, vI x2), (3, vI x3), (4, vI x4), (5, vI x5), (6, vI x6), (11, vI x11), (12, vI x12)] [] h := by
  refine ea_aload_n (pc := 259) dX12_goings_259 rfl 0 rfl ?_
  refine ea_getR (pc := 260) dX12_goings_260 ec_12 (k := 19) (Nat.le_of_ble_eq_true rfl) rfl (Or.inl ew_1364) (hs_h.1 0 (by decide)).1 (hs_h.1 0 (by decide)).2.1 (hs_h.2 0 19 rfl) ?_
  refine ea_iload (pc := 263) dX12_goings_263 5 rfl ?_
  refine ea_iload (pc := 265) dX12_goings_265 7 rfl ?_
  obtain ⟨z1, H⟩ := H
  refine ea_iast (pc := 267) dX12_goings_267 (hs_h.1 15 (by decide)).1 (hs_h.1 15 (by decide)).2.1 (ea_vpl (hs_h.1 15 (by decide)).2.2 z1) ?_
  obtain ⟨h2, E3⟩ : ∃ z, z = ea_wi h (b0 + 15) (Int32.toNatClampNeg x5) x11 := ⟨_, rfl⟩
  have H := H h2 E3
  refine ea_nm E3 ?_
  have hs_h2 : ShM b0 h2 := by rw [E3]; exact ShM_wi hs_h
  refine ea_aload_n (pc := 268) dX12_goings_268 rfl 0 rfl ?_
  refine ea_getR (pc := 269) dX12_goings_269 ec_12 (k := 20) (Nat.le_of_ble_eq_true rfl) rfl (Or.inl ew_1365) (hs_h2.1 0 (by decide)).1 (hs_h2.1 0 (by decide)).2.1 (hs_h2.2 0 20 rfl) ?_
  refine ea_iload (pc := 272) dX12_goings_272 5 rfl ?_
  refine ea_iload (pc := 274) dX12_goings_274 8 rfl ?_
  obtain ⟨z4, H⟩ := H
  refine ea_iast (pc := 276) dX12_goings_276 (hs_h2.1 16 (by decide)).1 (hs_h2.1 16 (by decide)).2.1 (ea_vpl (hs_h2.1 16 (by decide)).2.2 z4) ?_
  obtain ⟨h5, E6⟩ : ∃ z, z = ea_wi h2 (b0 + 16) (Int32.toNatClampNeg x5) x12 := ⟨_, rfl⟩
  have H := H h5 E6
  refine ea_nm E6 ?_
  have hs_h5 : ShM b0 h5 := by rw [E6]; exact ShM_wi hs_h2
  refine ea_aload_n (pc := 277) dX12_goings_277 rfl 0 rfl ?_
  refine ea_getR (pc := 278) dX12_goings_278 ec_12 (k := 21) (Nat.le_of_ble_eq_true rfl) rfl (Or.inl ew_1366) (hs_h5.1 0 (by decide)).1 (hs_h5.1 0 (by decide)).2.1 (hs_h5.2 0 21 rfl) ?_
  refine ea_iload (pc := 281) dX12_goings_281 5 rfl ?_
  refine ea_iload (pc := 283) dX12_goings_283 6 rfl ?_
  obtain ⟨z7, H⟩ := H
  refine ea_iast (pc := 285) dX12_goings_285 (hs_h5.1 17 (by decide)).1 (hs_h5.1 17 (by decide)).2.1 (ea_vpl (hs_h5.1 17 (by decide)).2.2 z7) ?_
  obtain ⟨h8, E9⟩ : ∃ z, z = ea_wi h5 (b0 + 17) (Int32.toNatClampNeg x5) x6 := ⟨_, rfl⟩
  have H := H h8 E9
  refine ea_nm E9 ?_
  have hs_h8 : ShM b0 h8 := by rw [E9]; exact ShM_wi hs_h5
  refine ea_iinc (pc := 286) (v := 1) (lv' := [(0, vR (some (b0 + 0))), (1, vI x1), (2, vI x2), (3, vI x3), (4, vI x4), (5, vI x5), (6, vI (x6 + 1))]) dX12_goings_286 6 rfl rfl (Nat.le_of_ble_eq_true rfl) [1, 2, 3, 4, 5, 6, 0] rfl ?_
  refine ea_goto (pc := 289) (tgt := 60) dX12_goings_289 rfl ?_
  exact H
set_option maxRecDepth 100000 in
set_option maxHeartbeats 4000000 in
theorem pX12_goings_320 {d b0 : Nat} {h0 hE h : ea_H} {rv : Option ea_V} {x1 : Int32} {x4 : Int32} (hd : 2 ≤ d) (hs_h : ShM b0 h) (H : ((ea_i h (b0 + 0) 1) ≤ x4 → rv = none ∧ hE = h) ∧ (¬ (ea_i h (b0 + 0) 1) ≤ x4 → vp_in x1 1000 ∧ (¬ (ea_i h (b0 + 19) (Int32.toNatClampNeg x1)) = ((-1) : Int32) → vp_in x1 1000 ∧ vp_in (((12 : Int32) * (ea_i h (b0 + 19) (Int32.toNatClampNeg x1))) + x4) 12000 ∧ ea_W mX12_goings d h0 rv hE 360 [(0, vR (some (b0 + 0))), (1, vI x1), (4, vI x4)] [vI (ea_i h (b0 + 18) (Int32.toNatClampNeg (((12 : Int32) * (ea_i h (b0 + 19) (Int32.toNatClampNeg x1))) + x4)))] h) ∧ ((ea_i h (b0 + 19) (Int32.toNatClampNeg x1)) = ((-1) : Int32) → ea_W mX12_goings d h0 rv hE 360 [(0, vR (some (b0 + 0))), (1, vI x1), (4, vI x4)] [vI (-1)] h))) : ea_W mX12_goings d h0 rv hE 320 [(0, vR (some (b0 + 0))), (1, vI x1), (4, vI x4)] [] h := by
  refine ea_iload (pc := 320) dX12_goings_320 2 rfl ?_
  refine ea_aload_n (pc := 322) dX12_goings_322 rfl 0 rfl ?_
  refine ea_getI (pc := 323) dX12_goings_323 ec_12 (k := 1) (Nat.le_of_ble_eq_true rfl) rfl (Or.inl ew_1346) (hs_h.1 0 (by decide)).1 (hs_h.1 0 (by decide)).2.1 ?_
  refine ea_icmp_ge (pc := 326) (tgt := 427) dX12_goings_326 rfl (fun c5 => ?_) (fun c5 => ?_)
  · have H := H.1 c5
    obtain ⟨rfl, rfl⟩ := H
    exact ea_return (pc := 427) dX12_goings_427 rfl
  · have H := H.2 c5
    refine ea_aload_n (pc := 329) dX12_goings_329 rfl 0 rfl ?_
    refine ea_getR (pc := 330) dX12_goings_330 ec_12 (k := 23) (Nat.le_of_ble_eq_true rfl) rfl (Or.inl ew_1368) (hs_h.1 0 (by decide)).1 (hs_h.1 0 (by decide)).2.1 (hs_h.2 0 23 rfl) ?_
    refine ea_iload_n (pc := 333) dX12_goings_333 rfl 1 rfl ?_
    obtain ⟨z1, H⟩ := H
    refine ea_iald (pc := 334) dX12_goings_334 (hs_h.1 19 (by decide)).1 (hs_h.1 19 (by decide)).2.1 (ea_vpl (hs_h.1 19 (by decide)).2.2 z1) ?_
    refine ea_iconst (pc := 335) dX12_goings_335 (v := (-1)) rfl ?_
    refine ea_icmp_ne (pc := 336) (tgt := 343) dX12_goings_336 rfl (fun c4 => ?_) (fun c4 => ?_)
    · have H := H.1 c4
      refine ea_aload_n (pc := 343) dX12_goings_343 rfl 0 rfl ?_
      refine ea_getR (pc := 344) dX12_goings_344 ec_12 (k := 22) (Nat.le_of_ble_eq_true rfl) rfl (Or.inl ew_1367) (hs_h.1 0 (by decide)).1 (hs_h.1 0 (by decide)).2.1 (hs_h.2 0 22 rfl) ?_
      refine ea_bipush (pc := 347) dX12_goings_347 (v := 12) rfl ?_
      refine ea_aload_n (pc := 349) dX12_goings_349 rfl 0 rfl ?_
      refine ea_getR (pc := 350) dX12_goings_350 ec_12 (k := 23) (Nat.le_of_ble_eq_true rfl) rfl (Or.inl ew_1368) (hs_h.1 0 (by decide)).1 (hs_h.1 0 (by decide)).2.1 (hs_h.2 0 23 rfl) ?_
      refine ea_iload_n (pc := 353) dX12_goings_353 rfl 1 rfl ?_
      obtain ⟨z2, H⟩ := H
      refine ea_iald (pc := 354) dX12_goings_354 (hs_h.1 19 (by decide)).1 (hs_h.1 19 (by decide)).2.1 (ea_vpl (hs_h.1 19 (by decide)).2.2 z2) ?_
      refine ea_imul (pc := 355) dX12_goings_355 ?_
      refine ea_iload (pc := 356) dX12_goings_356 2 rfl ?_
      refine ea_iadd (pc := 358) dX12_goings_358 ?_
      obtain ⟨z3, H⟩ := H
      refine ea_iald (pc := 359) dX12_goings_359 (hs_h.1 18 (by decide)).1 (hs_h.1 18 (by decide)).2.1 (ea_vpl (hs_h.1 18 (by decide)).2.2 z3) ?_
      exact H
    · have H := H.2 c4
      refine ea_iconst (pc := 339) dX12_goings_339 (v := (-1)) rfl ?_
      refine ea_goto (pc := 340) (tgt := 360) dX12_goings_340 rfl ?_
      exact H
set_option maxRecDepth 100000 in
set_option maxHeartbeats 4000000 in
theorem pX12_goings_360 {d b0 : Nat} {h0 hE h : ea_H} {rv : Option ea_V} {x1 : Int32} {x4 : Int32} {sx0 : Int32} (hd : 2 ≤ d) (hs_h : ShM b0 h) (H : vp_in (((12 : Int32) * x1) + x4) 12000 ∧ (¬ (ea_i h (b0 + 15) (Int32.toNatClampNeg (((12 : Int32) * x1) + x4))) = (1000000 : Int32) → (sx0 = ((-1) : Int32) → vp_in (((12 : Int32) * x1) + x4) 12000 ∧ ∀ h3, h3 = ea_wi h (b0 + 18) (Int32.toNatClampNeg (((12 : Int32) * x1) + x4)) x1 → ea_W mX12_goings d h0 rv hE 320 [(0, vR (some (b0 + 0))), (1, vI x1), (4, vI (x4 + 1))] [] h3) ∧ (¬ sx0 = ((-1) : Int32) → (okX12_isBetter b0 (x1 : Int32) (sx0 : Int32) (x4 : Int32) h) ∧ ((vX12_isBetter b0 (x1 : Int32) (sx0 : Int32) (x4 : Int32) h) = (0 : Int32) → vp_in (((12 : Int32) * x1) + x4) 12000 ∧ ∀ h18, h18 = ea_wi h (b0 + 18) (Int32.toNatClampNeg (((12 : Int32) * x1) + x4)) sx0 → ea_W mX12_goings d h0 rv hE 320 [(0, vR (some (b0 + 0))), (1, vI x1), (4, vI (x4 + 1))] [] h18) ∧ (¬ (vX12_isBetter b0 (x1 : Int32) (sx0 : Int32) (x4 : Int32) h) = (0 : Int32) → vp_in (((12 : Int32) * x1) + x4) 12000 ∧ ∀ h21, h21 = ea_wi h (b0 + 18) (Int32.toNatClampNeg (((12 : Int32) * x1) + x4)) x1 → ea_W mX12_goings d h0 rv hE 320 [(0, vR (some (b0 + 0))), (1, vI x1), (4, vI (x4 + 1))] [] h21))) ∧ ((ea_i h (b0 + 15) (Int32.toNatClampNeg (((12 : Int32) * x1) + x4))) = (1000000 : Int32) → vp_in (((12 : Int32) * x1) + x4) 12000 ∧ ∀ h27, h27 = ea_wi h (b0 + 18) (Int32.toNatClampNeg (((12 : Int32) * x1) + x4)) sx0 → ea_W mX12_goings d h0 rv hE 320 [(0, vR (some (b0 + 0))), (1, vI x1), (4, vI (x4 + 1))] [] h27)) : ea_W mX12_goings d h0 rv hE 360 [(0, vR (some (b0 + 0))), (1, vI x1), (4, vI x4)] [vI sx0] h := by
  refine ea_istore (pc := 360) (lv' := [(0, vR (some (b0 + 0))), (1, vI x1), (4, vI x4), (5, vI sx0)]) dX12_goings_360 (Nat.le_of_ble_eq_true rfl) [1, 2, 3, 0] rfl ?_
  refine ea_aload_n (pc := 362) dX12_goings_362 rfl 0 rfl ?_
  refine ea_getR (pc := 363) dX12_goings_363 ec_12 (k := 22) (Nat.le_of_ble_eq_true rfl) rfl (Or.inl ew_1367) (hs_h.1 0 (by decide)).1 (hs_h.1 0 (by decide)).2.1 (hs_h.2 0 22 rfl) ?_
  refine ea_bipush (pc := 366) dX12_goings_366 (v := 12) rfl ?_
  refine ea_iload_n (pc := 368) dX12_goings_368 rfl 1 rfl ?_
  refine ea_imul (pc := 369) dX12_goings_369 ?_
  refine ea_iload (pc := 370) dX12_goings_370 2 rfl ?_
  refine ea_iadd (pc := 372) dX12_goings_372 ?_
  refine ea_aload_n (pc := 373) dX12_goings_373 rfl 0 rfl ?_
  refine ea_getR (pc := 374) dX12_goings_374 ec_12 (k := 19) (Nat.le_of_ble_eq_true rfl) rfl (Or.inl ew_1364) (hs_h.1 0 (by decide)).1 (hs_h.1 0 (by decide)).2.1 (hs_h.2 0 19 rfl) ?_
  refine ea_bipush (pc := 377) dX12_goings_377 (v := 12) rfl ?_
  refine ea_iload_n (pc := 379) dX12_goings_379 rfl 1 rfl ?_
  refine ea_imul (pc := 380) dX12_goings_380 ?_
  refine ea_iload (pc := 381) dX12_goings_381 2 rfl ?_
  refine ea_iadd (pc := 383) dX12_goings_383 ?_
  obtain ⟨z1, H⟩ := H
  refine ea_iald (pc := 384) dX12_goings_384 (hs_h.1 15 (by decide)).1 (hs_h.1 15 (by decide)).2.1 (ea_vpl (hs_h.1 15 (by decide)).2.2 z1) ?_
  refine ea_ldcw (pc := 385) dX12_goings_385 ew_1727 ?_
  refine ea_icmp_ne (pc := 388) (tgt := 396) dX12_goings_388 rfl (fun c29 => ?_) (fun c29 => ?_)
  · have H := H.1 c29
    refine ea_iload (pc := 396) dX12_goings_396 3 rfl ?_
    refine ea_iconst (pc := 398) dX12_goings_398 (v := (-1)) rfl ?_
    refine ea_icmp_eq (pc := 399) (tgt := 414) dX12_goings_399 rfl (fun c25 => ?_) (fun c25 => ?_)
    · have H := H.1 c25
      refine ea_iload_n (pc := 414) dX12_goings_414 rfl 1 rfl ?_
      refine ea_goto (pc := 415) (tgt := 420) dX12_goings_415 rfl ?_
      obtain ⟨z2, H⟩ := H
      refine ea_iast (pc := 420) dX12_goings_420 (hs_h.1 18 (by decide)).1 (hs_h.1 18 (by decide)).2.1 (ea_vpl (hs_h.1 18 (by decide)).2.2 z2) ?_
      obtain ⟨h3, E4⟩ : ∃ z, z = ea_wi h (b0 + 18) (Int32.toNatClampNeg (((12 : Int32) * x1) + x4)) x1 := ⟨_, rfl⟩
      have H := H h3 E4
      refine ea_nm E4 ?_
      have hs_h3 : ShM b0 h3 := by rw [E4]; exact ShM_wi hs_h
      refine ea_iinc (pc := 421) (v := 1) (lv' := [(0, vR (some (b0 + 0))), (1, vI x1), (4, vI (x4 + 1))]) dX12_goings_421 2 rfl rfl (Nat.le_of_ble_eq_true rfl) [1, 2, 0] rfl ?_
      refine ea_goto (pc := 424) (tgt := 320) dX12_goings_424 rfl ?_
      exact H
    · have H := H.2 c25
      refine ea_aload_n (pc := 402) dX12_goings_402 rfl 0 rfl ?_
      refine ea_iload_n (pc := 403) dX12_goings_403 rfl 1 rfl ?_
      refine ea_iload (pc := 404) dX12_goings_404 3 rfl ?_
      refine ea_iload (pc := 406) dX12_goings_406 2 rfl ?_
      obtain ⟨z24, H⟩ := H
      refine ea_callV (pc := 408) (d' := d - 1) (As := [vI x1, vI sx0, vI x4]) (st := [vI (((12 : Int32) * x1) + x4), vR (some (b0 + 18))]) dX12_goings_408 kX12_isBetter (sX12_isBetter (d := d - 1) (by omega) hs_h z24) (by omega) rfl (Nat.le_of_ble_eq_true rfl) ew_1806 ew_1808 ew_62 (ci := 12) rfl (by decide) (hs_h.1 0 (by decide)).1 (hs_h.1 0 (by decide)).2.1 ?_
      refine ea_if_eq (pc := 411) (tgt := 418) dX12_goings_411 rfl (fun c23 => ?_) (fun c23 => ?_)
      · have H := H.1 c23
        refine ea_iload (pc := 418) dX12_goings_418 3 rfl ?_
        obtain ⟨z17, H⟩ := H
        refine ea_iast (pc := 420) dX12_goings_420 (hs_h.1 18 (by decide)).1 (hs_h.1 18 (by decide)).2.1 (ea_vpl (hs_h.1 18 (by decide)).2.2 z17) ?_
        obtain ⟨h18, E19⟩ : ∃ z, z = ea_wi h (b0 + 18) (Int32.toNatClampNeg (((12 : Int32) * x1) + x4)) sx0 := ⟨_, rfl⟩
        have H := H h18 E19
        refine ea_nm E19 ?_
        have hs_h18 : ShM b0 h18 := by rw [E19]; exact ShM_wi hs_h
        refine ea_iinc (pc := 421) (v := 1) (lv' := [(0, vR (some (b0 + 0))), (1, vI x1), (4, vI (x4 + 1))]) dX12_goings_421 2 rfl rfl (Nat.le_of_ble_eq_true rfl) [1, 2, 0] rfl ?_
        refine ea_goto (pc := 424) (tgt := 320) dX12_goings_424 rfl ?_
        exact H
      · have H := H.2 c23
        refine ea_iload_n (pc := 414) dX12_goings_414 rfl 1 rfl ?_
        refine ea_goto (pc := 415) (tgt := 420) dX12_goings_415 rfl ?_
        obtain ⟨z20, H⟩ := H
        refine ea_iast (pc := 420) dX12_goings_420 (hs_h.1 18 (by decide)).1 (hs_h.1 18 (by decide)).2.1 (ea_vpl (hs_h.1 18 (by decide)).2.2 z20) ?_
        obtain ⟨h21, E22⟩ : ∃ z, z = ea_wi h (b0 + 18) (Int32.toNatClampNeg (((12 : Int32) * x1) + x4)) x1 := ⟨_, rfl⟩
        have H := H h21 E22
        refine ea_nm E22 ?_
        have hs_h21 : ShM b0 h21 := by rw [E22]; exact ShM_wi hs_h
        refine ea_iinc (pc := 421) (v := 1) (lv' := [(0, vR (some (b0 + 0))), (1, vI x1), (4, vI (x4 + 1))]) dX12_goings_421 2 rfl rfl (Nat.le_of_ble_eq_true rfl) [1, 2, 0] rfl ?_
        refine ea_goto (pc := 424) (tgt := 320) dX12_goings_424 rfl ?_
        exact H
  · have H := H.2 c29
    refine ea_iload (pc := 391) dX12_goings_391 3 rfl ?_
    refine ea_goto (pc := 393) (tgt := 420) dX12_goings_393 rfl ?_
    obtain ⟨z26, H⟩ := H
    refine ea_iast (pc := 420) dX12_goings_420 (hs_h.1 18 (by decide)).1 (hs_h.1 18 (by decide)).2.1 (ea_vpl (hs_h.1 18 (by decide)).2.2 z26) ?_
    obtain ⟨h27, E28⟩ : ∃ z, z = ea_wi h (b0 + 18) (Int32.toNatClampNeg (((12 : Int32) * x1) + x4)) sx0 := ⟨_, rfl⟩
    have H := H h27 E28
    refine ea_nm E28 ?_
    have hs_h27 : ShM b0 h27 := by rw [E28]; exact ShM_wi hs_h
    refine ea_iinc (pc := 421) (v := 1) (lv' := [(0, vR (some (b0 + 0))), (1, vI x1), (4, vI (x4 + 1))]) dX12_goings_421 2 rfl rfl (Nat.le_of_ble_eq_true rfl) [1, 2, 0] rfl ?_
    refine ea_goto (pc := 424) (tgt := 320) dX12_goings_424 rfl ?_
    exact H
theorem pX12_bestFrom_0 {d b0 : Nat} {h0 hE h : ea_H} {rv : Option ea_V} {x1 : Int32} {x2 : Int32} {x3 : Int32} (hd : 1 ≤ d) (hs_h : ShM b0 h) (H : ∃ (d1 : Nat) (h2 : ea_H), ea_Met mX12_table d1 [vR (some (b0 + 0))] h none h2 ∧ d1 + 1 ≤ d ∧ ShM b0 h2 ∧ ∃ (d5 : Nat) (xc9 : Int32) (h6 : ea_H), ea_Met mX12_going d5 [vR (some (b0 + 0)), vI x1, vI x2] h2 (some (vI xc9)) h6 ∧ d5 + 1 ≤ d ∧ ShM b0 h6 ∧ (¬ xc9 = ((-1) : Int32) → vp_in (((12 : Int32) * xc9) + x3) 12000 ∧ rv = some (vI (ea_i h6 (b0 + 18) (Int32.toNatClampNeg (((12 : Int32) * xc9) + x3)))) ∧ hE = h6) ∧ (xc9 = ((-1) : Int32) → rv = some (vI (-1)) ∧ hE = h6)) : ea_W mX12_bestFrom d h0 rv hE 0 [(0, vR (some (b0 + 0))), (1, vI x1), (2, vI x2), (3, vI x3)] [] h := by
  refine ea_aload_n (pc := 0) dX12_bestFrom_0 rfl 0 rfl ?_
  obtain ⟨d1, h2, m3, q4, hs_h2, H⟩ := H
  refine ea_callV (pc := 1) (As := []) (st := []) dX12_bestFrom_1 kX12_table m3 q4 rfl (Nat.le_of_ble_eq_true rfl) ew_1774 ew_1776 ew_54 (ci := 12) rfl (by decide) (hs_h.1 0 (by decide)).1 (hs_h.1 0 (by decide)).2.1 ?_
  refine ea_aload_n (pc := 4) dX12_bestFrom_4 rfl 0 rfl ?_
  refine ea_iload_n (pc := 5) dX12_bestFrom_5 rfl 1 rfl ?_
  refine ea_iload_n (pc := 6) dX12_bestFrom_6 rfl 2 rfl ?_
  obtain ⟨d5, xc9, h6, m7, q8, hs_h6, H⟩ := H
  refine ea_callV (pc := 7) (As := [vI x1, vI x2]) (st := []) dX12_bestFrom_7 kX12_going m7 q8 rfl (Nat.le_of_ble_eq_true rfl) ew_1802 ew_1804 ew_61 (ci := 12) rfl (by decide) (hs_h2.1 0 (by decide)).1 (hs_h2.1 0 (by decide)).2.1 ?_
  refine ea_istore (pc := 10) (lv' := [(0, vR (some (b0 + 0))), (3, vI x3), (4, vI xc9)]) dX12_bestFrom_10 (Nat.le_of_ble_eq_true rfl) [1, 4, 0] rfl ?_
  refine ea_iload (pc := 12) dX12_bestFrom_12 2 rfl ?_
  refine ea_iconst (pc := 14) dX12_bestFrom_14 (v := (-1)) rfl ?_
  refine ea_icmp_ne (pc := 15) (tgt := 22) dX12_bestFrom_15 rfl (fun c11 => ?_) (fun c11 => ?_)
  · have H := H.1 c11
    refine ea_aload_n (pc := 22) dX12_bestFrom_22 rfl 0 rfl ?_
    refine ea_getR (pc := 23) dX12_bestFrom_23 ec_12 (k := 22) (Nat.le_of_ble_eq_true rfl) rfl (Or.inl ew_1367) (hs_h6.1 0 (by decide)).1 (hs_h6.1 0 (by decide)).2.1 (hs_h6.2 0 22 rfl) ?_
    refine ea_bipush (pc := 26) dX12_bestFrom_26 (v := 12) rfl ?_
    refine ea_iload (pc := 28) dX12_bestFrom_28 2 rfl ?_
    refine ea_imul (pc := 30) dX12_bestFrom_30 ?_
    refine ea_iload_n (pc := 31) dX12_bestFrom_31 rfl 1 rfl ?_
    refine ea_iadd (pc := 32) dX12_bestFrom_32 ?_
    obtain ⟨z10, H⟩ := H
    refine ea_iald (pc := 33) dX12_bestFrom_33 (hs_h6.1 18 (by decide)).1 (hs_h6.1 18 (by decide)).2.1 (ea_vpl (hs_h6.1 18 (by decide)).2.2 z10) ?_
    obtain ⟨rfl, rfl⟩ := H
    exact ea_ireturn (pc := 34) dX12_bestFrom_34 rfl rfl
  · have H := H.2 c11
    refine ea_iconst (pc := 18) dX12_bestFrom_18 (v := (-1)) rfl ?_
    refine ea_goto (pc := 19) (tgt := 34) dX12_bestFrom_19 rfl ?_
    obtain ⟨rfl, rfl⟩ := H
    exact ea_ireturn (pc := 34) dX12_bestFrom_34 rfl rfl
theorem pX12_way_0 {d b0 : Nat} {h0 hE h : ea_H} {rv : Option ea_V} {x1 : Int32} {x2 : Int32} {x3 : Int32} {x4 : Int32} (hd : 3 ≤ d) (hs_h : ShM b0 h) (H : ((vX12_isTown b0 (x1 : Int32) h) = (0 : Int32) → rv = some (vI (-1)) ∧ hE = h) ∧ (¬ (vX12_isTown b0 (x1 : Int32) h) = (0 : Int32) → ((vX12_isTown b0 (x3 : Int32) h) = (0 : Int32) → rv = some (vI (-1)) ∧ hE = h) ∧ (¬ (vX12_isTown b0 (x3 : Int32) h) = (0 : Int32) → (x1 = x3 → rv = some (vI (-1)) ∧ hE = h) ∧ (¬ x1 = x3 → (¬ (vX12_isIn (x2 : Int32) ((ea_i h (b0 + 0) 0) : Int32) (10079 : Int32) h) = (0 : Int32) → ∃ (d138 : Nat) (xc142 : Int32) (h139 : ea_H), ea_Met mX12_bestFrom d138 [vR (some (b0 + 0)), vI x1, vI x2, vI x3] h (some (vI xc142)) h139 ∧ d138 + 1 ≤ d ∧ ShM b0 h139 ∧ (¬ xc142 = ((-1) : Int32) → (Int32.toInt x4 = 0 → vp_in (((12 : Int32) * xc142) + x3) 12000 ∧ rv = some (vI (ea_i h139 (b0 + 15) (Int32.toNatClampNeg (((12 : Int32) * xc142) + x3)))) ∧ hE = h139) ∧ (Int32.toInt x4 = 1 → vp_in (((12 : Int32) * xc142) + x3) 12000 ∧ rv = some (vI (ea_i h139 (b0 + 16) (Int32.toNatClampNeg (((12 : Int32) * xc142) + x3)))) ∧ hE = h139) ∧ (Int32.toInt x4 = 2 → vp_in xc142 1000 ∧ rv = some (vI ((ea_i h139 (b0 + 12) (Int32.toNatClampNeg xc142)) / (7 : Int32))) ∧ hE = h139) ∧ (Int32.toInt x4 = 3 → vp_in xc142 1000 ∧ rv = some (vI ((ea_i h139 (b0 + 12) (Int32.toNatClampNeg xc142)) - (ea_i h139 (b0 + 12) (Int32.toNatClampNeg xc142)) / (7 : Int32) * (7 : Int32))) ∧ hE = h139) ∧ (Int32.toInt x4 = 4 → vp_in xc142 1000 ∧ rv = some (vI (ea_i h139 (b0 + 13) (Int32.toNatClampNeg xc142))) ∧ hE = h139) ∧ (Int32.toInt x4 = 5 → vp_in (((12 : Int32) * xc142) + x3) 12000 ∧ rv = some (vI (ea_i h139 (b0 + 17) (Int32.toNatClampNeg (((12 : Int32) * xc142) + x3)))) ∧ hE = h139) ∧ (Int32.toInt x4 < 0 ∨ 5 < Int32.toInt x4 → rv = some (vI (-1)) ∧ hE = h139)) ∧ (xc142 = ((-1) : Int32) → rv = some (vI (-1)) ∧ hE = h139)) ∧ ((vX12_isIn (x2 : Int32) ((ea_i h (b0 + 0) 0) : Int32) (10079 : Int32) h) = (0 : Int32) → rv = some (vI (-1)) ∧ hE = h))))) : ea_W mX12_way d h0 rv hE 0 [(0, vR (some (b0 + 0))), (1, vI x1), (2, vI x2), (3, vI x3), (4, vI x4)] [] h := by
  refine ea_aload_n (pc := 0) dX12_way_0 rfl 0 rfl ?_
  refine ea_iload_n (pc := 1) dX12_way_1 rfl 1 rfl ?_
  refine ea_callV (pc := 2) (d' := d - 1) (As := [vI x1]) (st := []) dX12_way_2 kX12_isTown (sX12_isTown (d := d - 1) (by omega) hs_h) (by omega) rfl (Nat.le_of_ble_eq_true rfl) ew_1708 ew_1710 ew_47 (ci := 12) rfl (by decide) (hs_h.1 0 (by decide)).1 (hs_h.1 0 (by decide)).2.1 ?_
  refine ea_if_eq (pc := 5) (tgt := 35) dX12_way_5 rfl (fun c155 => ?_) (fun c155 => ?_)
  · have H := H.1 c155
    refine ea_iconst (pc := 35) dX12_way_35 (v := (-1)) rfl ?_
    obtain ⟨rfl, rfl⟩ := H
    exact ea_ireturn (pc := 36) dX12_way_36 rfl rfl
  · have H := H.2 c155
    refine ea_aload_n (pc := 8) dX12_way_8 rfl 0 rfl ?_
    refine ea_iload_n (pc := 9) dX12_way_9 rfl 3 rfl ?_
    refine ea_callV (pc := 10) (d' := d - 1) (As := [vI x3]) (st := []) dX12_way_10 kX12_isTown (sX12_isTown (d := d - 1) (by omega) hs_h) (by omega) rfl (Nat.le_of_ble_eq_true rfl) ew_1708 ew_1710 ew_47 (ci := 12) rfl (by decide) (hs_h.1 0 (by decide)).1 (hs_h.1 0 (by decide)).2.1 ?_
    refine ea_if_eq (pc := 13) (tgt := 35) dX12_way_13 rfl (fun c153 => ?_) (fun c153 => ?_)
    · have H := H.1 c153
      refine ea_iconst (pc := 35) dX12_way_35 (v := (-1)) rfl ?_
      obtain ⟨rfl, rfl⟩ := H
      exact ea_ireturn (pc := 36) dX12_way_36 rfl rfl
    · have H := H.2 c153
      refine ea_iload_n (pc := 16) dX12_way_16 rfl 1 rfl ?_
      refine ea_iload_n (pc := 17) dX12_way_17 rfl 3 rfl ?_
      refine ea_icmp_eq (pc := 18) (tgt := 35) dX12_way_18 rfl (fun c152 => ?_) (fun c152 => ?_)
      · have H := H.1 c152
        refine ea_iconst (pc := 35) dX12_way_35 (v := (-1)) rfl ?_
        obtain ⟨rfl, rfl⟩ := H
        exact ea_ireturn (pc := 36) dX12_way_36 rfl rfl
      · have H := H.2 c152
        refine ea_iload_n (pc := 21) dX12_way_21 rfl 2 rfl ?_
        refine ea_aload_n (pc := 22) dX12_way_22 rfl 0 rfl ?_
        refine ea_getI (pc := 23) dX12_way_23 ec_12 (k := 0) (Nat.le_of_ble_eq_true rfl) rfl (Or.inl ew_1345) (hs_h.1 0 (by decide)).1 (hs_h.1 0 (by decide)).2.1 ?_
        refine ea_sipush (pc := 26) dX12_way_26 (v := 10079) rfl ?_
        refine ea_callS (pc := 29) (d' := d - 1) (As := [vI x2, vI (ea_i h (b0 + 0) 0), vI 10079]) (st := []) dX12_way_29 kX12_isIn (sX12_isIn (d := d - 1) (by omega)) (by omega) rfl (Nat.le_of_ble_eq_true rfl) ew_1712 ew_1713 ?_
        refine ea_if_ne (pc := 32) (tgt := 37) dX12_way_32 rfl (fun c150 => ?_) (fun c150 => ?_)
        · have H := H.1 c150
          refine ea_aload_n (pc := 37) dX12_way_37 rfl 0 rfl ?_
          refine ea_iload_n (pc := 38) dX12_way_38 rfl 1 rfl ?_
          refine ea_iload_n (pc := 39) dX12_way_39 rfl 2 rfl ?_
          refine ea_iload_n (pc := 40) dX12_way_40 rfl 3 rfl ?_
          obtain ⟨d138, xc142, h139, m140, q141, hs_h139, H⟩ := H
          refine ea_callV (pc := 41) (As := [vI x1, vI x2, vI x3]) (st := []) dX12_way_41 kX12_bestFrom m140 q141 rfl (Nat.le_of_ble_eq_true rfl) ew_1770 ew_1772 ew_53 (ci := 12) rfl (by decide) (hs_h.1 0 (by decide)).1 (hs_h.1 0 (by decide)).2.1 ?_
          refine ea_istore (pc := 44) (lv' := [(0, vR (some (b0 + 0))), (3, vI x3), (4, vI x4), (5, vI xc142)]) dX12_way_44 (Nat.le_of_ble_eq_true rfl) [1, 4, 5, 0] rfl ?_
          refine ea_iload (pc := 46) dX12_way_46 3 rfl ?_
          refine ea_iconst (pc := 48) dX12_way_48 (v := (-1)) rfl ?_
          refine ea_icmp_ne (pc := 49) (tgt := 54) dX12_way_49 rfl (fun c149 => ?_) (fun c149 => ?_)
          · have H := H.1 c149
            refine ea_iload (pc := 54) dX12_way_54 2 rfl ?_
            by_cases qc1 : Int32.toInt x4 = 0
            · have H := H.1 qc1
              refine ea_tswIn (pc := 56) (tgt := 96) dX12_way_56 (by omega) (by omega) (by rw [qc1]; rfl) rfl ?_
              refine ea_aload_n (pc := 96) dX12_way_96 rfl 0 rfl ?_
              refine ea_getR (pc := 97) dX12_way_97 ec_12 (k := 19) (Nat.le_of_ble_eq_true rfl) rfl (Or.inl ew_1364) (hs_h139.1 0 (by decide)).1 (hs_h139.1 0 (by decide)).2.1 (hs_h139.2 0 19 rfl) ?_
              refine ea_bipush (pc := 100) dX12_way_100 (v := 12) rfl ?_
              refine ea_iload (pc := 102) dX12_way_102 3 rfl ?_
              refine ea_imul (pc := 104) dX12_way_104 ?_
              refine ea_iload_n (pc := 105) dX12_way_105 rfl 1 rfl ?_
              refine ea_iadd (pc := 106) dX12_way_106 ?_
              obtain ⟨z143, H⟩ := H
              refine ea_iald (pc := 107) dX12_way_107 (hs_h139.1 15 (by decide)).1 (hs_h139.1 15 (by decide)).2.1 (ea_vpl (hs_h139.1 15 (by decide)).2.2 z143) ?_
              obtain ⟨rfl, rfl⟩ := H
              exact ea_ireturn (pc := 108) dX12_way_108 rfl rfl
            by_cases qc2 : Int32.toInt x4 = 1
            · have H := H.2.1 qc2
              refine ea_tswIn (pc := 56) (tgt := 109) dX12_way_56 (by omega) (by omega) (by rw [qc2]; rfl) rfl ?_
              refine ea_aload_n (pc := 109) dX12_way_109 rfl 0 rfl ?_
              refine ea_getR (pc := 110) dX12_way_110 ec_12 (k := 20) (Nat.le_of_ble_eq_true rfl) rfl (Or.inl ew_1365) (hs_h139.1 0 (by decide)).1 (hs_h139.1 0 (by decide)).2.1 (hs_h139.2 0 20 rfl) ?_
              refine ea_bipush (pc := 113) dX12_way_113 (v := 12) rfl ?_
              refine ea_iload (pc := 115) dX12_way_115 3 rfl ?_
              refine ea_imul (pc := 117) dX12_way_117 ?_
              refine ea_iload_n (pc := 118) dX12_way_118 rfl 1 rfl ?_
              refine ea_iadd (pc := 119) dX12_way_119 ?_
              obtain ⟨z144, H⟩ := H
              refine ea_iald (pc := 120) dX12_way_120 (hs_h139.1 16 (by decide)).1 (hs_h139.1 16 (by decide)).2.1 (ea_vpl (hs_h139.1 16 (by decide)).2.2 z144) ?_
              obtain ⟨rfl, rfl⟩ := H
              exact ea_ireturn (pc := 121) dX12_way_121 rfl rfl
            by_cases qc3 : Int32.toInt x4 = 2
            · have H := H.2.2.1 qc3
              refine ea_tswIn (pc := 56) (tgt := 122) dX12_way_56 (by omega) (by omega) (by rw [qc3]; rfl) rfl ?_
              refine ea_aload_n (pc := 122) dX12_way_122 rfl 0 rfl ?_
              refine ea_getR (pc := 123) dX12_way_123 ec_12 (k := 16) (Nat.le_of_ble_eq_true rfl) rfl (Or.inl ew_1361) (hs_h139.1 0 (by decide)).1 (hs_h139.1 0 (by decide)).2.1 (hs_h139.2 0 16 rfl) ?_
              refine ea_iload (pc := 126) dX12_way_126 3 rfl ?_
              obtain ⟨z145, H⟩ := H
              refine ea_iald (pc := 128) dX12_way_128 (hs_h139.1 12 (by decide)).1 (hs_h139.1 12 (by decide)).2.1 (ea_vpl (hs_h139.1 12 (by decide)).2.2 z145) ?_
              refine ea_bipush (pc := 129) dX12_way_129 (v := 7) rfl ?_
              refine ea_idiv (pc := 131) dX12_way_131 (by decide) ?_
              obtain ⟨rfl, rfl⟩ := H
              exact ea_ireturn (pc := 132) dX12_way_132 rfl rfl
            by_cases qc4 : Int32.toInt x4 = 3
            · have H := H.2.2.2.1 qc4
              refine ea_tswIn (pc := 56) (tgt := 133) dX12_way_56 (by omega) (by omega) (by rw [qc4]; rfl) rfl ?_
              refine ea_aload_n (pc := 133) dX12_way_133 rfl 0 rfl ?_
              refine ea_getR (pc := 134) dX12_way_134 ec_12 (k := 16) (Nat.le_of_ble_eq_true rfl) rfl (Or.inl ew_1361) (hs_h139.1 0 (by decide)).1 (hs_h139.1 0 (by decide)).2.1 (hs_h139.2 0 16 rfl) ?_
              refine ea_iload (pc := 137) dX12_way_137 3 rfl ?_
              obtain ⟨z146, H⟩ := H
              refine ea_iald (pc := 139) dX12_way_139 (hs_h139.1 12 (by decide)).1 (hs_h139.1 12 (by decide)).2.1 (ea_vpl (hs_h139.1 12 (by decide)).2.2 z146) ?_
              refine ea_bipush (pc := 140) dX12_way_140 (v := 7) rfl ?_
              refine ea_irem (pc := 142) dX12_way_142 (by decide) ?_
              obtain ⟨rfl, rfl⟩ := H
              exact ea_ireturn (pc := 143) dX12_way_143 rfl rfl
            by_cases qc5 : Int32.toInt x4 = 4
            · have H := H.2.2.2.2.1 qc5
              refine ea_tswIn (pc := 56) (tgt := 144) dX12_way_56 (by omega) (by omega) (by rw [qc5]; rfl) rfl ?_
              refine ea_aload_n (pc := 144) dX12_way_144 rfl 0 rfl ?_
              refine ea_getR (pc := 145) dX12_way_145 ec_12 (k := 17) (Nat.le_of_ble_eq_true rfl) rfl (Or.inl ew_1362) (hs_h139.1 0 (by decide)).1 (hs_h139.1 0 (by decide)).2.1 (hs_h139.2 0 17 rfl) ?_
              refine ea_iload (pc := 148) dX12_way_148 3 rfl ?_
              obtain ⟨z147, H⟩ := H
              refine ea_iald (pc := 150) dX12_way_150 (hs_h139.1 13 (by decide)).1 (hs_h139.1 13 (by decide)).2.1 (ea_vpl (hs_h139.1 13 (by decide)).2.2 z147) ?_
              obtain ⟨rfl, rfl⟩ := H
              exact ea_ireturn (pc := 151) dX12_way_151 rfl rfl
            by_cases qc6 : Int32.toInt x4 = 5
            · have H := H.2.2.2.2.2.1 qc6
              refine ea_tswIn (pc := 56) (tgt := 152) dX12_way_56 (by omega) (by omega) (by rw [qc6]; rfl) rfl ?_
              refine ea_aload_n (pc := 152) dX12_way_152 rfl 0 rfl ?_
              refine ea_getR (pc := 153) dX12_way_153 ec_12 (k := 21) (Nat.le_of_ble_eq_true rfl) rfl (Or.inl ew_1366) (hs_h139.1 0 (by decide)).1 (hs_h139.1 0 (by decide)).2.1 (hs_h139.2 0 21 rfl) ?_
              refine ea_bipush (pc := 156) dX12_way_156 (v := 12) rfl ?_
              refine ea_iload (pc := 158) dX12_way_158 3 rfl ?_
              refine ea_imul (pc := 160) dX12_way_160 ?_
              refine ea_iload_n (pc := 161) dX12_way_161 rfl 1 rfl ?_
              refine ea_iadd (pc := 162) dX12_way_162 ?_
              obtain ⟨z148, H⟩ := H
              refine ea_iald (pc := 163) dX12_way_163 (hs_h139.1 17 (by decide)).1 (hs_h139.1 17 (by decide)).2.1 (ea_vpl (hs_h139.1 17 (by decide)).2.2 z148) ?_
              obtain ⟨rfl, rfl⟩ := H
              exact ea_ireturn (pc := 164) dX12_way_164 rfl rfl
            have qd : Int32.toInt x4 < 0 ∨ 5 < Int32.toInt x4 := by omega
            have H := H.2.2.2.2.2.2 qd
            refine ea_tswOut (pc := 56) (tgt := 165) dX12_way_56 qd rfl ?_
            refine ea_iconst (pc := 165) dX12_way_165 (v := (-1)) rfl ?_
            obtain ⟨rfl, rfl⟩ := H
            exact ea_ireturn (pc := 166) dX12_way_166 rfl rfl
          · have H := H.2 c149
            refine ea_iconst (pc := 52) dX12_way_52 (v := (-1)) rfl ?_
            obtain ⟨rfl, rfl⟩ := H
            exact ea_ireturn (pc := 53) dX12_way_53 rfl rfl
        · have H := H.2 c150
          refine ea_iconst (pc := 35) dX12_way_35 (v := (-1)) rfl ?_
          obtain ⟨rfl, rfl⟩ := H
          exact ea_ireturn (pc := 36) dX12_way_36 rfl rfl
theorem pX12_feed_0 {d b0 : Nat} {h0 hE h : ea_H} {rv : Option ea_V} {x1 : Int32} {x2 : Int32} {x3 : Int32} {x4 : Int32} {x5 : Int32} (hd : 1 ≤ d) (hs_h : ShM b0 h) (H : (((ea_i h (b0 + 0) 52) + (20 : Int32)) ≤ (600 : Int32) → ea_W mX12_feed d h0 rv hE 18 [(0, vR (some (b0 + 0))), (1, vI x1), (2, vI x2), (3, vI x3), (4, vI x4), (5, vI x5), (6, vI 0)] [] h) ∧ (¬ ((ea_i h (b0 + 0) 52) + (20 : Int32)) ≤ (600 : Int32) → rv = some (vI (-1)) ∧ hE = h)) : ea_W mX12_feed d h0 rv hE 0 [(0, vR (some (b0 + 0))), (1, vI x1), (2, vI x2), (3, vI x3), (4, vI x4), (5, vI x5)] [] h := by
  refine ea_aload_n (pc := 0) dX12_feed_0 rfl 0 rfl ?_
  refine ea_getI (pc := 1) dX12_feed_1 ec_12 (k := 52) (Nat.le_of_ble_eq_true rfl) rfl (Or.inl ew_1397) (hs_h.1 0 (by decide)).1 (hs_h.1 0 (by decide)).2.1 ?_
  refine ea_bipush (pc := 4) dX12_feed_4 (v := 20) rfl ?_
  refine ea_iadd (pc := 6) dX12_feed_6 ?_
  refine ea_sipush (pc := 7) dX12_feed_7 (v := 600) rfl ?_
  refine ea_icmp_le (pc := 10) (tgt := 15) dX12_feed_10 rfl (fun c1 => ?_) (fun c1 => ?_)
  · have H := H.1 c1
    refine ea_iconst (pc := 15) dX12_feed_15 (v := 0) rfl ?_
    refine ea_istore (pc := 16) (lv' := [(0, vR (some (b0 + 0))), (1, vI x1), (2, vI x2), (3, vI x3), (4, vI x4), (5, vI x5), (6, vI 0)]) dX12_feed_16 (Nat.le_of_ble_eq_true rfl) [1, 2, 3, 4, 5, 6, 0] rfl ?_
    exact H
  · have H := H.2 c1
    refine ea_iconst (pc := 13) dX12_feed_13 (v := (-1)) rfl ?_
    obtain ⟨rfl, rfl⟩ := H
    exact ea_ireturn (pc := 14) dX12_feed_14 rfl rfl
theorem pX12_feed_18 {d b0 : Nat} {h0 hE h : ea_H} {rv : Option ea_V} {x1 : Int32} {x2 : Int32} {x3 : Int32} {x4 : Int32} {x5 : Int32} {x6 : Int32} (hd : 1 ≤ d) (hs_h : ShM b0 h) (H : ((20 : Int32) ≤ x6 → rv = some (vI (ea_i h (b0 + 0) 52)) ∧ hE = h) ∧ (¬ (20 : Int32) ≤ x6 → ((4 : Int32) ≤ x6 → ((8 : Int32) ≤ x6 → ((12 : Int32) ≤ x6 → ((16 : Int32) ≤ x6 → ea_W mX12_feed d h0 rv hE 71 [(0, vR (some (b0 + 0))), (1, vI x1), (2, vI x2), (3, vI x3), (4, vI x4), (5, vI x5), (6, vI x6)] [vI x5] h) ∧ (¬ (16 : Int32) ≤ x6 → ea_W mX12_feed d h0 rv hE 71 [(0, vR (some (b0 + 0))), (1, vI x1), (2, vI x2), (3, vI x3), (4, vI x4), (5, vI x5), (6, vI x6)] [vI x4] h)) ∧ (¬ (12 : Int32) ≤ x6 → ea_W mX12_feed d h0 rv hE 71 [(0, vR (some (b0 + 0))), (1, vI x1), (2, vI x2), (3, vI x3), (4, vI x4), (5, vI x5), (6, vI x6)] [vI x3] h)) ∧ (¬ (8 : Int32) ≤ x6 → ea_W mX12_feed d h0 rv hE 71 [(0, vR (some (b0 + 0))), (1, vI x1), (2, vI x2), (3, vI x3), (4, vI x4), (5, vI x5), (6, vI x6)] [vI x2] h)) ∧ (¬ (4 : Int32) ≤ x6 → ea_W mX12_feed d h0 rv hE 71 [(0, vR (some (b0 + 0))), (1, vI x1), (2, vI x2), (3, vI x3), (4, vI x4), (5, vI x5), (6, vI x6)] [vI x1] h))) : ea_W mX12_feed d h0 rv hE 18 [(0, vR (some (b0 + 0))), (1, vI x1), (2, vI x2), (3, vI x3), (4, vI x4), (5, vI x5), (6, vI x6)] [] h := by
  refine ea_iload (pc := 18) dX12_feed_18 6 rfl ?_
  refine ea_bipush (pc := 20) dX12_feed_20 (v := 20) rfl ?_
  refine ea_icmp_ge (pc := 22) (tgt := 115) dX12_feed_22 rfl (fun c5 => ?_) (fun c5 => ?_)
  · have H := H.1 c5
    refine ea_aload_n (pc := 115) dX12_feed_115 rfl 0 rfl ?_
    refine ea_getI (pc := 116) dX12_feed_116 ec_12 (k := 52) (Nat.le_of_ble_eq_true rfl) rfl (Or.inl ew_1397) (hs_h.1 0 (by decide)).1 (hs_h.1 0 (by decide)).2.1 ?_
    obtain ⟨rfl, rfl⟩ := H
    exact ea_ireturn (pc := 119) dX12_feed_119 rfl rfl
  · have H := H.2 c5
    refine ea_iload (pc := 25) dX12_feed_25 6 rfl ?_
    refine ea_iconst (pc := 27) dX12_feed_27 (v := 4) rfl ?_
    refine ea_icmp_ge (pc := 28) (tgt := 35) dX12_feed_28 rfl (fun c4 => ?_) (fun c4 => ?_)
    · have H := H.1 c4
      refine ea_iload (pc := 35) dX12_feed_35 6 rfl ?_
      refine ea_bipush (pc := 37) dX12_feed_37 (v := 8) rfl ?_
      refine ea_icmp_ge (pc := 39) (tgt := 46) dX12_feed_39 rfl (fun c3 => ?_) (fun c3 => ?_)
      · have H := H.1 c3
        refine ea_iload (pc := 46) dX12_feed_46 6 rfl ?_
        refine ea_bipush (pc := 48) dX12_feed_48 (v := 12) rfl ?_
        refine ea_icmp_ge (pc := 50) (tgt := 57) dX12_feed_50 rfl (fun c2 => ?_) (fun c2 => ?_)
        · have H := H.1 c2
          refine ea_iload (pc := 57) dX12_feed_57 6 rfl ?_
          refine ea_bipush (pc := 59) dX12_feed_59 (v := 16) rfl ?_
          refine ea_icmp_ge (pc := 61) (tgt := 69) dX12_feed_61 rfl (fun c1 => ?_) (fun c1 => ?_)
          · have H := H.1 c1
            refine ea_iload (pc := 69) dX12_feed_69 5 rfl ?_
            exact H
          · have H := H.2 c1
            refine ea_iload (pc := 64) dX12_feed_64 4 rfl ?_
            refine ea_goto (pc := 66) (tgt := 71) dX12_feed_66 rfl ?_
            exact H
        · have H := H.2 c2
          refine ea_iload_n (pc := 53) dX12_feed_53 rfl 3 rfl ?_
          refine ea_goto (pc := 54) (tgt := 71) dX12_feed_54 rfl ?_
          exact H
      · have H := H.2 c3
        refine ea_iload_n (pc := 42) dX12_feed_42 rfl 2 rfl ?_
        refine ea_goto (pc := 43) (tgt := 71) dX12_feed_43 rfl ?_
        exact H
    · have H := H.2 c4
      refine ea_iload_n (pc := 31) dX12_feed_31 rfl 1 rfl ?_
      refine ea_goto (pc := 32) (tgt := 71) dX12_feed_32 rfl ?_
      exact H
theorem pX12_feed_71 {d b0 : Nat} {h0 hE h : ea_H} {rv : Option ea_V} {x1 : Int32} {x2 : Int32} {x3 : Int32} {x4 : Int32} {x5 : Int32} {x6 : Int32} {sx0 : Int32} (hd : 1 ≤ d) (hs_h : ShM b0 h) (H : vp_in (ea_i h (b0 + 0) 52) 600 ∧ ∀ h2, h2 = ea_wi h (b0 + 36) (Int32.toNatClampNeg (ea_i h (b0 + 0) 52)) ((sx0 >>> (((24 : Int32) - ((8 : Int32) * (x6 - x6 / (4 : Int32) * (4 : Int32)))) &&& 31)) &&& (255 : Int32)) → ∀ h4, h4 = ea_wi h2 (b0 + 0) 52 ((ea_i h2 (b0 + 0) 52) + (1 : Int32)) → ea_W mX12_feed d h0 rv hE 18 [(0, vR (some (b0 + 0))), (1, vI x1), (2, vI x2), (3, vI x3), (4, vI x4), (5, vI x5), (6, vI (x6 + 1))] [] h4) : ea_W mX12_feed d h0 rv hE 71 [(0, vR (some (b0 + 0))), (1, vI x1), (2, vI x2), (3, vI x3), (4, vI x4), (5, vI x5), (6, vI x6)] [vI sx0] h := by
  refine ea_istore (pc := 71) (lv' := [(0, vR (some (b0 + 0))), (1, vI x1), (2, vI x2), (3, vI x3), (4, vI x4), (5, vI x5), (6, vI x6), (7, vI sx0)]) dX12_feed_71 (Nat.le_of_ble_eq_true rfl) [1, 2, 3, 4, 5, 6, 7, 0] rfl ?_
  refine ea_aload_n (pc := 73) dX12_feed_73 rfl 0 rfl ?_
  refine ea_getR (pc := 74) dX12_feed_74 ec_12 (k := 41) (Nat.le_of_ble_eq_true rfl) rfl (Or.inl ew_1386) (hs_h.1 0 (by decide)).1 (hs_h.1 0 (by decide)).2.1 (hs_h.2 0 41 rfl) ?_
  refine ea_aload_n (pc := 77) dX12_feed_77 rfl 0 rfl ?_
  refine ea_getI (pc := 78) dX12_feed_78 ec_12 (k := 52) (Nat.le_of_ble_eq_true rfl) rfl (Or.inl ew_1397) (hs_h.1 0 (by decide)).1 (hs_h.1 0 (by decide)).2.1 ?_
  refine ea_iload (pc := 81) dX12_feed_81 7 rfl ?_
  refine ea_bipush (pc := 83) dX12_feed_83 (v := 24) rfl ?_
  refine ea_bipush (pc := 85) dX12_feed_85 (v := 8) rfl ?_
  refine ea_iload (pc := 87) dX12_feed_87 6 rfl ?_
  refine ea_iconst (pc := 89) dX12_feed_89 (v := 4) rfl ?_
  refine ea_irem (pc := 90) dX12_feed_90 (by decide) ?_
  refine ea_imul (pc := 91) dX12_feed_91 ?_
  refine ea_isub (pc := 92) dX12_feed_92 ?_
  refine ea_ishr (pc := 93) dX12_feed_93 ?_
  refine ea_sipush (pc := 94) dX12_feed_94 (v := 255) rfl ?_
  refine ea_iand (pc := 97) dX12_feed_97 ?_
  obtain ⟨z1, H⟩ := H
  refine ea_iast (pc := 98) dX12_feed_98 (hs_h.1 36 (by decide)).1 (hs_h.1 36 (by decide)).2.1 (ea_vpl (hs_h.1 36 (by decide)).2.2 z1) ?_
  obtain ⟨h2, E3⟩ : ∃ z, z = ea_wi h (b0 + 36) (Int32.toNatClampNeg (ea_i h (b0 + 0) 52)) ((sx0 >>> (((24 : Int32) - ((8 : Int32) * (x6 - x6 / (4 : Int32) * (4 : Int32)))) &&& 31)) &&& (255 : Int32)) := ⟨_, rfl⟩
  have H := H h2 E3
  refine ea_nm E3 ?_
  have hs_h2 : ShM b0 h2 := by rw [E3]; exact ShM_wi hs_h
  refine ea_aload_n (pc := 99) dX12_feed_99 rfl 0 rfl ?_
  refine ea_dup (pc := 100) dX12_feed_100 rfl ?_
  refine ea_getI (pc := 101) dX12_feed_101 ec_12 (k := 52) (Nat.le_of_ble_eq_true rfl) rfl (Or.inl ew_1397) (hs_h2.1 0 (by decide)).1 (hs_h2.1 0 (by decide)).2.1 ?_
  refine ea_iconst (pc := 104) dX12_feed_104 (v := 1) rfl ?_
  refine ea_iadd (pc := 105) dX12_feed_105 ?_
  refine ea_putI (pc := 106) dX12_feed_106 ec_12 (k := 52) (Nat.le_of_ble_eq_true rfl) rfl (Or.inl ⟨rfl, Or.inl ew_1397⟩) rfl rfl (hs_h2.1 0 (by decide)).1 (hs_h2.1 0 (by decide)).2.1 ?_
  obtain ⟨h4, E5⟩ : ∃ z, z = ea_wi h2 (b0 + 0) 52 ((ea_i h2 (b0 + 0) 52) + (1 : Int32)) := ⟨_, rfl⟩
  have H := H h4 E5
  refine ea_nm E5 ?_
  have hs_h4 : ShM b0 h4 := by rw [E5]; exact ShM_wi hs_h2
  refine ea_iinc (pc := 109) (v := 1) (lv' := [(0, vR (some (b0 + 0))), (1, vI x1), (2, vI x2), (3, vI x3), (4, vI x4), (5, vI x5), (6, vI (x6 + 1))]) dX12_feed_109 6 rfl rfl (Nat.le_of_ble_eq_true rfl) [1, 2, 3, 4, 5, 6, 0] rfl ?_
  refine ea_goto (pc := 112) (tgt := 18) dX12_feed_112 rfl ?_
  exact H
set_option maxRecDepth 100000 in
set_option maxHeartbeats 4000000 in
theorem pX12_next0_0 {d b0 : Nat} {h0 hE h : ea_H} {rv : Option ea_V}  (hd : 3 ≤ d) (hs_h : ShM b0 h) (H : (okX12_see b0 ((ea_i h (b0 + 0) 53) : Int32) h) ∧ ((vX12_see b0 ((ea_i h (b0 + 0) 53) : Int32) h) = (32 : Int32) → ∀ h369, h369 = ea_wi h (b0 + 0) 53 ((ea_i h (b0 + 0) 53) + (1 : Int32)) → ea_W mX12_next0 d h0 rv hE 0 [(0, vR (some (b0 + 0)))] [] h369) ∧ (¬ (vX12_see b0 ((ea_i h (b0 + 0) 53) : Int32) h) = (32 : Int32) → (okX12_see b0 ((ea_i h (b0 + 0) 53) : Int32) h) ∧ (¬ (vX12_see b0 ((ea_i h (b0 + 0) 53) : Int32) h) = (10 : Int32) → ∀ h553, h553 = ea_wi h (b0 + 0) 55 (ea_i h (b0 + 0) 53) → (okX12_see b0 ((ea_i h553 (b0 + 0) 53) : Int32) h553) ∧ (¬ (vX12_see b0 ((ea_i h553 (b0 + 0) 53) : Int32) h553) = ((-1) : Int32) → ((vX12_isLetter ((vX12_see b0 ((ea_i h553 (b0 + 0) 53) : Int32) h553) : Int32) h553) = (0 : Int32) → ((vX12_isDigit ((vX12_see b0 ((ea_i h553 (b0 + 0) 53) : Int32) h553) : Int32) h553) = (0 : Int32) → ∀ h705, h705 = ea_wi h553 (b0 + 0) 53 ((ea_i h553 (b0 + 0) 53) + (1 : Int32)) → ((vX12_see b0 ((ea_i h553 (b0 + 0) 53) : Int32) h553) = (59 : Int32) → ea_W mX12_next0 d h0 rv hE 289 [(0, vR (some (b0 + 0))), (1, vI (vX12_see b0 ((ea_i h553 (b0 + 0) 53) : Int32) h553))] [vI 1] h705) ∧ (¬ (vX12_see b0 ((ea_i h553 (b0 + 0) 53) : Int32) h553) = (59 : Int32) → ((vX12_see b0 ((ea_i h553 (b0 + 0) 53) : Int32) h553) = (43 : Int32) → ea_W mX12_next0 d h0 rv hE 289 [(0, vR (some (b0 + 0))), (1, vI (vX12_see b0 ((ea_i h553 (b0 + 0) 53) : Int32) h553))] [vI 1] h705) ∧ (¬ (vX12_see b0 ((ea_i h553 (b0 + 0) 53) : Int32) h553) = (43 : Int32) → ((vX12_see b0 ((ea_i h553 (b0 + 0) 53) : Int32) h553) = (45 : Int32) → ea_W mX12_next0 d h0 rv hE 289 [(0, vR (some (b0 + 0))), (1, vI (vX12_see b0 ((ea_i h553 (b0 + 0) 53) : Int32) h553))] [vI 1] h705) ∧ (¬ (vX12_see b0 ((ea_i h553 (b0 + 0) 53) : Int32) h553) = (45 : Int32) → ((vX12_see b0 ((ea_i h553 (b0 + 0) 53) : Int32) h553) = (42 : Int32) → ea_W mX12_next0 d h0 rv hE 289 [(0, vR (some (b0 + 0))), (1, vI (vX12_see b0 ((ea_i h553 (b0 + 0) 53) : Int32) h553))] [vI 1] h705) ∧ (¬ (vX12_see b0 ((ea_i h553 (b0 + 0) 53) : Int32) h553) = (42 : Int32) → ((vX12_see b0 ((ea_i h553 (b0 + 0) 53) : Int32) h553) = (47 : Int32) → ea_W mX12_next0 d h0 rv hE 289 [(0, vR (some (b0 + 0))), (1, vI (vX12_see b0 ((ea_i h553 (b0 + 0) 53) : Int32) h553))] [vI 1] h705) ∧ (¬ (vX12_see b0 ((ea_i h553 (b0 + 0) 53) : Int32) h553) = (47 : Int32) → ((vX12_see b0 ((ea_i h553 (b0 + 0) 53) : Int32) h553) = (40 : Int32) → ea_W mX12_next0 d h0 rv hE 289 [(0, vR (some (b0 + 0))), (1, vI (vX12_see b0 ((ea_i h553 (b0 + 0) 53) : Int32) h553))] [vI 1] h705) ∧ (¬ (vX12_see b0 ((ea_i h553 (b0 + 0) 53) : Int32) h553) = (40 : Int32) → ((vX12_see b0 ((ea_i h553 (b0 + 0) 53) : Int32) h553) = (41 : Int32) → ea_W mX12_next0 d h0 rv hE 289 [(0, vR (some (b0 + 0))), (1, vI (vX12_see b0 ((ea_i h553 (b0 + 0) 53) : Int32) h553))] [vI 1] h705) ∧ (¬ (vX12_see b0 ((ea_i h553 (b0 + 0) 53) : Int32) h553) = (41 : Int32) → ((vX12_see b0 ((ea_i h553 (b0 + 0) 53) : Int32) h553) = (60 : Int32) → ea_W mX12_next0 d h0 rv hE 289 [(0, vR (some (b0 + 0))), (1, vI (vX12_see b0 ((ea_i h553 (b0 + 0) 53) : Int32) h553))] [vI 1] h705) ∧ (¬ (vX12_see b0 ((ea_i h553 (b0 + 0) 53) : Int32) h553) = (60 : Int32) → ((vX12_see b0 ((ea_i h553 (b0 + 0) 53) : Int32) h553) = (61 : Int32) → ea_W mX12_next0 d h0 rv hE 289 [(0, vR (some (b0 + 0))), (1, vI (vX12_see b0 ((ea_i h553 (b0 + 0) 53) : Int32) h553))] [vI 1] h705) ∧ (¬ (vX12_see b0 ((ea_i h553 (b0 + 0) 53) : Int32) h553) = (61 : Int32) → (¬ (vX12_see b0 ((ea_i h553 (b0 + 0) 53) : Int32) h553) = (62 : Int32) → ea_W mX12_next0 d h0 rv hE 289 [(0, vR (some (b0 + 0))), (1, vI (vX12_see b0 ((ea_i h553 (b0 + 0) 53) : Int32) h553))] [vI 0] h705) ∧ ((vX12_see b0 ((ea_i h553 (b0 + 0) 53) : Int32) h553) = (62 : Int32) → ea_W mX12_next0 d h0 rv hE 289 [(0, vR (some (b0 + 0))), (1, vI (vX12_see b0 ((ea_i h553 (b0 + 0) 53) : Int32) h553))] [vI 1] h705))))))))))) ∧ (¬ (vX12_isDigit ((vX12_see b0 ((ea_i h553 (b0 + 0) 53) : Int32) h553) : Int32) h553) = (0 : Int32) → ∀ h717, h717 = ea_wi h553 (b0 + 0) 56 0 → ea_W mX12_next0 d h0 rv hE 126 [(0, vR (some (b0 + 0)))] [] h717)) ∧ (¬ (vX12_isLetter ((vX12_see b0 ((ea_i h553 (b0 + 0) 53) : Int32) h553) : Int32) h553) = (0 : Int32) → ea_W mX12_next0 d h0 rv hE 76 [(0, vR (some (b0 + 0)))] [] h553)) ∧ ((vX12_see b0 ((ea_i h553 (b0 + 0) 53) : Int32) h553) = ((-1) : Int32) → ∀ h723, h723 = ea_wi h553 (b0 + 0) 54 0 → rv = none ∧ hE = h723)) ∧ ((vX12_see b0 ((ea_i h (b0 + 0) 53) : Int32) h) = (10 : Int32) → ∀ h727, h727 = ea_wi h (b0 + 0) 53 ((ea_i h (b0 + 0) 53) + (1 : Int32)) → ea_W mX12_next0 d h0 rv hE 0 [(0, vR (some (b0 + 0)))] [] h727))) : ea_W mX12_next0 d h0 rv hE 0 [(0, vR (some (b0 + 0)))] [] h := by
  refine ea_aload_n (pc := 0) dX12_next0_0 rfl 0 rfl ?_
  refine ea_aload_n (pc := 1) dX12_next0_1 rfl 0 rfl ?_
  refine ea_getI (pc := 2) dX12_next0_2 ec_12 (k := 53) (Nat.le_of_ble_eq_true rfl) rfl (Or.inl ew_1398) (hs_h.1 0 (by decide)).1 (hs_h.1 0 (by decide)).2.1 ?_
  obtain ⟨z732, H⟩ := H
  refine ea_callV (pc := 5) (d' := d - 1) (As := [vI (ea_i h (b0 + 0) 53)]) (st := []) dX12_next0_5 kX12_see (sX12_see (d := d - 1) (by omega) hs_h z732) (by omega) rfl (Nat.le_of_ble_eq_true rfl) ew_1826 ew_1828 ew_64 (ci := 12) rfl (by decide) (hs_h.1 0 (by decide)).1 (hs_h.1 0 (by decide)).2.1 ?_
  refine ea_bipush (pc := 8) dX12_next0_8 (v := 32) rfl ?_
  refine ea_icmp_eq (pc := 10) (tgt := 26) dX12_next0_10 rfl (fun c731 => ?_) (fun c731 => ?_)
  · have H := H.1 c731
    refine ea_aload_n (pc := 26) dX12_next0_26 rfl 0 rfl ?_
    refine ea_dup (pc := 27) dX12_next0_27 rfl ?_
    refine ea_getI (pc := 28) dX12_next0_28 ec_12 (k := 53) (Nat.le_of_ble_eq_true rfl) rfl (Or.inl ew_1398) (hs_h.1 0 (by decide)).1 (hs_h.1 0 (by decide)).2.1 ?_
    refine ea_iconst (pc := 31) dX12_next0_31 (v := 1) rfl ?_
    refine ea_iadd (pc := 32) dX12_next0_32 ?_
    refine ea_putI (pc := 33) dX12_next0_33 ec_12 (k := 53) (Nat.le_of_ble_eq_true rfl) rfl (Or.inl ⟨rfl, Or.inl ew_1398⟩) rfl rfl (hs_h.1 0 (by decide)).1 (hs_h.1 0 (by decide)).2.1 ?_
    obtain ⟨h369, E370⟩ : ∃ z, z = ea_wi h (b0 + 0) 53 ((ea_i h (b0 + 0) 53) + (1 : Int32)) := ⟨_, rfl⟩
    have H := H h369 E370
    refine ea_nm E370 ?_
    have hs_h369 : ShM b0 h369 := by rw [E370]; exact ShM_wi hs_h
    refine ea_goto (pc := 36) (tgt := 0) dX12_next0_36 rfl ?_
    exact H
  · have H := H.2 c731
    refine ea_aload_n (pc := 13) dX12_next0_13 rfl 0 rfl ?_
    refine ea_aload_n (pc := 14) dX12_next0_14 rfl 0 rfl ?_
    refine ea_getI (pc := 15) dX12_next0_15 ec_12 (k := 53) (Nat.le_of_ble_eq_true rfl) rfl (Or.inl ew_1398) (hs_h.1 0 (by decide)).1 (hs_h.1 0 (by decide)).2.1 ?_
    obtain ⟨z730, H⟩ := H
    refine ea_callV (pc := 18) (d' := d - 1) (As := [vI (ea_i h (b0 + 0) 53)]) (st := []) dX12_next0_18 kX12_see (sX12_see (d := d - 1) (by omega) hs_h z730) (by omega) rfl (Nat.le_of_ble_eq_true rfl) ew_1826 ew_1828 ew_64 (ci := 12) rfl (by decide) (hs_h.1 0 (by decide)).1 (hs_h.1 0 (by decide)).2.1 ?_
    refine ea_bipush (pc := 21) dX12_next0_21 (v := 10) rfl ?_
    refine ea_icmp_ne (pc := 23) (tgt := 39) dX12_next0_23 rfl (fun c729 => ?_) (fun c729 => ?_)
    · have H := H.1 c729
      refine ea_aload_n (pc := 39) dX12_next0_39 rfl 0 rfl ?_
      refine ea_aload_n (pc := 40) dX12_next0_40 rfl 0 rfl ?_
      refine ea_getI (pc := 41) dX12_next0_41 ec_12 (k := 53) (Nat.le_of_ble_eq_true rfl) rfl (Or.inl ew_1398) (hs_h.1 0 (by decide)).1 (hs_h.1 0 (by decide)).2.1 ?_
      refine ea_putI (pc := 44) dX12_next0_44 ec_12 (k := 55) (Nat.le_of_ble_eq_true rfl) rfl (Or.inl ⟨rfl, Or.inl ew_1400⟩) rfl rfl (hs_h.1 0 (by decide)).1 (hs_h.1 0 (by decide)).2.1 ?_
      obtain ⟨h553, E554⟩ : ∃ z, z = ea_wi h (b0 + 0) 55 (ea_i h (b0 + 0) 53) := ⟨_, rfl⟩
      have H := H h553 E554
      refine ea_nm E554 ?_
      have hs_h553 : ShM b0 h553 := by rw [E554]; exact ShM_wi hs_h
      refine ea_aload_n (pc := 47) dX12_next0_47 rfl 0 rfl ?_
      refine ea_aload_n (pc := 48) dX12_next0_48 rfl 0 rfl ?_
      refine ea_getI (pc := 49) dX12_next0_49 ec_12 (k := 53) (Nat.le_of_ble_eq_true rfl) rfl (Or.inl ew_1398) (hs_h553.1 0 (by decide)).1 (hs_h553.1 0 (by decide)).2.1 ?_
      obtain ⟨z726, H⟩ := H
      refine ea_callV (pc := 52) (d' := d - 1) (As := [vI (ea_i h553 (b0 + 0) 53)]) (st := []) dX12_next0_52 kX12_see (sX12_see (d := d - 1) (by omega) hs_h553 z726) (by omega) rfl (Nat.le_of_ble_eq_true rfl) ew_1826 ew_1828 ew_64 (ci := 12) rfl (by decide) (hs_h553.1 0 (by decide)).1 (hs_h553.1 0 (by decide)).2.1 ?_
      refine ea_istore_n (pc := 55) (lv' := [(0, vR (some (b0 + 0))), (1, vI (vX12_see b0 ((ea_i h553 (b0 + 0) 53) : Int32) h553))]) dX12_next0_55 rfl (Nat.le_of_ble_eq_true rfl) [1, 0] rfl ?_
      refine ea_iload_n (pc := 56) dX12_next0_56 rfl 1 rfl ?_
      refine ea_iconst (pc := 57) dX12_next0_57 (v := (-1)) rfl ?_
      refine ea_icmp_ne (pc := 58) (tgt := 69) dX12_next0_58 rfl (fun c725 => ?_) (fun c725 => ?_)
      · have H := H.1 c725
        refine ea_iload_n (pc := 69) dX12_next0_69 rfl 1 rfl ?_
        refine ea_callS (pc := 70) (d' := d - 1) (As := [vI (vX12_see b0 ((ea_i h553 (b0 + 0) 53) : Int32) h553)]) (st := []) dX12_next0_70 kX12_isLetter (sX12_isLetter (d := d - 1) (by omega)) (by omega) rfl (Nat.le_of_ble_eq_true rfl) ew_1830 ew_1831 ?_
        refine ea_if_eq (pc := 73) (tgt := 114) dX12_next0_73 rfl (fun c721 => ?_) (fun c721 => ?_)
        · have H := H.1 c721
          refine ea_iload_n (pc := 114) dX12_next0_114 rfl 1 rfl ?_
          refine ea_callS (pc := 115) (d' := d - 1) (As := [vI (vX12_see b0 ((ea_i h553 (b0 + 0) 53) : Int32) h553)]) (st := []) dX12_next0_115 kX12_isDigit (sX12_isDigit (d := d - 1) (by omega)) (by omega) rfl (Nat.le_of_ble_eq_true rfl) ew_1907 ew_1908 ?_
          refine ea_if_eq (pc := 118) (tgt := 214) dX12_next0_118 rfl (fun c719 => ?_) (fun c719 => ?_)
          · have H := H.1 c719
            refine ea_aload_n (pc := 214) dX12_next0_214 rfl 0 rfl ?_
            refine ea_dup (pc := 215) dX12_next0_215 rfl ?_
            refine ea_getI (pc := 216) dX12_next0_216 ec_12 (k := 53) (Nat.le_of_ble_eq_true rfl) rfl (Or.inl ew_1398) (hs_h553.1 0 (by decide)).1 (hs_h553.1 0 (by decide)).2.1 ?_
            refine ea_iconst (pc := 219) dX12_next0_219 (v := 1) rfl ?_
            refine ea_iadd (pc := 220) dX12_next0_220 ?_
            refine ea_putI (pc := 221) dX12_next0_221 ec_12 (k := 53) (Nat.le_of_ble_eq_true rfl) rfl (Or.inl ⟨rfl, Or.inl ew_1398⟩) rfl rfl (hs_h553.1 0 (by decide)).1 (hs_h553.1 0 (by decide)).2.1 ?_
            obtain ⟨h705, E706⟩ : ∃ z, z = ea_wi h553 (b0 + 0) 53 ((ea_i h553 (b0 + 0) 53) + (1 : Int32)) := ⟨_, rfl⟩
            have H := H h705 E706
            refine ea_nm E706 ?_
            have hs_h705 : ShM b0 h705 := by rw [E706]; exact ShM_wi hs_h553
            refine ea_iload_n (pc := 224) dX12_next0_224 rfl 1 rfl ?_
            refine ea_bipush (pc := 225) dX12_next0_225 (v := 59) rfl ?_
            refine ea_icmp_eq (pc := 227) (tgt := 284) dX12_next0_227 rfl (fun c716 => ?_) (fun c716 => ?_)
            · have H := H.1 c716
              refine ea_iconst (pc := 284) dX12_next0_284 (v := 1) rfl ?_
              refine ea_goto (pc := 285) (tgt := 289) dX12_next0_285 rfl ?_
              exact H
            · have H := H.2 c716
              refine ea_iload_n (pc := 230) dX12_next0_230 rfl 1 rfl ?_
              refine ea_bipush (pc := 231) dX12_next0_231 (v := 43) rfl ?_
              refine ea_icmp_eq (pc := 233) (tgt := 284) dX12_next0_233 rfl (fun c715 => ?_) (fun c715 => ?_)
              · have H := H.1 c715
                refine ea_iconst (pc := 284) dX12_next0_284 (v := 1) rfl ?_
                refine ea_goto (pc := 285) (tgt := 289) dX12_next0_285 rfl ?_
                exact H
              · have H := H.2 c715
                refine ea_iload_n (pc := 236) dX12_next0_236 rfl 1 rfl ?_
                refine ea_bipush (pc := 237) dX12_next0_237 (v := 45) rfl ?_
                refine ea_icmp_eq (pc := 239) (tgt := 284) dX12_next0_239 rfl (fun c714 => ?_) (fun c714 => ?_)
                · have H := H.1 c714
                  refine ea_iconst (pc := 284) dX12_next0_284 (v := 1) rfl ?_
                  refine ea_goto (pc := 285) (tgt := 289) dX12_next0_285 rfl ?_
                  exact H
                · have H := H.2 c714
                  refine ea_iload_n (pc := 242) dX12_next0_242 rfl 1 rfl ?_
                  refine ea_bipush (pc := 243) dX12_next0_243 (v := 42) rfl ?_
                  refine ea_icmp_eq (pc := 245) (tgt := 284) dX12_next0_245 rfl (fun c713 => ?_) (fun c713 => ?_)
                  · have H := H.1 c713
                    refine ea_iconst (pc := 284) dX12_next0_284 (v := 1) rfl ?_
                    refine ea_goto (pc := 285) (tgt := 289) dX12_next0_285 rfl ?_
                    exact H
                  · have H := H.2 c713
                    refine ea_iload_n (pc := 248) dX12_next0_248 rfl 1 rfl ?_
                    refine ea_bipush (pc := 249) dX12_next0_249 (v := 47) rfl ?_
                    refine ea_icmp_eq (pc := 251) (tgt := 284) dX12_next0_251 rfl (fun c712 => ?_) (fun c712 => ?_)
                    · have H := H.1 c712
                      refine ea_iconst (pc := 284) dX12_next0_284 (v := 1) rfl ?_
                      refine ea_goto (pc := 285) (tgt := 289) dX12_next0_285 rfl ?_
                      exact H
                    · have H := H.2 c712
                      refine ea_iload_n (pc := 254) dX12_next0_254 rfl 1 rfl ?_
                      refine ea_bipush (pc := 255) dX12_next0_255 (v := 40) rfl ?_
                      refine ea_icmp_eq (pc := 257) (tgt := 284) dX12_next0_257 rfl (fun c711 => ?_) (fun c711 => ?_)
                      · have H := H.1 c711
                        refine ea_iconst (pc := 284) dX12_next0_284 (v := 1) rfl ?_
                        refine ea_goto (pc := 285) (tgt := 289) dX12_next0_285 rfl ?_
                        exact H
                      · have H := H.2 c711
                        refine ea_iload_n (pc := 260) dX12_next0_260 rfl 1 rfl ?_
                        refine ea_bipush (pc := 261) dX12_next0_261 (v := 41) rfl ?_
                        refine ea_icmp_eq (pc := 263) (tgt := 284) dX12_next0_263 rfl (fun c710 => ?_) (fun c710 => ?_)
                        · have H := H.1 c710
                          refine ea_iconst (pc := 284) dX12_next0_284 (v := 1) rfl ?_
                          refine ea_goto (pc := 285) (tgt := 289) dX12_next0_285 rfl ?_
                          exact H
                        · have H := H.2 c710
                          refine ea_iload_n (pc := 266) dX12_next0_266 rfl 1 rfl ?_
                          refine ea_bipush (pc := 267) dX12_next0_267 (v := 60) rfl ?_
                          refine ea_icmp_eq (pc := 269) (tgt := 284) dX12_next0_269 rfl (fun c709 => ?_) (fun c709 => ?_)
                          · have H := H.1 c709
                            refine ea_iconst (pc := 284) dX12_next0_284 (v := 1) rfl ?_
                            refine ea_goto (pc := 285) (tgt := 289) dX12_next0_285 rfl ?_
                            exact H
                          · have H := H.2 c709
                            refine ea_iload_n (pc := 272) dX12_next0_272 rfl 1 rfl ?_
                            refine ea_bipush (pc := 273) dX12_next0_273 (v := 61) rfl ?_
                            refine ea_icmp_eq (pc := 275) (tgt := 284) dX12_next0_275 rfl (fun c708 => ?_) (fun c708 => ?_)
                            · have H := H.1 c708
                              refine ea_iconst (pc := 284) dX12_next0_284 (v := 1) rfl ?_
                              refine ea_goto (pc := 285) (tgt := 289) dX12_next0_285 rfl ?_
                              exact H
                            · have H := H.2 c708
                              refine ea_iload_n (pc := 278) dX12_next0_278 rfl 1 rfl ?_
                              refine ea_bipush (pc := 279) dX12_next0_279 (v := 62) rfl ?_
                              refine ea_icmp_ne (pc := 281) (tgt := 288) dX12_next0_281 rfl (fun c707 => ?_) (fun c707 => ?_)
                              · have H := H.1 c707
                                refine ea_iconst (pc := 288) dX12_next0_288 (v := 0) rfl ?_
                                exact H
                              · have H := H.2 c707
                                refine ea_iconst (pc := 284) dX12_next0_284 (v := 1) rfl ?_
                                refine ea_goto (pc := 285) (tgt := 289) dX12_next0_285 rfl ?_
                                exact H
          · have H := H.2 c719
            refine ea_aload_n (pc := 121) dX12_next0_121 rfl 0 rfl ?_
            refine ea_iconst (pc := 122) dX12_next0_122 (v := 0) rfl ?_
            refine ea_putI (pc := 123) dX12_next0_123 ec_12 (k := 56) (Nat.le_of_ble_eq_true rfl) rfl (Or.inl ⟨rfl, Or.inl ew_1401⟩) rfl rfl (hs_h553.1 0 (by decide)).1 (hs_h553.1 0 (by decide)).2.1 ?_
            obtain ⟨h717, E718⟩ : ∃ z, z = ea_wi h553 (b0 + 0) 56 0 := ⟨_, rfl⟩
            have H := H h717 E718
            refine ea_nm E718 ?_
            have hs_h717 : ShM b0 h717 := by rw [E718]; exact ShM_wi hs_h553
            exact ea_fewer [0] rfl H
        · have H := H.2 c721
          exact ea_fewer [0] rfl H
      · have H := H.2 c725
        refine ea_aload_n (pc := 61) dX12_next0_61 rfl 0 rfl ?_
        refine ea_iconst (pc := 62) dX12_next0_62 (v := 0) rfl ?_
        refine ea_putI (pc := 63) dX12_next0_63 ec_12 (k := 54) (Nat.le_of_ble_eq_true rfl) rfl (Or.inl ⟨rfl, Or.inl ew_1399⟩) rfl rfl (hs_h553.1 0 (by decide)).1 (hs_h553.1 0 (by decide)).2.1 ?_
        obtain ⟨h723, E724⟩ : ∃ z, z = ea_wi h553 (b0 + 0) 54 0 := ⟨_, rfl⟩
        have H := H h723 E724
        refine ea_nm E724 ?_
        have hs_h723 : ShM b0 h723 := by rw [E724]; exact ShM_wi hs_h553
        refine ea_goto (pc := 66) (tgt := 303) dX12_next0_66 rfl ?_
        obtain ⟨rfl, rfl⟩ := H
        exact ea_return (pc := 303) dX12_next0_303 rfl
    · have H := H.2 c729
      refine ea_aload_n (pc := 26) dX12_next0_26 rfl 0 rfl ?_
      refine ea_dup (pc := 27) dX12_next0_27 rfl ?_
      refine ea_getI (pc := 28) dX12_next0_28 ec_12 (k := 53) (Nat.le_of_ble_eq_true rfl) rfl (Or.inl ew_1398) (hs_h.1 0 (by decide)).1 (hs_h.1 0 (by decide)).2.1 ?_
      refine ea_iconst (pc := 31) dX12_next0_31 (v := 1) rfl ?_
      refine ea_iadd (pc := 32) dX12_next0_32 ?_
      refine ea_putI (pc := 33) dX12_next0_33 ec_12 (k := 53) (Nat.le_of_ble_eq_true rfl) rfl (Or.inl ⟨rfl, Or.inl ew_1398⟩) rfl rfl (hs_h.1 0 (by decide)).1 (hs_h.1 0 (by decide)).2.1 ?_
      obtain ⟨h727, E728⟩ : ∃ z, z = ea_wi h (b0 + 0) 53 ((ea_i h (b0 + 0) 53) + (1 : Int32)) := ⟨_, rfl⟩
      have H := H h727 E728
      refine ea_nm E728 ?_
      have hs_h727 : ShM b0 h727 := by rw [E728]; exact ShM_wi hs_h
      refine ea_goto (pc := 36) (tgt := 0) dX12_next0_36 rfl ?_
      exact H
set_option maxRecDepth 100000 in
set_option maxHeartbeats 4000000 in
theorem pX12_next0_76 {d b0 : Nat} {h0 hE h : ea_H} {rv : Option ea_V}  (hd : 3 ≤ d) (hs_h : ShM b0 h) (H : (okX12_see b0 ((ea_i h (b0 + 0) 53) : Int32) h) ∧ ((vX12_isLetter ((vX12_see b0 ((ea_i h (b0 + 0) 53) : Int32) h) : Int32) h) = (0 : Int32) → ∃ (d47 : Nat) (xc51 : Int32) (h48 : ea_H), ea_Met mX12_word d47 [vR (some (b0 + 0))] h (some (vI xc51)) h48 ∧ d47 + 1 ≤ d ∧ ShM b0 h48 ∧ ∀ h52, h52 = ea_wi h48 (b0 + 0) 54 xc51 → rv = none ∧ hE = h52) ∧ (¬ (vX12_isLetter ((vX12_see b0 ((ea_i h (b0 + 0) 53) : Int32) h) : Int32) h) = (0 : Int32) → ∀ h54, h54 = ea_wi h (b0 + 0) 53 ((ea_i h (b0 + 0) 53) + (1 : Int32)) → ea_W mX12_next0 d h0 rv hE 76 [(0, vR (some (b0 + 0)))] [] h54)) : ea_W mX12_next0 d h0 rv hE 76 [(0, vR (some (b0 + 0)))] [] h := by
  refine ea_aload_n (pc := 76) dX12_next0_76 rfl 0 rfl ?_
  refine ea_aload_n (pc := 77) dX12_next0_77 rfl 0 rfl ?_
  refine ea_getI (pc := 78) dX12_next0_78 ec_12 (k := 53) (Nat.le_of_ble_eq_true rfl) rfl (Or.inl ew_1398) (hs_h.1 0 (by decide)).1 (hs_h.1 0 (by decide)).2.1 ?_
  obtain ⟨z58, H⟩ := H
  refine ea_callV (pc := 81) (d' := d - 1) (As := [vI (ea_i h (b0 + 0) 53)]) (st := []) dX12_next0_81 kX12_see (sX12_see (d := d - 1) (by omega) hs_h z58) (by omega) rfl (Nat.le_of_ble_eq_true rfl) ew_1826 ew_1828 ew_64 (ci := 12) rfl (by decide) (hs_h.1 0 (by decide)).1 (hs_h.1 0 (by decide)).2.1 ?_
  refine ea_callS (pc := 84) (d' := d - 1) (As := [vI (vX12_see b0 ((ea_i h (b0 + 0) 53) : Int32) h)]) (st := []) dX12_next0_84 kX12_isLetter (sX12_isLetter (d := d - 1) (by omega)) (by omega) rfl (Nat.le_of_ble_eq_true rfl) ew_1830 ew_1831 ?_
  refine ea_if_eq (pc := 87) (tgt := 103) dX12_next0_87 rfl (fun c56 => ?_) (fun c56 => ?_)
  · have H := H.1 c56
    refine ea_aload_n (pc := 103) dX12_next0_103 rfl 0 rfl ?_
    refine ea_aload_n (pc := 104) dX12_next0_104 rfl 0 rfl ?_
    obtain ⟨d47, xc51, h48, m49, q50, hs_h48, H⟩ := H
    refine ea_callV (pc := 105) (As := []) (st := [vR (some (b0 + 0))]) dX12_next0_105 kX12_word m49 q50 rfl (Nat.le_of_ble_eq_true rfl) ew_1833 ew_1835 ew_65 (ci := 12) rfl (by decide) (hs_h.1 0 (by decide)).1 (hs_h.1 0 (by decide)).2.1 ?_
    refine ea_putI (pc := 108) dX12_next0_108 ec_12 (k := 54) (Nat.le_of_ble_eq_true rfl) rfl (Or.inl ⟨rfl, Or.inl ew_1399⟩) rfl rfl (hs_h48.1 0 (by decide)).1 (hs_h48.1 0 (by decide)).2.1 ?_
    obtain ⟨h52, E53⟩ : ∃ z, z = ea_wi h48 (b0 + 0) 54 xc51 := ⟨_, rfl⟩
    have H := H h52 E53
    refine ea_nm E53 ?_
    have hs_h52 : ShM b0 h52 := by rw [E53]; exact ShM_wi hs_h48
    refine ea_goto (pc := 111) (tgt := 303) dX12_next0_111 rfl ?_
    obtain ⟨rfl, rfl⟩ := H
    exact ea_return (pc := 303) dX12_next0_303 rfl
  · have H := H.2 c56
    refine ea_aload_n (pc := 90) dX12_next0_90 rfl 0 rfl ?_
    refine ea_dup (pc := 91) dX12_next0_91 rfl ?_
    refine ea_getI (pc := 92) dX12_next0_92 ec_12 (k := 53) (Nat.le_of_ble_eq_true rfl) rfl (Or.inl ew_1398) (hs_h.1 0 (by decide)).1 (hs_h.1 0 (by decide)).2.1 ?_
    refine ea_iconst (pc := 95) dX12_next0_95 (v := 1) rfl ?_
    refine ea_iadd (pc := 96) dX12_next0_96 ?_
    refine ea_putI (pc := 97) dX12_next0_97 ec_12 (k := 53) (Nat.le_of_ble_eq_true rfl) rfl (Or.inl ⟨rfl, Or.inl ew_1398⟩) rfl rfl (hs_h.1 0 (by decide)).1 (hs_h.1 0 (by decide)).2.1 ?_
    obtain ⟨h54, E55⟩ : ∃ z, z = ea_wi h (b0 + 0) 53 ((ea_i h (b0 + 0) 53) + (1 : Int32)) := ⟨_, rfl⟩
    have H := H h54 E55
    refine ea_nm E55 ?_
    have hs_h54 : ShM b0 h54 := by rw [E55]; exact ShM_wi hs_h
    refine ea_goto (pc := 100) (tgt := 76) dX12_next0_100 rfl ?_
    exact H
set_option maxRecDepth 100000 in
set_option maxHeartbeats 4000000 in
theorem pX12_next0_126 {d b0 : Nat} {h0 hE h : ea_H} {rv : Option ea_V}  (hd : 3 ≤ d) (hs_h : ShM b0 h) (H : (okX12_see b0 ((ea_i h (b0 + 0) 53) : Int32) h) ∧ ((vX12_isDigit ((vX12_see b0 ((ea_i h (b0 + 0) 53) : Int32) h) : Int32) h) = (0 : Int32) → ((5 : Int32) ≤ ((ea_i h (b0 + 0) 53) - (ea_i h (b0 + 0) 55)) → ∀ h86, h86 = ea_wi h (b0 + 0) 54 1 → rv = none ∧ hE = h86) ∧ (¬ (5 : Int32) ≤ ((ea_i h (b0 + 0) 53) - (ea_i h (b0 + 0) 55)) → ∀ h88, h88 = ea_wi h (b0 + 0) 54 2 → rv = none ∧ hE = h88)) ∧ (¬ (vX12_isDigit ((vX12_see b0 ((ea_i h (b0 + 0) 53) : Int32) h) : Int32) h) = (0 : Int32) → (((ea_i h (b0 + 0) 55) + (4 : Int32)) ≤ (ea_i h (b0 + 0) 53) → ∀ h91, h91 = ea_wi h (b0 + 0) 53 ((ea_i h (b0 + 0) 53) + (1 : Int32)) → ea_W mX12_next0 d h0 rv hE 126 [(0, vR (some (b0 + 0)))] [] h91) ∧ (¬ ((ea_i h (b0 + 0) 55) + (4 : Int32)) ≤ (ea_i h (b0 + 0) 53) → (okX12_see b0 ((ea_i h (b0 + 0) 53) : Int32) h) ∧ ∀ h102, h102 = ea_wi h (b0 + 0) 56 ((((10 : Int32) * (ea_i h (b0 + 0) 56)) + (vX12_see b0 ((ea_i h (b0 + 0) 53) : Int32) h)) - (48 : Int32)) → ∀ h104, h104 = ea_wi h102 (b0 + 0) 53 ((ea_i h102 (b0 + 0) 53) + (1 : Int32)) → ea_W mX12_next0 d h0 rv hE 126 [(0, vR (some (b0 + 0)))] [] h104))) : ea_W mX12_next0 d h0 rv hE 126 [(0, vR (some (b0 + 0)))] [] h := by
  refine ea_aload_n (pc := 126) dX12_next0_126 rfl 0 rfl ?_
  refine ea_aload_n (pc := 127) dX12_next0_127 rfl 0 rfl ?_
  refine ea_getI (pc := 128) dX12_next0_128 ec_12 (k := 53) (Nat.le_of_ble_eq_true rfl) rfl (Or.inl ew_1398) (hs_h.1 0 (by decide)).1 (hs_h.1 0 (by decide)).2.1 ?_
  obtain ⟨z110, H⟩ := H
  refine ea_callV (pc := 131) (d' := d - 1) (As := [vI (ea_i h (b0 + 0) 53)]) (st := []) dX12_next0_131 kX12_see (sX12_see (d := d - 1) (by omega) hs_h z110) (by omega) rfl (Nat.le_of_ble_eq_true rfl) ew_1826 ew_1828 ew_64 (ci := 12) rfl (by decide) (hs_h.1 0 (by decide)).1 (hs_h.1 0 (by decide)).2.1 ?_
  refine ea_callS (pc := 134) (d' := d - 1) (As := [vI (vX12_see b0 ((ea_i h (b0 + 0) 53) : Int32) h)]) (st := []) dX12_next0_134 kX12_isDigit (sX12_isDigit (d := d - 1) (by omega)) (by omega) rfl (Nat.le_of_ble_eq_true rfl) ew_1907 ew_1908 ?_
  refine ea_if_eq (pc := 137) (tgt := 189) dX12_next0_137 rfl (fun c108 => ?_) (fun c108 => ?_)
  · have H := H.1 c108
    refine ea_aload_n (pc := 189) dX12_next0_189 rfl 0 rfl ?_
    refine ea_aload_n (pc := 190) dX12_next0_190 rfl 0 rfl ?_
    refine ea_getI (pc := 191) dX12_next0_191 ec_12 (k := 53) (Nat.le_of_ble_eq_true rfl) rfl (Or.inl ew_1398) (hs_h.1 0 (by decide)).1 (hs_h.1 0 (by decide)).2.1 ?_
    refine ea_aload_n (pc := 194) dX12_next0_194 rfl 0 rfl ?_
    refine ea_getI (pc := 195) dX12_next0_195 ec_12 (k := 55) (Nat.le_of_ble_eq_true rfl) rfl (Or.inl ew_1400) (hs_h.1 0 (by decide)).1 (hs_h.1 0 (by decide)).2.1 ?_
    refine ea_isub (pc := 198) dX12_next0_198 ?_
    refine ea_iconst (pc := 199) dX12_next0_199 (v := 5) rfl ?_
    refine ea_icmp_ge (pc := 200) (tgt := 207) dX12_next0_200 rfl (fun c90 => ?_) (fun c90 => ?_)
    · have H := H.1 c90
      refine ea_iconst (pc := 207) dX12_next0_207 (v := 1) rfl ?_
      refine ea_putI (pc := 208) dX12_next0_208 ec_12 (k := 54) (Nat.le_of_ble_eq_true rfl) rfl (Or.inl ⟨rfl, Or.inl ew_1399⟩) rfl rfl (hs_h.1 0 (by decide)).1 (hs_h.1 0 (by decide)).2.1 ?_
      obtain ⟨h86, E87⟩ : ∃ z, z = ea_wi h (b0 + 0) 54 1 := ⟨_, rfl⟩
      have H := H h86 E87
      refine ea_nm E87 ?_
      have hs_h86 : ShM b0 h86 := by rw [E87]; exact ShM_wi hs_h
      refine ea_goto (pc := 211) (tgt := 303) dX12_next0_211 rfl ?_
      obtain ⟨rfl, rfl⟩ := H
      exact ea_return (pc := 303) dX12_next0_303 rfl
    · have H := H.2 c90
      refine ea_iconst (pc := 203) dX12_next0_203 (v := 2) rfl ?_
      refine ea_goto (pc := 204) (tgt := 208) dX12_next0_204 rfl ?_
      refine ea_putI (pc := 208) dX12_next0_208 ec_12 (k := 54) (Nat.le_of_ble_eq_true rfl) rfl (Or.inl ⟨rfl, Or.inl ew_1399⟩) rfl rfl (hs_h.1 0 (by decide)).1 (hs_h.1 0 (by decide)).2.1 ?_
      obtain ⟨h88, E89⟩ : ∃ z, z = ea_wi h (b0 + 0) 54 2 := ⟨_, rfl⟩
      have H := H h88 E89
      refine ea_nm E89 ?_
      have hs_h88 : ShM b0 h88 := by rw [E89]; exact ShM_wi hs_h
      refine ea_goto (pc := 211) (tgt := 303) dX12_next0_211 rfl ?_
      obtain ⟨rfl, rfl⟩ := H
      exact ea_return (pc := 303) dX12_next0_303 rfl
  · have H := H.2 c108
    refine ea_aload_n (pc := 140) dX12_next0_140 rfl 0 rfl ?_
    refine ea_getI (pc := 141) dX12_next0_141 ec_12 (k := 53) (Nat.le_of_ble_eq_true rfl) rfl (Or.inl ew_1398) (hs_h.1 0 (by decide)).1 (hs_h.1 0 (by decide)).2.1 ?_
    refine ea_aload_n (pc := 144) dX12_next0_144 rfl 0 rfl ?_
    refine ea_getI (pc := 145) dX12_next0_145 ec_12 (k := 55) (Nat.le_of_ble_eq_true rfl) rfl (Or.inl ew_1400) (hs_h.1 0 (by decide)).1 (hs_h.1 0 (by decide)).2.1 ?_
    refine ea_iconst (pc := 148) dX12_next0_148 (v := 4) rfl ?_
    refine ea_iadd (pc := 149) dX12_next0_149 ?_
    refine ea_icmp_ge (pc := 150) (tgt := 176) dX12_next0_150 rfl (fun c107 => ?_) (fun c107 => ?_)
    · have H := H.1 c107
      refine ea_aload_n (pc := 176) dX12_next0_176 rfl 0 rfl ?_
      refine ea_dup (pc := 177) dX12_next0_177 rfl ?_
      refine ea_getI (pc := 178) dX12_next0_178 ec_12 (k := 53) (Nat.le_of_ble_eq_true rfl) rfl (Or.inl ew_1398) (hs_h.1 0 (by decide)).1 (hs_h.1 0 (by decide)).2.1 ?_
      refine ea_iconst (pc := 181) dX12_next0_181 (v := 1) rfl ?_
      refine ea_iadd (pc := 182) dX12_next0_182 ?_
      refine ea_putI (pc := 183) dX12_next0_183 ec_12 (k := 53) (Nat.le_of_ble_eq_true rfl) rfl (Or.inl ⟨rfl, Or.inl ew_1398⟩) rfl rfl (hs_h.1 0 (by decide)).1 (hs_h.1 0 (by decide)).2.1 ?_
      obtain ⟨h91, E92⟩ : ∃ z, z = ea_wi h (b0 + 0) 53 ((ea_i h (b0 + 0) 53) + (1 : Int32)) := ⟨_, rfl⟩
      have H := H h91 E92
      refine ea_nm E92 ?_
      have hs_h91 : ShM b0 h91 := by rw [E92]; exact ShM_wi hs_h
      refine ea_goto (pc := 186) (tgt := 126) dX12_next0_186 rfl ?_
      exact H
    · have H := H.2 c107
      refine ea_aload_n (pc := 153) dX12_next0_153 rfl 0 rfl ?_
      refine ea_bipush (pc := 154) dX12_next0_154 (v := 10) rfl ?_
      refine ea_aload_n (pc := 156) dX12_next0_156 rfl 0 rfl ?_
      refine ea_getI (pc := 157) dX12_next0_157 ec_12 (k := 56) (Nat.le_of_ble_eq_true rfl) rfl (Or.inl ew_1401) (hs_h.1 0 (by decide)).1 (hs_h.1 0 (by decide)).2.1 ?_
      refine ea_imul (pc := 160) dX12_next0_160 ?_
      refine ea_aload_n (pc := 161) dX12_next0_161 rfl 0 rfl ?_
      refine ea_aload_n (pc := 162) dX12_next0_162 rfl 0 rfl ?_
      refine ea_getI (pc := 163) dX12_next0_163 ec_12 (k := 53) (Nat.le_of_ble_eq_true rfl) rfl (Or.inl ew_1398) (hs_h.1 0 (by decide)).1 (hs_h.1 0 (by decide)).2.1 ?_
      obtain ⟨z106, H⟩ := H
      refine ea_callV (pc := 166) (d' := d - 1) (As := [vI (ea_i h (b0 + 0) 53)]) (st := [vI ((10 : Int32) * (ea_i h (b0 + 0) 56)), vR (some (b0 + 0))]) dX12_next0_166 kX12_see (sX12_see (d := d - 1) (by omega) hs_h z106) (by omega) rfl (Nat.le_of_ble_eq_true rfl) ew_1826 ew_1828 ew_64 (ci := 12) rfl (by decide) (hs_h.1 0 (by decide)).1 (hs_h.1 0 (by decide)).2.1 ?_
      refine ea_iadd (pc := 169) dX12_next0_169 ?_
      refine ea_bipush (pc := 170) dX12_next0_170 (v := 48) rfl ?_
      refine ea_isub (pc := 172) dX12_next0_172 ?_
      refine ea_putI (pc := 173) dX12_next0_173 ec_12 (k := 56) (Nat.le_of_ble_eq_true rfl) rfl (Or.inl ⟨rfl, Or.inl ew_1401⟩) rfl rfl (hs_h.1 0 (by decide)).1 (hs_h.1 0 (by decide)).2.1 ?_
      obtain ⟨h102, E103⟩ : ∃ z, z = ea_wi h (b0 + 0) 56 ((((10 : Int32) * (ea_i h (b0 + 0) 56)) + (vX12_see b0 ((ea_i h (b0 + 0) 53) : Int32) h)) - (48 : Int32)) := ⟨_, rfl⟩
      have H := H h102 E103
      refine ea_nm E103 ?_
      have hs_h102 : ShM b0 h102 := by rw [E103]; exact ShM_wi hs_h
      refine ea_aload_n (pc := 176) dX12_next0_176 rfl 0 rfl ?_
      refine ea_dup (pc := 177) dX12_next0_177 rfl ?_
      refine ea_getI (pc := 178) dX12_next0_178 ec_12 (k := 53) (Nat.le_of_ble_eq_true rfl) rfl (Or.inl ew_1398) (hs_h102.1 0 (by decide)).1 (hs_h102.1 0 (by decide)).2.1 ?_
      refine ea_iconst (pc := 181) dX12_next0_181 (v := 1) rfl ?_
      refine ea_iadd (pc := 182) dX12_next0_182 ?_
      refine ea_putI (pc := 183) dX12_next0_183 ec_12 (k := 53) (Nat.le_of_ble_eq_true rfl) rfl (Or.inl ⟨rfl, Or.inl ew_1398⟩) rfl rfl (hs_h102.1 0 (by decide)).1 (hs_h102.1 0 (by decide)).2.1 ?_
      obtain ⟨h104, E105⟩ : ∃ z, z = ea_wi h102 (b0 + 0) 53 ((ea_i h102 (b0 + 0) 53) + (1 : Int32)) := ⟨_, rfl⟩
      have H := H h104 E105
      refine ea_nm E105 ?_
      have hs_h104 : ShM b0 h104 := by rw [E105]; exact ShM_wi hs_h102
      refine ea_goto (pc := 186) (tgt := 126) dX12_next0_186 rfl ?_
      exact H
set_option maxRecDepth 100000 in
set_option maxHeartbeats 4000000 in
theorem pX12_next0_289 {d b0 : Nat} {h0 hE h : ea_H} {rv : Option ea_V} {x1 : Int32} {sx0 : Int32} (hd : 3 ≤ d) (hs_h : ShM b0 h) (H : (sx0 = (0 : Int32) → ∀ h1, h1 = ea_wi h (b0 + 0) 54 1 → rv = none ∧ hE = h1) ∧ (¬ sx0 = (0 : Int32) → ∀ h3, h3 = ea_wi h (b0 + 0) 54 x1 → rv = none ∧ hE = h3)) : ea_W mX12_next0 d h0 rv hE 289 [(0, vR (some (b0 + 0))), (1, vI x1)] [vI sx0] h := by
  refine ea_istore_n (pc := 289) (lv' := [(0, vR (some (b0 + 0))), (1, vI x1), (2, vI sx0)]) dX12_next0_289 rfl (Nat.le_of_ble_eq_true rfl) [1, 2, 0] rfl ?_
  refine ea_aload_n (pc := 290) dX12_next0_290 rfl 0 rfl ?_
  refine ea_iload_n (pc := 291) dX12_next0_291 rfl 2 rfl ?_
  refine ea_if_eq (pc := 292) (tgt := 299) dX12_next0_292 rfl (fun c5 => ?_) (fun c5 => ?_)
  · have H := H.1 c5
    refine ea_iconst (pc := 299) dX12_next0_299 (v := 1) rfl ?_
    refine ea_putI (pc := 300) dX12_next0_300 ec_12 (k := 54) (Nat.le_of_ble_eq_true rfl) rfl (Or.inl ⟨rfl, Or.inl ew_1399⟩) rfl rfl (hs_h.1 0 (by decide)).1 (hs_h.1 0 (by decide)).2.1 ?_
    obtain ⟨h1, E2⟩ : ∃ z, z = ea_wi h (b0 + 0) 54 1 := ⟨_, rfl⟩
    have H := H h1 E2
    refine ea_nm E2 ?_
    have hs_h1 : ShM b0 h1 := by rw [E2]; exact ShM_wi hs_h
    obtain ⟨rfl, rfl⟩ := H
    exact ea_return (pc := 303) dX12_next0_303 rfl
  · have H := H.2 c5
    refine ea_iload_n (pc := 295) dX12_next0_295 rfl 1 rfl ?_
    refine ea_goto (pc := 296) (tgt := 300) dX12_next0_296 rfl ?_
    refine ea_putI (pc := 300) dX12_next0_300 ec_12 (k := 54) (Nat.le_of_ble_eq_true rfl) rfl (Or.inl ⟨rfl, Or.inl ew_1399⟩) rfl rfl (hs_h.1 0 (by decide)).1 (hs_h.1 0 (by decide)).2.1 ?_
    obtain ⟨h3, E4⟩ : ∃ z, z = ea_wi h (b0 + 0) 54 x1 := ⟨_, rfl⟩
    have H := H h3 E4
    refine ea_nm E4 ?_
    have hs_h3 : ShM b0 h3 := by rw [E4]; exact ShM_wi hs_h
    obtain ⟨rfl, rfl⟩ := H
    exact ea_return (pc := 303) dX12_next0_303 rfl
theorem pX12_need_0 {d b0 : Nat} {h0 hE h : ea_H} {rv : Option ea_V} {x1 : Int32} (hd : 2 ≤ d) (hs_h : ShM b0 h) (H : ((ea_i h (b0 + 0) 54) = x1 → ∃ (d1 : Nat) (h2 : ea_H), ea_Met mX12_next0 d1 [vR (some (b0 + 0))] h none h2 ∧ d1 + 1 ≤ d ∧ ShM b0 h2 ∧ rv = some (vI 1) ∧ hE = h2) ∧ (¬ (ea_i h (b0 + 0) 54) = x1 → ∀ h6, h6 = (wX12_bad b0 (1 : Int32) h) → ((vX12_bad b0 (1 : Int32) h) = 0 ∨ (vX12_bad b0 (1 : Int32) h) = 1) ∧ rv = some (vI (vX12_bad b0 (1 : Int32) h)) ∧ hE = h6)) : ea_W mX12_need d h0 rv hE 0 [(0, vR (some (b0 + 0))), (1, vI x1)] [] h := by
  refine ea_aload_n (pc := 0) dX12_need_0 rfl 0 rfl ?_
  refine ea_getI (pc := 1) dX12_need_1 ec_12 (k := 54) (Nat.le_of_ble_eq_true rfl) rfl (Or.inl ew_1399) (hs_h.1 0 (by decide)).1 (hs_h.1 0 (by decide)).2.1 ?_
  refine ea_iload_n (pc := 4) dX12_need_4 rfl 1 rfl ?_
  refine ea_icmp_eq (pc := 5) (tgt := 14) dX12_need_5 rfl (fun c14 => ?_) (fun c14 => ?_)
  · have H := H.1 c14
    refine ea_aload_n (pc := 14) dX12_need_14 rfl 0 rfl ?_
    obtain ⟨d1, h2, m3, q4, hs_h2, H⟩ := H
    refine ea_callV (pc := 15) (As := []) (st := []) dX12_need_15 kX12_next0 m3 q4 rfl (Nat.le_of_ble_eq_true rfl) ew_1822 ew_1824 ew_63 (ci := 12) rfl (by decide) (hs_h.1 0 (by decide)).1 (hs_h.1 0 (by decide)).2.1 ?_
    refine ea_iconst (pc := 18) dX12_need_18 (v := 1) rfl ?_
    obtain ⟨rfl, rfl⟩ := H
    exact ea_ireturn (pc := 19) dX12_need_19 rfl (ea_bn (Or.inr rfl))
  · have H := H.2 c14
    refine ea_aload_n (pc := 8) dX12_need_8 rfl 0 rfl ?_
    refine ea_iconst (pc := 9) dX12_need_9 (v := 1) rfl ?_
    refine ea_callV (pc := 10) (d' := d - 1) (As := [vI 1]) (st := []) dX12_need_10 kX12_bad (sX12_bad (d := d - 1) (by omega) hs_h) (by omega) rfl (Nat.le_of_ble_eq_true rfl) ew_1914 ew_1916 ew_68 (ci := 12) rfl (by decide) (hs_h.1 0 (by decide)).1 (hs_h.1 0 (by decide)).2.1 ?_
    obtain ⟨h6, E13⟩ : ∃ z, z = (wX12_bad b0 (1 : Int32) h) := ⟨_, rfl⟩
    have H := H h6 E13
    refine ea_nm E13 ?_
    have hs_h6 : ShM b0 h6 := by rw [E13]; exact shX12_bad hs_h
    obtain ⟨z11, rfl, rfl⟩ := H
    exact ea_ireturn (pc := 13) dX12_need_13 rfl (ea_bn z11)
theorem pX12_aNumber_0 {d b0 : Nat} {h0 hE h : ea_H} {rv : Option ea_V} {x1 : Int32} (hd : 2 ≤ d) (hs_h : ShM b0 h) (H : ((ea_i h (b0 + 0) 54) = (2 : Int32) → ((ea_i h (b0 + 0) 56) ≤ x1 → ∀ h1, h1 = ea_wi h (b0 + 0) 61 (ea_i h (b0 + 0) 56) → ∃ (d3 : Nat) (h4 : ea_H), ea_Met mX12_next0 d3 [vR (some (b0 + 0))] h1 none h4 ∧ d3 + 1 ≤ d ∧ ShM b0 h4 ∧ rv = some (vI 1) ∧ hE = h4) ∧ (¬ (ea_i h (b0 + 0) 56) ≤ x1 → ∀ h8, h8 = (wX12_bad b0 (2 : Int32) h) → ((vX12_bad b0 (2 : Int32) h) = 0 ∨ (vX12_bad b0 (2 : Int32) h) = 1) ∧ rv = some (vI (vX12_bad b0 (2 : Int32) h)) ∧ hE = h8)) ∧ (¬ (ea_i h (b0 + 0) 54) = (2 : Int32) → ∀ h18, h18 = (wX12_bad b0 (1 : Int32) h) → ((vX12_bad b0 (1 : Int32) h) = 0 ∨ (vX12_bad b0 (1 : Int32) h) = 1) ∧ rv = some (vI (vX12_bad b0 (1 : Int32) h)) ∧ hE = h18)) : ea_W mX12_aNumber d h0 rv hE 0 [(0, vR (some (b0 + 0))), (1, vI x1)] [] h := by
  refine ea_aload_n (pc := 0) dX12_aNumber_0 rfl 0 rfl ?_
  refine ea_getI (pc := 1) dX12_aNumber_1 ec_12 (k := 54) (Nat.le_of_ble_eq_true rfl) rfl (Or.inl ew_1399) (hs_h.1 0 (by decide)).1 (hs_h.1 0 (by decide)).2.1 ?_
  refine ea_iconst (pc := 4) dX12_aNumber_4 (v := 2) rfl ?_
  refine ea_icmp_eq (pc := 5) (tgt := 14) dX12_aNumber_5 rfl (fun c26 => ?_) (fun c26 => ?_)
  · have H := H.1 c26
    refine ea_aload_n (pc := 14) dX12_aNumber_14 rfl 0 rfl ?_
    refine ea_getI (pc := 15) dX12_aNumber_15 ec_12 (k := 56) (Nat.le_of_ble_eq_true rfl) rfl (Or.inl ew_1401) (hs_h.1 0 (by decide)).1 (hs_h.1 0 (by decide)).2.1 ?_
    refine ea_iload_n (pc := 18) dX12_aNumber_18 rfl 1 rfl ?_
    refine ea_icmp_le (pc := 19) (tgt := 28) dX12_aNumber_19 rfl (fun c16 => ?_) (fun c16 => ?_)
    · have H := H.1 c16
      refine ea_aload_n (pc := 28) dX12_aNumber_28 rfl 0 rfl ?_
      refine ea_aload_n (pc := 29) dX12_aNumber_29 rfl 0 rfl ?_
      refine ea_getI (pc := 30) dX12_aNumber_30 ec_12 (k := 56) (Nat.le_of_ble_eq_true rfl) rfl (Or.inl ew_1401) (hs_h.1 0 (by decide)).1 (hs_h.1 0 (by decide)).2.1 ?_
      refine ea_putI (pc := 33) dX12_aNumber_33 ec_12 (k := 61) (Nat.le_of_ble_eq_true rfl) rfl (Or.inl ⟨rfl, Or.inl ew_1406⟩) rfl rfl (hs_h.1 0 (by decide)).1 (hs_h.1 0 (by decide)).2.1 ?_
      obtain ⟨h1, E2⟩ : ∃ z, z = ea_wi h (b0 + 0) 61 (ea_i h (b0 + 0) 56) := ⟨_, rfl⟩
      have H := H h1 E2
      refine ea_nm E2 ?_
      have hs_h1 : ShM b0 h1 := by rw [E2]; exact ShM_wi hs_h
      refine ea_aload_n (pc := 36) dX12_aNumber_36 rfl 0 rfl ?_
      obtain ⟨d3, h4, m5, q6, hs_h4, H⟩ := H
      refine ea_callV (pc := 37) (As := []) (st := []) dX12_aNumber_37 kX12_next0 m5 q6 rfl (Nat.le_of_ble_eq_true rfl) ew_1822 ew_1824 ew_63 (ci := 12) rfl (by decide) (hs_h1.1 0 (by decide)).1 (hs_h1.1 0 (by decide)).2.1 ?_
      refine ea_iconst (pc := 40) dX12_aNumber_40 (v := 1) rfl ?_
      obtain ⟨rfl, rfl⟩ := H
      exact ea_ireturn (pc := 41) dX12_aNumber_41 rfl (ea_bn (Or.inr rfl))
    · have H := H.2 c16
      refine ea_aload_n (pc := 22) dX12_aNumber_22 rfl 0 rfl ?_
      refine ea_iconst (pc := 23) dX12_aNumber_23 (v := 2) rfl ?_
      refine ea_callV (pc := 24) (d' := d - 1) (As := [vI 2]) (st := []) dX12_aNumber_24 kX12_bad (sX12_bad (d := d - 1) (by omega) hs_h) (by omega) rfl (Nat.le_of_ble_eq_true rfl) ew_1914 ew_1916 ew_68 (ci := 12) rfl (by decide) (hs_h.1 0 (by decide)).1 (hs_h.1 0 (by decide)).2.1 ?_
      obtain ⟨h8, E15⟩ : ∃ z, z = (wX12_bad b0 (2 : Int32) h) := ⟨_, rfl⟩
      have H := H h8 E15
      refine ea_nm E15 ?_
      have hs_h8 : ShM b0 h8 := by rw [E15]; exact shX12_bad hs_h
      obtain ⟨z13, rfl, rfl⟩ := H
      exact ea_ireturn (pc := 27) dX12_aNumber_27 rfl (ea_bn z13)
  · have H := H.2 c26
    refine ea_aload_n (pc := 8) dX12_aNumber_8 rfl 0 rfl ?_
    refine ea_iconst (pc := 9) dX12_aNumber_9 (v := 1) rfl ?_
    refine ea_callV (pc := 10) (d' := d - 1) (As := [vI 1]) (st := []) dX12_aNumber_10 kX12_bad (sX12_bad (d := d - 1) (by omega) hs_h) (by omega) rfl (Nat.le_of_ble_eq_true rfl) ew_1914 ew_1916 ew_68 (ci := 12) rfl (by decide) (hs_h.1 0 (by decide)).1 (hs_h.1 0 (by decide)).2.1 ?_
    obtain ⟨h18, E25⟩ : ∃ z, z = (wX12_bad b0 (1 : Int32) h) := ⟨_, rfl⟩
    have H := H h18 E25
    refine ea_nm E25 ?_
    have hs_h18 : ShM b0 h18 := by rw [E25]; exact shX12_bad hs_h
    obtain ⟨z23, rfl, rfl⟩ := H
    exact ea_ireturn (pc := 13) dX12_aNumber_13 rfl (ea_bn z23)
theorem pX12_opens_0 {d b0 : Nat} {h0 hE h : ea_H} {rv : Option ea_V}  (hd : 2 ≤ d) (hs_h : ShM b0 h) (H : (¬ (ea_i h (b0 + 0) 60) = (8 : Int32) → ∀ h1, h1 = ea_wi h (b0 + 0) 60 ((ea_i h (b0 + 0) 60) + (1 : Int32)) → ∃ (d3 : Nat) (h4 : ea_H), ea_Met mX12_next0 d3 [vR (some (b0 + 0))] h1 none h4 ∧ d3 + 1 ≤ d ∧ ShM b0 h4 ∧ rv = some (vI 1) ∧ hE = h4) ∧ ((ea_i h (b0 + 0) 60) = (8 : Int32) → ∀ h8, h8 = (wX12_bad b0 (3 : Int32) h) → ((vX12_bad b0 (3 : Int32) h) = 0 ∨ (vX12_bad b0 (3 : Int32) h) = 1) ∧ rv = some (vI (vX12_bad b0 (3 : Int32) h)) ∧ hE = h8)) : ea_W mX12_opens d h0 rv hE 0 [(0, vR (some (b0 + 0)))] [] h := by
  refine ea_aload_n (pc := 0) dX12_opens_0 rfl 0 rfl ?_
  refine ea_getI (pc := 1) dX12_opens_1 ec_12 (k := 60) (Nat.le_of_ble_eq_true rfl) rfl (Or.inl ew_1405) (hs_h.1 0 (by decide)).1 (hs_h.1 0 (by decide)).2.1 ?_
  refine ea_bipush (pc := 4) dX12_opens_4 (v := 8) rfl ?_
  refine ea_icmp_ne (pc := 6) (tgt := 15) dX12_opens_6 rfl (fun c16 => ?_) (fun c16 => ?_)
  · have H := H.1 c16
    refine ea_aload_n (pc := 15) dX12_opens_15 rfl 0 rfl ?_
    refine ea_dup (pc := 16) dX12_opens_16 rfl ?_
    refine ea_getI (pc := 17) dX12_opens_17 ec_12 (k := 60) (Nat.le_of_ble_eq_true rfl) rfl (Or.inl ew_1405) (hs_h.1 0 (by decide)).1 (hs_h.1 0 (by decide)).2.1 ?_
    refine ea_iconst (pc := 20) dX12_opens_20 (v := 1) rfl ?_
    refine ea_iadd (pc := 21) dX12_opens_21 ?_
    refine ea_putI (pc := 22) dX12_opens_22 ec_12 (k := 60) (Nat.le_of_ble_eq_true rfl) rfl (Or.inl ⟨rfl, Or.inl ew_1405⟩) rfl rfl (hs_h.1 0 (by decide)).1 (hs_h.1 0 (by decide)).2.1 ?_
    obtain ⟨h1, E2⟩ : ∃ z, z = ea_wi h (b0 + 0) 60 ((ea_i h (b0 + 0) 60) + (1 : Int32)) := ⟨_, rfl⟩
    have H := H h1 E2
    refine ea_nm E2 ?_
    have hs_h1 : ShM b0 h1 := by rw [E2]; exact ShM_wi hs_h
    refine ea_aload_n (pc := 25) dX12_opens_25 rfl 0 rfl ?_
    obtain ⟨d3, h4, m5, q6, hs_h4, H⟩ := H
    refine ea_callV (pc := 26) (As := []) (st := []) dX12_opens_26 kX12_next0 m5 q6 rfl (Nat.le_of_ble_eq_true rfl) ew_1822 ew_1824 ew_63 (ci := 12) rfl (by decide) (hs_h1.1 0 (by decide)).1 (hs_h1.1 0 (by decide)).2.1 ?_
    refine ea_iconst (pc := 29) dX12_opens_29 (v := 1) rfl ?_
    obtain ⟨rfl, rfl⟩ := H
    exact ea_ireturn (pc := 30) dX12_opens_30 rfl (ea_bn (Or.inr rfl))
  · have H := H.2 c16
    refine ea_aload_n (pc := 9) dX12_opens_9 rfl 0 rfl ?_
    refine ea_iconst (pc := 10) dX12_opens_10 (v := 3) rfl ?_
    refine ea_callV (pc := 11) (d' := d - 1) (As := [vI 3]) (st := []) dX12_opens_11 kX12_bad (sX12_bad (d := d - 1) (by omega) hs_h) (by omega) rfl (Nat.le_of_ble_eq_true rfl) ew_1914 ew_1916 ew_68 (ci := 12) rfl (by decide) (hs_h.1 0 (by decide)).1 (hs_h.1 0 (by decide)).2.1 ?_
    obtain ⟨h8, E15⟩ : ∃ z, z = (wX12_bad b0 (3 : Int32) h) := ⟨_, rfl⟩
    have H := H h8 E15
    refine ea_nm E15 ?_
    have hs_h8 : ShM b0 h8 := by rw [E15]; exact shX12_bad hs_h
    obtain ⟨z13, rfl, rfl⟩ := H
    exact ea_ireturn (pc := 14) dX12_opens_14 rfl (ea_bn z13)
theorem pX12_sumOf_0 {d b0 : Nat} {h0 hE h : ea_H} {rv : Option ea_V}  (hd : 2 ≤ d) (hs_h : ShM b0 h) (H : ∃ (d1 : Nat) (xc5 : Int32) (h2 : ea_H), ea_Met mX12_product d1 [vR (some (b0 + 0))] h (some (vI xc5)) h2 ∧ d1 + 1 ≤ d ∧ ShM b0 h2 ∧ (¬ xc5 = (0 : Int32) → ea_W mX12_sumOf d h0 rv hE 9 [(0, vR (some (b0 + 0)))] [] h2) ∧ (xc5 = (0 : Int32) → rv = some (vI 0) ∧ hE = h2)) : ea_W mX12_sumOf d h0 rv hE 0 [(0, vR (some (b0 + 0)))] [] h := by
  refine ea_aload_n (pc := 0) dX12_sumOf_0 rfl 0 rfl ?_
  obtain ⟨d1, xc5, h2, m3, q4, hs_h2, H⟩ := H
  refine ea_callV (pc := 1) (As := []) (st := []) dX12_sumOf_1 kX12_product m3 q4 rfl (Nat.le_of_ble_eq_true rfl) ew_1930 ew_1932 ew_72 (ci := 12) rfl (by decide) (hs_h.1 0 (by decide)).1 (hs_h.1 0 (by decide)).2.1 ?_
  refine ea_if_ne (pc := 4) (tgt := 9) dX12_sumOf_4 rfl (fun c6 => ?_) (fun c6 => ?_)
  · have H := H.1 c6
    exact H
  · have H := H.2 c6
    refine ea_iconst (pc := 7) dX12_sumOf_7 (v := 0) rfl ?_
    obtain ⟨rfl, rfl⟩ := H
    exact ea_ireturn (pc := 8) dX12_sumOf_8 rfl (ea_bn (Or.inl rfl))
theorem pX12_sumOf_9 {d b0 : Nat} {h0 hE h : ea_H} {rv : Option ea_V}  (hd : 2 ≤ d) (hs_h : ShM b0 h) (H : ((ea_i h (b0 + 0) 54) = (43 : Int32) → ea_W mX12_sumOf d h0 rv hE 27 [(0, vR (some (b0 + 0)))] [] h) ∧ (¬ (ea_i h (b0 + 0) 54) = (43 : Int32) → (¬ (ea_i h (b0 + 0) 54) = (45 : Int32) → rv = some (vI 1) ∧ hE = h) ∧ ((ea_i h (b0 + 0) 54) = (45 : Int32) → ea_W mX12_sumOf d h0 rv hE 27 [(0, vR (some (b0 + 0)))] [] h))) : ea_W mX12_sumOf d h0 rv hE 9 [(0, vR (some (b0 + 0)))] [] h := by
  refine ea_aload_n (pc := 9) dX12_sumOf_9 rfl 0 rfl ?_
  refine ea_getI (pc := 10) dX12_sumOf_10 ec_12 (k := 54) (Nat.le_of_ble_eq_true rfl) rfl (Or.inl ew_1399) (hs_h.1 0 (by decide)).1 (hs_h.1 0 (by decide)).2.1 ?_
  refine ea_bipush (pc := 13) dX12_sumOf_13 (v := 43) rfl ?_
  refine ea_icmp_eq (pc := 15) (tgt := 27) dX12_sumOf_15 rfl (fun c2 => ?_) (fun c2 => ?_)
  · have H := H.1 c2
    exact H
  · have H := H.2 c2
    refine ea_aload_n (pc := 18) dX12_sumOf_18 rfl 0 rfl ?_
    refine ea_getI (pc := 19) dX12_sumOf_19 ec_12 (k := 54) (Nat.le_of_ble_eq_true rfl) rfl (Or.inl ew_1399) (hs_h.1 0 (by decide)).1 (hs_h.1 0 (by decide)).2.1 ?_
    refine ea_bipush (pc := 22) dX12_sumOf_22 (v := 45) rfl ?_
    refine ea_icmp_ne (pc := 24) (tgt := 66) dX12_sumOf_24 rfl (fun c1 => ?_) (fun c1 => ?_)
    · have H := H.1 c1
      refine ea_iconst (pc := 66) dX12_sumOf_66 (v := 1) rfl ?_
      obtain ⟨rfl, rfl⟩ := H
      exact ea_ireturn (pc := 67) dX12_sumOf_67 rfl (ea_bn (Or.inr rfl))
    · have H := H.2 c1
      exact H
theorem pX12_sumOf_27 {d b0 : Nat} {h0 hE h : ea_H} {rv : Option ea_V}  (hd : 2 ≤ d) (hs_h : ShM b0 h) (H : (¬ (ea_i h (b0 + 0) 54) = (43 : Int32) → ea_W mX12_sumOf d h0 rv hE 43 [(0, vR (some (b0 + 0)))] [vI 9] h) ∧ ((ea_i h (b0 + 0) 54) = (43 : Int32) → ea_W mX12_sumOf d h0 rv hE 43 [(0, vR (some (b0 + 0)))] [vI 8] h)) : ea_W mX12_sumOf d h0 rv hE 27 [(0, vR (some (b0 + 0)))] [] h := by
  refine ea_aload_n (pc := 27) dX12_sumOf_27 rfl 0 rfl ?_
  refine ea_getI (pc := 28) dX12_sumOf_28 ec_12 (k := 54) (Nat.le_of_ble_eq_true rfl) rfl (Or.inl ew_1399) (hs_h.1 0 (by decide)).1 (hs_h.1 0 (by decide)).2.1 ?_
  refine ea_bipush (pc := 31) dX12_sumOf_31 (v := 43) rfl ?_
  refine ea_icmp_ne (pc := 33) (tgt := 41) dX12_sumOf_33 rfl (fun c1 => ?_) (fun c1 => ?_)
  · have H := H.1 c1
    refine ea_bipush (pc := 41) dX12_sumOf_41 (v := 9) rfl ?_
    exact H
  · have H := H.2 c1
    refine ea_bipush (pc := 36) dX12_sumOf_36 (v := 8) rfl ?_
    refine ea_goto (pc := 38) (tgt := 43) dX12_sumOf_38 rfl ?_
    exact H
theorem pX12_sumOf_43 {d b0 : Nat} {h0 hE h : ea_H} {rv : Option ea_V} {sx0 : Int32} (hd : 2 ≤ d) (hs_h : ShM b0 h) (H : ∃ (d1 : Nat) (h2 : ea_H), ea_Met mX12_next0 d1 [vR (some (b0 + 0))] h none h2 ∧ d1 + 1 ≤ d ∧ ShM b0 h2 ∧ ∃ (d5 : Nat) (xc9 : Int32) (h6 : ea_H), ea_Met mX12_product d5 [vR (some (b0 + 0))] h2 (some (vI xc9)) h6 ∧ d5 + 1 ≤ d ∧ ShM b0 h6 ∧ (¬ xc9 = (0 : Int32) → (okX12_lay b0 (sx0 : Int32) (0 : Int32) h6) ∧ ∀ h11, h11 = (wX12_lay b0 (sx0 : Int32) (0 : Int32) h6) → ea_W mX12_sumOf d h0 rv hE 9 [(0, vR (some (b0 + 0)))] [] h11) ∧ (xc9 = (0 : Int32) → rv = some (vI 0) ∧ hE = h6)) : ea_W mX12_sumOf d h0 rv hE 43 [(0, vR (some (b0 + 0)))] [vI sx0] h := by
  refine ea_istore_n (pc := 43) (lv' := [(0, vR (some (b0 + 0))), (1, vI sx0)]) dX12_sumOf_43 rfl (Nat.le_of_ble_eq_true rfl) [1, 0] rfl ?_
  refine ea_aload_n (pc := 44) dX12_sumOf_44 rfl 0 rfl ?_
  obtain ⟨d1, h2, m3, q4, hs_h2, H⟩ := H
  refine ea_callV (pc := 45) (As := []) (st := []) dX12_sumOf_45 kX12_next0 m3 q4 rfl (Nat.le_of_ble_eq_true rfl) ew_1822 ew_1824 ew_63 (ci := 12) rfl (by decide) (hs_h.1 0 (by decide)).1 (hs_h.1 0 (by decide)).2.1 ?_
  refine ea_aload_n (pc := 48) dX12_sumOf_48 rfl 0 rfl ?_
  obtain ⟨d5, xc9, h6, m7, q8, hs_h6, H⟩ := H
  refine ea_callV (pc := 49) (As := []) (st := []) dX12_sumOf_49 kX12_product m7 q8 rfl (Nat.le_of_ble_eq_true rfl) ew_1930 ew_1932 ew_72 (ci := 12) rfl (by decide) (hs_h2.1 0 (by decide)).1 (hs_h2.1 0 (by decide)).2.1 ?_
  refine ea_if_ne (pc := 52) (tgt := 57) dX12_sumOf_52 rfl (fun c16 => ?_) (fun c16 => ?_)
  · have H := H.1 c16
    refine ea_aload_n (pc := 57) dX12_sumOf_57 rfl 0 rfl ?_
    refine ea_iload_n (pc := 58) dX12_sumOf_58 rfl 1 rfl ?_
    refine ea_iconst (pc := 59) dX12_sumOf_59 (v := 0) rfl ?_
    obtain ⟨z14, H⟩ := H
    refine ea_callV (pc := 60) (d' := d - 1) (As := [vI sx0, vI 0]) (st := []) dX12_sumOf_60 kX12_lay (sX12_lay (d := d - 1) (by omega) hs_h6 z14) (by omega) rfl (Nat.le_of_ble_eq_true rfl) ew_1946 ew_1948 ew_76 (ci := 12) rfl (by decide) (hs_h6.1 0 (by decide)).1 (hs_h6.1 0 (by decide)).2.1 ?_
    obtain ⟨h11, E15⟩ : ∃ z, z = (wX12_lay b0 (sx0 : Int32) (0 : Int32) h6) := ⟨_, rfl⟩
    have H := H h11 E15
    refine ea_nm E15 ?_
    have hs_h11 : ShM b0 h11 := by rw [E15]; exact shX12_lay hs_h6
    refine ea_goto (pc := 63) (tgt := 9) dX12_sumOf_63 rfl ?_
    exact ea_fewer [0] rfl H
  · have H := H.2 c16
    refine ea_iconst (pc := 55) dX12_sumOf_55 (v := 0) rfl ?_
    obtain ⟨rfl, rfl⟩ := H
    exact ea_ireturn (pc := 56) dX12_sumOf_56 rfl (ea_bn (Or.inl rfl))
theorem pX12_product_0 {d b0 : Nat} {h0 hE h : ea_H} {rv : Option ea_V}  (hd : 2 ≤ d) (hs_h : ShM b0 h) (H : ∃ (d1 : Nat) (xc5 : Int32) (h2 : ea_H), ea_Met mX12_unit d1 [vR (some (b0 + 0))] h (some (vI xc5)) h2 ∧ d1 + 1 ≤ d ∧ ShM b0 h2 ∧ (¬ xc5 = (0 : Int32) → ea_W mX12_product d h0 rv hE 9 [(0, vR (some (b0 + 0)))] [] h2) ∧ (xc5 = (0 : Int32) → rv = some (vI 0) ∧ hE = h2)) : ea_W mX12_product d h0 rv hE 0 [(0, vR (some (b0 + 0)))] [] h := by
  refine ea_aload_n (pc := 0) dX12_product_0 rfl 0 rfl ?_
  obtain ⟨d1, xc5, h2, m3, q4, hs_h2, H⟩ := H
  refine ea_callV (pc := 1) (As := []) (st := []) dX12_product_1 kX12_unit m3 q4 rfl (Nat.le_of_ble_eq_true rfl) ew_1934 ew_1936 ew_73 (ci := 12) rfl (by decide) (hs_h.1 0 (by decide)).1 (hs_h.1 0 (by decide)).2.1 ?_
  refine ea_if_ne (pc := 4) (tgt := 9) dX12_product_4 rfl (fun c6 => ?_) (fun c6 => ?_)
  · have H := H.1 c6
    exact H
  · have H := H.2 c6
    refine ea_iconst (pc := 7) dX12_product_7 (v := 0) rfl ?_
    obtain ⟨rfl, rfl⟩ := H
    exact ea_ireturn (pc := 8) dX12_product_8 rfl (ea_bn (Or.inl rfl))
theorem pX12_product_9 {d b0 : Nat} {h0 hE h : ea_H} {rv : Option ea_V}  (hd : 2 ≤ d) (hs_h : ShM b0 h) (H : ((ea_i h (b0 + 0) 54) = (42 : Int32) → ea_W mX12_product d h0 rv hE 27 [(0, vR (some (b0 + 0)))] [] h) ∧ (¬ (ea_i h (b0 + 0) 54) = (42 : Int32) → (¬ (ea_i h (b0 + 0) 54) = (47 : Int32) → rv = some (vI 1) ∧ hE = h) ∧ ((ea_i h (b0 + 0) 54) = (47 : Int32) → ea_W mX12_product d h0 rv hE 27 [(0, vR (some (b0 + 0)))] [] h))) : ea_W mX12_product d h0 rv hE 9 [(0, vR (some (b0 + 0)))] [] h := by
  refine ea_aload_n (pc := 9) dX12_product_9 rfl 0 rfl ?_
  refine ea_getI (pc := 10) dX12_product_10 ec_12 (k := 54) (Nat.le_of_ble_eq_true rfl) rfl (Or.inl ew_1399) (hs_h.1 0 (by decide)).1 (hs_h.1 0 (by decide)).2.1 ?_
  refine ea_bipush (pc := 13) dX12_product_13 (v := 42) rfl ?_
  refine ea_icmp_eq (pc := 15) (tgt := 27) dX12_product_15 rfl (fun c2 => ?_) (fun c2 => ?_)
  · have H := H.1 c2
    exact H
  · have H := H.2 c2
    refine ea_aload_n (pc := 18) dX12_product_18 rfl 0 rfl ?_
    refine ea_getI (pc := 19) dX12_product_19 ec_12 (k := 54) (Nat.le_of_ble_eq_true rfl) rfl (Or.inl ew_1399) (hs_h.1 0 (by decide)).1 (hs_h.1 0 (by decide)).2.1 ?_
    refine ea_bipush (pc := 22) dX12_product_22 (v := 47) rfl ?_
    refine ea_icmp_ne (pc := 24) (tgt := 113) dX12_product_24 rfl (fun c1 => ?_) (fun c1 => ?_)
    · have H := H.1 c1
      refine ea_iconst (pc := 113) dX12_product_113 (v := 1) rfl ?_
      obtain ⟨rfl, rfl⟩ := H
      exact ea_ireturn (pc := 114) dX12_product_114 rfl (ea_bn (Or.inr rfl))
    · have H := H.2 c1
      exact H
theorem pX12_product_27 {d b0 : Nat} {h0 hE h : ea_H} {rv : Option ea_V}  (hd : 2 ≤ d) (hs_h : ShM b0 h) (H : (¬ (ea_i h (b0 + 0) 54) = (47 : Int32) → ea_W mX12_product d h0 rv hE 41 [(0, vR (some (b0 + 0)))] [vI 0] h) ∧ ((ea_i h (b0 + 0) 54) = (47 : Int32) → ea_W mX12_product d h0 rv hE 41 [(0, vR (some (b0 + 0)))] [vI 1] h)) : ea_W mX12_product d h0 rv hE 27 [(0, vR (some (b0 + 0)))] [] h := by
  refine ea_aload_n (pc := 27) dX12_product_27 rfl 0 rfl ?_
  refine ea_getI (pc := 28) dX12_product_28 ec_12 (k := 54) (Nat.le_of_ble_eq_true rfl) rfl (Or.inl ew_1399) (hs_h.1 0 (by decide)).1 (hs_h.1 0 (by decide)).2.1 ?_
  refine ea_bipush (pc := 31) dX12_product_31 (v := 47) rfl ?_
  refine ea_icmp_ne (pc := 33) (tgt := 40) dX12_product_33 rfl (fun c1 => ?_) (fun c1 => ?_)
  · have H := H.1 c1
    refine ea_iconst (pc := 40) dX12_product_40 (v := 0) rfl ?_
    exact H
  · have H := H.2 c1
    refine ea_iconst (pc := 36) dX12_product_36 (v := 1) rfl ?_
    refine ea_goto (pc := 37) (tgt := 41) dX12_product_37 rfl ?_
    exact H
theorem pX12_product_41 {d b0 : Nat} {h0 hE h : ea_H} {rv : Option ea_V} {sx0 : Int32} (hd : 2 ≤ d) (hs_h : ShM b0 h) (H : ∃ (d1 : Nat) (h2 : ea_H), ea_Met mX12_next0 d1 [vR (some (b0 + 0))] h none h2 ∧ d1 + 1 ≤ d ∧ ShM b0 h2 ∧ (sx0 = (0 : Int32) → ∃ (d5 : Nat) (xc9 : Int32) (h6 : ea_H), ea_Met mX12_unit d5 [vR (some (b0 + 0))] h2 (some (vI xc9)) h6 ∧ d5 + 1 ≤ d ∧ ShM b0 h6 ∧ (¬ xc9 = (0 : Int32) → (okX12_lay b0 (10 : Int32) (0 : Int32) h6) ∧ ∀ h11, h11 = (wX12_lay b0 (10 : Int32) (0 : Int32) h6) → ea_W mX12_product d h0 rv hE 9 [(0, vR (some (b0 + 0)))] [] h11) ∧ (xc9 = (0 : Int32) → rv = some (vI 0) ∧ hE = h6)) ∧ (¬ sx0 = (0 : Int32) → ((ea_i h2 (b0 + 0) 54) = (2 : Int32) → (¬ (ea_i h2 (b0 + 0) 56) = (0 : Int32) → (okX12_lay b0 (11 : Int32) ((ea_i h2 (b0 + 0) 56) : Int32) h2) ∧ ∀ h18, h18 = (wX12_lay b0 (11 : Int32) ((ea_i h2 (b0 + 0) 56) : Int32) h2) → ∃ (d25 : Nat) (h26 : ea_H), ea_Met mX12_next0 d25 [vR (some (b0 + 0))] h18 none h26 ∧ d25 + 1 ≤ d ∧ ShM b0 h26 ∧ ea_W mX12_product d h0 rv hE 9 [(0, vR (some (b0 + 0)))] [] h26) ∧ ((ea_i h2 (b0 + 0) 56) = (0 : Int32) → ∀ h32, h32 = (wX12_bad b0 (2 : Int32) h2) → ((vX12_bad b0 (2 : Int32) h2) = 0 ∨ (vX12_bad b0 (2 : Int32) h2) = 1) ∧ rv = some (vI (vX12_bad b0 (2 : Int32) h2)) ∧ hE = h32)) ∧ (¬ (ea_i h2 (b0 + 0) 54) = (2 : Int32) → ∀ h42, h42 = (wX12_bad b0 (1 : Int32) h2) → ((vX12_bad b0 (1 : Int32) h2) = 0 ∨ (vX12_bad b0 (1 : Int32) h2) = 1) ∧ rv = some (vI (vX12_bad b0 (1 : Int32) h2)) ∧ hE = h42))) : ea_W mX12_product d h0 rv hE 41 [(0, vR (some (b0 + 0)))] [vI sx0] h := by
  refine ea_istore_n (pc := 41) (lv' := [(0, vR (some (b0 + 0))), (1, vI sx0)]) dX12_product_41 rfl (Nat.le_of_ble_eq_true rfl) [1, 0] rfl ?_
  refine ea_aload_n (pc := 42) dX12_product_42 rfl 0 rfl ?_
  obtain ⟨d1, h2, m3, q4, hs_h2, H⟩ := H
  refine ea_callV (pc := 43) (As := []) (st := []) dX12_product_43 kX12_next0 m3 q4 rfl (Nat.le_of_ble_eq_true rfl) ew_1822 ew_1824 ew_63 (ci := 12) rfl (by decide) (hs_h.1 0 (by decide)).1 (hs_h.1 0 (by decide)).2.1 ?_
  refine ea_iload_n (pc := 46) dX12_product_46 rfl 1 rfl ?_
  refine ea_if_eq (pc := 47) (tgt := 94) dX12_product_47 rfl (fun c51 => ?_) (fun c51 => ?_)
  · have H := H.1 c51
    refine ea_aload_n (pc := 94) dX12_product_94 rfl 0 rfl ?_
    obtain ⟨d5, xc9, h6, m7, q8, hs_h6, H⟩ := H
    refine ea_callV (pc := 95) (As := []) (st := []) dX12_product_95 kX12_unit m7 q8 rfl (Nat.le_of_ble_eq_true rfl) ew_1934 ew_1936 ew_73 (ci := 12) rfl (by decide) (hs_h2.1 0 (by decide)).1 (hs_h2.1 0 (by decide)).2.1 ?_
    refine ea_if_ne (pc := 98) (tgt := 103) dX12_product_98 rfl (fun c16 => ?_) (fun c16 => ?_)
    · have H := H.1 c16
      refine ea_aload_n (pc := 103) dX12_product_103 rfl 0 rfl ?_
      refine ea_bipush (pc := 104) dX12_product_104 (v := 10) rfl ?_
      refine ea_iconst (pc := 106) dX12_product_106 (v := 0) rfl ?_
      obtain ⟨z14, H⟩ := H
      refine ea_callV (pc := 107) (d' := d - 1) (As := [vI 10, vI 0]) (st := []) dX12_product_107 kX12_lay (sX12_lay (d := d - 1) (by omega) hs_h6 z14) (by omega) rfl (Nat.le_of_ble_eq_true rfl) ew_1946 ew_1948 ew_76 (ci := 12) rfl (by decide) (hs_h6.1 0 (by decide)).1 (hs_h6.1 0 (by decide)).2.1 ?_
      obtain ⟨h11, E15⟩ : ∃ z, z = (wX12_lay b0 (10 : Int32) (0 : Int32) h6) := ⟨_, rfl⟩
      have H := H h11 E15
      refine ea_nm E15 ?_
      have hs_h11 : ShM b0 h11 := by rw [E15]; exact shX12_lay hs_h6
      refine ea_goto (pc := 110) (tgt := 9) dX12_product_110 rfl ?_
      exact ea_fewer [0] rfl H
    · have H := H.2 c16
      refine ea_iconst (pc := 101) dX12_product_101 (v := 0) rfl ?_
      obtain ⟨rfl, rfl⟩ := H
      exact ea_ireturn (pc := 102) dX12_product_102 rfl (ea_bn (Or.inl rfl))
  · have H := H.2 c51
    refine ea_aload_n (pc := 50) dX12_product_50 rfl 0 rfl ?_
    refine ea_getI (pc := 51) dX12_product_51 ec_12 (k := 54) (Nat.le_of_ble_eq_true rfl) rfl (Or.inl ew_1399) (hs_h2.1 0 (by decide)).1 (hs_h2.1 0 (by decide)).2.1 ?_
    refine ea_iconst (pc := 54) dX12_product_54 (v := 2) rfl ?_
    refine ea_icmp_eq (pc := 55) (tgt := 64) dX12_product_55 rfl (fun c50 => ?_) (fun c50 => ?_)
    · have H := H.1 c50
      refine ea_aload_n (pc := 64) dX12_product_64 rfl 0 rfl ?_
      refine ea_getI (pc := 65) dX12_product_65 ec_12 (k := 56) (Nat.le_of_ble_eq_true rfl) rfl (Or.inl ew_1401) (hs_h2.1 0 (by decide)).1 (hs_h2.1 0 (by decide)).2.1 ?_
      refine ea_if_ne (pc := 68) (tgt := 77) dX12_product_68 rfl (fun c40 => ?_) (fun c40 => ?_)
      · have H := H.1 c40
        refine ea_aload_n (pc := 77) dX12_product_77 rfl 0 rfl ?_
        refine ea_bipush (pc := 78) dX12_product_78 (v := 11) rfl ?_
        refine ea_aload_n (pc := 80) dX12_product_80 rfl 0 rfl ?_
        refine ea_getI (pc := 81) dX12_product_81 ec_12 (k := 56) (Nat.le_of_ble_eq_true rfl) rfl (Or.inl ew_1401) (hs_h2.1 0 (by decide)).1 (hs_h2.1 0 (by decide)).2.1 ?_
        obtain ⟨z29, H⟩ := H
        refine ea_callV (pc := 84) (d' := d - 1) (As := [vI 11, vI (ea_i h2 (b0 + 0) 56)]) (st := []) dX12_product_84 kX12_lay (sX12_lay (d := d - 1) (by omega) hs_h2 z29) (by omega) rfl (Nat.le_of_ble_eq_true rfl) ew_1946 ew_1948 ew_76 (ci := 12) rfl (by decide) (hs_h2.1 0 (by decide)).1 (hs_h2.1 0 (by decide)).2.1 ?_
        obtain ⟨h18, E30⟩ : ∃ z, z = (wX12_lay b0 (11 : Int32) ((ea_i h2 (b0 + 0) 56) : Int32) h2) := ⟨_, rfl⟩
        have H := H h18 E30
        refine ea_nm E30 ?_
        have hs_h18 : ShM b0 h18 := by rw [E30]; exact shX12_lay hs_h2
        refine ea_aload_n (pc := 87) dX12_product_87 rfl 0 rfl ?_
        obtain ⟨d25, h26, m27, q28, hs_h26, H⟩ := H
        refine ea_callV (pc := 88) (As := []) (st := []) dX12_product_88 kX12_next0 m27 q28 rfl (Nat.le_of_ble_eq_true rfl) ew_1822 ew_1824 ew_63 (ci := 12) rfl (by decide) (hs_h18.1 0 (by decide)).1 (hs_h18.1 0 (by decide)).2.1 ?_
        refine ea_goto (pc := 91) (tgt := 110) dX12_product_91 rfl ?_
        refine ea_goto (pc := 110) (tgt := 9) dX12_product_110 rfl ?_
        exact ea_fewer [0] rfl H
      · have H := H.2 c40
        refine ea_aload_n (pc := 71) dX12_product_71 rfl 0 rfl ?_
        refine ea_iconst (pc := 72) dX12_product_72 (v := 2) rfl ?_
        refine ea_callV (pc := 73) (d' := d - 1) (As := [vI 2]) (st := []) dX12_product_73 kX12_bad (sX12_bad (d := d - 1) (by omega) hs_h2) (by omega) rfl (Nat.le_of_ble_eq_true rfl) ew_1914 ew_1916 ew_68 (ci := 12) rfl (by decide) (hs_h2.1 0 (by decide)).1 (hs_h2.1 0 (by decide)).2.1 ?_
        obtain ⟨h32, E39⟩ : ∃ z, z = (wX12_bad b0 (2 : Int32) h2) := ⟨_, rfl⟩
        have H := H h32 E39
        refine ea_nm E39 ?_
        have hs_h32 : ShM b0 h32 := by rw [E39]; exact shX12_bad hs_h2
        obtain ⟨z37, rfl, rfl⟩ := H
        exact ea_ireturn (pc := 76) dX12_product_76 rfl (ea_bn z37)
    · have H := H.2 c50
      refine ea_aload_n (pc := 58) dX12_product_58 rfl 0 rfl ?_
      refine ea_iconst (pc := 59) dX12_product_59 (v := 1) rfl ?_
      refine ea_callV (pc := 60) (d' := d - 1) (As := [vI 1]) (st := []) dX12_product_60 kX12_bad (sX12_bad (d := d - 1) (by omega) hs_h2) (by omega) rfl (Nat.le_of_ble_eq_true rfl) ew_1914 ew_1916 ew_68 (ci := 12) rfl (by decide) (hs_h2.1 0 (by decide)).1 (hs_h2.1 0 (by decide)).2.1 ?_
      obtain ⟨h42, E49⟩ : ∃ z, z = (wX12_bad b0 (1 : Int32) h2) := ⟨_, rfl⟩
      have H := H h42 E49
      refine ea_nm E49 ?_
      have hs_h42 : ShM b0 h42 := by rw [E49]; exact shX12_bad hs_h2
      obtain ⟨z47, rfl, rfl⟩ := H
      exact ea_ireturn (pc := 63) dX12_product_63 rfl (ea_bn z47)
theorem pX12_unit_0 {d b0 : Nat} {h0 hE h : ea_H} {rv : Option ea_V}  (hd : 2 ≤ d) (hs_h : ShM b0 h) (H : (¬ (ea_i h (b0 + 0) 54) = (40 : Int32) → ((ea_i h (b0 + 0) 54) = (2 : Int32) → ea_W mX12_unit d h0 rv hE 70 [(0, vR (some (b0 + 0)))] [] h) ∧ (¬ (ea_i h (b0 + 0) 54) = (2 : Int32) → ((201 : Int32) ≤ (ea_i h (b0 + 0) 54) → ea_W mX12_unit d h0 rv hE 70 [(0, vR (some (b0 + 0)))] [] h) ∧ (¬ (201 : Int32) ≤ (ea_i h (b0 + 0) 54) → ∀ h2, h2 = (wX12_bad b0 (1 : Int32) h) → ((vX12_bad b0 (1 : Int32) h) = 0 ∨ (vX12_bad b0 (1 : Int32) h) = 1) ∧ rv = some (vI (vX12_bad b0 (1 : Int32) h)) ∧ hE = h2))) ∧ ((ea_i h (b0 + 0) 54) = (40 : Int32) → ∃ (d12 : Nat) (xc16 : Int32) (h13 : ea_H), ea_Met mX12_opens d12 [vR (some (b0 + 0))] h (some (vI xc16)) h13 ∧ d12 + 1 ≤ d ∧ ShM b0 h13 ∧ (xc16 = (0 : Int32) → rv = some (vI 0) ∧ hE = h13) ∧ (¬ xc16 = (0 : Int32) → ∃ (d17 : Nat) (xc21 : Int32) (h18 : ea_H), ea_Met mX12_sumOf d17 [vR (some (b0 + 0))] h13 (some (vI xc21)) h18 ∧ d17 + 1 ≤ d ∧ ShM b0 h18 ∧ (xc21 = (0 : Int32) → rv = some (vI 0) ∧ hE = h18) ∧ (¬ xc21 = (0 : Int32) → ∃ (d22 : Nat) (xc26 : Int32) (h23 : ea_H), ea_Met mX12_need d22 [vR (some (b0 + 0)), vI 41] h18 (some (vI xc26)) h23 ∧ d22 + 1 ≤ d ∧ ShM b0 h23 ∧ (¬ xc26 = (0 : Int32) → ∀ h27, h27 = ea_wi h23 (b0 + 0) 60 ((ea_i h23 (b0 + 0) 60) - (1 : Int32)) → rv = some (vI 1) ∧ hE = h27) ∧ (xc26 = (0 : Int32) → rv = some (vI 0) ∧ hE = h23))))) : ea_W mX12_unit d h0 rv hE 0 [(0, vR (some (b0 + 0)))] [] h := by
  refine ea_aload_n (pc := 0) dX12_unit_0 rfl 0 rfl ?_
  refine ea_getI (pc := 1) dX12_unit_1 ec_12 (k := 54) (Nat.le_of_ble_eq_true rfl) rfl (Or.inl ew_1399) (hs_h.1 0 (by decide)).1 (hs_h.1 0 (by decide)).2.1 ?_
  refine ea_bipush (pc := 4) dX12_unit_4 (v := 40) rfl ?_
  refine ea_icmp_ne (pc := 6) (tgt := 46) dX12_unit_6 rfl (fun c32 => ?_) (fun c32 => ?_)
  · have H := H.1 c32
    refine ea_aload_n (pc := 46) dX12_unit_46 rfl 0 rfl ?_
    refine ea_getI (pc := 47) dX12_unit_47 ec_12 (k := 54) (Nat.le_of_ble_eq_true rfl) rfl (Or.inl ew_1399) (hs_h.1 0 (by decide)).1 (hs_h.1 0 (by decide)).2.1 ?_
    refine ea_iconst (pc := 50) dX12_unit_50 (v := 2) rfl ?_
    refine ea_icmp_eq (pc := 51) (tgt := 70) dX12_unit_51 rfl (fun c11 => ?_) (fun c11 => ?_)
    · have H := H.1 c11
      exact H
    · have H := H.2 c11
      refine ea_aload_n (pc := 54) dX12_unit_54 rfl 0 rfl ?_
      refine ea_getI (pc := 55) dX12_unit_55 ec_12 (k := 54) (Nat.le_of_ble_eq_true rfl) rfl (Or.inl ew_1399) (hs_h.1 0 (by decide)).1 (hs_h.1 0 (by decide)).2.1 ?_
      refine ea_sipush (pc := 58) dX12_unit_58 (v := 201) rfl ?_
      refine ea_icmp_ge (pc := 61) (tgt := 70) dX12_unit_61 rfl (fun c10 => ?_) (fun c10 => ?_)
      · have H := H.1 c10
        exact H
      · have H := H.2 c10
        refine ea_aload_n (pc := 64) dX12_unit_64 rfl 0 rfl ?_
        refine ea_iconst (pc := 65) dX12_unit_65 (v := 1) rfl ?_
        refine ea_callV (pc := 66) (d' := d - 1) (As := [vI 1]) (st := []) dX12_unit_66 kX12_bad (sX12_bad (d := d - 1) (by omega) hs_h) (by omega) rfl (Nat.le_of_ble_eq_true rfl) ew_1914 ew_1916 ew_68 (ci := 12) rfl (by decide) (hs_h.1 0 (by decide)).1 (hs_h.1 0 (by decide)).2.1 ?_
        obtain ⟨h2, E9⟩ : ∃ z, z = (wX12_bad b0 (1 : Int32) h) := ⟨_, rfl⟩
        have H := H h2 E9
        refine ea_nm E9 ?_
        have hs_h2 : ShM b0 h2 := by rw [E9]; exact shX12_bad hs_h
        obtain ⟨z7, rfl, rfl⟩ := H
        exact ea_ireturn (pc := 69) dX12_unit_69 rfl (ea_bn z7)
  · have H := H.2 c32
    refine ea_aload_n (pc := 9) dX12_unit_9 rfl 0 rfl ?_
    obtain ⟨d12, xc16, h13, m14, q15, hs_h13, H⟩ := H
    refine ea_callV (pc := 10) (As := []) (st := []) dX12_unit_10 kX12_opens m14 q15 rfl (Nat.le_of_ble_eq_true rfl) ew_1938 ew_1940 ew_74 (ci := 12) rfl (by decide) (hs_h.1 0 (by decide)).1 (hs_h.1 0 (by decide)).2.1 ?_
    refine ea_if_eq (pc := 13) (tgt := 32) dX12_unit_13 rfl (fun c31 => ?_) (fun c31 => ?_)
    · have H := H.1 c31
      refine ea_iconst (pc := 32) dX12_unit_32 (v := 0) rfl ?_
      obtain ⟨rfl, rfl⟩ := H
      exact ea_ireturn (pc := 33) dX12_unit_33 rfl (ea_bn (Or.inl rfl))
    · have H := H.2 c31
      refine ea_aload_n (pc := 16) dX12_unit_16 rfl 0 rfl ?_
      obtain ⟨d17, xc21, h18, m19, q20, hs_h18, H⟩ := H
      refine ea_callV (pc := 17) (As := []) (st := []) dX12_unit_17 kX12_sumOf m19 q20 rfl (Nat.le_of_ble_eq_true rfl) ew_1926 ew_1928 ew_71 (ci := 12) rfl (by decide) (hs_h13.1 0 (by decide)).1 (hs_h13.1 0 (by decide)).2.1 ?_
      refine ea_if_eq (pc := 20) (tgt := 32) dX12_unit_20 rfl (fun c30 => ?_) (fun c30 => ?_)
      · have H := H.1 c30
        refine ea_iconst (pc := 32) dX12_unit_32 (v := 0) rfl ?_
        obtain ⟨rfl, rfl⟩ := H
        exact ea_ireturn (pc := 33) dX12_unit_33 rfl (ea_bn (Or.inl rfl))
      · have H := H.2 c30
        refine ea_aload_n (pc := 23) dX12_unit_23 rfl 0 rfl ?_
        refine ea_bipush (pc := 24) dX12_unit_24 (v := 41) rfl ?_
        obtain ⟨d22, xc26, h23, m24, q25, hs_h23, H⟩ := H
        refine ea_callV (pc := 26) (As := [vI 41]) (st := []) dX12_unit_26 kX12_need m24 q25 rfl (Nat.le_of_ble_eq_true rfl) ew_1942 ew_1944 ew_75 (ci := 12) rfl (by decide) (hs_h18.1 0 (by decide)).1 (hs_h18.1 0 (by decide)).2.1 ?_
        refine ea_if_ne (pc := 29) (tgt := 34) dX12_unit_29 rfl (fun c29 => ?_) (fun c29 => ?_)
        · have H := H.1 c29
          refine ea_aload_n (pc := 34) dX12_unit_34 rfl 0 rfl ?_
          refine ea_dup (pc := 35) dX12_unit_35 rfl ?_
          refine ea_getI (pc := 36) dX12_unit_36 ec_12 (k := 60) (Nat.le_of_ble_eq_true rfl) rfl (Or.inl ew_1405) (hs_h23.1 0 (by decide)).1 (hs_h23.1 0 (by decide)).2.1 ?_
          refine ea_iconst (pc := 39) dX12_unit_39 (v := 1) rfl ?_
          refine ea_isub (pc := 40) dX12_unit_40 ?_
          refine ea_putI (pc := 41) dX12_unit_41 ec_12 (k := 60) (Nat.le_of_ble_eq_true rfl) rfl (Or.inl ⟨rfl, Or.inl ew_1405⟩) rfl rfl (hs_h23.1 0 (by decide)).1 (hs_h23.1 0 (by decide)).2.1 ?_
          obtain ⟨h27, E28⟩ : ∃ z, z = ea_wi h23 (b0 + 0) 60 ((ea_i h23 (b0 + 0) 60) - (1 : Int32)) := ⟨_, rfl⟩
          have H := H h27 E28
          refine ea_nm E28 ?_
          have hs_h27 : ShM b0 h27 := by rw [E28]; exact ShM_wi hs_h23
          refine ea_iconst (pc := 44) dX12_unit_44 (v := 1) rfl ?_
          obtain ⟨rfl, rfl⟩ := H
          exact ea_ireturn (pc := 45) dX12_unit_45 rfl (ea_bn (Or.inr rfl))
        · have H := H.2 c29
          refine ea_iconst (pc := 32) dX12_unit_32 (v := 0) rfl ?_
          obtain ⟨rfl, rfl⟩ := H
          exact ea_ireturn (pc := 33) dX12_unit_33 rfl (ea_bn (Or.inl rfl))
theorem pX12_unit_70 {d b0 : Nat} {h0 hE h : ea_H} {rv : Option ea_V}  (hd : 2 ≤ d) (hs_h : ShM b0 h) (H : (¬ (ea_i h (b0 + 0) 54) = (2 : Int32) → (okX12_lay b0 ((((1 : Int32) + (ea_i h (b0 + 0) 54)) - (201 : Int32)) : Int32) ((ea_i h (b0 + 0) 56) : Int32) h) ∧ ∀ h2, h2 = (wX12_lay b0 ((((1 : Int32) + (ea_i h (b0 + 0) 54)) - (201 : Int32)) : Int32) ((ea_i h (b0 + 0) 56) : Int32) h) → ∃ (d9 : Nat) (h10 : ea_H), ea_Met mX12_next0 d9 [vR (some (b0 + 0))] h2 none h10 ∧ d9 + 1 ≤ d ∧ ShM b0 h10 ∧ rv = some (vI 1) ∧ hE = h10) ∧ ((ea_i h (b0 + 0) 54) = (2 : Int32) → (okX12_lay b0 (0 : Int32) ((ea_i h (b0 + 0) 56) : Int32) h) ∧ ∀ h16, h16 = (wX12_lay b0 (0 : Int32) ((ea_i h (b0 + 0) 56) : Int32) h) → ∃ (d23 : Nat) (h24 : ea_H), ea_Met mX12_next0 d23 [vR (some (b0 + 0))] h16 none h24 ∧ d23 + 1 ≤ d ∧ ShM b0 h24 ∧ rv = some (vI 1) ∧ hE = h24)) : ea_W mX12_unit d h0 rv hE 70 [(0, vR (some (b0 + 0)))] [] h := by
  refine ea_aload_n (pc := 70) dX12_unit_70 rfl 0 rfl ?_
  refine ea_aload_n (pc := 71) dX12_unit_71 rfl 0 rfl ?_
  refine ea_getI (pc := 72) dX12_unit_72 ec_12 (k := 54) (Nat.le_of_ble_eq_true rfl) rfl (Or.inl ew_1399) (hs_h.1 0 (by decide)).1 (hs_h.1 0 (by decide)).2.1 ?_
  refine ea_iconst (pc := 75) dX12_unit_75 (v := 2) rfl ?_
  refine ea_icmp_ne (pc := 76) (tgt := 83) dX12_unit_76 rfl (fun c29 => ?_) (fun c29 => ?_)
  · have H := H.1 c29
    refine ea_iconst (pc := 83) dX12_unit_83 (v := 1) rfl ?_
    refine ea_aload_n (pc := 84) dX12_unit_84 rfl 0 rfl ?_
    refine ea_getI (pc := 85) dX12_unit_85 ec_12 (k := 54) (Nat.le_of_ble_eq_true rfl) rfl (Or.inl ew_1399) (hs_h.1 0 (by decide)).1 (hs_h.1 0 (by decide)).2.1 ?_
    refine ea_iadd (pc := 88) dX12_unit_88 ?_
    refine ea_sipush (pc := 89) dX12_unit_89 (v := 201) rfl ?_
    refine ea_isub (pc := 92) dX12_unit_92 ?_
    refine ea_aload_n (pc := 93) dX12_unit_93 rfl 0 rfl ?_
    refine ea_getI (pc := 94) dX12_unit_94 ec_12 (k := 56) (Nat.le_of_ble_eq_true rfl) rfl (Or.inl ew_1401) (hs_h.1 0 (by decide)).1 (hs_h.1 0 (by decide)).2.1 ?_
    obtain ⟨z13, H⟩ := H
    refine ea_callV (pc := 97) (d' := d - 1) (As := [vI (((1 : Int32) + (ea_i h (b0 + 0) 54)) - (201 : Int32)), vI (ea_i h (b0 + 0) 56)]) (st := []) dX12_unit_97 kX12_lay (sX12_lay (d := d - 1) (by omega) hs_h z13) (by omega) rfl (Nat.le_of_ble_eq_true rfl) ew_1946 ew_1948 ew_76 (ci := 12) rfl (by decide) (hs_h.1 0 (by decide)).1 (hs_h.1 0 (by decide)).2.1 ?_
    obtain ⟨h2, E14⟩ : ∃ z, z = (wX12_lay b0 ((((1 : Int32) + (ea_i h (b0 + 0) 54)) - (201 : Int32)) : Int32) ((ea_i h (b0 + 0) 56) : Int32) h) := ⟨_, rfl⟩
    have H := H h2 E14
    refine ea_nm E14 ?_
    have hs_h2 : ShM b0 h2 := by rw [E14]; exact shX12_lay hs_h
    refine ea_aload_n (pc := 100) dX12_unit_100 rfl 0 rfl ?_
    obtain ⟨d9, h10, m11, q12, hs_h10, H⟩ := H
    refine ea_callV (pc := 101) (As := []) (st := []) dX12_unit_101 kX12_next0 m11 q12 rfl (Nat.le_of_ble_eq_true rfl) ew_1822 ew_1824 ew_63 (ci := 12) rfl (by decide) (hs_h2.1 0 (by decide)).1 (hs_h2.1 0 (by decide)).2.1 ?_
    refine ea_iconst (pc := 104) dX12_unit_104 (v := 1) rfl ?_
    obtain ⟨rfl, rfl⟩ := H
    exact ea_ireturn (pc := 105) dX12_unit_105 rfl (ea_bn (Or.inr rfl))
  · have H := H.2 c29
    refine ea_iconst (pc := 79) dX12_unit_79 (v := 0) rfl ?_
    refine ea_goto (pc := 80) (tgt := 93) dX12_unit_80 rfl ?_
    refine ea_aload_n (pc := 93) dX12_unit_93 rfl 0 rfl ?_
    refine ea_getI (pc := 94) dX12_unit_94 ec_12 (k := 56) (Nat.le_of_ble_eq_true rfl) rfl (Or.inl ew_1401) (hs_h.1 0 (by decide)).1 (hs_h.1 0 (by decide)).2.1 ?_
    obtain ⟨z27, H⟩ := H
    refine ea_callV (pc := 97) (d' := d - 1) (As := [vI 0, vI (ea_i h (b0 + 0) 56)]) (st := []) dX12_unit_97 kX12_lay (sX12_lay (d := d - 1) (by omega) hs_h z27) (by omega) rfl (Nat.le_of_ble_eq_true rfl) ew_1946 ew_1948 ew_76 (ci := 12) rfl (by decide) (hs_h.1 0 (by decide)).1 (hs_h.1 0 (by decide)).2.1 ?_
    obtain ⟨h16, E28⟩ : ∃ z, z = (wX12_lay b0 (0 : Int32) ((ea_i h (b0 + 0) 56) : Int32) h) := ⟨_, rfl⟩
    have H := H h16 E28
    refine ea_nm E28 ?_
    have hs_h16 : ShM b0 h16 := by rw [E28]; exact shX12_lay hs_h
    refine ea_aload_n (pc := 100) dX12_unit_100 rfl 0 rfl ?_
    obtain ⟨d23, h24, m25, q26, hs_h24, H⟩ := H
    refine ea_callV (pc := 101) (As := []) (st := []) dX12_unit_101 kX12_next0 m25 q26 rfl (Nat.le_of_ble_eq_true rfl) ew_1822 ew_1824 ew_63 (ci := 12) rfl (by decide) (hs_h16.1 0 (by decide)).1 (hs_h16.1 0 (by decide)).2.1 ?_
    refine ea_iconst (pc := 104) dX12_unit_104 (v := 1) rfl ?_
    obtain ⟨rfl, rfl⟩ := H
    exact ea_ireturn (pc := 105) dX12_unit_105 rfl (ea_bn (Or.inr rfl))
theorem pX12_any_0 {d b0 : Nat} {h0 hE h : ea_H} {rv : Option ea_V}  (hd : 2 ≤ d) (hs_h : ShM b0 h) (H : ∃ (d1 : Nat) (xc5 : Int32) (h2 : ea_H), ea_Met mX12_all d1 [vR (some (b0 + 0))] h (some (vI xc5)) h2 ∧ d1 + 1 ≤ d ∧ ShM b0 h2 ∧ (¬ xc5 = (0 : Int32) → ea_W mX12_any d h0 rv hE 9 [(0, vR (some (b0 + 0)))] [] h2) ∧ (xc5 = (0 : Int32) → rv = some (vI 0) ∧ hE = h2)) : ea_W mX12_any d h0 rv hE 0 [(0, vR (some (b0 + 0)))] [] h := by
  refine ea_aload_n (pc := 0) dX12_any_0 rfl 0 rfl ?_
  obtain ⟨d1, xc5, h2, m3, q4, hs_h2, H⟩ := H
  refine ea_callV (pc := 1) (As := []) (st := []) dX12_any_1 kX12_all m3 q4 rfl (Nat.le_of_ble_eq_true rfl) ew_1954 ew_1956 ew_78 (ci := 12) rfl (by decide) (hs_h.1 0 (by decide)).1 (hs_h.1 0 (by decide)).2.1 ?_
  refine ea_if_ne (pc := 4) (tgt := 9) dX12_any_4 rfl (fun c6 => ?_) (fun c6 => ?_)
  · have H := H.1 c6
    exact H
  · have H := H.2 c6
    refine ea_iconst (pc := 7) dX12_any_7 (v := 0) rfl ?_
    obtain ⟨rfl, rfl⟩ := H
    exact ea_ireturn (pc := 8) dX12_any_8 rfl (ea_bn (Or.inl rfl))
theorem pX12_any_9 {d b0 : Nat} {h0 hE h : ea_H} {rv : Option ea_V}  (hd : 2 ≤ d) (hs_h : ShM b0 h) (H : (¬ (ea_i h (b0 + 0) 54) = (11 : Int32) → rv = some (vI 1) ∧ hE = h) ∧ ((ea_i h (b0 + 0) 54) = (11 : Int32) → ∃ (d1 : Nat) (h2 : ea_H), ea_Met mX12_next0 d1 [vR (some (b0 + 0))] h none h2 ∧ d1 + 1 ≤ d ∧ ShM b0 h2 ∧ ∃ (d5 : Nat) (xc9 : Int32) (h6 : ea_H), ea_Met mX12_all d5 [vR (some (b0 + 0))] h2 (some (vI xc9)) h6 ∧ d5 + 1 ≤ d ∧ ShM b0 h6 ∧ (¬ xc9 = (0 : Int32) → (okX12_lay b0 (17 : Int32) (0 : Int32) h6) ∧ ∀ h11, h11 = (wX12_lay b0 (17 : Int32) (0 : Int32) h6) → ea_W mX12_any d h0 rv hE 9 [(0, vR (some (b0 + 0)))] [] h11) ∧ (xc9 = (0 : Int32) → rv = some (vI 0) ∧ hE = h6))) : ea_W mX12_any d h0 rv hE 9 [(0, vR (some (b0 + 0)))] [] h := by
  refine ea_aload_n (pc := 9) dX12_any_9 rfl 0 rfl ?_
  refine ea_getI (pc := 10) dX12_any_10 ec_12 (k := 54) (Nat.le_of_ble_eq_true rfl) rfl (Or.inl ew_1399) (hs_h.1 0 (by decide)).1 (hs_h.1 0 (by decide)).2.1 ?_
  refine ea_bipush (pc := 13) dX12_any_13 (v := 11) rfl ?_
  refine ea_icmp_ne (pc := 15) (tgt := 41) dX12_any_15 rfl (fun c17 => ?_) (fun c17 => ?_)
  · have H := H.1 c17
    refine ea_iconst (pc := 41) dX12_any_41 (v := 1) rfl ?_
    obtain ⟨rfl, rfl⟩ := H
    exact ea_ireturn (pc := 42) dX12_any_42 rfl (ea_bn (Or.inr rfl))
  · have H := H.2 c17
    refine ea_aload_n (pc := 18) dX12_any_18 rfl 0 rfl ?_
    obtain ⟨d1, h2, m3, q4, hs_h2, H⟩ := H
    refine ea_callV (pc := 19) (As := []) (st := []) dX12_any_19 kX12_next0 m3 q4 rfl (Nat.le_of_ble_eq_true rfl) ew_1822 ew_1824 ew_63 (ci := 12) rfl (by decide) (hs_h.1 0 (by decide)).1 (hs_h.1 0 (by decide)).2.1 ?_
    refine ea_aload_n (pc := 22) dX12_any_22 rfl 0 rfl ?_
    obtain ⟨d5, xc9, h6, m7, q8, hs_h6, H⟩ := H
    refine ea_callV (pc := 23) (As := []) (st := []) dX12_any_23 kX12_all m7 q8 rfl (Nat.le_of_ble_eq_true rfl) ew_1954 ew_1956 ew_78 (ci := 12) rfl (by decide) (hs_h2.1 0 (by decide)).1 (hs_h2.1 0 (by decide)).2.1 ?_
    refine ea_if_ne (pc := 26) (tgt := 31) dX12_any_26 rfl (fun c16 => ?_) (fun c16 => ?_)
    · have H := H.1 c16
      refine ea_aload_n (pc := 31) dX12_any_31 rfl 0 rfl ?_
      refine ea_bipush (pc := 32) dX12_any_32 (v := 17) rfl ?_
      refine ea_iconst (pc := 34) dX12_any_34 (v := 0) rfl ?_
      obtain ⟨z14, H⟩ := H
      refine ea_callV (pc := 35) (d' := d - 1) (As := [vI 17, vI 0]) (st := []) dX12_any_35 kX12_lay (sX12_lay (d := d - 1) (by omega) hs_h6 z14) (by omega) rfl (Nat.le_of_ble_eq_true rfl) ew_1946 ew_1948 ew_76 (ci := 12) rfl (by decide) (hs_h6.1 0 (by decide)).1 (hs_h6.1 0 (by decide)).2.1 ?_
      obtain ⟨h11, E15⟩ : ∃ z, z = (wX12_lay b0 (17 : Int32) (0 : Int32) h6) := ⟨_, rfl⟩
      have H := H h11 E15
      refine ea_nm E15 ?_
      have hs_h11 : ShM b0 h11 := by rw [E15]; exact shX12_lay hs_h6
      refine ea_goto (pc := 38) (tgt := 9) dX12_any_38 rfl ?_
      exact H
    · have H := H.2 c16
      refine ea_iconst (pc := 29) dX12_any_29 (v := 0) rfl ?_
      obtain ⟨rfl, rfl⟩ := H
      exact ea_ireturn (pc := 30) dX12_any_30 rfl (ea_bn (Or.inl rfl))
theorem pX12_all_0 {d b0 : Nat} {h0 hE h : ea_H} {rv : Option ea_V}  (hd : 2 ≤ d) (hs_h : ShM b0 h) (H : ∃ (d1 : Nat) (xc5 : Int32) (h2 : ea_H), ea_Met mX12_one d1 [vR (some (b0 + 0))] h (some (vI xc5)) h2 ∧ d1 + 1 ≤ d ∧ ShM b0 h2 ∧ (¬ xc5 = (0 : Int32) → ea_W mX12_all d h0 rv hE 9 [(0, vR (some (b0 + 0)))] [] h2) ∧ (xc5 = (0 : Int32) → rv = some (vI 0) ∧ hE = h2)) : ea_W mX12_all d h0 rv hE 0 [(0, vR (some (b0 + 0)))] [] h := by
  refine ea_aload_n (pc := 0) dX12_all_0 rfl 0 rfl ?_
  obtain ⟨d1, xc5, h2, m3, q4, hs_h2, H⟩ := H
  refine ea_callV (pc := 1) (As := []) (st := []) dX12_all_1 kX12_one m3 q4 rfl (Nat.le_of_ble_eq_true rfl) ew_1958 ew_1960 ew_79 (ci := 12) rfl (by decide) (hs_h.1 0 (by decide)).1 (hs_h.1 0 (by decide)).2.1 ?_
  refine ea_if_ne (pc := 4) (tgt := 9) dX12_all_4 rfl (fun c6 => ?_) (fun c6 => ?_)
  · have H := H.1 c6
    exact H
  · have H := H.2 c6
    refine ea_iconst (pc := 7) dX12_all_7 (v := 0) rfl ?_
    obtain ⟨rfl, rfl⟩ := H
    exact ea_ireturn (pc := 8) dX12_all_8 rfl (ea_bn (Or.inl rfl))
theorem pX12_all_9 {d b0 : Nat} {h0 hE h : ea_H} {rv : Option ea_V}  (hd : 2 ≤ d) (hs_h : ShM b0 h) (H : (¬ (ea_i h (b0 + 0) 54) = (12 : Int32) → rv = some (vI 1) ∧ hE = h) ∧ ((ea_i h (b0 + 0) 54) = (12 : Int32) → ∃ (d1 : Nat) (h2 : ea_H), ea_Met mX12_next0 d1 [vR (some (b0 + 0))] h none h2 ∧ d1 + 1 ≤ d ∧ ShM b0 h2 ∧ ∃ (d5 : Nat) (xc9 : Int32) (h6 : ea_H), ea_Met mX12_one d5 [vR (some (b0 + 0))] h2 (some (vI xc9)) h6 ∧ d5 + 1 ≤ d ∧ ShM b0 h6 ∧ (¬ xc9 = (0 : Int32) → (okX12_lay b0 (16 : Int32) (0 : Int32) h6) ∧ ∀ h11, h11 = (wX12_lay b0 (16 : Int32) (0 : Int32) h6) → ea_W mX12_all d h0 rv hE 9 [(0, vR (some (b0 + 0)))] [] h11) ∧ (xc9 = (0 : Int32) → rv = some (vI 0) ∧ hE = h6))) : ea_W mX12_all d h0 rv hE 9 [(0, vR (some (b0 + 0)))] [] h := by
  refine ea_aload_n (pc := 9) dX12_all_9 rfl 0 rfl ?_
  refine ea_getI (pc := 10) dX12_all_10 ec_12 (k := 54) (Nat.le_of_ble_eq_true rfl) rfl (Or.inl ew_1399) (hs_h.1 0 (by decide)).1 (hs_h.1 0 (by decide)).2.1 ?_
  refine ea_bipush (pc := 13) dX12_all_13 (v := 12) rfl ?_
  refine ea_icmp_ne (pc := 15) (tgt := 41) dX12_all_15 rfl (fun c17 => ?_) (fun c17 => ?_)
  · have H := H.1 c17
    refine ea_iconst (pc := 41) dX12_all_41 (v := 1) rfl ?_
    obtain ⟨rfl, rfl⟩ := H
    exact ea_ireturn (pc := 42) dX12_all_42 rfl (ea_bn (Or.inr rfl))
  · have H := H.2 c17
    refine ea_aload_n (pc := 18) dX12_all_18 rfl 0 rfl ?_
    obtain ⟨d1, h2, m3, q4, hs_h2, H⟩ := H
    refine ea_callV (pc := 19) (As := []) (st := []) dX12_all_19 kX12_next0 m3 q4 rfl (Nat.le_of_ble_eq_true rfl) ew_1822 ew_1824 ew_63 (ci := 12) rfl (by decide) (hs_h.1 0 (by decide)).1 (hs_h.1 0 (by decide)).2.1 ?_
    refine ea_aload_n (pc := 22) dX12_all_22 rfl 0 rfl ?_
    obtain ⟨d5, xc9, h6, m7, q8, hs_h6, H⟩ := H
    refine ea_callV (pc := 23) (As := []) (st := []) dX12_all_23 kX12_one m7 q8 rfl (Nat.le_of_ble_eq_true rfl) ew_1958 ew_1960 ew_79 (ci := 12) rfl (by decide) (hs_h2.1 0 (by decide)).1 (hs_h2.1 0 (by decide)).2.1 ?_
    refine ea_if_ne (pc := 26) (tgt := 31) dX12_all_26 rfl (fun c16 => ?_) (fun c16 => ?_)
    · have H := H.1 c16
      refine ea_aload_n (pc := 31) dX12_all_31 rfl 0 rfl ?_
      refine ea_bipush (pc := 32) dX12_all_32 (v := 16) rfl ?_
      refine ea_iconst (pc := 34) dX12_all_34 (v := 0) rfl ?_
      obtain ⟨z14, H⟩ := H
      refine ea_callV (pc := 35) (d' := d - 1) (As := [vI 16, vI 0]) (st := []) dX12_all_35 kX12_lay (sX12_lay (d := d - 1) (by omega) hs_h6 z14) (by omega) rfl (Nat.le_of_ble_eq_true rfl) ew_1946 ew_1948 ew_76 (ci := 12) rfl (by decide) (hs_h6.1 0 (by decide)).1 (hs_h6.1 0 (by decide)).2.1 ?_
      obtain ⟨h11, E15⟩ : ∃ z, z = (wX12_lay b0 (16 : Int32) (0 : Int32) h6) := ⟨_, rfl⟩
      have H := H h11 E15
      refine ea_nm E15 ?_
      have hs_h11 : ShM b0 h11 := by rw [E15]; exact shX12_lay hs_h6
      refine ea_goto (pc := 38) (tgt := 9) dX12_all_38 rfl ?_
      exact H
    · have H := H.2 c16
      refine ea_iconst (pc := 29) dX12_all_29 (v := 0) rfl ?_
      obtain ⟨rfl, rfl⟩ := H
      exact ea_ireturn (pc := 30) dX12_all_30 rfl (ea_bn (Or.inl rfl))
theorem pX12_one_0 {d b0 : Nat} {h0 hE h : ea_H} {rv : Option ea_V}  (hd : 2 ≤ d) (hs_h : ShM b0 h) (H : (¬ (ea_i h (b0 + 0) 54) = (13 : Int32) → ∃ (d1 : Nat) (xc5 : Int32) (h2 : ea_H), ea_Met mX12_sumOf d1 [vR (some (b0 + 0))] h (some (vI xc5)) h2 ∧ d1 + 1 ≤ d ∧ ShM b0 h2 ∧ (¬ xc5 = (0 : Int32) → (¬ (ea_i h2 (b0 + 0) 54) = (60 : Int32) → (¬ (ea_i h2 (b0 + 0) 54) = (61 : Int32) → (¬ (ea_i h2 (b0 + 0) 54) = (62 : Int32) → ea_W mX12_one d h0 rv hE 96 [(0, vR (some (b0 + 0)))] [vI (-1)] h2) ∧ ((ea_i h2 (b0 + 0) 54) = (62 : Int32) → ea_W mX12_one d h0 rv hE 96 [(0, vR (some (b0 + 0)))] [vI 14] h2)) ∧ ((ea_i h2 (b0 + 0) 54) = (61 : Int32) → ea_W mX12_one d h0 rv hE 96 [(0, vR (some (b0 + 0)))] [vI 13] h2)) ∧ ((ea_i h2 (b0 + 0) 54) = (60 : Int32) → ea_W mX12_one d h0 rv hE 96 [(0, vR (some (b0 + 0)))] [vI 12] h2)) ∧ (xc5 = (0 : Int32) → rv = some (vI 0) ∧ hE = h2)) ∧ ((ea_i h (b0 + 0) 54) = (13 : Int32) → ∃ (d10 : Nat) (xc14 : Int32) (h11 : ea_H), ea_Met mX12_opens d10 [vR (some (b0 + 0))] h (some (vI xc14)) h11 ∧ d10 + 1 ≤ d ∧ ShM b0 h11 ∧ (xc14 = (0 : Int32) → rv = some (vI 0) ∧ hE = h11) ∧ (¬ xc14 = (0 : Int32) → ∃ (d15 : Nat) (xc19 : Int32) (h16 : ea_H), ea_Met mX12_one d15 [vR (some (b0 + 0))] h11 (some (vI xc19)) h16 ∧ d15 + 1 ≤ d ∧ ShM b0 h16 ∧ (¬ xc19 = (0 : Int32) → ∀ h20, h20 = ea_wi h16 (b0 + 0) 60 ((ea_i h16 (b0 + 0) 60) - (1 : Int32)) → (okX12_lay b0 (15 : Int32) (0 : Int32) h20) ∧ ∀ h23, h23 = (wX12_lay b0 (15 : Int32) (0 : Int32) h20) → rv = some (vI 1) ∧ hE = h23) ∧ (xc19 = (0 : Int32) → rv = some (vI 0) ∧ hE = h16)))) : ea_W mX12_one d h0 rv hE 0 [(0, vR (some (b0 + 0)))] [] h := by
  refine ea_aload_n (pc := 0) dX12_one_0 rfl 0 rfl ?_
  refine ea_getI (pc := 1) dX12_one_1 ec_12 (k := 54) (Nat.le_of_ble_eq_true rfl) rfl (Or.inl ew_1399) (hs_h.1 0 (by decide)).1 (hs_h.1 0 (by decide)).2.1 ?_
  refine ea_bipush (pc := 4) dX12_one_4 (v := 13) rfl ?_
  refine ea_icmp_ne (pc := 6) (tgt := 44) dX12_one_6 rfl (fun c30 => ?_) (fun c30 => ?_)
  · have H := H.1 c30
    refine ea_aload_n (pc := 44) dX12_one_44 rfl 0 rfl ?_
    obtain ⟨d1, xc5, h2, m3, q4, hs_h2, H⟩ := H
    refine ea_callV (pc := 45) (As := []) (st := []) dX12_one_45 kX12_sumOf m3 q4 rfl (Nat.le_of_ble_eq_true rfl) ew_1926 ew_1928 ew_71 (ci := 12) rfl (by decide) (hs_h.1 0 (by decide)).1 (hs_h.1 0 (by decide)).2.1 ?_
    refine ea_if_ne (pc := 48) (tgt := 53) dX12_one_48 rfl (fun c9 => ?_) (fun c9 => ?_)
    · have H := H.1 c9
      refine ea_aload_n (pc := 53) dX12_one_53 rfl 0 rfl ?_
      refine ea_getI (pc := 54) dX12_one_54 ec_12 (k := 54) (Nat.le_of_ble_eq_true rfl) rfl (Or.inl ew_1399) (hs_h2.1 0 (by decide)).1 (hs_h2.1 0 (by decide)).2.1 ?_
      refine ea_bipush (pc := 57) dX12_one_57 (v := 60) rfl ?_
      refine ea_icmp_ne (pc := 59) (tgt := 67) dX12_one_59 rfl (fun c8 => ?_) (fun c8 => ?_)
      · have H := H.1 c8
        refine ea_aload_n (pc := 67) dX12_one_67 rfl 0 rfl ?_
        refine ea_getI (pc := 68) dX12_one_68 ec_12 (k := 54) (Nat.le_of_ble_eq_true rfl) rfl (Or.inl ew_1399) (hs_h2.1 0 (by decide)).1 (hs_h2.1 0 (by decide)).2.1 ?_
        refine ea_bipush (pc := 71) dX12_one_71 (v := 61) rfl ?_
        refine ea_icmp_ne (pc := 73) (tgt := 81) dX12_one_73 rfl (fun c7 => ?_) (fun c7 => ?_)
        · have H := H.1 c7
          refine ea_aload_n (pc := 81) dX12_one_81 rfl 0 rfl ?_
          refine ea_getI (pc := 82) dX12_one_82 ec_12 (k := 54) (Nat.le_of_ble_eq_true rfl) rfl (Or.inl ew_1399) (hs_h2.1 0 (by decide)).1 (hs_h2.1 0 (by decide)).2.1 ?_
          refine ea_bipush (pc := 85) dX12_one_85 (v := 62) rfl ?_
          refine ea_icmp_ne (pc := 87) (tgt := 95) dX12_one_87 rfl (fun c6 => ?_) (fun c6 => ?_)
          · have H := H.1 c6
            refine ea_iconst (pc := 95) dX12_one_95 (v := (-1)) rfl ?_
            exact H
          · have H := H.2 c6
            refine ea_bipush (pc := 90) dX12_one_90 (v := 14) rfl ?_
            refine ea_goto (pc := 92) (tgt := 96) dX12_one_92 rfl ?_
            exact H
        · have H := H.2 c7
          refine ea_bipush (pc := 76) dX12_one_76 (v := 13) rfl ?_
          refine ea_goto (pc := 78) (tgt := 96) dX12_one_78 rfl ?_
          exact H
      · have H := H.2 c8
        refine ea_bipush (pc := 62) dX12_one_62 (v := 12) rfl ?_
        refine ea_goto (pc := 64) (tgt := 96) dX12_one_64 rfl ?_
        exact H
    · have H := H.2 c9
      refine ea_iconst (pc := 51) dX12_one_51 (v := 0) rfl ?_
      obtain ⟨rfl, rfl⟩ := H
      exact ea_ireturn (pc := 52) dX12_one_52 rfl (ea_bn (Or.inl rfl))
  · have H := H.2 c30
    refine ea_aload_n (pc := 9) dX12_one_9 rfl 0 rfl ?_
    obtain ⟨d10, xc14, h11, m12, q13, hs_h11, H⟩ := H
    refine ea_callV (pc := 10) (As := []) (st := []) dX12_one_10 kX12_opens m12 q13 rfl (Nat.le_of_ble_eq_true rfl) ew_1938 ew_1940 ew_74 (ci := 12) rfl (by decide) (hs_h.1 0 (by decide)).1 (hs_h.1 0 (by decide)).2.1 ?_
    refine ea_if_eq (pc := 13) (tgt := 23) dX12_one_13 rfl (fun c29 => ?_) (fun c29 => ?_)
    · have H := H.1 c29
      refine ea_iconst (pc := 23) dX12_one_23 (v := 0) rfl ?_
      obtain ⟨rfl, rfl⟩ := H
      exact ea_ireturn (pc := 24) dX12_one_24 rfl (ea_bn (Or.inl rfl))
    · have H := H.2 c29
      refine ea_aload_n (pc := 16) dX12_one_16 rfl 0 rfl ?_
      obtain ⟨d15, xc19, h16, m17, q18, hs_h16, H⟩ := H
      refine ea_callV (pc := 17) (As := []) (st := []) dX12_one_17 kX12_one m17 q18 rfl (Nat.le_of_ble_eq_true rfl) ew_1958 ew_1960 ew_79 (ci := 12) rfl (by decide) (hs_h11.1 0 (by decide)).1 (hs_h11.1 0 (by decide)).2.1 ?_
      refine ea_if_ne (pc := 20) (tgt := 25) dX12_one_20 rfl (fun c28 => ?_) (fun c28 => ?_)
      · have H := H.1 c28
        refine ea_aload_n (pc := 25) dX12_one_25 rfl 0 rfl ?_
        refine ea_dup (pc := 26) dX12_one_26 rfl ?_
        refine ea_getI (pc := 27) dX12_one_27 ec_12 (k := 60) (Nat.le_of_ble_eq_true rfl) rfl (Or.inl ew_1405) (hs_h16.1 0 (by decide)).1 (hs_h16.1 0 (by decide)).2.1 ?_
        refine ea_iconst (pc := 30) dX12_one_30 (v := 1) rfl ?_
        refine ea_isub (pc := 31) dX12_one_31 ?_
        refine ea_putI (pc := 32) dX12_one_32 ec_12 (k := 60) (Nat.le_of_ble_eq_true rfl) rfl (Or.inl ⟨rfl, Or.inl ew_1405⟩) rfl rfl (hs_h16.1 0 (by decide)).1 (hs_h16.1 0 (by decide)).2.1 ?_
        obtain ⟨h20, E21⟩ : ∃ z, z = ea_wi h16 (b0 + 0) 60 ((ea_i h16 (b0 + 0) 60) - (1 : Int32)) := ⟨_, rfl⟩
        have H := H h20 E21
        refine ea_nm E21 ?_
        have hs_h20 : ShM b0 h20 := by rw [E21]; exact ShM_wi hs_h16
        refine ea_aload_n (pc := 35) dX12_one_35 rfl 0 rfl ?_
        refine ea_bipush (pc := 36) dX12_one_36 (v := 15) rfl ?_
        refine ea_iconst (pc := 38) dX12_one_38 (v := 0) rfl ?_
        obtain ⟨z26, H⟩ := H
        refine ea_callV (pc := 39) (d' := d - 1) (As := [vI 15, vI 0]) (st := []) dX12_one_39 kX12_lay (sX12_lay (d := d - 1) (by omega) hs_h20 z26) (by omega) rfl (Nat.le_of_ble_eq_true rfl) ew_1946 ew_1948 ew_76 (ci := 12) rfl (by decide) (hs_h20.1 0 (by decide)).1 (hs_h20.1 0 (by decide)).2.1 ?_
        obtain ⟨h23, E27⟩ : ∃ z, z = (wX12_lay b0 (15 : Int32) (0 : Int32) h20) := ⟨_, rfl⟩
        have H := H h23 E27
        refine ea_nm E27 ?_
        have hs_h23 : ShM b0 h23 := by rw [E27]; exact shX12_lay hs_h20
        refine ea_iconst (pc := 42) dX12_one_42 (v := 1) rfl ?_
        obtain ⟨rfl, rfl⟩ := H
        exact ea_ireturn (pc := 43) dX12_one_43 rfl (ea_bn (Or.inr rfl))
      · have H := H.2 c28
        refine ea_iconst (pc := 23) dX12_one_23 (v := 0) rfl ?_
        obtain ⟨rfl, rfl⟩ := H
        exact ea_ireturn (pc := 24) dX12_one_24 rfl (ea_bn (Or.inl rfl))
theorem pX12_one_96 {d b0 : Nat} {h0 hE h : ea_H} {rv : Option ea_V} {sx0 : Int32} (hd : 2 ≤ d) (hs_h : ShM b0 h) (H : (¬ sx0 = ((-1) : Int32) → ∃ (d1 : Nat) (h2 : ea_H), ea_Met mX12_next0 d1 [vR (some (b0 + 0))] h none h2 ∧ d1 + 1 ≤ d ∧ ShM b0 h2 ∧ ∃ (d5 : Nat) (xc9 : Int32) (h6 : ea_H), ea_Met mX12_sumOf d5 [vR (some (b0 + 0))] h2 (some (vI xc9)) h6 ∧ d5 + 1 ≤ d ∧ ShM b0 h6 ∧ (¬ xc9 = (0 : Int32) → (okX12_lay b0 (sx0 : Int32) (0 : Int32) h6) ∧ ∀ h11, h11 = (wX12_lay b0 (sx0 : Int32) (0 : Int32) h6) → rv = some (vI 1) ∧ hE = h11) ∧ (xc9 = (0 : Int32) → rv = some (vI 0) ∧ hE = h6)) ∧ (sx0 = ((-1) : Int32) → ∀ h18, h18 = (wX12_bad b0 (1 : Int32) h) → ((vX12_bad b0 (1 : Int32) h) = 0 ∨ (vX12_bad b0 (1 : Int32) h) = 1) ∧ rv = some (vI (vX12_bad b0 (1 : Int32) h)) ∧ hE = h18)) : ea_W mX12_one d h0 rv hE 96 [(0, vR (some (b0 + 0)))] [vI sx0] h := by
  refine ea_istore_n (pc := 96) (lv' := [(0, vR (some (b0 + 0))), (1, vI sx0)]) dX12_one_96 rfl (Nat.le_of_ble_eq_true rfl) [1, 0] rfl ?_
  refine ea_iload_n (pc := 97) dX12_one_97 rfl 1 rfl ?_
  refine ea_iconst (pc := 98) dX12_one_98 (v := (-1)) rfl ?_
  refine ea_icmp_ne (pc := 99) (tgt := 108) dX12_one_99 rfl (fun c26 => ?_) (fun c26 => ?_)
  · have H := H.1 c26
    refine ea_aload_n (pc := 108) dX12_one_108 rfl 0 rfl ?_
    obtain ⟨d1, h2, m3, q4, hs_h2, H⟩ := H
    refine ea_callV (pc := 109) (As := []) (st := []) dX12_one_109 kX12_next0 m3 q4 rfl (Nat.le_of_ble_eq_true rfl) ew_1822 ew_1824 ew_63 (ci := 12) rfl (by decide) (hs_h.1 0 (by decide)).1 (hs_h.1 0 (by decide)).2.1 ?_
    refine ea_aload_n (pc := 112) dX12_one_112 rfl 0 rfl ?_
    obtain ⟨d5, xc9, h6, m7, q8, hs_h6, H⟩ := H
    refine ea_callV (pc := 113) (As := []) (st := []) dX12_one_113 kX12_sumOf m7 q8 rfl (Nat.le_of_ble_eq_true rfl) ew_1926 ew_1928 ew_71 (ci := 12) rfl (by decide) (hs_h2.1 0 (by decide)).1 (hs_h2.1 0 (by decide)).2.1 ?_
    refine ea_if_ne (pc := 116) (tgt := 121) dX12_one_116 rfl (fun c16 => ?_) (fun c16 => ?_)
    · have H := H.1 c16
      refine ea_aload_n (pc := 121) dX12_one_121 rfl 0 rfl ?_
      refine ea_iload_n (pc := 122) dX12_one_122 rfl 1 rfl ?_
      refine ea_iconst (pc := 123) dX12_one_123 (v := 0) rfl ?_
      obtain ⟨z14, H⟩ := H
      refine ea_callV (pc := 124) (d' := d - 1) (As := [vI sx0, vI 0]) (st := []) dX12_one_124 kX12_lay (sX12_lay (d := d - 1) (by omega) hs_h6 z14) (by omega) rfl (Nat.le_of_ble_eq_true rfl) ew_1946 ew_1948 ew_76 (ci := 12) rfl (by decide) (hs_h6.1 0 (by decide)).1 (hs_h6.1 0 (by decide)).2.1 ?_
      obtain ⟨h11, E15⟩ : ∃ z, z = (wX12_lay b0 (sx0 : Int32) (0 : Int32) h6) := ⟨_, rfl⟩
      have H := H h11 E15
      refine ea_nm E15 ?_
      have hs_h11 : ShM b0 h11 := by rw [E15]; exact shX12_lay hs_h6
      refine ea_iconst (pc := 127) dX12_one_127 (v := 1) rfl ?_
      obtain ⟨rfl, rfl⟩ := H
      exact ea_ireturn (pc := 128) dX12_one_128 rfl (ea_bn (Or.inr rfl))
    · have H := H.2 c16
      refine ea_iconst (pc := 119) dX12_one_119 (v := 0) rfl ?_
      obtain ⟨rfl, rfl⟩ := H
      exact ea_ireturn (pc := 120) dX12_one_120 rfl (ea_bn (Or.inl rfl))
  · have H := H.2 c26
    refine ea_aload_n (pc := 102) dX12_one_102 rfl 0 rfl ?_
    refine ea_iconst (pc := 103) dX12_one_103 (v := 1) rfl ?_
    refine ea_callV (pc := 104) (d' := d - 1) (As := [vI 1]) (st := []) dX12_one_104 kX12_bad (sX12_bad (d := d - 1) (by omega) hs_h) (by omega) rfl (Nat.le_of_ble_eq_true rfl) ew_1914 ew_1916 ew_68 (ci := 12) rfl (by decide) (hs_h.1 0 (by decide)).1 (hs_h.1 0 (by decide)).2.1 ?_
    obtain ⟨h18, E25⟩ : ∃ z, z = (wX12_bad b0 (1 : Int32) h) := ⟨_, rfl⟩
    have H := H h18 E25
    refine ea_nm E25 ?_
    have hs_h18 : ShM b0 h18 := by rw [E25]; exact shX12_bad hs_h
    obtain ⟨z23, rfl, rfl⟩ := H
    exact ea_ireturn (pc := 107) dX12_one_107 rfl (ea_bn z23)
theorem pX12_aCharge_0 {d b0 : Nat} {h0 hE h : ea_H} {rv : Option ea_V}  (hd : 1 ≤ d) (hs_h : ShM b0 h) (H : vp_in (ea_i h (b0 + 0) 44) 25 ∧ ∀ h2, h2 = ea_wi h (b0 + 33) (Int32.toNatClampNeg (ea_i h (b0 + 0) 44)) (ea_i h (b0 + 0) 45) → ∃ (d4 : Nat) (xc8 : Int32) (h5 : ea_H), ea_Met mX12_sumOf d4 [vR (some (b0 + 0))] h2 (some (vI xc8)) h5 ∧ d4 + 1 ≤ d ∧ ShM b0 h5 ∧ (¬ xc8 = (0 : Int32) → vp_in (ea_i h5 (b0 + 0) 44) 24 ∧ ∀ h10, h10 = ea_wi h5 (b0 + 34) (Int32.toNatClampNeg (ea_i h5 (b0 + 0) 44)) (ea_i h5 (b0 + 0) 45) → (¬ (ea_i h10 (b0 + 0) 54) = (10 : Int32) → ∀ h12, h12 = ea_wi h10 (b0 + 0) 44 ((ea_i h10 (b0 + 0) 44) + (1 : Int32)) → rv = some (vI 1) ∧ hE = h12) ∧ ((ea_i h10 (b0 + 0) 54) = (10 : Int32) → ∃ (d14 : Nat) (h15 : ea_H), ea_Met mX12_next0 d14 [vR (some (b0 + 0))] h10 none h15 ∧ d14 + 1 ≤ d ∧ ShM b0 h15 ∧ ∃ (d18 : Nat) (xc22 : Int32) (h19 : ea_H), ea_Met mX12_any d18 [vR (some (b0 + 0))] h15 (some (vI xc22)) h19 ∧ d18 + 1 ≤ d ∧ ShM b0 h19 ∧ (¬ xc22 = (0 : Int32) → ∀ h23, h23 = ea_wi h19 (b0 + 0) 44 ((ea_i h19 (b0 + 0) 44) + (1 : Int32)) → rv = some (vI 1) ∧ hE = h23) ∧ (xc22 = (0 : Int32) → rv = some (vI 0) ∧ hE = h19))) ∧ (xc8 = (0 : Int32) → rv = some (vI 0) ∧ hE = h5)) : ea_W mX12_aCharge d h0 rv hE 0 [(0, vR (some (b0 + 0)))] [] h := by
  refine ea_aload_n (pc := 0) dX12_aCharge_0 rfl 0 rfl ?_
  refine ea_getR (pc := 1) dX12_aCharge_1 ec_12 (k := 38) (Nat.le_of_ble_eq_true rfl) rfl (Or.inl ew_1383) (hs_h.1 0 (by decide)).1 (hs_h.1 0 (by decide)).2.1 (hs_h.2 0 38 rfl) ?_
  refine ea_aload_n (pc := 4) dX12_aCharge_4 rfl 0 rfl ?_
  refine ea_getI (pc := 5) dX12_aCharge_5 ec_12 (k := 44) (Nat.le_of_ble_eq_true rfl) rfl (Or.inl ew_1389) (hs_h.1 0 (by decide)).1 (hs_h.1 0 (by decide)).2.1 ?_
  refine ea_aload_n (pc := 8) dX12_aCharge_8 rfl 0 rfl ?_
  refine ea_getI (pc := 9) dX12_aCharge_9 ec_12 (k := 45) (Nat.le_of_ble_eq_true rfl) rfl (Or.inl ew_1390) (hs_h.1 0 (by decide)).1 (hs_h.1 0 (by decide)).2.1 ?_
  obtain ⟨z1, H⟩ := H
  refine ea_iast (pc := 12) dX12_aCharge_12 (hs_h.1 33 (by decide)).1 (hs_h.1 33 (by decide)).2.1 (ea_vpl (hs_h.1 33 (by decide)).2.2 z1) ?_
  obtain ⟨h2, E3⟩ : ∃ z, z = ea_wi h (b0 + 33) (Int32.toNatClampNeg (ea_i h (b0 + 0) 44)) (ea_i h (b0 + 0) 45) := ⟨_, rfl⟩
  have H := H h2 E3
  refine ea_nm E3 ?_
  have hs_h2 : ShM b0 h2 := by rw [E3]; exact ShM_wi hs_h
  refine ea_aload_n (pc := 13) dX12_aCharge_13 rfl 0 rfl ?_
  obtain ⟨d4, xc8, h5, m6, q7, hs_h5, H⟩ := H
  refine ea_callV (pc := 14) (As := []) (st := []) dX12_aCharge_14 kX12_sumOf m6 q7 rfl (Nat.le_of_ble_eq_true rfl) ew_1926 ew_1928 ew_71 (ci := 12) rfl (by decide) (hs_h2.1 0 (by decide)).1 (hs_h2.1 0 (by decide)).2.1 ?_
  refine ea_if_ne (pc := 17) (tgt := 22) dX12_aCharge_17 rfl (fun c27 => ?_) (fun c27 => ?_)
  · have H := H.1 c27
    refine ea_aload_n (pc := 22) dX12_aCharge_22 rfl 0 rfl ?_
    refine ea_getR (pc := 23) dX12_aCharge_23 ec_12 (k := 39) (Nat.le_of_ble_eq_true rfl) rfl (Or.inl ew_1384) (hs_h5.1 0 (by decide)).1 (hs_h5.1 0 (by decide)).2.1 (hs_h5.2 0 39 rfl) ?_
    refine ea_aload_n (pc := 26) dX12_aCharge_26 rfl 0 rfl ?_
    refine ea_getI (pc := 27) dX12_aCharge_27 ec_12 (k := 44) (Nat.le_of_ble_eq_true rfl) rfl (Or.inl ew_1389) (hs_h5.1 0 (by decide)).1 (hs_h5.1 0 (by decide)).2.1 ?_
    refine ea_aload_n (pc := 30) dX12_aCharge_30 rfl 0 rfl ?_
    refine ea_getI (pc := 31) dX12_aCharge_31 ec_12 (k := 45) (Nat.le_of_ble_eq_true rfl) rfl (Or.inl ew_1390) (hs_h5.1 0 (by decide)).1 (hs_h5.1 0 (by decide)).2.1 ?_
    obtain ⟨z9, H⟩ := H
    refine ea_iast (pc := 34) dX12_aCharge_34 (hs_h5.1 34 (by decide)).1 (hs_h5.1 34 (by decide)).2.1 (ea_vpl (hs_h5.1 34 (by decide)).2.2 z9) ?_
    obtain ⟨h10, E11⟩ : ∃ z, z = ea_wi h5 (b0 + 34) (Int32.toNatClampNeg (ea_i h5 (b0 + 0) 44)) (ea_i h5 (b0 + 0) 45) := ⟨_, rfl⟩
    have H := H h10 E11
    refine ea_nm E11 ?_
    have hs_h10 : ShM b0 h10 := by rw [E11]; exact ShM_wi hs_h5
    refine ea_aload_n (pc := 35) dX12_aCharge_35 rfl 0 rfl ?_
    refine ea_getI (pc := 36) dX12_aCharge_36 ec_12 (k := 54) (Nat.le_of_ble_eq_true rfl) rfl (Or.inl ew_1399) (hs_h10.1 0 (by decide)).1 (hs_h10.1 0 (by decide)).2.1 ?_
    refine ea_bipush (pc := 39) dX12_aCharge_39 (v := 10) rfl ?_
    refine ea_icmp_ne (pc := 41) (tgt := 57) dX12_aCharge_41 rfl (fun c26 => ?_) (fun c26 => ?_)
    · have H := H.1 c26
      refine ea_aload_n (pc := 57) dX12_aCharge_57 rfl 0 rfl ?_
      refine ea_dup (pc := 58) dX12_aCharge_58 rfl ?_
      refine ea_getI (pc := 59) dX12_aCharge_59 ec_12 (k := 44) (Nat.le_of_ble_eq_true rfl) rfl (Or.inl ew_1389) (hs_h10.1 0 (by decide)).1 (hs_h10.1 0 (by decide)).2.1 ?_
      refine ea_iconst (pc := 62) dX12_aCharge_62 (v := 1) rfl ?_
      refine ea_iadd (pc := 63) dX12_aCharge_63 ?_
      refine ea_putI (pc := 64) dX12_aCharge_64 ec_12 (k := 44) (Nat.le_of_ble_eq_true rfl) rfl (Or.inl ⟨rfl, Or.inl ew_1389⟩) rfl rfl (hs_h10.1 0 (by decide)).1 (hs_h10.1 0 (by decide)).2.1 ?_
      obtain ⟨h12, E13⟩ : ∃ z, z = ea_wi h10 (b0 + 0) 44 ((ea_i h10 (b0 + 0) 44) + (1 : Int32)) := ⟨_, rfl⟩
      have H := H h12 E13
      refine ea_nm E13 ?_
      have hs_h12 : ShM b0 h12 := by rw [E13]; exact ShM_wi hs_h10
      refine ea_iconst (pc := 67) dX12_aCharge_67 (v := 1) rfl ?_
      obtain ⟨rfl, rfl⟩ := H
      exact ea_ireturn (pc := 68) dX12_aCharge_68 rfl (ea_bn (Or.inr rfl))
    · have H := H.2 c26
      refine ea_aload_n (pc := 44) dX12_aCharge_44 rfl 0 rfl ?_
      obtain ⟨d14, h15, m16, q17, hs_h15, H⟩ := H
      refine ea_callV (pc := 45) (As := []) (st := []) dX12_aCharge_45 kX12_next0 m16 q17 rfl (Nat.le_of_ble_eq_true rfl) ew_1822 ew_1824 ew_63 (ci := 12) rfl (by decide) (hs_h10.1 0 (by decide)).1 (hs_h10.1 0 (by decide)).2.1 ?_
      refine ea_aload_n (pc := 48) dX12_aCharge_48 rfl 0 rfl ?_
      obtain ⟨d18, xc22, h19, m20, q21, hs_h19, H⟩ := H
      refine ea_callV (pc := 49) (As := []) (st := []) dX12_aCharge_49 kX12_any m20 q21 rfl (Nat.le_of_ble_eq_true rfl) ew_1950 ew_1952 ew_77 (ci := 12) rfl (by decide) (hs_h15.1 0 (by decide)).1 (hs_h15.1 0 (by decide)).2.1 ?_
      refine ea_if_ne (pc := 52) (tgt := 57) dX12_aCharge_52 rfl (fun c25 => ?_) (fun c25 => ?_)
      · have H := H.1 c25
        refine ea_aload_n (pc := 57) dX12_aCharge_57 rfl 0 rfl ?_
        refine ea_dup (pc := 58) dX12_aCharge_58 rfl ?_
        refine ea_getI (pc := 59) dX12_aCharge_59 ec_12 (k := 44) (Nat.le_of_ble_eq_true rfl) rfl (Or.inl ew_1389) (hs_h19.1 0 (by decide)).1 (hs_h19.1 0 (by decide)).2.1 ?_
        refine ea_iconst (pc := 62) dX12_aCharge_62 (v := 1) rfl ?_
        refine ea_iadd (pc := 63) dX12_aCharge_63 ?_
        refine ea_putI (pc := 64) dX12_aCharge_64 ec_12 (k := 44) (Nat.le_of_ble_eq_true rfl) rfl (Or.inl ⟨rfl, Or.inl ew_1389⟩) rfl rfl (hs_h19.1 0 (by decide)).1 (hs_h19.1 0 (by decide)).2.1 ?_
        obtain ⟨h23, E24⟩ : ∃ z, z = ea_wi h19 (b0 + 0) 44 ((ea_i h19 (b0 + 0) 44) + (1 : Int32)) := ⟨_, rfl⟩
        have H := H h23 E24
        refine ea_nm E24 ?_
        have hs_h23 : ShM b0 h23 := by rw [E24]; exact ShM_wi hs_h19
        refine ea_iconst (pc := 67) dX12_aCharge_67 (v := 1) rfl ?_
        obtain ⟨rfl, rfl⟩ := H
        exact ea_ireturn (pc := 68) dX12_aCharge_68 rfl (ea_bn (Or.inr rfl))
      · have H := H.2 c25
        refine ea_iconst (pc := 55) dX12_aCharge_55 (v := 0) rfl ?_
        obtain ⟨rfl, rfl⟩ := H
        exact ea_ireturn (pc := 56) dX12_aCharge_56 rfl (ea_bn (Or.inl rfl))
  · have H := H.2 c27
    refine ea_iconst (pc := 20) dX12_aCharge_20 (v := 0) rfl ?_
    obtain ⟨rfl, rfl⟩ := H
    exact ea_ireturn (pc := 21) dX12_aCharge_21 rfl (ea_bn (Or.inl rfl))
theorem pX12_inner_0 {d b0 : Nat} {h0 hE h : ea_H} {rv : Option ea_V} {x1 : Int32} (hd : 1 ≤ d) (hs_h : ShM b0 h) (H : (¬ x1 = (3 : Int32) → (¬ x1 = (5 : Int32) → ea_W mX12_inner d h0 rv hE 24 [(0, vR (some (b0 + 0))), (1, vI x1)] [vI 9999, vR (some (b0 + 0))] h) ∧ (x1 = (5 : Int32) → ea_W mX12_inner d h0 rv hE 24 [(0, vR (some (b0 + 0))), (1, vI x1)] [vI 99, vR (some (b0 + 0))] h)) ∧ (x1 = (3 : Int32) → ∃ (d2 : Nat) (xc6 : Int32) (h3 : ea_H), ea_Met mX12_aCharge d2 [vR (some (b0 + 0))] h (some (vI xc6)) h3 ∧ d2 + 1 ≤ d ∧ ShM b0 h3 ∧ (xc6 = 0 ∨ xc6 = 1) ∧ rv = some (vI xc6) ∧ hE = h3)) : ea_W mX12_inner d h0 rv hE 0 [(0, vR (some (b0 + 0))), (1, vI x1)] [] h := by
  refine ea_iload_n (pc := 0) dX12_inner_0 rfl 1 rfl ?_
  refine ea_iconst (pc := 1) dX12_inner_1 (v := 3) rfl ?_
  refine ea_icmp_ne (pc := 2) (tgt := 10) dX12_inner_2 rfl (fun c8 => ?_) (fun c8 => ?_)
  · have H := H.1 c8
    refine ea_aload_n (pc := 10) dX12_inner_10 rfl 0 rfl ?_
    refine ea_iload_n (pc := 11) dX12_inner_11 rfl 1 rfl ?_
    refine ea_iconst (pc := 12) dX12_inner_12 (v := 5) rfl ?_
    refine ea_icmp_ne (pc := 13) (tgt := 21) dX12_inner_13 rfl (fun c1 => ?_) (fun c1 => ?_)
    · have H := H.1 c1
      refine ea_sipush (pc := 21) dX12_inner_21 (v := 9999) rfl ?_
      exact H
    · have H := H.2 c1
      refine ea_bipush (pc := 16) dX12_inner_16 (v := 99) rfl ?_
      refine ea_goto (pc := 18) (tgt := 24) dX12_inner_18 rfl ?_
      exact H
  · have H := H.2 c8
    refine ea_aload_n (pc := 5) dX12_inner_5 rfl 0 rfl ?_
    obtain ⟨d2, xc6, h3, m4, q5, hs_h3, H⟩ := H
    refine ea_callV (pc := 6) (As := []) (st := []) dX12_inner_6 kX12_aCharge m4 q5 rfl (Nat.le_of_ble_eq_true rfl) ew_1922 ew_1924 ew_70 (ci := 12) rfl (by decide) (hs_h.1 0 (by decide)).1 (hs_h.1 0 (by decide)).2.1 ?_
    obtain ⟨z7, rfl, rfl⟩ := H
    exact ea_ireturn (pc := 9) dX12_inner_9 rfl (ea_bn z7)
theorem pX12_inner_24 {d b0 : Nat} {h0 hE h : ea_H} {rv : Option ea_V} {x1 : Int32} {sx0 : Int32} {sr1 : Option Nat} (hd : 1 ≤ d) (hs_h : ShM b0 h) (H : ∃ a7, sr1 = some a7 ∧ a7 < ea_n h ∧ ea_c h a7 = 12 ∧ ∃ (d1 : Nat) (xc9 : Int32) (h2 : ea_H), ea_Met mX12_aNumber d1 [vR (some a7), vI sx0] h (some (vI xc9)) h2 ∧ d1 + 1 ≤ d ∧ ShM b0 h2 ∧ (¬ xc9 = (0 : Int32) → (¬ x1 = (4 : Int32) → ea_W mX12_inner d h0 rv hE 76 [(0, vR (some (b0 + 0))), (1, vI x1)] [] h2) ∧ (x1 = (4 : Int32) → ∃ (d10 : Nat) (xc14 : Int32) (h11 : ea_H), ea_Met mX12_need d10 [vR (some (b0 + 0)), vI 9] h2 (some (vI xc14)) h11 ∧ d10 + 1 ≤ d ∧ ShM b0 h11 ∧ (xc14 = (0 : Int32) → rv = some (vI 0) ∧ hE = h11) ∧ (¬ xc14 = (0 : Int32) → ∃ (d15 : Nat) (xc19 : Int32) (h16 : ea_H), ea_Met mX12_aNumber d15 [vR (some (b0 + 0)), vI 1439] h11 (some (vI xc19)) h16 ∧ d15 + 1 ≤ d ∧ ShM b0 h16 ∧ (¬ xc19 = (0 : Int32) → ∀ h20, h20 = ea_wi h16 (b0 + 0) 46 (ea_i h2 (b0 + 0) 61) → ∀ h22, h22 = ea_wi h20 (b0 + 0) 47 (ea_i h20 (b0 + 0) 61) → ea_W mX12_inner d h0 rv hE 76 [(0, vR (some (b0 + 0))), (1, vI x1)] [] h22) ∧ (xc19 = (0 : Int32) → rv = some (vI 0) ∧ hE = h16)))) ∧ (xc9 = (0 : Int32) → rv = some (vI 0) ∧ hE = h2)) : ea_W mX12_inner d h0 rv hE 24 [(0, vR (some (b0 + 0))), (1, vI x1)] [vI sx0, vR sr1] h := by
  obtain ⟨a7, e8, f5, g6, H⟩ := H
  refine ea_deref1 e8 ?_
  obtain ⟨d1, xc9, h2, m3, q4, hs_h2, H⟩ := H
  refine ea_callV (pc := 24) (As := [vI sx0]) (st := []) dX12_inner_24 kX12_aNumber m3 q4 rfl (Nat.le_of_ble_eq_true rfl) ew_1962 ew_1964 ew_80 (ci := 12) rfl (by decide) f5 g6 ?_
  refine ea_if_ne (pc := 27) (tgt := 32) dX12_inner_27 rfl (fun c27 => ?_) (fun c27 => ?_)
  · have H := H.1 c27
    refine ea_iload_n (pc := 32) dX12_inner_32 rfl 1 rfl ?_
    refine ea_iconst (pc := 33) dX12_inner_33 (v := 4) rfl ?_
    refine ea_icmp_ne (pc := 34) (tgt := 76) dX12_inner_34 rfl (fun c26 => ?_) (fun c26 => ?_)
    · have H := H.1 c26
      exact H
    · have H := H.2 c26
      refine ea_aload_n (pc := 37) dX12_inner_37 rfl 0 rfl ?_
      refine ea_getI (pc := 38) dX12_inner_38 ec_12 (k := 61) (Nat.le_of_ble_eq_true rfl) rfl (Or.inl ew_1406) (hs_h2.1 0 (by decide)).1 (hs_h2.1 0 (by decide)).2.1 ?_
      refine ea_istore_n (pc := 41) (lv' := [(0, vR (some (b0 + 0))), (1, vI x1), (2, vI (ea_i h2 (b0 + 0) 61))]) dX12_inner_41 rfl (Nat.le_of_ble_eq_true rfl) [1, 2, 0] rfl ?_
      refine ea_aload_n (pc := 42) dX12_inner_42 rfl 0 rfl ?_
      refine ea_bipush (pc := 43) dX12_inner_43 (v := 9) rfl ?_
      obtain ⟨d10, xc14, h11, m12, q13, hs_h11, H⟩ := H
      refine ea_callV (pc := 45) (As := [vI 9]) (st := []) dX12_inner_45 kX12_need m12 q13 rfl (Nat.le_of_ble_eq_true rfl) ew_1942 ew_1944 ew_75 (ci := 12) rfl (by decide) (hs_h2.1 0 (by decide)).1 (hs_h2.1 0 (by decide)).2.1 ?_
      refine ea_if_eq (pc := 48) (tgt := 61) dX12_inner_48 rfl (fun c25 => ?_) (fun c25 => ?_)
      · have H := H.1 c25
        refine ea_iconst (pc := 61) dX12_inner_61 (v := 0) rfl ?_
        obtain ⟨rfl, rfl⟩ := H
        exact ea_ireturn (pc := 62) dX12_inner_62 rfl (ea_bn (Or.inl rfl))
      · have H := H.2 c25
        refine ea_aload_n (pc := 51) dX12_inner_51 rfl 0 rfl ?_
        refine ea_sipush (pc := 52) dX12_inner_52 (v := 1439) rfl ?_
        obtain ⟨d15, xc19, h16, m17, q18, hs_h16, H⟩ := H
        refine ea_callV (pc := 55) (As := [vI 1439]) (st := []) dX12_inner_55 kX12_aNumber m17 q18 rfl (Nat.le_of_ble_eq_true rfl) ew_1962 ew_1964 ew_80 (ci := 12) rfl (by decide) (hs_h11.1 0 (by decide)).1 (hs_h11.1 0 (by decide)).2.1 ?_
        refine ea_if_ne (pc := 58) (tgt := 63) dX12_inner_58 rfl (fun c24 => ?_) (fun c24 => ?_)
        · have H := H.1 c24
          refine ea_aload_n (pc := 63) dX12_inner_63 rfl 0 rfl ?_
          refine ea_iload_n (pc := 64) dX12_inner_64 rfl 2 rfl ?_
          refine ea_putI (pc := 65) dX12_inner_65 ec_12 (k := 46) (Nat.le_of_ble_eq_true rfl) rfl (Or.inl ⟨rfl, Or.inl ew_1391⟩) rfl rfl (hs_h16.1 0 (by decide)).1 (hs_h16.1 0 (by decide)).2.1 ?_
          obtain ⟨h20, E21⟩ : ∃ z, z = ea_wi h16 (b0 + 0) 46 (ea_i h2 (b0 + 0) 61) := ⟨_, rfl⟩
          have H := H h20 E21
          refine ea_nm E21 ?_
          have hs_h20 : ShM b0 h20 := by rw [E21]; exact ShM_wi hs_h16
          refine ea_aload_n (pc := 68) dX12_inner_68 rfl 0 rfl ?_
          refine ea_aload_n (pc := 69) dX12_inner_69 rfl 0 rfl ?_
          refine ea_getI (pc := 70) dX12_inner_70 ec_12 (k := 61) (Nat.le_of_ble_eq_true rfl) rfl (Or.inl ew_1406) (hs_h20.1 0 (by decide)).1 (hs_h20.1 0 (by decide)).2.1 ?_
          refine ea_putI (pc := 73) dX12_inner_73 ec_12 (k := 47) (Nat.le_of_ble_eq_true rfl) rfl (Or.inl ⟨rfl, Or.inl ew_1392⟩) rfl rfl (hs_h20.1 0 (by decide)).1 (hs_h20.1 0 (by decide)).2.1 ?_
          obtain ⟨h22, E23⟩ : ∃ z, z = ea_wi h20 (b0 + 0) 47 (ea_i h20 (b0 + 0) 61) := ⟨_, rfl⟩
          have H := H h22 E23
          refine ea_nm E23 ?_
          have hs_h22 : ShM b0 h22 := by rw [E23]; exact ShM_wi hs_h20
          exact ea_fewer [0, 1] rfl H
        · have H := H.2 c24
          refine ea_iconst (pc := 61) dX12_inner_61 (v := 0) rfl ?_
          obtain ⟨rfl, rfl⟩ := H
          exact ea_ireturn (pc := 62) dX12_inner_62 rfl (ea_bn (Or.inl rfl))
  · have H := H.2 c27
    refine ea_iconst (pc := 30) dX12_inner_30 (v := 0) rfl ?_
    obtain ⟨rfl, rfl⟩ := H
    exact ea_ireturn (pc := 31) dX12_inner_31 rfl (ea_bn (Or.inl rfl))
theorem pX12_inner_76 {d b0 : Nat} {h0 hE h : ea_H} {rv : Option ea_V} {x1 : Int32} (hd : 1 ≤ d) (hs_h : ShM b0 h) (H : (¬ x1 = (5 : Int32) → ea_W mX12_inner d h0 rv hE 89 [(0, vR (some (b0 + 0))), (1, vI x1)] [] h) ∧ (x1 = (5 : Int32) → ∀ h1, h1 = ea_wi h (b0 + 0) 48 (ea_i h (b0 + 0) 61) → ea_W mX12_inner d h0 rv hE 89 [(0, vR (some (b0 + 0))), (1, vI x1)] [] h1)) : ea_W mX12_inner d h0 rv hE 76 [(0, vR (some (b0 + 0))), (1, vI x1)] [] h := by
  refine ea_iload_n (pc := 76) dX12_inner_76 rfl 1 rfl ?_
  refine ea_iconst (pc := 77) dX12_inner_77 (v := 5) rfl ?_
  refine ea_icmp_ne (pc := 78) (tgt := 89) dX12_inner_78 rfl (fun c3 => ?_) (fun c3 => ?_)
  · have H := H.1 c3
    exact H
  · have H := H.2 c3
    refine ea_aload_n (pc := 81) dX12_inner_81 rfl 0 rfl ?_
    refine ea_aload_n (pc := 82) dX12_inner_82 rfl 0 rfl ?_
    refine ea_getI (pc := 83) dX12_inner_83 ec_12 (k := 61) (Nat.le_of_ble_eq_true rfl) rfl (Or.inl ew_1406) (hs_h.1 0 (by decide)).1 (hs_h.1 0 (by decide)).2.1 ?_
    refine ea_putI (pc := 86) dX12_inner_86 ec_12 (k := 48) (Nat.le_of_ble_eq_true rfl) rfl (Or.inl ⟨rfl, Or.inl ew_1393⟩) rfl rfl (hs_h.1 0 (by decide)).1 (hs_h.1 0 (by decide)).2.1 ?_
    obtain ⟨h1, E2⟩ : ∃ z, z = ea_wi h (b0 + 0) 48 (ea_i h (b0 + 0) 61) := ⟨_, rfl⟩
    have H := H h1 E2
    refine ea_nm E2 ?_
    have hs_h1 : ShM b0 h1 := by rw [E2]; exact ShM_wi hs_h
    exact H
theorem pX12_inner_89 {d b0 : Nat} {h0 hE h : ea_H} {rv : Option ea_V} {x1 : Int32} (hd : 1 ≤ d) (hs_h : ShM b0 h) (H : (¬ x1 = (6 : Int32) → ea_W mX12_inner d h0 rv hE 103 [(0, vR (some (b0 + 0))), (1, vI x1)] [] h) ∧ (x1 = (6 : Int32) → ∀ h1, h1 = ea_wi h (b0 + 0) 49 (ea_i h (b0 + 0) 61) → ea_W mX12_inner d h0 rv hE 103 [(0, vR (some (b0 + 0))), (1, vI x1)] [] h1)) : ea_W mX12_inner d h0 rv hE 89 [(0, vR (some (b0 + 0))), (1, vI x1)] [] h := by
  refine ea_iload_n (pc := 89) dX12_inner_89 rfl 1 rfl ?_
  refine ea_bipush (pc := 90) dX12_inner_90 (v := 6) rfl ?_
  refine ea_icmp_ne (pc := 92) (tgt := 103) dX12_inner_92 rfl (fun c3 => ?_) (fun c3 => ?_)
  · have H := H.1 c3
    exact H
  · have H := H.2 c3
    refine ea_aload_n (pc := 95) dX12_inner_95 rfl 0 rfl ?_
    refine ea_aload_n (pc := 96) dX12_inner_96 rfl 0 rfl ?_
    refine ea_getI (pc := 97) dX12_inner_97 ec_12 (k := 61) (Nat.le_of_ble_eq_true rfl) rfl (Or.inl ew_1406) (hs_h.1 0 (by decide)).1 (hs_h.1 0 (by decide)).2.1 ?_
    refine ea_putI (pc := 100) dX12_inner_100 ec_12 (k := 49) (Nat.le_of_ble_eq_true rfl) rfl (Or.inl ⟨rfl, Or.inl ew_1394⟩) rfl rfl (hs_h.1 0 (by decide)).1 (hs_h.1 0 (by decide)).2.1 ?_
    obtain ⟨h1, E2⟩ : ∃ z, z = ea_wi h (b0 + 0) 49 (ea_i h (b0 + 0) 61) := ⟨_, rfl⟩
    have H := H h1 E2
    refine ea_nm E2 ?_
    have hs_h1 : ShM b0 h1 := by rw [E2]; exact ShM_wi hs_h
    exact H
theorem pX12_inner_103 {d b0 : Nat} {h0 hE h : ea_H} {rv : Option ea_V} {x1 : Int32} (hd : 1 ≤ d) (hs_h : ShM b0 h) (H : (¬ x1 = (7 : Int32) → ea_W mX12_inner d h0 rv hE 117 [(0, vR (some (b0 + 0))), (1, vI x1)] [] h) ∧ (x1 = (7 : Int32) → ∀ h1, h1 = ea_wi h (b0 + 0) 50 (ea_i h (b0 + 0) 61) → ea_W mX12_inner d h0 rv hE 117 [(0, vR (some (b0 + 0))), (1, vI x1)] [] h1)) : ea_W mX12_inner d h0 rv hE 103 [(0, vR (some (b0 + 0))), (1, vI x1)] [] h := by
  refine ea_iload_n (pc := 103) dX12_inner_103 rfl 1 rfl ?_
  refine ea_bipush (pc := 104) dX12_inner_104 (v := 7) rfl ?_
  refine ea_icmp_ne (pc := 106) (tgt := 117) dX12_inner_106 rfl (fun c3 => ?_) (fun c3 => ?_)
  · have H := H.1 c3
    exact H
  · have H := H.2 c3
    refine ea_aload_n (pc := 109) dX12_inner_109 rfl 0 rfl ?_
    refine ea_aload_n (pc := 110) dX12_inner_110 rfl 0 rfl ?_
    refine ea_getI (pc := 111) dX12_inner_111 ec_12 (k := 61) (Nat.le_of_ble_eq_true rfl) rfl (Or.inl ew_1406) (hs_h.1 0 (by decide)).1 (hs_h.1 0 (by decide)).2.1 ?_
    refine ea_putI (pc := 114) dX12_inner_114 ec_12 (k := 50) (Nat.le_of_ble_eq_true rfl) rfl (Or.inl ⟨rfl, Or.inl ew_1395⟩) rfl rfl (hs_h.1 0 (by decide)).1 (hs_h.1 0 (by decide)).2.1 ?_
    obtain ⟨h1, E2⟩ : ∃ z, z = ea_wi h (b0 + 0) 50 (ea_i h (b0 + 0) 61) := ⟨_, rfl⟩
    have H := H h1 E2
    refine ea_nm E2 ?_
    have hs_h1 : ShM b0 h1 := by rw [E2]; exact ShM_wi hs_h
    exact H
theorem pX12_inner_117 {d b0 : Nat} {h0 hE h : ea_H} {rv : Option ea_V} {x1 : Int32} (hd : 1 ≤ d) (hs_h : ShM b0 h) (H : (¬ x1 = (8 : Int32) → rv = some (vI 1) ∧ hE = h) ∧ (x1 = (8 : Int32) → ∀ h1, h1 = ea_wi h (b0 + 0) 51 (ea_i h (b0 + 0) 61) → rv = some (vI 1) ∧ hE = h1)) : ea_W mX12_inner d h0 rv hE 117 [(0, vR (some (b0 + 0))), (1, vI x1)] [] h := by
  refine ea_iload_n (pc := 117) dX12_inner_117 rfl 1 rfl ?_
  refine ea_bipush (pc := 118) dX12_inner_118 (v := 8) rfl ?_
  refine ea_icmp_ne (pc := 120) (tgt := 131) dX12_inner_120 rfl (fun c3 => ?_) (fun c3 => ?_)
  · have H := H.1 c3
    refine ea_iconst (pc := 131) dX12_inner_131 (v := 1) rfl ?_
    obtain ⟨rfl, rfl⟩ := H
    exact ea_ireturn (pc := 132) dX12_inner_132 rfl (ea_bn (Or.inr rfl))
  · have H := H.2 c3
    refine ea_aload_n (pc := 123) dX12_inner_123 rfl 0 rfl ?_
    refine ea_aload_n (pc := 124) dX12_inner_124 rfl 0 rfl ?_
    refine ea_getI (pc := 125) dX12_inner_125 ec_12 (k := 61) (Nat.le_of_ble_eq_true rfl) rfl (Or.inl ew_1406) (hs_h.1 0 (by decide)).1 (hs_h.1 0 (by decide)).2.1 ?_
    refine ea_putI (pc := 128) dX12_inner_128 ec_12 (k := 51) (Nat.le_of_ble_eq_true rfl) rfl (Or.inl ⟨rfl, Or.inl ew_1396⟩) rfl rfl (hs_h.1 0 (by decide)).1 (hs_h.1 0 (by decide)).2.1 ?_
    obtain ⟨h1, E2⟩ : ∃ z, z = ea_wi h (b0 + 0) 51 (ea_i h (b0 + 0) 61) := ⟨_, rfl⟩
    have H := H h1 E2
    refine ea_nm E2 ?_
    have hs_h1 : ShM b0 h1 := by rw [E2]; exact ShM_wi hs_h
    refine ea_iconst (pc := 131) dX12_inner_131 (v := 1) rfl ?_
    obtain ⟨rfl, rfl⟩ := H
    exact ea_ireturn (pc := 132) dX12_inner_132 rfl (ea_bn (Or.inr rfl))
theorem pX12_aLine_0 {d b0 : Nat} {h0 hE h : ea_H} {rv : Option ea_V}  (hd : 2 ≤ d) (hs_h : ShM b0 h) (H : (¬ (vX12_isIn ((ea_i h (b0 + 0) 54) : Int32) (3 : Int32) (8 : Int32) h) = (0 : Int32) → (¬ (ea_i h (b0 + 0) 43) = (24 : Int32) → ∀ h46, h46 = ea_wi h (b0 + 0) 60 0 → ∃ (d48 : Nat) (h49 : ea_H), ea_Met mX12_next0 d48 [vR (some (b0 + 0))] h46 none h49 ∧ d48 + 1 ≤ d ∧ ShM b0 h49 ∧ ∃ (d52 : Nat) (xc56 : Int32) (h53 : ea_H), ea_Met mX12_inner d52 [vR (some (b0 + 0)), vI (ea_i h (b0 + 0) 54)] h49 (some (vI xc56)) h53 ∧ d52 + 1 ≤ d ∧ ShM b0 h53 ∧ (¬ xc56 = (0 : Int32) → ∀ h57, h57 = ea_wi h53 (b0 + 0) 43 ((ea_i h53 (b0 + 0) 43) + (1 : Int32)) → ∃ (d59 : Nat) (xc63 : Int32) (h60 : ea_H), ea_Met mX12_need d59 [vR (some (b0 + 0)), vI 59] h57 (some (vI xc63)) h60 ∧ d59 + 1 ≤ d ∧ ShM b0 h60 ∧ (xc63 = 0 ∨ xc63 = 1) ∧ rv = some (vI xc63) ∧ hE = h60) ∧ (xc56 = (0 : Int32) → rv = some (vI 0) ∧ hE = h53)) ∧ ((ea_i h (b0 + 0) 43) = (24 : Int32) → ∀ h67, h67 = (wX12_bad b0 (3 : Int32) h) → ((vX12_bad b0 (3 : Int32) h) = 0 ∨ (vX12_bad b0 (3 : Int32) h) = 1) ∧ rv = some (vI (vX12_bad b0 (3 : Int32) h)) ∧ hE = h67)) ∧ ((vX12_isIn ((ea_i h (b0 + 0) 54) : Int32) (3 : Int32) (8 : Int32) h) = (0 : Int32) → ∀ h77, h77 = (wX12_bad b0 (1 : Int32) h) → ((vX12_bad b0 (1 : Int32) h) = 0 ∨ (vX12_bad b0 (1 : Int32) h) = 1) ∧ rv = some (vI (vX12_bad b0 (1 : Int32) h)) ∧ hE = h77)) : ea_W mX12_aLine d h0 rv hE 0 [(0, vR (some (b0 + 0)))] [] h := by
  refine ea_aload_n (pc := 0) dX12_aLine_0 rfl 0 rfl ?_
  refine ea_getI (pc := 1) dX12_aLine_1 ec_12 (k := 54) (Nat.le_of_ble_eq_true rfl) rfl (Or.inl ew_1399) (hs_h.1 0 (by decide)).1 (hs_h.1 0 (by decide)).2.1 ?_
  refine ea_iconst (pc := 4) dX12_aLine_4 (v := 3) rfl ?_
  refine ea_bipush (pc := 5) dX12_aLine_5 (v := 8) rfl ?_
  refine ea_callS (pc := 7) (d' := d - 1) (As := [vI (ea_i h (b0 + 0) 54), vI 3, vI 8]) (st := []) dX12_aLine_7 kX12_isIn (sX12_isIn (d := d - 1) (by omega)) (by omega) rfl (Nat.le_of_ble_eq_true rfl) ew_1712 ew_1713 ?_
  refine ea_if_ne (pc := 10) (tgt := 19) dX12_aLine_10 rfl (fun c85 => ?_) (fun c85 => ?_)
  · have H := H.1 c85
    refine ea_aload_n (pc := 19) dX12_aLine_19 rfl 0 rfl ?_
    refine ea_getI (pc := 20) dX12_aLine_20 ec_12 (k := 43) (Nat.le_of_ble_eq_true rfl) rfl (Or.inl ew_1388) (hs_h.1 0 (by decide)).1 (hs_h.1 0 (by decide)).2.1 ?_
    refine ea_bipush (pc := 23) dX12_aLine_23 (v := 24) rfl ?_
    refine ea_icmp_ne (pc := 25) (tgt := 34) dX12_aLine_25 rfl (fun c75 => ?_) (fun c75 => ?_)
    · have H := H.1 c75
      refine ea_aload_n (pc := 34) dX12_aLine_34 rfl 0 rfl ?_
      refine ea_getI (pc := 35) dX12_aLine_35 ec_12 (k := 54) (Nat.le_of_ble_eq_true rfl) rfl (Or.inl ew_1399) (hs_h.1 0 (by decide)).1 (hs_h.1 0 (by decide)).2.1 ?_
      refine ea_istore_n (pc := 38) (lv' := [(0, vR (some (b0 + 0))), (1, vI (ea_i h (b0 + 0) 54))]) dX12_aLine_38 rfl (Nat.le_of_ble_eq_true rfl) [1, 0] rfl ?_
      refine ea_aload_n (pc := 39) dX12_aLine_39 rfl 0 rfl ?_
      refine ea_iconst (pc := 40) dX12_aLine_40 (v := 0) rfl ?_
      refine ea_putI (pc := 41) dX12_aLine_41 ec_12 (k := 60) (Nat.le_of_ble_eq_true rfl) rfl (Or.inl ⟨rfl, Or.inl ew_1405⟩) rfl rfl (hs_h.1 0 (by decide)).1 (hs_h.1 0 (by decide)).2.1 ?_
      obtain ⟨h46, E47⟩ : ∃ z, z = ea_wi h (b0 + 0) 60 0 := ⟨_, rfl⟩
      have H := H h46 E47
      refine ea_nm E47 ?_
      have hs_h46 : ShM b0 h46 := by rw [E47]; exact ShM_wi hs_h
      refine ea_aload_n (pc := 44) dX12_aLine_44 rfl 0 rfl ?_
      obtain ⟨d48, h49, m50, q51, hs_h49, H⟩ := H
      refine ea_callV (pc := 45) (As := []) (st := []) dX12_aLine_45 kX12_next0 m50 q51 rfl (Nat.le_of_ble_eq_true rfl) ew_1822 ew_1824 ew_63 (ci := 12) rfl (by decide) (hs_h46.1 0 (by decide)).1 (hs_h46.1 0 (by decide)).2.1 ?_
      refine ea_aload_n (pc := 48) dX12_aLine_48 rfl 0 rfl ?_
      refine ea_iload_n (pc := 49) dX12_aLine_49 rfl 1 rfl ?_
      obtain ⟨d52, xc56, h53, m54, q55, hs_h53, H⟩ := H
      refine ea_callV (pc := 50) (As := [vI (ea_i h (b0 + 0) 54)]) (st := []) dX12_aLine_50 kX12_inner m54 q55 rfl (Nat.le_of_ble_eq_true rfl) ew_1918 ew_1920 ew_69 (ci := 12) rfl (by decide) (hs_h49.1 0 (by decide)).1 (hs_h49.1 0 (by decide)).2.1 ?_
      refine ea_if_ne (pc := 53) (tgt := 58) dX12_aLine_53 rfl (fun c65 => ?_) (fun c65 => ?_)
      · have H := H.1 c65
        refine ea_aload_n (pc := 58) dX12_aLine_58 rfl 0 rfl ?_
        refine ea_dup (pc := 59) dX12_aLine_59 rfl ?_
        refine ea_getI (pc := 60) dX12_aLine_60 ec_12 (k := 43) (Nat.le_of_ble_eq_true rfl) rfl (Or.inl ew_1388) (hs_h53.1 0 (by decide)).1 (hs_h53.1 0 (by decide)).2.1 ?_
        refine ea_iconst (pc := 63) dX12_aLine_63 (v := 1) rfl ?_
        refine ea_iadd (pc := 64) dX12_aLine_64 ?_
        refine ea_putI (pc := 65) dX12_aLine_65 ec_12 (k := 43) (Nat.le_of_ble_eq_true rfl) rfl (Or.inl ⟨rfl, Or.inl ew_1388⟩) rfl rfl (hs_h53.1 0 (by decide)).1 (hs_h53.1 0 (by decide)).2.1 ?_
        obtain ⟨h57, E58⟩ : ∃ z, z = ea_wi h53 (b0 + 0) 43 ((ea_i h53 (b0 + 0) 43) + (1 : Int32)) := ⟨_, rfl⟩
        have H := H h57 E58
        refine ea_nm E58 ?_
        have hs_h57 : ShM b0 h57 := by rw [E58]; exact ShM_wi hs_h53
        refine ea_aload_n (pc := 68) dX12_aLine_68 rfl 0 rfl ?_
        refine ea_bipush (pc := 69) dX12_aLine_69 (v := 59) rfl ?_
        obtain ⟨d59, xc63, h60, m61, q62, hs_h60, H⟩ := H
        refine ea_callV (pc := 71) (As := [vI 59]) (st := []) dX12_aLine_71 kX12_need m61 q62 rfl (Nat.le_of_ble_eq_true rfl) ew_1942 ew_1944 ew_75 (ci := 12) rfl (by decide) (hs_h57.1 0 (by decide)).1 (hs_h57.1 0 (by decide)).2.1 ?_
        obtain ⟨z64, rfl, rfl⟩ := H
        exact ea_ireturn (pc := 74) dX12_aLine_74 rfl (ea_bn z64)
      · have H := H.2 c65
        refine ea_iconst (pc := 56) dX12_aLine_56 (v := 0) rfl ?_
        obtain ⟨rfl, rfl⟩ := H
        exact ea_ireturn (pc := 57) dX12_aLine_57 rfl (ea_bn (Or.inl rfl))
    · have H := H.2 c75
      refine ea_aload_n (pc := 28) dX12_aLine_28 rfl 0 rfl ?_
      refine ea_iconst (pc := 29) dX12_aLine_29 (v := 3) rfl ?_
      refine ea_callV (pc := 30) (d' := d - 1) (As := [vI 3]) (st := []) dX12_aLine_30 kX12_bad (sX12_bad (d := d - 1) (by omega) hs_h) (by omega) rfl (Nat.le_of_ble_eq_true rfl) ew_1914 ew_1916 ew_68 (ci := 12) rfl (by decide) (hs_h.1 0 (by decide)).1 (hs_h.1 0 (by decide)).2.1 ?_
      obtain ⟨h67, E74⟩ : ∃ z, z = (wX12_bad b0 (3 : Int32) h) := ⟨_, rfl⟩
      have H := H h67 E74
      refine ea_nm E74 ?_
      have hs_h67 : ShM b0 h67 := by rw [E74]; exact shX12_bad hs_h
      obtain ⟨z72, rfl, rfl⟩ := H
      exact ea_ireturn (pc := 33) dX12_aLine_33 rfl (ea_bn z72)
  · have H := H.2 c85
    refine ea_aload_n (pc := 13) dX12_aLine_13 rfl 0 rfl ?_
    refine ea_iconst (pc := 14) dX12_aLine_14 (v := 1) rfl ?_
    refine ea_callV (pc := 15) (d' := d - 1) (As := [vI 1]) (st := []) dX12_aLine_15 kX12_bad (sX12_bad (d := d - 1) (by omega) hs_h) (by omega) rfl (Nat.le_of_ble_eq_true rfl) ew_1914 ew_1916 ew_68 (ci := 12) rfl (by decide) (hs_h.1 0 (by decide)).1 (hs_h.1 0 (by decide)).2.1 ?_
    obtain ⟨h77, E84⟩ : ∃ z, z = (wX12_bad b0 (1 : Int32) h) := ⟨_, rfl⟩
    have H := H h77 E84
    refine ea_nm E84 ?_
    have hs_h77 : ShM b0 h77 := by rw [E84]; exact shX12_bad hs_h
    obtain ⟨z82, rfl, rfl⟩ := H
    exact ea_ireturn (pc := 18) dX12_aLine_18 rfl (ea_bn z82)
set_option maxRecDepth 100000 in
set_option maxHeartbeats 4000000 in
theorem pX12_act_0 {d b0 : Nat} {h0 hE h : ea_H} {rv : Option ea_V} {x1 : Int32} (hd : 3 ≤ d) (hs_h : ShM b0 h) (H : ∀ h1, h1 = ea_wi h (b0 + 0) 59 0 → ∀ h3, h3 = ea_wi h1 (b0 + 0) 62 (-1) → ((vX12_isDay (x1 : Int32) h3) = (0 : Int32) → ∀ h21, h21 = ea_wi h3 (b0 + 0) 52 0 → rv = some (vI (-1)) ∧ hE = h21) ∧ (¬ (vX12_isDay (x1 : Int32) h3) = (0 : Int32) → ((ea_i h3 (b0 + 0) 25) = (6 : Int32) → ∀ h23, h23 = ea_wi h3 (b0 + 0) 52 0 → rv = some (vI (-1)) ∧ hE = h23) ∧ (¬ (ea_i h3 (b0 + 0) 25) = (6 : Int32) → ((ea_i h3 (b0 + 0) 25) ≤ (0 : Int32) → ea_W mX12_act d h0 rv hE 55 [(0, vR (some (b0 + 0))), (1, vI x1)] [] h3) ∧ (¬ (ea_i h3 (b0 + 0) 25) ≤ (0 : Int32) → vp_in ((ea_i h3 (b0 + 0) 25) - (1 : Int32)) 6 ∧ ((ea_i h3 (b0 + 21) (Int32.toNatClampNeg ((ea_i h3 (b0 + 0) 25) - (1 : Int32)))) ≤ x1 → ea_W mX12_act d h0 rv hE 55 [(0, vR (some (b0 + 0))), (1, vI x1)] [] h3) ∧ (¬ (ea_i h3 (b0 + 21) (Int32.toNatClampNeg ((ea_i h3 (b0 + 0) 25) - (1 : Int32)))) ≤ x1 → ∀ h26, h26 = ea_wi h3 (b0 + 0) 52 0 → rv = some (vI (-1)) ∧ hE = h26))))) : ea_W mX12_act d h0 rv hE 0 [(0, vR (some (b0 + 0))), (1, vI x1)] [] h := by
  refine ea_aload_n (pc := 0) dX12_act_0 rfl 0 rfl ?_
  refine ea_iconst (pc := 1) dX12_act_1 (v := 0) rfl ?_
  refine ea_putI (pc := 2) dX12_act_2 ec_12 (k := 59) (Nat.le_of_ble_eq_true rfl) rfl (Or.inl ⟨rfl, Or.inl ew_1404⟩) rfl rfl (hs_h.1 0 (by decide)).1 (hs_h.1 0 (by decide)).2.1 ?_
  obtain ⟨h1, E2⟩ : ∃ z, z = ea_wi h (b0 + 0) 59 0 := ⟨_, rfl⟩
  have H := H h1 E2
  refine ea_nm E2 ?_
  have hs_h1 : ShM b0 h1 := by rw [E2]; exact ShM_wi hs_h
  refine ea_aload_n (pc := 5) dX12_act_5 rfl 0 rfl ?_
  refine ea_iconst (pc := 6) dX12_act_6 (v := (-1)) rfl ?_
  refine ea_putI (pc := 7) dX12_act_7 ec_12 (k := 62) (Nat.le_of_ble_eq_true rfl) rfl (Or.inl ⟨rfl, Or.inl ew_1407⟩) rfl rfl (hs_h1.1 0 (by decide)).1 (hs_h1.1 0 (by decide)).2.1 ?_
  obtain ⟨h3, E4⟩ : ∃ z, z = ea_wi h1 (b0 + 0) 62 (-1) := ⟨_, rfl⟩
  have H := H h3 E4
  refine ea_nm E4 ?_
  have hs_h3 : ShM b0 h3 := by rw [E4]; exact ShM_wi hs_h1
  refine ea_iload_n (pc := 10) dX12_act_10 rfl 1 rfl ?_
  refine ea_callS (pc := 11) (d' := d - 1) (As := [vI x1]) (st := []) dX12_act_11 kX12_isDay (sX12_isDay (d := d - 1) (by omega)) (by omega) rfl (Nat.le_of_ble_eq_true rfl) ew_1752 ew_1753 ?_
  refine ea_if_eq (pc := 14) (tgt := 48) dX12_act_14 rfl (fun c31 => ?_) (fun c31 => ?_)
  · have H := H.1 c31
    refine ea_aload_n (pc := 48) dX12_act_48 rfl 0 rfl ?_
    refine ea_iconst (pc := 49) dX12_act_49 (v := 0) rfl ?_
    refine ea_putI (pc := 50) dX12_act_50 ec_12 (k := 52) (Nat.le_of_ble_eq_true rfl) rfl (Or.inl ⟨rfl, Or.inl ew_1397⟩) rfl rfl (hs_h3.1 0 (by decide)).1 (hs_h3.1 0 (by decide)).2.1 ?_
    obtain ⟨h21, E22⟩ : ∃ z, z = ea_wi h3 (b0 + 0) 52 0 := ⟨_, rfl⟩
    have H := H h21 E22
    refine ea_nm E22 ?_
    have hs_h21 : ShM b0 h21 := by rw [E22]; exact ShM_wi hs_h3
    refine ea_iconst (pc := 53) dX12_act_53 (v := (-1)) rfl ?_
    obtain ⟨rfl, rfl⟩ := H
    exact ea_ireturn (pc := 54) dX12_act_54 rfl rfl
  · have H := H.2 c31
    refine ea_aload_n (pc := 17) dX12_act_17 rfl 0 rfl ?_
    refine ea_getI (pc := 18) dX12_act_18 ec_12 (k := 25) (Nat.le_of_ble_eq_true rfl) rfl (Or.inl ew_1370) (hs_h3.1 0 (by decide)).1 (hs_h3.1 0 (by decide)).2.1 ?_
    refine ea_bipush (pc := 21) dX12_act_21 (v := 6) rfl ?_
    refine ea_icmp_eq (pc := 23) (tgt := 48) dX12_act_23 rfl (fun c30 => ?_) (fun c30 => ?_)
    · have H := H.1 c30
      refine ea_aload_n (pc := 48) dX12_act_48 rfl 0 rfl ?_
      refine ea_iconst (pc := 49) dX12_act_49 (v := 0) rfl ?_
      refine ea_putI (pc := 50) dX12_act_50 ec_12 (k := 52) (Nat.le_of_ble_eq_true rfl) rfl (Or.inl ⟨rfl, Or.inl ew_1397⟩) rfl rfl (hs_h3.1 0 (by decide)).1 (hs_h3.1 0 (by decide)).2.1 ?_
      obtain ⟨h23, E24⟩ : ∃ z, z = ea_wi h3 (b0 + 0) 52 0 := ⟨_, rfl⟩
      have H := H h23 E24
      refine ea_nm E24 ?_
      have hs_h23 : ShM b0 h23 := by rw [E24]; exact ShM_wi hs_h3
      refine ea_iconst (pc := 53) dX12_act_53 (v := (-1)) rfl ?_
      obtain ⟨rfl, rfl⟩ := H
      exact ea_ireturn (pc := 54) dX12_act_54 rfl rfl
    · have H := H.2 c30
      refine ea_aload_n (pc := 26) dX12_act_26 rfl 0 rfl ?_
      refine ea_getI (pc := 27) dX12_act_27 ec_12 (k := 25) (Nat.le_of_ble_eq_true rfl) rfl (Or.inl ew_1370) (hs_h3.1 0 (by decide)).1 (hs_h3.1 0 (by decide)).2.1 ?_
      refine ea_if_le (pc := 30) (tgt := 55) dX12_act_30 rfl (fun c29 => ?_) (fun c29 => ?_)
      · have H := H.1 c29
        exact H
      · have H := H.2 c29
        refine ea_iload_n (pc := 33) dX12_act_33 rfl 1 rfl ?_
        refine ea_aload_n (pc := 34) dX12_act_34 rfl 0 rfl ?_
        refine ea_getR (pc := 35) dX12_act_35 ec_12 (k := 26) (Nat.le_of_ble_eq_true rfl) rfl (Or.inl ew_1371) (hs_h3.1 0 (by decide)).1 (hs_h3.1 0 (by decide)).2.1 (hs_h3.2 0 26 rfl) ?_
        refine ea_aload_n (pc := 38) dX12_act_38 rfl 0 rfl ?_
        refine ea_getI (pc := 39) dX12_act_39 ec_12 (k := 25) (Nat.le_of_ble_eq_true rfl) rfl (Or.inl ew_1370) (hs_h3.1 0 (by decide)).1 (hs_h3.1 0 (by decide)).2.1 ?_
        refine ea_iconst (pc := 42) dX12_act_42 (v := 1) rfl ?_
        refine ea_isub (pc := 43) dX12_act_43 ?_
        obtain ⟨z25, H⟩ := H
        refine ea_iald (pc := 44) dX12_act_44 (hs_h3.1 21 (by decide)).1 (hs_h3.1 21 (by decide)).2.1 (ea_vpl (hs_h3.1 21 (by decide)).2.2 z25) ?_
        refine ea_icmp_ge (pc := 45) (tgt := 55) dX12_act_45 rfl (fun c28 => ?_) (fun c28 => ?_)
        · have H := H.1 c28
          exact H
        · have H := H.2 c28
          refine ea_aload_n (pc := 48) dX12_act_48 rfl 0 rfl ?_
          refine ea_iconst (pc := 49) dX12_act_49 (v := 0) rfl ?_
          refine ea_putI (pc := 50) dX12_act_50 ec_12 (k := 52) (Nat.le_of_ble_eq_true rfl) rfl (Or.inl ⟨rfl, Or.inl ew_1397⟩) rfl rfl (hs_h3.1 0 (by decide)).1 (hs_h3.1 0 (by decide)).2.1 ?_
          obtain ⟨h26, E27⟩ : ∃ z, z = ea_wi h3 (b0 + 0) 52 0 := ⟨_, rfl⟩
          have H := H h26 E27
          refine ea_nm E27 ?_
          have hs_h26 : ShM b0 h26 := by rw [E27]; exact ShM_wi hs_h3
          refine ea_iconst (pc := 53) dX12_act_53 (v := (-1)) rfl ?_
          obtain ⟨rfl, rfl⟩ := H
          exact ea_ireturn (pc := 54) dX12_act_54 rfl rfl
set_option maxRecDepth 100000 in
set_option maxHeartbeats 4000000 in
theorem pX12_act_55 {d b0 : Nat} {h0 hE h : ea_H} {rv : Option ea_V} {x1 : Int32} (hd : 3 ≤ d) (hs_h : ShM b0 h) (H : ∀ h1, h1 = ea_wi h (b0 + 0) 57 0 → ∀ h3, h3 = ea_wi h1 (b0 + 0) 53 0 → ∀ h5, h5 = ea_wi h3 (b0 + 0) 43 0 → ∀ h7, h7 = ea_wi h5 (b0 + 0) 44 0 → ∀ h9, h9 = ea_wi h7 (b0 + 0) 45 0 → ∀ h11, h11 = ea_wi h9 (b0 + 0) 46 0 → ∀ h13, h13 = ea_wi h11 (b0 + 0) 47 1439 → ∀ h15, h15 = ea_wi h13 (b0 + 0) 48 0 → ∀ h17, h17 = ea_wi h15 (b0 + 0) 49 0 → ∀ h19, h19 = ea_wi h17 (b0 + 0) 50 0 → ∀ h21, h21 = ea_wi h19 (b0 + 0) 51 3 → ∃ (d23 : Nat) (h24 : ea_H), ea_Met mX12_next0 d23 [vR (some (b0 + 0))] h21 none h24 ∧ d23 + 1 ≤ d ∧ ShM b0 h24 ∧ ea_W mX12_act d h0 rv hE 118 [(0, vR (some (b0 + 0))), (1, vI x1), (2, vI 1)] [] h24) : ea_W mX12_act d h0 rv hE 55 [(0, vR (some (b0 + 0))), (1, vI x1)] [] h := by
  refine ea_aload_n (pc := 55) dX12_act_55 rfl 0 rfl ?_
  refine ea_iconst (pc := 56) dX12_act_56 (v := 0) rfl ?_
  refine ea_putI (pc := 57) dX12_act_57 ec_12 (k := 57) (Nat.le_of_ble_eq_true rfl) rfl (Or.inl ⟨rfl, Or.inl ew_1402⟩) rfl rfl (hs_h.1 0 (by decide)).1 (hs_h.1 0 (by decide)).2.1 ?_
  obtain ⟨h1, E2⟩ : ∃ z, z = ea_wi h (b0 + 0) 57 0 := ⟨_, rfl⟩
  have H := H h1 E2
  refine ea_nm E2 ?_
  have hs_h1 : ShM b0 h1 := by rw [E2]; exact ShM_wi hs_h
  refine ea_aload_n (pc := 60) dX12_act_60 rfl 0 rfl ?_
  refine ea_iconst (pc := 61) dX12_act_61 (v := 0) rfl ?_
  refine ea_putI (pc := 62) dX12_act_62 ec_12 (k := 53) (Nat.le_of_ble_eq_true rfl) rfl (Or.inl ⟨rfl, Or.inl ew_1398⟩) rfl rfl (hs_h1.1 0 (by decide)).1 (hs_h1.1 0 (by decide)).2.1 ?_
  obtain ⟨h3, E4⟩ : ∃ z, z = ea_wi h1 (b0 + 0) 53 0 := ⟨_, rfl⟩
  have H := H h3 E4
  refine ea_nm E4 ?_
  have hs_h3 : ShM b0 h3 := by rw [E4]; exact ShM_wi hs_h1
  refine ea_aload_n (pc := 65) dX12_act_65 rfl 0 rfl ?_
  refine ea_iconst (pc := 66) dX12_act_66 (v := 0) rfl ?_
  refine ea_putI (pc := 67) dX12_act_67 ec_12 (k := 43) (Nat.le_of_ble_eq_true rfl) rfl (Or.inl ⟨rfl, Or.inl ew_1388⟩) rfl rfl (hs_h3.1 0 (by decide)).1 (hs_h3.1 0 (by decide)).2.1 ?_
  obtain ⟨h5, E6⟩ : ∃ z, z = ea_wi h3 (b0 + 0) 43 0 := ⟨_, rfl⟩
  have H := H h5 E6
  refine ea_nm E6 ?_
  have hs_h5 : ShM b0 h5 := by rw [E6]; exact ShM_wi hs_h3
  refine ea_aload_n (pc := 70) dX12_act_70 rfl 0 rfl ?_
  refine ea_iconst (pc := 71) dX12_act_71 (v := 0) rfl ?_
  refine ea_putI (pc := 72) dX12_act_72 ec_12 (k := 44) (Nat.le_of_ble_eq_true rfl) rfl (Or.inl ⟨rfl, Or.inl ew_1389⟩) rfl rfl (hs_h5.1 0 (by decide)).1 (hs_h5.1 0 (by decide)).2.1 ?_
  obtain ⟨h7, E8⟩ : ∃ z, z = ea_wi h5 (b0 + 0) 44 0 := ⟨_, rfl⟩
  have H := H h7 E8
  refine ea_nm E8 ?_
  have hs_h7 : ShM b0 h7 := by rw [E8]; exact ShM_wi hs_h5
  refine ea_aload_n (pc := 75) dX12_act_75 rfl 0 rfl ?_
  refine ea_iconst (pc := 76) dX12_act_76 (v := 0) rfl ?_
  refine ea_putI (pc := 77) dX12_act_77 ec_12 (k := 45) (Nat.le_of_ble_eq_true rfl) rfl (Or.inl ⟨rfl, Or.inl ew_1390⟩) rfl rfl (hs_h7.1 0 (by decide)).1 (hs_h7.1 0 (by decide)).2.1 ?_
  obtain ⟨h9, E10⟩ : ∃ z, z = ea_wi h7 (b0 + 0) 45 0 := ⟨_, rfl⟩
  have H := H h9 E10
  refine ea_nm E10 ?_
  have hs_h9 : ShM b0 h9 := by rw [E10]; exact ShM_wi hs_h7
  refine ea_aload_n (pc := 80) dX12_act_80 rfl 0 rfl ?_
  refine ea_iconst (pc := 81) dX12_act_81 (v := 0) rfl ?_
  refine ea_putI (pc := 82) dX12_act_82 ec_12 (k := 46) (Nat.le_of_ble_eq_true rfl) rfl (Or.inl ⟨rfl, Or.inl ew_1391⟩) rfl rfl (hs_h9.1 0 (by decide)).1 (hs_h9.1 0 (by decide)).2.1 ?_
  obtain ⟨h11, E12⟩ : ∃ z, z = ea_wi h9 (b0 + 0) 46 0 := ⟨_, rfl⟩
  have H := H h11 E12
  refine ea_nm E12 ?_
  have hs_h11 : ShM b0 h11 := by rw [E12]; exact ShM_wi hs_h9
  refine ea_aload_n (pc := 85) dX12_act_85 rfl 0 rfl ?_
  refine ea_sipush (pc := 86) dX12_act_86 (v := 1439) rfl ?_
  refine ea_putI (pc := 89) dX12_act_89 ec_12 (k := 47) (Nat.le_of_ble_eq_true rfl) rfl (Or.inl ⟨rfl, Or.inl ew_1392⟩) rfl rfl (hs_h11.1 0 (by decide)).1 (hs_h11.1 0 (by decide)).2.1 ?_
  obtain ⟨h13, E14⟩ : ∃ z, z = ea_wi h11 (b0 + 0) 47 1439 := ⟨_, rfl⟩
  have H := H h13 E14
  refine ea_nm E14 ?_
  have hs_h13 : ShM b0 h13 := by rw [E14]; exact ShM_wi hs_h11
  refine ea_aload_n (pc := 92) dX12_act_92 rfl 0 rfl ?_
  refine ea_iconst (pc := 93) dX12_act_93 (v := 0) rfl ?_
  refine ea_putI (pc := 94) dX12_act_94 ec_12 (k := 48) (Nat.le_of_ble_eq_true rfl) rfl (Or.inl ⟨rfl, Or.inl ew_1393⟩) rfl rfl (hs_h13.1 0 (by decide)).1 (hs_h13.1 0 (by decide)).2.1 ?_
  obtain ⟨h15, E16⟩ : ∃ z, z = ea_wi h13 (b0 + 0) 48 0 := ⟨_, rfl⟩
  have H := H h15 E16
  refine ea_nm E16 ?_
  have hs_h15 : ShM b0 h15 := by rw [E16]; exact ShM_wi hs_h13
  refine ea_aload_n (pc := 97) dX12_act_97 rfl 0 rfl ?_
  refine ea_iconst (pc := 98) dX12_act_98 (v := 0) rfl ?_
  refine ea_putI (pc := 99) dX12_act_99 ec_12 (k := 49) (Nat.le_of_ble_eq_true rfl) rfl (Or.inl ⟨rfl, Or.inl ew_1394⟩) rfl rfl (hs_h15.1 0 (by decide)).1 (hs_h15.1 0 (by decide)).2.1 ?_
  obtain ⟨h17, E18⟩ : ∃ z, z = ea_wi h15 (b0 + 0) 49 0 := ⟨_, rfl⟩
  have H := H h17 E18
  refine ea_nm E18 ?_
  have hs_h17 : ShM b0 h17 := by rw [E18]; exact ShM_wi hs_h15
  refine ea_aload_n (pc := 102) dX12_act_102 rfl 0 rfl ?_
  refine ea_iconst (pc := 103) dX12_act_103 (v := 0) rfl ?_
  refine ea_putI (pc := 104) dX12_act_104 ec_12 (k := 50) (Nat.le_of_ble_eq_true rfl) rfl (Or.inl ⟨rfl, Or.inl ew_1395⟩) rfl rfl (hs_h17.1 0 (by decide)).1 (hs_h17.1 0 (by decide)).2.1 ?_
  obtain ⟨h19, E20⟩ : ∃ z, z = ea_wi h17 (b0 + 0) 50 0 := ⟨_, rfl⟩
  have H := H h19 E20
  refine ea_nm E20 ?_
  have hs_h19 : ShM b0 h19 := by rw [E20]; exact ShM_wi hs_h17
  refine ea_aload_n (pc := 107) dX12_act_107 rfl 0 rfl ?_
  refine ea_iconst (pc := 108) dX12_act_108 (v := 3) rfl ?_
  refine ea_putI (pc := 109) dX12_act_109 ec_12 (k := 51) (Nat.le_of_ble_eq_true rfl) rfl (Or.inl ⟨rfl, Or.inl ew_1396⟩) rfl rfl (hs_h19.1 0 (by decide)).1 (hs_h19.1 0 (by decide)).2.1 ?_
  obtain ⟨h21, E22⟩ : ∃ z, z = ea_wi h19 (b0 + 0) 51 3 := ⟨_, rfl⟩
  have H := H h21 E22
  refine ea_nm E22 ?_
  have hs_h21 : ShM b0 h21 := by rw [E22]; exact ShM_wi hs_h19
  refine ea_aload_n (pc := 112) dX12_act_112 rfl 0 rfl ?_
  obtain ⟨d23, h24, m25, q26, hs_h24, H⟩ := H
  refine ea_callV (pc := 113) (As := []) (st := []) dX12_act_113 kX12_next0 m25 q26 rfl (Nat.le_of_ble_eq_true rfl) ew_1822 ew_1824 ew_63 (ci := 12) rfl (by decide) (hs_h21.1 0 (by decide)).1 (hs_h21.1 0 (by decide)).2.1 ?_
  refine ea_iconst (pc := 116) dX12_act_116 (v := 1) rfl ?_
  refine ea_istore_n (pc := 117) (lv' := [(0, vR (some (b0 + 0))), (1, vI x1), (2, vI 1)]) dX12_act_117 rfl (Nat.le_of_ble_eq_true rfl) [1, 2, 0] rfl ?_
  exact H
set_option maxRecDepth 100000 in
set_option maxHeartbeats 4000000 in
theorem pX12_act_118 {d b0 : Nat} {h0 hE h : ea_H} {rv : Option ea_V} {x1 : Int32} {x2 : Int32} (hd : 3 ≤ d) (hs_h : ShM b0 h) (H : (x2 = (0 : Int32) → ea_W mX12_act d h0 rv hE 137 [(0, vR (some (b0 + 0))), (1, vI x1), (2, vI x2)] [] h) ∧ (¬ x2 = (0 : Int32) → ((ea_i h (b0 + 0) 54) = (0 : Int32) → ea_W mX12_act d h0 rv hE 137 [(0, vR (some (b0 + 0))), (1, vI x1), (2, vI x2)] [] h) ∧ (¬ (ea_i h (b0 + 0) 54) = (0 : Int32) → ∃ (d1 : Nat) (xc5 : Int32) (h2 : ea_H), ea_Met mX12_aLine d1 [vR (some (b0 + 0))] h (some (vI xc5)) h2 ∧ d1 + 1 ≤ d ∧ ShM b0 h2 ∧ ea_W mX12_act d h0 rv hE 118 [(0, vR (some (b0 + 0))), (1, vI x1), (2, vI xc5)] [] h2))) : ea_W mX12_act d h0 rv hE 118 [(0, vR (some (b0 + 0))), (1, vI x1), (2, vI x2)] [] h := by
  refine ea_iload_n (pc := 118) dX12_act_118 rfl 2 rfl ?_
  refine ea_if_eq (pc := 119) (tgt := 137) dX12_act_119 rfl (fun c7 => ?_) (fun c7 => ?_)
  · have H := H.1 c7
    exact H
  · have H := H.2 c7
    refine ea_aload_n (pc := 122) dX12_act_122 rfl 0 rfl ?_
    refine ea_getI (pc := 123) dX12_act_123 ec_12 (k := 54) (Nat.le_of_ble_eq_true rfl) rfl (Or.inl ew_1399) (hs_h.1 0 (by decide)).1 (hs_h.1 0 (by decide)).2.1 ?_
    refine ea_if_eq (pc := 126) (tgt := 137) dX12_act_126 rfl (fun c6 => ?_) (fun c6 => ?_)
    · have H := H.1 c6
      exact H
    · have H := H.2 c6
      refine ea_aload_n (pc := 129) dX12_act_129 rfl 0 rfl ?_
      obtain ⟨d1, xc5, h2, m3, q4, hs_h2, H⟩ := H
      refine ea_callV (pc := 130) (As := []) (st := []) dX12_act_130 kX12_aLine m3 q4 rfl (Nat.le_of_ble_eq_true rfl) ew_1910 ew_1912 ew_67 (ci := 12) rfl (by decide) (hs_h.1 0 (by decide)).1 (hs_h.1 0 (by decide)).2.1 ?_
      refine ea_istore_n (pc := 133) (lv' := [(0, vR (some (b0 + 0))), (1, vI x1), (2, vI xc5)]) dX12_act_133 rfl (Nat.le_of_ble_eq_true rfl) [1, 2, 0] rfl ?_
      refine ea_goto (pc := 134) (tgt := 118) dX12_act_134 rfl ?_
      exact H
set_option maxRecDepth 100000 in
set_option maxHeartbeats 4000000 in
theorem pX12_act_137 {d b0 : Nat} {h0 hE h : ea_H} {rv : Option ea_V} {x1 : Int32} {x2 : Int32} (hd : 3 ≤ d) (hs_h : ShM b0 h) (H : ∀ h1, h1 = ea_wi h (b0 + 0) 52 0 → ∀ h3, h3 = ea_wi h1 (b0 + 0) 59 (ea_i h1 (b0 + 0) 57) → (x2 = (0 : Int32) → ea_W mX12_act d h0 rv hE 163 [(0, vR (some (b0 + 0))), (1, vI x1), (2, vI x2)] [vI (ea_i h3 (b0 + 0) 58), vR (some (b0 + 0))] h3) ∧ (¬ x2 = (0 : Int32) → ea_W mX12_act d h0 rv hE 163 [(0, vR (some (b0 + 0))), (1, vI x1), (2, vI x2)] [vI (-1), vR (some (b0 + 0))] h3)) : ea_W mX12_act d h0 rv hE 137 [(0, vR (some (b0 + 0))), (1, vI x1), (2, vI x2)] [] h := by
  refine ea_aload_n (pc := 137) dX12_act_137 rfl 0 rfl ?_
  refine ea_iconst (pc := 138) dX12_act_138 (v := 0) rfl ?_
  refine ea_putI (pc := 139) dX12_act_139 ec_12 (k := 52) (Nat.le_of_ble_eq_true rfl) rfl (Or.inl ⟨rfl, Or.inl ew_1397⟩) rfl rfl (hs_h.1 0 (by decide)).1 (hs_h.1 0 (by decide)).2.1 ?_
  obtain ⟨h1, E2⟩ : ∃ z, z = ea_wi h (b0 + 0) 52 0 := ⟨_, rfl⟩
  have H := H h1 E2
  refine ea_nm E2 ?_
  have hs_h1 : ShM b0 h1 := by rw [E2]; exact ShM_wi hs_h
  refine ea_aload_n (pc := 142) dX12_act_142 rfl 0 rfl ?_
  refine ea_aload_n (pc := 143) dX12_act_143 rfl 0 rfl ?_
  refine ea_getI (pc := 144) dX12_act_144 ec_12 (k := 57) (Nat.le_of_ble_eq_true rfl) rfl (Or.inl ew_1402) (hs_h1.1 0 (by decide)).1 (hs_h1.1 0 (by decide)).2.1 ?_
  refine ea_putI (pc := 147) dX12_act_147 ec_12 (k := 59) (Nat.le_of_ble_eq_true rfl) rfl (Or.inl ⟨rfl, Or.inl ew_1404⟩) rfl rfl (hs_h1.1 0 (by decide)).1 (hs_h1.1 0 (by decide)).2.1 ?_
  obtain ⟨h3, E4⟩ : ∃ z, z = ea_wi h1 (b0 + 0) 59 (ea_i h1 (b0 + 0) 57) := ⟨_, rfl⟩
  have H := H h3 E4
  refine ea_nm E4 ?_
  have hs_h3 : ShM b0 h3 := by rw [E4]; exact ShM_wi hs_h1
  refine ea_aload_n (pc := 150) dX12_act_150 rfl 0 rfl ?_
  refine ea_iload_n (pc := 151) dX12_act_151 rfl 2 rfl ?_
  refine ea_if_eq (pc := 152) (tgt := 159) dX12_act_152 rfl (fun c5 => ?_) (fun c5 => ?_)
  · have H := H.1 c5
    refine ea_aload_n (pc := 159) dX12_act_159 rfl 0 rfl ?_
    refine ea_getI (pc := 160) dX12_act_160 ec_12 (k := 58) (Nat.le_of_ble_eq_true rfl) rfl (Or.inl ew_1403) (hs_h3.1 0 (by decide)).1 (hs_h3.1 0 (by decide)).2.1 ?_
    exact H
  · have H := H.2 c5
    refine ea_iconst (pc := 155) dX12_act_155 (v := (-1)) rfl ?_
    refine ea_goto (pc := 156) (tgt := 163) dX12_act_156 rfl ?_
    exact H
set_option maxRecDepth 100000 in
set_option maxHeartbeats 4000000 in
theorem pX12_act_163 {d b0 : Nat} {h0 hE h : ea_H} {rv : Option ea_V} {x1 : Int32} {x2 : Int32} {sx0 : Int32} {sr1 : Option Nat} (hd : 3 ≤ d) (hs_h : ShM b0 h) (H : ∃ a3, sr1 = some a3 ∧ a3 < ea_n h ∧ ea_c h a3 = 12 ∧ ∀ h5, h5 = ea_wi h a3 62 sx0 → (¬ x2 = (0 : Int32) → ∀ h7, h7 = ea_wi h5 (b0 + 0) 25 ((ea_i h5 (b0 + 0) 25) + (1 : Int32)) → vp_in (ea_i h5 (b0 + 0) 25) 6 ∧ ∀ h10, h10 = ea_wi h7 (b0 + 21) (Int32.toNatClampNeg (ea_i h5 (b0 + 0) 25)) x1 → vp_in (ea_i h5 (b0 + 0) 25) 6 ∧ ∀ h13, h13 = ea_wi h10 (b0 + 22) (Int32.toNatClampNeg (ea_i h5 (b0 + 0) 25)) (ea_i h10 (b0 + 0) 43) → vp_in (ea_i h5 (b0 + 0) 25) 6 ∧ ∀ h16, h16 = ea_wi h13 (b0 + 23) (Int32.toNatClampNeg (ea_i h5 (b0 + 0) 25)) (ea_i h13 (b0 + 0) 46) → vp_in (ea_i h5 (b0 + 0) 25) 6 ∧ ∀ h19, h19 = ea_wi h16 (b0 + 24) (Int32.toNatClampNeg (ea_i h5 (b0 + 0) 25)) (ea_i h16 (b0 + 0) 47) → vp_in (ea_i h5 (b0 + 0) 25) 6 ∧ ∀ h22, h22 = ea_wi h19 (b0 + 25) (Int32.toNatClampNeg (ea_i h5 (b0 + 0) 25)) (ea_i h19 (b0 + 0) 48) → vp_in (ea_i h5 (b0 + 0) 25) 6 ∧ ∀ h25, h25 = ea_wi h22 (b0 + 26) (Int32.toNatClampNeg (ea_i h5 (b0 + 0) 25)) (ea_i h22 (b0 + 0) 49) → vp_in (ea_i h5 (b0 + 0) 25) 6 ∧ ∀ h28, h28 = ea_wi h25 (b0 + 27) (Int32.toNatClampNeg (ea_i h5 (b0 + 0) 25)) (ea_i h25 (b0 + 0) 50) → vp_in (ea_i h5 (b0 + 0) 25) 6 ∧ ∀ h31, h31 = ea_wi h28 (b0 + 28) (Int32.toNatClampNeg (ea_i h5 (b0 + 0) 25)) (ea_i h28 (b0 + 0) 51) → vp_in (ea_i h5 (b0 + 0) 25) 6 ∧ ∀ h34, h34 = ea_wi h31 (b0 + 29) (Int32.toNatClampNeg (ea_i h5 (b0 + 0) 25)) (ea_i h31 (b0 + 0) 44) → ea_W mX12_act d h0 rv hE 277 [(0, vR (some (b0 + 0))), (3, vI (ea_i h5 (b0 + 0) 25)), (4, vI 0)] [] h34) ∧ (x2 = (0 : Int32) → rv = some (vI (-1)) ∧ hE = h5)) : ea_W mX12_act d h0 rv hE 163 [(0, vR (some (b0 + 0))), (1, vI x1), (2, vI x2)] [vI sx0, vR sr1] h := by
  obtain ⟨a3, e4, f1, g2, H⟩ := H
  refine ea_deref1 e4 ?_
  refine ea_putI (pc := 163) dX12_act_163 ec_12 (k := 62) (Nat.le_of_ble_eq_true rfl) rfl (Or.inl ⟨rfl, Or.inl ew_1407⟩) rfl rfl f1 g2 ?_
  obtain ⟨h5, E6⟩ : ∃ z, z = ea_wi h a3 62 sx0 := ⟨_, rfl⟩
  have H := H h5 E6
  refine ea_nm E6 ?_
  have hs_h5 : ShM b0 h5 := by rw [E6]; exact ShM_wi hs_h
  refine ea_iload_n (pc := 166) dX12_act_166 rfl 2 rfl ?_
  refine ea_if_ne (pc := 167) (tgt := 172) dX12_act_167 rfl (fun c36 => ?_) (fun c36 => ?_)
  · have H := H.1 c36
    refine ea_aload_n (pc := 172) dX12_act_172 rfl 0 rfl ?_
    refine ea_getI (pc := 173) dX12_act_173 ec_12 (k := 25) (Nat.le_of_ble_eq_true rfl) rfl (Or.inl ew_1370) (hs_h5.1 0 (by decide)).1 (hs_h5.1 0 (by decide)).2.1 ?_
    refine ea_istore_n (pc := 176) (lv' := [(0, vR (some (b0 + 0))), (1, vI x1), (3, vI (ea_i h5 (b0 + 0) 25))]) dX12_act_176 rfl (Nat.le_of_ble_eq_true rfl) [1, 2, 0] rfl ?_
    refine ea_aload_n (pc := 177) dX12_act_177 rfl 0 rfl ?_
    refine ea_dup (pc := 178) dX12_act_178 rfl ?_
    refine ea_getI (pc := 179) dX12_act_179 ec_12 (k := 25) (Nat.le_of_ble_eq_true rfl) rfl (Or.inl ew_1370) (hs_h5.1 0 (by decide)).1 (hs_h5.1 0 (by decide)).2.1 ?_
    refine ea_iconst (pc := 182) dX12_act_182 (v := 1) rfl ?_
    refine ea_iadd (pc := 183) dX12_act_183 ?_
    refine ea_putI (pc := 184) dX12_act_184 ec_12 (k := 25) (Nat.le_of_ble_eq_true rfl) rfl (Or.inl ⟨rfl, Or.inl ew_1370⟩) rfl rfl (hs_h5.1 0 (by decide)).1 (hs_h5.1 0 (by decide)).2.1 ?_
    obtain ⟨h7, E8⟩ : ∃ z, z = ea_wi h5 (b0 + 0) 25 ((ea_i h5 (b0 + 0) 25) + (1 : Int32)) := ⟨_, rfl⟩
    have H := H h7 E8
    refine ea_nm E8 ?_
    have hs_h7 : ShM b0 h7 := by rw [E8]; exact ShM_wi hs_h5
    refine ea_aload_n (pc := 187) dX12_act_187 rfl 0 rfl ?_
    refine ea_getR (pc := 188) dX12_act_188 ec_12 (k := 26) (Nat.le_of_ble_eq_true rfl) rfl (Or.inl ew_1371) (hs_h7.1 0 (by decide)).1 (hs_h7.1 0 (by decide)).2.1 (hs_h7.2 0 26 rfl) ?_
    refine ea_iload_n (pc := 191) dX12_act_191 rfl 2 rfl ?_
    refine ea_iload_n (pc := 192) dX12_act_192 rfl 1 rfl ?_
    obtain ⟨z9, H⟩ := H
    refine ea_iast (pc := 193) dX12_act_193 (hs_h7.1 21 (by decide)).1 (hs_h7.1 21 (by decide)).2.1 (ea_vpl (hs_h7.1 21 (by decide)).2.2 z9) ?_
    obtain ⟨h10, E11⟩ : ∃ z, z = ea_wi h7 (b0 + 21) (Int32.toNatClampNeg (ea_i h5 (b0 + 0) 25)) x1 := ⟨_, rfl⟩
    have H := H h10 E11
    refine ea_nm E11 ?_
    have hs_h10 : ShM b0 h10 := by rw [E11]; exact ShM_wi hs_h7
    refine ea_aload_n (pc := 194) dX12_act_194 rfl 0 rfl ?_
    refine ea_getR (pc := 195) dX12_act_195 ec_12 (k := 27) (Nat.le_of_ble_eq_true rfl) rfl (Or.inl ew_1372) (hs_h10.1 0 (by decide)).1 (hs_h10.1 0 (by decide)).2.1 (hs_h10.2 0 27 rfl) ?_
    refine ea_iload_n (pc := 198) dX12_act_198 rfl 2 rfl ?_
    refine ea_aload_n (pc := 199) dX12_act_199 rfl 0 rfl ?_
    refine ea_getI (pc := 200) dX12_act_200 ec_12 (k := 43) (Nat.le_of_ble_eq_true rfl) rfl (Or.inl ew_1388) (hs_h10.1 0 (by decide)).1 (hs_h10.1 0 (by decide)).2.1 ?_
    obtain ⟨z12, H⟩ := H
    refine ea_iast (pc := 203) dX12_act_203 (hs_h10.1 22 (by decide)).1 (hs_h10.1 22 (by decide)).2.1 (ea_vpl (hs_h10.1 22 (by decide)).2.2 z12) ?_
    obtain ⟨h13, E14⟩ : ∃ z, z = ea_wi h10 (b0 + 22) (Int32.toNatClampNeg (ea_i h5 (b0 + 0) 25)) (ea_i h10 (b0 + 0) 43) := ⟨_, rfl⟩
    have H := H h13 E14
    refine ea_nm E14 ?_
    have hs_h13 : ShM b0 h13 := by rw [E14]; exact ShM_wi hs_h10
    refine ea_aload_n (pc := 204) dX12_act_204 rfl 0 rfl ?_
    refine ea_getR (pc := 205) dX12_act_205 ec_12 (k := 28) (Nat.le_of_ble_eq_true rfl) rfl (Or.inl ew_1373) (hs_h13.1 0 (by decide)).1 (hs_h13.1 0 (by decide)).2.1 (hs_h13.2 0 28 rfl) ?_
    refine ea_iload_n (pc := 208) dX12_act_208 rfl 2 rfl ?_
    refine ea_aload_n (pc := 209) dX12_act_209 rfl 0 rfl ?_
    refine ea_getI (pc := 210) dX12_act_210 ec_12 (k := 46) (Nat.le_of_ble_eq_true rfl) rfl (Or.inl ew_1391) (hs_h13.1 0 (by decide)).1 (hs_h13.1 0 (by decide)).2.1 ?_
    obtain ⟨z15, H⟩ := H
    refine ea_iast (pc := 213) dX12_act_213 (hs_h13.1 23 (by decide)).1 (hs_h13.1 23 (by decide)).2.1 (ea_vpl (hs_h13.1 23 (by decide)).2.2 z15) ?_
    obtain ⟨h16, E17⟩ : ∃ z, z = ea_wi h13 (b0 + 23) (Int32.toNatClampNeg (ea_i h5 (b0 + 0) 25)) (ea_i h13 (b0 + 0) 46) := ⟨_, rfl⟩
    have H := H h16 E17
    refine ea_nm E17 ?_
    have hs_h16 : ShM b0 h16 := by rw [E17]; exact ShM_wi hs_h13
    refine ea_aload_n (pc := 214) dX12_act_214 rfl 0 rfl ?_
    refine ea_getR (pc := 215) dX12_act_215 ec_12 (k := 29) (Nat.le_of_ble_eq_true rfl) rfl (Or.inl ew_1374) (hs_h16.1 0 (by decide)).1 (hs_h16.1 0 (by decide)).2.1 (hs_h16.2 0 29 rfl) ?_
    refine ea_iload_n (pc := 218) dX12_act_218 rfl 2 rfl ?_
    refine ea_aload_n (pc := 219) dX12_act_219 rfl 0 rfl ?_
    refine ea_getI (pc := 220) dX12_act_220 ec_12 (k := 47) (Nat.le_of_ble_eq_true rfl) rfl (Or.inl ew_1392) (hs_h16.1 0 (by decide)).1 (hs_h16.1 0 (by decide)).2.1 ?_
    obtain ⟨z18, H⟩ := H
    refine ea_iast (pc := 223) dX12_act_223 (hs_h16.1 24 (by decide)).1 (hs_h16.1 24 (by decide)).2.1 (ea_vpl (hs_h16.1 24 (by decide)).2.2 z18) ?_
    obtain ⟨h19, E20⟩ : ∃ z, z = ea_wi h16 (b0 + 24) (Int32.toNatClampNeg (ea_i h5 (b0 + 0) 25)) (ea_i h16 (b0 + 0) 47) := ⟨_, rfl⟩
    have H := H h19 E20
    refine ea_nm E20 ?_
    have hs_h19 : ShM b0 h19 := by rw [E20]; exact ShM_wi hs_h16
    refine ea_aload_n (pc := 224) dX12_act_224 rfl 0 rfl ?_
    refine ea_getR (pc := 225) dX12_act_225 ec_12 (k := 30) (Nat.le_of_ble_eq_true rfl) rfl (Or.inl ew_1375) (hs_h19.1 0 (by decide)).1 (hs_h19.1 0 (by decide)).2.1 (hs_h19.2 0 30 rfl) ?_
    refine ea_iload_n (pc := 228) dX12_act_228 rfl 2 rfl ?_
    refine ea_aload_n (pc := 229) dX12_act_229 rfl 0 rfl ?_
    refine ea_getI (pc := 230) dX12_act_230 ec_12 (k := 48) (Nat.le_of_ble_eq_true rfl) rfl (Or.inl ew_1393) (hs_h19.1 0 (by decide)).1 (hs_h19.1 0 (by decide)).2.1 ?_
    obtain ⟨z21, H⟩ := H
    refine ea_iast (pc := 233) dX12_act_233 (hs_h19.1 25 (by decide)).1 (hs_h19.1 25 (by decide)).2.1 (ea_vpl (hs_h19.1 25 (by decide)).2.2 z21) ?_
    obtain ⟨h22, E23⟩ : ∃ z, z = ea_wi h19 (b0 + 25) (Int32.toNatClampNeg (ea_i h5 (b0 + 0) 25)) (ea_i h19 (b0 + 0) 48) := ⟨_, rfl⟩
    have H := H h22 E23
    refine ea_nm E23 ?_
    have hs_h22 : ShM b0 h22 := by rw [E23]; exact ShM_wi hs_h19
    refine ea_aload_n (pc := 234) dX12_act_234 rfl 0 rfl ?_
    refine ea_getR (pc := 235) dX12_act_235 ec_12 (k := 31) (Nat.le_of_ble_eq_true rfl) rfl (Or.inl ew_1376) (hs_h22.1 0 (by decide)).1 (hs_h22.1 0 (by decide)).2.1 (hs_h22.2 0 31 rfl) ?_
    refine ea_iload_n (pc := 238) dX12_act_238 rfl 2 rfl ?_
    refine ea_aload_n (pc := 239) dX12_act_239 rfl 0 rfl ?_
    refine ea_getI (pc := 240) dX12_act_240 ec_12 (k := 49) (Nat.le_of_ble_eq_true rfl) rfl (Or.inl ew_1394) (hs_h22.1 0 (by decide)).1 (hs_h22.1 0 (by decide)).2.1 ?_
    obtain ⟨z24, H⟩ := H
    refine ea_iast (pc := 243) dX12_act_243 (hs_h22.1 26 (by decide)).1 (hs_h22.1 26 (by decide)).2.1 (ea_vpl (hs_h22.1 26 (by decide)).2.2 z24) ?_
    obtain ⟨h25, E26⟩ : ∃ z, z = ea_wi h22 (b0 + 26) (Int32.toNatClampNeg (ea_i h5 (b0 + 0) 25)) (ea_i h22 (b0 + 0) 49) := ⟨_, rfl⟩
    have H := H h25 E26
    refine ea_nm E26 ?_
    have hs_h25 : ShM b0 h25 := by rw [E26]; exact ShM_wi hs_h22
    refine ea_aload_n (pc := 244) dX12_act_244 rfl 0 rfl ?_
    refine ea_getR (pc := 245) dX12_act_245 ec_12 (k := 32) (Nat.le_of_ble_eq_true rfl) rfl (Or.inl ew_1377) (hs_h25.1 0 (by decide)).1 (hs_h25.1 0 (by decide)).2.1 (hs_h25.2 0 32 rfl) ?_
    refine ea_iload_n (pc := 248) dX12_act_248 rfl 2 rfl ?_
    refine ea_aload_n (pc := 249) dX12_act_249 rfl 0 rfl ?_
    refine ea_getI (pc := 250) dX12_act_250 ec_12 (k := 50) (Nat.le_of_ble_eq_true rfl) rfl (Or.inl ew_1395) (hs_h25.1 0 (by decide)).1 (hs_h25.1 0 (by decide)).2.1 ?_
    obtain ⟨z27, H⟩ := H
    refine ea_iast (pc := 253) dX12_act_253 (hs_h25.1 27 (by decide)).1 (hs_h25.1 27 (by decide)).2.1 (ea_vpl (hs_h25.1 27 (by decide)).2.2 z27) ?_
    obtain ⟨h28, E29⟩ : ∃ z, z = ea_wi h25 (b0 + 27) (Int32.toNatClampNeg (ea_i h5 (b0 + 0) 25)) (ea_i h25 (b0 + 0) 50) := ⟨_, rfl⟩
    have H := H h28 E29
    refine ea_nm E29 ?_
    have hs_h28 : ShM b0 h28 := by rw [E29]; exact ShM_wi hs_h25
    refine ea_aload_n (pc := 254) dX12_act_254 rfl 0 rfl ?_
    refine ea_getR (pc := 255) dX12_act_255 ec_12 (k := 33) (Nat.le_of_ble_eq_true rfl) rfl (Or.inl ew_1378) (hs_h28.1 0 (by decide)).1 (hs_h28.1 0 (by decide)).2.1 (hs_h28.2 0 33 rfl) ?_
    refine ea_iload_n (pc := 258) dX12_act_258 rfl 2 rfl ?_
    refine ea_aload_n (pc := 259) dX12_act_259 rfl 0 rfl ?_
    refine ea_getI (pc := 260) dX12_act_260 ec_12 (k := 51) (Nat.le_of_ble_eq_true rfl) rfl (Or.inl ew_1396) (hs_h28.1 0 (by decide)).1 (hs_h28.1 0 (by decide)).2.1 ?_
    obtain ⟨z30, H⟩ := H
    refine ea_iast (pc := 263) dX12_act_263 (hs_h28.1 28 (by decide)).1 (hs_h28.1 28 (by decide)).2.1 (ea_vpl (hs_h28.1 28 (by decide)).2.2 z30) ?_
    obtain ⟨h31, E32⟩ : ∃ z, z = ea_wi h28 (b0 + 28) (Int32.toNatClampNeg (ea_i h5 (b0 + 0) 25)) (ea_i h28 (b0 + 0) 51) := ⟨_, rfl⟩
    have H := H h31 E32
    refine ea_nm E32 ?_
    have hs_h31 : ShM b0 h31 := by rw [E32]; exact ShM_wi hs_h28
    refine ea_aload_n (pc := 264) dX12_act_264 rfl 0 rfl ?_
    refine ea_getR (pc := 265) dX12_act_265 ec_12 (k := 34) (Nat.le_of_ble_eq_true rfl) rfl (Or.inl ew_1379) (hs_h31.1 0 (by decide)).1 (hs_h31.1 0 (by decide)).2.1 (hs_h31.2 0 34 rfl) ?_
    refine ea_iload_n (pc := 268) dX12_act_268 rfl 2 rfl ?_
    refine ea_aload_n (pc := 269) dX12_act_269 rfl 0 rfl ?_
    refine ea_getI (pc := 270) dX12_act_270 ec_12 (k := 44) (Nat.le_of_ble_eq_true rfl) rfl (Or.inl ew_1389) (hs_h31.1 0 (by decide)).1 (hs_h31.1 0 (by decide)).2.1 ?_
    obtain ⟨z33, H⟩ := H
    refine ea_iast (pc := 273) dX12_act_273 (hs_h31.1 29 (by decide)).1 (hs_h31.1 29 (by decide)).2.1 (ea_vpl (hs_h31.1 29 (by decide)).2.2 z33) ?_
    obtain ⟨h34, E35⟩ : ∃ z, z = ea_wi h31 (b0 + 29) (Int32.toNatClampNeg (ea_i h5 (b0 + 0) 25)) (ea_i h31 (b0 + 0) 44) := ⟨_, rfl⟩
    have H := H h34 E35
    refine ea_nm E35 ?_
    have hs_h34 : ShM b0 h34 := by rw [E35]; exact ShM_wi hs_h31
    refine ea_iconst (pc := 274) dX12_act_274 (v := 0) rfl ?_
    refine ea_istore (pc := 275) (lv' := [(0, vR (some (b0 + 0))), (3, vI (ea_i h5 (b0 + 0) 25)), (4, vI 0)]) dX12_act_275 (Nat.le_of_ble_eq_true rfl) [1, 3, 0] rfl ?_
    exact H
  · have H := H.2 c36
    refine ea_iconst (pc := 170) dX12_act_170 (v := (-1)) rfl ?_
    obtain ⟨rfl, rfl⟩ := H
    exact ea_ireturn (pc := 171) dX12_act_171 rfl rfl
set_option maxRecDepth 100000 in
set_option maxHeartbeats 4000000 in
theorem pX12_act_277 {d b0 : Nat} {h0 hE h : ea_H} {rv : Option ea_V} {x3 : Int32} {x4 : Int32} (hd : 3 ≤ d) (hs_h : ShM b0 h) (H : ((ea_i h (b0 + 0) 44) ≤ x4 → vp_in (((25 : Int32) * x3) + (ea_i h (b0 + 0) 44)) 150 ∧ ∀ h2, h2 = ea_wi h (b0 + 30) (Int32.toNatClampNeg (((25 : Int32) * x3) + (ea_i h (b0 + 0) 44))) (ea_i h (b0 + 0) 45) → ea_W mX12_act d h0 rv hE 351 [(0, vR (some (b0 + 0))), (3, vI x3), (4, vI 0)] [] h2) ∧ (¬ (ea_i h (b0 + 0) 44) ≤ x4 → vp_in x4 25 ∧ vp_in (((25 : Int32) * x3) + x4) 150 ∧ ∀ h6, h6 = ea_wi h (b0 + 30) (Int32.toNatClampNeg (((25 : Int32) * x3) + x4)) (ea_i h (b0 + 33) (Int32.toNatClampNeg x4)) → vp_in x4 24 ∧ vp_in (((24 : Int32) * x3) + x4) 144 ∧ ∀ h10, h10 = ea_wi h6 (b0 + 31) (Int32.toNatClampNeg (((24 : Int32) * x3) + x4)) (ea_i h6 (b0 + 34) (Int32.toNatClampNeg x4)) → ea_W mX12_act d h0 rv hE 277 [(0, vR (some (b0 + 0))), (3, vI x3), (4, vI (x4 + 1))] [] h10)) : ea_W mX12_act d h0 rv hE 277 [(0, vR (some (b0 + 0))), (3, vI x3), (4, vI x4)] [] h := by
  refine ea_iload (pc := 277) dX12_act_277 2 rfl ?_
  refine ea_aload_n (pc := 279) dX12_act_279 rfl 0 rfl ?_
  refine ea_getI (pc := 280) dX12_act_280 ec_12 (k := 44) (Nat.le_of_ble_eq_true rfl) rfl (Or.inl ew_1389) (hs_h.1 0 (by decide)).1 (hs_h.1 0 (by decide)).2.1 ?_
  refine ea_icmp_ge (pc := 283) (tgt := 330) dX12_act_283 rfl (fun c12 => ?_) (fun c12 => ?_)
  · have H := H.1 c12
    refine ea_aload_n (pc := 330) dX12_act_330 rfl 0 rfl ?_
    refine ea_getR (pc := 331) dX12_act_331 ec_12 (k := 35) (Nat.le_of_ble_eq_true rfl) rfl (Or.inl ew_1380) (hs_h.1 0 (by decide)).1 (hs_h.1 0 (by decide)).2.1 (hs_h.2 0 35 rfl) ?_
    refine ea_bipush (pc := 334) dX12_act_334 (v := 25) rfl ?_
    refine ea_iload_n (pc := 336) dX12_act_336 rfl 1 rfl ?_
    refine ea_imul (pc := 337) dX12_act_337 ?_
    refine ea_aload_n (pc := 338) dX12_act_338 rfl 0 rfl ?_
    refine ea_getI (pc := 339) dX12_act_339 ec_12 (k := 44) (Nat.le_of_ble_eq_true rfl) rfl (Or.inl ew_1389) (hs_h.1 0 (by decide)).1 (hs_h.1 0 (by decide)).2.1 ?_
    refine ea_iadd (pc := 342) dX12_act_342 ?_
    refine ea_aload_n (pc := 343) dX12_act_343 rfl 0 rfl ?_
    refine ea_getI (pc := 344) dX12_act_344 ec_12 (k := 45) (Nat.le_of_ble_eq_true rfl) rfl (Or.inl ew_1390) (hs_h.1 0 (by decide)).1 (hs_h.1 0 (by decide)).2.1 ?_
    obtain ⟨z1, H⟩ := H
    refine ea_iast (pc := 347) dX12_act_347 (hs_h.1 30 (by decide)).1 (hs_h.1 30 (by decide)).2.1 (ea_vpl (hs_h.1 30 (by decide)).2.2 z1) ?_
    obtain ⟨h2, E3⟩ : ∃ z, z = ea_wi h (b0 + 30) (Int32.toNatClampNeg (((25 : Int32) * x3) + (ea_i h (b0 + 0) 44))) (ea_i h (b0 + 0) 45) := ⟨_, rfl⟩
    have H := H h2 E3
    refine ea_nm E3 ?_
    have hs_h2 : ShM b0 h2 := by rw [E3]; exact ShM_wi hs_h
    refine ea_iconst (pc := 348) dX12_act_348 (v := 0) rfl ?_
    refine ea_istore (pc := 349) (lv' := [(0, vR (some (b0 + 0))), (3, vI x3), (4, vI 0)]) dX12_act_349 (Nat.le_of_ble_eq_true rfl) [1, 2, 0] rfl ?_
    exact H
  · have H := H.2 c12
    refine ea_aload_n (pc := 286) dX12_act_286 rfl 0 rfl ?_
    refine ea_getR (pc := 287) dX12_act_287 ec_12 (k := 35) (Nat.le_of_ble_eq_true rfl) rfl (Or.inl ew_1380) (hs_h.1 0 (by decide)).1 (hs_h.1 0 (by decide)).2.1 (hs_h.2 0 35 rfl) ?_
    refine ea_bipush (pc := 290) dX12_act_290 (v := 25) rfl ?_
    refine ea_iload_n (pc := 292) dX12_act_292 rfl 1 rfl ?_
    refine ea_imul (pc := 293) dX12_act_293 ?_
    refine ea_iload (pc := 294) dX12_act_294 2 rfl ?_
    refine ea_iadd (pc := 296) dX12_act_296 ?_
    refine ea_aload_n (pc := 297) dX12_act_297 rfl 0 rfl ?_
    refine ea_getR (pc := 298) dX12_act_298 ec_12 (k := 38) (Nat.le_of_ble_eq_true rfl) rfl (Or.inl ew_1383) (hs_h.1 0 (by decide)).1 (hs_h.1 0 (by decide)).2.1 (hs_h.2 0 38 rfl) ?_
    refine ea_iload (pc := 301) dX12_act_301 2 rfl ?_
    obtain ⟨z4, H⟩ := H
    refine ea_iald (pc := 303) dX12_act_303 (hs_h.1 33 (by decide)).1 (hs_h.1 33 (by decide)).2.1 (ea_vpl (hs_h.1 33 (by decide)).2.2 z4) ?_
    obtain ⟨z5, H⟩ := H
    refine ea_iast (pc := 304) dX12_act_304 (hs_h.1 30 (by decide)).1 (hs_h.1 30 (by decide)).2.1 (ea_vpl (hs_h.1 30 (by decide)).2.2 z5) ?_
    obtain ⟨h6, E7⟩ : ∃ z, z = ea_wi h (b0 + 30) (Int32.toNatClampNeg (((25 : Int32) * x3) + x4)) (ea_i h (b0 + 33) (Int32.toNatClampNeg x4)) := ⟨_, rfl⟩
    have H := H h6 E7
    refine ea_nm E7 ?_
    have hs_h6 : ShM b0 h6 := by rw [E7]; exact ShM_wi hs_h
    refine ea_aload_n (pc := 305) dX12_act_305 rfl 0 rfl ?_
    refine ea_getR (pc := 306) dX12_act_306 ec_12 (k := 36) (Nat.le_of_ble_eq_true rfl) rfl (Or.inl ew_1381) (hs_h6.1 0 (by decide)).1 (hs_h6.1 0 (by decide)).2.1 (hs_h6.2 0 36 rfl) ?_
    refine ea_bipush (pc := 309) dX12_act_309 (v := 24) rfl ?_
    refine ea_iload_n (pc := 311) dX12_act_311 rfl 1 rfl ?_
    refine ea_imul (pc := 312) dX12_act_312 ?_
    refine ea_iload (pc := 313) dX12_act_313 2 rfl ?_
    refine ea_iadd (pc := 315) dX12_act_315 ?_
    refine ea_aload_n (pc := 316) dX12_act_316 rfl 0 rfl ?_
    refine ea_getR (pc := 317) dX12_act_317 ec_12 (k := 39) (Nat.le_of_ble_eq_true rfl) rfl (Or.inl ew_1384) (hs_h6.1 0 (by decide)).1 (hs_h6.1 0 (by decide)).2.1 (hs_h6.2 0 39 rfl) ?_
    refine ea_iload (pc := 320) dX12_act_320 2 rfl ?_
    obtain ⟨z8, H⟩ := H
    refine ea_iald (pc := 322) dX12_act_322 (hs_h6.1 34 (by decide)).1 (hs_h6.1 34 (by decide)).2.1 (ea_vpl (hs_h6.1 34 (by decide)).2.2 z8) ?_
    obtain ⟨z9, H⟩ := H
    refine ea_iast (pc := 323) dX12_act_323 (hs_h6.1 31 (by decide)).1 (hs_h6.1 31 (by decide)).2.1 (ea_vpl (hs_h6.1 31 (by decide)).2.2 z9) ?_
    obtain ⟨h10, E11⟩ : ∃ z, z = ea_wi h6 (b0 + 31) (Int32.toNatClampNeg (((24 : Int32) * x3) + x4)) (ea_i h6 (b0 + 34) (Int32.toNatClampNeg x4)) := ⟨_, rfl⟩
    have H := H h10 E11
    refine ea_nm E11 ?_
    have hs_h10 : ShM b0 h10 := by rw [E11]; exact ShM_wi hs_h6
    refine ea_iinc (pc := 324) (v := 1) (lv' := [(0, vR (some (b0 + 0))), (3, vI x3), (4, vI (x4 + 1))]) dX12_act_324 2 rfl rfl (Nat.le_of_ble_eq_true rfl) [1, 2, 0] rfl ?_
    refine ea_goto (pc := 327) (tgt := 277) dX12_act_327 rfl ?_
    exact H
set_option maxRecDepth 100000 in
set_option maxHeartbeats 4000000 in
theorem pX12_act_351 {d b0 : Nat} {h0 hE h : ea_H} {rv : Option ea_V} {x3 : Int32} {x4 : Int32} (hd : 3 ≤ d) (hs_h : ShM b0 h) (H : (((2 : Int32) * (ea_i h (b0 + 0) 45)) ≤ x4 → rv = some (vI x3) ∧ hE = h) ∧ (¬ ((2 : Int32) * (ea_i h (b0 + 0) 45)) ≤ x4 → vp_in x4 1220 ∧ vp_in (((1220 : Int32) * x3) + x4) 7320 ∧ ∀ h3, h3 = ea_wi h (b0 + 32) (Int32.toNatClampNeg (((1220 : Int32) * x3) + x4)) (ea_i h (b0 + 35) (Int32.toNatClampNeg x4)) → ea_W mX12_act d h0 rv hE 351 [(0, vR (some (b0 + 0))), (3, vI x3), (4, vI (x4 + 1))] [] h3)) : ea_W mX12_act d h0 rv hE 351 [(0, vR (some (b0 + 0))), (3, vI x3), (4, vI x4)] [] h := by
  refine ea_iload (pc := 351) dX12_act_351 2 rfl ?_
  refine ea_iconst (pc := 353) dX12_act_353 (v := 2) rfl ?_
  refine ea_aload_n (pc := 354) dX12_act_354 rfl 0 rfl ?_
  refine ea_getI (pc := 355) dX12_act_355 ec_12 (k := 45) (Nat.le_of_ble_eq_true rfl) rfl (Or.inl ew_1390) (hs_h.1 0 (by decide)).1 (hs_h.1 0 (by decide)).2.1 ?_
  refine ea_imul (pc := 358) dX12_act_358 ?_
  refine ea_icmp_ge (pc := 359) (tgt := 388) dX12_act_359 rfl (fun c5 => ?_) (fun c5 => ?_)
  · have H := H.1 c5
    refine ea_iload_n (pc := 388) dX12_act_388 rfl 1 rfl ?_
    obtain ⟨rfl, rfl⟩ := H
    exact ea_ireturn (pc := 389) dX12_act_389 rfl rfl
  · have H := H.2 c5
    refine ea_aload_n (pc := 362) dX12_act_362 rfl 0 rfl ?_
    refine ea_getR (pc := 363) dX12_act_363 ec_12 (k := 37) (Nat.le_of_ble_eq_true rfl) rfl (Or.inl ew_1382) (hs_h.1 0 (by decide)).1 (hs_h.1 0 (by decide)).2.1 (hs_h.2 0 37 rfl) ?_
    refine ea_sipush (pc := 366) dX12_act_366 (v := 1220) rfl ?_
    refine ea_iload_n (pc := 369) dX12_act_369 rfl 1 rfl ?_
    refine ea_imul (pc := 370) dX12_act_370 ?_
    refine ea_iload (pc := 371) dX12_act_371 2 rfl ?_
    refine ea_iadd (pc := 373) dX12_act_373 ?_
    refine ea_aload_n (pc := 374) dX12_act_374 rfl 0 rfl ?_
    refine ea_getR (pc := 375) dX12_act_375 ec_12 (k := 40) (Nat.le_of_ble_eq_true rfl) rfl (Or.inl ew_1385) (hs_h.1 0 (by decide)).1 (hs_h.1 0 (by decide)).2.1 (hs_h.2 0 40 rfl) ?_
    refine ea_iload (pc := 378) dX12_act_378 2 rfl ?_
    obtain ⟨z1, H⟩ := H
    refine ea_iald (pc := 380) dX12_act_380 (hs_h.1 35 (by decide)).1 (hs_h.1 35 (by decide)).2.1 (ea_vpl (hs_h.1 35 (by decide)).2.2 z1) ?_
    obtain ⟨z2, H⟩ := H
    refine ea_iast (pc := 381) dX12_act_381 (hs_h.1 32 (by decide)).1 (hs_h.1 32 (by decide)).2.1 (ea_vpl (hs_h.1 32 (by decide)).2.2 z2) ?_
    obtain ⟨h3, E4⟩ : ∃ z, z = ea_wi h (b0 + 32) (Int32.toNatClampNeg (((1220 : Int32) * x3) + x4)) (ea_i h (b0 + 35) (Int32.toNatClampNeg x4)) := ⟨_, rfl⟩
    have H := H h3 E4
    refine ea_nm E4 ?_
    have hs_h3 : ShM b0 h3 := by rw [E4]; exact ShM_wi hs_h
    refine ea_iinc (pc := 382) (v := 1) (lv' := [(0, vR (some (b0 + 0))), (3, vI x3), (4, vI (x4 + 1))]) dX12_act_382 2 rfl rfl (Nat.le_of_ble_eq_true rfl) [1, 2, 0] rfl ?_
    refine ea_goto (pc := 385) (tgt := 351) dX12_act_385 rfl ?_
    exact H
theorem pX12_actOn_0 {d b0 : Nat} {h0 hE h : ea_H} {rv : Option ea_V} {x1 : Int32} (hd : 1 ≤ d) (hs_h : ShM b0 h) (H : ea_W mX12_actOn d h0 rv hE 7 [(0, vR (some (b0 + 0))), (1, vI x1), (2, vI ((ea_i h (b0 + 0) 25) - (1 : Int32)))] [] h) : ea_W mX12_actOn d h0 rv hE 0 [(0, vR (some (b0 + 0))), (1, vI x1)] [] h := by
  refine ea_aload_n (pc := 0) dX12_actOn_0 rfl 0 rfl ?_
  refine ea_getI (pc := 1) dX12_actOn_1 ec_12 (k := 25) (Nat.le_of_ble_eq_true rfl) rfl (Or.inl ew_1370) (hs_h.1 0 (by decide)).1 (hs_h.1 0 (by decide)).2.1 ?_
  refine ea_iconst (pc := 4) dX12_actOn_4 (v := 1) rfl ?_
  refine ea_isub (pc := 5) dX12_actOn_5 ?_
  refine ea_istore_n (pc := 6) (lv' := [(0, vR (some (b0 + 0))), (1, vI x1), (2, vI ((ea_i h (b0 + 0) 25) - (1 : Int32)))]) dX12_actOn_6 rfl (Nat.le_of_ble_eq_true rfl) [1, 2, 0] rfl ?_
  exact H
theorem pX12_actOn_7 {d b0 : Nat} {h0 hE h : ea_H} {rv : Option ea_V} {x1 : Int32} {x2 : Int32} (hd : 1 ≤ d) (hs_h : ShM b0 h) (H : (x2 < (0 : Int32) → rv = some (vI x2) ∧ hE = h) ∧ (¬ x2 < (0 : Int32) → vp_in x2 6 ∧ ((ea_i h (b0 + 21) (Int32.toNatClampNeg x2)) ≤ x1 → rv = some (vI x2) ∧ hE = h) ∧ (¬ (ea_i h (b0 + 21) (Int32.toNatClampNeg x2)) ≤ x1 → ea_W mX12_actOn d h0 rv hE 7 [(0, vR (some (b0 + 0))), (1, vI x1), (2, vI (x2 + (-1)))] [] h))) : ea_W mX12_actOn d h0 rv hE 7 [(0, vR (some (b0 + 0))), (1, vI x1), (2, vI x2)] [] h := by
  refine ea_iload_n (pc := 7) dX12_actOn_7 rfl 2 rfl ?_
  refine ea_if_lt (pc := 8) (tgt := 27) dX12_actOn_8 rfl (fun c3 => ?_) (fun c3 => ?_)
  · have H := H.1 c3
    refine ea_iload_n (pc := 27) dX12_actOn_27 rfl 2 rfl ?_
    obtain ⟨rfl, rfl⟩ := H
    exact ea_ireturn (pc := 28) dX12_actOn_28 rfl rfl
  · have H := H.2 c3
    refine ea_aload_n (pc := 11) dX12_actOn_11 rfl 0 rfl ?_
    refine ea_getR (pc := 12) dX12_actOn_12 ec_12 (k := 26) (Nat.le_of_ble_eq_true rfl) rfl (Or.inl ew_1371) (hs_h.1 0 (by decide)).1 (hs_h.1 0 (by decide)).2.1 (hs_h.2 0 26 rfl) ?_
    refine ea_iload_n (pc := 15) dX12_actOn_15 rfl 2 rfl ?_
    obtain ⟨z1, H⟩ := H
    refine ea_iald (pc := 16) dX12_actOn_16 (hs_h.1 21 (by decide)).1 (hs_h.1 21 (by decide)).2.1 (ea_vpl (hs_h.1 21 (by decide)).2.2 z1) ?_
    refine ea_iload_n (pc := 17) dX12_actOn_17 rfl 1 rfl ?_
    refine ea_icmp_le (pc := 18) (tgt := 27) dX12_actOn_18 rfl (fun c2 => ?_) (fun c2 => ?_)
    · have H := H.1 c2
      refine ea_iload_n (pc := 27) dX12_actOn_27 rfl 2 rfl ?_
      obtain ⟨rfl, rfl⟩ := H
      exact ea_ireturn (pc := 28) dX12_actOn_28 rfl rfl
    · have H := H.2 c2
      refine ea_iinc (pc := 21) (v := (-1)) (lv' := [(0, vR (some (b0 + 0))), (1, vI x1), (2, vI (x2 + (-1)))]) dX12_actOn_21 2 rfl rfl (Nat.le_of_ble_eq_true rfl) [1, 2, 0] rfl ?_
      refine ea_goto (pc := 24) (tgt := 7) dX12_actOn_24 rfl ?_
      exact H
theorem pX12_inForce_0 {d b0 : Nat} {h0 hE h : ea_H} {rv : Option ea_V} {x1 : Int32} {x2 : Int32} (hd : 3 ≤ d) (hs_h : ShM b0 h) (H : ((vX12_isDay (x1 : Int32) h) = (0 : Int32) → ea_W mX12_inForce d h0 rv hE 16 [(0, vR (some (b0 + 0))), (2, vI x2)] [vI (-1)] h) ∧ (¬ (vX12_isDay (x1 : Int32) h) = (0 : Int32) → ∃ (d12 : Nat) (xc16 : Int32) (h13 : ea_H), ea_Met mX12_actOn d12 [vR (some (b0 + 0)), vI x1] h (some (vI xc16)) h13 ∧ d12 + 1 ≤ d ∧ ShM b0 h13 ∧ ea_W mX12_inForce d h0 rv hE 16 [(0, vR (some (b0 + 0))), (2, vI x2)] [vI xc16] h13)) : ea_W mX12_inForce d h0 rv hE 0 [(0, vR (some (b0 + 0))), (1, vI x1), (2, vI x2)] [] h := by
  refine ea_iload_n (pc := 0) dX12_inForce_0 rfl 1 rfl ?_
  refine ea_callS (pc := 1) (d' := d - 1) (As := [vI x1]) (st := []) dX12_inForce_1 kX12_isDay (sX12_isDay (d := d - 1) (by omega)) (by omega) rfl (Nat.le_of_ble_eq_true rfl) ew_1752 ew_1753 ?_
  refine ea_if_eq (pc := 4) (tgt := 15) dX12_inForce_4 rfl (fun c17 => ?_) (fun c17 => ?_)
  · have H := H.1 c17
    refine ea_iconst (pc := 15) dX12_inForce_15 (v := (-1)) rfl ?_
    exact ea_fewer [0, 2] rfl H
  · have H := H.2 c17
    refine ea_aload_n (pc := 7) dX12_inForce_7 rfl 0 rfl ?_
    refine ea_iload_n (pc := 8) dX12_inForce_8 rfl 1 rfl ?_
    obtain ⟨d12, xc16, h13, m14, q15, hs_h13, H⟩ := H
    refine ea_callV (pc := 9) (As := [vI x1]) (st := []) dX12_inForce_9 kX12_actOn m14 q15 rfl (Nat.le_of_ble_eq_true rfl) ew_1975 ew_1977 ew_81 (ci := 12) rfl (by decide) (hs_h.1 0 (by decide)).1 (hs_h.1 0 (by decide)).2.1 ?_
    refine ea_goto (pc := 12) (tgt := 16) dX12_inForce_12 rfl ?_
    exact ea_fewer [0, 2] rfl H
theorem pX12_inForce_16 {d b0 : Nat} {h0 hE h : ea_H} {rv : Option ea_V} {x2 : Int32} {sx0 : Int32} (hd : 3 ≤ d) (hs_h : ShM b0 h) (H : (¬ sx0 = ((-1) : Int32) → (Int32.toInt x2 = 0 → rv = some (vI sx0) ∧ hE = h) ∧ (Int32.toInt x2 = 1 → vp_in sx0 6 ∧ rv = some (vI (ea_i h (b0 + 22) (Int32.toNatClampNeg sx0))) ∧ hE = h) ∧ (Int32.toInt x2 = 2 → vp_in sx0 6 ∧ rv = some (vI (ea_i h (b0 + 23) (Int32.toNatClampNeg sx0))) ∧ hE = h) ∧ (Int32.toInt x2 = 3 → vp_in sx0 6 ∧ rv = some (vI (ea_i h (b0 + 24) (Int32.toNatClampNeg sx0))) ∧ hE = h) ∧ (Int32.toInt x2 = 4 → vp_in sx0 6 ∧ rv = some (vI (ea_i h (b0 + 25) (Int32.toNatClampNeg sx0))) ∧ hE = h) ∧ (Int32.toInt x2 = 5 → vp_in sx0 6 ∧ rv = some (vI (ea_i h (b0 + 26) (Int32.toNatClampNeg sx0))) ∧ hE = h) ∧ (Int32.toInt x2 = 6 → vp_in sx0 6 ∧ rv = some (vI (ea_i h (b0 + 27) (Int32.toNatClampNeg sx0))) ∧ hE = h) ∧ (Int32.toInt x2 = 7 → vp_in sx0 6 ∧ rv = some (vI (ea_i h (b0 + 28) (Int32.toNatClampNeg sx0))) ∧ hE = h) ∧ (Int32.toInt x2 < 0 ∨ 7 < Int32.toInt x2 → rv = some (vI (-1)) ∧ hE = h)) ∧ (sx0 = ((-1) : Int32) → rv = some (vI (-1)) ∧ hE = h)) : ea_W mX12_inForce d h0 rv hE 16 [(0, vR (some (b0 + 0))), (2, vI x2)] [vI sx0] h := by
  refine ea_istore_n (pc := 16) (lv' := [(0, vR (some (b0 + 0))), (2, vI x2), (3, vI sx0)]) dX12_inForce_16 rfl (Nat.le_of_ble_eq_true rfl) [1, 2, 0] rfl ?_
  refine ea_iload_n (pc := 17) dX12_inForce_17 rfl 2 rfl ?_
  refine ea_iconst (pc := 18) dX12_inForce_18 (v := (-1)) rfl ?_
  refine ea_icmp_ne (pc := 19) (tgt := 24) dX12_inForce_19 rfl (fun c8 => ?_) (fun c8 => ?_)
  · have H := H.1 c8
    refine ea_iload_n (pc := 24) dX12_inForce_24 rfl 1 rfl ?_
    by_cases qc1 : Int32.toInt x2 = 0
    · have H := H.1 qc1
      refine ea_tswIn (pc := 25) (tgt := 72) dX12_inForce_25 (by omega) (by omega) (by rw [qc1]; rfl) rfl ?_
      refine ea_iload_n (pc := 72) dX12_inForce_72 rfl 2 rfl ?_
      obtain ⟨rfl, rfl⟩ := H
      exact ea_ireturn (pc := 73) dX12_inForce_73 rfl rfl
    by_cases qc2 : Int32.toInt x2 = 1
    · have H := H.2.1 qc2
      refine ea_tswIn (pc := 25) (tgt := 74) dX12_inForce_25 (by omega) (by omega) (by rw [qc2]; rfl) rfl ?_
      refine ea_aload_n (pc := 74) dX12_inForce_74 rfl 0 rfl ?_
      refine ea_getR (pc := 75) dX12_inForce_75 ec_12 (k := 27) (Nat.le_of_ble_eq_true rfl) rfl (Or.inl ew_1372) (hs_h.1 0 (by decide)).1 (hs_h.1 0 (by decide)).2.1 (hs_h.2 0 27 rfl) ?_
      refine ea_iload_n (pc := 78) dX12_inForce_78 rfl 2 rfl ?_
      obtain ⟨z1, H⟩ := H
      refine ea_iald (pc := 79) dX12_inForce_79 (hs_h.1 22 (by decide)).1 (hs_h.1 22 (by decide)).2.1 (ea_vpl (hs_h.1 22 (by decide)).2.2 z1) ?_
      obtain ⟨rfl, rfl⟩ := H
      exact ea_ireturn (pc := 80) dX12_inForce_80 rfl rfl
    by_cases qc3 : Int32.toInt x2 = 2
    · have H := H.2.2.1 qc3
      refine ea_tswIn (pc := 25) (tgt := 81) dX12_inForce_25 (by omega) (by omega) (by rw [qc3]; rfl) rfl ?_
      refine ea_aload_n (pc := 81) dX12_inForce_81 rfl 0 rfl ?_
      refine ea_getR (pc := 82) dX12_inForce_82 ec_12 (k := 28) (Nat.le_of_ble_eq_true rfl) rfl (Or.inl ew_1373) (hs_h.1 0 (by decide)).1 (hs_h.1 0 (by decide)).2.1 (hs_h.2 0 28 rfl) ?_
      refine ea_iload_n (pc := 85) dX12_inForce_85 rfl 2 rfl ?_
      obtain ⟨z2, H⟩ := H
      refine ea_iald (pc := 86) dX12_inForce_86 (hs_h.1 23 (by decide)).1 (hs_h.1 23 (by decide)).2.1 (ea_vpl (hs_h.1 23 (by decide)).2.2 z2) ?_
      obtain ⟨rfl, rfl⟩ := H
      exact ea_ireturn (pc := 87) dX12_inForce_87 rfl rfl
    by_cases qc4 : Int32.toInt x2 = 3
    · have H := H.2.2.2.1 qc4
      refine ea_tswIn (pc := 25) (tgt := 88) dX12_inForce_25 (by omega) (by omega) (by rw [qc4]; rfl) rfl ?_
      refine ea_aload_n (pc := 88) dX12_inForce_88 rfl 0 rfl ?_
      refine ea_getR (pc := 89) dX12_inForce_89 ec_12 (k := 29) (Nat.le_of_ble_eq_true rfl) rfl (Or.inl ew_1374) (hs_h.1 0 (by decide)).1 (hs_h.1 0 (by decide)).2.1 (hs_h.2 0 29 rfl) ?_
      refine ea_iload_n (pc := 92) dX12_inForce_92 rfl 2 rfl ?_
      obtain ⟨z3, H⟩ := H
      refine ea_iald (pc := 93) dX12_inForce_93 (hs_h.1 24 (by decide)).1 (hs_h.1 24 (by decide)).2.1 (ea_vpl (hs_h.1 24 (by decide)).2.2 z3) ?_
      obtain ⟨rfl, rfl⟩ := H
      exact ea_ireturn (pc := 94) dX12_inForce_94 rfl rfl
    by_cases qc5 : Int32.toInt x2 = 4
    · have H := H.2.2.2.2.1 qc5
      refine ea_tswIn (pc := 25) (tgt := 95) dX12_inForce_25 (by omega) (by omega) (by rw [qc5]; rfl) rfl ?_
      refine ea_aload_n (pc := 95) dX12_inForce_95 rfl 0 rfl ?_
      refine ea_getR (pc := 96) dX12_inForce_96 ec_12 (k := 30) (Nat.le_of_ble_eq_true rfl) rfl (Or.inl ew_1375) (hs_h.1 0 (by decide)).1 (hs_h.1 0 (by decide)).2.1 (hs_h.2 0 30 rfl) ?_
      refine ea_iload_n (pc := 99) dX12_inForce_99 rfl 2 rfl ?_
      obtain ⟨z4, H⟩ := H
      refine ea_iald (pc := 100) dX12_inForce_100 (hs_h.1 25 (by decide)).1 (hs_h.1 25 (by decide)).2.1 (ea_vpl (hs_h.1 25 (by decide)).2.2 z4) ?_
      obtain ⟨rfl, rfl⟩ := H
      exact ea_ireturn (pc := 101) dX12_inForce_101 rfl rfl
    by_cases qc6 : Int32.toInt x2 = 5
    · have H := H.2.2.2.2.2.1 qc6
      refine ea_tswIn (pc := 25) (tgt := 102) dX12_inForce_25 (by omega) (by omega) (by rw [qc6]; rfl) rfl ?_
      refine ea_aload_n (pc := 102) dX12_inForce_102 rfl 0 rfl ?_
      refine ea_getR (pc := 103) dX12_inForce_103 ec_12 (k := 31) (Nat.le_of_ble_eq_true rfl) rfl (Or.inl ew_1376) (hs_h.1 0 (by decide)).1 (hs_h.1 0 (by decide)).2.1 (hs_h.2 0 31 rfl) ?_
      refine ea_iload_n (pc := 106) dX12_inForce_106 rfl 2 rfl ?_
      obtain ⟨z5, H⟩ := H
      refine ea_iald (pc := 107) dX12_inForce_107 (hs_h.1 26 (by decide)).1 (hs_h.1 26 (by decide)).2.1 (ea_vpl (hs_h.1 26 (by decide)).2.2 z5) ?_
      obtain ⟨rfl, rfl⟩ := H
      exact ea_ireturn (pc := 108) dX12_inForce_108 rfl rfl
    by_cases qc7 : Int32.toInt x2 = 6
    · have H := H.2.2.2.2.2.2.1 qc7
      refine ea_tswIn (pc := 25) (tgt := 109) dX12_inForce_25 (by omega) (by omega) (by rw [qc7]; rfl) rfl ?_
      refine ea_aload_n (pc := 109) dX12_inForce_109 rfl 0 rfl ?_
      refine ea_getR (pc := 110) dX12_inForce_110 ec_12 (k := 32) (Nat.le_of_ble_eq_true rfl) rfl (Or.inl ew_1377) (hs_h.1 0 (by decide)).1 (hs_h.1 0 (by decide)).2.1 (hs_h.2 0 32 rfl) ?_
      refine ea_iload_n (pc := 113) dX12_inForce_113 rfl 2 rfl ?_
      obtain ⟨z6, H⟩ := H
      refine ea_iald (pc := 114) dX12_inForce_114 (hs_h.1 27 (by decide)).1 (hs_h.1 27 (by decide)).2.1 (ea_vpl (hs_h.1 27 (by decide)).2.2 z6) ?_
      obtain ⟨rfl, rfl⟩ := H
      exact ea_ireturn (pc := 115) dX12_inForce_115 rfl rfl
    by_cases qc8 : Int32.toInt x2 = 7
    · have H := H.2.2.2.2.2.2.2.1 qc8
      refine ea_tswIn (pc := 25) (tgt := 116) dX12_inForce_25 (by omega) (by omega) (by rw [qc8]; rfl) rfl ?_
      refine ea_aload_n (pc := 116) dX12_inForce_116 rfl 0 rfl ?_
      refine ea_getR (pc := 117) dX12_inForce_117 ec_12 (k := 33) (Nat.le_of_ble_eq_true rfl) rfl (Or.inl ew_1378) (hs_h.1 0 (by decide)).1 (hs_h.1 0 (by decide)).2.1 (hs_h.2 0 33 rfl) ?_
      refine ea_iload_n (pc := 120) dX12_inForce_120 rfl 2 rfl ?_
      obtain ⟨z7, H⟩ := H
      refine ea_iald (pc := 121) dX12_inForce_121 (hs_h.1 28 (by decide)).1 (hs_h.1 28 (by decide)).2.1 (ea_vpl (hs_h.1 28 (by decide)).2.2 z7) ?_
      obtain ⟨rfl, rfl⟩ := H
      exact ea_ireturn (pc := 122) dX12_inForce_122 rfl rfl
    have qd : Int32.toInt x2 < 0 ∨ 7 < Int32.toInt x2 := by omega
    have H := H.2.2.2.2.2.2.2.2 qd
    refine ea_tswOut (pc := 25) (tgt := 123) dX12_inForce_25 qd rfl ?_
    refine ea_iconst (pc := 123) dX12_inForce_123 (v := (-1)) rfl ?_
    obtain ⟨rfl, rfl⟩ := H
    exact ea_ireturn (pc := 124) dX12_inForce_124 rfl rfl
  · have H := H.2 c8
    refine ea_iconst (pc := 22) dX12_inForce_22 (v := (-1)) rfl ?_
    obtain ⟨rfl, rfl⟩ := H
    exact ea_ireturn (pc := 23) dX12_inForce_23 rfl rfl
theorem pX12_isCross_0 {d b0 : Nat} {h0 hE h : ea_H} {rv : Option ea_V} {x1 : Int32} {x2 : Int32} (hd : 1 ≤ d) (hs_h : ShM b0 h) (H : (x1 = (0 : Int32) → rv = some (vI 0) ∧ hE = h) ∧ (¬ x1 = (0 : Int32) → (¬ x2 = (0 : Int32) → ∃ (d1 : Nat) (xc5 : Int32) (h2 : ea_H), ea_Met mX12_milesOf d1 [vR (some (b0 + 0)), vI x1, vI x2, vI 0] h (some (vI xc5)) h2 ∧ d1 + 1 ≤ d ∧ ShM b0 h2 ∧ (xc5 = (1000000 : Int32) → rv = some (vI 0) ∧ hE = h2) ∧ (¬ xc5 = (1000000 : Int32) → ∃ (d6 : Nat) (xc10 : Int32) (h7 : ea_H), ea_Met mX12_milesOf d6 [vR (some (b0 + 0)), vI x1, vI x2, vI 1] h2 (some (vI xc10)) h7 ∧ d6 + 1 ≤ d ∧ ShM b0 h7 ∧ (¬ xc10 = xc5 → rv = some (vI 0) ∧ hE = h7) ∧ (xc10 = xc5 → rv = some (vI 1) ∧ hE = h7))) ∧ (x2 = (0 : Int32) → rv = some (vI 0) ∧ hE = h))) : ea_W mX12_isCross d h0 rv hE 0 [(0, vR (some (b0 + 0))), (1, vI x1), (2, vI x2)] [] h := by
  refine ea_iload_n (pc := 0) dX12_isCross_0 rfl 1 rfl ?_
  refine ea_if_eq (pc := 1) (tgt := 8) dX12_isCross_1 rfl (fun c14 => ?_) (fun c14 => ?_)
  · have H := H.1 c14
    refine ea_iconst (pc := 8) dX12_isCross_8 (v := 0) rfl ?_
    obtain ⟨rfl, rfl⟩ := H
    exact ea_ireturn (pc := 9) dX12_isCross_9 rfl (ea_bn (Or.inl rfl))
  · have H := H.2 c14
    refine ea_iload_n (pc := 4) dX12_isCross_4 rfl 2 rfl ?_
    refine ea_if_ne (pc := 5) (tgt := 10) dX12_isCross_5 rfl (fun c13 => ?_) (fun c13 => ?_)
    · have H := H.1 c13
      refine ea_aload_n (pc := 10) dX12_isCross_10 rfl 0 rfl ?_
      refine ea_iload_n (pc := 11) dX12_isCross_11 rfl 1 rfl ?_
      refine ea_iload_n (pc := 12) dX12_isCross_12 rfl 2 rfl ?_
      refine ea_iconst (pc := 13) dX12_isCross_13 (v := 0) rfl ?_
      obtain ⟨d1, xc5, h2, m3, q4, hs_h2, H⟩ := H
      refine ea_callV (pc := 14) (As := [vI x1, vI x2, vI 0]) (st := []) dX12_isCross_14 kX12_milesOf m3 q4 rfl (Nat.le_of_ble_eq_true rfl) ew_1719 ew_1721 ew_48 (ci := 12) rfl (by decide) (hs_h.1 0 (by decide)).1 (hs_h.1 0 (by decide)).2.1 ?_
      refine ea_istore_n (pc := 17) (lv' := [(0, vR (some (b0 + 0))), (1, vI x1), (2, vI x2), (3, vI xc5)]) dX12_isCross_17 rfl (Nat.le_of_ble_eq_true rfl) [1, 2, 3, 0] rfl ?_
      refine ea_iload_n (pc := 18) dX12_isCross_18 rfl 3 rfl ?_
      refine ea_ldcw (pc := 19) dX12_isCross_19 ew_1727 ?_
      refine ea_icmp_eq (pc := 22) (tgt := 40) dX12_isCross_22 rfl (fun c12 => ?_) (fun c12 => ?_)
      · have H := H.1 c12
        refine ea_iconst (pc := 40) dX12_isCross_40 (v := 0) rfl ?_
        obtain ⟨rfl, rfl⟩ := H
        exact ea_ireturn (pc := 41) dX12_isCross_41 rfl (ea_bn (Or.inl rfl))
      · have H := H.2 c12
        refine ea_aload_n (pc := 25) dX12_isCross_25 rfl 0 rfl ?_
        refine ea_iload_n (pc := 26) dX12_isCross_26 rfl 1 rfl ?_
        refine ea_iload_n (pc := 27) dX12_isCross_27 rfl 2 rfl ?_
        refine ea_iconst (pc := 28) dX12_isCross_28 (v := 1) rfl ?_
        obtain ⟨d6, xc10, h7, m8, q9, hs_h7, H⟩ := H
        refine ea_callV (pc := 29) (As := [vI x1, vI x2, vI 1]) (st := []) dX12_isCross_29 kX12_milesOf m8 q9 rfl (Nat.le_of_ble_eq_true rfl) ew_1719 ew_1721 ew_48 (ci := 12) rfl (by decide) (hs_h2.1 0 (by decide)).1 (hs_h2.1 0 (by decide)).2.1 ?_
        refine ea_iload_n (pc := 32) dX12_isCross_32 rfl 3 rfl ?_
        refine ea_icmp_ne (pc := 33) (tgt := 40) dX12_isCross_33 rfl (fun c11 => ?_) (fun c11 => ?_)
        · have H := H.1 c11
          refine ea_iconst (pc := 40) dX12_isCross_40 (v := 0) rfl ?_
          obtain ⟨rfl, rfl⟩ := H
          exact ea_ireturn (pc := 41) dX12_isCross_41 rfl (ea_bn (Or.inl rfl))
        · have H := H.2 c11
          refine ea_iconst (pc := 36) dX12_isCross_36 (v := 1) rfl ?_
          refine ea_goto (pc := 37) (tgt := 41) dX12_isCross_37 rfl ?_
          obtain ⟨rfl, rfl⟩ := H
          exact ea_ireturn (pc := 41) dX12_isCross_41 rfl (ea_bn (Or.inr rfl))
    · have H := H.2 c13
      refine ea_iconst (pc := 8) dX12_isCross_8 (v := 0) rfl ?_
      obtain ⟨rfl, rfl⟩ := H
      exact ea_ireturn (pc := 9) dX12_isCross_9 rfl (ea_bn (Or.inl rfl))
theorem pX12_comesTo_0 {d b0 : Nat} {h0 hE h : ea_H} {rv : Option ea_V} {x1 : Int32} {x2 : Int32} {x3 : Int32} (hd : 2 ≤ d) (hs_h : ShM b0 h) (H : ea_W mX12_comesTo d h0 rv hE 6 [(0, vR (some (b0 + 0))), (1, vI x1), (3, vI x3), (4, vI 0), (5, vI x2)] [] h) : ea_W mX12_comesTo d h0 rv hE 0 [(0, vR (some (b0 + 0))), (1, vI x1), (2, vI x2), (3, vI x3)] [] h := by
  refine ea_iconst (pc := 0) dX12_comesTo_0 (v := 0) rfl ?_
  refine ea_istore (pc := 1) (lv' := [(0, vR (some (b0 + 0))), (1, vI x1), (2, vI x2), (3, vI x3), (4, vI 0)]) dX12_comesTo_1 (Nat.le_of_ble_eq_true rfl) [1, 2, 3, 4, 0] rfl ?_
  refine ea_iload_n (pc := 3) dX12_comesTo_3 rfl 2 rfl ?_
  refine ea_istore (pc := 4) (lv' := [(0, vR (some (b0 + 0))), (1, vI x1), (3, vI x3), (4, vI 0), (5, vI x2)]) dX12_comesTo_4 (Nat.le_of_ble_eq_true rfl) [1, 2, 4, 5, 0] rfl ?_
  exact H
theorem pX12_comesTo_6 {d b0 : Nat} {h0 hE h : ea_H} {rv : Option ea_V} {x1 : Int32} {x3 : Int32} {x4 : Int32} {x5 : Int32} (hd : 2 ≤ d) (hs_h : ShM b0 h) (H : (x3 ≤ x5 → rv = some (vI (ea_i h (b0 + 37) (Int32.toNatClampNeg 0))) ∧ hE = h) ∧ (¬ x3 ≤ x5 → vp_in (((1220 : Int32) * x1) + ((2 : Int32) * x5)) 7320 ∧ vp_in ((((1220 : Int32) * x1) + ((2 : Int32) * x5)) + (1 : Int32)) 7320 ∧ ((8 : Int32) ≤ (ea_i h (b0 + 32) (Int32.toNatClampNeg (((1220 : Int32) * x1) + ((2 : Int32) * x5)))) → (¬ (ea_i h (b0 + 32) (Int32.toNatClampNeg (((1220 : Int32) * x1) + ((2 : Int32) * x5)))) = (11 : Int32) → (¬ (ea_i h (b0 + 32) (Int32.toNatClampNeg (((1220 : Int32) * x1) + ((2 : Int32) * x5)))) = (15 : Int32) → vp_in ((x4 + (-1)) - (1 : Int32)) 620 ∧ vp_in (x4 + (-1)) 620 ∧ vp_in ((x4 + (-1)) - (1 : Int32)) 620 ∧ ∀ h15, h15 = ea_wi h (b0 + 37) (Int32.toNatClampNeg ((x4 + (-1)) - (1 : Int32))) (vX12_both ((ea_i h (b0 + 32) (Int32.toNatClampNeg (((1220 : Int32) * x1) + ((2 : Int32) * x5)))) : Int32) ((ea_i h (b0 + 37) (Int32.toNatClampNeg ((x4 + (-1)) - (1 : Int32)))) : Int32) ((ea_i h (b0 + 37) (Int32.toNatClampNeg (x4 + (-1)))) : Int32) h) → ea_W mX12_comesTo d h0 rv hE 6 [(0, vR (some (b0 + 0))), (1, vI x1), (3, vI x3), (4, vI (x4 + (-1))), (5, vI (x5 + 1))] [] h15) ∧ ((ea_i h (b0 + 32) (Int32.toNatClampNeg (((1220 : Int32) * x1) + ((2 : Int32) * x5)))) = (15 : Int32) → vp_in (x4 - (1 : Int32)) 620 ∧ vp_in (x4 - (1 : Int32)) 620 ∧ ∀ h20, h20 = ea_wi h (b0 + 37) (Int32.toNatClampNeg (x4 - (1 : Int32))) ((1 : Int32) - (ea_i h (b0 + 37) (Int32.toNatClampNeg (x4 - (1 : Int32))))) → ea_W mX12_comesTo d h0 rv hE 6 [(0, vR (some (b0 + 0))), (1, vI x1), (3, vI x3), (4, vI x4), (5, vI (x5 + 1))] [] h20)) ∧ ((ea_i h (b0 + 32) (Int32.toNatClampNeg (((1220 : Int32) * x1) + ((2 : Int32) * x5)))) = (11 : Int32) → vp_in (x4 - (1 : Int32)) 620 ∧ (¬ (ea_i h (b0 + 32) (Int32.toNatClampNeg ((((1220 : Int32) * x1) + ((2 : Int32) * x5)) + (1 : Int32)))) = 0) ∧ vp_in (x4 - (1 : Int32)) 620 ∧ ∀ h25, h25 = ea_wi h (b0 + 37) (Int32.toNatClampNeg (x4 - (1 : Int32))) ((ea_i h (b0 + 37) (Int32.toNatClampNeg (x4 - (1 : Int32)))) / (ea_i h (b0 + 32) (Int32.toNatClampNeg ((((1220 : Int32) * x1) + ((2 : Int32) * x5)) + (1 : Int32))))) → ea_W mX12_comesTo d h0 rv hE 6 [(0, vR (some (b0 + 0))), (1, vI x1), (3, vI x3), (4, vI x4), (5, vI (x5 + 1))] [] h25)) ∧ (¬ (8 : Int32) ≤ (ea_i h (b0 + 32) (Int32.toNatClampNeg (((1220 : Int32) * x1) + ((2 : Int32) * x5)))) → (¬ (ea_i h (b0 + 32) (Int32.toNatClampNeg (((1220 : Int32) * x1) + ((2 : Int32) * x5)))) = (0 : Int32) → vp_in (ea_i h (b0 + 32) (Int32.toNatClampNeg (((1220 : Int32) * x1) + ((2 : Int32) * x5)))) 8 ∧ vp_in x4 620 ∧ ∀ h31, h31 = ea_wi h (b0 + 37) (Int32.toNatClampNeg x4) (ea_i h (b0 + 65) (Int32.toNatClampNeg (ea_i h (b0 + 32) (Int32.toNatClampNeg (((1220 : Int32) * x1) + ((2 : Int32) * x5)))))) → ea_W mX12_comesTo d h0 rv hE 6 [(0, vR (some (b0 + 0))), (1, vI x1), (3, vI x3), (4, vI (x4 + 1)), (5, vI (x5 + 1))] [] h31) ∧ ((ea_i h (b0 + 32) (Int32.toNatClampNeg (((1220 : Int32) * x1) + ((2 : Int32) * x5)))) = (0 : Int32) → vp_in x4 620 ∧ ∀ h34, h34 = ea_wi h (b0 + 37) (Int32.toNatClampNeg x4) (ea_i h (b0 + 32) (Int32.toNatClampNeg ((((1220 : Int32) * x1) + ((2 : Int32) * x5)) + (1 : Int32)))) → ea_W mX12_comesTo d h0 rv hE 6 [(0, vR (some (b0 + 0))), (1, vI x1), (3, vI x3), (4, vI (x4 + 1)), (5, vI (x5 + 1))] [] h34)))) : ea_W mX12_comesTo d h0 rv hE 6 [(0, vR (some (b0 + 0))), (1, vI x1), (3, vI x3), (4, vI x4), (5, vI x5)] [] h := by
  refine ea_iload (pc := 6) dX12_comesTo_6 4 rfl ?_
  refine ea_iload_n (pc := 8) dX12_comesTo_8 rfl 2 rfl ?_
  refine ea_icmp_ge (pc := 9) (tgt := 178) dX12_comesTo_9 rfl (fun c38 => ?_) (fun c38 => ?_)
  · have H := H.1 c38
    refine ea_aload_n (pc := 178) dX12_comesTo_178 rfl 0 rfl ?_
    refine ea_getR (pc := 179) dX12_comesTo_179 ec_12 (k := 42) (Nat.le_of_ble_eq_true rfl) rfl (Or.inl ew_1387) (hs_h.1 0 (by decide)).1 (hs_h.1 0 (by decide)).2.1 (hs_h.2 0 42 rfl) ?_
    refine ea_iconst (pc := 182) dX12_comesTo_182 (v := 0) rfl ?_
    refine ea_iald (pc := 183) dX12_comesTo_183 (hs_h.1 37 (by decide)).1 (hs_h.1 37 (by decide)).2.1 (ea_vpl (n := 620) (hs_h.1 37 (by decide)).2.2 (by unfold vp_in; decide)) ?_
    obtain ⟨rfl, rfl⟩ := H
    exact ea_ireturn (pc := 184) dX12_comesTo_184 rfl rfl
  · have H := H.2 c38
    refine ea_aload_n (pc := 12) dX12_comesTo_12 rfl 0 rfl ?_
    refine ea_getR (pc := 13) dX12_comesTo_13 ec_12 (k := 37) (Nat.le_of_ble_eq_true rfl) rfl (Or.inl ew_1382) (hs_h.1 0 (by decide)).1 (hs_h.1 0 (by decide)).2.1 (hs_h.2 0 37 rfl) ?_
    refine ea_sipush (pc := 16) dX12_comesTo_16 (v := 1220) rfl ?_
    refine ea_iload_n (pc := 19) dX12_comesTo_19 rfl 1 rfl ?_
    refine ea_imul (pc := 20) dX12_comesTo_20 ?_
    refine ea_iconst (pc := 21) dX12_comesTo_21 (v := 2) rfl ?_
    refine ea_iload (pc := 22) dX12_comesTo_22 4 rfl ?_
    refine ea_imul (pc := 24) dX12_comesTo_24 ?_
    refine ea_iadd (pc := 25) dX12_comesTo_25 ?_
    obtain ⟨z2, H⟩ := H
    refine ea_iald (pc := 26) dX12_comesTo_26 (hs_h.1 32 (by decide)).1 (hs_h.1 32 (by decide)).2.1 (ea_vpl (hs_h.1 32 (by decide)).2.2 z2) ?_
    refine ea_istore (pc := 27) (lv' := [(0, vR (some (b0 + 0))), (1, vI x1), (3, vI x3), (4, vI x4), (5, vI x5), (6, vI (ea_i h (b0 + 32) (Int32.toNatClampNeg (((1220 : Int32) * x1) + ((2 : Int32) * x5)))))]) dX12_comesTo_27 (Nat.le_of_ble_eq_true rfl) [1, 2, 3, 4, 5, 0] rfl ?_
    refine ea_aload_n (pc := 29) dX12_comesTo_29 rfl 0 rfl ?_
    refine ea_getR (pc := 30) dX12_comesTo_30 ec_12 (k := 37) (Nat.le_of_ble_eq_true rfl) rfl (Or.inl ew_1382) (hs_h.1 0 (by decide)).1 (hs_h.1 0 (by decide)).2.1 (hs_h.2 0 37 rfl) ?_
    refine ea_sipush (pc := 33) dX12_comesTo_33 (v := 1220) rfl ?_
    refine ea_iload_n (pc := 36) dX12_comesTo_36 rfl 1 rfl ?_
    refine ea_imul (pc := 37) dX12_comesTo_37 ?_
    refine ea_iconst (pc := 38) dX12_comesTo_38 (v := 2) rfl ?_
    refine ea_iload (pc := 39) dX12_comesTo_39 4 rfl ?_
    refine ea_imul (pc := 41) dX12_comesTo_41 ?_
    refine ea_iadd (pc := 42) dX12_comesTo_42 ?_
    refine ea_iconst (pc := 43) dX12_comesTo_43 (v := 1) rfl ?_
    refine ea_iadd (pc := 44) dX12_comesTo_44 ?_
    obtain ⟨z3, H⟩ := H
    refine ea_iald (pc := 45) dX12_comesTo_45 (hs_h.1 32 (by decide)).1 (hs_h.1 32 (by decide)).2.1 (ea_vpl (hs_h.1 32 (by decide)).2.2 z3) ?_
    refine ea_istore (pc := 46) (lv' := [(0, vR (some (b0 + 0))), (1, vI x1), (3, vI x3), (4, vI x4), (5, vI x5), (6, vI (ea_i h (b0 + 32) (Int32.toNatClampNeg (((1220 : Int32) * x1) + ((2 : Int32) * x5))))), (7, vI (ea_i h (b0 + 32) (Int32.toNatClampNeg ((((1220 : Int32) * x1) + ((2 : Int32) * x5)) + (1 : Int32)))))]) dX12_comesTo_46 (Nat.le_of_ble_eq_true rfl) [1, 2, 3, 4, 5, 6, 0] rfl ?_
    refine ea_iload (pc := 48) dX12_comesTo_48 5 rfl ?_
    refine ea_bipush (pc := 50) dX12_comesTo_50 (v := 8) rfl ?_
    refine ea_icmp_ge (pc := 52) (tgt := 85) dX12_comesTo_52 rfl (fun c37 => ?_) (fun c37 => ?_)
    · have H := H.1 c37
      refine ea_iload (pc := 85) dX12_comesTo_85 5 rfl ?_
      refine ea_bipush (pc := 87) dX12_comesTo_87 (v := 11) rfl ?_
      refine ea_icmp_ne (pc := 89) (tgt := 109) dX12_comesTo_89 rfl (fun c28 => ?_) (fun c28 => ?_)
      · have H := H.1 c28
        refine ea_iload (pc := 109) dX12_comesTo_109 5 rfl ?_
        refine ea_bipush (pc := 111) dX12_comesTo_111 (v := 15) rfl ?_
        refine ea_icmp_ne (pc := 113) (tgt := 139) dX12_comesTo_113 rfl (fun c22 => ?_) (fun c22 => ?_)
        · have H := H.1 c22
          refine ea_iinc (pc := 139) (v := (-1)) (lv' := [(0, vR (some (b0 + 0))), (1, vI x1), (3, vI x3), (4, vI (x4 + (-1))), (5, vI x5), (6, vI (ea_i h (b0 + 32) (Int32.toNatClampNeg (((1220 : Int32) * x1) + ((2 : Int32) * x5)))))]) dX12_comesTo_139 3 rfl rfl (Nat.le_of_ble_eq_true rfl) [1, 2, 3, 0, 4, 5] rfl ?_
          refine ea_aload_n (pc := 142) dX12_comesTo_142 rfl 0 rfl ?_
          refine ea_getR (pc := 143) dX12_comesTo_143 ec_12 (k := 42) (Nat.le_of_ble_eq_true rfl) rfl (Or.inl ew_1387) (hs_h.1 0 (by decide)).1 (hs_h.1 0 (by decide)).2.1 (hs_h.2 0 42 rfl) ?_
          refine ea_iload (pc := 146) dX12_comesTo_146 3 rfl ?_
          refine ea_iconst (pc := 148) dX12_comesTo_148 (v := 1) rfl ?_
          refine ea_isub (pc := 149) dX12_comesTo_149 ?_
          refine ea_iload (pc := 150) dX12_comesTo_150 5 rfl ?_
          refine ea_aload_n (pc := 152) dX12_comesTo_152 rfl 0 rfl ?_
          refine ea_getR (pc := 153) dX12_comesTo_153 ec_12 (k := 42) (Nat.le_of_ble_eq_true rfl) rfl (Or.inl ew_1387) (hs_h.1 0 (by decide)).1 (hs_h.1 0 (by decide)).2.1 (hs_h.2 0 42 rfl) ?_
          refine ea_iload (pc := 156) dX12_comesTo_156 3 rfl ?_
          refine ea_iconst (pc := 158) dX12_comesTo_158 (v := 1) rfl ?_
          refine ea_isub (pc := 159) dX12_comesTo_159 ?_
          obtain ⟨z4, H⟩ := H
          refine ea_iald (pc := 160) dX12_comesTo_160 (hs_h.1 37 (by decide)).1 (hs_h.1 37 (by decide)).2.1 (ea_vpl (hs_h.1 37 (by decide)).2.2 z4) ?_
          refine ea_aload_n (pc := 161) dX12_comesTo_161 rfl 0 rfl ?_
          refine ea_getR (pc := 162) dX12_comesTo_162 ec_12 (k := 42) (Nat.le_of_ble_eq_true rfl) rfl (Or.inl ew_1387) (hs_h.1 0 (by decide)).1 (hs_h.1 0 (by decide)).2.1 (hs_h.2 0 42 rfl) ?_
          refine ea_iload (pc := 165) dX12_comesTo_165 3 rfl ?_
          obtain ⟨z5, H⟩ := H
          refine ea_iald (pc := 167) dX12_comesTo_167 (hs_h.1 37 (by decide)).1 (hs_h.1 37 (by decide)).2.1 (ea_vpl (hs_h.1 37 (by decide)).2.2 z5) ?_
          refine ea_callS (pc := 168) (d' := d - 1) (As := [vI (ea_i h (b0 + 32) (Int32.toNatClampNeg (((1220 : Int32) * x1) + ((2 : Int32) * x5)))), vI (ea_i h (b0 + 37) (Int32.toNatClampNeg ((x4 + (-1)) - (1 : Int32)))), vI (ea_i h (b0 + 37) (Int32.toNatClampNeg (x4 + (-1))))]) (st := [vI ((x4 + (-1)) - (1 : Int32)), vR (some (b0 + 37))]) dX12_comesTo_168 kX12_both (sX12_both (d := d - 1) (by omega)) (by omega) rfl (Nat.le_of_ble_eq_true rfl) ew_2007 ew_2008 ?_
          obtain ⟨z14, H⟩ := H
          refine ea_iast (pc := 171) dX12_comesTo_171 (hs_h.1 37 (by decide)).1 (hs_h.1 37 (by decide)).2.1 (ea_vpl (hs_h.1 37 (by decide)).2.2 z14) ?_
          obtain ⟨h15, E16⟩ : ∃ z, z = ea_wi h (b0 + 37) (Int32.toNatClampNeg ((x4 + (-1)) - (1 : Int32))) (vX12_both ((ea_i h (b0 + 32) (Int32.toNatClampNeg (((1220 : Int32) * x1) + ((2 : Int32) * x5)))) : Int32) ((ea_i h (b0 + 37) (Int32.toNatClampNeg ((x4 + (-1)) - (1 : Int32)))) : Int32) ((ea_i h (b0 + 37) (Int32.toNatClampNeg (x4 + (-1)))) : Int32) h) := ⟨_, rfl⟩
          have H := H h15 E16
          refine ea_nm E16 ?_
          have hs_h15 : ShM b0 h15 := by rw [E16]; exact ShM_wi hs_h
          refine ea_iinc (pc := 172) (v := 1) (lv' := [(0, vR (some (b0 + 0))), (1, vI x1), (3, vI x3), (4, vI (x4 + (-1))), (5, vI (x5 + 1))]) dX12_comesTo_172 4 rfl rfl (Nat.le_of_ble_eq_true rfl) [1, 2, 3, 4, 0] rfl ?_
          refine ea_goto (pc := 175) (tgt := 6) dX12_comesTo_175 rfl ?_
          exact H
        · have H := H.2 c22
          refine ea_aload_n (pc := 116) dX12_comesTo_116 rfl 0 rfl ?_
          refine ea_getR (pc := 117) dX12_comesTo_117 ec_12 (k := 42) (Nat.le_of_ble_eq_true rfl) rfl (Or.inl ew_1387) (hs_h.1 0 (by decide)).1 (hs_h.1 0 (by decide)).2.1 (hs_h.2 0 42 rfl) ?_
          refine ea_iload (pc := 120) dX12_comesTo_120 3 rfl ?_
          refine ea_iconst (pc := 122) dX12_comesTo_122 (v := 1) rfl ?_
          refine ea_isub (pc := 123) dX12_comesTo_123 ?_
          refine ea_iconst (pc := 124) dX12_comesTo_124 (v := 1) rfl ?_
          refine ea_aload_n (pc := 125) dX12_comesTo_125 rfl 0 rfl ?_
          refine ea_getR (pc := 126) dX12_comesTo_126 ec_12 (k := 42) (Nat.le_of_ble_eq_true rfl) rfl (Or.inl ew_1387) (hs_h.1 0 (by decide)).1 (hs_h.1 0 (by decide)).2.1 (hs_h.2 0 42 rfl) ?_
          refine ea_iload (pc := 129) dX12_comesTo_129 3 rfl ?_
          refine ea_iconst (pc := 131) dX12_comesTo_131 (v := 1) rfl ?_
          refine ea_isub (pc := 132) dX12_comesTo_132 ?_
          obtain ⟨z18, H⟩ := H
          refine ea_iald (pc := 133) dX12_comesTo_133 (hs_h.1 37 (by decide)).1 (hs_h.1 37 (by decide)).2.1 (ea_vpl (hs_h.1 37 (by decide)).2.2 z18) ?_
          refine ea_isub (pc := 134) dX12_comesTo_134 ?_
          obtain ⟨z19, H⟩ := H
          refine ea_iast (pc := 135) dX12_comesTo_135 (hs_h.1 37 (by decide)).1 (hs_h.1 37 (by decide)).2.1 (ea_vpl (hs_h.1 37 (by decide)).2.2 z19) ?_
          obtain ⟨h20, E21⟩ : ∃ z, z = ea_wi h (b0 + 37) (Int32.toNatClampNeg (x4 - (1 : Int32))) ((1 : Int32) - (ea_i h (b0 + 37) (Int32.toNatClampNeg (x4 - (1 : Int32))))) := ⟨_, rfl⟩
          have H := H h20 E21
          refine ea_nm E21 ?_
          have hs_h20 : ShM b0 h20 := by rw [E21]; exact ShM_wi hs_h
          refine ea_goto (pc := 136) (tgt := 172) dX12_comesTo_136 rfl ?_
          refine ea_iinc (pc := 172) (v := 1) (lv' := [(0, vR (some (b0 + 0))), (1, vI x1), (3, vI x3), (4, vI x4), (5, vI (x5 + 1))]) dX12_comesTo_172 4 rfl rfl (Nat.le_of_ble_eq_true rfl) [1, 2, 3, 4, 0] rfl ?_
          refine ea_goto (pc := 175) (tgt := 6) dX12_comesTo_175 rfl ?_
          exact H
      · have H := H.2 c28
        refine ea_aload_n (pc := 92) dX12_comesTo_92 rfl 0 rfl ?_
        refine ea_getR (pc := 93) dX12_comesTo_93 ec_12 (k := 42) (Nat.le_of_ble_eq_true rfl) rfl (Or.inl ew_1387) (hs_h.1 0 (by decide)).1 (hs_h.1 0 (by decide)).2.1 (hs_h.2 0 42 rfl) ?_
        refine ea_iload (pc := 96) dX12_comesTo_96 3 rfl ?_
        refine ea_iconst (pc := 98) dX12_comesTo_98 (v := 1) rfl ?_
        refine ea_isub (pc := 99) dX12_comesTo_99 ?_
        refine ea_dup2 (pc := 100) dX12_comesTo_100 rfl rfl ?_
        obtain ⟨z23, H⟩ := H
        refine ea_iald (pc := 101) dX12_comesTo_101 (hs_h.1 37 (by decide)).1 (hs_h.1 37 (by decide)).2.1 (ea_vpl (hs_h.1 37 (by decide)).2.2 z23) ?_
        refine ea_iload (pc := 102) dX12_comesTo_102 6 rfl ?_
        obtain ⟨z27, H⟩ := H
        refine ea_idiv (pc := 104) dX12_comesTo_104 z27 ?_
        obtain ⟨z24, H⟩ := H
        refine ea_iast (pc := 105) dX12_comesTo_105 (hs_h.1 37 (by decide)).1 (hs_h.1 37 (by decide)).2.1 (ea_vpl (hs_h.1 37 (by decide)).2.2 z24) ?_
        obtain ⟨h25, E26⟩ : ∃ z, z = ea_wi h (b0 + 37) (Int32.toNatClampNeg (x4 - (1 : Int32))) ((ea_i h (b0 + 37) (Int32.toNatClampNeg (x4 - (1 : Int32)))) / (ea_i h (b0 + 32) (Int32.toNatClampNeg ((((1220 : Int32) * x1) + ((2 : Int32) * x5)) + (1 : Int32))))) := ⟨_, rfl⟩
        have H := H h25 E26
        refine ea_nm E26 ?_
        have hs_h25 : ShM b0 h25 := by rw [E26]; exact ShM_wi hs_h
        refine ea_goto (pc := 106) (tgt := 172) dX12_comesTo_106 rfl ?_
        refine ea_iinc (pc := 172) (v := 1) (lv' := [(0, vR (some (b0 + 0))), (1, vI x1), (3, vI x3), (4, vI x4), (5, vI (x5 + 1))]) dX12_comesTo_172 4 rfl rfl (Nat.le_of_ble_eq_true rfl) [1, 2, 3, 4, 0] rfl ?_
        refine ea_goto (pc := 175) (tgt := 6) dX12_comesTo_175 rfl ?_
        exact H
    · have H := H.2 c37
      refine ea_aload_n (pc := 55) dX12_comesTo_55 rfl 0 rfl ?_
      refine ea_getR (pc := 56) dX12_comesTo_56 ec_12 (k := 42) (Nat.le_of_ble_eq_true rfl) rfl (Or.inl ew_1387) (hs_h.1 0 (by decide)).1 (hs_h.1 0 (by decide)).2.1 (hs_h.2 0 42 rfl) ?_
      refine ea_iload (pc := 59) dX12_comesTo_59 3 rfl ?_
      refine ea_iload (pc := 61) dX12_comesTo_61 5 rfl ?_
      refine ea_if_ne (pc := 63) (tgt := 71) dX12_comesTo_63 rfl (fun c36 => ?_) (fun c36 => ?_)
      · have H := H.1 c36
        refine ea_aload_n (pc := 71) dX12_comesTo_71 rfl 0 rfl ?_
        refine ea_getR (pc := 72) dX12_comesTo_72 ec_12 (k := 91) (Nat.le_of_ble_eq_true rfl) rfl (Or.inl ew_1436) (hs_h.1 0 (by decide)).1 (hs_h.1 0 (by decide)).2.1 (hs_h.2 0 91 rfl) ?_
        refine ea_iload (pc := 75) dX12_comesTo_75 5 rfl ?_
        obtain ⟨z29, H⟩ := H
        refine ea_iald (pc := 77) dX12_comesTo_77 (hs_h.1 65 (by decide)).1 (hs_h.1 65 (by decide)).2.1 (ea_vpl (hs_h.1 65 (by decide)).2.2 z29) ?_
        obtain ⟨z30, H⟩ := H
        refine ea_iast (pc := 78) dX12_comesTo_78 (hs_h.1 37 (by decide)).1 (hs_h.1 37 (by decide)).2.1 (ea_vpl (hs_h.1 37 (by decide)).2.2 z30) ?_
        obtain ⟨h31, E32⟩ : ∃ z, z = ea_wi h (b0 + 37) (Int32.toNatClampNeg x4) (ea_i h (b0 + 65) (Int32.toNatClampNeg (ea_i h (b0 + 32) (Int32.toNatClampNeg (((1220 : Int32) * x1) + ((2 : Int32) * x5)))))) := ⟨_, rfl⟩
        have H := H h31 E32
        refine ea_nm E32 ?_
        have hs_h31 : ShM b0 h31 := by rw [E32]; exact ShM_wi hs_h
        refine ea_iinc (pc := 79) (v := 1) (lv' := [(0, vR (some (b0 + 0))), (1, vI x1), (3, vI x3), (4, vI (x4 + 1)), (5, vI x5)]) dX12_comesTo_79 3 rfl rfl (Nat.le_of_ble_eq_true rfl) [1, 2, 3, 0, 4] rfl ?_
        refine ea_goto (pc := 82) (tgt := 172) dX12_comesTo_82 rfl ?_
        refine ea_iinc (pc := 172) (v := 1) (lv' := [(0, vR (some (b0 + 0))), (1, vI x1), (3, vI x3), (4, vI (x4 + 1)), (5, vI (x5 + 1))]) dX12_comesTo_172 4 rfl rfl (Nat.le_of_ble_eq_true rfl) [1, 2, 3, 4, 0] rfl ?_
        refine ea_goto (pc := 175) (tgt := 6) dX12_comesTo_175 rfl ?_
        exact H
      · have H := H.2 c36
        refine ea_iload (pc := 66) dX12_comesTo_66 6 rfl ?_
        refine ea_goto (pc := 68) (tgt := 78) dX12_comesTo_68 rfl ?_
        obtain ⟨z33, H⟩ := H
        refine ea_iast (pc := 78) dX12_comesTo_78 (hs_h.1 37 (by decide)).1 (hs_h.1 37 (by decide)).2.1 (ea_vpl (hs_h.1 37 (by decide)).2.2 z33) ?_
        obtain ⟨h34, E35⟩ : ∃ z, z = ea_wi h (b0 + 37) (Int32.toNatClampNeg x4) (ea_i h (b0 + 32) (Int32.toNatClampNeg ((((1220 : Int32) * x1) + ((2 : Int32) * x5)) + (1 : Int32)))) := ⟨_, rfl⟩
        have H := H h34 E35
        refine ea_nm E35 ?_
        have hs_h34 : ShM b0 h34 := by rw [E35]; exact ShM_wi hs_h
        refine ea_iinc (pc := 79) (v := 1) (lv' := [(0, vR (some (b0 + 0))), (1, vI x1), (3, vI x3), (4, vI (x4 + 1)), (5, vI x5)]) dX12_comesTo_79 3 rfl rfl (Nat.le_of_ble_eq_true rfl) [1, 2, 3, 0, 4] rfl ?_
        refine ea_goto (pc := 82) (tgt := 172) dX12_comesTo_82 rfl ?_
        refine ea_iinc (pc := 172) (v := 1) (lv' := [(0, vR (some (b0 + 0))), (1, vI x1), (3, vI x3), (4, vI (x4 + 1)), (5, vI (x5 + 1))]) dX12_comesTo_172 4 rfl rfl (Nat.le_of_ble_eq_true rfl) [1, 2, 3, 4, 0] rfl ?_
        refine ea_goto (pc := 175) (tgt := 6) dX12_comesTo_175 rfl ?_
        exact H
theorem pX12_lineOf_0 {d b0 : Nat} {h0 hE h : ea_H} {rv : Option ea_V} {x1 : Int32} {x2 : Int32} (hd : 2 ≤ d) (hs_h : ShM b0 h) (H : (okX12_gathers b0 (x1 : Int32) h) ∧ ∀ h2, h2 = (wX12_gathers b0 (x1 : Int32) h) → ea_W mX12_lineOf d h0 rv hE 7 [(0, vR (some (b0 + 0))), (2, vI x2), (3, vI 0)] [] h2) : ea_W mX12_lineOf d h0 rv hE 0 [(0, vR (some (b0 + 0))), (1, vI x1), (2, vI x2)] [] h := by
  refine ea_aload_n (pc := 0) dX12_lineOf_0 rfl 0 rfl ?_
  refine ea_iload_n (pc := 1) dX12_lineOf_1 rfl 1 rfl ?_
  obtain ⟨z5, H⟩ := H
  refine ea_callV (pc := 2) (d' := d - 1) (As := [vI x1]) (st := []) dX12_lineOf_2 kX12_gathers (sX12_gathers (d := d - 1) (by omega) hs_h z5) (by omega) rfl (Nat.le_of_ble_eq_true rfl) ew_1999 ew_2001 ew_86 (ci := 12) rfl (by decide) (hs_h.1 0 (by decide)).1 (hs_h.1 0 (by decide)).2.1 ?_
  obtain ⟨h2, E6⟩ : ∃ z, z = (wX12_gathers b0 (x1 : Int32) h) := ⟨_, rfl⟩
  have H := H h2 E6
  refine ea_nm E6 ?_
  have hs_h2 : ShM b0 h2 := by rw [E6]; exact shX12_gathers hs_h
  refine ea_iconst (pc := 5) dX12_lineOf_5 (v := 0) rfl ?_
  refine ea_istore_n (pc := 6) (lv' := [(0, vR (some (b0 + 0))), (2, vI x2), (3, vI 0)]) dX12_lineOf_6 rfl (Nat.le_of_ble_eq_true rfl) [1, 3, 0] rfl ?_
  exact H
theorem pX12_lineOf_7 {d b0 : Nat} {h0 hE h : ea_H} {rv : Option ea_V} {x2 : Int32} {x3 : Int32} (hd : 2 ≤ d) (hs_h : ShM b0 h) (H : vp_in x2 6 ∧ ((ea_i h (b0 + 29) (Int32.toNatClampNeg x2)) ≤ x3 → rv = some (vI (-1)) ∧ hE = h) ∧ (¬ (ea_i h (b0 + 29) (Int32.toNatClampNeg x2)) ≤ x3 → vp_in (((24 : Int32) * x2) + x3) 144 ∧ vp_in ((((25 : Int32) * x2) + x3) + (1 : Int32)) 150 ∧ ((ea_i h (b0 + 31) (Int32.toNatClampNeg (((24 : Int32) * x2) + x3))) = (ea_i h (b0 + 30) (Int32.toNatClampNeg ((((25 : Int32) * x2) + x3) + (1 : Int32)))) → rv = some (vI x3) ∧ hE = h) ∧ (¬ (ea_i h (b0 + 31) (Int32.toNatClampNeg (((24 : Int32) * x2) + x3))) = (ea_i h (b0 + 30) (Int32.toNatClampNeg ((((25 : Int32) * x2) + x3) + (1 : Int32)))) → ∃ (d4 : Nat) (xc8 : Int32) (h5 : ea_H), ea_Met mX12_comesTo d4 [vR (some (b0 + 0)), vI x2, vI (ea_i h (b0 + 31) (Int32.toNatClampNeg (((24 : Int32) * x2) + x3))), vI (ea_i h (b0 + 30) (Int32.toNatClampNeg ((((25 : Int32) * x2) + x3) + (1 : Int32))))] h (some (vI xc8)) h5 ∧ d4 + 1 ≤ d ∧ ShM b0 h5 ∧ (¬ xc8 = (1 : Int32) → ea_W mX12_lineOf d h0 rv hE 7 [(0, vR (some (b0 + 0))), (2, vI x2), (3, vI (x3 + 1))] [] h5) ∧ (xc8 = (1 : Int32) → rv = some (vI x3) ∧ hE = h5)))) : ea_W mX12_lineOf d h0 rv hE 7 [(0, vR (some (b0 + 0))), (2, vI x2), (3, vI x3)] [] h := by
  refine ea_iload_n (pc := 7) dX12_lineOf_7 rfl 2 rfl ?_
  refine ea_aload_n (pc := 8) dX12_lineOf_8 rfl 0 rfl ?_
  refine ea_getR (pc := 9) dX12_lineOf_9 ec_12 (k := 34) (Nat.le_of_ble_eq_true rfl) rfl (Or.inl ew_1379) (hs_h.1 0 (by decide)).1 (hs_h.1 0 (by decide)).2.1 (hs_h.2 0 34 rfl) ?_
  refine ea_iload_n (pc := 12) dX12_lineOf_12 rfl 1 rfl ?_
  obtain ⟨z1, H⟩ := H
  refine ea_iald (pc := 13) dX12_lineOf_13 (hs_h.1 29 (by decide)).1 (hs_h.1 29 (by decide)).2.1 (ea_vpl (hs_h.1 29 (by decide)).2.2 z1) ?_
  refine ea_icmp_ge (pc := 14) (tgt := 73) dX12_lineOf_14 rfl (fun c11 => ?_) (fun c11 => ?_)
  · have H := H.1 c11
    refine ea_iconst (pc := 73) dX12_lineOf_73 (v := (-1)) rfl ?_
    obtain ⟨rfl, rfl⟩ := H
    exact ea_ireturn (pc := 74) dX12_lineOf_74 rfl rfl
  · have H := H.2 c11
    refine ea_aload_n (pc := 17) dX12_lineOf_17 rfl 0 rfl ?_
    refine ea_getR (pc := 18) dX12_lineOf_18 ec_12 (k := 36) (Nat.le_of_ble_eq_true rfl) rfl (Or.inl ew_1381) (hs_h.1 0 (by decide)).1 (hs_h.1 0 (by decide)).2.1 (hs_h.2 0 36 rfl) ?_
    refine ea_bipush (pc := 21) dX12_lineOf_21 (v := 24) rfl ?_
    refine ea_iload_n (pc := 23) dX12_lineOf_23 rfl 1 rfl ?_
    refine ea_imul (pc := 24) dX12_lineOf_24 ?_
    refine ea_iload_n (pc := 25) dX12_lineOf_25 rfl 2 rfl ?_
    refine ea_iadd (pc := 26) dX12_lineOf_26 ?_
    obtain ⟨z2, H⟩ := H
    refine ea_iald (pc := 27) dX12_lineOf_27 (hs_h.1 31 (by decide)).1 (hs_h.1 31 (by decide)).2.1 (ea_vpl (hs_h.1 31 (by decide)).2.2 z2) ?_
    refine ea_istore (pc := 28) (lv' := [(0, vR (some (b0 + 0))), (2, vI x2), (3, vI x3), (4, vI (ea_i h (b0 + 31) (Int32.toNatClampNeg (((24 : Int32) * x2) + x3))))]) dX12_lineOf_28 (Nat.le_of_ble_eq_true rfl) [1, 2, 3, 0] rfl ?_
    refine ea_aload_n (pc := 30) dX12_lineOf_30 rfl 0 rfl ?_
    refine ea_getR (pc := 31) dX12_lineOf_31 ec_12 (k := 35) (Nat.le_of_ble_eq_true rfl) rfl (Or.inl ew_1380) (hs_h.1 0 (by decide)).1 (hs_h.1 0 (by decide)).2.1 (hs_h.2 0 35 rfl) ?_
    refine ea_bipush (pc := 34) dX12_lineOf_34 (v := 25) rfl ?_
    refine ea_iload_n (pc := 36) dX12_lineOf_36 rfl 1 rfl ?_
    refine ea_imul (pc := 37) dX12_lineOf_37 ?_
    refine ea_iload_n (pc := 38) dX12_lineOf_38 rfl 2 rfl ?_
    refine ea_iadd (pc := 39) dX12_lineOf_39 ?_
    refine ea_iconst (pc := 40) dX12_lineOf_40 (v := 1) rfl ?_
    refine ea_iadd (pc := 41) dX12_lineOf_41 ?_
    obtain ⟨z3, H⟩ := H
    refine ea_iald (pc := 42) dX12_lineOf_42 (hs_h.1 30 (by decide)).1 (hs_h.1 30 (by decide)).2.1 (ea_vpl (hs_h.1 30 (by decide)).2.2 z3) ?_
    refine ea_istore (pc := 43) (lv' := [(0, vR (some (b0 + 0))), (2, vI x2), (3, vI x3), (4, vI (ea_i h (b0 + 31) (Int32.toNatClampNeg (((24 : Int32) * x2) + x3)))), (5, vI (ea_i h (b0 + 30) (Int32.toNatClampNeg ((((25 : Int32) * x2) + x3) + (1 : Int32)))))]) dX12_lineOf_43 (Nat.le_of_ble_eq_true rfl) [1, 2, 3, 4, 0] rfl ?_
    refine ea_iload (pc := 45) dX12_lineOf_45 3 rfl ?_
    refine ea_iload (pc := 47) dX12_lineOf_47 4 rfl ?_
    refine ea_icmp_eq (pc := 49) (tgt := 65) dX12_lineOf_49 rfl (fun c10 => ?_) (fun c10 => ?_)
    · have H := H.1 c10
      refine ea_iload_n (pc := 65) dX12_lineOf_65 rfl 2 rfl ?_
      obtain ⟨rfl, rfl⟩ := H
      exact ea_ireturn (pc := 66) dX12_lineOf_66 rfl rfl
    · have H := H.2 c10
      refine ea_aload_n (pc := 52) dX12_lineOf_52 rfl 0 rfl ?_
      refine ea_iload_n (pc := 53) dX12_lineOf_53 rfl 1 rfl ?_
      refine ea_iload (pc := 54) dX12_lineOf_54 3 rfl ?_
      refine ea_iload (pc := 56) dX12_lineOf_56 4 rfl ?_
      obtain ⟨d4, xc8, h5, m6, q7, hs_h5, H⟩ := H
      refine ea_callV (pc := 58) (As := [vI x2, vI (ea_i h (b0 + 31) (Int32.toNatClampNeg (((24 : Int32) * x2) + x3))), vI (ea_i h (b0 + 30) (Int32.toNatClampNeg ((((25 : Int32) * x2) + x3) + (1 : Int32))))]) (st := []) dX12_lineOf_58 kX12_comesTo m6 q7 rfl (Nat.le_of_ble_eq_true rfl) ew_2003 ew_2005 ew_87 (ci := 12) rfl (by decide) (hs_h.1 0 (by decide)).1 (hs_h.1 0 (by decide)).2.1 ?_
      refine ea_iconst (pc := 61) dX12_lineOf_61 (v := 1) rfl ?_
      refine ea_icmp_ne (pc := 62) (tgt := 67) dX12_lineOf_62 rfl (fun c9 => ?_) (fun c9 => ?_)
      · have H := H.1 c9
        refine ea_iinc (pc := 67) (v := 1) (lv' := [(0, vR (some (b0 + 0))), (2, vI x2), (3, vI (x3 + 1))]) dX12_lineOf_67 2 rfl rfl (Nat.le_of_ble_eq_true rfl) [1, 2, 0] rfl ?_
        refine ea_goto (pc := 70) (tgt := 7) dX12_lineOf_70 rfl ?_
        exact H
      · have H := H.2 c9
        refine ea_iload_n (pc := 65) dX12_lineOf_65 rfl 2 rfl ?_
        obtain ⟨rfl, rfl⟩ := H
        exact ea_ireturn (pc := 66) dX12_lineOf_66 rfl rfl
theorem pX12_chargeBy_0 {d b0 : Nat} {h0 hE h : ea_H} {rv : Option ea_V} {x1 : Int32} {x2 : Int32} (hd : 2 ≤ d) (hs_h : ShM b0 h) (H : (okX12_isFree b0 (x1 : Int32) (x2 : Int32) h) ∧ ((vX12_isFree b0 (x1 : Int32) (x2 : Int32) h) = (0 : Int32) → ∃ (d20 : Nat) (xc24 : Int32) (h21 : ea_H), ea_Met mX12_lineOf d20 [vR (some (b0 + 0)), vI x1, vI x2] h (some (vI xc24)) h21 ∧ d20 + 1 ≤ d ∧ ShM b0 h21 ∧ (¬ xc24 = ((-1) : Int32) → vp_in (((25 : Int32) * x2) + xc24) 150 ∧ vp_in (((24 : Int32) * x2) + xc24) 144 ∧ ∃ (d27 : Nat) (xc31 : Int32) (h28 : ea_H), ea_Met mX12_comesTo d27 [vR (some (b0 + 0)), vI x2, vI (ea_i h21 (b0 + 30) (Int32.toNatClampNeg (((25 : Int32) * x2) + xc24))), vI (ea_i h21 (b0 + 31) (Int32.toNatClampNeg (((24 : Int32) * x2) + xc24)))] h21 (some (vI xc31)) h28 ∧ d27 + 1 ≤ d ∧ ShM b0 h28 ∧ ea_W mX12_chargeBy d h0 rv hE 54 [(0, vR (some (b0 + 0))), (1, vI x1), (2, vI x2)] [vI xc31] h28) ∧ (xc24 = ((-1) : Int32) → ea_W mX12_chargeBy d h0 rv hE 54 [(0, vR (some (b0 + 0))), (1, vI x1), (2, vI x2)] [vI 0] h21)) ∧ (¬ (vX12_isFree b0 (x1 : Int32) (x2 : Int32) h) = (0 : Int32) → rv = some (vI 0) ∧ hE = h)) : ea_W mX12_chargeBy d h0 rv hE 0 [(0, vR (some (b0 + 0))), (1, vI x1), (2, vI x2)] [] h := by
  refine ea_aload_n (pc := 0) dX12_chargeBy_0 rfl 0 rfl ?_
  refine ea_iload_n (pc := 1) dX12_chargeBy_1 rfl 1 rfl ?_
  refine ea_iload_n (pc := 2) dX12_chargeBy_2 rfl 2 rfl ?_
  obtain ⟨z34, H⟩ := H
  refine ea_callV (pc := 3) (d' := d - 1) (As := [vI x1, vI x2]) (st := []) dX12_chargeBy_3 kX12_isFree (sX12_isFree (d := d - 1) (by omega) hs_h z34) (by omega) rfl (Nat.le_of_ble_eq_true rfl) ew_1987 ew_1989 ew_83 (ci := 12) rfl (by decide) (hs_h.1 0 (by decide)).1 (hs_h.1 0 (by decide)).2.1 ?_
  refine ea_if_eq (pc := 6) (tgt := 11) dX12_chargeBy_6 rfl (fun c33 => ?_) (fun c33 => ?_)
  · have H := H.1 c33
    refine ea_aload_n (pc := 11) dX12_chargeBy_11 rfl 0 rfl ?_
    refine ea_iload_n (pc := 12) dX12_chargeBy_12 rfl 1 rfl ?_
    refine ea_iload_n (pc := 13) dX12_chargeBy_13 rfl 2 rfl ?_
    obtain ⟨d20, xc24, h21, m22, q23, hs_h21, H⟩ := H
    refine ea_callV (pc := 14) (As := [vI x1, vI x2]) (st := []) dX12_chargeBy_14 kX12_lineOf m22 q23 rfl (Nat.le_of_ble_eq_true rfl) ew_1995 ew_1997 ew_85 (ci := 12) rfl (by decide) (hs_h.1 0 (by decide)).1 (hs_h.1 0 (by decide)).2.1 ?_
    refine ea_istore_n (pc := 17) (lv' := [(0, vR (some (b0 + 0))), (1, vI x1), (2, vI x2), (3, vI xc24)]) dX12_chargeBy_17 rfl (Nat.le_of_ble_eq_true rfl) [1, 2, 3, 0] rfl ?_
    refine ea_iload_n (pc := 18) dX12_chargeBy_18 rfl 3 rfl ?_
    refine ea_iconst (pc := 19) dX12_chargeBy_19 (v := (-1)) rfl ?_
    refine ea_icmp_ne (pc := 20) (tgt := 27) dX12_chargeBy_20 rfl (fun c32 => ?_) (fun c32 => ?_)
    · have H := H.1 c32
      refine ea_aload_n (pc := 27) dX12_chargeBy_27 rfl 0 rfl ?_
      refine ea_iload_n (pc := 28) dX12_chargeBy_28 rfl 2 rfl ?_
      refine ea_aload_n (pc := 29) dX12_chargeBy_29 rfl 0 rfl ?_
      refine ea_getR (pc := 30) dX12_chargeBy_30 ec_12 (k := 35) (Nat.le_of_ble_eq_true rfl) rfl (Or.inl ew_1380) (hs_h21.1 0 (by decide)).1 (hs_h21.1 0 (by decide)).2.1 (hs_h21.2 0 35 rfl) ?_
      refine ea_bipush (pc := 33) dX12_chargeBy_33 (v := 25) rfl ?_
      refine ea_iload_n (pc := 35) dX12_chargeBy_35 rfl 2 rfl ?_
      refine ea_imul (pc := 36) dX12_chargeBy_36 ?_
      refine ea_iload_n (pc := 37) dX12_chargeBy_37 rfl 3 rfl ?_
      refine ea_iadd (pc := 38) dX12_chargeBy_38 ?_
      obtain ⟨z25, H⟩ := H
      refine ea_iald (pc := 39) dX12_chargeBy_39 (hs_h21.1 30 (by decide)).1 (hs_h21.1 30 (by decide)).2.1 (ea_vpl (hs_h21.1 30 (by decide)).2.2 z25) ?_
      refine ea_aload_n (pc := 40) dX12_chargeBy_40 rfl 0 rfl ?_
      refine ea_getR (pc := 41) dX12_chargeBy_41 ec_12 (k := 36) (Nat.le_of_ble_eq_true rfl) rfl (Or.inl ew_1381) (hs_h21.1 0 (by decide)).1 (hs_h21.1 0 (by decide)).2.1 (hs_h21.2 0 36 rfl) ?_
      refine ea_bipush (pc := 44) dX12_chargeBy_44 (v := 24) rfl ?_
      refine ea_iload_n (pc := 46) dX12_chargeBy_46 rfl 2 rfl ?_
      refine ea_imul (pc := 47) dX12_chargeBy_47 ?_
      refine ea_iload_n (pc := 48) dX12_chargeBy_48 rfl 3 rfl ?_
      refine ea_iadd (pc := 49) dX12_chargeBy_49 ?_
      obtain ⟨z26, H⟩ := H
      refine ea_iald (pc := 50) dX12_chargeBy_50 (hs_h21.1 31 (by decide)).1 (hs_h21.1 31 (by decide)).2.1 (ea_vpl (hs_h21.1 31 (by decide)).2.2 z26) ?_
      obtain ⟨d27, xc31, h28, m29, q30, hs_h28, H⟩ := H
      refine ea_callV (pc := 51) (As := [vI x2, vI (ea_i h21 (b0 + 30) (Int32.toNatClampNeg (((25 : Int32) * x2) + xc24))), vI (ea_i h21 (b0 + 31) (Int32.toNatClampNeg (((24 : Int32) * x2) + xc24)))]) (st := []) dX12_chargeBy_51 kX12_comesTo m29 q30 rfl (Nat.le_of_ble_eq_true rfl) ew_2003 ew_2005 ew_87 (ci := 12) rfl (by decide) (hs_h21.1 0 (by decide)).1 (hs_h21.1 0 (by decide)).2.1 ?_
      exact ea_fewer [0, 1, 2] rfl H
    · have H := H.2 c32
      refine ea_iconst (pc := 23) dX12_chargeBy_23 (v := 0) rfl ?_
      refine ea_goto (pc := 24) (tgt := 54) dX12_chargeBy_24 rfl ?_
      exact ea_fewer [0, 1, 2] rfl H
  · have H := H.2 c33
    refine ea_iconst (pc := 9) dX12_chargeBy_9 (v := 0) rfl ?_
    obtain ⟨rfl, rfl⟩ := H
    exact ea_ireturn (pc := 10) dX12_chargeBy_10 rfl rfl
theorem pX12_chargeBy_54 {d b0 : Nat} {h0 hE h : ea_H} {rv : Option ea_V} {x1 : Int32} {x2 : Int32} {sx0 : Int32} (hd : 2 ≤ d) (hs_h : ShM b0 h) (H : ((0 : Int32) ≤ sx0 → (sx0 ≤ (99999 : Int32) → ea_W mX12_chargeBy d h0 rv hE 81 [(0, vR (some (b0 + 0))), (1, vI x1), (2, vI x2)] [vI sx0] h) ∧ (¬ sx0 ≤ (99999 : Int32) → ea_W mX12_chargeBy d h0 rv hE 81 [(0, vR (some (b0 + 0))), (1, vI x1), (2, vI x2)] [vI 99999] h)) ∧ (¬ (0 : Int32) ≤ sx0 → ea_W mX12_chargeBy d h0 rv hE 81 [(0, vR (some (b0 + 0))), (1, vI x1), (2, vI x2)] [vI 0] h)) : ea_W mX12_chargeBy d h0 rv hE 54 [(0, vR (some (b0 + 0))), (1, vI x1), (2, vI x2)] [vI sx0] h := by
  refine ea_istore (pc := 54) (lv' := [(0, vR (some (b0 + 0))), (1, vI x1), (2, vI x2), (4, vI sx0)]) dX12_chargeBy_54 (Nat.le_of_ble_eq_true rfl) [1, 2, 3, 0] rfl ?_
  refine ea_iload (pc := 56) dX12_chargeBy_56 3 rfl ?_
  refine ea_if_ge (pc := 58) (tgt := 65) dX12_chargeBy_58 rfl (fun c2 => ?_) (fun c2 => ?_)
  · have H := H.1 c2
    refine ea_iload (pc := 65) dX12_chargeBy_65 3 rfl ?_
    refine ea_ldcw (pc := 67) dX12_chargeBy_67 ew_2010 ?_
    refine ea_icmp_le (pc := 70) (tgt := 79) dX12_chargeBy_70 rfl (fun c1 => ?_) (fun c1 => ?_)
    · have H := H.1 c1
      refine ea_iload (pc := 79) dX12_chargeBy_79 3 rfl ?_
      exact ea_fewer [0, 1, 2] rfl H
    · have H := H.2 c1
      refine ea_ldcw (pc := 73) dX12_chargeBy_73 ew_2010 ?_
      refine ea_goto (pc := 76) (tgt := 81) dX12_chargeBy_76 rfl ?_
      exact ea_fewer [0, 1, 2] rfl H
  · have H := H.2 c2
    refine ea_iconst (pc := 61) dX12_chargeBy_61 (v := 0) rfl ?_
    refine ea_goto (pc := 62) (tgt := 81) dX12_chargeBy_62 rfl ?_
    exact ea_fewer [0, 1, 2] rfl H
theorem pX12_chargeBy_81 {d b0 : Nat} {h0 hE h : ea_H} {rv : Option ea_V} {x1 : Int32} {x2 : Int32} {sx0 : Int32} (hd : 2 ≤ d) (hs_h : ShM b0 h) (H : vp_in x1 120 ∧ vp_in x2 6 ∧ (((ea_i h (b0 + 44) (Int32.toNatClampNeg x1)) - (ea_i h (b0 + 44) (Int32.toNatClampNeg x1)) / (1440 : Int32) * (1440 : Int32)) ≤ (ea_i h (b0 + 24) (Int32.toNatClampNeg x2)) → ea_W mX12_chargeBy d h0 rv hE 113 [(0, vR (some (b0 + 0))), (1, vI x1), (2, vI x2), (4, vI sx0)] [] h) ∧ (¬ ((ea_i h (b0 + 44) (Int32.toNatClampNeg x1)) - (ea_i h (b0 + 44) (Int32.toNatClampNeg x1)) / (1440 : Int32) * (1440 : Int32)) ≤ (ea_i h (b0 + 24) (Int32.toNatClampNeg x2)) → vp_in x2 6 ∧ ea_W mX12_chargeBy d h0 rv hE 113 [(0, vR (some (b0 + 0))), (1, vI x1), (2, vI x2), (4, vI (sx0 + (ea_i h (b0 + 23) (Int32.toNatClampNeg x2))))] [] h)) : ea_W mX12_chargeBy d h0 rv hE 81 [(0, vR (some (b0 + 0))), (1, vI x1), (2, vI x2)] [vI sx0] h := by
  refine ea_istore (pc := 81) (lv' := [(0, vR (some (b0 + 0))), (1, vI x1), (2, vI x2), (4, vI sx0)]) dX12_chargeBy_81 (Nat.le_of_ble_eq_true rfl) [1, 2, 3, 0] rfl ?_
  refine ea_aload_n (pc := 83) dX12_chargeBy_83 rfl 0 rfl ?_
  refine ea_getR (pc := 84) dX12_chargeBy_84 ec_12 (k := 70) (Nat.le_of_ble_eq_true rfl) rfl (Or.inl ew_1415) (hs_h.1 0 (by decide)).1 (hs_h.1 0 (by decide)).2.1 (hs_h.2 0 70 rfl) ?_
  refine ea_iload_n (pc := 87) dX12_chargeBy_87 rfl 1 rfl ?_
  obtain ⟨z1, H⟩ := H
  refine ea_iald (pc := 88) dX12_chargeBy_88 (hs_h.1 44 (by decide)).1 (hs_h.1 44 (by decide)).2.1 (ea_vpl (hs_h.1 44 (by decide)).2.2 z1) ?_
  refine ea_sipush (pc := 89) dX12_chargeBy_89 (v := 1440) rfl ?_
  refine ea_irem (pc := 92) dX12_chargeBy_92 (by decide) ?_
  refine ea_aload_n (pc := 93) dX12_chargeBy_93 rfl 0 rfl ?_
  refine ea_getR (pc := 94) dX12_chargeBy_94 ec_12 (k := 29) (Nat.le_of_ble_eq_true rfl) rfl (Or.inl ew_1374) (hs_h.1 0 (by decide)).1 (hs_h.1 0 (by decide)).2.1 (hs_h.2 0 29 rfl) ?_
  refine ea_iload_n (pc := 97) dX12_chargeBy_97 rfl 2 rfl ?_
  obtain ⟨z2, H⟩ := H
  refine ea_iald (pc := 98) dX12_chargeBy_98 (hs_h.1 24 (by decide)).1 (hs_h.1 24 (by decide)).2.1 (ea_vpl (hs_h.1 24 (by decide)).2.2 z2) ?_
  refine ea_icmp_le (pc := 99) (tgt := 113) dX12_chargeBy_99 rfl (fun c4 => ?_) (fun c4 => ?_)
  · have H := H.1 c4
    exact H
  · have H := H.2 c4
    refine ea_iload (pc := 102) dX12_chargeBy_102 3 rfl ?_
    refine ea_aload_n (pc := 104) dX12_chargeBy_104 rfl 0 rfl ?_
    refine ea_getR (pc := 105) dX12_chargeBy_105 ec_12 (k := 28) (Nat.le_of_ble_eq_true rfl) rfl (Or.inl ew_1373) (hs_h.1 0 (by decide)).1 (hs_h.1 0 (by decide)).2.1 (hs_h.2 0 28 rfl) ?_
    refine ea_iload_n (pc := 108) dX12_chargeBy_108 rfl 2 rfl ?_
    obtain ⟨z3, H⟩ := H
    refine ea_iald (pc := 109) dX12_chargeBy_109 (hs_h.1 23 (by decide)).1 (hs_h.1 23 (by decide)).2.1 (ea_vpl (hs_h.1 23 (by decide)).2.2 z3) ?_
    refine ea_iadd (pc := 110) dX12_chargeBy_110 ?_
    refine ea_istore (pc := 111) (lv' := [(0, vR (some (b0 + 0))), (1, vI x1), (2, vI x2), (4, vI (sx0 + (ea_i h (b0 + 23) (Int32.toNatClampNeg x2))))]) dX12_chargeBy_111 (Nat.le_of_ble_eq_true rfl) [1, 2, 3, 0] rfl ?_
    exact H
theorem pX12_chargeBy_113 {d b0 : Nat} {h0 hE h : ea_H} {rv : Option ea_V} {x1 : Int32} {x2 : Int32} {x4 : Int32} (hd : 2 ≤ d) (hs_h : ShM b0 h) (H : vp_in x1 120 ∧ (¬ (ea_i h (b0 + 38) (Int32.toNatClampNeg x1)) = (3 : Int32) → ea_W mX12_chargeBy d h0 rv hE 134 [(0, vR (some (b0 + 0))), (1, vI x1), (2, vI x2), (4, vI x4)] [] h) ∧ ((ea_i h (b0 + 38) (Int32.toNatClampNeg x1)) = (3 : Int32) → vp_in x2 6 ∧ ea_W mX12_chargeBy d h0 rv hE 134 [(0, vR (some (b0 + 0))), (1, vI x1), (2, vI x2), (4, vI (x4 + (ea_i h (b0 + 26) (Int32.toNatClampNeg x2))))] [] h)) : ea_W mX12_chargeBy d h0 rv hE 113 [(0, vR (some (b0 + 0))), (1, vI x1), (2, vI x2), (4, vI x4)] [] h := by
  refine ea_aload_n (pc := 113) dX12_chargeBy_113 rfl 0 rfl ?_
  refine ea_getR (pc := 114) dX12_chargeBy_114 ec_12 (k := 64) (Nat.le_of_ble_eq_true rfl) rfl (Or.inl ew_1409) (hs_h.1 0 (by decide)).1 (hs_h.1 0 (by decide)).2.1 (hs_h.2 0 64 rfl) ?_
  refine ea_iload_n (pc := 117) dX12_chargeBy_117 rfl 1 rfl ?_
  obtain ⟨z1, H⟩ := H
  refine ea_iald (pc := 118) dX12_chargeBy_118 (hs_h.1 38 (by decide)).1 (hs_h.1 38 (by decide)).2.1 (ea_vpl (hs_h.1 38 (by decide)).2.2 z1) ?_
  refine ea_iconst (pc := 119) dX12_chargeBy_119 (v := 3) rfl ?_
  refine ea_icmp_ne (pc := 120) (tgt := 134) dX12_chargeBy_120 rfl (fun c3 => ?_) (fun c3 => ?_)
  · have H := H.1 c3
    exact H
  · have H := H.2 c3
    refine ea_iload (pc := 123) dX12_chargeBy_123 3 rfl ?_
    refine ea_aload_n (pc := 125) dX12_chargeBy_125 rfl 0 rfl ?_
    refine ea_getR (pc := 126) dX12_chargeBy_126 ec_12 (k := 31) (Nat.le_of_ble_eq_true rfl) rfl (Or.inl ew_1376) (hs_h.1 0 (by decide)).1 (hs_h.1 0 (by decide)).2.1 (hs_h.2 0 31 rfl) ?_
    refine ea_iload_n (pc := 129) dX12_chargeBy_129 rfl 2 rfl ?_
    obtain ⟨z2, H⟩ := H
    refine ea_iald (pc := 130) dX12_chargeBy_130 (hs_h.1 26 (by decide)).1 (hs_h.1 26 (by decide)).2.1 (ea_vpl (hs_h.1 26 (by decide)).2.2 z2) ?_
    refine ea_iadd (pc := 131) dX12_chargeBy_131 ?_
    refine ea_istore (pc := 132) (lv' := [(0, vR (some (b0 + 0))), (1, vI x1), (2, vI x2), (4, vI (x4 + (ea_i h (b0 + 26) (Int32.toNatClampNeg x2))))]) dX12_chargeBy_132 (Nat.le_of_ble_eq_true rfl) [1, 2, 3, 0] rfl ?_
    exact H
theorem pX12_chargeBy_134 {d b0 : Nat} {h0 hE h : ea_H} {rv : Option ea_V} {x1 : Int32} {x2 : Int32} {x4 : Int32} (hd : 2 ≤ d) (hs_h : ShM b0 h) (H : vp_in x1 120 ∧ (¬ (ea_i h (b0 + 38) (Int32.toNatClampNeg x1)) = (4 : Int32) → rv = some (vI x4) ∧ hE = h) ∧ ((ea_i h (b0 + 38) (Int32.toNatClampNeg x1)) = (4 : Int32) → vp_in x2 6 ∧ rv = some (vI (x4 + (ea_i h (b0 + 27) (Int32.toNatClampNeg x2)))) ∧ hE = h)) : ea_W mX12_chargeBy d h0 rv hE 134 [(0, vR (some (b0 + 0))), (1, vI x1), (2, vI x2), (4, vI x4)] [] h := by
  refine ea_aload_n (pc := 134) dX12_chargeBy_134 rfl 0 rfl ?_
  refine ea_getR (pc := 135) dX12_chargeBy_135 ec_12 (k := 64) (Nat.le_of_ble_eq_true rfl) rfl (Or.inl ew_1409) (hs_h.1 0 (by decide)).1 (hs_h.1 0 (by decide)).2.1 (hs_h.2 0 64 rfl) ?_
  refine ea_iload_n (pc := 138) dX12_chargeBy_138 rfl 1 rfl ?_
  obtain ⟨z1, H⟩ := H
  refine ea_iald (pc := 139) dX12_chargeBy_139 (hs_h.1 38 (by decide)).1 (hs_h.1 38 (by decide)).2.1 (ea_vpl (hs_h.1 38 (by decide)).2.2 z1) ?_
  refine ea_iconst (pc := 140) dX12_chargeBy_140 (v := 4) rfl ?_
  refine ea_icmp_ne (pc := 141) (tgt := 155) dX12_chargeBy_141 rfl (fun c3 => ?_) (fun c3 => ?_)
  · have H := H.1 c3
    refine ea_iload (pc := 155) dX12_chargeBy_155 3 rfl ?_
    obtain ⟨rfl, rfl⟩ := H
    exact ea_ireturn (pc := 157) dX12_chargeBy_157 rfl rfl
  · have H := H.2 c3
    refine ea_iload (pc := 144) dX12_chargeBy_144 3 rfl ?_
    refine ea_aload_n (pc := 146) dX12_chargeBy_146 rfl 0 rfl ?_
    refine ea_getR (pc := 147) dX12_chargeBy_147 ec_12 (k := 32) (Nat.le_of_ble_eq_true rfl) rfl (Or.inl ew_1377) (hs_h.1 0 (by decide)).1 (hs_h.1 0 (by decide)).2.1 (hs_h.2 0 32 rfl) ?_
    refine ea_iload_n (pc := 150) dX12_chargeBy_150 rfl 2 rfl ?_
    obtain ⟨z2, H⟩ := H
    refine ea_iald (pc := 151) dX12_chargeBy_151 (hs_h.1 27 (by decide)).1 (hs_h.1 27 (by decide)).2.1 (ea_vpl (hs_h.1 27 (by decide)).2.2 z2) ?_
    refine ea_iadd (pc := 152) dX12_chargeBy_152 ?_
    refine ea_istore (pc := 153) (lv' := [(4, vI (x4 + (ea_i h (b0 + 27) (Int32.toNatClampNeg x2))))]) dX12_chargeBy_153 (Nat.le_of_ble_eq_true rfl) [0] rfl ?_
    refine ea_iload (pc := 155) dX12_chargeBy_155 0 rfl ?_
    obtain ⟨rfl, rfl⟩ := H
    exact ea_ireturn (pc := 157) dX12_chargeBy_157 rfl rfl
set_option maxRecDepth 100000 in
set_option maxHeartbeats 4000000 in
theorem pX12_post_0 {d b0 : Nat} {h0 hE h : ea_H} {rv : Option ea_V} {x1 : Int32} {x2 : Int32} {x3 : Int32} {x4 : Int32} {x5 : Int32} {x6 : Int32} (hd : 3 ≤ d) (hs_h : ShM b0 h) (H : ((vX12_isIn (x1 : Int32) (0 : Int32) (4 : Int32) h) = (0 : Int32) → rv = some (vI (-1)) ∧ hE = h) ∧ (¬ (vX12_isIn (x1 : Int32) (0 : Int32) (4 : Int32) h) = (0 : Int32) → ((vX12_isTown b0 (x2 : Int32) h) = (0 : Int32) → rv = some (vI (-1)) ∧ hE = h) ∧ (¬ (vX12_isTown b0 (x2 : Int32) h) = (0 : Int32) → ((vX12_isTown b0 (x3 : Int32) h) = (0 : Int32) → rv = some (vI (-1)) ∧ hE = h) ∧ (¬ (vX12_isTown b0 (x3 : Int32) h) = (0 : Int32) → (x2 = x3 → rv = some (vI (-1)) ∧ hE = h) ∧ (¬ x2 = x3 → ((vX12_isIn (x4 : Int32) (1 : Int32) (9 : Int32) h) = (0 : Int32) → rv = some (vI (-1)) ∧ hE = h) ∧ (¬ (vX12_isIn (x4 : Int32) (1 : Int32) (9 : Int32) h) = (0 : Int32) → ((vX12_isIn (x5 : Int32) (0 : Int32) (99 : Int32) h) = (0 : Int32) → rv = some (vI (-1)) ∧ hE = h) ∧ (¬ (vX12_isIn (x5 : Int32) (0 : Int32) (99 : Int32) h) = (0 : Int32) → ((vX12_isIn (x6 : Int32) (0 : Int32) (9 : Int32) h) = (0 : Int32) → rv = some (vI (-1)) ∧ hE = h) ∧ (¬ (vX12_isIn (x6 : Int32) (0 : Int32) (9 : Int32) h) = (0 : Int32) → (¬ (ea_i h (b0 + 0) 63) = (120 : Int32) → ∀ h3272, h3272 = ea_wi h (b0 + 0) 63 ((ea_i h (b0 + 0) 63) + (1 : Int32)) → vp_in (ea_i h (b0 + 0) 63) 120 ∧ ∀ h3275, h3275 = ea_wi h3272 (b0 + 38) (Int32.toNatClampNeg (ea_i h (b0 + 0) 63)) x1 → vp_in (ea_i h (b0 + 0) 63) 120 ∧ ∀ h3278, h3278 = ea_wi h3275 (b0 + 39) (Int32.toNatClampNeg (ea_i h (b0 + 0) 63)) x2 → vp_in (ea_i h (b0 + 0) 63) 120 ∧ ∀ h3281, h3281 = ea_wi h3278 (b0 + 40) (Int32.toNatClampNeg (ea_i h (b0 + 0) 63)) x3 → vp_in (ea_i h (b0 + 0) 63) 120 ∧ ∀ h3284, h3284 = ea_wi h3281 (b0 + 41) (Int32.toNatClampNeg (ea_i h (b0 + 0) 63)) x4 → vp_in (ea_i h (b0 + 0) 63) 120 ∧ ∀ h3287, h3287 = ea_wi h3284 (b0 + 42) (Int32.toNatClampNeg (ea_i h (b0 + 0) 63)) x5 → vp_in (ea_i h (b0 + 0) 63) 120 ∧ ∀ h3290, h3290 = ea_wi h3287 (b0 + 43) (Int32.toNatClampNeg (ea_i h (b0 + 0) 63)) x6 → vp_in (ea_i h (b0 + 0) 63) 120 ∧ ∀ h3293, h3293 = ea_wi h3290 (b0 + 44) (Int32.toNatClampNeg (ea_i h (b0 + 0) 63)) (ea_i h3290 (b0 + 0) 0) → ∃ (d3295 : Nat) (xc3299 : Int32) (h3296 : ea_H), ea_Met mX12_milesOf d3295 [vR (some (b0 + 0)), vI x2, vI x3, vI 0] h3293 (some (vI xc3299)) h3296 ∧ d3295 + 1 ≤ d ∧ ShM b0 h3296 ∧ vp_in (ea_i h (b0 + 0) 63) 120 ∧ ∀ h3301, h3301 = ea_wi h3296 (b0 + 45) (Int32.toNatClampNeg (ea_i h (b0 + 0) 63)) xc3299 → ∃ (d3303 : Nat) (xc3307 : Int32) (h3304 : ea_H), ea_Met mX12_isCross d3303 [vR (some (b0 + 0)), vI x2, vI x3] h3301 (some (vI xc3307)) h3304 ∧ d3303 + 1 ≤ d ∧ ShM b0 h3304 ∧ vp_in (ea_i h (b0 + 0) 63) 120 ∧ (xc3307 = 0 ∨ xc3307 = 1) ∧ ∀ h3309, h3309 = ea_wi h3304 (b0 + 52) (Int32.toNatClampNeg (ea_i h (b0 + 0) 63)) xc3307 → vp_in (ea_i h (b0 + 0) 63) 120 ∧ ∀ h3313, h3313 = ea_wi h3309 (b0 + 46) (Int32.toNatClampNeg (ea_i h (b0 + 0) 63)) 0 → ea_W mX12_post d h0 rv hE 190 [(0, vR (some (b0 + 0))), (2, vI x2), (6, vI x6), (7, vI (ea_i h (b0 + 0) 63)), (8, vI 0)] [] h3313) ∧ ((ea_i h (b0 + 0) 63) = (120 : Int32) → rv = some (vI (-1)) ∧ hE = h))))))))) : ea_W mX12_post d h0 rv hE 0 [(0, vR (some (b0 + 0))), (1, vI x1), (2, vI x2), (3, vI x3), (4, vI x4), (5, vI x5), (6, vI x6)] [] h := by
  refine ea_iload_n (pc := 0) dX12_post_0 rfl 1 rfl ?_
  refine ea_iconst (pc := 1) dX12_post_1 (v := 0) rfl ?_
  refine ea_iconst (pc := 2) dX12_post_2 (v := 4) rfl ?_
  refine ea_callS (pc := 3) (d' := d - 1) (As := [vI x1, vI 0, vI 4]) (st := []) dX12_post_3 kX12_isIn (sX12_isIn (d := d - 1) (by omega)) (by omega) rfl (Nat.le_of_ble_eq_true rfl) ew_1712 ew_1713 ?_
  refine ea_if_eq (pc := 6) (tgt := 72) dX12_post_6 rfl (fun c3327 => ?_) (fun c3327 => ?_)
  · have H := H.1 c3327
    refine ea_iconst (pc := 72) dX12_post_72 (v := (-1)) rfl ?_
    obtain ⟨rfl, rfl⟩ := H
    exact ea_ireturn (pc := 73) dX12_post_73 rfl rfl
  · have H := H.2 c3327
    refine ea_aload_n (pc := 9) dX12_post_9 rfl 0 rfl ?_
    refine ea_iload_n (pc := 10) dX12_post_10 rfl 2 rfl ?_
    refine ea_callV (pc := 11) (d' := d - 1) (As := [vI x2]) (st := []) dX12_post_11 kX12_isTown (sX12_isTown (d := d - 1) (by omega) hs_h) (by omega) rfl (Nat.le_of_ble_eq_true rfl) ew_1708 ew_1710 ew_47 (ci := 12) rfl (by decide) (hs_h.1 0 (by decide)).1 (hs_h.1 0 (by decide)).2.1 ?_
    refine ea_if_eq (pc := 14) (tgt := 72) dX12_post_14 rfl (fun c3325 => ?_) (fun c3325 => ?_)
    · have H := H.1 c3325
      refine ea_iconst (pc := 72) dX12_post_72 (v := (-1)) rfl ?_
      obtain ⟨rfl, rfl⟩ := H
      exact ea_ireturn (pc := 73) dX12_post_73 rfl rfl
    · have H := H.2 c3325
      refine ea_aload_n (pc := 17) dX12_post_17 rfl 0 rfl ?_
      refine ea_iload_n (pc := 18) dX12_post_18 rfl 3 rfl ?_
      refine ea_callV (pc := 19) (d' := d - 1) (As := [vI x3]) (st := []) dX12_post_19 kX12_isTown (sX12_isTown (d := d - 1) (by omega) hs_h) (by omega) rfl (Nat.le_of_ble_eq_true rfl) ew_1708 ew_1710 ew_47 (ci := 12) rfl (by decide) (hs_h.1 0 (by decide)).1 (hs_h.1 0 (by decide)).2.1 ?_
      refine ea_if_eq (pc := 22) (tgt := 72) dX12_post_22 rfl (fun c3323 => ?_) (fun c3323 => ?_)
      · have H := H.1 c3323
        refine ea_iconst (pc := 72) dX12_post_72 (v := (-1)) rfl ?_
        obtain ⟨rfl, rfl⟩ := H
        exact ea_ireturn (pc := 73) dX12_post_73 rfl rfl
      · have H := H.2 c3323
        refine ea_iload_n (pc := 25) dX12_post_25 rfl 2 rfl ?_
        refine ea_iload_n (pc := 26) dX12_post_26 rfl 3 rfl ?_
        refine ea_icmp_eq (pc := 27) (tgt := 72) dX12_post_27 rfl (fun c3322 => ?_) (fun c3322 => ?_)
        · have H := H.1 c3322
          refine ea_iconst (pc := 72) dX12_post_72 (v := (-1)) rfl ?_
          obtain ⟨rfl, rfl⟩ := H
          exact ea_ireturn (pc := 73) dX12_post_73 rfl rfl
        · have H := H.2 c3322
          refine ea_iload (pc := 30) dX12_post_30 4 rfl ?_
          refine ea_iconst (pc := 32) dX12_post_32 (v := 1) rfl ?_
          refine ea_bipush (pc := 33) dX12_post_33 (v := 9) rfl ?_
          refine ea_callS (pc := 35) (d' := d - 1) (As := [vI x4, vI 1, vI 9]) (st := []) dX12_post_35 kX12_isIn (sX12_isIn (d := d - 1) (by omega)) (by omega) rfl (Nat.le_of_ble_eq_true rfl) ew_1712 ew_1713 ?_
          refine ea_if_eq (pc := 38) (tgt := 72) dX12_post_38 rfl (fun c3320 => ?_) (fun c3320 => ?_)
          · have H := H.1 c3320
            refine ea_iconst (pc := 72) dX12_post_72 (v := (-1)) rfl ?_
            obtain ⟨rfl, rfl⟩ := H
            exact ea_ireturn (pc := 73) dX12_post_73 rfl rfl
          · have H := H.2 c3320
            refine ea_iload (pc := 41) dX12_post_41 5 rfl ?_
            refine ea_iconst (pc := 43) dX12_post_43 (v := 0) rfl ?_
            refine ea_bipush (pc := 44) dX12_post_44 (v := 99) rfl ?_
            refine ea_callS (pc := 46) (d' := d - 1) (As := [vI x5, vI 0, vI 99]) (st := []) dX12_post_46 kX12_isIn (sX12_isIn (d := d - 1) (by omega)) (by omega) rfl (Nat.le_of_ble_eq_true rfl) ew_1712 ew_1713 ?_
            refine ea_if_eq (pc := 49) (tgt := 72) dX12_post_49 rfl (fun c3318 => ?_) (fun c3318 => ?_)
            · have H := H.1 c3318
              refine ea_iconst (pc := 72) dX12_post_72 (v := (-1)) rfl ?_
              obtain ⟨rfl, rfl⟩ := H
              exact ea_ireturn (pc := 73) dX12_post_73 rfl rfl
            · have H := H.2 c3318
              refine ea_iload (pc := 52) dX12_post_52 6 rfl ?_
              refine ea_iconst (pc := 54) dX12_post_54 (v := 0) rfl ?_
              refine ea_bipush (pc := 55) dX12_post_55 (v := 9) rfl ?_
              refine ea_callS (pc := 57) (d' := d - 1) (As := [vI x6, vI 0, vI 9]) (st := []) dX12_post_57 kX12_isIn (sX12_isIn (d := d - 1) (by omega)) (by omega) rfl (Nat.le_of_ble_eq_true rfl) ew_1712 ew_1713 ?_
              refine ea_if_eq (pc := 60) (tgt := 72) dX12_post_60 rfl (fun c3316 => ?_) (fun c3316 => ?_)
              · have H := H.1 c3316
                refine ea_iconst (pc := 72) dX12_post_72 (v := (-1)) rfl ?_
                obtain ⟨rfl, rfl⟩ := H
                exact ea_ireturn (pc := 73) dX12_post_73 rfl rfl
              · have H := H.2 c3316
                refine ea_aload_n (pc := 63) dX12_post_63 rfl 0 rfl ?_
                refine ea_getI (pc := 64) dX12_post_64 ec_12 (k := 63) (Nat.le_of_ble_eq_true rfl) rfl (Or.inl ew_1408) (hs_h.1 0 (by decide)).1 (hs_h.1 0 (by decide)).2.1 ?_
                refine ea_bipush (pc := 67) dX12_post_67 (v := 120) rfl ?_
                refine ea_icmp_ne (pc := 69) (tgt := 74) dX12_post_69 rfl (fun c3315 => ?_) (fun c3315 => ?_)
                · have H := H.1 c3315
                  refine ea_aload_n (pc := 74) dX12_post_74 rfl 0 rfl ?_
                  refine ea_getI (pc := 75) dX12_post_75 ec_12 (k := 63) (Nat.le_of_ble_eq_true rfl) rfl (Or.inl ew_1408) (hs_h.1 0 (by decide)).1 (hs_h.1 0 (by decide)).2.1 ?_
                  refine ea_istore (pc := 78) (lv' := [(0, vR (some (b0 + 0))), (1, vI x1), (2, vI x2), (3, vI x3), (4, vI x4), (5, vI x5), (6, vI x6), (7, vI (ea_i h (b0 + 0) 63))]) dX12_post_78 (Nat.le_of_ble_eq_true rfl) [1, 2, 3, 4, 5, 6, 7, 0] rfl ?_
                  refine ea_aload_n (pc := 80) dX12_post_80 rfl 0 rfl ?_
                  refine ea_dup (pc := 81) dX12_post_81 rfl ?_
                  refine ea_getI (pc := 82) dX12_post_82 ec_12 (k := 63) (Nat.le_of_ble_eq_true rfl) rfl (Or.inl ew_1408) (hs_h.1 0 (by decide)).1 (hs_h.1 0 (by decide)).2.1 ?_
                  refine ea_iconst (pc := 85) dX12_post_85 (v := 1) rfl ?_
                  refine ea_iadd (pc := 86) dX12_post_86 ?_
                  refine ea_putI (pc := 87) dX12_post_87 ec_12 (k := 63) (Nat.le_of_ble_eq_true rfl) rfl (Or.inl ⟨rfl, Or.inl ew_1408⟩) rfl rfl (hs_h.1 0 (by decide)).1 (hs_h.1 0 (by decide)).2.1 ?_
                  obtain ⟨h3272, E3273⟩ : ∃ z, z = ea_wi h (b0 + 0) 63 ((ea_i h (b0 + 0) 63) + (1 : Int32)) := ⟨_, rfl⟩
                  have H := H h3272 E3273
                  refine ea_nm E3273 ?_
                  have hs_h3272 : ShM b0 h3272 := by rw [E3273]; exact ShM_wi hs_h
                  refine ea_aload_n (pc := 90) dX12_post_90 rfl 0 rfl ?_
                  refine ea_getR (pc := 91) dX12_post_91 ec_12 (k := 64) (Nat.le_of_ble_eq_true rfl) rfl (Or.inl ew_1409) (hs_h3272.1 0 (by decide)).1 (hs_h3272.1 0 (by decide)).2.1 (hs_h3272.2 0 64 rfl) ?_
                  refine ea_iload (pc := 94) dX12_post_94 7 rfl ?_
                  refine ea_iload_n (pc := 96) dX12_post_96 rfl 1 rfl ?_
                  obtain ⟨z3274, H⟩ := H
                  refine ea_iast (pc := 97) dX12_post_97 (hs_h3272.1 38 (by decide)).1 (hs_h3272.1 38 (by decide)).2.1 (ea_vpl (hs_h3272.1 38 (by decide)).2.2 z3274) ?_
                  obtain ⟨h3275, E3276⟩ : ∃ z, z = ea_wi h3272 (b0 + 38) (Int32.toNatClampNeg (ea_i h (b0 + 0) 63)) x1 := ⟨_, rfl⟩
                  have H := H h3275 E3276
                  refine ea_nm E3276 ?_
                  have hs_h3275 : ShM b0 h3275 := by rw [E3276]; exact ShM_wi hs_h3272
                  refine ea_aload_n (pc := 98) dX12_post_98 rfl 0 rfl ?_
                  refine ea_getR (pc := 99) dX12_post_99 ec_12 (k := 65) (Nat.le_of_ble_eq_true rfl) rfl (Or.inl ew_1410) (hs_h3275.1 0 (by decide)).1 (hs_h3275.1 0 (by decide)).2.1 (hs_h3275.2 0 65 rfl) ?_
                  refine ea_iload (pc := 102) dX12_post_102 7 rfl ?_
                  refine ea_iload_n (pc := 104) dX12_post_104 rfl 2 rfl ?_
                  obtain ⟨z3277, H⟩ := H
                  refine ea_iast (pc := 105) dX12_post_105 (hs_h3275.1 39 (by decide)).1 (hs_h3275.1 39 (by decide)).2.1 (ea_vpl (hs_h3275.1 39 (by decide)).2.2 z3277) ?_
                  obtain ⟨h3278, E3279⟩ : ∃ z, z = ea_wi h3275 (b0 + 39) (Int32.toNatClampNeg (ea_i h (b0 + 0) 63)) x2 := ⟨_, rfl⟩
                  have H := H h3278 E3279
                  refine ea_nm E3279 ?_
                  have hs_h3278 : ShM b0 h3278 := by rw [E3279]; exact ShM_wi hs_h3275
                  refine ea_aload_n (pc := 106) dX12_post_106 rfl 0 rfl ?_
                  refine ea_getR (pc := 107) dX12_post_107 ec_12 (k := 66) (Nat.le_of_ble_eq_true rfl) rfl (Or.inl ew_1411) (hs_h3278.1 0 (by decide)).1 (hs_h3278.1 0 (by decide)).2.1 (hs_h3278.2 0 66 rfl) ?_
                  refine ea_iload (pc := 110) dX12_post_110 7 rfl ?_
                  refine ea_iload_n (pc := 112) dX12_post_112 rfl 3 rfl ?_
                  obtain ⟨z3280, H⟩ := H
                  refine ea_iast (pc := 113) dX12_post_113 (hs_h3278.1 40 (by decide)).1 (hs_h3278.1 40 (by decide)).2.1 (ea_vpl (hs_h3278.1 40 (by decide)).2.2 z3280) ?_
                  obtain ⟨h3281, E3282⟩ : ∃ z, z = ea_wi h3278 (b0 + 40) (Int32.toNatClampNeg (ea_i h (b0 + 0) 63)) x3 := ⟨_, rfl⟩
                  have H := H h3281 E3282
                  refine ea_nm E3282 ?_
                  have hs_h3281 : ShM b0 h3281 := by rw [E3282]; exact ShM_wi hs_h3278
                  refine ea_aload_n (pc := 114) dX12_post_114 rfl 0 rfl ?_
                  refine ea_getR (pc := 115) dX12_post_115 ec_12 (k := 67) (Nat.le_of_ble_eq_true rfl) rfl (Or.inl ew_1412) (hs_h3281.1 0 (by decide)).1 (hs_h3281.1 0 (by decide)).2.1 (hs_h3281.2 0 67 rfl) ?_
                  refine ea_iload (pc := 118) dX12_post_118 7 rfl ?_
                  refine ea_iload (pc := 120) dX12_post_120 4 rfl ?_
                  obtain ⟨z3283, H⟩ := H
                  refine ea_iast (pc := 122) dX12_post_122 (hs_h3281.1 41 (by decide)).1 (hs_h3281.1 41 (by decide)).2.1 (ea_vpl (hs_h3281.1 41 (by decide)).2.2 z3283) ?_
                  obtain ⟨h3284, E3285⟩ : ∃ z, z = ea_wi h3281 (b0 + 41) (Int32.toNatClampNeg (ea_i h (b0 + 0) 63)) x4 := ⟨_, rfl⟩
                  have H := H h3284 E3285
                  refine ea_nm E3285 ?_
                  have hs_h3284 : ShM b0 h3284 := by rw [E3285]; exact ShM_wi hs_h3281
                  refine ea_aload_n (pc := 123) dX12_post_123 rfl 0 rfl ?_
                  refine ea_getR (pc := 124) dX12_post_124 ec_12 (k := 68) (Nat.le_of_ble_eq_true rfl) rfl (Or.inl ew_1413) (hs_h3284.1 0 (by decide)).1 (hs_h3284.1 0 (by decide)).2.1 (hs_h3284.2 0 68 rfl) ?_
                  refine ea_iload (pc := 127) dX12_post_127 7 rfl ?_
                  refine ea_iload (pc := 129) dX12_post_129 5 rfl ?_
                  obtain ⟨z3286, H⟩ := H
                  refine ea_iast (pc := 131) dX12_post_131 (hs_h3284.1 42 (by decide)).1 (hs_h3284.1 42 (by decide)).2.1 (ea_vpl (hs_h3284.1 42 (by decide)).2.2 z3286) ?_
                  obtain ⟨h3287, E3288⟩ : ∃ z, z = ea_wi h3284 (b0 + 42) (Int32.toNatClampNeg (ea_i h (b0 + 0) 63)) x5 := ⟨_, rfl⟩
                  have H := H h3287 E3288
                  refine ea_nm E3288 ?_
                  have hs_h3287 : ShM b0 h3287 := by rw [E3288]; exact ShM_wi hs_h3284
                  refine ea_aload_n (pc := 132) dX12_post_132 rfl 0 rfl ?_
                  refine ea_getR (pc := 133) dX12_post_133 ec_12 (k := 69) (Nat.le_of_ble_eq_true rfl) rfl (Or.inl ew_1414) (hs_h3287.1 0 (by decide)).1 (hs_h3287.1 0 (by decide)).2.1 (hs_h3287.2 0 69 rfl) ?_
                  refine ea_iload (pc := 136) dX12_post_136 7 rfl ?_
                  refine ea_iload (pc := 138) dX12_post_138 6 rfl ?_
                  obtain ⟨z3289, H⟩ := H
                  refine ea_iast (pc := 140) dX12_post_140 (hs_h3287.1 43 (by decide)).1 (hs_h3287.1 43 (by decide)).2.1 (ea_vpl (hs_h3287.1 43 (by decide)).2.2 z3289) ?_
                  obtain ⟨h3290, E3291⟩ : ∃ z, z = ea_wi h3287 (b0 + 43) (Int32.toNatClampNeg (ea_i h (b0 + 0) 63)) x6 := ⟨_, rfl⟩
                  have H := H h3290 E3291
                  refine ea_nm E3291 ?_
                  have hs_h3290 : ShM b0 h3290 := by rw [E3291]; exact ShM_wi hs_h3287
                  refine ea_aload_n (pc := 141) dX12_post_141 rfl 0 rfl ?_
                  refine ea_getR (pc := 142) dX12_post_142 ec_12 (k := 70) (Nat.le_of_ble_eq_true rfl) rfl (Or.inl ew_1415) (hs_h3290.1 0 (by decide)).1 (hs_h3290.1 0 (by decide)).2.1 (hs_h3290.2 0 70 rfl) ?_
                  refine ea_iload (pc := 145) dX12_post_145 7 rfl ?_
                  refine ea_aload_n (pc := 147) dX12_post_147 rfl 0 rfl ?_
                  refine ea_getI (pc := 148) dX12_post_148 ec_12 (k := 0) (Nat.le_of_ble_eq_true rfl) rfl (Or.inl ew_1345) (hs_h3290.1 0 (by decide)).1 (hs_h3290.1 0 (by decide)).2.1 ?_
                  obtain ⟨z3292, H⟩ := H
                  refine ea_iast (pc := 151) dX12_post_151 (hs_h3290.1 44 (by decide)).1 (hs_h3290.1 44 (by decide)).2.1 (ea_vpl (hs_h3290.1 44 (by decide)).2.2 z3292) ?_
                  obtain ⟨h3293, E3294⟩ : ∃ z, z = ea_wi h3290 (b0 + 44) (Int32.toNatClampNeg (ea_i h (b0 + 0) 63)) (ea_i h3290 (b0 + 0) 0) := ⟨_, rfl⟩
                  have H := H h3293 E3294
                  refine ea_nm E3294 ?_
                  have hs_h3293 : ShM b0 h3293 := by rw [E3294]; exact ShM_wi hs_h3290
                  refine ea_aload_n (pc := 152) dX12_post_152 rfl 0 rfl ?_
                  refine ea_getR (pc := 153) dX12_post_153 ec_12 (k := 71) (Nat.le_of_ble_eq_true rfl) rfl (Or.inl ew_1416) (hs_h3293.1 0 (by decide)).1 (hs_h3293.1 0 (by decide)).2.1 (hs_h3293.2 0 71 rfl) ?_
                  refine ea_iload (pc := 156) dX12_post_156 7 rfl ?_
                  refine ea_aload_n (pc := 158) dX12_post_158 rfl 0 rfl ?_
                  refine ea_iload_n (pc := 159) dX12_post_159 rfl 2 rfl ?_
                  refine ea_iload_n (pc := 160) dX12_post_160 rfl 3 rfl ?_
                  refine ea_iconst (pc := 161) dX12_post_161 (v := 0) rfl ?_
                  obtain ⟨d3295, xc3299, h3296, m3297, q3298, hs_h3296, H⟩ := H
                  refine ea_callV (pc := 162) (As := [vI x2, vI x3, vI 0]) (st := [vI (ea_i h (b0 + 0) 63), vR (some (b0 + 45))]) dX12_post_162 kX12_milesOf m3297 q3298 rfl (Nat.le_of_ble_eq_true rfl) ew_1719 ew_1721 ew_48 (ci := 12) rfl (by decide) (hs_h3293.1 0 (by decide)).1 (hs_h3293.1 0 (by decide)).2.1 ?_
                  obtain ⟨z3300, H⟩ := H
                  refine ea_iast (pc := 165) dX12_post_165 (hs_h3296.1 45 (by decide)).1 (hs_h3296.1 45 (by decide)).2.1 (ea_vpl (hs_h3296.1 45 (by decide)).2.2 z3300) ?_
                  obtain ⟨h3301, E3302⟩ : ∃ z, z = ea_wi h3296 (b0 + 45) (Int32.toNatClampNeg (ea_i h (b0 + 0) 63)) xc3299 := ⟨_, rfl⟩
                  have H := H h3301 E3302
                  refine ea_nm E3302 ?_
                  have hs_h3301 : ShM b0 h3301 := by rw [E3302]; exact ShM_wi hs_h3296
                  refine ea_aload_n (pc := 166) dX12_post_166 rfl 0 rfl ?_
                  refine ea_getR (pc := 167) dX12_post_167 ec_12 (k := 78) (Nat.le_of_ble_eq_true rfl) rfl (Or.inl ew_1423) (hs_h3301.1 0 (by decide)).1 (hs_h3301.1 0 (by decide)).2.1 (hs_h3301.2 0 78 rfl) ?_
                  refine ea_iload (pc := 170) dX12_post_170 7 rfl ?_
                  refine ea_aload_n (pc := 172) dX12_post_172 rfl 0 rfl ?_
                  refine ea_iload_n (pc := 173) dX12_post_173 rfl 2 rfl ?_
                  refine ea_iload_n (pc := 174) dX12_post_174 rfl 3 rfl ?_
                  obtain ⟨d3303, xc3307, h3304, m3305, q3306, hs_h3304, H⟩ := H
                  refine ea_callV (pc := 175) (As := [vI x2, vI x3]) (st := [vI (ea_i h (b0 + 0) 63), vR (some (b0 + 52))]) dX12_post_175 kX12_isCross m3305 q3306 rfl (Nat.le_of_ble_eq_true rfl) ew_1983 ew_1985 ew_82 (ci := 12) rfl (by decide) (hs_h3301.1 0 (by decide)).1 (hs_h3301.1 0 (by decide)).2.1 ?_
                  obtain ⟨z3308, H⟩ := H
                  obtain ⟨z3311, H⟩ := H
                  refine ea_zast (pc := 178) dX12_post_178 (y := xc3307) (ea_bn z3311) (hs_h3304.1 52 (by decide)).1 (hs_h3304.1 52 (by decide)).2.1 (ea_vpl (hs_h3304.1 52 (by decide)).2.2 z3308) ?_
                  obtain ⟨h3309, E3310⟩ : ∃ z, z = ea_wi h3304 (b0 + 52) (Int32.toNatClampNeg (ea_i h (b0 + 0) 63)) xc3307 := ⟨_, rfl⟩
                  have H := H h3309 E3310
                  refine ea_nm E3310 ?_
                  have hs_h3309 : ShM b0 h3309 := by rw [E3310]; exact ShM_wi hs_h3304
                  refine ea_aload_n (pc := 179) dX12_post_179 rfl 0 rfl ?_
                  refine ea_getR (pc := 180) dX12_post_180 ec_12 (k := 72) (Nat.le_of_ble_eq_true rfl) rfl (Or.inl ew_1417) (hs_h3309.1 0 (by decide)).1 (hs_h3309.1 0 (by decide)).2.1 (hs_h3309.2 0 72 rfl) ?_
                  refine ea_iload (pc := 183) dX12_post_183 7 rfl ?_
                  refine ea_iconst (pc := 185) dX12_post_185 (v := 0) rfl ?_
                  obtain ⟨z3312, H⟩ := H
                  refine ea_iast (pc := 186) dX12_post_186 (hs_h3309.1 46 (by decide)).1 (hs_h3309.1 46 (by decide)).2.1 (ea_vpl (hs_h3309.1 46 (by decide)).2.2 z3312) ?_
                  obtain ⟨h3313, E3314⟩ : ∃ z, z = ea_wi h3309 (b0 + 46) (Int32.toNatClampNeg (ea_i h (b0 + 0) 63)) 0 := ⟨_, rfl⟩
                  have H := H h3313 E3314
                  refine ea_nm E3314 ?_
                  have hs_h3313 : ShM b0 h3313 := by rw [E3314]; exact ShM_wi hs_h3309
                  refine ea_iconst (pc := 187) dX12_post_187 (v := 0) rfl ?_
                  refine ea_istore (pc := 188) (lv' := [(0, vR (some (b0 + 0))), (2, vI x2), (6, vI x6), (7, vI (ea_i h (b0 + 0) 63)), (8, vI 0)]) dX12_post_188 (Nat.le_of_ble_eq_true rfl) [1, 3, 7, 8, 0] rfl ?_
                  exact H
                · have H := H.2 c3315
                  refine ea_iconst (pc := 72) dX12_post_72 (v := (-1)) rfl ?_
                  obtain ⟨rfl, rfl⟩ := H
                  exact ea_ireturn (pc := 73) dX12_post_73 rfl rfl
set_option maxRecDepth 100000 in
set_option maxHeartbeats 4000000 in
theorem pX12_post_190 {d b0 : Nat} {h0 hE h : ea_H} {rv : Option ea_V} {x2 : Int32} {x6 : Int32} {x7 : Int32} {x8 : Int32} (hd : 3 ≤ d) (hs_h : ShM b0 h) (H : (x7 < x8 → ∃ (d1 : Nat) (xc5 : Int32) (h2 : ea_H), ea_Met mX12_actOn d1 [vR (some (b0 + 0)), vI ((ea_i h (b0 + 0) 0) / (1440 : Int32))] h (some (vI xc5)) h2 ∧ d1 + 1 ≤ d ∧ ShM b0 h2 ∧ vp_in x7 120 ∧ ∀ h7, h7 = ea_wi h2 (b0 + 47) (Int32.toNatClampNeg x7) xc5 → vp_in x7 120 ∧ ((ea_i h7 (b0 + 47) (Int32.toNatClampNeg x7)) = ((-1) : Int32) → ea_W mX12_post d h0 rv hE 320 [(0, vR (some (b0 + 0))), (2, vI x2), (7, vI x7)] [vI 0, vI x7, vR (some (b0 + 53))] h7) ∧ (¬ (ea_i h7 (b0 + 47) (Int32.toNatClampNeg x7)) = ((-1) : Int32) → vp_in x7 120 ∧ (okX12_isFree b0 (x7 : Int32) ((ea_i h7 (b0 + 47) (Int32.toNatClampNeg x7)) : Int32) h7) ∧ ((vX12_isFree b0 (x7 : Int32) ((ea_i h7 (b0 + 47) (Int32.toNatClampNeg x7)) : Int32) h7) = (0 : Int32) → ea_W mX12_post d h0 rv hE 320 [(0, vR (some (b0 + 0))), (2, vI x2), (7, vI x7)] [vI 0, vI x7, vR (some (b0 + 53))] h7) ∧ (¬ (vX12_isFree b0 (x7 : Int32) ((ea_i h7 (b0 + 47) (Int32.toNatClampNeg x7)) : Int32) h7) = (0 : Int32) → ea_W mX12_post d h0 rv hE 320 [(0, vR (some (b0 + 0))), (2, vI x2), (7, vI x7)] [vI 1, vI x7, vR (some (b0 + 53))] h7))) ∧ (¬ x7 < x8 → vp_in x7 120 ∧ vp_in x8 120 ∧ (¬ (ea_i h (b0 + 38) (Int32.toNatClampNeg x8)) = (2 : Int32) → vp_in x7 120 ∧ ∀ h23, h23 = ea_wi h (b0 + 46) (Int32.toNatClampNeg x7) ((ea_i h (b0 + 46) (Int32.toNatClampNeg x7)) + (0 : Int32)) → ea_W mX12_post d h0 rv hE 190 [(0, vR (some (b0 + 0))), (2, vI x2), (6, vI x6), (7, vI x7), (8, vI (x8 + 1))] [] h23) ∧ ((ea_i h (b0 + 38) (Int32.toNatClampNeg x8)) = (2 : Int32) → vp_in x8 120 ∧ (¬ (ea_i h (b0 + 43) (Int32.toNatClampNeg x8)) = x6 → vp_in x7 120 ∧ ∀ h27, h27 = ea_wi h (b0 + 46) (Int32.toNatClampNeg x7) ((ea_i h (b0 + 46) (Int32.toNatClampNeg x7)) + (0 : Int32)) → ea_W mX12_post d h0 rv hE 190 [(0, vR (some (b0 + 0))), (2, vI x2), (6, vI x6), (7, vI x7), (8, vI (x8 + 1))] [] h27) ∧ ((ea_i h (b0 + 43) (Int32.toNatClampNeg x8)) = x6 → vp_in x8 120 ∧ (¬ ((ea_i h (b0 + 44) (Int32.toNatClampNeg x8)) / (1440 : Int32)) = ((ea_i h (b0 + 0) 0) / (1440 : Int32)) → vp_in x7 120 ∧ ∀ h31, h31 = ea_wi h (b0 + 46) (Int32.toNatClampNeg x7) ((ea_i h (b0 + 46) (Int32.toNatClampNeg x7)) + (0 : Int32)) → ea_W mX12_post d h0 rv hE 190 [(0, vR (some (b0 + 0))), (2, vI x2), (6, vI x6), (7, vI x7), (8, vI (x8 + 1))] [] h31) ∧ (((ea_i h (b0 + 44) (Int32.toNatClampNeg x8)) / (1440 : Int32)) = ((ea_i h (b0 + 0) 0) / (1440 : Int32)) → vp_in x7 120 ∧ ∀ h34, h34 = ea_wi h (b0 + 46) (Int32.toNatClampNeg x7) ((ea_i h (b0 + 46) (Int32.toNatClampNeg x7)) + (1 : Int32)) → ea_W mX12_post d h0 rv hE 190 [(0, vR (some (b0 + 0))), (2, vI x2), (6, vI x6), (7, vI x7), (8, vI (x8 + 1))] [] h34))))) : ea_W mX12_post d h0 rv hE 190 [(0, vR (some (b0 + 0))), (2, vI x2), (6, vI x6), (7, vI x7), (8, vI x8)] [] h := by
  refine ea_iload (pc := 190) dX12_post_190 4 rfl ?_
  refine ea_iload (pc := 192) dX12_post_192 3 rfl ?_
  refine ea_icmp_gt (pc := 194) (tgt := 263) dX12_post_194 rfl (fun c39 => ?_) (fun c39 => ?_)
  · have H := H.1 c39
    refine ea_aload_n (pc := 263) dX12_post_263 rfl 0 rfl ?_
    refine ea_getR (pc := 264) dX12_post_264 ec_12 (k := 73) (Nat.le_of_ble_eq_true rfl) rfl (Or.inl ew_1418) (hs_h.1 0 (by decide)).1 (hs_h.1 0 (by decide)).2.1 (hs_h.2 0 73 rfl) ?_
    refine ea_iload (pc := 267) dX12_post_267 3 rfl ?_
    refine ea_aload_n (pc := 269) dX12_post_269 rfl 0 rfl ?_
    refine ea_aload_n (pc := 270) dX12_post_270 rfl 0 rfl ?_
    refine ea_getI (pc := 271) dX12_post_271 ec_12 (k := 0) (Nat.le_of_ble_eq_true rfl) rfl (Or.inl ew_1345) (hs_h.1 0 (by decide)).1 (hs_h.1 0 (by decide)).2.1 ?_
    refine ea_sipush (pc := 274) dX12_post_274 (v := 1440) rfl ?_
    refine ea_idiv (pc := 277) dX12_post_277 (by decide) ?_
    obtain ⟨d1, xc5, h2, m3, q4, hs_h2, H⟩ := H
    refine ea_callV (pc := 278) (As := [vI ((ea_i h (b0 + 0) 0) / (1440 : Int32))]) (st := [vI x7, vR (some (b0 + 47))]) dX12_post_278 kX12_actOn m3 q4 rfl (Nat.le_of_ble_eq_true rfl) ew_1975 ew_1977 ew_81 (ci := 12) rfl (by decide) (hs_h.1 0 (by decide)).1 (hs_h.1 0 (by decide)).2.1 ?_
    obtain ⟨z6, H⟩ := H
    refine ea_iast (pc := 281) dX12_post_281 (hs_h2.1 47 (by decide)).1 (hs_h2.1 47 (by decide)).2.1 (ea_vpl (hs_h2.1 47 (by decide)).2.2 z6) ?_
    obtain ⟨h7, E8⟩ : ∃ z, z = ea_wi h2 (b0 + 47) (Int32.toNatClampNeg x7) xc5 := ⟨_, rfl⟩
    have H := H h7 E8
    refine ea_nm E8 ?_
    have hs_h7 : ShM b0 h7 := by rw [E8]; exact ShM_wi hs_h2
    refine ea_aload_n (pc := 282) dX12_post_282 rfl 0 rfl ?_
    refine ea_getR (pc := 283) dX12_post_283 ec_12 (k := 79) (Nat.le_of_ble_eq_true rfl) rfl (Or.inl ew_1424) (hs_h7.1 0 (by decide)).1 (hs_h7.1 0 (by decide)).2.1 (hs_h7.2 0 79 rfl) ?_
    refine ea_iload (pc := 286) dX12_post_286 3 rfl ?_
    refine ea_aload_n (pc := 288) dX12_post_288 rfl 0 rfl ?_
    refine ea_getR (pc := 289) dX12_post_289 ec_12 (k := 73) (Nat.le_of_ble_eq_true rfl) rfl (Or.inl ew_1418) (hs_h7.1 0 (by decide)).1 (hs_h7.1 0 (by decide)).2.1 (hs_h7.2 0 73 rfl) ?_
    refine ea_iload (pc := 292) dX12_post_292 3 rfl ?_
    obtain ⟨z9, H⟩ := H
    refine ea_iald (pc := 294) dX12_post_294 (hs_h7.1 47 (by decide)).1 (hs_h7.1 47 (by decide)).2.1 (ea_vpl (hs_h7.1 47 (by decide)).2.2 z9) ?_
    refine ea_iconst (pc := 295) dX12_post_295 (v := (-1)) rfl ?_
    refine ea_icmp_eq (pc := 296) (tgt := 319) dX12_post_296 rfl (fun c19 => ?_) (fun c19 => ?_)
    · have H := H.1 c19
      refine ea_iconst (pc := 319) dX12_post_319 (v := 0) rfl ?_
      exact ea_fewer [0, 1, 3] rfl H
    · have H := H.2 c19
      refine ea_aload_n (pc := 299) dX12_post_299 rfl 0 rfl ?_
      refine ea_iload (pc := 300) dX12_post_300 3 rfl ?_
      refine ea_aload_n (pc := 302) dX12_post_302 rfl 0 rfl ?_
      refine ea_getR (pc := 303) dX12_post_303 ec_12 (k := 73) (Nat.le_of_ble_eq_true rfl) rfl (Or.inl ew_1418) (hs_h7.1 0 (by decide)).1 (hs_h7.1 0 (by decide)).2.1 (hs_h7.2 0 73 rfl) ?_
      refine ea_iload (pc := 306) dX12_post_306 3 rfl ?_
      obtain ⟨z10, H⟩ := H
      refine ea_iald (pc := 308) dX12_post_308 (hs_h7.1 47 (by decide)).1 (hs_h7.1 47 (by decide)).2.1 (ea_vpl (hs_h7.1 47 (by decide)).2.2 z10) ?_
      obtain ⟨z18, H⟩ := H
      refine ea_callV (pc := 309) (d' := d - 1) (As := [vI x7, vI (ea_i h7 (b0 + 47) (Int32.toNatClampNeg x7))]) (st := [vI x7, vR (some (b0 + 53))]) dX12_post_309 kX12_isFree (sX12_isFree (d := d - 1) (by omega) hs_h7 z18) (by omega) rfl (Nat.le_of_ble_eq_true rfl) ew_1987 ew_1989 ew_83 (ci := 12) rfl (by decide) (hs_h7.1 0 (by decide)).1 (hs_h7.1 0 (by decide)).2.1 ?_
      refine ea_if_eq (pc := 312) (tgt := 319) dX12_post_312 rfl (fun c17 => ?_) (fun c17 => ?_)
      · have H := H.1 c17
        refine ea_iconst (pc := 319) dX12_post_319 (v := 0) rfl ?_
        exact ea_fewer [0, 1, 3] rfl H
      · have H := H.2 c17
        refine ea_iconst (pc := 315) dX12_post_315 (v := 1) rfl ?_
        refine ea_goto (pc := 316) (tgt := 320) dX12_post_316 rfl ?_
        exact ea_fewer [0, 1, 3] rfl H
  · have H := H.2 c39
    refine ea_aload_n (pc := 197) dX12_post_197 rfl 0 rfl ?_
    refine ea_getR (pc := 198) dX12_post_198 ec_12 (k := 72) (Nat.le_of_ble_eq_true rfl) rfl (Or.inl ew_1417) (hs_h.1 0 (by decide)).1 (hs_h.1 0 (by decide)).2.1 (hs_h.2 0 72 rfl) ?_
    refine ea_iload (pc := 201) dX12_post_201 3 rfl ?_
    refine ea_dup2 (pc := 203) dX12_post_203 rfl rfl ?_
    obtain ⟨z20, H⟩ := H
    refine ea_iald (pc := 204) dX12_post_204 (hs_h.1 46 (by decide)).1 (hs_h.1 46 (by decide)).2.1 (ea_vpl (hs_h.1 46 (by decide)).2.2 z20) ?_
    refine ea_aload_n (pc := 205) dX12_post_205 rfl 0 rfl ?_
    refine ea_getR (pc := 206) dX12_post_206 ec_12 (k := 64) (Nat.le_of_ble_eq_true rfl) rfl (Or.inl ew_1409) (hs_h.1 0 (by decide)).1 (hs_h.1 0 (by decide)).2.1 (hs_h.2 0 64 rfl) ?_
    refine ea_iload (pc := 209) dX12_post_209 4 rfl ?_
    obtain ⟨z21, H⟩ := H
    refine ea_iald (pc := 211) dX12_post_211 (hs_h.1 38 (by decide)).1 (hs_h.1 38 (by decide)).2.1 (ea_vpl (hs_h.1 38 (by decide)).2.2 z21) ?_
    refine ea_iconst (pc := 212) dX12_post_212 (v := 2) rfl ?_
    refine ea_icmp_ne (pc := 213) (tgt := 254) dX12_post_213 rfl (fun c38 => ?_) (fun c38 => ?_)
    · have H := H.1 c38
      refine ea_iconst (pc := 254) dX12_post_254 (v := 0) rfl ?_
      refine ea_iadd (pc := 255) dX12_post_255 ?_
      obtain ⟨z22, H⟩ := H
      refine ea_iast (pc := 256) dX12_post_256 (hs_h.1 46 (by decide)).1 (hs_h.1 46 (by decide)).2.1 (ea_vpl (hs_h.1 46 (by decide)).2.2 z22) ?_
      obtain ⟨h23, E24⟩ : ∃ z, z = ea_wi h (b0 + 46) (Int32.toNatClampNeg x7) ((ea_i h (b0 + 46) (Int32.toNatClampNeg x7)) + (0 : Int32)) := ⟨_, rfl⟩
      have H := H h23 E24
      refine ea_nm E24 ?_
      have hs_h23 : ShM b0 h23 := by rw [E24]; exact ShM_wi hs_h
      refine ea_iinc (pc := 257) (v := 1) (lv' := [(0, vR (some (b0 + 0))), (2, vI x2), (6, vI x6), (7, vI x7), (8, vI (x8 + 1))]) dX12_post_257 4 rfl rfl (Nat.le_of_ble_eq_true rfl) [1, 2, 3, 4, 0] rfl ?_
      refine ea_goto (pc := 260) (tgt := 190) dX12_post_260 rfl ?_
      exact H
    · have H := H.2 c38
      refine ea_aload_n (pc := 216) dX12_post_216 rfl 0 rfl ?_
      refine ea_getR (pc := 217) dX12_post_217 ec_12 (k := 69) (Nat.le_of_ble_eq_true rfl) rfl (Or.inl ew_1414) (hs_h.1 0 (by decide)).1 (hs_h.1 0 (by decide)).2.1 (hs_h.2 0 69 rfl) ?_
      refine ea_iload (pc := 220) dX12_post_220 4 rfl ?_
      obtain ⟨z25, H⟩ := H
      refine ea_iald (pc := 222) dX12_post_222 (hs_h.1 43 (by decide)).1 (hs_h.1 43 (by decide)).2.1 (ea_vpl (hs_h.1 43 (by decide)).2.2 z25) ?_
      refine ea_iload (pc := 223) dX12_post_223 2 rfl ?_
      refine ea_icmp_ne (pc := 225) (tgt := 254) dX12_post_225 rfl (fun c37 => ?_) (fun c37 => ?_)
      · have H := H.1 c37
        refine ea_iconst (pc := 254) dX12_post_254 (v := 0) rfl ?_
        refine ea_iadd (pc := 255) dX12_post_255 ?_
        obtain ⟨z26, H⟩ := H
        refine ea_iast (pc := 256) dX12_post_256 (hs_h.1 46 (by decide)).1 (hs_h.1 46 (by decide)).2.1 (ea_vpl (hs_h.1 46 (by decide)).2.2 z26) ?_
        obtain ⟨h27, E28⟩ : ∃ z, z = ea_wi h (b0 + 46) (Int32.toNatClampNeg x7) ((ea_i h (b0 + 46) (Int32.toNatClampNeg x7)) + (0 : Int32)) := ⟨_, rfl⟩
        have H := H h27 E28
        refine ea_nm E28 ?_
        have hs_h27 : ShM b0 h27 := by rw [E28]; exact ShM_wi hs_h
        refine ea_iinc (pc := 257) (v := 1) (lv' := [(0, vR (some (b0 + 0))), (2, vI x2), (6, vI x6), (7, vI x7), (8, vI (x8 + 1))]) dX12_post_257 4 rfl rfl (Nat.le_of_ble_eq_true rfl) [1, 2, 3, 4, 0] rfl ?_
        refine ea_goto (pc := 260) (tgt := 190) dX12_post_260 rfl ?_
        exact H
      · have H := H.2 c37
        refine ea_aload_n (pc := 228) dX12_post_228 rfl 0 rfl ?_
        refine ea_getR (pc := 229) dX12_post_229 ec_12 (k := 70) (Nat.le_of_ble_eq_true rfl) rfl (Or.inl ew_1415) (hs_h.1 0 (by decide)).1 (hs_h.1 0 (by decide)).2.1 (hs_h.2 0 70 rfl) ?_
        refine ea_iload (pc := 232) dX12_post_232 4 rfl ?_
        obtain ⟨z29, H⟩ := H
        refine ea_iald (pc := 234) dX12_post_234 (hs_h.1 44 (by decide)).1 (hs_h.1 44 (by decide)).2.1 (ea_vpl (hs_h.1 44 (by decide)).2.2 z29) ?_
        refine ea_sipush (pc := 235) dX12_post_235 (v := 1440) rfl ?_
        refine ea_idiv (pc := 238) dX12_post_238 (by decide) ?_
        refine ea_aload_n (pc := 239) dX12_post_239 rfl 0 rfl ?_
        refine ea_getI (pc := 240) dX12_post_240 ec_12 (k := 0) (Nat.le_of_ble_eq_true rfl) rfl (Or.inl ew_1345) (hs_h.1 0 (by decide)).1 (hs_h.1 0 (by decide)).2.1 ?_
        refine ea_sipush (pc := 243) dX12_post_243 (v := 1440) rfl ?_
        refine ea_idiv (pc := 246) dX12_post_246 (by decide) ?_
        refine ea_icmp_ne (pc := 247) (tgt := 254) dX12_post_247 rfl (fun c36 => ?_) (fun c36 => ?_)
        · have H := H.1 c36
          refine ea_iconst (pc := 254) dX12_post_254 (v := 0) rfl ?_
          refine ea_iadd (pc := 255) dX12_post_255 ?_
          obtain ⟨z30, H⟩ := H
          refine ea_iast (pc := 256) dX12_post_256 (hs_h.1 46 (by decide)).1 (hs_h.1 46 (by decide)).2.1 (ea_vpl (hs_h.1 46 (by decide)).2.2 z30) ?_
          obtain ⟨h31, E32⟩ : ∃ z, z = ea_wi h (b0 + 46) (Int32.toNatClampNeg x7) ((ea_i h (b0 + 46) (Int32.toNatClampNeg x7)) + (0 : Int32)) := ⟨_, rfl⟩
          have H := H h31 E32
          refine ea_nm E32 ?_
          have hs_h31 : ShM b0 h31 := by rw [E32]; exact ShM_wi hs_h
          refine ea_iinc (pc := 257) (v := 1) (lv' := [(0, vR (some (b0 + 0))), (2, vI x2), (6, vI x6), (7, vI x7), (8, vI (x8 + 1))]) dX12_post_257 4 rfl rfl (Nat.le_of_ble_eq_true rfl) [1, 2, 3, 4, 0] rfl ?_
          refine ea_goto (pc := 260) (tgt := 190) dX12_post_260 rfl ?_
          exact H
        · have H := H.2 c36
          refine ea_iconst (pc := 250) dX12_post_250 (v := 1) rfl ?_
          refine ea_goto (pc := 251) (tgt := 255) dX12_post_251 rfl ?_
          refine ea_iadd (pc := 255) dX12_post_255 ?_
          obtain ⟨z33, H⟩ := H
          refine ea_iast (pc := 256) dX12_post_256 (hs_h.1 46 (by decide)).1 (hs_h.1 46 (by decide)).2.1 (ea_vpl (hs_h.1 46 (by decide)).2.2 z33) ?_
          obtain ⟨h34, E35⟩ : ∃ z, z = ea_wi h (b0 + 46) (Int32.toNatClampNeg x7) ((ea_i h (b0 + 46) (Int32.toNatClampNeg x7)) + (1 : Int32)) := ⟨_, rfl⟩
          have H := H h34 E35
          refine ea_nm E35 ?_
          have hs_h34 : ShM b0 h34 := by rw [E35]; exact ShM_wi hs_h
          refine ea_iinc (pc := 257) (v := 1) (lv' := [(0, vR (some (b0 + 0))), (2, vI x2), (6, vI x6), (7, vI x7), (8, vI (x8 + 1))]) dX12_post_257 4 rfl rfl (Nat.le_of_ble_eq_true rfl) [1, 2, 3, 4, 0] rfl ?_
          refine ea_goto (pc := 260) (tgt := 190) dX12_post_260 rfl ?_
          exact H
set_option maxRecDepth 100000 in
set_option maxHeartbeats 4000000 in
theorem pX12_post_320 {d b0 : Nat} {h0 hE h : ea_H} {rv : Option ea_V} {x2 : Int32} {x7 : Int32} {sx0 : Int32} {sx1 : Int32} {sr2 : Option Nat} (hd : 3 ≤ d) (hs_h : ShM b0 h) (H : ∃ a3, sr2 = some a3 ∧ a3 < ea_n h ∧ ea_c h a3 = 21 ∧ vp_in sx1 (ea_l h a3) ∧ (sx0 = 0 ∨ sx0 = 1) ∧ ∀ h6, h6 = ea_wi h a3 (Int32.toNatClampNeg sx1) sx0 → vp_in x7 120 ∧ (¬ (ea_i h6 (b0 + 47) (Int32.toNatClampNeg x7)) = ((-1) : Int32) → vp_in x7 120 ∧ ∃ (d11 : Nat) (xc15 : Int32) (h12 : ea_H), ea_Met mX12_chargeBy d11 [vR (some (b0 + 0)), vI x7, vI (ea_i h6 (b0 + 47) (Int32.toNatClampNeg x7))] h6 (some (vI xc15)) h12 ∧ d11 + 1 ≤ d ∧ ShM b0 h12 ∧ ea_W mX12_post d h0 rv hE 355 [(0, vR (some (b0 + 0))), (2, vI x2), (7, vI x7)] [vI xc15, vI x7, vR (some (b0 + 48))] h12) ∧ ((ea_i h6 (b0 + 47) (Int32.toNatClampNeg x7)) = ((-1) : Int32) → ea_W mX12_post d h0 rv hE 355 [(0, vR (some (b0 + 0))), (2, vI x2), (7, vI x7)] [vI 0, vI x7, vR (some (b0 + 48))] h6)) : ea_W mX12_post d h0 rv hE 320 [(0, vR (some (b0 + 0))), (2, vI x2), (7, vI x7)] [vI sx0, vI sx1, vR sr2] h := by
  obtain ⟨a3, e4, f1, g2, H⟩ := H
  refine ea_deref2 e4 ?_
  obtain ⟨z5, H⟩ := H
  obtain ⟨z8, H⟩ := H
  refine ea_zast (pc := 320) dX12_post_320 (y := sx0) (ea_bn z8) f1 g2 z5 ?_
  obtain ⟨h6, E7⟩ : ∃ z, z = ea_wi h a3 (Int32.toNatClampNeg sx1) sx0 := ⟨_, rfl⟩
  have H := H h6 E7
  refine ea_nm E7 ?_
  have hs_h6 : ShM b0 h6 := by rw [E7]; exact ShM_wi hs_h
  refine ea_aload_n (pc := 321) dX12_post_321 rfl 0 rfl ?_
  refine ea_getR (pc := 322) dX12_post_322 ec_12 (k := 74) (Nat.le_of_ble_eq_true rfl) rfl (Or.inl ew_1419) (hs_h6.1 0 (by decide)).1 (hs_h6.1 0 (by decide)).2.1 (hs_h6.2 0 74 rfl) ?_
  refine ea_iload (pc := 325) dX12_post_325 2 rfl ?_
  refine ea_aload_n (pc := 327) dX12_post_327 rfl 0 rfl ?_
  refine ea_getR (pc := 328) dX12_post_328 ec_12 (k := 73) (Nat.le_of_ble_eq_true rfl) rfl (Or.inl ew_1418) (hs_h6.1 0 (by decide)).1 (hs_h6.1 0 (by decide)).2.1 (hs_h6.2 0 73 rfl) ?_
  refine ea_iload (pc := 331) dX12_post_331 2 rfl ?_
  obtain ⟨z9, H⟩ := H
  refine ea_iald (pc := 333) dX12_post_333 (hs_h6.1 47 (by decide)).1 (hs_h6.1 47 (by decide)).2.1 (ea_vpl (hs_h6.1 47 (by decide)).2.2 z9) ?_
  refine ea_iconst (pc := 334) dX12_post_334 (v := (-1)) rfl ?_
  refine ea_icmp_ne (pc := 335) (tgt := 342) dX12_post_335 rfl (fun c16 => ?_) (fun c16 => ?_)
  · have H := H.1 c16
    refine ea_aload_n (pc := 342) dX12_post_342 rfl 0 rfl ?_
    refine ea_iload (pc := 343) dX12_post_343 2 rfl ?_
    refine ea_aload_n (pc := 345) dX12_post_345 rfl 0 rfl ?_
    refine ea_getR (pc := 346) dX12_post_346 ec_12 (k := 73) (Nat.le_of_ble_eq_true rfl) rfl (Or.inl ew_1418) (hs_h6.1 0 (by decide)).1 (hs_h6.1 0 (by decide)).2.1 (hs_h6.2 0 73 rfl) ?_
    refine ea_iload (pc := 349) dX12_post_349 2 rfl ?_
    obtain ⟨z10, H⟩ := H
    refine ea_iald (pc := 351) dX12_post_351 (hs_h6.1 47 (by decide)).1 (hs_h6.1 47 (by decide)).2.1 (ea_vpl (hs_h6.1 47 (by decide)).2.2 z10) ?_
    obtain ⟨d11, xc15, h12, m13, q14, hs_h12, H⟩ := H
    refine ea_callV (pc := 352) (As := [vI x7, vI (ea_i h6 (b0 + 47) (Int32.toNatClampNeg x7))]) (st := [vI x7, vR (some (b0 + 48))]) dX12_post_352 kX12_chargeBy m13 q14 rfl (Nat.le_of_ble_eq_true rfl) ew_1991 ew_1993 ew_84 (ci := 12) rfl (by decide) (hs_h6.1 0 (by decide)).1 (hs_h6.1 0 (by decide)).2.1 ?_
    exact H
  · have H := H.2 c16
    refine ea_iconst (pc := 338) dX12_post_338 (v := 0) rfl ?_
    refine ea_goto (pc := 339) (tgt := 355) dX12_post_339 rfl ?_
    exact H
set_option maxRecDepth 100000 in
set_option maxHeartbeats 4000000 in
theorem pX12_post_355 {d b0 : Nat} {h0 hE h : ea_H} {rv : Option ea_V} {x2 : Int32} {x7 : Int32} {sx0 : Int32} {sx1 : Int32} {sr2 : Option Nat} (hd : 3 ≤ d) (hs_h : ShM b0 h) (H : ∃ a3, sr2 = some a3 ∧ a3 < ea_n h ∧ ea_c h a3 = 20 ∧ vp_in sx1 (ea_l h a3) ∧ ∀ h6, h6 = ea_wi h a3 (Int32.toNatClampNeg sx1) sx0 → vp_in x7 120 ∧ (¬ (ea_i h6 (b0 + 47) (Int32.toNatClampNeg x7)) = ((-1) : Int32) → vp_in x7 120 ∧ ∃ (d10 : Nat) (xc14 : Int32) (h11 : ea_H), ea_Met mX12_lineOf d10 [vR (some (b0 + 0)), vI x7, vI (ea_i h6 (b0 + 47) (Int32.toNatClampNeg x7))] h6 (some (vI xc14)) h11 ∧ d10 + 1 ≤ d ∧ ShM b0 h11 ∧ ea_W mX12_post d h0 rv hE 390 [(0, vR (some (b0 + 0))), (2, vI x2), (7, vI x7)] [vI xc14, vI x7, vR (some (b0 + 49))] h11) ∧ ((ea_i h6 (b0 + 47) (Int32.toNatClampNeg x7)) = ((-1) : Int32) → ea_W mX12_post d h0 rv hE 390 [(0, vR (some (b0 + 0))), (2, vI x2), (7, vI x7)] [vI (-1), vI x7, vR (some (b0 + 49))] h6)) : ea_W mX12_post d h0 rv hE 355 [(0, vR (some (b0 + 0))), (2, vI x2), (7, vI x7)] [vI sx0, vI sx1, vR sr2] h := by
  obtain ⟨a3, e4, f1, g2, H⟩ := H
  refine ea_deref2 e4 ?_
  obtain ⟨z5, H⟩ := H
  refine ea_iast (pc := 355) dX12_post_355 f1 g2 z5 ?_
  obtain ⟨h6, E7⟩ : ∃ z, z = ea_wi h a3 (Int32.toNatClampNeg sx1) sx0 := ⟨_, rfl⟩
  have H := H h6 E7
  refine ea_nm E7 ?_
  have hs_h6 : ShM b0 h6 := by rw [E7]; exact ShM_wi hs_h
  refine ea_aload_n (pc := 356) dX12_post_356 rfl 0 rfl ?_
  refine ea_getR (pc := 357) dX12_post_357 ec_12 (k := 75) (Nat.le_of_ble_eq_true rfl) rfl (Or.inl ew_1420) (hs_h6.1 0 (by decide)).1 (hs_h6.1 0 (by decide)).2.1 (hs_h6.2 0 75 rfl) ?_
  refine ea_iload (pc := 360) dX12_post_360 2 rfl ?_
  refine ea_aload_n (pc := 362) dX12_post_362 rfl 0 rfl ?_
  refine ea_getR (pc := 363) dX12_post_363 ec_12 (k := 73) (Nat.le_of_ble_eq_true rfl) rfl (Or.inl ew_1418) (hs_h6.1 0 (by decide)).1 (hs_h6.1 0 (by decide)).2.1 (hs_h6.2 0 73 rfl) ?_
  refine ea_iload (pc := 366) dX12_post_366 2 rfl ?_
  obtain ⟨z8, H⟩ := H
  refine ea_iald (pc := 368) dX12_post_368 (hs_h6.1 47 (by decide)).1 (hs_h6.1 47 (by decide)).2.1 (ea_vpl (hs_h6.1 47 (by decide)).2.2 z8) ?_
  refine ea_iconst (pc := 369) dX12_post_369 (v := (-1)) rfl ?_
  refine ea_icmp_ne (pc := 370) (tgt := 377) dX12_post_370 rfl (fun c15 => ?_) (fun c15 => ?_)
  · have H := H.1 c15
    refine ea_aload_n (pc := 377) dX12_post_377 rfl 0 rfl ?_
    refine ea_iload (pc := 378) dX12_post_378 2 rfl ?_
    refine ea_aload_n (pc := 380) dX12_post_380 rfl 0 rfl ?_
    refine ea_getR (pc := 381) dX12_post_381 ec_12 (k := 73) (Nat.le_of_ble_eq_true rfl) rfl (Or.inl ew_1418) (hs_h6.1 0 (by decide)).1 (hs_h6.1 0 (by decide)).2.1 (hs_h6.2 0 73 rfl) ?_
    refine ea_iload (pc := 384) dX12_post_384 2 rfl ?_
    obtain ⟨z9, H⟩ := H
    refine ea_iald (pc := 386) dX12_post_386 (hs_h6.1 47 (by decide)).1 (hs_h6.1 47 (by decide)).2.1 (ea_vpl (hs_h6.1 47 (by decide)).2.2 z9) ?_
    obtain ⟨d10, xc14, h11, m12, q13, hs_h11, H⟩ := H
    refine ea_callV (pc := 387) (As := [vI x7, vI (ea_i h6 (b0 + 47) (Int32.toNatClampNeg x7))]) (st := [vI x7, vR (some (b0 + 49))]) dX12_post_387 kX12_lineOf m12 q13 rfl (Nat.le_of_ble_eq_true rfl) ew_1995 ew_1997 ew_85 (ci := 12) rfl (by decide) (hs_h6.1 0 (by decide)).1 (hs_h6.1 0 (by decide)).2.1 ?_
    exact H
  · have H := H.2 c15
    refine ea_iconst (pc := 373) dX12_post_373 (v := (-1)) rfl ?_
    refine ea_goto (pc := 374) (tgt := 390) dX12_post_374 rfl ?_
    exact H
set_option maxRecDepth 100000 in
set_option maxHeartbeats 4000000 in
theorem pX12_post_390 {d b0 : Nat} {h0 hE h : ea_H} {rv : Option ea_V} {x2 : Int32} {x7 : Int32} {sx0 : Int32} {sx1 : Int32} {sr2 : Option Nat} (hd : 3 ≤ d) (hs_h : ShM b0 h) (H : ∃ a3, sr2 = some a3 ∧ a3 < ea_n h ∧ ea_c h a3 = 20 ∧ vp_in sx1 (ea_l h a3) ∧ ∀ h6, h6 = ea_wi h a3 (Int32.toNatClampNeg sx1) sx0 → vp_in x7 120 ∧ ∀ h9, h9 = ea_wi h6 (b0 + 57) (Int32.toNatClampNeg x7) (-1) → (okX12_turns b0 (x7 : Int32) ((ea_i h9 (b0 + 0) 0) : Int32) (0 : Int32) (x2 : Int32) h9) ∧ ∀ h12, h12 = (wX12_turns b0 (x7 : Int32) ((ea_i h9 (b0 + 0) 0) : Int32) (0 : Int32) (x2 : Int32) h9) → rv = some (vI x7) ∧ hE = h12) : ea_W mX12_post d h0 rv hE 390 [(0, vR (some (b0 + 0))), (2, vI x2), (7, vI x7)] [vI sx0, vI sx1, vR sr2] h := by
  obtain ⟨a3, e4, f1, g2, H⟩ := H
  refine ea_deref2 e4 ?_
  obtain ⟨z5, H⟩ := H
  refine ea_iast (pc := 390) dX12_post_390 f1 g2 z5 ?_
  obtain ⟨h6, E7⟩ : ∃ z, z = ea_wi h a3 (Int32.toNatClampNeg sx1) sx0 := ⟨_, rfl⟩
  have H := H h6 E7
  refine ea_nm E7 ?_
  have hs_h6 : ShM b0 h6 := by rw [E7]; exact ShM_wi hs_h
  refine ea_aload_n (pc := 391) dX12_post_391 rfl 0 rfl ?_
  refine ea_getR (pc := 392) dX12_post_392 ec_12 (k := 83) (Nat.le_of_ble_eq_true rfl) rfl (Or.inl ew_1428) (hs_h6.1 0 (by decide)).1 (hs_h6.1 0 (by decide)).2.1 (hs_h6.2 0 83 rfl) ?_
  refine ea_iload (pc := 395) dX12_post_395 2 rfl ?_
  refine ea_iconst (pc := 397) dX12_post_397 (v := (-1)) rfl ?_
  obtain ⟨z8, H⟩ := H
  refine ea_iast (pc := 398) dX12_post_398 (hs_h6.1 57 (by decide)).1 (hs_h6.1 57 (by decide)).2.1 (ea_vpl (hs_h6.1 57 (by decide)).2.2 z8) ?_
  obtain ⟨h9, E10⟩ : ∃ z, z = ea_wi h6 (b0 + 57) (Int32.toNatClampNeg x7) (-1) := ⟨_, rfl⟩
  have H := H h9 E10
  refine ea_nm E10 ?_
  have hs_h9 : ShM b0 h9 := by rw [E10]; exact ShM_wi hs_h6
  refine ea_aload_n (pc := 399) dX12_post_399 rfl 0 rfl ?_
  refine ea_iload (pc := 400) dX12_post_400 2 rfl ?_
  refine ea_aload_n (pc := 402) dX12_post_402 rfl 0 rfl ?_
  refine ea_getI (pc := 403) dX12_post_403 ec_12 (k := 0) (Nat.le_of_ble_eq_true rfl) rfl (Or.inl ew_1345) (hs_h9.1 0 (by decide)).1 (hs_h9.1 0 (by decide)).2.1 ?_
  refine ea_iconst (pc := 406) dX12_post_406 (v := 0) rfl ?_
  refine ea_iload_n (pc := 407) dX12_post_407 rfl 1 rfl ?_
  obtain ⟨z15, H⟩ := H
  refine ea_callV (pc := 408) (d' := d - 1) (As := [vI x7, vI (ea_i h9 (b0 + 0) 0), vI 0, vI x2]) (st := []) dX12_post_408 kX12_turns (sX12_turns (d := d - 1) (by omega) hs_h9 z15) (by omega) rfl (Nat.le_of_ble_eq_true rfl) ew_2011 ew_2013 ew_88 (ci := 12) rfl (by decide) (hs_h9.1 0 (by decide)).1 (hs_h9.1 0 (by decide)).2.1 ?_
  obtain ⟨h12, E16⟩ : ∃ z, z = (wX12_turns b0 (x7 : Int32) ((ea_i h9 (b0 + 0) 0) : Int32) (0 : Int32) (x2 : Int32) h9) := ⟨_, rfl⟩
  have H := H h12 E16
  refine ea_nm E16 ?_
  have hs_h12 : ShM b0 h12 := by rw [E16]; exact shX12_turns hs_h9
  refine ea_iload (pc := 411) dX12_post_411 2 rfl ?_
  obtain ⟨rfl, rfl⟩ := H
  exact ea_ireturn (pc := 413) dX12_post_413 rfl rfl
theorem pX12_where_0 {d b0 : Nat} {h0 hE h : ea_H} {rv : Option ea_V} {x1 : Int32} {x2 : Int32} {x3 : Int32} (hd : 3 ≤ d) (hs_h : ShM b0 h) (H : ((vX12_isLetterOf b0 (x1 : Int32) h) = (0 : Int32) → rv = some (vI (-1)) ∧ hE = h) ∧ (¬ (vX12_isLetterOf b0 (x1 : Int32) h) = (0 : Int32) → vp_in x1 120 ∧ ((vX12_isIn (x2 : Int32) ((ea_i h (b0 + 44) (Int32.toNatClampNeg x1)) : Int32) ((ea_i h (b0 + 0) 0) : Int32) h) = (0 : Int32) → rv = some (vI (-1)) ∧ hE = h) ∧ (¬ (vX12_isIn (x2 : Int32) ((ea_i h (b0 + 44) (Int32.toNatClampNeg x1)) : Int32) ((ea_i h (b0 + 0) 0) : Int32) h) = (0 : Int32) → (¬ (vX12_isIn (x3 : Int32) (0 : Int32) (1 : Int32) h) = (0 : Int32) → vp_in x1 120 ∧ ea_W mX12_where d h0 rv hE 46 [(0, vR (some (b0 + 0))), (1, vI x1), (2, vI x2), (3, vI x3), (4, vI ((ea_i h (b0 + 50) (Int32.toNatClampNeg x1)) - (1 : Int32)))] [] h) ∧ ((vX12_isIn (x3 : Int32) (0 : Int32) (1 : Int32) h) = (0 : Int32) → rv = some (vI (-1)) ∧ hE = h)))) : ea_W mX12_where d h0 rv hE 0 [(0, vR (some (b0 + 0))), (1, vI x1), (2, vI x2), (3, vI x3)] [] h := by
  refine ea_aload_n (pc := 0) dX12_where_0 rfl 0 rfl ?_
  refine ea_iload_n (pc := 1) dX12_where_1 rfl 1 rfl ?_
  refine ea_callV (pc := 2) (d' := d - 1) (As := [vI x1]) (st := []) dX12_where_2 kX12_isLetterOf (sX12_isLetterOf (d := d - 1) (by omega) hs_h) (by omega) rfl (Nat.le_of_ble_eq_true rfl) ew_2019 ew_2021 ew_89 (ci := 12) rfl (by decide) (hs_h.1 0 (by decide)).1 (hs_h.1 0 (by decide)).2.1 ?_
  refine ea_if_eq (pc := 5) (tgt := 34) dX12_where_5 rfl (fun c65 => ?_) (fun c65 => ?_)
  · have H := H.1 c65
    refine ea_iconst (pc := 34) dX12_where_34 (v := (-1)) rfl ?_
    obtain ⟨rfl, rfl⟩ := H
    exact ea_ireturn (pc := 35) dX12_where_35 rfl rfl
  · have H := H.2 c65
    refine ea_iload_n (pc := 8) dX12_where_8 rfl 2 rfl ?_
    refine ea_aload_n (pc := 9) dX12_where_9 rfl 0 rfl ?_
    refine ea_getR (pc := 10) dX12_where_10 ec_12 (k := 70) (Nat.le_of_ble_eq_true rfl) rfl (Or.inl ew_1415) (hs_h.1 0 (by decide)).1 (hs_h.1 0 (by decide)).2.1 (hs_h.2 0 70 rfl) ?_
    refine ea_iload_n (pc := 13) dX12_where_13 rfl 1 rfl ?_
    obtain ⟨z36, H⟩ := H
    refine ea_iald (pc := 14) dX12_where_14 (hs_h.1 44 (by decide)).1 (hs_h.1 44 (by decide)).2.1 (ea_vpl (hs_h.1 44 (by decide)).2.2 z36) ?_
    refine ea_aload_n (pc := 15) dX12_where_15 rfl 0 rfl ?_
    refine ea_getI (pc := 16) dX12_where_16 ec_12 (k := 0) (Nat.le_of_ble_eq_true rfl) rfl (Or.inl ew_1345) (hs_h.1 0 (by decide)).1 (hs_h.1 0 (by decide)).2.1 ?_
    refine ea_callS (pc := 19) (d' := d - 1) (As := [vI x2, vI (ea_i h (b0 + 44) (Int32.toNatClampNeg x1)), vI (ea_i h (b0 + 0) 0)]) (st := []) dX12_where_19 kX12_isIn (sX12_isIn (d := d - 1) (by omega)) (by omega) rfl (Nat.le_of_ble_eq_true rfl) ew_1712 ew_1713 ?_
    refine ea_if_eq (pc := 22) (tgt := 34) dX12_where_22 rfl (fun c63 => ?_) (fun c63 => ?_)
    · have H := H.1 c63
      refine ea_iconst (pc := 34) dX12_where_34 (v := (-1)) rfl ?_
      obtain ⟨rfl, rfl⟩ := H
      exact ea_ireturn (pc := 35) dX12_where_35 rfl rfl
    · have H := H.2 c63
      refine ea_iload_n (pc := 25) dX12_where_25 rfl 3 rfl ?_
      refine ea_iconst (pc := 26) dX12_where_26 (v := 0) rfl ?_
      refine ea_iconst (pc := 27) dX12_where_27 (v := 1) rfl ?_
      refine ea_callS (pc := 28) (d' := d - 1) (As := [vI x3, vI 0, vI 1]) (st := []) dX12_where_28 kX12_isIn (sX12_isIn (d := d - 1) (by omega)) (by omega) rfl (Nat.le_of_ble_eq_true rfl) ew_1712 ew_1713 ?_
      refine ea_if_ne (pc := 31) (tgt := 36) dX12_where_31 rfl (fun c61 => ?_) (fun c61 => ?_)
      · have H := H.1 c61
        refine ea_aload_n (pc := 36) dX12_where_36 rfl 0 rfl ?_
        refine ea_getR (pc := 37) dX12_where_37 ec_12 (k := 76) (Nat.le_of_ble_eq_true rfl) rfl (Or.inl ew_1421) (hs_h.1 0 (by decide)).1 (hs_h.1 0 (by decide)).2.1 (hs_h.2 0 76 rfl) ?_
        refine ea_iload_n (pc := 40) dX12_where_40 rfl 1 rfl ?_
        obtain ⟨z60, H⟩ := H
        refine ea_iald (pc := 41) dX12_where_41 (hs_h.1 50 (by decide)).1 (hs_h.1 50 (by decide)).2.1 (ea_vpl (hs_h.1 50 (by decide)).2.2 z60) ?_
        refine ea_iconst (pc := 42) dX12_where_42 (v := 1) rfl ?_
        refine ea_isub (pc := 43) dX12_where_43 ?_
        refine ea_istore (pc := 44) (lv' := [(0, vR (some (b0 + 0))), (1, vI x1), (2, vI x2), (3, vI x3), (4, vI ((ea_i h (b0 + 50) (Int32.toNatClampNeg x1)) - (1 : Int32)))]) dX12_where_44 (Nat.le_of_ble_eq_true rfl) [1, 2, 3, 4, 0] rfl ?_
        exact H
      · have H := H.2 c61
        refine ea_iconst (pc := 34) dX12_where_34 (v := (-1)) rfl ?_
        obtain ⟨rfl, rfl⟩ := H
        exact ea_ireturn (pc := 35) dX12_where_35 rfl rfl
theorem pX12_where_46 {d b0 : Nat} {h0 hE h : ea_H} {rv : Option ea_V} {x1 : Int32} {x2 : Int32} {x3 : Int32} {x4 : Int32} (hd : 3 ≤ d) (hs_h : ShM b0 h) (H : vp_in (((1000 : Int32) * x1) + x4) 120000 ∧ ((ea_i h (b0 + 62) (Int32.toNatClampNeg (((1000 : Int32) * x1) + x4))) ≤ x2 → (¬ x3 = (0 : Int32) → vp_in (((1000 : Int32) * x1) + x4) 120000 ∧ rv = some (vI (ea_i h (b0 + 64) (Int32.toNatClampNeg (((1000 : Int32) * x1) + x4)))) ∧ hE = h) ∧ (x3 = (0 : Int32) → vp_in (((1000 : Int32) * x1) + x4) 120000 ∧ rv = some (vI (ea_i h (b0 + 63) (Int32.toNatClampNeg (((1000 : Int32) * x1) + x4)))) ∧ hE = h)) ∧ (¬ (ea_i h (b0 + 62) (Int32.toNatClampNeg (((1000 : Int32) * x1) + x4))) ≤ x2 → ea_W mX12_where d h0 rv hE 46 [(0, vR (some (b0 + 0))), (1, vI x1), (2, vI x2), (3, vI x3), (4, vI (x4 + (-1)))] [] h)) : ea_W mX12_where d h0 rv hE 46 [(0, vR (some (b0 + 0))), (1, vI x1), (2, vI x2), (3, vI x3), (4, vI x4)] [] h := by
  refine ea_aload_n (pc := 46) dX12_where_46 rfl 0 rfl ?_
  refine ea_getR (pc := 47) dX12_where_47 ec_12 (k := 88) (Nat.le_of_ble_eq_true rfl) rfl (Or.inl ew_1433) (hs_h.1 0 (by decide)).1 (hs_h.1 0 (by decide)).2.1 (hs_h.2 0 88 rfl) ?_
  refine ea_sipush (pc := 50) dX12_where_50 (v := 1000) rfl ?_
  refine ea_iload_n (pc := 53) dX12_where_53 rfl 1 rfl ?_
  refine ea_imul (pc := 54) dX12_where_54 ?_
  refine ea_iload (pc := 55) dX12_where_55 4 rfl ?_
  refine ea_iadd (pc := 57) dX12_where_57 ?_
  obtain ⟨z1, H⟩ := H
  refine ea_iald (pc := 58) dX12_where_58 (hs_h.1 62 (by decide)).1 (hs_h.1 62 (by decide)).2.1 (ea_vpl (hs_h.1 62 (by decide)).2.2 z1) ?_
  refine ea_iload_n (pc := 59) dX12_where_59 rfl 2 rfl ?_
  refine ea_icmp_le (pc := 60) (tgt := 69) dX12_where_60 rfl (fun c5 => ?_) (fun c5 => ?_)
  · have H := H.1 c5
    refine ea_iload_n (pc := 69) dX12_where_69 rfl 3 rfl ?_
    refine ea_if_ne (pc := 70) (tgt := 89) dX12_where_70 rfl (fun c4 => ?_) (fun c4 => ?_)
    · have H := H.1 c4
      refine ea_aload_n (pc := 89) dX12_where_89 rfl 0 rfl ?_
      refine ea_getR (pc := 90) dX12_where_90 ec_12 (k := 90) (Nat.le_of_ble_eq_true rfl) rfl (Or.inl ew_1435) (hs_h.1 0 (by decide)).1 (hs_h.1 0 (by decide)).2.1 (hs_h.2 0 90 rfl) ?_
      refine ea_sipush (pc := 93) dX12_where_93 (v := 1000) rfl ?_
      refine ea_iload_n (pc := 96) dX12_where_96 rfl 1 rfl ?_
      refine ea_imul (pc := 97) dX12_where_97 ?_
      refine ea_iload (pc := 98) dX12_where_98 4 rfl ?_
      refine ea_iadd (pc := 100) dX12_where_100 ?_
      obtain ⟨z2, H⟩ := H
      refine ea_iald (pc := 101) dX12_where_101 (hs_h.1 64 (by decide)).1 (hs_h.1 64 (by decide)).2.1 (ea_vpl (hs_h.1 64 (by decide)).2.2 z2) ?_
      obtain ⟨rfl, rfl⟩ := H
      exact ea_ireturn (pc := 102) dX12_where_102 rfl rfl
    · have H := H.2 c4
      refine ea_aload_n (pc := 73) dX12_where_73 rfl 0 rfl ?_
      refine ea_getR (pc := 74) dX12_where_74 ec_12 (k := 89) (Nat.le_of_ble_eq_true rfl) rfl (Or.inl ew_1434) (hs_h.1 0 (by decide)).1 (hs_h.1 0 (by decide)).2.1 (hs_h.2 0 89 rfl) ?_
      refine ea_sipush (pc := 77) dX12_where_77 (v := 1000) rfl ?_
      refine ea_iload_n (pc := 80) dX12_where_80 rfl 1 rfl ?_
      refine ea_imul (pc := 81) dX12_where_81 ?_
      refine ea_iload (pc := 82) dX12_where_82 4 rfl ?_
      refine ea_iadd (pc := 84) dX12_where_84 ?_
      obtain ⟨z3, H⟩ := H
      refine ea_iald (pc := 85) dX12_where_85 (hs_h.1 63 (by decide)).1 (hs_h.1 63 (by decide)).2.1 (ea_vpl (hs_h.1 63 (by decide)).2.2 z3) ?_
      refine ea_goto (pc := 86) (tgt := 102) dX12_where_86 rfl ?_
      obtain ⟨rfl, rfl⟩ := H
      exact ea_ireturn (pc := 102) dX12_where_102 rfl rfl
  · have H := H.2 c5
    refine ea_iinc (pc := 63) (v := (-1)) (lv' := [(0, vR (some (b0 + 0))), (1, vI x1), (2, vI x2), (3, vI x3), (4, vI (x4 + (-1)))]) dX12_where_63 4 rfl rfl (Nat.le_of_ble_eq_true rfl) [1, 2, 3, 4, 0] rfl ?_
    refine ea_goto (pc := 66) (tgt := 46) dX12_where_66 rfl ?_
    exact H
theorem pX12_coming_0 {d b0 : Nat} {h0 hE h : ea_H} {rv : Option ea_V} {x1 : Int32} (hd : 3 ≤ d) (hs_h : ShM b0 h) (H : vp_in x1 1000 ∧ vp_in x1 1000 ∧ vp_in ((ea_i h (b0 + 12) (Int32.toNatClampNeg x1)) / (7 : Int32)) 10 ∧ (¬ (ea_i h (b0 + 13) (Int32.toNatClampNeg x1)) = ((ea_i h (b0 + 2) (Int32.toNatClampNeg ((ea_i h (b0 + 12) (Int32.toNatClampNeg x1)) / (7 : Int32)))) - (1 : Int32)) → ea_W mX12_coming d h0 rv hE 34 [(0, vR (some (b0 + 0))), (1, vI x1), (2, vI (ea_i h (b0 + 12) (Int32.toNatClampNeg x1))), (3, vI (ea_i h (b0 + 13) (Int32.toNatClampNeg x1)))] [vI 0] h) ∧ ((ea_i h (b0 + 13) (Int32.toNatClampNeg x1)) = ((ea_i h (b0 + 2) (Int32.toNatClampNeg ((ea_i h (b0 + 12) (Int32.toNatClampNeg x1)) / (7 : Int32)))) - (1 : Int32)) → ea_W mX12_coming d h0 rv hE 34 [(0, vR (some (b0 + 0))), (1, vI x1), (2, vI (ea_i h (b0 + 12) (Int32.toNatClampNeg x1))), (3, vI (ea_i h (b0 + 13) (Int32.toNatClampNeg x1)))] [vI 1] h)) : ea_W mX12_coming d h0 rv hE 0 [(0, vR (some (b0 + 0))), (1, vI x1)] [] h := by
  refine ea_aload_n (pc := 0) dX12_coming_0 rfl 0 rfl ?_
  refine ea_getR (pc := 1) dX12_coming_1 ec_12 (k := 16) (Nat.le_of_ble_eq_true rfl) rfl (Or.inl ew_1361) (hs_h.1 0 (by decide)).1 (hs_h.1 0 (by decide)).2.1 (hs_h.2 0 16 rfl) ?_
  refine ea_iload_n (pc := 4) dX12_coming_4 rfl 1 rfl ?_
  obtain ⟨z1, H⟩ := H
  refine ea_iald (pc := 5) dX12_coming_5 (hs_h.1 12 (by decide)).1 (hs_h.1 12 (by decide)).2.1 (ea_vpl (hs_h.1 12 (by decide)).2.2 z1) ?_
  refine ea_istore_n (pc := 6) (lv' := [(0, vR (some (b0 + 0))), (1, vI x1), (2, vI (ea_i h (b0 + 12) (Int32.toNatClampNeg x1)))]) dX12_coming_6 rfl (Nat.le_of_ble_eq_true rfl) [1, 2, 0] rfl ?_
  refine ea_aload_n (pc := 7) dX12_coming_7 rfl 0 rfl ?_
  refine ea_getR (pc := 8) dX12_coming_8 ec_12 (k := 17) (Nat.le_of_ble_eq_true rfl) rfl (Or.inl ew_1362) (hs_h.1 0 (by decide)).1 (hs_h.1 0 (by decide)).2.1 (hs_h.2 0 17 rfl) ?_
  refine ea_iload_n (pc := 11) dX12_coming_11 rfl 1 rfl ?_
  obtain ⟨z2, H⟩ := H
  refine ea_iald (pc := 12) dX12_coming_12 (hs_h.1 13 (by decide)).1 (hs_h.1 13 (by decide)).2.1 (ea_vpl (hs_h.1 13 (by decide)).2.2 z2) ?_
  refine ea_istore_n (pc := 13) (lv' := [(0, vR (some (b0 + 0))), (1, vI x1), (2, vI (ea_i h (b0 + 12) (Int32.toNatClampNeg x1))), (3, vI (ea_i h (b0 + 13) (Int32.toNatClampNeg x1)))]) dX12_coming_13 rfl (Nat.le_of_ble_eq_true rfl) [1, 2, 3, 0] rfl ?_
  refine ea_iload_n (pc := 14) dX12_coming_14 rfl 3 rfl ?_
  refine ea_aload_n (pc := 15) dX12_coming_15 rfl 0 rfl ?_
  refine ea_getR (pc := 16) dX12_coming_16 ec_12 (k := 4) (Nat.le_of_ble_eq_true rfl) rfl (Or.inl ew_1349) (hs_h.1 0 (by decide)).1 (hs_h.1 0 (by decide)).2.1 (hs_h.2 0 4 rfl) ?_
  refine ea_iload_n (pc := 19) dX12_coming_19 rfl 2 rfl ?_
  refine ea_bipush (pc := 20) dX12_coming_20 (v := 7) rfl ?_
  refine ea_idiv (pc := 22) dX12_coming_22 (by decide) ?_
  obtain ⟨z3, H⟩ := H
  refine ea_iald (pc := 23) dX12_coming_23 (hs_h.1 2 (by decide)).1 (hs_h.1 2 (by decide)).2.1 (ea_vpl (hs_h.1 2 (by decide)).2.2 z3) ?_
  refine ea_iconst (pc := 24) dX12_coming_24 (v := 1) rfl ?_
  refine ea_isub (pc := 25) dX12_coming_25 ?_
  refine ea_icmp_ne (pc := 26) (tgt := 33) dX12_coming_26 rfl (fun c4 => ?_) (fun c4 => ?_)
  · have H := H.1 c4
    refine ea_iconst (pc := 33) dX12_coming_33 (v := 0) rfl ?_
    exact H
  · have H := H.2 c4
    refine ea_iconst (pc := 29) dX12_coming_29 (v := 1) rfl ?_
    refine ea_goto (pc := 30) (tgt := 34) dX12_coming_30 rfl ?_
    exact H
theorem pX12_coming_34 {d b0 : Nat} {h0 hE h : ea_H} {rv : Option ea_V} {x1 : Int32} {x2 : Int32} {x3 : Int32} {sx0 : Int32} (hd : 3 ≤ d) (hs_h : ShM b0 h) (H : vp_in (((8 : Int32) * x2) + x3) 560 ∧ ((ea_i h (b0 + 8) (Int32.toNatClampNeg (((8 : Int32) * x2) + x3))) = (0 : Int32) → ea_W mX12_coming d h0 rv hE 54 [(0, vR (some (b0 + 0))), (1, vI x1), (2, vI x2), (3, vI x3), (4, vI sx0), (5, vI 0)] [] h) ∧ (¬ (ea_i h (b0 + 8) (Int32.toNatClampNeg (((8 : Int32) * x2) + x3))) = (0 : Int32) → rv = none ∧ hE = h)) : ea_W mX12_coming d h0 rv hE 34 [(0, vR (some (b0 + 0))), (1, vI x1), (2, vI x2), (3, vI x3)] [vI sx0] h := by
  refine ea_istore (pc := 34) (lv' := [(0, vR (some (b0 + 0))), (1, vI x1), (2, vI x2), (3, vI x3), (4, vI sx0)]) dX12_coming_34 (Nat.le_of_ble_eq_true rfl) [1, 2, 3, 4, 0] rfl ?_
  refine ea_aload_n (pc := 36) dX12_coming_36 rfl 0 rfl ?_
  refine ea_getR (pc := 37) dX12_coming_37 ec_12 (k := 10) (Nat.le_of_ble_eq_true rfl) rfl (Or.inl ew_1355) (hs_h.1 0 (by decide)).1 (hs_h.1 0 (by decide)).2.1 (hs_h.2 0 10 rfl) ?_
  refine ea_bipush (pc := 40) dX12_coming_40 (v := 8) rfl ?_
  refine ea_iload_n (pc := 42) dX12_coming_42 rfl 2 rfl ?_
  refine ea_imul (pc := 43) dX12_coming_43 ?_
  refine ea_iload_n (pc := 44) dX12_coming_44 rfl 3 rfl ?_
  refine ea_iadd (pc := 45) dX12_coming_45 ?_
  obtain ⟨z1, H⟩ := H
  refine ea_zald (pc := 46) dX12_coming_46 (hs_h.1 8 (by decide)).1 (hs_h.1 8 (by decide)).2.1 (ea_vpl (hs_h.1 8 (by decide)).2.2 z1) ?_
  refine ea_if_eq (pc := 47) (tgt := 51) dX12_coming_47 rfl (fun c2 => ?_) (fun c2 => ?_)
  · have H := H.1 c2
    refine ea_iconst (pc := 51) dX12_coming_51 (v := 0) rfl ?_
    refine ea_istore (pc := 52) (lv' := [(0, vR (some (b0 + 0))), (1, vI x1), (2, vI x2), (3, vI x3), (4, vI sx0), (5, vI 0)]) dX12_coming_52 (Nat.le_of_ble_eq_true rfl) [1, 2, 3, 4, 5, 0] rfl ?_
    exact H
  · have H := H.2 c2
    obtain ⟨rfl, rfl⟩ := H
    exact ea_return (pc := 50) dX12_coming_50 rfl
theorem pX12_coming_54 {d b0 : Nat} {h0 hE h : ea_H} {rv : Option ea_V} {x1 : Int32} {x2 : Int32} {x3 : Int32} {x4 : Int32} {x5 : Int32} (hd : 3 ≤ d) (hs_h : ShM b0 h) (H : ((ea_i h (b0 + 0) 63) ≤ x5 → rv = none ∧ hE = h) ∧ (¬ (ea_i h (b0 + 0) 63) ≤ x5 → (okX12_isAboard b0 (x5 : Int32) (x2 : Int32) h) ∧ (¬ (vX12_isAboard b0 (x5 : Int32) (x2 : Int32) h) = (0 : Int32) → vp_in x5 120 ∧ ((ea_i h (b0 + 61) (Int32.toNatClampNeg x5)) = (0 : Int32) → ea_W mX12_coming d h0 rv hE 118 [(0, vR (some (b0 + 0))), (1, vI x1), (2, vI x2), (3, vI x3), (4, vI x4), (5, vI x5)] [] h) ∧ (¬ (ea_i h (b0 + 61) (Int32.toNatClampNeg x5)) = (0 : Int32) → vp_in x5 120 ∧ (x3 < (ea_i h (b0 + 57) (Int32.toNatClampNeg x5)) → ea_W mX12_coming d h0 rv hE 118 [(0, vR (some (b0 + 0))), (1, vI x1), (2, vI x2), (3, vI x3), (4, vI x4), (5, vI x5)] [] h) ∧ (¬ x3 < (ea_i h (b0 + 57) (Int32.toNatClampNeg x5)) → vp_in x1 1000 ∧ (okX12_townOf b0 (x2 : Int32) (x3 : Int32) h) ∧ (okX12_putsDown b0 (x5 : Int32) ((ea_i h (b0 + 10) (Int32.toNatClampNeg x1)) : Int32) ((vX12_townOf b0 (x2 : Int32) (x3 : Int32) h) : Int32) h) ∧ ∀ h45, h45 = (wX12_putsDown b0 (x5 : Int32) ((ea_i h (b0 + 10) (Int32.toNatClampNeg x1)) : Int32) ((vX12_townOf b0 (x2 : Int32) (x3 : Int32) h) : Int32) h) → ea_W mX12_coming d h0 rv hE 54 [(0, vR (some (b0 + 0))), (1, vI x1), (2, vI x2), (3, vI x3), (4, vI x4), (5, vI (x5 + 1))] [] h45))) ∧ ((vX12_isAboard b0 (x5 : Int32) (x2 : Int32) h) = (0 : Int32) → ea_W mX12_coming d h0 rv hE 54 [(0, vR (some (b0 + 0))), (1, vI x1), (2, vI x2), (3, vI x3), (4, vI x4), (5, vI (x5 + 1))] [] h))) : ea_W mX12_coming d h0 rv hE 54 [(0, vR (some (b0 + 0))), (1, vI x1), (2, vI x2), (3, vI x3), (4, vI x4), (5, vI x5)] [] h := by
  refine ea_iload (pc := 54) dX12_coming_54 5 rfl ?_
  refine ea_aload_n (pc := 56) dX12_coming_56 rfl 0 rfl ?_
  refine ea_getI (pc := 57) dX12_coming_57 ec_12 (k := 63) (Nat.le_of_ble_eq_true rfl) rfl (Or.inl ew_1408) (hs_h.1 0 (by decide)).1 (hs_h.1 0 (by decide)).2.1 ?_
  refine ea_icmp_ge (pc := 60) (tgt := 178) dX12_coming_60 rfl (fun c55 => ?_) (fun c55 => ?_)
  · have H := H.1 c55
    obtain ⟨rfl, rfl⟩ := H
    exact ea_return (pc := 178) dX12_coming_178 rfl
  · have H := H.2 c55
    refine ea_aload_n (pc := 63) dX12_coming_63 rfl 0 rfl ?_
    refine ea_iload (pc := 64) dX12_coming_64 5 rfl ?_
    refine ea_iload_n (pc := 66) dX12_coming_66 rfl 2 rfl ?_
    obtain ⟨z54, H⟩ := H
    refine ea_callV (pc := 67) (d' := d - 1) (As := [vI x5, vI x2]) (st := []) dX12_coming_67 kX12_isAboard (sX12_isAboard (d := d - 1) (by omega) hs_h z54) (by omega) rfl (Nat.le_of_ble_eq_true rfl) ew_2067 ew_2069 ew_95 (ci := 12) rfl (by decide) (hs_h.1 0 (by decide)).1 (hs_h.1 0 (by decide)).2.1 ?_
    refine ea_if_ne (pc := 70) (tgt := 76) dX12_coming_70 rfl (fun c53 => ?_) (fun c53 => ?_)
    · have H := H.1 c53
      refine ea_aload_n (pc := 76) dX12_coming_76 rfl 0 rfl ?_
      refine ea_getR (pc := 77) dX12_coming_77 ec_12 (k := 87) (Nat.le_of_ble_eq_true rfl) rfl (Or.inl ew_1432) (hs_h.1 0 (by decide)).1 (hs_h.1 0 (by decide)).2.1 (hs_h.2 0 87 rfl) ?_
      refine ea_iload (pc := 80) dX12_coming_80 5 rfl ?_
      obtain ⟨z30, H⟩ := H
      refine ea_zald (pc := 82) dX12_coming_82 (hs_h.1 61 (by decide)).1 (hs_h.1 61 (by decide)).2.1 (ea_vpl (hs_h.1 61 (by decide)).2.2 z30) ?_
      refine ea_if_eq (pc := 83) (tgt := 118) dX12_coming_83 rfl (fun c52 => ?_) (fun c52 => ?_)
      · have H := H.1 c52
        exact H
      · have H := H.2 c52
        refine ea_aload_n (pc := 86) dX12_coming_86 rfl 0 rfl ?_
        refine ea_getR (pc := 87) dX12_coming_87 ec_12 (k := 83) (Nat.le_of_ble_eq_true rfl) rfl (Or.inl ew_1428) (hs_h.1 0 (by decide)).1 (hs_h.1 0 (by decide)).2.1 (hs_h.2 0 83 rfl) ?_
        refine ea_iload (pc := 90) dX12_coming_90 5 rfl ?_
        obtain ⟨z31, H⟩ := H
        refine ea_iald (pc := 92) dX12_coming_92 (hs_h.1 57 (by decide)).1 (hs_h.1 57 (by decide)).2.1 (ea_vpl (hs_h.1 57 (by decide)).2.2 z31) ?_
        refine ea_iload_n (pc := 93) dX12_coming_93 rfl 3 rfl ?_
        refine ea_icmp_gt (pc := 94) (tgt := 118) dX12_coming_94 rfl (fun c51 => ?_) (fun c51 => ?_)
        · have H := H.1 c51
          exact H
        · have H := H.2 c51
          refine ea_aload_n (pc := 97) dX12_coming_97 rfl 0 rfl ?_
          refine ea_iload (pc := 98) dX12_coming_98 5 rfl ?_
          refine ea_aload_n (pc := 100) dX12_coming_100 rfl 0 rfl ?_
          refine ea_getR (pc := 101) dX12_coming_101 ec_12 (k := 14) (Nat.le_of_ble_eq_true rfl) rfl (Or.inl ew_1359) (hs_h.1 0 (by decide)).1 (hs_h.1 0 (by decide)).2.1 (hs_h.2 0 14 rfl) ?_
          refine ea_iload_n (pc := 104) dX12_coming_104 rfl 1 rfl ?_
          obtain ⟨z32, H⟩ := H
          refine ea_iald (pc := 105) dX12_coming_105 (hs_h.1 10 (by decide)).1 (hs_h.1 10 (by decide)).2.1 (ea_vpl (hs_h.1 10 (by decide)).2.2 z32) ?_
          refine ea_aload_n (pc := 106) dX12_coming_106 rfl 0 rfl ?_
          refine ea_iload_n (pc := 107) dX12_coming_107 rfl 2 rfl ?_
          refine ea_iload_n (pc := 108) dX12_coming_108 rfl 3 rfl ?_
          obtain ⟨z50, H⟩ := H
          refine ea_callV (pc := 109) (d' := d - 1) (As := [vI x2, vI x3]) (st := [vI (ea_i h (b0 + 10) (Int32.toNatClampNeg x1)), vI x5, vR (some (b0 + 0))]) dX12_coming_109 kX12_townOf (sX12_townOf (d := d - 1) (by omega) hs_h z50) (by omega) rfl (Nat.le_of_ble_eq_true rfl) ew_1798 ew_1800 ew_60 (ci := 12) rfl (by decide) (hs_h.1 0 (by decide)).1 (hs_h.1 0 (by decide)).2.1 ?_
          obtain ⟨z48, H⟩ := H
          refine ea_callV (pc := 112) (d' := d - 1) (As := [vI x5, vI (ea_i h (b0 + 10) (Int32.toNatClampNeg x1)), vI (vX12_townOf b0 (x2 : Int32) (x3 : Int32) h)]) (st := []) dX12_coming_112 kX12_putsDown (sX12_putsDown (d := d - 1) (by omega) hs_h z48) (by omega) rfl (Nat.le_of_ble_eq_true rfl) ew_2074 ew_2076 ew_96 (ci := 12) rfl (by decide) (hs_h.1 0 (by decide)).1 (hs_h.1 0 (by decide)).2.1 ?_
          obtain ⟨h45, E49⟩ : ∃ z, z = (wX12_putsDown b0 (x5 : Int32) ((ea_i h (b0 + 10) (Int32.toNatClampNeg x1)) : Int32) ((vX12_townOf b0 (x2 : Int32) (x3 : Int32) h) : Int32) h) := ⟨_, rfl⟩
          have H := H h45 E49
          refine ea_nm E49 ?_
          have hs_h45 : ShM b0 h45 := by rw [E49]; exact shX12_putsDown hs_h
          refine ea_goto (pc := 115) (tgt := 172) dX12_coming_115 rfl ?_
          refine ea_iinc (pc := 172) (v := 1) (lv' := [(0, vR (some (b0 + 0))), (1, vI x1), (2, vI x2), (3, vI x3), (4, vI x4), (5, vI (x5 + 1))]) dX12_coming_172 5 rfl rfl (Nat.le_of_ble_eq_true rfl) [1, 2, 3, 4, 5, 0] rfl ?_
          refine ea_goto (pc := 175) (tgt := 54) dX12_coming_175 rfl ?_
          exact H
    · have H := H.2 c53
      refine ea_goto (pc := 73) (tgt := 172) dX12_coming_73 rfl ?_
      refine ea_iinc (pc := 172) (v := 1) (lv' := [(0, vR (some (b0 + 0))), (1, vI x1), (2, vI x2), (3, vI x3), (4, vI x4), (5, vI (x5 + 1))]) dX12_coming_172 5 rfl rfl (Nat.le_of_ble_eq_true rfl) [1, 2, 3, 4, 5, 0] rfl ?_
      refine ea_goto (pc := 175) (tgt := 54) dX12_coming_175 rfl ?_
      exact H
theorem pX12_coming_118 {d b0 : Nat} {h0 hE h : ea_H} {rv : Option ea_V} {x1 : Int32} {x2 : Int32} {x3 : Int32} {x4 : Int32} {x5 : Int32} (hd : 3 ≤ d) (hs_h : ShM b0 h) (H : (x4 = (0 : Int32) → ea_W mX12_coming d h0 rv hE 54 [(0, vR (some (b0 + 0))), (1, vI x1), (2, vI x2), (3, vI x3), (4, vI x4), (5, vI (x5 + 1))] [] h) ∧ (¬ x4 = (0 : Int32) → vp_in x5 120 ∧ (¬ (ea_i h (b0 + 61) (Int32.toNatClampNeg x5)) = (0 : Int32) → ea_W mX12_coming d h0 rv hE 154 [(0, vR (some (b0 + 0))), (1, vI x1), (2, vI x2), (3, vI x3), (4, vI x4), (5, vI x5)] [] h) ∧ ((ea_i h (b0 + 61) (Int32.toNatClampNeg x5)) = (0 : Int32) → vp_in x5 120 ∧ vp_in x5 120 ∧ ∀ h4, h4 = ea_wi h (b0 + 58) (Int32.toNatClampNeg x5) ((ea_i h (b0 + 58) (Int32.toNatClampNeg x5)) + (1 : Int32)) → vp_in x2 70 ∧ vp_in x2 70 ∧ ∀ h8, h8 = ea_wi h4 (b0 + 60) (Int32.toNatClampNeg x2) ((ea_i h4 (b0 + 60) (Int32.toNatClampNeg x2)) + (1 : Int32)) → ea_W mX12_coming d h0 rv hE 154 [(0, vR (some (b0 + 0))), (1, vI x1), (2, vI x2), (3, vI x3), (4, vI x4), (5, vI x5)] [] h8))) : ea_W mX12_coming d h0 rv hE 118 [(0, vR (some (b0 + 0))), (1, vI x1), (2, vI x2), (3, vI x3), (4, vI x4), (5, vI x5)] [] h := by
  refine ea_iload (pc := 118) dX12_coming_118 4 rfl ?_
  refine ea_if_eq (pc := 120) (tgt := 172) dX12_coming_120 rfl (fun c11 => ?_) (fun c11 => ?_)
  · have H := H.1 c11
    refine ea_iinc (pc := 172) (v := 1) (lv' := [(0, vR (some (b0 + 0))), (1, vI x1), (2, vI x2), (3, vI x3), (4, vI x4), (5, vI (x5 + 1))]) dX12_coming_172 5 rfl rfl (Nat.le_of_ble_eq_true rfl) [1, 2, 3, 4, 5, 0] rfl ?_
    refine ea_goto (pc := 175) (tgt := 54) dX12_coming_175 rfl ?_
    exact H
  · have H := H.2 c11
    refine ea_aload_n (pc := 123) dX12_coming_123 rfl 0 rfl ?_
    refine ea_getR (pc := 124) dX12_coming_124 ec_12 (k := 87) (Nat.le_of_ble_eq_true rfl) rfl (Or.inl ew_1432) (hs_h.1 0 (by decide)).1 (hs_h.1 0 (by decide)).2.1 (hs_h.2 0 87 rfl) ?_
    refine ea_iload (pc := 127) dX12_coming_127 5 rfl ?_
    obtain ⟨z1, H⟩ := H
    refine ea_zald (pc := 129) dX12_coming_129 (hs_h.1 61 (by decide)).1 (hs_h.1 61 (by decide)).2.1 (ea_vpl (hs_h.1 61 (by decide)).2.2 z1) ?_
    refine ea_if_ne (pc := 130) (tgt := 154) dX12_coming_130 rfl (fun c10 => ?_) (fun c10 => ?_)
    · have H := H.1 c10
      exact H
    · have H := H.2 c10
      refine ea_aload_n (pc := 133) dX12_coming_133 rfl 0 rfl ?_
      refine ea_getR (pc := 134) dX12_coming_134 ec_12 (k := 84) (Nat.le_of_ble_eq_true rfl) rfl (Or.inl ew_1429) (hs_h.1 0 (by decide)).1 (hs_h.1 0 (by decide)).2.1 (hs_h.2 0 84 rfl) ?_
      refine ea_iload (pc := 137) dX12_coming_137 5 rfl ?_
      refine ea_dup2 (pc := 139) dX12_coming_139 rfl rfl ?_
      obtain ⟨z2, H⟩ := H
      refine ea_iald (pc := 140) dX12_coming_140 (hs_h.1 58 (by decide)).1 (hs_h.1 58 (by decide)).2.1 (ea_vpl (hs_h.1 58 (by decide)).2.2 z2) ?_
      refine ea_iconst (pc := 141) dX12_coming_141 (v := 1) rfl ?_
      refine ea_iadd (pc := 142) dX12_coming_142 ?_
      obtain ⟨z3, H⟩ := H
      refine ea_iast (pc := 143) dX12_coming_143 (hs_h.1 58 (by decide)).1 (hs_h.1 58 (by decide)).2.1 (ea_vpl (hs_h.1 58 (by decide)).2.2 z3) ?_
      obtain ⟨h4, E5⟩ : ∃ z, z = ea_wi h (b0 + 58) (Int32.toNatClampNeg x5) ((ea_i h (b0 + 58) (Int32.toNatClampNeg x5)) + (1 : Int32)) := ⟨_, rfl⟩
      have H := H h4 E5
      refine ea_nm E5 ?_
      have hs_h4 : ShM b0 h4 := by rw [E5]; exact ShM_wi hs_h
      refine ea_aload_n (pc := 144) dX12_coming_144 rfl 0 rfl ?_
      refine ea_getR (pc := 145) dX12_coming_145 ec_12 (k := 86) (Nat.le_of_ble_eq_true rfl) rfl (Or.inl ew_1431) (hs_h4.1 0 (by decide)).1 (hs_h4.1 0 (by decide)).2.1 (hs_h4.2 0 86 rfl) ?_
      refine ea_iload_n (pc := 148) dX12_coming_148 rfl 2 rfl ?_
      refine ea_dup2 (pc := 149) dX12_coming_149 rfl rfl ?_
      obtain ⟨z6, H⟩ := H
      refine ea_iald (pc := 150) dX12_coming_150 (hs_h4.1 60 (by decide)).1 (hs_h4.1 60 (by decide)).2.1 (ea_vpl (hs_h4.1 60 (by decide)).2.2 z6) ?_
      refine ea_iconst (pc := 151) dX12_coming_151 (v := 1) rfl ?_
      refine ea_iadd (pc := 152) dX12_coming_152 ?_
      obtain ⟨z7, H⟩ := H
      refine ea_iast (pc := 153) dX12_coming_153 (hs_h4.1 60 (by decide)).1 (hs_h4.1 60 (by decide)).2.1 (ea_vpl (hs_h4.1 60 (by decide)).2.2 z7) ?_
      obtain ⟨h8, E9⟩ : ∃ z, z = ea_wi h4 (b0 + 60) (Int32.toNatClampNeg x2) ((ea_i h4 (b0 + 60) (Int32.toNatClampNeg x2)) + (1 : Int32)) := ⟨_, rfl⟩
      have H := H h8 E9
      refine ea_nm E9 ?_
      have hs_h8 : ShM b0 h8 := by rw [E9]; exact ShM_wi hs_h4
      exact H
theorem pX12_coming_154 {d b0 : Nat} {h0 hE h : ea_H} {rv : Option ea_V} {x1 : Int32} {x2 : Int32} {x3 : Int32} {x4 : Int32} {x5 : Int32} (hd : 3 ≤ d) (hs_h : ShM b0 h) (H : vp_in x1 1000 ∧ (okX12_townOf b0 (x2 : Int32) (x3 : Int32) h) ∧ (okX12_putsDown b0 (x5 : Int32) ((ea_i h (b0 + 10) (Int32.toNatClampNeg x1)) : Int32) ((vX12_townOf b0 (x2 : Int32) (x3 : Int32) h) : Int32) h) ∧ ∀ h14, h14 = (wX12_putsDown b0 (x5 : Int32) ((ea_i h (b0 + 10) (Int32.toNatClampNeg x1)) : Int32) ((vX12_townOf b0 (x2 : Int32) (x3 : Int32) h) : Int32) h) → ea_W mX12_coming d h0 rv hE 54 [(0, vR (some (b0 + 0))), (1, vI x1), (2, vI x2), (3, vI x3), (4, vI x4), (5, vI (x5 + 1))] [] h14) : ea_W mX12_coming d h0 rv hE 154 [(0, vR (some (b0 + 0))), (1, vI x1), (2, vI x2), (3, vI x3), (4, vI x4), (5, vI x5)] [] h := by
  refine ea_aload_n (pc := 154) dX12_coming_154 rfl 0 rfl ?_
  refine ea_iload (pc := 155) dX12_coming_155 5 rfl ?_
  refine ea_aload_n (pc := 157) dX12_coming_157 rfl 0 rfl ?_
  refine ea_getR (pc := 158) dX12_coming_158 ec_12 (k := 14) (Nat.le_of_ble_eq_true rfl) rfl (Or.inl ew_1359) (hs_h.1 0 (by decide)).1 (hs_h.1 0 (by decide)).2.1 (hs_h.2 0 14 rfl) ?_
  refine ea_iload_n (pc := 161) dX12_coming_161 rfl 1 rfl ?_
  obtain ⟨z1, H⟩ := H
  refine ea_iald (pc := 162) dX12_coming_162 (hs_h.1 10 (by decide)).1 (hs_h.1 10 (by decide)).2.1 (ea_vpl (hs_h.1 10 (by decide)).2.2 z1) ?_
  refine ea_aload_n (pc := 163) dX12_coming_163 rfl 0 rfl ?_
  refine ea_iload_n (pc := 164) dX12_coming_164 rfl 2 rfl ?_
  refine ea_iload_n (pc := 165) dX12_coming_165 rfl 3 rfl ?_
  obtain ⟨z19, H⟩ := H
  refine ea_callV (pc := 166) (d' := d - 1) (As := [vI x2, vI x3]) (st := [vI (ea_i h (b0 + 10) (Int32.toNatClampNeg x1)), vI x5, vR (some (b0 + 0))]) dX12_coming_166 kX12_townOf (sX12_townOf (d := d - 1) (by omega) hs_h z19) (by omega) rfl (Nat.le_of_ble_eq_true rfl) ew_1798 ew_1800 ew_60 (ci := 12) rfl (by decide) (hs_h.1 0 (by decide)).1 (hs_h.1 0 (by decide)).2.1 ?_
  obtain ⟨z17, H⟩ := H
  refine ea_callV (pc := 169) (d' := d - 1) (As := [vI x5, vI (ea_i h (b0 + 10) (Int32.toNatClampNeg x1)), vI (vX12_townOf b0 (x2 : Int32) (x3 : Int32) h)]) (st := []) dX12_coming_169 kX12_putsDown (sX12_putsDown (d := d - 1) (by omega) hs_h z17) (by omega) rfl (Nat.le_of_ble_eq_true rfl) ew_2074 ew_2076 ew_96 (ci := 12) rfl (by decide) (hs_h.1 0 (by decide)).1 (hs_h.1 0 (by decide)).2.1 ?_
  obtain ⟨h14, E18⟩ : ∃ z, z = (wX12_putsDown b0 (x5 : Int32) ((ea_i h (b0 + 10) (Int32.toNatClampNeg x1)) : Int32) ((vX12_townOf b0 (x2 : Int32) (x3 : Int32) h) : Int32) h) := ⟨_, rfl⟩
  have H := H h14 E18
  refine ea_nm E18 ?_
  have hs_h14 : ShM b0 h14 := by rw [E18]; exact shX12_putsDown hs_h
  refine ea_iinc (pc := 172) (v := 1) (lv' := [(0, vR (some (b0 + 0))), (1, vI x1), (2, vI x2), (3, vI x3), (4, vI x4), (5, vI (x5 + 1))]) dX12_coming_172 5 rfl rfl (Nat.le_of_ble_eq_true rfl) [1, 2, 3, 4, 5, 0] rfl ?_
  refine ea_goto (pc := 175) (tgt := 54) dX12_coming_175 rfl ?_
  exact H
set_option maxRecDepth 100000 in
set_option maxHeartbeats 4000000 in
theorem pX12_leaves_0 {d b0 : Nat} {h0 hE h : ea_H} {rv : Option ea_V} {x1 : Int32} (hd : 3 ≤ d) (hs_h : ShM b0 h) (H : vp_in x1 1000 ∧ vp_in x1 1000 ∧ (okX12_townOf b0 ((ea_i h (b0 + 12) (Int32.toNatClampNeg x1)) : Int32) ((ea_i h (b0 + 13) (Int32.toNatClampNeg x1)) : Int32) h) ∧ ea_W mX12_leaves d h0 rv hE 25 [(0, vR (some (b0 + 0))), (1, vI x1), (2, vI (ea_i h (b0 + 12) (Int32.toNatClampNeg x1))), (3, vI (ea_i h (b0 + 13) (Int32.toNatClampNeg x1))), (4, vI (vX12_townOf b0 ((ea_i h (b0 + 12) (Int32.toNatClampNeg x1)) : Int32) ((ea_i h (b0 + 13) (Int32.toNatClampNeg x1)) : Int32) h)), (5, vI 0)] [] h) : ea_W mX12_leaves d h0 rv hE 0 [(0, vR (some (b0 + 0))), (1, vI x1)] [] h := by
  refine ea_aload_n (pc := 0) dX12_leaves_0 rfl 0 rfl ?_
  refine ea_getR (pc := 1) dX12_leaves_1 ec_12 (k := 16) (Nat.le_of_ble_eq_true rfl) rfl (Or.inl ew_1361) (hs_h.1 0 (by decide)).1 (hs_h.1 0 (by decide)).2.1 (hs_h.2 0 16 rfl) ?_
  refine ea_iload_n (pc := 4) dX12_leaves_4 rfl 1 rfl ?_
  obtain ⟨z1, H⟩ := H
  refine ea_iald (pc := 5) dX12_leaves_5 (hs_h.1 12 (by decide)).1 (hs_h.1 12 (by decide)).2.1 (ea_vpl (hs_h.1 12 (by decide)).2.2 z1) ?_
  refine ea_istore_n (pc := 6) (lv' := [(0, vR (some (b0 + 0))), (1, vI x1), (2, vI (ea_i h (b0 + 12) (Int32.toNatClampNeg x1)))]) dX12_leaves_6 rfl (Nat.le_of_ble_eq_true rfl) [1, 2, 0] rfl ?_
  refine ea_aload_n (pc := 7) dX12_leaves_7 rfl 0 rfl ?_
  refine ea_getR (pc := 8) dX12_leaves_8 ec_12 (k := 17) (Nat.le_of_ble_eq_true rfl) rfl (Or.inl ew_1362) (hs_h.1 0 (by decide)).1 (hs_h.1 0 (by decide)).2.1 (hs_h.2 0 17 rfl) ?_
  refine ea_iload_n (pc := 11) dX12_leaves_11 rfl 1 rfl ?_
  obtain ⟨z2, H⟩ := H
  refine ea_iald (pc := 12) dX12_leaves_12 (hs_h.1 13 (by decide)).1 (hs_h.1 13 (by decide)).2.1 (ea_vpl (hs_h.1 13 (by decide)).2.2 z2) ?_
  refine ea_istore_n (pc := 13) (lv' := [(0, vR (some (b0 + 0))), (1, vI x1), (2, vI (ea_i h (b0 + 12) (Int32.toNatClampNeg x1))), (3, vI (ea_i h (b0 + 13) (Int32.toNatClampNeg x1)))]) dX12_leaves_13 rfl (Nat.le_of_ble_eq_true rfl) [1, 2, 3, 0] rfl ?_
  refine ea_aload_n (pc := 14) dX12_leaves_14 rfl 0 rfl ?_
  refine ea_iload_n (pc := 15) dX12_leaves_15 rfl 2 rfl ?_
  refine ea_iload_n (pc := 16) dX12_leaves_16 rfl 3 rfl ?_
  obtain ⟨z8, H⟩ := H
  refine ea_callV (pc := 17) (d' := d - 1) (As := [vI (ea_i h (b0 + 12) (Int32.toNatClampNeg x1)), vI (ea_i h (b0 + 13) (Int32.toNatClampNeg x1))]) (st := []) dX12_leaves_17 kX12_townOf (sX12_townOf (d := d - 1) (by omega) hs_h z8) (by omega) rfl (Nat.le_of_ble_eq_true rfl) ew_1798 ew_1800 ew_60 (ci := 12) rfl (by decide) (hs_h.1 0 (by decide)).1 (hs_h.1 0 (by decide)).2.1 ?_
  refine ea_istore (pc := 20) (lv' := [(0, vR (some (b0 + 0))), (1, vI x1), (2, vI (ea_i h (b0 + 12) (Int32.toNatClampNeg x1))), (3, vI (ea_i h (b0 + 13) (Int32.toNatClampNeg x1))), (4, vI (vX12_townOf b0 ((ea_i h (b0 + 12) (Int32.toNatClampNeg x1)) : Int32) ((ea_i h (b0 + 13) (Int32.toNatClampNeg x1)) : Int32) h))]) dX12_leaves_20 (Nat.le_of_ble_eq_true rfl) [1, 2, 3, 4, 0] rfl ?_
  refine ea_iconst (pc := 22) dX12_leaves_22 (v := 0) rfl ?_
  refine ea_istore (pc := 23) (lv' := [(0, vR (some (b0 + 0))), (1, vI x1), (2, vI (ea_i h (b0 + 12) (Int32.toNatClampNeg x1))), (3, vI (ea_i h (b0 + 13) (Int32.toNatClampNeg x1))), (4, vI (vX12_townOf b0 ((ea_i h (b0 + 12) (Int32.toNatClampNeg x1)) : Int32) ((ea_i h (b0 + 13) (Int32.toNatClampNeg x1)) : Int32) h)), (5, vI 0)]) dX12_leaves_23 (Nat.le_of_ble_eq_true rfl) [1, 2, 3, 4, 5, 0] rfl ?_
  exact H
set_option maxRecDepth 100000 in
set_option maxHeartbeats 4000000 in
theorem pX12_leaves_25 {d b0 : Nat} {h0 hE h : ea_H} {rv : Option ea_V} {x1 : Int32} {x2 : Int32} {x3 : Int32} {x4 : Int32} {x5 : Int32} (hd : 3 ≤ d) (hs_h : ShM b0 h) (H : ((ea_i h (b0 + 0) 63) ≤ x5 → ea_W mX12_leaves d h0 rv hE 151 [(0, vR (some (b0 + 0))), (2, vI x2), (3, vI x3)] [] h) ∧ (¬ (ea_i h (b0 + 0) 63) ≤ x5 → vp_in (((8 : Int32) * x2) + x3) 560 ∧ (¬ (ea_i h (b0 + 8) (Int32.toNatClampNeg (((8 : Int32) * x2) + x3))) = (0 : Int32) → ea_W mX12_leaves d h0 rv hE 151 [(0, vR (some (b0 + 0))), (2, vI x2), (3, vI x3)] [] h) ∧ ((ea_i h (b0 + 8) (Int32.toNatClampNeg (((8 : Int32) * x2) + x3))) = (0 : Int32) → vp_in x5 120 ∧ (¬ (ea_i h (b0 + 55) (Int32.toNatClampNeg x5)) = (0 : Int32) → ea_W mX12_leaves d h0 rv hE 25 [(0, vR (some (b0 + 0))), (1, vI x1), (2, vI x2), (3, vI x3), (4, vI x4), (5, vI (x5 + 1))] [] h) ∧ ((ea_i h (b0 + 55) (Int32.toNatClampNeg x5)) = (0 : Int32) → vp_in x5 120 ∧ (¬ (ea_i h (b0 + 56) (Int32.toNatClampNeg x5)) = x4 → ea_W mX12_leaves d h0 rv hE 25 [(0, vR (some (b0 + 0))), (1, vI x1), (2, vI x2), (3, vI x3), (4, vI x4), (5, vI (x5 + 1))] [] h) ∧ ((ea_i h (b0 + 56) (Int32.toNatClampNeg x5)) = x4 → vp_in x1 1000 ∧ vp_in x5 120 ∧ ∃ (d6 : Nat) (xc10 : Int32) (h7 : ea_H), ea_Met mX12_bestFrom d6 [vR (some (b0 + 0)), vI x4, vI (ea_i h (b0 + 10) (Int32.toNatClampNeg x1)), vI (ea_i h (b0 + 40) (Int32.toNatClampNeg x5))] h (some (vI xc10)) h7 ∧ d6 + 1 ≤ d ∧ ShM b0 h7 ∧ (xc10 = x1 → vp_in x5 120 ∧ vp_in (((12 : Int32) * x1) + (ea_i h7 (b0 + 40) (Int32.toNatClampNeg x5))) 12000 ∧ vp_in x5 120 ∧ ∀ h14, h14 = ea_wi h7 (b0 + 57) (Int32.toNatClampNeg x5) (ea_i h7 (b0 + 17) (Int32.toNatClampNeg (((12 : Int32) * x1) + (ea_i h7 (b0 + 40) (Int32.toNatClampNeg x5))))) → vp_in x5 120 ∧ ∀ h17, h17 = ea_wi h14 (b0 + 61) (Int32.toNatClampNeg x5) 0 → vp_in x1 1000 ∧ (okX12_turns b0 (x5 : Int32) ((ea_i h17 (b0 + 10) (Int32.toNatClampNeg x1)) : Int32) (1 : Int32) ((vX12_code (x2 : Int32) h17) : Int32) h17) ∧ ∀ h32, h32 = (wX12_turns b0 (x5 : Int32) ((ea_i h17 (b0 + 10) (Int32.toNatClampNeg x1)) : Int32) (1 : Int32) ((vX12_code (x2 : Int32) h17) : Int32) h17) → ea_W mX12_leaves d h0 rv hE 25 [(0, vR (some (b0 + 0))), (1, vI x1), (2, vI x2), (3, vI x3), (4, vI x4), (5, vI (x5 + 1))] [] h32) ∧ (¬ xc10 = x1 → ea_W mX12_leaves d h0 rv hE 25 [(0, vR (some (b0 + 0))), (1, vI x1), (2, vI x2), (3, vI x3), (4, vI x4), (5, vI (x5 + 1))] [] h7)))))) : ea_W mX12_leaves d h0 rv hE 25 [(0, vR (some (b0 + 0))), (1, vI x1), (2, vI x2), (3, vI x3), (4, vI x4), (5, vI x5)] [] h := by
  refine ea_iload (pc := 25) dX12_leaves_25 5 rfl ?_
  refine ea_aload_n (pc := 27) dX12_leaves_27 rfl 0 rfl ?_
  refine ea_getI (pc := 28) dX12_leaves_28 ec_12 (k := 63) (Nat.le_of_ble_eq_true rfl) rfl (Or.inl ew_1408) (hs_h.1 0 (by decide)).1 (hs_h.1 0 (by decide)).2.1 ?_
  refine ea_icmp_ge (pc := 31) (tgt := 151) dX12_leaves_31 rfl (fun c42 => ?_) (fun c42 => ?_)
  · have H := H.1 c42
    exact ea_fewer [0, 2, 3] rfl H
  · have H := H.2 c42
    refine ea_aload_n (pc := 34) dX12_leaves_34 rfl 0 rfl ?_
    refine ea_getR (pc := 35) dX12_leaves_35 ec_12 (k := 10) (Nat.le_of_ble_eq_true rfl) rfl (Or.inl ew_1355) (hs_h.1 0 (by decide)).1 (hs_h.1 0 (by decide)).2.1 (hs_h.2 0 10 rfl) ?_
    refine ea_bipush (pc := 38) dX12_leaves_38 (v := 8) rfl ?_
    refine ea_iload_n (pc := 40) dX12_leaves_40 rfl 2 rfl ?_
    refine ea_imul (pc := 41) dX12_leaves_41 ?_
    refine ea_iload_n (pc := 42) dX12_leaves_42 rfl 3 rfl ?_
    refine ea_iadd (pc := 43) dX12_leaves_43 ?_
    obtain ⟨z1, H⟩ := H
    refine ea_zald (pc := 44) dX12_leaves_44 (hs_h.1 8 (by decide)).1 (hs_h.1 8 (by decide)).2.1 (ea_vpl (hs_h.1 8 (by decide)).2.2 z1) ?_
    refine ea_if_ne (pc := 45) (tgt := 151) dX12_leaves_45 rfl (fun c41 => ?_) (fun c41 => ?_)
    · have H := H.1 c41
      exact ea_fewer [0, 2, 3] rfl H
    · have H := H.2 c41
      refine ea_aload_n (pc := 48) dX12_leaves_48 rfl 0 rfl ?_
      refine ea_getR (pc := 49) dX12_leaves_49 ec_12 (k := 81) (Nat.le_of_ble_eq_true rfl) rfl (Or.inl ew_1426) (hs_h.1 0 (by decide)).1 (hs_h.1 0 (by decide)).2.1 (hs_h.2 0 81 rfl) ?_
      refine ea_iload (pc := 52) dX12_leaves_52 5 rfl ?_
      obtain ⟨z2, H⟩ := H
      refine ea_iald (pc := 54) dX12_leaves_54 (hs_h.1 55 (by decide)).1 (hs_h.1 55 (by decide)).2.1 (ea_vpl (hs_h.1 55 (by decide)).2.2 z2) ?_
      refine ea_if_ne (pc := 55) (tgt := 145) dX12_leaves_55 rfl (fun c40 => ?_) (fun c40 => ?_)
      · have H := H.1 c40
        refine ea_iinc (pc := 145) (v := 1) (lv' := [(0, vR (some (b0 + 0))), (1, vI x1), (2, vI x2), (3, vI x3), (4, vI x4), (5, vI (x5 + 1))]) dX12_leaves_145 5 rfl rfl (Nat.le_of_ble_eq_true rfl) [1, 2, 3, 4, 5, 0] rfl ?_
        refine ea_goto (pc := 148) (tgt := 25) dX12_leaves_148 rfl ?_
        exact H
      · have H := H.2 c40
        refine ea_aload_n (pc := 58) dX12_leaves_58 rfl 0 rfl ?_
        refine ea_getR (pc := 59) dX12_leaves_59 ec_12 (k := 82) (Nat.le_of_ble_eq_true rfl) rfl (Or.inl ew_1427) (hs_h.1 0 (by decide)).1 (hs_h.1 0 (by decide)).2.1 (hs_h.2 0 82 rfl) ?_
        refine ea_iload (pc := 62) dX12_leaves_62 5 rfl ?_
        obtain ⟨z3, H⟩ := H
        refine ea_iald (pc := 64) dX12_leaves_64 (hs_h.1 56 (by decide)).1 (hs_h.1 56 (by decide)).2.1 (ea_vpl (hs_h.1 56 (by decide)).2.2 z3) ?_
        refine ea_iload (pc := 65) dX12_leaves_65 4 rfl ?_
        refine ea_icmp_ne (pc := 67) (tgt := 145) dX12_leaves_67 rfl (fun c39 => ?_) (fun c39 => ?_)
        · have H := H.1 c39
          refine ea_iinc (pc := 145) (v := 1) (lv' := [(0, vR (some (b0 + 0))), (1, vI x1), (2, vI x2), (3, vI x3), (4, vI x4), (5, vI (x5 + 1))]) dX12_leaves_145 5 rfl rfl (Nat.le_of_ble_eq_true rfl) [1, 2, 3, 4, 5, 0] rfl ?_
          refine ea_goto (pc := 148) (tgt := 25) dX12_leaves_148 rfl ?_
          exact H
        · have H := H.2 c39
          refine ea_aload_n (pc := 70) dX12_leaves_70 rfl 0 rfl ?_
          refine ea_iload (pc := 71) dX12_leaves_71 4 rfl ?_
          refine ea_aload_n (pc := 73) dX12_leaves_73 rfl 0 rfl ?_
          refine ea_getR (pc := 74) dX12_leaves_74 ec_12 (k := 14) (Nat.le_of_ble_eq_true rfl) rfl (Or.inl ew_1359) (hs_h.1 0 (by decide)).1 (hs_h.1 0 (by decide)).2.1 (hs_h.2 0 14 rfl) ?_
          refine ea_iload_n (pc := 77) dX12_leaves_77 rfl 1 rfl ?_
          obtain ⟨z4, H⟩ := H
          refine ea_iald (pc := 78) dX12_leaves_78 (hs_h.1 10 (by decide)).1 (hs_h.1 10 (by decide)).2.1 (ea_vpl (hs_h.1 10 (by decide)).2.2 z4) ?_
          refine ea_aload_n (pc := 79) dX12_leaves_79 rfl 0 rfl ?_
          refine ea_getR (pc := 80) dX12_leaves_80 ec_12 (k := 66) (Nat.le_of_ble_eq_true rfl) rfl (Or.inl ew_1411) (hs_h.1 0 (by decide)).1 (hs_h.1 0 (by decide)).2.1 (hs_h.2 0 66 rfl) ?_
          refine ea_iload (pc := 83) dX12_leaves_83 5 rfl ?_
          obtain ⟨z5, H⟩ := H
          refine ea_iald (pc := 85) dX12_leaves_85 (hs_h.1 40 (by decide)).1 (hs_h.1 40 (by decide)).2.1 (ea_vpl (hs_h.1 40 (by decide)).2.2 z5) ?_
          obtain ⟨d6, xc10, h7, m8, q9, hs_h7, H⟩ := H
          refine ea_callV (pc := 86) (As := [vI x4, vI (ea_i h (b0 + 10) (Int32.toNatClampNeg x1)), vI (ea_i h (b0 + 40) (Int32.toNatClampNeg x5))]) (st := []) dX12_leaves_86 kX12_bestFrom m8 q9 rfl (Nat.le_of_ble_eq_true rfl) ew_1770 ew_1772 ew_53 (ci := 12) rfl (by decide) (hs_h.1 0 (by decide)).1 (hs_h.1 0 (by decide)).2.1 ?_
          refine ea_iload_n (pc := 89) dX12_leaves_89 rfl 1 rfl ?_
          refine ea_icmp_eq (pc := 90) (tgt := 96) dX12_leaves_90 rfl (fun c38 => ?_) (fun c38 => ?_)
          · have H := H.1 c38
            refine ea_aload_n (pc := 96) dX12_leaves_96 rfl 0 rfl ?_
            refine ea_getR (pc := 97) dX12_leaves_97 ec_12 (k := 83) (Nat.le_of_ble_eq_true rfl) rfl (Or.inl ew_1428) (hs_h7.1 0 (by decide)).1 (hs_h7.1 0 (by decide)).2.1 (hs_h7.2 0 83 rfl) ?_
            refine ea_iload (pc := 100) dX12_leaves_100 5 rfl ?_
            refine ea_aload_n (pc := 102) dX12_leaves_102 rfl 0 rfl ?_
            refine ea_getR (pc := 103) dX12_leaves_103 ec_12 (k := 21) (Nat.le_of_ble_eq_true rfl) rfl (Or.inl ew_1366) (hs_h7.1 0 (by decide)).1 (hs_h7.1 0 (by decide)).2.1 (hs_h7.2 0 21 rfl) ?_
            refine ea_bipush (pc := 106) dX12_leaves_106 (v := 12) rfl ?_
            refine ea_iload_n (pc := 108) dX12_leaves_108 rfl 1 rfl ?_
            refine ea_imul (pc := 109) dX12_leaves_109 ?_
            refine ea_aload_n (pc := 110) dX12_leaves_110 rfl 0 rfl ?_
            refine ea_getR (pc := 111) dX12_leaves_111 ec_12 (k := 66) (Nat.le_of_ble_eq_true rfl) rfl (Or.inl ew_1411) (hs_h7.1 0 (by decide)).1 (hs_h7.1 0 (by decide)).2.1 (hs_h7.2 0 66 rfl) ?_
            refine ea_iload (pc := 114) dX12_leaves_114 5 rfl ?_
            obtain ⟨z11, H⟩ := H
            refine ea_iald (pc := 116) dX12_leaves_116 (hs_h7.1 40 (by decide)).1 (hs_h7.1 40 (by decide)).2.1 (ea_vpl (hs_h7.1 40 (by decide)).2.2 z11) ?_
            refine ea_iadd (pc := 117) dX12_leaves_117 ?_
            obtain ⟨z12, H⟩ := H
            refine ea_iald (pc := 118) dX12_leaves_118 (hs_h7.1 17 (by decide)).1 (hs_h7.1 17 (by decide)).2.1 (ea_vpl (hs_h7.1 17 (by decide)).2.2 z12) ?_
            obtain ⟨z13, H⟩ := H
            refine ea_iast (pc := 119) dX12_leaves_119 (hs_h7.1 57 (by decide)).1 (hs_h7.1 57 (by decide)).2.1 (ea_vpl (hs_h7.1 57 (by decide)).2.2 z13) ?_
            obtain ⟨h14, E15⟩ : ∃ z, z = ea_wi h7 (b0 + 57) (Int32.toNatClampNeg x5) (ea_i h7 (b0 + 17) (Int32.toNatClampNeg (((12 : Int32) * x1) + (ea_i h7 (b0 + 40) (Int32.toNatClampNeg x5))))) := ⟨_, rfl⟩
            have H := H h14 E15
            refine ea_nm E15 ?_
            have hs_h14 : ShM b0 h14 := by rw [E15]; exact ShM_wi hs_h7
            refine ea_aload_n (pc := 120) dX12_leaves_120 rfl 0 rfl ?_
            refine ea_getR (pc := 121) dX12_leaves_121 ec_12 (k := 87) (Nat.le_of_ble_eq_true rfl) rfl (Or.inl ew_1432) (hs_h14.1 0 (by decide)).1 (hs_h14.1 0 (by decide)).2.1 (hs_h14.2 0 87 rfl) ?_
            refine ea_iload (pc := 124) dX12_leaves_124 5 rfl ?_
            refine ea_iconst (pc := 126) dX12_leaves_126 (v := 0) rfl ?_
            obtain ⟨z16, H⟩ := H
            refine ea_zast (pc := 127) dX12_leaves_127 (y := 0) (ea_bn (Or.inl rfl)) (hs_h14.1 61 (by decide)).1 (hs_h14.1 61 (by decide)).2.1 (ea_vpl (hs_h14.1 61 (by decide)).2.2 z16) ?_
            obtain ⟨h17, E18⟩ : ∃ z, z = ea_wi h14 (b0 + 61) (Int32.toNatClampNeg x5) 0 := ⟨_, rfl⟩
            have H := H h17 E18
            refine ea_nm E18 ?_
            have hs_h17 : ShM b0 h17 := by rw [E18]; exact ShM_wi hs_h14
            refine ea_aload_n (pc := 128) dX12_leaves_128 rfl 0 rfl ?_
            refine ea_iload (pc := 129) dX12_leaves_129 5 rfl ?_
            refine ea_aload_n (pc := 131) dX12_leaves_131 rfl 0 rfl ?_
            refine ea_getR (pc := 132) dX12_leaves_132 ec_12 (k := 14) (Nat.le_of_ble_eq_true rfl) rfl (Or.inl ew_1359) (hs_h17.1 0 (by decide)).1 (hs_h17.1 0 (by decide)).2.1 (hs_h17.2 0 14 rfl) ?_
            refine ea_iload_n (pc := 135) dX12_leaves_135 rfl 1 rfl ?_
            obtain ⟨z19, H⟩ := H
            refine ea_iald (pc := 136) dX12_leaves_136 (hs_h17.1 10 (by decide)).1 (hs_h17.1 10 (by decide)).2.1 (ea_vpl (hs_h17.1 10 (by decide)).2.2 z19) ?_
            refine ea_iconst (pc := 137) dX12_leaves_137 (v := 1) rfl ?_
            refine ea_iload_n (pc := 138) dX12_leaves_138 rfl 2 rfl ?_
            refine ea_callS (pc := 139) (d' := d - 1) (As := [vI x2]) (st := [vI 1, vI (ea_i h17 (b0 + 10) (Int32.toNatClampNeg x1)), vI x5, vR (some (b0 + 0))]) dX12_leaves_139 kX12_code (sX12_code (d := d - 1) (by omega)) (by omega) rfl (Nat.le_of_ble_eq_true rfl) ew_2071 ew_2072 ?_
            obtain ⟨z35, H⟩ := H
            refine ea_callV (pc := 142) (d' := d - 1) (As := [vI x5, vI (ea_i h17 (b0 + 10) (Int32.toNatClampNeg x1)), vI 1, vI (vX12_code (x2 : Int32) h17)]) (st := []) dX12_leaves_142 kX12_turns (sX12_turns (d := d - 1) (by omega) hs_h17 z35) (by omega) rfl (Nat.le_of_ble_eq_true rfl) ew_2011 ew_2013 ew_88 (ci := 12) rfl (by decide) (hs_h17.1 0 (by decide)).1 (hs_h17.1 0 (by decide)).2.1 ?_
            obtain ⟨h32, E36⟩ : ∃ z, z = (wX12_turns b0 (x5 : Int32) ((ea_i h17 (b0 + 10) (Int32.toNatClampNeg x1)) : Int32) (1 : Int32) ((vX12_code (x2 : Int32) h17) : Int32) h17) := ⟨_, rfl⟩
            have H := H h32 E36
            refine ea_nm E36 ?_
            have hs_h32 : ShM b0 h32 := by rw [E36]; exact shX12_turns hs_h17
            refine ea_iinc (pc := 145) (v := 1) (lv' := [(0, vR (some (b0 + 0))), (1, vI x1), (2, vI x2), (3, vI x3), (4, vI x4), (5, vI (x5 + 1))]) dX12_leaves_145 5 rfl rfl (Nat.le_of_ble_eq_true rfl) [1, 2, 3, 4, 5, 0] rfl ?_
            refine ea_goto (pc := 148) (tgt := 25) dX12_leaves_148 rfl ?_
            exact H
          · have H := H.2 c38
            refine ea_goto (pc := 93) (tgt := 145) dX12_leaves_93 rfl ?_
            refine ea_iinc (pc := 145) (v := 1) (lv' := [(0, vR (some (b0 + 0))), (1, vI x1), (2, vI x2), (3, vI x3), (4, vI x4), (5, vI (x5 + 1))]) dX12_leaves_145 5 rfl rfl (Nat.le_of_ble_eq_true rfl) [1, 2, 3, 4, 5, 0] rfl ?_
            refine ea_goto (pc := 148) (tgt := 25) dX12_leaves_148 rfl ?_
            exact H
set_option maxRecDepth 100000 in
set_option maxHeartbeats 4000000 in
theorem pX12_leaves_151 {d b0 : Nat} {h0 hE h : ea_H} {rv : Option ea_V} {x2 : Int32} {x3 : Int32} (hd : 3 ≤ d) (hs_h : ShM b0 h) (H : (okX12_comesAt b0 (x2 : Int32) ((x3 + (1 : Int32)) : Int32) h) ∧ (okX12_goesAt b0 (x2 : Int32) (x3 : Int32) h) ∧ ea_W mX12_leaves d h0 rv hE 171 [(0, vR (some (b0 + 0))), (2, vI x2), (5, vI ((vX12_comesAt b0 (x2 : Int32) ((x3 + (1 : Int32)) : Int32) h) - (vX12_goesAt b0 (x2 : Int32) (x3 : Int32) h))), (6, vI 0)] [] h) : ea_W mX12_leaves d h0 rv hE 151 [(0, vR (some (b0 + 0))), (2, vI x2), (3, vI x3)] [] h := by
  refine ea_aload_n (pc := 151) dX12_leaves_151 rfl 0 rfl ?_
  refine ea_iload_n (pc := 152) dX12_leaves_152 rfl 1 rfl ?_
  refine ea_iload_n (pc := 153) dX12_leaves_153 rfl 2 rfl ?_
  refine ea_iconst (pc := 154) dX12_leaves_154 (v := 1) rfl ?_
  refine ea_iadd (pc := 155) dX12_leaves_155 ?_
  obtain ⟨z18, H⟩ := H
  refine ea_callV (pc := 156) (d' := d - 1) (As := [vI x2, vI (x3 + (1 : Int32))]) (st := []) dX12_leaves_156 kX12_comesAt (sX12_comesAt (d := d - 1) (by omega) hs_h z18) (by omega) rfl (Nat.le_of_ble_eq_true rfl) ew_1762 ew_1764 ew_52 (ci := 12) rfl (by decide) (hs_h.1 0 (by decide)).1 (hs_h.1 0 (by decide)).2.1 ?_
  refine ea_aload_n (pc := 159) dX12_leaves_159 rfl 0 rfl ?_
  refine ea_iload_n (pc := 160) dX12_leaves_160 rfl 1 rfl ?_
  refine ea_iload_n (pc := 161) dX12_leaves_161 rfl 2 rfl ?_
  obtain ⟨z17, H⟩ := H
  refine ea_callV (pc := 162) (d' := d - 1) (As := [vI x2, vI x3]) (st := [vI (vX12_comesAt b0 (x2 : Int32) ((x3 + (1 : Int32)) : Int32) h)]) dX12_leaves_162 kX12_goesAt (sX12_goesAt (d := d - 1) (by omega) hs_h z17) (by omega) rfl (Nat.le_of_ble_eq_true rfl) ew_1786 ew_1788 ew_57 (ci := 12) rfl (by decide) (hs_h.1 0 (by decide)).1 (hs_h.1 0 (by decide)).2.1 ?_
  refine ea_isub (pc := 165) dX12_leaves_165 ?_
  refine ea_istore (pc := 166) (lv' := [(0, vR (some (b0 + 0))), (2, vI x2), (5, vI ((vX12_comesAt b0 (x2 : Int32) ((x3 + (1 : Int32)) : Int32) h) - (vX12_goesAt b0 (x2 : Int32) (x3 : Int32) h)))]) dX12_leaves_166 (Nat.le_of_ble_eq_true rfl) [1, 2, 0] rfl ?_
  refine ea_iconst (pc := 168) dX12_leaves_168 (v := 0) rfl ?_
  refine ea_istore (pc := 169) (lv' := [(0, vR (some (b0 + 0))), (2, vI x2), (5, vI ((vX12_comesAt b0 (x2 : Int32) ((x3 + (1 : Int32)) : Int32) h) - (vX12_goesAt b0 (x2 : Int32) (x3 : Int32) h))), (6, vI 0)]) dX12_leaves_169 (Nat.le_of_ble_eq_true rfl) [1, 2, 3, 0] rfl ?_
  exact H
set_option maxRecDepth 100000 in
set_option maxHeartbeats 4000000 in
theorem pX12_leaves_171 {d b0 : Nat} {h0 hE h : ea_H} {rv : Option ea_V} {x2 : Int32} {x5 : Int32} {x6 : Int32} (hd : 3 ≤ d) (hs_h : ShM b0 h) (H : ((ea_i h (b0 + 0) 92) ≤ x6 → ea_W mX12_leaves d h0 rv hE 224 [(0, vR (some (b0 + 0))), (2, vI x2), (6, vI 0)] [] h) ∧ (¬ (ea_i h (b0 + 0) 92) ≤ x6 → vp_in x6 8 ∧ (¬ (ea_i h (b0 + 68) (Int32.toNatClampNeg x6)) = (x2 / (7 : Int32)) → vp_in x6 8 ∧ ∀ h3, h3 = ea_wi h (b0 + 69) (Int32.toNatClampNeg x6) 0 → ea_W mX12_leaves d h0 rv hE 171 [(0, vR (some (b0 + 0))), (2, vI x2), (5, vI x5), (6, vI (x6 + 1))] [] h3) ∧ ((ea_i h (b0 + 68) (Int32.toNatClampNeg x6)) = (x2 / (7 : Int32)) → vp_in x6 8 ∧ vp_in x6 8 ∧ ∀ h7, h7 = ea_wi h (b0 + 69) (Int32.toNatClampNeg x6) ((ea_i h (b0 + 66) (Int32.toNatClampNeg x6)) * x5) → ea_W mX12_leaves d h0 rv hE 171 [(0, vR (some (b0 + 0))), (2, vI x2), (5, vI x5), (6, vI (x6 + 1))] [] h7))) : ea_W mX12_leaves d h0 rv hE 171 [(0, vR (some (b0 + 0))), (2, vI x2), (5, vI x5), (6, vI x6)] [] h := by
  refine ea_iload (pc := 171) dX12_leaves_171 3 rfl ?_
  refine ea_aload_n (pc := 173) dX12_leaves_173 rfl 0 rfl ?_
  refine ea_getI (pc := 174) dX12_leaves_174 ec_12 (k := 92) (Nat.le_of_ble_eq_true rfl) rfl (Or.inl ew_1437) (hs_h.1 0 (by decide)).1 (hs_h.1 0 (by decide)).2.1 ?_
  refine ea_icmp_ge (pc := 177) (tgt := 221) dX12_leaves_177 rfl (fun c10 => ?_) (fun c10 => ?_)
  · have H := H.1 c10
    refine ea_iconst (pc := 221) dX12_leaves_221 (v := 0) rfl ?_
    refine ea_istore (pc := 222) (lv' := [(0, vR (some (b0 + 0))), (2, vI x2), (6, vI 0)]) dX12_leaves_222 (Nat.le_of_ble_eq_true rfl) [1, 2, 0] rfl ?_
    exact H
  · have H := H.2 c10
    refine ea_aload_n (pc := 180) dX12_leaves_180 rfl 0 rfl ?_
    refine ea_getR (pc := 181) dX12_leaves_181 ec_12 (k := 96) (Nat.le_of_ble_eq_true rfl) rfl (Or.inl ew_1441) (hs_h.1 0 (by decide)).1 (hs_h.1 0 (by decide)).2.1 (hs_h.2 0 96 rfl) ?_
    refine ea_iload (pc := 184) dX12_leaves_184 3 rfl ?_
    refine ea_aload_n (pc := 186) dX12_leaves_186 rfl 0 rfl ?_
    refine ea_getR (pc := 187) dX12_leaves_187 ec_12 (k := 95) (Nat.le_of_ble_eq_true rfl) rfl (Or.inl ew_1440) (hs_h.1 0 (by decide)).1 (hs_h.1 0 (by decide)).2.1 (hs_h.2 0 95 rfl) ?_
    refine ea_iload (pc := 190) dX12_leaves_190 3 rfl ?_
    obtain ⟨z1, H⟩ := H
    refine ea_iald (pc := 192) dX12_leaves_192 (hs_h.1 68 (by decide)).1 (hs_h.1 68 (by decide)).2.1 (ea_vpl (hs_h.1 68 (by decide)).2.2 z1) ?_
    refine ea_iload_n (pc := 193) dX12_leaves_193 rfl 1 rfl ?_
    refine ea_bipush (pc := 194) dX12_leaves_194 (v := 7) rfl ?_
    refine ea_idiv (pc := 196) dX12_leaves_196 (by decide) ?_
    refine ea_icmp_ne (pc := 197) (tgt := 213) dX12_leaves_197 rfl (fun c9 => ?_) (fun c9 => ?_)
    · have H := H.1 c9
      refine ea_iconst (pc := 213) dX12_leaves_213 (v := 0) rfl ?_
      obtain ⟨z2, H⟩ := H
      refine ea_iast (pc := 214) dX12_leaves_214 (hs_h.1 69 (by decide)).1 (hs_h.1 69 (by decide)).2.1 (ea_vpl (hs_h.1 69 (by decide)).2.2 z2) ?_
      obtain ⟨h3, E4⟩ : ∃ z, z = ea_wi h (b0 + 69) (Int32.toNatClampNeg x6) 0 := ⟨_, rfl⟩
      have H := H h3 E4
      refine ea_nm E4 ?_
      have hs_h3 : ShM b0 h3 := by rw [E4]; exact ShM_wi hs_h
      refine ea_iinc (pc := 215) (v := 1) (lv' := [(0, vR (some (b0 + 0))), (2, vI x2), (5, vI x5), (6, vI (x6 + 1))]) dX12_leaves_215 3 rfl rfl (Nat.le_of_ble_eq_true rfl) [1, 2, 3, 0] rfl ?_
      refine ea_goto (pc := 218) (tgt := 171) dX12_leaves_218 rfl ?_
      exact H
    · have H := H.2 c9
      refine ea_aload_n (pc := 200) dX12_leaves_200 rfl 0 rfl ?_
      refine ea_getR (pc := 201) dX12_leaves_201 ec_12 (k := 93) (Nat.le_of_ble_eq_true rfl) rfl (Or.inl ew_1438) (hs_h.1 0 (by decide)).1 (hs_h.1 0 (by decide)).2.1 (hs_h.2 0 93 rfl) ?_
      refine ea_iload (pc := 204) dX12_leaves_204 3 rfl ?_
      obtain ⟨z5, H⟩ := H
      refine ea_iald (pc := 206) dX12_leaves_206 (hs_h.1 66 (by decide)).1 (hs_h.1 66 (by decide)).2.1 (ea_vpl (hs_h.1 66 (by decide)).2.2 z5) ?_
      refine ea_iload (pc := 207) dX12_leaves_207 2 rfl ?_
      refine ea_imul (pc := 209) dX12_leaves_209 ?_
      refine ea_goto (pc := 210) (tgt := 214) dX12_leaves_210 rfl ?_
      obtain ⟨z6, H⟩ := H
      refine ea_iast (pc := 214) dX12_leaves_214 (hs_h.1 69 (by decide)).1 (hs_h.1 69 (by decide)).2.1 (ea_vpl (hs_h.1 69 (by decide)).2.2 z6) ?_
      obtain ⟨h7, E8⟩ : ∃ z, z = ea_wi h (b0 + 69) (Int32.toNatClampNeg x6) ((ea_i h (b0 + 66) (Int32.toNatClampNeg x6)) * x5) := ⟨_, rfl⟩
      have H := H h7 E8
      refine ea_nm E8 ?_
      have hs_h7 : ShM b0 h7 := by rw [E8]; exact ShM_wi hs_h
      refine ea_iinc (pc := 215) (v := 1) (lv' := [(0, vR (some (b0 + 0))), (2, vI x2), (5, vI x5), (6, vI (x6 + 1))]) dX12_leaves_215 3 rfl rfl (Nat.le_of_ble_eq_true rfl) [1, 2, 3, 0] rfl ?_
      refine ea_goto (pc := 218) (tgt := 171) dX12_leaves_218 rfl ?_
      exact H
set_option maxRecDepth 100000 in
set_option maxHeartbeats 4000000 in
theorem pX12_leaves_224 {d b0 : Nat} {h0 hE h : ea_H} {rv : Option ea_V} {x2 : Int32} {x6 : Int32} (hd : 3 ≤ d) (hs_h : ShM b0 h) (H : ((8 : Int32) ≤ x6 → rv = none ∧ hE = h) ∧ (¬ (8 : Int32) ≤ x6 → ea_W mX12_leaves d h0 rv hE 234 [(0, vR (some (b0 + 0))), (2, vI x2), (6, vI x6), (7, vI 0)] [] h)) : ea_W mX12_leaves d h0 rv hE 224 [(0, vR (some (b0 + 0))), (2, vI x2), (6, vI x6)] [] h := by
  refine ea_iload (pc := 224) dX12_leaves_224 2 rfl ?_
  refine ea_bipush (pc := 226) dX12_leaves_226 (v := 8) rfl ?_
  refine ea_icmp_ge (pc := 228) (tgt := 300) dX12_leaves_228 rfl (fun c1 => ?_) (fun c1 => ?_)
  · have H := H.1 c1
    obtain ⟨rfl, rfl⟩ := H
    exact ea_return (pc := 300) dX12_leaves_300 rfl
  · have H := H.2 c1
    refine ea_iconst (pc := 231) dX12_leaves_231 (v := 0) rfl ?_
    refine ea_istore (pc := 232) (lv' := [(0, vR (some (b0 + 0))), (2, vI x2), (6, vI x6), (7, vI 0)]) dX12_leaves_232 (Nat.le_of_ble_eq_true rfl) [1, 2, 3, 0] rfl ?_
    exact H
set_option maxRecDepth 100000 in
set_option maxHeartbeats 4000000 in
theorem pX12_leaves_234 {d b0 : Nat} {h0 hE h : ea_H} {rv : Option ea_V} {x2 : Int32} {x6 : Int32} {x7 : Int32} (hd : 3 ≤ d) (hs_h : ShM b0 h) (H : ((ea_i h (b0 + 0) 63) ≤ x7 → ea_W mX12_leaves d h0 rv hE 224 [(0, vR (some (b0 + 0))), (2, vI x2), (6, vI (x6 + 1))] [] h) ∧ (¬ (ea_i h (b0 + 0) 63) ≤ x7 → (okX12_isAboard b0 (x7 : Int32) (x2 : Int32) h) ∧ ((vX12_isAboard b0 (x7 : Int32) (x2 : Int32) h) = (0 : Int32) → ea_W mX12_leaves d h0 rv hE 234 [(0, vR (some (b0 + 0))), (2, vI x2), (6, vI x6), (7, vI (x7 + 1))] [] h) ∧ (¬ (vX12_isAboard b0 (x7 : Int32) (x2 : Int32) h) = (0 : Int32) → vp_in x7 120 ∧ (¬ (ea_i h (b0 + 61) (Int32.toNatClampNeg x7)) = (0 : Int32) → ea_W mX12_leaves d h0 rv hE 234 [(0, vR (some (b0 + 0))), (2, vI x2), (6, vI x6), (7, vI (x7 + 1))] [] h) ∧ ((ea_i h (b0 + 61) (Int32.toNatClampNeg x7)) = (0 : Int32) → vp_in x7 120 ∧ (¬ (ea_i h (b0 + 57) (Int32.toNatClampNeg x7)) = x6 → ea_W mX12_leaves d h0 rv hE 234 [(0, vR (some (b0 + 0))), (2, vI x2), (6, vI x6), (7, vI (x7 + 1))] [] h) ∧ ((ea_i h (b0 + 57) (Int32.toNatClampNeg x7)) = x6 → (okX12_townOf b0 (x2 : Int32) (x6 : Int32) h) ∧ ∃ (d36 : Nat) (h37 : ea_H), ea_Met mX12_sorts d36 [vR (some (b0 + 0)), vI x7, vI (vX12_townOf b0 (x2 : Int32) (x6 : Int32) h)] h none h37 ∧ d36 + 1 ≤ d ∧ ShM b0 h37 ∧ ea_W mX12_leaves d h0 rv hE 234 [(0, vR (some (b0 + 0))), (2, vI x2), (6, vI x6), (7, vI (x7 + 1))] [] h37))))) : ea_W mX12_leaves d h0 rv hE 234 [(0, vR (some (b0 + 0))), (2, vI x2), (6, vI x6), (7, vI x7)] [] h := by
  refine ea_iload (pc := 234) dX12_leaves_234 3 rfl ?_
  refine ea_aload_n (pc := 236) dX12_leaves_236 rfl 0 rfl ?_
  refine ea_getI (pc := 237) dX12_leaves_237 ec_12 (k := 63) (Nat.le_of_ble_eq_true rfl) rfl (Or.inl ew_1408) (hs_h.1 0 (by decide)).1 (hs_h.1 0 (by decide)).2.1 ?_
  refine ea_icmp_ge (pc := 240) (tgt := 294) dX12_leaves_240 rfl (fun c45 => ?_) (fun c45 => ?_)
  · have H := H.1 c45
    refine ea_iinc (pc := 294) (v := 1) (lv' := [(0, vR (some (b0 + 0))), (2, vI x2), (6, vI (x6 + 1))]) dX12_leaves_294 2 rfl rfl (Nat.le_of_ble_eq_true rfl) [1, 2, 0] rfl ?_
    refine ea_goto (pc := 297) (tgt := 224) dX12_leaves_297 rfl ?_
    exact H
  · have H := H.2 c45
    refine ea_aload_n (pc := 243) dX12_leaves_243 rfl 0 rfl ?_
    refine ea_iload (pc := 244) dX12_leaves_244 3 rfl ?_
    refine ea_iload_n (pc := 246) dX12_leaves_246 rfl 1 rfl ?_
    obtain ⟨z44, H⟩ := H
    refine ea_callV (pc := 247) (d' := d - 1) (As := [vI x7, vI x2]) (st := []) dX12_leaves_247 kX12_isAboard (sX12_isAboard (d := d - 1) (by omega) hs_h z44) (by omega) rfl (Nat.le_of_ble_eq_true rfl) ew_2067 ew_2069 ew_95 (ci := 12) rfl (by decide) (hs_h.1 0 (by decide)).1 (hs_h.1 0 (by decide)).2.1 ?_
    refine ea_if_eq (pc := 250) (tgt := 288) dX12_leaves_250 rfl (fun c43 => ?_) (fun c43 => ?_)
    · have H := H.1 c43
      refine ea_iinc (pc := 288) (v := 1) (lv' := [(0, vR (some (b0 + 0))), (2, vI x2), (6, vI x6), (7, vI (x7 + 1))]) dX12_leaves_288 3 rfl rfl (Nat.le_of_ble_eq_true rfl) [1, 2, 3, 0] rfl ?_
      refine ea_goto (pc := 291) (tgt := 234) dX12_leaves_291 rfl ?_
      exact H
    · have H := H.2 c43
      refine ea_aload_n (pc := 253) dX12_leaves_253 rfl 0 rfl ?_
      refine ea_getR (pc := 254) dX12_leaves_254 ec_12 (k := 87) (Nat.le_of_ble_eq_true rfl) rfl (Or.inl ew_1432) (hs_h.1 0 (by decide)).1 (hs_h.1 0 (by decide)).2.1 (hs_h.2 0 87 rfl) ?_
      refine ea_iload (pc := 257) dX12_leaves_257 3 rfl ?_
      obtain ⟨z25, H⟩ := H
      refine ea_zald (pc := 259) dX12_leaves_259 (hs_h.1 61 (by decide)).1 (hs_h.1 61 (by decide)).2.1 (ea_vpl (hs_h.1 61 (by decide)).2.2 z25) ?_
      refine ea_if_ne (pc := 260) (tgt := 288) dX12_leaves_260 rfl (fun c42 => ?_) (fun c42 => ?_)
      · have H := H.1 c42
        refine ea_iinc (pc := 288) (v := 1) (lv' := [(0, vR (some (b0 + 0))), (2, vI x2), (6, vI x6), (7, vI (x7 + 1))]) dX12_leaves_288 3 rfl rfl (Nat.le_of_ble_eq_true rfl) [1, 2, 3, 0] rfl ?_
        refine ea_goto (pc := 291) (tgt := 234) dX12_leaves_291 rfl ?_
        exact H
      · have H := H.2 c42
        refine ea_aload_n (pc := 263) dX12_leaves_263 rfl 0 rfl ?_
        refine ea_getR (pc := 264) dX12_leaves_264 ec_12 (k := 83) (Nat.le_of_ble_eq_true rfl) rfl (Or.inl ew_1428) (hs_h.1 0 (by decide)).1 (hs_h.1 0 (by decide)).2.1 (hs_h.2 0 83 rfl) ?_
        refine ea_iload (pc := 267) dX12_leaves_267 3 rfl ?_
        obtain ⟨z26, H⟩ := H
        refine ea_iald (pc := 269) dX12_leaves_269 (hs_h.1 57 (by decide)).1 (hs_h.1 57 (by decide)).2.1 (ea_vpl (hs_h.1 57 (by decide)).2.2 z26) ?_
        refine ea_iload (pc := 270) dX12_leaves_270 2 rfl ?_
        refine ea_icmp_ne (pc := 272) (tgt := 288) dX12_leaves_272 rfl (fun c41 => ?_) (fun c41 => ?_)
        · have H := H.1 c41
          refine ea_iinc (pc := 288) (v := 1) (lv' := [(0, vR (some (b0 + 0))), (2, vI x2), (6, vI x6), (7, vI (x7 + 1))]) dX12_leaves_288 3 rfl rfl (Nat.le_of_ble_eq_true rfl) [1, 2, 3, 0] rfl ?_
          refine ea_goto (pc := 291) (tgt := 234) dX12_leaves_291 rfl ?_
          exact H
        · have H := H.2 c41
          refine ea_aload_n (pc := 275) dX12_leaves_275 rfl 0 rfl ?_
          refine ea_iload (pc := 276) dX12_leaves_276 3 rfl ?_
          refine ea_aload_n (pc := 278) dX12_leaves_278 rfl 0 rfl ?_
          refine ea_iload_n (pc := 279) dX12_leaves_279 rfl 1 rfl ?_
          refine ea_iload (pc := 280) dX12_leaves_280 2 rfl ?_
          obtain ⟨z40, H⟩ := H
          refine ea_callV (pc := 282) (d' := d - 1) (As := [vI x2, vI x6]) (st := [vI x7, vR (some (b0 + 0))]) dX12_leaves_282 kX12_townOf (sX12_townOf (d := d - 1) (by omega) hs_h z40) (by omega) rfl (Nat.le_of_ble_eq_true rfl) ew_1798 ew_1800 ew_60 (ci := 12) rfl (by decide) (hs_h.1 0 (by decide)).1 (hs_h.1 0 (by decide)).2.1 ?_
          obtain ⟨d36, h37, m38, q39, hs_h37, H⟩ := H
          refine ea_callV (pc := 285) (As := [vI x7, vI (vX12_townOf b0 (x2 : Int32) (x6 : Int32) h)]) (st := []) dX12_leaves_285 kX12_sorts m38 q39 rfl (Nat.le_of_ble_eq_true rfl) ew_2082 ew_2084 ew_98 (ci := 12) rfl (by decide) (hs_h.1 0 (by decide)).1 (hs_h.1 0 (by decide)).2.1 ?_
          refine ea_iinc (pc := 288) (v := 1) (lv' := [(0, vR (some (b0 + 0))), (2, vI x2), (6, vI x6), (7, vI (x7 + 1))]) dX12_leaves_288 3 rfl rfl (Nat.le_of_ble_eq_true rfl) [1, 2, 3, 0] rfl ?_
          refine ea_goto (pc := 291) (tgt := 234) dX12_leaves_291 rfl ?_
          exact H
theorem pX12_sorts_0 {d b0 : Nat} {h0 hE h : ea_H} {rv : Option ea_V} {x1 : Int32} {x2 : Int32} (hd : 1 ≤ d) (hs_h : ShM b0 h) (H : ea_W mX12_sorts d h0 rv hE 2 [(0, vR (some (b0 + 0))), (1, vI x1), (2, vI x2), (3, vI 0)] [] h) : ea_W mX12_sorts d h0 rv hE 0 [(0, vR (some (b0 + 0))), (1, vI x1), (2, vI x2)] [] h := by
  refine ea_iconst (pc := 0) dX12_sorts_0 (v := 0) rfl ?_
  refine ea_istore_n (pc := 1) (lv' := [(0, vR (some (b0 + 0))), (1, vI x1), (2, vI x2), (3, vI 0)]) dX12_sorts_1 rfl (Nat.le_of_ble_eq_true rfl) [1, 2, 3, 0] rfl ?_
  exact H
theorem pX12_sorts_2 {d b0 : Nat} {h0 hE h : ea_H} {rv : Option ea_V} {x1 : Int32} {x2 : Int32} {x3 : Int32} (hd : 1 ≤ d) (hs_h : ShM b0 h) (H : ((ea_i h (b0 + 0) 92) ≤ x3 → rv = none ∧ hE = h) ∧ (¬ (ea_i h (b0 + 0) 92) ≤ x3 → vp_in x3 8 ∧ ((ea_i h (b0 + 69) (Int32.toNatClampNeg x3)) = (0 : Int32) → ea_W mX12_sorts d h0 rv hE 2 [(0, vR (some (b0 + 0))), (1, vI x1), (2, vI x2), (3, vI (x3 + 1))] [] h) ∧ (¬ (ea_i h (b0 + 69) (Int32.toNatClampNeg x3)) = (0 : Int32) → vp_in x3 8 ∧ (¬ (((ea_i h (b0 + 67) (Int32.toNatClampNeg x3)) >>> (x2 &&& 31)) &&& (1 : Int32)) = (0 : Int32) → vp_in x3 8 ∧ vp_in x3 8 ∧ ∀ h5, h5 = ea_wi h (b0 + 69) (Int32.toNatClampNeg x3) ((ea_i h (b0 + 69) (Int32.toNatClampNeg x3)) - (1 : Int32)) → vp_in x1 120 ∧ ∀ h8, h8 = ea_wi h5 (b0 + 61) (Int32.toNatClampNeg x1) 1 → rv = none ∧ hE = h8) ∧ ((((ea_i h (b0 + 67) (Int32.toNatClampNeg x3)) >>> (x2 &&& 31)) &&& (1 : Int32)) = (0 : Int32) → ea_W mX12_sorts d h0 rv hE 2 [(0, vR (some (b0 + 0))), (1, vI x1), (2, vI x2), (3, vI (x3 + 1))] [] h)))) : ea_W mX12_sorts d h0 rv hE 2 [(0, vR (some (b0 + 0))), (1, vI x1), (2, vI x2), (3, vI x3)] [] h := by
  refine ea_iload_n (pc := 2) dX12_sorts_2 rfl 3 rfl ?_
  refine ea_aload_n (pc := 3) dX12_sorts_3 rfl 0 rfl ?_
  refine ea_getI (pc := 4) dX12_sorts_4 ec_12 (k := 92) (Nat.le_of_ble_eq_true rfl) rfl (Or.inl ew_1437) (hs_h.1 0 (by decide)).1 (hs_h.1 0 (by decide)).2.1 ?_
  refine ea_icmp_ge (pc := 7) (tgt := 59) dX12_sorts_7 rfl (fun c12 => ?_) (fun c12 => ?_)
  · have H := H.1 c12
    obtain ⟨rfl, rfl⟩ := H
    exact ea_return (pc := 59) dX12_sorts_59 rfl
  · have H := H.2 c12
    refine ea_aload_n (pc := 10) dX12_sorts_10 rfl 0 rfl ?_
    refine ea_getR (pc := 11) dX12_sorts_11 ec_12 (k := 96) (Nat.le_of_ble_eq_true rfl) rfl (Or.inl ew_1441) (hs_h.1 0 (by decide)).1 (hs_h.1 0 (by decide)).2.1 (hs_h.2 0 96 rfl) ?_
    refine ea_iload_n (pc := 14) dX12_sorts_14 rfl 3 rfl ?_
    obtain ⟨z1, H⟩ := H
    refine ea_iald (pc := 15) dX12_sorts_15 (hs_h.1 69 (by decide)).1 (hs_h.1 69 (by decide)).2.1 (ea_vpl (hs_h.1 69 (by decide)).2.2 z1) ?_
    refine ea_if_eq (pc := 16) (tgt := 53) dX12_sorts_16 rfl (fun c11 => ?_) (fun c11 => ?_)
    · have H := H.1 c11
      refine ea_iinc (pc := 53) (v := 1) (lv' := [(0, vR (some (b0 + 0))), (1, vI x1), (2, vI x2), (3, vI (x3 + 1))]) dX12_sorts_53 3 rfl rfl (Nat.le_of_ble_eq_true rfl) [1, 2, 3, 0] rfl ?_
      refine ea_goto (pc := 56) (tgt := 2) dX12_sorts_56 rfl ?_
      exact H
    · have H := H.2 c11
      refine ea_aload_n (pc := 19) dX12_sorts_19 rfl 0 rfl ?_
      refine ea_getR (pc := 20) dX12_sorts_20 ec_12 (k := 94) (Nat.le_of_ble_eq_true rfl) rfl (Or.inl ew_1439) (hs_h.1 0 (by decide)).1 (hs_h.1 0 (by decide)).2.1 (hs_h.2 0 94 rfl) ?_
      refine ea_iload_n (pc := 23) dX12_sorts_23 rfl 3 rfl ?_
      obtain ⟨z2, H⟩ := H
      refine ea_iald (pc := 24) dX12_sorts_24 (hs_h.1 67 (by decide)).1 (hs_h.1 67 (by decide)).2.1 (ea_vpl (hs_h.1 67 (by decide)).2.2 z2) ?_
      refine ea_iload_n (pc := 25) dX12_sorts_25 rfl 2 rfl ?_
      refine ea_ishr (pc := 26) dX12_sorts_26 ?_
      refine ea_iconst (pc := 27) dX12_sorts_27 (v := 1) rfl ?_
      refine ea_iand (pc := 28) dX12_sorts_28 ?_
      refine ea_if_ne (pc := 29) (tgt := 35) dX12_sorts_29 rfl (fun c10 => ?_) (fun c10 => ?_)
      · have H := H.1 c10
        refine ea_aload_n (pc := 35) dX12_sorts_35 rfl 0 rfl ?_
        refine ea_getR (pc := 36) dX12_sorts_36 ec_12 (k := 96) (Nat.le_of_ble_eq_true rfl) rfl (Or.inl ew_1441) (hs_h.1 0 (by decide)).1 (hs_h.1 0 (by decide)).2.1 (hs_h.2 0 96 rfl) ?_
        refine ea_iload_n (pc := 39) dX12_sorts_39 rfl 3 rfl ?_
        refine ea_dup2 (pc := 40) dX12_sorts_40 rfl rfl ?_
        obtain ⟨z3, H⟩ := H
        refine ea_iald (pc := 41) dX12_sorts_41 (hs_h.1 69 (by decide)).1 (hs_h.1 69 (by decide)).2.1 (ea_vpl (hs_h.1 69 (by decide)).2.2 z3) ?_
        refine ea_iconst (pc := 42) dX12_sorts_42 (v := 1) rfl ?_
        refine ea_isub (pc := 43) dX12_sorts_43 ?_
        obtain ⟨z4, H⟩ := H
        refine ea_iast (pc := 44) dX12_sorts_44 (hs_h.1 69 (by decide)).1 (hs_h.1 69 (by decide)).2.1 (ea_vpl (hs_h.1 69 (by decide)).2.2 z4) ?_
        obtain ⟨h5, E6⟩ : ∃ z, z = ea_wi h (b0 + 69) (Int32.toNatClampNeg x3) ((ea_i h (b0 + 69) (Int32.toNatClampNeg x3)) - (1 : Int32)) := ⟨_, rfl⟩
        have H := H h5 E6
        refine ea_nm E6 ?_
        have hs_h5 : ShM b0 h5 := by rw [E6]; exact ShM_wi hs_h
        refine ea_aload_n (pc := 45) dX12_sorts_45 rfl 0 rfl ?_
        refine ea_getR (pc := 46) dX12_sorts_46 ec_12 (k := 87) (Nat.le_of_ble_eq_true rfl) rfl (Or.inl ew_1432) (hs_h5.1 0 (by decide)).1 (hs_h5.1 0 (by decide)).2.1 (hs_h5.2 0 87 rfl) ?_
        refine ea_iload_n (pc := 49) dX12_sorts_49 rfl 1 rfl ?_
        refine ea_iconst (pc := 50) dX12_sorts_50 (v := 1) rfl ?_
        obtain ⟨z7, H⟩ := H
        refine ea_zast (pc := 51) dX12_sorts_51 (y := 1) (ea_bn (Or.inr rfl)) (hs_h5.1 61 (by decide)).1 (hs_h5.1 61 (by decide)).2.1 (ea_vpl (hs_h5.1 61 (by decide)).2.2 z7) ?_
        obtain ⟨h8, E9⟩ : ∃ z, z = ea_wi h5 (b0 + 61) (Int32.toNatClampNeg x1) 1 := ⟨_, rfl⟩
        have H := H h8 E9
        refine ea_nm E9 ?_
        have hs_h8 : ShM b0 h8 := by rw [E9]; exact ShM_wi hs_h5
        obtain ⟨rfl, rfl⟩ := H
        exact ea_return (pc := 52) dX12_sorts_52 rfl
      · have H := H.2 c10
        refine ea_goto (pc := 32) (tgt := 53) dX12_sorts_32 rfl ?_
        refine ea_iinc (pc := 53) (v := 1) (lv' := [(0, vR (some (b0 + 0))), (1, vI x1), (2, vI x2), (3, vI (x3 + 1))]) dX12_sorts_53 3 rfl rfl (Nat.le_of_ble_eq_true rfl) [1, 2, 3, 0] rfl ?_
        refine ea_goto (pc := 56) (tgt := 2) dX12_sorts_56 rfl ?_
        exact H
theorem pX12_begins_0 {d b0 : Nat} {h0 hE h : ea_H} {rv : Option ea_V} {x1 : Int32} (hd : 2 ≤ d) (hs_h : ShM b0 h) (H : ea_W mX12_begins d h0 rv hE 2 [(0, vR (some (b0 + 0))), (1, vI x1), (2, vI 0)] [] h) : ea_W mX12_begins d h0 rv hE 0 [(0, vR (some (b0 + 0))), (1, vI x1)] [] h := by
  refine ea_iconst (pc := 0) dX12_begins_0 (v := 0) rfl ?_
  refine ea_istore_n (pc := 1) (lv' := [(0, vR (some (b0 + 0))), (1, vI x1), (2, vI 0)]) dX12_begins_1 rfl (Nat.le_of_ble_eq_true rfl) [1, 2, 0] rfl ?_
  exact H
theorem pX12_begins_2 {d b0 : Nat} {h0 hE h : ea_H} {rv : Option ea_V} {x1 : Int32} {x2 : Int32} (hd : 2 ≤ d) (hs_h : ShM b0 h) (H : ((ea_i h (b0 + 0) 63) ≤ x2 → rv = none ∧ hE = h) ∧ (¬ (ea_i h (b0 + 0) 63) ≤ x2 → vp_in x2 120 ∧ ((ea_i h (b0 + 55) (Int32.toNatClampNeg x2)) = (3 : Int32) → vp_in x2 120 ∧ vp_in x2 120 ∧ ∀ h4, h4 = ea_wi h (b0 + 51) (Int32.toNatClampNeg x2) ((ea_i h (b0 + 51) (Int32.toNatClampNeg x2)) + (1 : Int32)) → vp_in x2 120 ∧ vp_in x2 120 ∧ (¬ (ea_i h4 (b0 + 47) (Int32.toNatClampNeg x2)) = ((-1) : Int32) → vp_in x2 120 ∧ vp_in (ea_i h4 (b0 + 47) (Int32.toNatClampNeg x2)) 6 ∧ ea_W mX12_begins d h0 rv hE 64 [(0, vR (some (b0 + 0))), (1, vI x1), (2, vI x2)] [vI (ea_i h4 (b0 + 28) (Int32.toNatClampNeg (ea_i h4 (b0 + 47) (Int32.toNatClampNeg x2)))), vI (ea_i h4 (b0 + 51) (Int32.toNatClampNeg x2))] h4) ∧ ((ea_i h4 (b0 + 47) (Int32.toNatClampNeg x2)) = ((-1) : Int32) → ea_W mX12_begins d h0 rv hE 64 [(0, vR (some (b0 + 0))), (1, vI x1), (2, vI x2)] [vI 3, vI (ea_i h4 (b0 + 51) (Int32.toNatClampNeg x2))] h4)) ∧ (¬ (ea_i h (b0 + 55) (Int32.toNatClampNeg x2)) = (3 : Int32) → ea_W mX12_begins d h0 rv hE 2 [(0, vR (some (b0 + 0))), (1, vI x1), (2, vI (x2 + 1))] [] h))) : ea_W mX12_begins d h0 rv hE 2 [(0, vR (some (b0 + 0))), (1, vI x1), (2, vI x2)] [] h := by
  refine ea_iload_n (pc := 2) dX12_begins_2 rfl 2 rfl ?_
  refine ea_aload_n (pc := 3) dX12_begins_3 rfl 0 rfl ?_
  refine ea_getI (pc := 4) dX12_begins_4 ec_12 (k := 63) (Nat.le_of_ble_eq_true rfl) rfl (Or.inl ew_1408) (hs_h.1 0 (by decide)).1 (hs_h.1 0 (by decide)).2.1 ?_
  refine ea_icmp_ge (pc := 7) (tgt := 87) dX12_begins_7 rfl (fun c12 => ?_) (fun c12 => ?_)
  · have H := H.1 c12
    obtain ⟨rfl, rfl⟩ := H
    exact ea_return (pc := 87) dX12_begins_87 rfl
  · have H := H.2 c12
    refine ea_aload_n (pc := 10) dX12_begins_10 rfl 0 rfl ?_
    refine ea_getR (pc := 11) dX12_begins_11 ec_12 (k := 81) (Nat.le_of_ble_eq_true rfl) rfl (Or.inl ew_1426) (hs_h.1 0 (by decide)).1 (hs_h.1 0 (by decide)).2.1 (hs_h.2 0 81 rfl) ?_
    refine ea_iload_n (pc := 14) dX12_begins_14 rfl 2 rfl ?_
    obtain ⟨z1, H⟩ := H
    refine ea_iald (pc := 15) dX12_begins_15 (hs_h.1 55 (by decide)).1 (hs_h.1 55 (by decide)).2.1 (ea_vpl (hs_h.1 55 (by decide)).2.2 z1) ?_
    refine ea_iconst (pc := 16) dX12_begins_16 (v := 3) rfl ?_
    refine ea_icmp_eq (pc := 17) (tgt := 23) dX12_begins_17 rfl (fun c11 => ?_) (fun c11 => ?_)
    · have H := H.1 c11
      refine ea_aload_n (pc := 23) dX12_begins_23 rfl 0 rfl ?_
      refine ea_getR (pc := 24) dX12_begins_24 ec_12 (k := 77) (Nat.le_of_ble_eq_true rfl) rfl (Or.inl ew_1422) (hs_h.1 0 (by decide)).1 (hs_h.1 0 (by decide)).2.1 (hs_h.2 0 77 rfl) ?_
      refine ea_iload_n (pc := 27) dX12_begins_27 rfl 2 rfl ?_
      refine ea_dup2 (pc := 28) dX12_begins_28 rfl rfl ?_
      obtain ⟨z2, H⟩ := H
      refine ea_iald (pc := 29) dX12_begins_29 (hs_h.1 51 (by decide)).1 (hs_h.1 51 (by decide)).2.1 (ea_vpl (hs_h.1 51 (by decide)).2.2 z2) ?_
      refine ea_iconst (pc := 30) dX12_begins_30 (v := 1) rfl ?_
      refine ea_iadd (pc := 31) dX12_begins_31 ?_
      obtain ⟨z3, H⟩ := H
      refine ea_iast (pc := 32) dX12_begins_32 (hs_h.1 51 (by decide)).1 (hs_h.1 51 (by decide)).2.1 (ea_vpl (hs_h.1 51 (by decide)).2.2 z3) ?_
      obtain ⟨h4, E5⟩ : ∃ z, z = ea_wi h (b0 + 51) (Int32.toNatClampNeg x2) ((ea_i h (b0 + 51) (Int32.toNatClampNeg x2)) + (1 : Int32)) := ⟨_, rfl⟩
      have H := H h4 E5
      refine ea_nm E5 ?_
      have hs_h4 : ShM b0 h4 := by rw [E5]; exact ShM_wi hs_h
      refine ea_aload_n (pc := 33) dX12_begins_33 rfl 0 rfl ?_
      refine ea_getR (pc := 34) dX12_begins_34 ec_12 (k := 77) (Nat.le_of_ble_eq_true rfl) rfl (Or.inl ew_1422) (hs_h4.1 0 (by decide)).1 (hs_h4.1 0 (by decide)).2.1 (hs_h4.2 0 77 rfl) ?_
      refine ea_iload_n (pc := 37) dX12_begins_37 rfl 2 rfl ?_
      obtain ⟨z6, H⟩ := H
      refine ea_iald (pc := 38) dX12_begins_38 (hs_h4.1 51 (by decide)).1 (hs_h4.1 51 (by decide)).2.1 (ea_vpl (hs_h4.1 51 (by decide)).2.2 z6) ?_
      refine ea_aload_n (pc := 39) dX12_begins_39 rfl 0 rfl ?_
      refine ea_getR (pc := 40) dX12_begins_40 ec_12 (k := 73) (Nat.le_of_ble_eq_true rfl) rfl (Or.inl ew_1418) (hs_h4.1 0 (by decide)).1 (hs_h4.1 0 (by decide)).2.1 (hs_h4.2 0 73 rfl) ?_
      refine ea_iload_n (pc := 43) dX12_begins_43 rfl 2 rfl ?_
      obtain ⟨z7, H⟩ := H
      refine ea_iald (pc := 44) dX12_begins_44 (hs_h4.1 47 (by decide)).1 (hs_h4.1 47 (by decide)).2.1 (ea_vpl (hs_h4.1 47 (by decide)).2.2 z7) ?_
      refine ea_iconst (pc := 45) dX12_begins_45 (v := (-1)) rfl ?_
      refine ea_icmp_ne (pc := 46) (tgt := 53) dX12_begins_46 rfl (fun c10 => ?_) (fun c10 => ?_)
      · have H := H.1 c10
        refine ea_aload_n (pc := 53) dX12_begins_53 rfl 0 rfl ?_
        refine ea_getR (pc := 54) dX12_begins_54 ec_12 (k := 33) (Nat.le_of_ble_eq_true rfl) rfl (Or.inl ew_1378) (hs_h4.1 0 (by decide)).1 (hs_h4.1 0 (by decide)).2.1 (hs_h4.2 0 33 rfl) ?_
        refine ea_aload_n (pc := 57) dX12_begins_57 rfl 0 rfl ?_
        refine ea_getR (pc := 58) dX12_begins_58 ec_12 (k := 73) (Nat.le_of_ble_eq_true rfl) rfl (Or.inl ew_1418) (hs_h4.1 0 (by decide)).1 (hs_h4.1 0 (by decide)).2.1 (hs_h4.2 0 73 rfl) ?_
        refine ea_iload_n (pc := 61) dX12_begins_61 rfl 2 rfl ?_
        obtain ⟨z8, H⟩ := H
        refine ea_iald (pc := 62) dX12_begins_62 (hs_h4.1 47 (by decide)).1 (hs_h4.1 47 (by decide)).2.1 (ea_vpl (hs_h4.1 47 (by decide)).2.2 z8) ?_
        obtain ⟨z9, H⟩ := H
        refine ea_iald (pc := 63) dX12_begins_63 (hs_h4.1 28 (by decide)).1 (hs_h4.1 28 (by decide)).2.1 (ea_vpl (hs_h4.1 28 (by decide)).2.2 z9) ?_
        exact H
      · have H := H.2 c10
        refine ea_iconst (pc := 49) dX12_begins_49 (v := 3) rfl ?_
        refine ea_goto (pc := 50) (tgt := 64) dX12_begins_50 rfl ?_
        exact H
    · have H := H.2 c11
      refine ea_goto (pc := 20) (tgt := 81) dX12_begins_20 rfl ?_
      refine ea_iinc (pc := 81) (v := 1) (lv' := [(0, vR (some (b0 + 0))), (1, vI x1), (2, vI (x2 + 1))]) dX12_begins_81 2 rfl rfl (Nat.le_of_ble_eq_true rfl) [1, 2, 0] rfl ?_
      refine ea_goto (pc := 84) (tgt := 2) dX12_begins_84 rfl ?_
      exact H
theorem pX12_begins_64 {d b0 : Nat} {h0 hE h : ea_H} {rv : Option ea_V} {x1 : Int32} {x2 : Int32} {sx0 : Int32} {sx1 : Int32} (hd : 2 ≤ d) (hs_h : ShM b0 h) (H : (sx1 < sx0 → ea_W mX12_begins d h0 rv hE 2 [(0, vR (some (b0 + 0))), (1, vI x1), (2, vI (x2 + 1))] [] h) ∧ (¬ sx1 < sx0 → vp_in x2 120 ∧ (okX12_turns b0 (x2 : Int32) (x1 : Int32) (6 : Int32) ((ea_i h (b0 + 56) (Int32.toNatClampNeg x2)) : Int32) h) ∧ ∀ h3, h3 = (wX12_turns b0 (x2 : Int32) (x1 : Int32) (6 : Int32) ((ea_i h (b0 + 56) (Int32.toNatClampNeg x2)) : Int32) h) → ea_W mX12_begins d h0 rv hE 2 [(0, vR (some (b0 + 0))), (1, vI x1), (2, vI (x2 + 1))] [] h3)) : ea_W mX12_begins d h0 rv hE 64 [(0, vR (some (b0 + 0))), (1, vI x1), (2, vI x2)] [vI sx0, vI sx1] h := by
  refine ea_icmp_lt (pc := 64) (tgt := 81) dX12_begins_64 rfl (fun c8 => ?_) (fun c8 => ?_)
  · have H := H.1 c8
    refine ea_iinc (pc := 81) (v := 1) (lv' := [(0, vR (some (b0 + 0))), (1, vI x1), (2, vI (x2 + 1))]) dX12_begins_81 2 rfl rfl (Nat.le_of_ble_eq_true rfl) [1, 2, 0] rfl ?_
    refine ea_goto (pc := 84) (tgt := 2) dX12_begins_84 rfl ?_
    exact H
  · have H := H.2 c8
    refine ea_aload_n (pc := 67) dX12_begins_67 rfl 0 rfl ?_
    refine ea_iload_n (pc := 68) dX12_begins_68 rfl 2 rfl ?_
    refine ea_iload_n (pc := 69) dX12_begins_69 rfl 1 rfl ?_
    refine ea_bipush (pc := 70) dX12_begins_70 (v := 6) rfl ?_
    refine ea_aload_n (pc := 72) dX12_begins_72 rfl 0 rfl ?_
    refine ea_getR (pc := 73) dX12_begins_73 ec_12 (k := 82) (Nat.le_of_ble_eq_true rfl) rfl (Or.inl ew_1427) (hs_h.1 0 (by decide)).1 (hs_h.1 0 (by decide)).2.1 (hs_h.2 0 82 rfl) ?_
    refine ea_iload_n (pc := 76) dX12_begins_76 rfl 2 rfl ?_
    obtain ⟨z1, H⟩ := H
    refine ea_iald (pc := 77) dX12_begins_77 (hs_h.1 56 (by decide)).1 (hs_h.1 56 (by decide)).2.1 (ea_vpl (hs_h.1 56 (by decide)).2.2 z1) ?_
    obtain ⟨z6, H⟩ := H
    refine ea_callV (pc := 78) (d' := d - 1) (As := [vI x2, vI x1, vI 6, vI (ea_i h (b0 + 56) (Int32.toNatClampNeg x2))]) (st := []) dX12_begins_78 kX12_turns (sX12_turns (d := d - 1) (by omega) hs_h z6) (by omega) rfl (Nat.le_of_ble_eq_true rfl) ew_2011 ew_2013 ew_88 (ci := 12) rfl (by decide) (hs_h.1 0 (by decide)).1 (hs_h.1 0 (by decide)).2.1 ?_
    obtain ⟨h3, E7⟩ : ∃ z, z = (wX12_turns b0 (x2 : Int32) (x1 : Int32) (6 : Int32) ((ea_i h (b0 + 56) (Int32.toNatClampNeg x2)) : Int32) h) := ⟨_, rfl⟩
    have H := H h3 E7
    refine ea_nm E7 ?_
    have hs_h3 : ShM b0 h3 := by rw [E7]; exact shX12_turns hs_h
    refine ea_iinc (pc := 81) (v := 1) (lv' := [(0, vR (some (b0 + 0))), (1, vI x1), (2, vI (x2 + 1))]) dX12_begins_81 2 rfl rfl (Nat.le_of_ble_eq_true rfl) [1, 2, 0] rfl ?_
    refine ea_goto (pc := 84) (tgt := 2) dX12_begins_84 rfl ?_
    exact H
theorem pX12_leadsOn_0 {d b0 : Nat} {h0 hE h : ea_H} {rv : Option ea_V} {x1 : Int32} {x2 : Int32} (hd : 1 ≤ d) (hs_h : ShM b0 h) (H : ∃ (d1 : Nat) (h2 : ea_H), ea_Met mX12_table d1 [vR (some (b0 + 0))] h none h2 ∧ d1 + 1 ≤ d ∧ ShM b0 h2 ∧ ea_W mX12_leadsOn d h0 rv hE 15 [(0, vR (some (b0 + 0))), (1, vI x1), (2, vI x2), (3, vI ((x1 / (1440 : Int32)) + (1 : Int32))), (4, vI 0)] [] h2) : ea_W mX12_leadsOn d h0 rv hE 0 [(0, vR (some (b0 + 0))), (1, vI x1), (2, vI x2)] [] h := by
  refine ea_aload_n (pc := 0) dX12_leadsOn_0 rfl 0 rfl ?_
  obtain ⟨d1, h2, m3, q4, hs_h2, H⟩ := H
  refine ea_callV (pc := 1) (As := []) (st := []) dX12_leadsOn_1 kX12_table m3 q4 rfl (Nat.le_of_ble_eq_true rfl) ew_1774 ew_1776 ew_54 (ci := 12) rfl (by decide) (hs_h.1 0 (by decide)).1 (hs_h.1 0 (by decide)).2.1 ?_
  refine ea_iload_n (pc := 4) dX12_leadsOn_4 rfl 1 rfl ?_
  refine ea_sipush (pc := 5) dX12_leadsOn_5 (v := 1440) rfl ?_
  refine ea_idiv (pc := 8) dX12_leadsOn_8 (by decide) ?_
  refine ea_iconst (pc := 9) dX12_leadsOn_9 (v := 1) rfl ?_
  refine ea_iadd (pc := 10) dX12_leadsOn_10 ?_
  refine ea_istore_n (pc := 11) (lv' := [(0, vR (some (b0 + 0))), (1, vI x1), (2, vI x2), (3, vI ((x1 / (1440 : Int32)) + (1 : Int32)))]) dX12_leadsOn_11 rfl (Nat.le_of_ble_eq_true rfl) [1, 2, 3, 0] rfl ?_
  refine ea_iconst (pc := 12) dX12_leadsOn_12 (v := 0) rfl ?_
  refine ea_istore (pc := 13) (lv' := [(0, vR (some (b0 + 0))), (1, vI x1), (2, vI x2), (3, vI ((x1 / (1440 : Int32)) + (1 : Int32))), (4, vI 0)]) dX12_leadsOn_13 (Nat.le_of_ble_eq_true rfl) [1, 2, 3, 4, 0] rfl ?_
  exact H
theorem pX12_leadsOn_15 {d b0 : Nat} {h0 hE h : ea_H} {rv : Option ea_V} {x1 : Int32} {x2 : Int32} {x3 : Int32} {x4 : Int32} (hd : 1 ≤ d) (hs_h : ShM b0 h) (H : ((ea_i h (b0 + 0) 13) ≤ x4 → ea_W mX12_leadsOn d h0 rv hE 110 [(0, vR (some (b0 + 0))), (2, vI x2), (3, vI x3)] [] h) ∧ (¬ (ea_i h (b0 + 0) 13) ≤ x4 → vp_in x4 1000 ∧ (x2 < (ea_i h (b0 + 10) (Int32.toNatClampNeg x4)) → ea_W mX12_leadsOn d h0 rv hE 110 [(0, vR (some (b0 + 0))), (2, vI x2), (3, vI x3)] [] h) ∧ (¬ x2 < (ea_i h (b0 + 10) (Int32.toNatClampNeg x4)) → vp_in x4 1000 ∧ (x1 < (ea_i h (b0 + 10) (Int32.toNatClampNeg x4)) → ea_W mX12_leadsOn d h0 rv hE 49 [(0, vR (some (b0 + 0))), (1, vI x1), (2, vI x2), (3, vI x3), (4, vI x4)] [] h) ∧ (¬ x1 < (ea_i h (b0 + 10) (Int32.toNatClampNeg x4)) → ea_W mX12_leadsOn d h0 rv hE 15 [(0, vR (some (b0 + 0))), (1, vI x1), (2, vI x2), (3, vI x3), (4, vI (x4 + 1))] [] h)))) : ea_W mX12_leadsOn d h0 rv hE 15 [(0, vR (some (b0 + 0))), (1, vI x1), (2, vI x2), (3, vI x3), (4, vI x4)] [] h := by
  refine ea_iload (pc := 15) dX12_leadsOn_15 4 rfl ?_
  refine ea_aload_n (pc := 17) dX12_leadsOn_17 rfl 0 rfl ?_
  refine ea_getI (pc := 18) dX12_leadsOn_18 ec_12 (k := 13) (Nat.le_of_ble_eq_true rfl) rfl (Or.inl ew_1358) (hs_h.1 0 (by decide)).1 (hs_h.1 0 (by decide)).2.1 ?_
  refine ea_icmp_ge (pc := 21) (tgt := 110) dX12_leadsOn_21 rfl (fun c5 => ?_) (fun c5 => ?_)
  · have H := H.1 c5
    exact ea_fewer [0, 2, 3] rfl H
  · have H := H.2 c5
    refine ea_aload_n (pc := 24) dX12_leadsOn_24 rfl 0 rfl ?_
    refine ea_getR (pc := 25) dX12_leadsOn_25 ec_12 (k := 14) (Nat.le_of_ble_eq_true rfl) rfl (Or.inl ew_1359) (hs_h.1 0 (by decide)).1 (hs_h.1 0 (by decide)).2.1 (hs_h.2 0 14 rfl) ?_
    refine ea_iload (pc := 28) dX12_leadsOn_28 4 rfl ?_
    obtain ⟨z1, H⟩ := H
    refine ea_iald (pc := 30) dX12_leadsOn_30 (hs_h.1 10 (by decide)).1 (hs_h.1 10 (by decide)).2.1 (ea_vpl (hs_h.1 10 (by decide)).2.2 z1) ?_
    refine ea_iload_n (pc := 31) dX12_leadsOn_31 rfl 2 rfl ?_
    refine ea_icmp_gt (pc := 32) (tgt := 110) dX12_leadsOn_32 rfl (fun c4 => ?_) (fun c4 => ?_)
    · have H := H.1 c4
      exact ea_fewer [0, 2, 3] rfl H
    · have H := H.2 c4
      refine ea_aload_n (pc := 35) dX12_leadsOn_35 rfl 0 rfl ?_
      refine ea_getR (pc := 36) dX12_leadsOn_36 ec_12 (k := 14) (Nat.le_of_ble_eq_true rfl) rfl (Or.inl ew_1359) (hs_h.1 0 (by decide)).1 (hs_h.1 0 (by decide)).2.1 (hs_h.2 0 14 rfl) ?_
      refine ea_iload (pc := 39) dX12_leadsOn_39 4 rfl ?_
      obtain ⟨z2, H⟩ := H
      refine ea_iald (pc := 41) dX12_leadsOn_41 (hs_h.1 10 (by decide)).1 (hs_h.1 10 (by decide)).2.1 (ea_vpl (hs_h.1 10 (by decide)).2.2 z2) ?_
      refine ea_iload_n (pc := 42) dX12_leadsOn_42 rfl 1 rfl ?_
      refine ea_icmp_gt (pc := 43) (tgt := 49) dX12_leadsOn_43 rfl (fun c3 => ?_) (fun c3 => ?_)
      · have H := H.1 c3
        exact H
      · have H := H.2 c3
        refine ea_goto (pc := 46) (tgt := 104) dX12_leadsOn_46 rfl ?_
        refine ea_iinc (pc := 104) (v := 1) (lv' := [(0, vR (some (b0 + 0))), (1, vI x1), (2, vI x2), (3, vI x3), (4, vI (x4 + 1))]) dX12_leadsOn_104 4 rfl rfl (Nat.le_of_ble_eq_true rfl) [1, 2, 3, 4, 0] rfl ?_
        refine ea_goto (pc := 107) (tgt := 15) dX12_leadsOn_107 rfl ?_
        exact H
theorem pX12_leadsOn_49 {d b0 : Nat} {h0 hE h : ea_H} {rv : Option ea_V} {x1 : Int32} {x2 : Int32} {x3 : Int32} {x4 : Int32} (hd : 1 ≤ d) (hs_h : ShM b0 h) (H : vp_in x4 1000 ∧ ((ea_i h (b0 + 10) (Int32.toNatClampNeg x4)) < ((1440 : Int32) * x3) → vp_in x4 1000 ∧ (¬ (ea_i h (b0 + 11) (Int32.toNatClampNeg x4)) = (0 : Int32) → ∃ (d3 : Nat) (h4 : ea_H), ea_Met mX12_leaves d3 [vR (some (b0 + 0)), vI x4] h none h4 ∧ d3 + 1 ≤ d ∧ ShM b0 h4 ∧ ea_W mX12_leadsOn d h0 rv hE 15 [(0, vR (some (b0 + 0))), (1, vI x1), (2, vI x2), (3, vI x3), (4, vI (x4 + 1))] [] h4) ∧ ((ea_i h (b0 + 11) (Int32.toNatClampNeg x4)) = (0 : Int32) → ∃ (d7 : Nat) (h8 : ea_H), ea_Met mX12_coming d7 [vR (some (b0 + 0)), vI x4] h none h8 ∧ d7 + 1 ≤ d ∧ ShM b0 h8 ∧ ea_W mX12_leadsOn d h0 rv hE 15 [(0, vR (some (b0 + 0))), (1, vI x1), (2, vI x2), (3, vI x3), (4, vI (x4 + 1))] [] h8)) ∧ (¬ (ea_i h (b0 + 10) (Int32.toNatClampNeg x4)) < ((1440 : Int32) * x3) → ∃ (d12 : Nat) (h13 : ea_H), ea_Met mX12_begins d12 [vR (some (b0 + 0)), vI ((1440 : Int32) * x3)] h none h13 ∧ d12 + 1 ≤ d ∧ ShM b0 h13 ∧ ea_W mX12_leadsOn d h0 rv hE 49 [(0, vR (some (b0 + 0))), (1, vI x1), (2, vI x2), (3, vI (x3 + 1)), (4, vI x4)] [] h13)) : ea_W mX12_leadsOn d h0 rv hE 49 [(0, vR (some (b0 + 0))), (1, vI x1), (2, vI x2), (3, vI x3), (4, vI x4)] [] h := by
  refine ea_sipush (pc := 49) dX12_leadsOn_49 (v := 1440) rfl ?_
  refine ea_iload_n (pc := 52) dX12_leadsOn_52 rfl 3 rfl ?_
  refine ea_imul (pc := 53) dX12_leadsOn_53 ?_
  refine ea_aload_n (pc := 54) dX12_leadsOn_54 rfl 0 rfl ?_
  refine ea_getR (pc := 55) dX12_leadsOn_55 ec_12 (k := 14) (Nat.le_of_ble_eq_true rfl) rfl (Or.inl ew_1359) (hs_h.1 0 (by decide)).1 (hs_h.1 0 (by decide)).2.1 (hs_h.2 0 14 rfl) ?_
  refine ea_iload (pc := 58) dX12_leadsOn_58 4 rfl ?_
  obtain ⟨z1, H⟩ := H
  refine ea_iald (pc := 60) dX12_leadsOn_60 (hs_h.1 10 (by decide)).1 (hs_h.1 10 (by decide)).2.1 (ea_vpl (hs_h.1 10 (by decide)).2.2 z1) ?_
  refine ea_icmp_gt (pc := 61) (tgt := 79) dX12_leadsOn_61 rfl (fun c16 => ?_) (fun c16 => ?_)
  · have H := H.1 c16
    refine ea_aload_n (pc := 79) dX12_leadsOn_79 rfl 0 rfl ?_
    refine ea_getR (pc := 80) dX12_leadsOn_80 ec_12 (k := 15) (Nat.le_of_ble_eq_true rfl) rfl (Or.inl ew_1360) (hs_h.1 0 (by decide)).1 (hs_h.1 0 (by decide)).2.1 (hs_h.2 0 15 rfl) ?_
    refine ea_iload (pc := 83) dX12_leadsOn_83 4 rfl ?_
    obtain ⟨z2, H⟩ := H
    refine ea_iald (pc := 85) dX12_leadsOn_85 (hs_h.1 11 (by decide)).1 (hs_h.1 11 (by decide)).2.1 (ea_vpl (hs_h.1 11 (by decide)).2.2 z2) ?_
    refine ea_if_ne (pc := 86) (tgt := 98) dX12_leadsOn_86 rfl (fun c11 => ?_) (fun c11 => ?_)
    · have H := H.1 c11
      refine ea_aload_n (pc := 98) dX12_leadsOn_98 rfl 0 rfl ?_
      refine ea_iload (pc := 99) dX12_leadsOn_99 4 rfl ?_
      obtain ⟨d3, h4, m5, q6, hs_h4, H⟩ := H
      refine ea_callV (pc := 101) (As := [vI x4]) (st := []) dX12_leadsOn_101 kX12_leaves m5 q6 rfl (Nat.le_of_ble_eq_true rfl) ew_2078 ew_2080 ew_97 (ci := 12) rfl (by decide) (hs_h.1 0 (by decide)).1 (hs_h.1 0 (by decide)).2.1 ?_
      refine ea_iinc (pc := 104) (v := 1) (lv' := [(0, vR (some (b0 + 0))), (1, vI x1), (2, vI x2), (3, vI x3), (4, vI (x4 + 1))]) dX12_leadsOn_104 4 rfl rfl (Nat.le_of_ble_eq_true rfl) [1, 2, 3, 4, 0] rfl ?_
      refine ea_goto (pc := 107) (tgt := 15) dX12_leadsOn_107 rfl ?_
      exact H
    · have H := H.2 c11
      refine ea_aload_n (pc := 89) dX12_leadsOn_89 rfl 0 rfl ?_
      refine ea_iload (pc := 90) dX12_leadsOn_90 4 rfl ?_
      obtain ⟨d7, h8, m9, q10, hs_h8, H⟩ := H
      refine ea_callV (pc := 92) (As := [vI x4]) (st := []) dX12_leadsOn_92 kX12_coming m9 q10 rfl (Nat.le_of_ble_eq_true rfl) ew_2063 ew_2065 ew_94 (ci := 12) rfl (by decide) (hs_h.1 0 (by decide)).1 (hs_h.1 0 (by decide)).2.1 ?_
      refine ea_goto (pc := 95) (tgt := 104) dX12_leadsOn_95 rfl ?_
      refine ea_iinc (pc := 104) (v := 1) (lv' := [(0, vR (some (b0 + 0))), (1, vI x1), (2, vI x2), (3, vI x3), (4, vI (x4 + 1))]) dX12_leadsOn_104 4 rfl rfl (Nat.le_of_ble_eq_true rfl) [1, 2, 3, 4, 0] rfl ?_
      refine ea_goto (pc := 107) (tgt := 15) dX12_leadsOn_107 rfl ?_
      exact H
  · have H := H.2 c16
    refine ea_aload_n (pc := 64) dX12_leadsOn_64 rfl 0 rfl ?_
    refine ea_sipush (pc := 65) dX12_leadsOn_65 (v := 1440) rfl ?_
    refine ea_iload_n (pc := 68) dX12_leadsOn_68 rfl 3 rfl ?_
    refine ea_imul (pc := 69) dX12_leadsOn_69 ?_
    obtain ⟨d12, h13, m14, q15, hs_h13, H⟩ := H
    refine ea_callV (pc := 70) (As := [vI ((1440 : Int32) * x3)]) (st := []) dX12_leadsOn_70 kX12_begins m14 q15 rfl (Nat.le_of_ble_eq_true rfl) ew_2059 ew_2061 ew_93 (ci := 12) rfl (by decide) (hs_h.1 0 (by decide)).1 (hs_h.1 0 (by decide)).2.1 ?_
    refine ea_iinc (pc := 73) (v := 1) (lv' := [(0, vR (some (b0 + 0))), (1, vI x1), (2, vI x2), (3, vI (x3 + 1)), (4, vI x4)]) dX12_leadsOn_73 3 rfl rfl (Nat.le_of_ble_eq_true rfl) [1, 2, 3, 0, 4] rfl ?_
    refine ea_goto (pc := 76) (tgt := 49) dX12_leadsOn_76 rfl ?_
    exact H
theorem pX12_leadsOn_110 {d b0 : Nat} {h0 hE h : ea_H} {rv : Option ea_V} {x2 : Int32} {x3 : Int32} (hd : 1 ≤ d) (hs_h : ShM b0 h) (H : (x2 < ((1440 : Int32) * x3) → rv = none ∧ hE = h) ∧ (¬ x2 < ((1440 : Int32) * x3) → ∃ (d1 : Nat) (h2 : ea_H), ea_Met mX12_begins d1 [vR (some (b0 + 0)), vI ((1440 : Int32) * x3)] h none h2 ∧ d1 + 1 ≤ d ∧ ShM b0 h2 ∧ ea_W mX12_leadsOn d h0 rv hE 110 [(0, vR (some (b0 + 0))), (2, vI x2), (3, vI (x3 + 1))] [] h2)) : ea_W mX12_leadsOn d h0 rv hE 110 [(0, vR (some (b0 + 0))), (2, vI x2), (3, vI x3)] [] h := by
  refine ea_sipush (pc := 110) dX12_leadsOn_110 (v := 1440) rfl ?_
  refine ea_iload_n (pc := 113) dX12_leadsOn_113 rfl 2 rfl ?_
  refine ea_imul (pc := 114) dX12_leadsOn_114 ?_
  refine ea_iload_n (pc := 115) dX12_leadsOn_115 rfl 1 rfl ?_
  refine ea_icmp_gt (pc := 116) (tgt := 134) dX12_leadsOn_116 rfl (fun c5 => ?_) (fun c5 => ?_)
  · have H := H.1 c5
    obtain ⟨rfl, rfl⟩ := H
    exact ea_return (pc := 134) dX12_leadsOn_134 rfl
  · have H := H.2 c5
    refine ea_aload_n (pc := 119) dX12_leadsOn_119 rfl 0 rfl ?_
    refine ea_sipush (pc := 120) dX12_leadsOn_120 (v := 1440) rfl ?_
    refine ea_iload_n (pc := 123) dX12_leadsOn_123 rfl 2 rfl ?_
    refine ea_imul (pc := 124) dX12_leadsOn_124 ?_
    obtain ⟨d1, h2, m3, q4, hs_h2, H⟩ := H
    refine ea_callV (pc := 125) (As := [vI ((1440 : Int32) * x3)]) (st := []) dX12_leadsOn_125 kX12_begins m3 q4 rfl (Nat.le_of_ble_eq_true rfl) ew_2059 ew_2061 ew_93 (ci := 12) rfl (by decide) (hs_h.1 0 (by decide)).1 (hs_h.1 0 (by decide)).2.1 ?_
    refine ea_iinc (pc := 128) (v := 1) (lv' := [(0, vR (some (b0 + 0))), (2, vI x2), (3, vI (x3 + 1))]) dX12_leadsOn_128 2 rfl rfl (Nat.le_of_ble_eq_true rfl) [1, 2, 0] rfl ?_
    refine ea_goto (pc := 131) (tgt := 110) dX12_leadsOn_131 rfl ?_
    exact H
theorem pX12_minutes_0 {d b0 : Nat} {h0 hE h : ea_H} {rv : Option ea_V} {x1 : Int32} (hd : 2 ≤ d) (hs_h : ShM b0 h) (H : ((vX12_isIn (x1 : Int32) (1 : Int32) (3000 : Int32) h) = (0 : Int32) → rv = some (vI (-1)) ∧ hE = h) ∧ (¬ (vX12_isIn (x1 : Int32) (1 : Int32) (3000 : Int32) h) = (0 : Int32) → ((ea_i h (b0 + 0) 0) ≤ ((10079 : Int32) - x1) → ∃ (d14 : Nat) (h15 : ea_H), ea_Met mX12_leadsOn d14 [vR (some (b0 + 0)), vI (ea_i h (b0 + 0) 0), vI ((ea_i h (b0 + 0) 0) + x1)] h none h15 ∧ d14 + 1 ≤ d ∧ ShM b0 h15 ∧ ∀ h18, h18 = ea_wi h15 (b0 + 0) 0 ((ea_i h15 (b0 + 0) 0) + x1) → rv = some (vI (ea_i h18 (b0 + 0) 0)) ∧ hE = h18) ∧ (¬ (ea_i h (b0 + 0) 0) ≤ ((10079 : Int32) - x1) → rv = some (vI (-1)) ∧ hE = h))) : ea_W mX12_minutes d h0 rv hE 0 [(0, vR (some (b0 + 0))), (1, vI x1)] [] h := by
  refine ea_iload_n (pc := 0) dX12_minutes_0 rfl 1 rfl ?_
  refine ea_iconst (pc := 1) dX12_minutes_1 (v := 1) rfl ?_
  refine ea_sipush (pc := 2) dX12_minutes_2 (v := 3000) rfl ?_
  refine ea_callS (pc := 5) (d' := d - 1) (As := [vI x1, vI 1, vI 3000]) (st := []) dX12_minutes_5 kX12_isIn (sX12_isIn (d := d - 1) (by omega)) (by omega) rfl (Nat.le_of_ble_eq_true rfl) ew_1712 ew_1713 ?_
  refine ea_if_eq (pc := 8) (tgt := 23) dX12_minutes_8 rfl (fun c21 => ?_) (fun c21 => ?_)
  · have H := H.1 c21
    refine ea_iconst (pc := 23) dX12_minutes_23 (v := (-1)) rfl ?_
    obtain ⟨rfl, rfl⟩ := H
    exact ea_ireturn (pc := 24) dX12_minutes_24 rfl rfl
  · have H := H.2 c21
    refine ea_aload_n (pc := 11) dX12_minutes_11 rfl 0 rfl ?_
    refine ea_getI (pc := 12) dX12_minutes_12 ec_12 (k := 0) (Nat.le_of_ble_eq_true rfl) rfl (Or.inl ew_1345) (hs_h.1 0 (by decide)).1 (hs_h.1 0 (by decide)).2.1 ?_
    refine ea_sipush (pc := 15) dX12_minutes_15 (v := 10079) rfl ?_
    refine ea_iload_n (pc := 18) dX12_minutes_18 rfl 1 rfl ?_
    refine ea_isub (pc := 19) dX12_minutes_19 ?_
    refine ea_icmp_le (pc := 20) (tgt := 25) dX12_minutes_20 rfl (fun c20 => ?_) (fun c20 => ?_)
    · have H := H.1 c20
      refine ea_aload_n (pc := 25) dX12_minutes_25 rfl 0 rfl ?_
      refine ea_aload_n (pc := 26) dX12_minutes_26 rfl 0 rfl ?_
      refine ea_getI (pc := 27) dX12_minutes_27 ec_12 (k := 0) (Nat.le_of_ble_eq_true rfl) rfl (Or.inl ew_1345) (hs_h.1 0 (by decide)).1 (hs_h.1 0 (by decide)).2.1 ?_
      refine ea_aload_n (pc := 30) dX12_minutes_30 rfl 0 rfl ?_
      refine ea_getI (pc := 31) dX12_minutes_31 ec_12 (k := 0) (Nat.le_of_ble_eq_true rfl) rfl (Or.inl ew_1345) (hs_h.1 0 (by decide)).1 (hs_h.1 0 (by decide)).2.1 ?_
      refine ea_iload_n (pc := 34) dX12_minutes_34 rfl 1 rfl ?_
      refine ea_iadd (pc := 35) dX12_minutes_35 ?_
      obtain ⟨d14, h15, m16, q17, hs_h15, H⟩ := H
      refine ea_callV (pc := 36) (As := [vI (ea_i h (b0 + 0) 0), vI ((ea_i h (b0 + 0) 0) + x1)]) (st := []) dX12_minutes_36 kX12_leadsOn m16 q17 rfl (Nat.le_of_ble_eq_true rfl) ew_2055 ew_2057 ew_92 (ci := 12) rfl (by decide) (hs_h.1 0 (by decide)).1 (hs_h.1 0 (by decide)).2.1 ?_
      refine ea_aload_n (pc := 39) dX12_minutes_39 rfl 0 rfl ?_
      refine ea_dup (pc := 40) dX12_minutes_40 rfl ?_
      refine ea_getI (pc := 41) dX12_minutes_41 ec_12 (k := 0) (Nat.le_of_ble_eq_true rfl) rfl (Or.inl ew_1345) (hs_h15.1 0 (by decide)).1 (hs_h15.1 0 (by decide)).2.1 ?_
      refine ea_iload_n (pc := 44) dX12_minutes_44 rfl 1 rfl ?_
      refine ea_iadd (pc := 45) dX12_minutes_45 ?_
      refine ea_putI (pc := 46) dX12_minutes_46 ec_12 (k := 0) (Nat.le_of_ble_eq_true rfl) rfl (Or.inl ⟨rfl, Or.inl ew_1345⟩) rfl rfl (hs_h15.1 0 (by decide)).1 (hs_h15.1 0 (by decide)).2.1 ?_
      obtain ⟨h18, E19⟩ : ∃ z, z = ea_wi h15 (b0 + 0) 0 ((ea_i h15 (b0 + 0) 0) + x1) := ⟨_, rfl⟩
      have H := H h18 E19
      refine ea_nm E19 ?_
      have hs_h18 : ShM b0 h18 := by rw [E19]; exact ShM_wi hs_h15
      refine ea_aload_n (pc := 49) dX12_minutes_49 rfl 0 rfl ?_
      refine ea_getI (pc := 50) dX12_minutes_50 ec_12 (k := 0) (Nat.le_of_ble_eq_true rfl) rfl (Or.inl ew_1345) (hs_h18.1 0 (by decide)).1 (hs_h18.1 0 (by decide)).2.1 ?_
      obtain ⟨rfl, rfl⟩ := H
      exact ea_ireturn (pc := 53) dX12_minutes_53 rfl rfl
    · have H := H.2 c20
      refine ea_iconst (pc := 23) dX12_minutes_23 (v := (-1)) rfl ?_
      obtain ⟨rfl, rfl⟩ := H
      exact ea_ireturn (pc := 24) dX12_minutes_24 rfl rfl
theorem pX12_look_0 {d b0 : Nat} {h0 hE h : ea_H} {rv : Option ea_V} {x1 : Int32} (hd : 2 ≤ d) (hs_h : ShM b0 h) (H : (Int32.toInt x1 = 0 → rv = some (vI (ea_i h (b0 + 0) 0)) ∧ hE = h) ∧ (Int32.toInt x1 = 1 → rv = some (vI (ea_i h (b0 + 0) 1)) ∧ hE = h) ∧ (Int32.toInt x1 = 2 → rv = some (vI (ea_i h (b0 + 0) 2)) ∧ hE = h) ∧ (Int32.toInt x1 = 3 → rv = some (vI (ea_i h (b0 + 0) 63)) ∧ hE = h) ∧ (Int32.toInt x1 = 4 → rv = some (vI (ea_i h (b0 + 0) 92)) ∧ hE = h) ∧ (Int32.toInt x1 = 5 → rv = some (vI (ea_i h (b0 + 0) 25)) ∧ hE = h) ∧ (Int32.toInt x1 < 0 ∨ 5 < Int32.toInt x1 → (¬ (vX12_isIn (x1 : Int32) (10 : Int32) (16 : Int32) h) = (0 : Int32) → ea_W mX12_look d h0 rv hE 85 [(0, vR (some (b0 + 0))), (1, vI x1), (2, vI 0), (3, vI 0)] [] h) ∧ ((vX12_isIn (x1 : Int32) (10 : Int32) (16 : Int32) h) = (0 : Int32) → rv = some (vI (-1)) ∧ hE = h))) : ea_W mX12_look d h0 rv hE 0 [(0, vR (some (b0 + 0))), (1, vI x1)] [] h := by
  refine ea_iconst (pc := 0) dX12_look_0 (v := 0) rfl ?_
  refine ea_istore_n (pc := 1) (lv' := [(0, vR (some (b0 + 0))), (1, vI x1), (2, vI 0)]) dX12_look_1 rfl (Nat.le_of_ble_eq_true rfl) [1, 2, 0] rfl ?_
  refine ea_iload_n (pc := 2) dX12_look_2 rfl 1 rfl ?_
  by_cases qc1 : Int32.toInt x1 = 0
  · have H := H.1 qc1
    refine ea_tswIn (pc := 3) (tgt := 40) dX12_look_3 (by omega) (by omega) (by rw [qc1]; rfl) rfl ?_
    refine ea_aload_n (pc := 40) dX12_look_40 rfl 0 rfl ?_
    refine ea_getI (pc := 41) dX12_look_41 ec_12 (k := 0) (Nat.le_of_ble_eq_true rfl) rfl (Or.inl ew_1345) (hs_h.1 0 (by decide)).1 (hs_h.1 0 (by decide)).2.1 ?_
    obtain ⟨rfl, rfl⟩ := H
    exact ea_ireturn (pc := 44) dX12_look_44 rfl rfl
  by_cases qc2 : Int32.toInt x1 = 1
  · have H := H.2.1 qc2
    refine ea_tswIn (pc := 3) (tgt := 45) dX12_look_3 (by omega) (by omega) (by rw [qc2]; rfl) rfl ?_
    refine ea_aload_n (pc := 45) dX12_look_45 rfl 0 rfl ?_
    refine ea_getI (pc := 46) dX12_look_46 ec_12 (k := 1) (Nat.le_of_ble_eq_true rfl) rfl (Or.inl ew_1346) (hs_h.1 0 (by decide)).1 (hs_h.1 0 (by decide)).2.1 ?_
    obtain ⟨rfl, rfl⟩ := H
    exact ea_ireturn (pc := 49) dX12_look_49 rfl rfl
  by_cases qc3 : Int32.toInt x1 = 2
  · have H := H.2.2.1 qc3
    refine ea_tswIn (pc := 3) (tgt := 50) dX12_look_3 (by omega) (by omega) (by rw [qc3]; rfl) rfl ?_
    refine ea_aload_n (pc := 50) dX12_look_50 rfl 0 rfl ?_
    refine ea_getI (pc := 51) dX12_look_51 ec_12 (k := 2) (Nat.le_of_ble_eq_true rfl) rfl (Or.inl ew_1347) (hs_h.1 0 (by decide)).1 (hs_h.1 0 (by decide)).2.1 ?_
    obtain ⟨rfl, rfl⟩ := H
    exact ea_ireturn (pc := 54) dX12_look_54 rfl rfl
  by_cases qc4 : Int32.toInt x1 = 3
  · have H := H.2.2.2.1 qc4
    refine ea_tswIn (pc := 3) (tgt := 55) dX12_look_3 (by omega) (by omega) (by rw [qc4]; rfl) rfl ?_
    refine ea_aload_n (pc := 55) dX12_look_55 rfl 0 rfl ?_
    refine ea_getI (pc := 56) dX12_look_56 ec_12 (k := 63) (Nat.le_of_ble_eq_true rfl) rfl (Or.inl ew_1408) (hs_h.1 0 (by decide)).1 (hs_h.1 0 (by decide)).2.1 ?_
    obtain ⟨rfl, rfl⟩ := H
    exact ea_ireturn (pc := 59) dX12_look_59 rfl rfl
  by_cases qc5 : Int32.toInt x1 = 4
  · have H := H.2.2.2.2.1 qc5
    refine ea_tswIn (pc := 3) (tgt := 60) dX12_look_3 (by omega) (by omega) (by rw [qc5]; rfl) rfl ?_
    refine ea_aload_n (pc := 60) dX12_look_60 rfl 0 rfl ?_
    refine ea_getI (pc := 61) dX12_look_61 ec_12 (k := 92) (Nat.le_of_ble_eq_true rfl) rfl (Or.inl ew_1437) (hs_h.1 0 (by decide)).1 (hs_h.1 0 (by decide)).2.1 ?_
    obtain ⟨rfl, rfl⟩ := H
    exact ea_ireturn (pc := 64) dX12_look_64 rfl rfl
  by_cases qc6 : Int32.toInt x1 = 5
  · have H := H.2.2.2.2.2.1 qc6
    refine ea_tswIn (pc := 3) (tgt := 65) dX12_look_3 (by omega) (by omega) (by rw [qc6]; rfl) rfl ?_
    refine ea_aload_n (pc := 65) dX12_look_65 rfl 0 rfl ?_
    refine ea_getI (pc := 66) dX12_look_66 ec_12 (k := 25) (Nat.le_of_ble_eq_true rfl) rfl (Or.inl ew_1370) (hs_h.1 0 (by decide)).1 (hs_h.1 0 (by decide)).2.1 ?_
    obtain ⟨rfl, rfl⟩ := H
    exact ea_ireturn (pc := 69) dX12_look_69 rfl rfl
  have qd : Int32.toInt x1 < 0 ∨ 5 < Int32.toInt x1 := by omega
  have H := H.2.2.2.2.2.2 qd
  refine ea_tswOut (pc := 3) (tgt := 70) dX12_look_3 qd rfl ?_
  refine ea_iload_n (pc := 70) dX12_look_70 rfl 1 rfl ?_
  refine ea_bipush (pc := 71) dX12_look_71 (v := 10) rfl ?_
  refine ea_bipush (pc := 73) dX12_look_73 (v := 16) rfl ?_
  refine ea_callS (pc := 75) (d' := d - 1) (As := [vI x1, vI 10, vI 16]) (st := []) dX12_look_75 kX12_isIn (sX12_isIn (d := d - 1) (by omega)) (by omega) rfl (Nat.le_of_ble_eq_true rfl) ew_1712 ew_1713 ?_
  refine ea_if_ne (pc := 78) (tgt := 83) dX12_look_78 rfl (fun c7 => ?_) (fun c7 => ?_)
  · have H := H.1 c7
    refine ea_iconst (pc := 83) dX12_look_83 (v := 0) rfl ?_
    refine ea_istore_n (pc := 84) (lv' := [(0, vR (some (b0 + 0))), (1, vI x1), (2, vI 0), (3, vI 0)]) dX12_look_84 rfl (Nat.le_of_ble_eq_true rfl) [1, 2, 3, 0] rfl ?_
    exact H
  · have H := H.2 c7
    refine ea_iconst (pc := 81) dX12_look_81 (v := (-1)) rfl ?_
    obtain ⟨rfl, rfl⟩ := H
    exact ea_ireturn (pc := 82) dX12_look_82 rfl rfl
theorem pX12_look_85 {d b0 : Nat} {h0 hE h : ea_H} {rv : Option ea_V} {x1 : Int32} {x2 : Int32} {x3 : Int32} (hd : 2 ≤ d) (hs_h : ShM b0 h) (H : ((ea_i h (b0 + 0) 63) ≤ x3 → rv = some (vI x2) ∧ hE = h) ∧ (¬ (ea_i h (b0 + 0) 63) ≤ x3 → vp_in x3 120 ∧ (¬ (ea_i h (b0 + 55) (Int32.toNatClampNeg x3)) = (x1 - (10 : Int32)) → ea_W mX12_look d h0 rv hE 85 [(0, vR (some (b0 + 0))), (1, vI x1), (2, vI (x2 + (0 : Int32))), (3, vI (x3 + 1))] [] h) ∧ ((ea_i h (b0 + 55) (Int32.toNatClampNeg x3)) = (x1 - (10 : Int32)) → ea_W mX12_look d h0 rv hE 85 [(0, vR (some (b0 + 0))), (1, vI x1), (2, vI (x2 + (1 : Int32))), (3, vI (x3 + 1))] [] h))) : ea_W mX12_look d h0 rv hE 85 [(0, vR (some (b0 + 0))), (1, vI x1), (2, vI x2), (3, vI x3)] [] h := by
  refine ea_iload_n (pc := 85) dX12_look_85 rfl 3 rfl ?_
  refine ea_aload_n (pc := 86) dX12_look_86 rfl 0 rfl ?_
  refine ea_getI (pc := 87) dX12_look_87 ec_12 (k := 63) (Nat.le_of_ble_eq_true rfl) rfl (Or.inl ew_1408) (hs_h.1 0 (by decide)).1 (hs_h.1 0 (by decide)).2.1 ?_
  refine ea_icmp_ge (pc := 90) (tgt := 120) dX12_look_90 rfl (fun c3 => ?_) (fun c3 => ?_)
  · have H := H.1 c3
    refine ea_iload_n (pc := 120) dX12_look_120 rfl 2 rfl ?_
    obtain ⟨rfl, rfl⟩ := H
    exact ea_ireturn (pc := 121) dX12_look_121 rfl rfl
  · have H := H.2 c3
    refine ea_iload_n (pc := 93) dX12_look_93 rfl 2 rfl ?_
    refine ea_aload_n (pc := 94) dX12_look_94 rfl 0 rfl ?_
    refine ea_getR (pc := 95) dX12_look_95 ec_12 (k := 81) (Nat.le_of_ble_eq_true rfl) rfl (Or.inl ew_1426) (hs_h.1 0 (by decide)).1 (hs_h.1 0 (by decide)).2.1 (hs_h.2 0 81 rfl) ?_
    refine ea_iload_n (pc := 98) dX12_look_98 rfl 3 rfl ?_
    obtain ⟨z1, H⟩ := H
    refine ea_iald (pc := 99) dX12_look_99 (hs_h.1 55 (by decide)).1 (hs_h.1 55 (by decide)).2.1 (ea_vpl (hs_h.1 55 (by decide)).2.2 z1) ?_
    refine ea_iload_n (pc := 100) dX12_look_100 rfl 1 rfl ?_
    refine ea_bipush (pc := 101) dX12_look_101 (v := 10) rfl ?_
    refine ea_isub (pc := 103) dX12_look_103 ?_
    refine ea_icmp_ne (pc := 104) (tgt := 111) dX12_look_104 rfl (fun c2 => ?_) (fun c2 => ?_)
    · have H := H.1 c2
      refine ea_iconst (pc := 111) dX12_look_111 (v := 0) rfl ?_
      refine ea_iadd (pc := 112) dX12_look_112 ?_
      refine ea_istore_n (pc := 113) (lv' := [(0, vR (some (b0 + 0))), (1, vI x1), (2, vI (x2 + (0 : Int32))), (3, vI x3)]) dX12_look_113 rfl (Nat.le_of_ble_eq_true rfl) [1, 2, 0, 3] rfl ?_
      refine ea_iinc (pc := 114) (v := 1) (lv' := [(0, vR (some (b0 + 0))), (1, vI x1), (2, vI (x2 + (0 : Int32))), (3, vI (x3 + 1))]) dX12_look_114 3 rfl rfl (Nat.le_of_ble_eq_true rfl) [1, 2, 3, 0] rfl ?_
      refine ea_goto (pc := 117) (tgt := 85) dX12_look_117 rfl ?_
      exact H
    · have H := H.2 c2
      refine ea_iconst (pc := 107) dX12_look_107 (v := 1) rfl ?_
      refine ea_goto (pc := 108) (tgt := 112) dX12_look_108 rfl ?_
      refine ea_iadd (pc := 112) dX12_look_112 ?_
      refine ea_istore_n (pc := 113) (lv' := [(0, vR (some (b0 + 0))), (1, vI x1), (2, vI (x2 + (1 : Int32))), (3, vI x3)]) dX12_look_113 rfl (Nat.le_of_ble_eq_true rfl) [1, 2, 0, 3] rfl ?_
      refine ea_iinc (pc := 114) (v := 1) (lv' := [(0, vR (some (b0 + 0))), (1, vI x1), (2, vI (x2 + (1 : Int32))), (3, vI (x3 + 1))]) dX12_look_114 3 rfl rfl (Nat.le_of_ble_eq_true rfl) [1, 2, 3, 0] rfl ?_
      refine ea_goto (pc := 117) (tgt := 85) dX12_look_117 rfl ?_
      exact H
theorem pX12_run__0 {d b0 : Nat} {h0 hE h : ea_H} {rv : Option ea_V} {x1 : Int32} {x2 : Int32} {x3 : Int32} (hd : 3 ≤ d) (hs_h : ShM b0 h) (H : ((vX12_isTrain b0 (x1 : Int32) h) = (0 : Int32) → rv = some (vI (-1)) ∧ hE = h) ∧ (¬ (vX12_isTrain b0 (x1 : Int32) h) = (0 : Int32) → (¬ (vX12_isDay (x2 : Int32) h) = (0 : Int32) → (Int32.toInt x3 = 0 → ea_W mX12_run_ d h0 rv hE 67 [(0, vR (some (b0 + 0))), (3, vI x3), (4, vI (vX12_run (x1 : Int32) (x2 : Int32) h)), (5, vI 0), (6, vI 0)] [] h) ∧ (Int32.toInt x3 = 1 → ea_W mX12_run_ d h0 rv hE 67 [(0, vR (some (b0 + 0))), (3, vI x3), (4, vI (vX12_run (x1 : Int32) (x2 : Int32) h)), (5, vI 0), (6, vI 0)] [] h) ∧ (Int32.toInt x3 = 2 → ∃ (d93 : Nat) (xc97 : Int32) (h94 : ea_H), ea_Met mX12_gone d93 [vR (some (b0 + 0)), vI (vX12_run (x1 : Int32) (x2 : Int32) h)] h (some (vI xc97)) h94 ∧ d93 + 1 ≤ d ∧ ShM b0 h94 ∧ rv = some (vI xc97) ∧ hE = h94) ∧ (Int32.toInt x3 = 3 → vp_in (vX12_run (x1 : Int32) (x2 : Int32) h) 70 ∧ rv = some (vI (ea_i h (b0 + 60) (Int32.toNatClampNeg (vX12_run (x1 : Int32) (x2 : Int32) h)))) ∧ hE = h) ∧ (Int32.toInt x3 = 4 → vp_in (vX12_run (x1 : Int32) (x2 : Int32) h) 70 ∧ rv = some (vI (ea_i h (b0 + 6) (Int32.toNatClampNeg (vX12_run (x1 : Int32) (x2 : Int32) h)))) ∧ hE = h) ∧ (Int32.toInt x3 < 0 ∨ 4 < Int32.toInt x3 → rv = some (vI (-1)) ∧ hE = h)) ∧ ((vX12_isDay (x2 : Int32) h) = (0 : Int32) → rv = some (vI (-1)) ∧ hE = h))) : ea_W mX12_run_ d h0 rv hE 0 [(0, vR (some (b0 + 0))), (1, vI x1), (2, vI x2), (3, vI x3)] [] h := by
  refine ea_aload_n (pc := 0) dX12_run__0 rfl 0 rfl ?_
  refine ea_iload_n (pc := 1) dX12_run__1 rfl 1 rfl ?_
  refine ea_callV (pc := 2) (d' := d - 1) (As := [vI x1]) (st := []) dX12_run__2 kX12_isTrain (sX12_isTrain (d := d - 1) (by omega) hs_h) (by omega) rfl (Nat.le_of_ble_eq_true rfl) ew_1736 ew_1738 ew_50 (ci := 12) rfl (by decide) (hs_h.1 0 (by decide)).1 (hs_h.1 0 (by decide)).2.1 ?_
  refine ea_if_eq (pc := 5) (tgt := 15) dX12_run__5 rfl (fun c103 => ?_) (fun c103 => ?_)
  · have H := H.1 c103
    refine ea_iconst (pc := 15) dX12_run__15 (v := (-1)) rfl ?_
    obtain ⟨rfl, rfl⟩ := H
    exact ea_ireturn (pc := 16) dX12_run__16 rfl rfl
  · have H := H.2 c103
    refine ea_iload_n (pc := 8) dX12_run__8 rfl 2 rfl ?_
    refine ea_callS (pc := 9) (d' := d - 1) (As := [vI x2]) (st := []) dX12_run__9 kX12_isDay (sX12_isDay (d := d - 1) (by omega)) (by omega) rfl (Nat.le_of_ble_eq_true rfl) ew_1752 ew_1753 ?_
    refine ea_if_ne (pc := 12) (tgt := 17) dX12_run__12 rfl (fun c101 => ?_) (fun c101 => ?_)
    · have H := H.1 c101
      refine ea_iload_n (pc := 17) dX12_run__17 rfl 1 rfl ?_
      refine ea_iload_n (pc := 18) dX12_run__18 rfl 2 rfl ?_
      refine ea_callS (pc := 19) (d' := d - 1) (As := [vI x1, vI x2]) (st := []) dX12_run__19 kX12_run (sX12_run (d := d - 1) (by omega)) (by omega) rfl (Nat.le_of_ble_eq_true rfl) ew_1755 ew_1756 ?_
      refine ea_istore (pc := 22) (lv' := [(0, vR (some (b0 + 0))), (3, vI x3), (4, vI (vX12_run (x1 : Int32) (x2 : Int32) h))]) dX12_run__22 (Nat.le_of_ble_eq_true rfl) [1, 4, 0] rfl ?_
      refine ea_iconst (pc := 24) dX12_run__24 (v := 0) rfl ?_
      refine ea_istore (pc := 25) (lv' := [(0, vR (some (b0 + 0))), (3, vI x3), (4, vI (vX12_run (x1 : Int32) (x2 : Int32) h)), (5, vI 0)]) dX12_run__25 (Nat.le_of_ble_eq_true rfl) [1, 2, 3, 0] rfl ?_
      refine ea_iload_n (pc := 27) dX12_run__27 rfl 1 rfl ?_
      by_cases qc1 : Int32.toInt x3 = 0
      · have H := H.1 qc1
        refine ea_tswIn (pc := 28) (tgt := 64) dX12_run__28 (by omega) (by omega) (by rw [qc1]; rfl) rfl ?_
        refine ea_iconst (pc := 64) dX12_run__64 (v := 0) rfl ?_
        refine ea_istore (pc := 65) (lv' := [(0, vR (some (b0 + 0))), (3, vI x3), (4, vI (vX12_run (x1 : Int32) (x2 : Int32) h)), (5, vI 0), (6, vI 0)]) dX12_run__65 (Nat.le_of_ble_eq_true rfl) [1, 2, 3, 4, 0] rfl ?_
        exact H
      by_cases qc2 : Int32.toInt x3 = 1
      · have H := H.2.1 qc2
        refine ea_tswIn (pc := 28) (tgt := 64) dX12_run__28 (by omega) (by omega) (by rw [qc2]; rfl) rfl ?_
        refine ea_iconst (pc := 64) dX12_run__64 (v := 0) rfl ?_
        refine ea_istore (pc := 65) (lv' := [(0, vR (some (b0 + 0))), (3, vI x3), (4, vI (vX12_run (x1 : Int32) (x2 : Int32) h)), (5, vI 0), (6, vI 0)]) dX12_run__65 (Nat.le_of_ble_eq_true rfl) [1, 2, 3, 4, 0] rfl ?_
        exact H
      by_cases qc3 : Int32.toInt x3 = 2
      · have H := H.2.2.1 qc3
        refine ea_tswIn (pc := 28) (tgt := 126) dX12_run__28 (by omega) (by omega) (by rw [qc3]; rfl) rfl ?_
        refine ea_aload_n (pc := 126) dX12_run__126 rfl 0 rfl ?_
        refine ea_iload (pc := 127) dX12_run__127 2 rfl ?_
        obtain ⟨d93, xc97, h94, m95, q96, hs_h94, H⟩ := H
        refine ea_callV (pc := 129) (As := [vI (vX12_run (x1 : Int32) (x2 : Int32) h)]) (st := []) dX12_run__129 kX12_gone m95 q96 rfl (Nat.le_of_ble_eq_true rfl) ew_2094 ew_2096 ew_99 (ci := 12) rfl (by decide) (hs_h.1 0 (by decide)).1 (hs_h.1 0 (by decide)).2.1 ?_
        obtain ⟨rfl, rfl⟩ := H
        exact ea_ireturn (pc := 132) dX12_run__132 rfl rfl
      by_cases qc4 : Int32.toInt x3 = 3
      · have H := H.2.2.2.1 qc4
        refine ea_tswIn (pc := 28) (tgt := 133) dX12_run__28 (by omega) (by omega) (by rw [qc4]; rfl) rfl ?_
        refine ea_aload_n (pc := 133) dX12_run__133 rfl 0 rfl ?_
        refine ea_getR (pc := 134) dX12_run__134 ec_12 (k := 86) (Nat.le_of_ble_eq_true rfl) rfl (Or.inl ew_1431) (hs_h.1 0 (by decide)).1 (hs_h.1 0 (by decide)).2.1 (hs_h.2 0 86 rfl) ?_
        refine ea_iload (pc := 137) dX12_run__137 2 rfl ?_
        obtain ⟨z98, H⟩ := H
        refine ea_iald (pc := 139) dX12_run__139 (hs_h.1 60 (by decide)).1 (hs_h.1 60 (by decide)).2.1 (ea_vpl (hs_h.1 60 (by decide)).2.2 z98) ?_
        obtain ⟨rfl, rfl⟩ := H
        exact ea_ireturn (pc := 140) dX12_run__140 rfl rfl
      by_cases qc5 : Int32.toInt x3 = 4
      · have H := H.2.2.2.2.1 qc5
        refine ea_tswIn (pc := 28) (tgt := 141) dX12_run__28 (by omega) (by omega) (by rw [qc5]; rfl) rfl ?_
        refine ea_aload_n (pc := 141) dX12_run__141 rfl 0 rfl ?_
        refine ea_getR (pc := 142) dX12_run__142 ec_12 (k := 8) (Nat.le_of_ble_eq_true rfl) rfl (Or.inl ew_1353) (hs_h.1 0 (by decide)).1 (hs_h.1 0 (by decide)).2.1 (hs_h.2 0 8 rfl) ?_
        refine ea_iload (pc := 145) dX12_run__145 2 rfl ?_
        obtain ⟨z99, H⟩ := H
        refine ea_iald (pc := 147) dX12_run__147 (hs_h.1 6 (by decide)).1 (hs_h.1 6 (by decide)).2.1 (ea_vpl (hs_h.1 6 (by decide)).2.2 z99) ?_
        obtain ⟨rfl, rfl⟩ := H
        exact ea_ireturn (pc := 148) dX12_run__148 rfl rfl
      have qd : Int32.toInt x3 < 0 ∨ 4 < Int32.toInt x3 := by omega
      have H := H.2.2.2.2.2 qd
      refine ea_tswOut (pc := 28) (tgt := 149) dX12_run__28 qd rfl ?_
      refine ea_iconst (pc := 149) dX12_run__149 (v := (-1)) rfl ?_
      obtain ⟨rfl, rfl⟩ := H
      exact ea_ireturn (pc := 150) dX12_run__150 rfl rfl
    · have H := H.2 c101
      refine ea_iconst (pc := 15) dX12_run__15 (v := (-1)) rfl ?_
      obtain ⟨rfl, rfl⟩ := H
      exact ea_ireturn (pc := 16) dX12_run__16 rfl rfl
theorem pX12_run__67 {d b0 : Nat} {h0 hE h : ea_H} {rv : Option ea_V} {x3 : Int32} {x4 : Int32} {x5 : Int32} {x6 : Int32} (hd : 3 ≤ d) (hs_h : ShM b0 h) (H : ((ea_i h (b0 + 0) 63) ≤ x6 → rv = some (vI x5) ∧ hE = h) ∧ (¬ (ea_i h (b0 + 0) 63) ≤ x6 → (okX12_isAboard b0 (x6 : Int32) (x4 : Int32) h) ∧ ((vX12_isAboard b0 (x6 : Int32) (x4 : Int32) h) = (0 : Int32) → ea_W mX12_run_ d h0 rv hE 67 [(0, vR (some (b0 + 0))), (3, vI x3), (4, vI x4), (5, vI (x5 + (0 : Int32))), (6, vI (x6 + 1))] [] h) ∧ (¬ (vX12_isAboard b0 (x6 : Int32) (x4 : Int32) h) = (0 : Int32) → vp_in x6 120 ∧ (¬ x3 = (1 : Int32) → ea_W mX12_run_ d h0 rv hE 106 [(0, vR (some (b0 + 0))), (3, vI x3), (4, vI x4), (6, vI x6)] [vI 0, vI (ea_i h (b0 + 61) (Int32.toNatClampNeg x6)), vI x5] h) ∧ (x3 = (1 : Int32) → ea_W mX12_run_ d h0 rv hE 106 [(0, vR (some (b0 + 0))), (3, vI x3), (4, vI x4), (6, vI x6)] [vI 1, vI (ea_i h (b0 + 61) (Int32.toNatClampNeg x6)), vI x5] h)))) : ea_W mX12_run_ d h0 rv hE 67 [(0, vR (some (b0 + 0))), (3, vI x3), (4, vI x4), (5, vI x5), (6, vI x6)] [] h := by
  refine ea_iload (pc := 67) dX12_run__67 4 rfl ?_
  refine ea_aload_n (pc := 69) dX12_run__69 rfl 0 rfl ?_
  refine ea_getI (pc := 70) dX12_run__70 ec_12 (k := 63) (Nat.le_of_ble_eq_true rfl) rfl (Or.inl ew_1408) (hs_h.1 0 (by decide)).1 (hs_h.1 0 (by decide)).2.1 ?_
  refine ea_icmp_ge (pc := 73) (tgt := 123) dX12_run__73 rfl (fun c13 => ?_) (fun c13 => ?_)
  · have H := H.1 c13
    refine ea_iload (pc := 123) dX12_run__123 3 rfl ?_
    obtain ⟨rfl, rfl⟩ := H
    exact ea_ireturn (pc := 125) dX12_run__125 rfl rfl
  · have H := H.2 c13
    refine ea_iload (pc := 76) dX12_run__76 3 rfl ?_
    refine ea_aload_n (pc := 78) dX12_run__78 rfl 0 rfl ?_
    refine ea_iload (pc := 79) dX12_run__79 4 rfl ?_
    refine ea_iload (pc := 81) dX12_run__81 2 rfl ?_
    obtain ⟨z12, H⟩ := H
    refine ea_callV (pc := 83) (d' := d - 1) (As := [vI x6, vI x4]) (st := [vI x5]) dX12_run__83 kX12_isAboard (sX12_isAboard (d := d - 1) (by omega) hs_h z12) (by omega) rfl (Nat.le_of_ble_eq_true rfl) ew_2067 ew_2069 ew_95 (ci := 12) rfl (by decide) (hs_h.1 0 (by decide)).1 (hs_h.1 0 (by decide)).2.1 ?_
    refine ea_if_eq (pc := 86) (tgt := 113) dX12_run__86 rfl (fun c11 => ?_) (fun c11 => ?_)
    · have H := H.1 c11
      refine ea_iconst (pc := 113) dX12_run__113 (v := 0) rfl ?_
      refine ea_iadd (pc := 114) dX12_run__114 ?_
      refine ea_istore (pc := 115) (lv' := [(0, vR (some (b0 + 0))), (3, vI x3), (4, vI x4), (5, vI (x5 + (0 : Int32))), (6, vI x6)]) dX12_run__115 (Nat.le_of_ble_eq_true rfl) [1, 2, 3, 0, 4] rfl ?_
      refine ea_iinc (pc := 117) (v := 1) (lv' := [(0, vR (some (b0 + 0))), (3, vI x3), (4, vI x4), (5, vI (x5 + (0 : Int32))), (6, vI (x6 + 1))]) dX12_run__117 4 rfl rfl (Nat.le_of_ble_eq_true rfl) [1, 2, 3, 4, 0] rfl ?_
      refine ea_goto (pc := 120) (tgt := 67) dX12_run__120 rfl ?_
      exact H
    · have H := H.2 c11
      refine ea_aload_n (pc := 89) dX12_run__89 rfl 0 rfl ?_
      refine ea_getR (pc := 90) dX12_run__90 ec_12 (k := 87) (Nat.le_of_ble_eq_true rfl) rfl (Or.inl ew_1432) (hs_h.1 0 (by decide)).1 (hs_h.1 0 (by decide)).2.1 (hs_h.2 0 87 rfl) ?_
      refine ea_iload (pc := 93) dX12_run__93 4 rfl ?_
      obtain ⟨z9, H⟩ := H
      refine ea_zald (pc := 95) dX12_run__95 (hs_h.1 61 (by decide)).1 (hs_h.1 61 (by decide)).2.1 (ea_vpl (hs_h.1 61 (by decide)).2.2 z9) ?_
      refine ea_iload_n (pc := 96) dX12_run__96 rfl 1 rfl ?_
      refine ea_iconst (pc := 97) dX12_run__97 (v := 1) rfl ?_
      refine ea_icmp_ne (pc := 98) (tgt := 105) dX12_run__98 rfl (fun c10 => ?_) (fun c10 => ?_)
      · have H := H.1 c10
        refine ea_iconst (pc := 105) dX12_run__105 (v := 0) rfl ?_
        exact ea_fewer [0, 1, 2, 4] rfl H
      · have H := H.2 c10
        refine ea_iconst (pc := 101) dX12_run__101 (v := 1) rfl ?_
        refine ea_goto (pc := 102) (tgt := 106) dX12_run__102 rfl ?_
        exact ea_fewer [0, 1, 2, 4] rfl H
theorem pX12_run__106 {d b0 : Nat} {h0 hE h : ea_H} {rv : Option ea_V} {x3 : Int32} {x4 : Int32} {x6 : Int32} {sx0 : Int32} {sx1 : Int32} {sx2 : Int32} (hd : 3 ≤ d) (hs_h : ShM b0 h) (H : (¬ sx1 = sx0 → ea_W mX12_run_ d h0 rv hE 67 [(0, vR (some (b0 + 0))), (3, vI x3), (4, vI x4), (5, vI (sx2 + (0 : Int32))), (6, vI (x6 + 1))] [] h) ∧ (sx1 = sx0 → ea_W mX12_run_ d h0 rv hE 67 [(0, vR (some (b0 + 0))), (3, vI x3), (4, vI x4), (5, vI (sx2 + (1 : Int32))), (6, vI (x6 + 1))] [] h)) : ea_W mX12_run_ d h0 rv hE 106 [(0, vR (some (b0 + 0))), (3, vI x3), (4, vI x4), (6, vI x6)] [vI sx0, vI sx1, vI sx2] h := by
  refine ea_icmp_ne (pc := 106) (tgt := 113) dX12_run__106 rfl (fun c1 => ?_) (fun c1 => ?_)
  · have H := H.1 c1
    refine ea_iconst (pc := 113) dX12_run__113 (v := 0) rfl ?_
    refine ea_iadd (pc := 114) dX12_run__114 ?_
    refine ea_istore (pc := 115) (lv' := [(0, vR (some (b0 + 0))), (3, vI x3), (4, vI x4), (5, vI (sx2 + (0 : Int32))), (6, vI x6)]) dX12_run__115 (Nat.le_of_ble_eq_true rfl) [1, 2, 3, 0, 4] rfl ?_
    refine ea_iinc (pc := 117) (v := 1) (lv' := [(0, vR (some (b0 + 0))), (3, vI x3), (4, vI x4), (5, vI (sx2 + (0 : Int32))), (6, vI (x6 + 1))]) dX12_run__117 4 rfl rfl (Nat.le_of_ble_eq_true rfl) [1, 2, 3, 4, 0] rfl ?_
    refine ea_goto (pc := 120) (tgt := 67) dX12_run__120 rfl ?_
    exact H
  · have H := H.2 c1
    refine ea_iconst (pc := 109) dX12_run__109 (v := 1) rfl ?_
    refine ea_goto (pc := 110) (tgt := 114) dX12_run__110 rfl ?_
    refine ea_iadd (pc := 114) dX12_run__114 ?_
    refine ea_istore (pc := 115) (lv' := [(0, vR (some (b0 + 0))), (3, vI x3), (4, vI x4), (5, vI (sx2 + (1 : Int32))), (6, vI x6)]) dX12_run__115 (Nat.le_of_ble_eq_true rfl) [1, 2, 3, 0, 4] rfl ?_
    refine ea_iinc (pc := 117) (v := 1) (lv' := [(0, vR (some (b0 + 0))), (3, vI x3), (4, vI x4), (5, vI (sx2 + (1 : Int32))), (6, vI (x6 + 1))]) dX12_run__117 4 rfl rfl (Nat.le_of_ble_eq_true rfl) [1, 2, 3, 4, 0] rfl ?_
    refine ea_goto (pc := 120) (tgt := 67) dX12_run__120 rfl ?_
    exact H
theorem pX12_gone_0 {d b0 : Nat} {h0 hE h : ea_H} {rv : Option ea_V} {x1 : Int32} (hd : 2 ≤ d) (hs_h : ShM b0 h) (H : ea_W mX12_gone d h0 rv hE 2 [(0, vR (some (b0 + 0))), (1, vI x1), (2, vI (-1))] [] h) : ea_W mX12_gone d h0 rv hE 0 [(0, vR (some (b0 + 0))), (1, vI x1)] [] h := by
  refine ea_iconst (pc := 0) dX12_gone_0 (v := (-1)) rfl ?_
  refine ea_istore_n (pc := 1) (lv' := [(0, vR (some (b0 + 0))), (1, vI x1), (2, vI (-1))]) dX12_gone_1 rfl (Nat.le_of_ble_eq_true rfl) [1, 2, 0] rfl ?_
  exact H
theorem pX12_gone_2 {d b0 : Nat} {h0 hE h : ea_H} {rv : Option ea_V} {x1 : Int32} {x2 : Int32} (hd : 2 ≤ d) (hs_h : ShM b0 h) (H : vp_in (x1 / (7 : Int32)) 10 ∧ ((ea_i h (b0 + 2) (Int32.toNatClampNeg (x1 / (7 : Int32)))) ≤ (x2 + (2 : Int32)) → rv = some (vI x2) ∧ hE = h) ∧ (¬ (ea_i h (b0 + 2) (Int32.toNatClampNeg (x1 / (7 : Int32)))) ≤ (x2 + (2 : Int32)) → (okX12_goesAt b0 (x1 : Int32) ((x2 + (1 : Int32)) : Int32) h) ∧ ((ea_i h (b0 + 0) 0) < (vX12_goesAt b0 (x1 : Int32) ((x2 + (1 : Int32)) : Int32) h) → rv = some (vI x2) ∧ hE = h) ∧ (¬ (ea_i h (b0 + 0) 0) < (vX12_goesAt b0 (x1 : Int32) ((x2 + (1 : Int32)) : Int32) h) → ea_W mX12_gone d h0 rv hE 2 [(0, vR (some (b0 + 0))), (1, vI x1), (2, vI (x2 + 1))] [] h))) : ea_W mX12_gone d h0 rv hE 2 [(0, vR (some (b0 + 0))), (1, vI x1), (2, vI x2)] [] h := by
  refine ea_iload_n (pc := 2) dX12_gone_2 rfl 2 rfl ?_
  refine ea_iconst (pc := 3) dX12_gone_3 (v := 2) rfl ?_
  refine ea_iadd (pc := 4) dX12_gone_4 ?_
  refine ea_aload_n (pc := 5) dX12_gone_5 rfl 0 rfl ?_
  refine ea_getR (pc := 6) dX12_gone_6 ec_12 (k := 4) (Nat.le_of_ble_eq_true rfl) rfl (Or.inl ew_1349) (hs_h.1 0 (by decide)).1 (hs_h.1 0 (by decide)).2.1 (hs_h.2 0 4 rfl) ?_
  refine ea_iload_n (pc := 9) dX12_gone_9 rfl 1 rfl ?_
  refine ea_bipush (pc := 10) dX12_gone_10 (v := 7) rfl ?_
  refine ea_idiv (pc := 12) dX12_gone_12 (by decide) ?_
  obtain ⟨z1, H⟩ := H
  refine ea_iald (pc := 13) dX12_gone_13 (hs_h.1 2 (by decide)).1 (hs_h.1 2 (by decide)).2.1 (ea_vpl (hs_h.1 2 (by decide)).2.2 z1) ?_
  refine ea_icmp_ge (pc := 14) (tgt := 38) dX12_gone_14 rfl (fun c10 => ?_) (fun c10 => ?_)
  · have H := H.1 c10
    refine ea_iload_n (pc := 38) dX12_gone_38 rfl 2 rfl ?_
    obtain ⟨rfl, rfl⟩ := H
    exact ea_ireturn (pc := 39) dX12_gone_39 rfl rfl
  · have H := H.2 c10
    refine ea_aload_n (pc := 17) dX12_gone_17 rfl 0 rfl ?_
    refine ea_iload_n (pc := 18) dX12_gone_18 rfl 1 rfl ?_
    refine ea_iload_n (pc := 19) dX12_gone_19 rfl 2 rfl ?_
    refine ea_iconst (pc := 20) dX12_gone_20 (v := 1) rfl ?_
    refine ea_iadd (pc := 21) dX12_gone_21 ?_
    obtain ⟨z9, H⟩ := H
    refine ea_callV (pc := 22) (d' := d - 1) (As := [vI x1, vI (x2 + (1 : Int32))]) (st := []) dX12_gone_22 kX12_goesAt (sX12_goesAt (d := d - 1) (by omega) hs_h z9) (by omega) rfl (Nat.le_of_ble_eq_true rfl) ew_1786 ew_1788 ew_57 (ci := 12) rfl (by decide) (hs_h.1 0 (by decide)).1 (hs_h.1 0 (by decide)).2.1 ?_
    refine ea_aload_n (pc := 25) dX12_gone_25 rfl 0 rfl ?_
    refine ea_getI (pc := 26) dX12_gone_26 ec_12 (k := 0) (Nat.le_of_ble_eq_true rfl) rfl (Or.inl ew_1345) (hs_h.1 0 (by decide)).1 (hs_h.1 0 (by decide)).2.1 ?_
    refine ea_icmp_gt (pc := 29) (tgt := 38) dX12_gone_29 rfl (fun c8 => ?_) (fun c8 => ?_)
    · have H := H.1 c8
      refine ea_iload_n (pc := 38) dX12_gone_38 rfl 2 rfl ?_
      obtain ⟨rfl, rfl⟩ := H
      exact ea_ireturn (pc := 39) dX12_gone_39 rfl rfl
    · have H := H.2 c8
      refine ea_iinc (pc := 32) (v := 1) (lv' := [(0, vR (some (b0 + 0))), (1, vI x1), (2, vI (x2 + 1))]) dX12_gone_32 2 rfl rfl (Nat.le_of_ble_eq_true rfl) [1, 2, 0] rfl ?_
      refine ea_goto (pc := 35) (tgt := 2) dX12_gone_35 rfl ?_
      exact H
theorem pX12_account_0 {d b0 : Nat} {h0 hE h : ea_H} {rv : Option ea_V} {x1 : Int32} {x2 : Int32} {x3 : Int32} (hd : 3 ≤ d) (hs_h : ShM b0 h) (H : ((vX12_isTown b0 (x1 : Int32) h) = (0 : Int32) → rv = some (vI (-1)) ∧ hE = h) ∧ (¬ (vX12_isTown b0 (x1 : Int32) h) = (0 : Int32) → ((vX12_isTown b0 (x2 : Int32) h) = (0 : Int32) → rv = some (vI (-1)) ∧ hE = h) ∧ (¬ (vX12_isTown b0 (x2 : Int32) h) = (0 : Int32) → (¬ x1 = x2 → ea_W mX12_account d h0 rv hE 38 [(0, vR (some (b0 + 0))), (1, vI x1), (2, vI x2), (3, vI x3), (4, vI 0), (5, vI 0), (6, vI 0), (7, vI (-1)), (8, vI 0)] [] h) ∧ (x1 = x2 → rv = some (vI (-1)) ∧ hE = h)))) : ea_W mX12_account d h0 rv hE 0 [(0, vR (some (b0 + 0))), (1, vI x1), (2, vI x2), (3, vI x3)] [] h := by
  refine ea_aload_n (pc := 0) dX12_account_0 rfl 0 rfl ?_
  refine ea_iload_n (pc := 1) dX12_account_1 rfl 1 rfl ?_
  refine ea_callV (pc := 2) (d' := d - 1) (As := [vI x1]) (st := []) dX12_account_2 kX12_isTown (sX12_isTown (d := d - 1) (by omega) hs_h) (by omega) rfl (Nat.le_of_ble_eq_true rfl) ew_1708 ew_1710 ew_47 (ci := 12) rfl (by decide) (hs_h.1 0 (by decide)).1 (hs_h.1 0 (by decide)).2.1 ?_
  refine ea_if_eq (pc := 5) (tgt := 21) dX12_account_5 rfl (fun c27 => ?_) (fun c27 => ?_)
  · have H := H.1 c27
    refine ea_iconst (pc := 21) dX12_account_21 (v := (-1)) rfl ?_
    obtain ⟨rfl, rfl⟩ := H
    exact ea_ireturn (pc := 22) dX12_account_22 rfl rfl
  · have H := H.2 c27
    refine ea_aload_n (pc := 8) dX12_account_8 rfl 0 rfl ?_
    refine ea_iload_n (pc := 9) dX12_account_9 rfl 2 rfl ?_
    refine ea_callV (pc := 10) (d' := d - 1) (As := [vI x2]) (st := []) dX12_account_10 kX12_isTown (sX12_isTown (d := d - 1) (by omega) hs_h) (by omega) rfl (Nat.le_of_ble_eq_true rfl) ew_1708 ew_1710 ew_47 (ci := 12) rfl (by decide) (hs_h.1 0 (by decide)).1 (hs_h.1 0 (by decide)).2.1 ?_
    refine ea_if_eq (pc := 13) (tgt := 21) dX12_account_13 rfl (fun c25 => ?_) (fun c25 => ?_)
    · have H := H.1 c25
      refine ea_iconst (pc := 21) dX12_account_21 (v := (-1)) rfl ?_
      obtain ⟨rfl, rfl⟩ := H
      exact ea_ireturn (pc := 22) dX12_account_22 rfl rfl
    · have H := H.2 c25
      refine ea_iload_n (pc := 16) dX12_account_16 rfl 1 rfl ?_
      refine ea_iload_n (pc := 17) dX12_account_17 rfl 2 rfl ?_
      refine ea_icmp_ne (pc := 18) (tgt := 23) dX12_account_18 rfl (fun c24 => ?_) (fun c24 => ?_)
      · have H := H.1 c24
        refine ea_iconst (pc := 23) dX12_account_23 (v := 0) rfl ?_
        refine ea_istore (pc := 24) (lv' := [(0, vR (some (b0 + 0))), (1, vI x1), (2, vI x2), (3, vI x3), (4, vI 0)]) dX12_account_24 (Nat.le_of_ble_eq_true rfl) [1, 2, 3, 4, 0] rfl ?_
        refine ea_iconst (pc := 26) dX12_account_26 (v := 0) rfl ?_
        refine ea_istore (pc := 27) (lv' := [(0, vR (some (b0 + 0))), (1, vI x1), (2, vI x2), (3, vI x3), (4, vI 0), (5, vI 0)]) dX12_account_27 (Nat.le_of_ble_eq_true rfl) [1, 2, 3, 4, 5, 0] rfl ?_
        refine ea_iconst (pc := 29) dX12_account_29 (v := 0) rfl ?_
        refine ea_istore (pc := 30) (lv' := [(0, vR (some (b0 + 0))), (1, vI x1), (2, vI x2), (3, vI x3), (4, vI 0), (5, vI 0), (6, vI 0)]) dX12_account_30 (Nat.le_of_ble_eq_true rfl) [1, 2, 3, 4, 5, 6, 0] rfl ?_
        refine ea_iconst (pc := 32) dX12_account_32 (v := (-1)) rfl ?_
        refine ea_istore (pc := 33) (lv' := [(0, vR (some (b0 + 0))), (1, vI x1), (2, vI x2), (3, vI x3), (4, vI 0), (5, vI 0), (6, vI 0), (7, vI (-1))]) dX12_account_33 (Nat.le_of_ble_eq_true rfl) [1, 2, 3, 4, 5, 6, 7, 0] rfl ?_
        refine ea_iconst (pc := 35) dX12_account_35 (v := 0) rfl ?_
        refine ea_istore (pc := 36) (lv' := [(0, vR (some (b0 + 0))), (1, vI x1), (2, vI x2), (3, vI x3), (4, vI 0), (5, vI 0), (6, vI 0), (7, vI (-1)), (8, vI 0)]) dX12_account_36 (Nat.le_of_ble_eq_true rfl) [1, 2, 3, 4, 5, 6, 7, 8, 0] rfl ?_
        exact H
      · have H := H.2 c24
        refine ea_iconst (pc := 21) dX12_account_21 (v := (-1)) rfl ?_
        obtain ⟨rfl, rfl⟩ := H
        exact ea_ireturn (pc := 22) dX12_account_22 rfl rfl
theorem pX12_account_38 {d b0 : Nat} {h0 hE h : ea_H} {rv : Option ea_V} {x1 : Int32} {x2 : Int32} {x3 : Int32} {x4 : Int32} {x5 : Int32} {x6 : Int32} {x7 : Int32} {x8 : Int32} (hd : 3 ≤ d) (hs_h : ShM b0 h) (H : ((ea_i h (b0 + 0) 63) ≤ x8 → (¬ x3 = (0 : Int32) → (¬ x3 = (1 : Int32) → (¬ x3 = (2 : Int32) → rv = some (vI x7) ∧ hE = h) ∧ (x3 = (2 : Int32) → rv = some (vI x6) ∧ hE = h)) ∧ (x3 = (1 : Int32) → rv = some (vI x5) ∧ hE = h)) ∧ (x3 = (0 : Int32) → rv = some (vI x4) ∧ hE = h)) ∧ (¬ (ea_i h (b0 + 0) 63) ≤ x8 → (okX12_isOf b0 (x8 : Int32) (x1 : Int32) (x2 : Int32) h) ∧ (¬ (vX12_isOf b0 (x8 : Int32) (x1 : Int32) (x2 : Int32) h) = (0 : Int32) → (okX12_owed b0 (x8 : Int32) h) ∧ vp_in x8 120 ∧ (¬ (ea_i h (b0 + 55) (Int32.toNatClampNeg x8)) = (2 : Int32) → (okX12_owed b0 (x8 : Int32) h) ∧ ((vX12_owed b0 (x8 : Int32) h) ≤ (0 : Int32) → ea_W mX12_account d h0 rv hE 38 [(0, vR (some (b0 + 0))), (1, vI x1), (2, vI x2), (3, vI x3), (4, vI (x4 + (vX12_owed b0 (x8 : Int32) h))), (5, vI x5), (6, vI x6), (7, vI x7), (8, vI (x8 + 1))] [] h) ∧ (¬ (vX12_owed b0 (x8 : Int32) h) ≤ (0 : Int32) → (¬ x6 = (x3 - (10 : Int32)) → ea_W mX12_account d h0 rv hE 38 [(0, vR (some (b0 + 0))), (1, vI x1), (2, vI x2), (3, vI x3), (4, vI (x4 + (vX12_owed b0 (x8 : Int32) h))), (5, vI x5), (6, vI (x6 + 1)), (7, vI x7), (8, vI (x8 + 1))] [] h) ∧ (x6 = (x3 - (10 : Int32)) → ea_W mX12_account d h0 rv hE 38 [(0, vR (some (b0 + 0))), (1, vI x1), (2, vI x2), (3, vI x3), (4, vI (x4 + (vX12_owed b0 (x8 : Int32) h))), (5, vI x5), (6, vI (x6 + 1)), (7, vI x8), (8, vI (x8 + 1))] [] h))) ∧ ((ea_i h (b0 + 55) (Int32.toNatClampNeg x8)) = (2 : Int32) → (okX12_owed b0 (x8 : Int32) h) ∧ ea_W mX12_account d h0 rv hE 38 [(0, vR (some (b0 + 0))), (1, vI x1), (2, vI x2), (3, vI x3), (4, vI (x4 + (vX12_owed b0 (x8 : Int32) h))), (5, vI (x5 + (vX12_owed b0 (x8 : Int32) h))), (6, vI x6), (7, vI x7), (8, vI (x8 + 1))] [] h)) ∧ ((vX12_isOf b0 (x8 : Int32) (x1 : Int32) (x2 : Int32) h) = (0 : Int32) → ea_W mX12_account d h0 rv hE 38 [(0, vR (some (b0 + 0))), (1, vI x1), (2, vI x2), (3, vI x3), (4, vI x4), (5, vI x5), (6, vI x6), (7, vI x7), (8, vI (x8 + 1))] [] h))) : ea_W mX12_account d h0 rv hE 38 [(0, vR (some (b0 + 0))), (1, vI x1), (2, vI x2), (3, vI x3), (4, vI x4), (5, vI x5), (6, vI x6), (7, vI x7), (8, vI x8)] [] h := by
  refine ea_iload (pc := 38) dX12_account_38 8 rfl ?_
  refine ea_aload_n (pc := 40) dX12_account_40 rfl 0 rfl ?_
  refine ea_getI (pc := 41) dX12_account_41 ec_12 (k := 63) (Nat.le_of_ble_eq_true rfl) rfl (Or.inl ew_1408) (hs_h.1 0 (by decide)).1 (hs_h.1 0 (by decide)).2.1 ?_
  refine ea_icmp_ge (pc := 44) (tgt := 128) dX12_account_44 rfl (fun c96 => ?_) (fun c96 => ?_)
  · have H := H.1 c96
    refine ea_iload_n (pc := 128) dX12_account_128 rfl 3 rfl ?_
    refine ea_if_ne (pc := 129) (tgt := 137) dX12_account_129 rfl (fun c3 => ?_) (fun c3 => ?_)
    · have H := H.1 c3
      refine ea_iload_n (pc := 137) dX12_account_137 rfl 3 rfl ?_
      refine ea_iconst (pc := 138) dX12_account_138 (v := 1) rfl ?_
      refine ea_icmp_ne (pc := 139) (tgt := 147) dX12_account_139 rfl (fun c2 => ?_) (fun c2 => ?_)
      · have H := H.1 c2
        refine ea_iload_n (pc := 147) dX12_account_147 rfl 3 rfl ?_
        refine ea_iconst (pc := 148) dX12_account_148 (v := 2) rfl ?_
        refine ea_icmp_ne (pc := 149) (tgt := 157) dX12_account_149 rfl (fun c1 => ?_) (fun c1 => ?_)
        · have H := H.1 c1
          refine ea_iload (pc := 157) dX12_account_157 7 rfl ?_
          obtain ⟨rfl, rfl⟩ := H
          exact ea_ireturn (pc := 159) dX12_account_159 rfl rfl
        · have H := H.2 c1
          refine ea_iload (pc := 152) dX12_account_152 6 rfl ?_
          refine ea_goto (pc := 154) (tgt := 159) dX12_account_154 rfl ?_
          obtain ⟨rfl, rfl⟩ := H
          exact ea_ireturn (pc := 159) dX12_account_159 rfl rfl
      · have H := H.2 c2
        refine ea_iload (pc := 142) dX12_account_142 5 rfl ?_
        refine ea_goto (pc := 144) (tgt := 159) dX12_account_144 rfl ?_
        obtain ⟨rfl, rfl⟩ := H
        exact ea_ireturn (pc := 159) dX12_account_159 rfl rfl
    · have H := H.2 c3
      refine ea_iload (pc := 132) dX12_account_132 4 rfl ?_
      refine ea_goto (pc := 134) (tgt := 159) dX12_account_134 rfl ?_
      obtain ⟨rfl, rfl⟩ := H
      exact ea_ireturn (pc := 159) dX12_account_159 rfl rfl
  · have H := H.2 c96
    refine ea_aload_n (pc := 47) dX12_account_47 rfl 0 rfl ?_
    refine ea_iload (pc := 48) dX12_account_48 8 rfl ?_
    refine ea_iload_n (pc := 50) dX12_account_50 rfl 1 rfl ?_
    refine ea_iload_n (pc := 51) dX12_account_51 rfl 2 rfl ?_
    obtain ⟨z95, H⟩ := H
    refine ea_callV (pc := 52) (d' := d - 1) (As := [vI x8, vI x1, vI x2]) (st := []) dX12_account_52 kX12_isOf (sX12_isOf (d := d - 1) (by omega) hs_h z95) (by omega) rfl (Nat.le_of_ble_eq_true rfl) ew_2102 ew_2104 ew_100 (ci := 12) rfl (by decide) (hs_h.1 0 (by decide)).1 (hs_h.1 0 (by decide)).2.1 ?_
    refine ea_if_ne (pc := 55) (tgt := 61) dX12_account_55 rfl (fun c94 => ?_) (fun c94 => ?_)
    · have H := H.1 c94
      refine ea_iload (pc := 61) dX12_account_61 4 rfl ?_
      refine ea_aload_n (pc := 63) dX12_account_63 rfl 0 rfl ?_
      refine ea_iload (pc := 64) dX12_account_64 8 rfl ?_
      obtain ⟨z93, H⟩ := H
      refine ea_callV (pc := 66) (d' := d - 1) (As := [vI x8]) (st := [vI x4]) dX12_account_66 kX12_owed (sX12_owed (d := d - 1) (by omega) hs_h z93) (by omega) rfl (Nat.le_of_ble_eq_true rfl) ew_2027 ew_2029 ew_90 (ci := 12) rfl (by decide) (hs_h.1 0 (by decide)).1 (hs_h.1 0 (by decide)).2.1 ?_
      refine ea_iadd (pc := 69) dX12_account_69 ?_
      refine ea_istore (pc := 70) (lv' := [(0, vR (some (b0 + 0))), (1, vI x1), (2, vI x2), (3, vI x3), (4, vI (x4 + (vX12_owed b0 (x8 : Int32) h))), (5, vI x5), (6, vI x6), (7, vI x7), (8, vI x8)]) dX12_account_70 (Nat.le_of_ble_eq_true rfl) [1, 2, 3, 4, 0, 5, 6, 7, 8] rfl ?_
      refine ea_aload_n (pc := 72) dX12_account_72 rfl 0 rfl ?_
      refine ea_getR (pc := 73) dX12_account_73 ec_12 (k := 81) (Nat.le_of_ble_eq_true rfl) rfl (Or.inl ew_1426) (hs_h.1 0 (by decide)).1 (hs_h.1 0 (by decide)).2.1 (hs_h.2 0 81 rfl) ?_
      refine ea_iload (pc := 76) dX12_account_76 8 rfl ?_
      obtain ⟨z75, H⟩ := H
      refine ea_iald (pc := 78) dX12_account_78 (hs_h.1 55 (by decide)).1 (hs_h.1 55 (by decide)).2.1 (ea_vpl (hs_h.1 55 (by decide)).2.2 z75) ?_
      refine ea_iconst (pc := 79) dX12_account_79 (v := 2) rfl ?_
      refine ea_icmp_ne (pc := 80) (tgt := 97) dX12_account_80 rfl (fun c92 => ?_) (fun c92 => ?_)
      · have H := H.1 c92
        refine ea_aload_n (pc := 97) dX12_account_97 rfl 0 rfl ?_
        refine ea_iload (pc := 98) dX12_account_98 8 rfl ?_
        obtain ⟨z85, H⟩ := H
        refine ea_callV (pc := 100) (d' := d - 1) (As := [vI x8]) (st := []) dX12_account_100 kX12_owed (sX12_owed (d := d - 1) (by omega) hs_h z85) (by omega) rfl (Nat.le_of_ble_eq_true rfl) ew_2027 ew_2029 ew_90 (ci := 12) rfl (by decide) (hs_h.1 0 (by decide)).1 (hs_h.1 0 (by decide)).2.1 ?_
        refine ea_if_le (pc := 103) (tgt := 122) dX12_account_103 rfl (fun c84 => ?_) (fun c84 => ?_)
        · have H := H.1 c84
          refine ea_iinc (pc := 122) (v := 1) (lv' := [(0, vR (some (b0 + 0))), (1, vI x1), (2, vI x2), (3, vI x3), (4, vI (x4 + (vX12_owed b0 (x8 : Int32) h))), (5, vI x5), (6, vI x6), (7, vI x7), (8, vI (x8 + 1))]) dX12_account_122 8 rfl rfl (Nat.le_of_ble_eq_true rfl) [1, 2, 3, 4, 5, 6, 7, 8, 0] rfl ?_
          refine ea_goto (pc := 125) (tgt := 38) dX12_account_125 rfl ?_
          exact H
        · have H := H.2 c84
          refine ea_iload (pc := 106) dX12_account_106 6 rfl ?_
          refine ea_iload_n (pc := 108) dX12_account_108 rfl 3 rfl ?_
          refine ea_bipush (pc := 109) dX12_account_109 (v := 10) rfl ?_
          refine ea_isub (pc := 111) dX12_account_111 ?_
          refine ea_icmp_ne (pc := 112) (tgt := 119) dX12_account_112 rfl (fun c83 => ?_) (fun c83 => ?_)
          · have H := H.1 c83
            refine ea_iinc (pc := 119) (v := 1) (lv' := [(0, vR (some (b0 + 0))), (1, vI x1), (2, vI x2), (3, vI x3), (4, vI (x4 + (vX12_owed b0 (x8 : Int32) h))), (5, vI x5), (6, vI (x6 + 1)), (7, vI x7), (8, vI x8)]) dX12_account_119 6 rfl rfl (Nat.le_of_ble_eq_true rfl) [1, 2, 3, 4, 5, 6, 0, 7, 8] rfl ?_
            refine ea_iinc (pc := 122) (v := 1) (lv' := [(0, vR (some (b0 + 0))), (1, vI x1), (2, vI x2), (3, vI x3), (4, vI (x4 + (vX12_owed b0 (x8 : Int32) h))), (5, vI x5), (6, vI (x6 + 1)), (7, vI x7), (8, vI (x8 + 1))]) dX12_account_122 8 rfl rfl (Nat.le_of_ble_eq_true rfl) [1, 2, 3, 4, 5, 6, 7, 8, 0] rfl ?_
            refine ea_goto (pc := 125) (tgt := 38) dX12_account_125 rfl ?_
            exact H
          · have H := H.2 c83
            refine ea_iload (pc := 115) dX12_account_115 8 rfl ?_
            refine ea_istore (pc := 117) (lv' := [(0, vR (some (b0 + 0))), (1, vI x1), (2, vI x2), (3, vI x3), (4, vI (x4 + (vX12_owed b0 (x8 : Int32) h))), (5, vI x5), (6, vI x6), (7, vI x8), (8, vI x8)]) dX12_account_117 (Nat.le_of_ble_eq_true rfl) [1, 2, 3, 4, 5, 6, 7, 0, 8] rfl ?_
            refine ea_iinc (pc := 119) (v := 1) (lv' := [(0, vR (some (b0 + 0))), (1, vI x1), (2, vI x2), (3, vI x3), (4, vI (x4 + (vX12_owed b0 (x8 : Int32) h))), (5, vI x5), (6, vI (x6 + 1)), (7, vI x8), (8, vI x8)]) dX12_account_119 6 rfl rfl (Nat.le_of_ble_eq_true rfl) [1, 2, 3, 4, 5, 6, 0, 7, 8] rfl ?_
            refine ea_iinc (pc := 122) (v := 1) (lv' := [(0, vR (some (b0 + 0))), (1, vI x1), (2, vI x2), (3, vI x3), (4, vI (x4 + (vX12_owed b0 (x8 : Int32) h))), (5, vI x5), (6, vI (x6 + 1)), (7, vI x8), (8, vI (x8 + 1))]) dX12_account_122 8 rfl rfl (Nat.le_of_ble_eq_true rfl) [1, 2, 3, 4, 5, 6, 7, 8, 0] rfl ?_
            refine ea_goto (pc := 125) (tgt := 38) dX12_account_125 rfl ?_
            exact H
      · have H := H.2 c92
        refine ea_iload (pc := 83) dX12_account_83 5 rfl ?_
        refine ea_aload_n (pc := 85) dX12_account_85 rfl 0 rfl ?_
        refine ea_iload (pc := 86) dX12_account_86 8 rfl ?_
        obtain ⟨z91, H⟩ := H
        refine ea_callV (pc := 88) (d' := d - 1) (As := [vI x8]) (st := [vI x5]) dX12_account_88 kX12_owed (sX12_owed (d := d - 1) (by omega) hs_h z91) (by omega) rfl (Nat.le_of_ble_eq_true rfl) ew_2027 ew_2029 ew_90 (ci := 12) rfl (by decide) (hs_h.1 0 (by decide)).1 (hs_h.1 0 (by decide)).2.1 ?_
        refine ea_iadd (pc := 91) dX12_account_91 ?_
        refine ea_istore (pc := 92) (lv' := [(0, vR (some (b0 + 0))), (1, vI x1), (2, vI x2), (3, vI x3), (4, vI (x4 + (vX12_owed b0 (x8 : Int32) h))), (5, vI (x5 + (vX12_owed b0 (x8 : Int32) h))), (6, vI x6), (7, vI x7), (8, vI x8)]) dX12_account_92 (Nat.le_of_ble_eq_true rfl) [1, 2, 3, 4, 5, 0, 6, 7, 8] rfl ?_
        refine ea_goto (pc := 94) (tgt := 122) dX12_account_94 rfl ?_
        refine ea_iinc (pc := 122) (v := 1) (lv' := [(0, vR (some (b0 + 0))), (1, vI x1), (2, vI x2), (3, vI x3), (4, vI (x4 + (vX12_owed b0 (x8 : Int32) h))), (5, vI (x5 + (vX12_owed b0 (x8 : Int32) h))), (6, vI x6), (7, vI x7), (8, vI (x8 + 1))]) dX12_account_122 8 rfl rfl (Nat.le_of_ble_eq_true rfl) [1, 2, 3, 4, 5, 6, 7, 8, 0] rfl ?_
        refine ea_goto (pc := 125) (tgt := 38) dX12_account_125 rfl ?_
        exact H
    · have H := H.2 c94
      refine ea_goto (pc := 58) (tgt := 122) dX12_account_58 rfl ?_
      refine ea_iinc (pc := 122) (v := 1) (lv' := [(0, vR (some (b0 + 0))), (1, vI x1), (2, vI x2), (3, vI x3), (4, vI x4), (5, vI x5), (6, vI x6), (7, vI x7), (8, vI (x8 + 1))]) dX12_account_122 8 rfl rfl (Nat.le_of_ble_eq_true rfl) [1, 2, 3, 4, 5, 6, 7, 8, 0] rfl ?_
      refine ea_goto (pc := 125) (tgt := 38) dX12_account_125 rfl ?_
      exact H
theorem pX12_place_0 {d b0 : Nat} {h0 hE h : ea_H} {rv : Option ea_V} {x1 : Int32} {x2 : Int32} {x3 : Int32} (hd : 3 ≤ d) (hs_h : ShM b0 h) (H : ((vX12_isLetterOf b0 (x1 : Int32) h) = (0 : Int32) → rv = some (vI 0) ∧ hE = h) ∧ (¬ (vX12_isLetterOf b0 (x1 : Int32) h) = (0 : Int32) → vp_in x1 120 ∧ (¬ (ea_i h (b0 + 55) (Int32.toNatClampNeg x1)) = (3 : Int32) → rv = some (vI 0) ∧ hE = h) ∧ ((ea_i h (b0 + 55) (Int32.toNatClampNeg x1)) = (3 : Int32) → ((vX12_isTown b0 (x2 : Int32) h) = (0 : Int32) → rv = some (vI 0) ∧ hE = h) ∧ (¬ (vX12_isTown b0 (x2 : Int32) h) = (0 : Int32) → vp_in x1 120 ∧ (x2 = (ea_i h (b0 + 40) (Int32.toNatClampNeg x1)) → rv = some (vI 0) ∧ hE = h) ∧ (¬ x2 = (ea_i h (b0 + 40) (Int32.toNatClampNeg x1)) → (¬ (vX12_isIn (x3 : Int32) (1 : Int32) (99 : Int32) h) = (0 : Int32) → ea_W mX12_place d h0 rv hE 51 [(0, vR (some (b0 + 0))), (1, vI x1), (2, vI x2), (3, vI x3), (4, vI 0)] [] h) ∧ ((vX12_isIn (x3 : Int32) (1 : Int32) (99 : Int32) h) = (0 : Int32) → rv = some (vI 0) ∧ hE = h)))))) : ea_W mX12_place d h0 rv hE 0 [(0, vR (some (b0 + 0))), (1, vI x1), (2, vI x2), (3, vI x3)] [] h := by
  refine ea_aload_n (pc := 0) dX12_place_0 rfl 0 rfl ?_
  refine ea_iload_n (pc := 1) dX12_place_1 rfl 1 rfl ?_
  refine ea_callV (pc := 2) (d' := d - 1) (As := [vI x1]) (st := []) dX12_place_2 kX12_isLetterOf (sX12_isLetterOf (d := d - 1) (by omega) hs_h) (by omega) rfl (Nat.le_of_ble_eq_true rfl) ew_2019 ew_2021 ew_89 (ci := 12) rfl (by decide) (hs_h.1 0 (by decide)).1 (hs_h.1 0 (by decide)).2.1 ?_
  refine ea_if_eq (pc := 5) (tgt := 46) dX12_place_5 rfl (fun c67 => ?_) (fun c67 => ?_)
  · have H := H.1 c67
    refine ea_iconst (pc := 46) dX12_place_46 (v := 0) rfl ?_
    obtain ⟨rfl, rfl⟩ := H
    exact ea_ireturn (pc := 47) dX12_place_47 rfl (ea_bn (Or.inl rfl))
  · have H := H.2 c67
    refine ea_aload_n (pc := 8) dX12_place_8 rfl 0 rfl ?_
    refine ea_getR (pc := 9) dX12_place_9 ec_12 (k := 81) (Nat.le_of_ble_eq_true rfl) rfl (Or.inl ew_1426) (hs_h.1 0 (by decide)).1 (hs_h.1 0 (by decide)).2.1 (hs_h.2 0 81 rfl) ?_
    refine ea_iload_n (pc := 12) dX12_place_12 rfl 1 rfl ?_
    obtain ⟨z37, H⟩ := H
    refine ea_iald (pc := 13) dX12_place_13 (hs_h.1 55 (by decide)).1 (hs_h.1 55 (by decide)).2.1 (ea_vpl (hs_h.1 55 (by decide)).2.2 z37) ?_
    refine ea_iconst (pc := 14) dX12_place_14 (v := 3) rfl ?_
    refine ea_icmp_ne (pc := 15) (tgt := 46) dX12_place_15 rfl (fun c66 => ?_) (fun c66 => ?_)
    · have H := H.1 c66
      refine ea_iconst (pc := 46) dX12_place_46 (v := 0) rfl ?_
      obtain ⟨rfl, rfl⟩ := H
      exact ea_ireturn (pc := 47) dX12_place_47 rfl (ea_bn (Or.inl rfl))
    · have H := H.2 c66
      refine ea_aload_n (pc := 18) dX12_place_18 rfl 0 rfl ?_
      refine ea_iload_n (pc := 19) dX12_place_19 rfl 2 rfl ?_
      refine ea_callV (pc := 20) (d' := d - 1) (As := [vI x2]) (st := []) dX12_place_20 kX12_isTown (sX12_isTown (d := d - 1) (by omega) hs_h) (by omega) rfl (Nat.le_of_ble_eq_true rfl) ew_1708 ew_1710 ew_47 (ci := 12) rfl (by decide) (hs_h.1 0 (by decide)).1 (hs_h.1 0 (by decide)).2.1 ?_
      refine ea_if_eq (pc := 23) (tgt := 46) dX12_place_23 rfl (fun c64 => ?_) (fun c64 => ?_)
      · have H := H.1 c64
        refine ea_iconst (pc := 46) dX12_place_46 (v := 0) rfl ?_
        obtain ⟨rfl, rfl⟩ := H
        exact ea_ireturn (pc := 47) dX12_place_47 rfl (ea_bn (Or.inl rfl))
      · have H := H.2 c64
        refine ea_iload_n (pc := 26) dX12_place_26 rfl 2 rfl ?_
        refine ea_aload_n (pc := 27) dX12_place_27 rfl 0 rfl ?_
        refine ea_getR (pc := 28) dX12_place_28 ec_12 (k := 66) (Nat.le_of_ble_eq_true rfl) rfl (Or.inl ew_1411) (hs_h.1 0 (by decide)).1 (hs_h.1 0 (by decide)).2.1 (hs_h.2 0 66 rfl) ?_
        refine ea_iload_n (pc := 31) dX12_place_31 rfl 1 rfl ?_
        obtain ⟨z54, H⟩ := H
        refine ea_iald (pc := 32) dX12_place_32 (hs_h.1 40 (by decide)).1 (hs_h.1 40 (by decide)).2.1 (ea_vpl (hs_h.1 40 (by decide)).2.2 z54) ?_
        refine ea_icmp_eq (pc := 33) (tgt := 46) dX12_place_33 rfl (fun c63 => ?_) (fun c63 => ?_)
        · have H := H.1 c63
          refine ea_iconst (pc := 46) dX12_place_46 (v := 0) rfl ?_
          obtain ⟨rfl, rfl⟩ := H
          exact ea_ireturn (pc := 47) dX12_place_47 rfl (ea_bn (Or.inl rfl))
        · have H := H.2 c63
          refine ea_iload_n (pc := 36) dX12_place_36 rfl 3 rfl ?_
          refine ea_iconst (pc := 37) dX12_place_37 (v := 1) rfl ?_
          refine ea_bipush (pc := 38) dX12_place_38 (v := 99) rfl ?_
          refine ea_callS (pc := 40) (d' := d - 1) (As := [vI x3, vI 1, vI 99]) (st := []) dX12_place_40 kX12_isIn (sX12_isIn (d := d - 1) (by omega)) (by omega) rfl (Nat.le_of_ble_eq_true rfl) ew_1712 ew_1713 ?_
          refine ea_if_ne (pc := 43) (tgt := 48) dX12_place_43 rfl (fun c61 => ?_) (fun c61 => ?_)
          · have H := H.1 c61
            refine ea_iconst (pc := 48) dX12_place_48 (v := 0) rfl ?_
            refine ea_istore (pc := 49) (lv' := [(0, vR (some (b0 + 0))), (1, vI x1), (2, vI x2), (3, vI x3), (4, vI 0)]) dX12_place_49 (Nat.le_of_ble_eq_true rfl) [1, 2, 3, 4, 0] rfl ?_
            exact H
          · have H := H.2 c61
            refine ea_iconst (pc := 46) dX12_place_46 (v := 0) rfl ?_
            obtain ⟨rfl, rfl⟩ := H
            exact ea_ireturn (pc := 47) dX12_place_47 rfl (ea_bn (Or.inl rfl))
theorem pX12_place_51 {d b0 : Nat} {h0 hE h : ea_H} {rv : Option ea_V} {x1 : Int32} {x2 : Int32} {x3 : Int32} {x4 : Int32} (hd : 3 ≤ d) (hs_h : ShM b0 h) (H : vp_in x1 120 ∧ ((ea_i h (b0 + 70) (Int32.toNatClampNeg x1)) ≤ x4 → ea_W mX12_place d h0 rv hE 83 [(0, vR (some (b0 + 0))), (1, vI x1), (2, vI x2), (3, vI x3), (4, vI x4)] [] h) ∧ (¬ (ea_i h (b0 + 70) (Int32.toNatClampNeg x1)) ≤ x4 → vp_in (((4 : Int32) * x1) + x4) 480 ∧ ((ea_i h (b0 + 71) (Int32.toNatClampNeg (((4 : Int32) * x1) + x4))) = x2 → ea_W mX12_place d h0 rv hE 83 [(0, vR (some (b0 + 0))), (1, vI x1), (2, vI x2), (3, vI x3), (4, vI x4)] [] h) ∧ (¬ (ea_i h (b0 + 71) (Int32.toNatClampNeg (((4 : Int32) * x1) + x4))) = x2 → ea_W mX12_place d h0 rv hE 51 [(0, vR (some (b0 + 0))), (1, vI x1), (2, vI x2), (3, vI x3), (4, vI (x4 + 1))] [] h))) : ea_W mX12_place d h0 rv hE 51 [(0, vR (some (b0 + 0))), (1, vI x1), (2, vI x2), (3, vI x3), (4, vI x4)] [] h := by
  refine ea_iload (pc := 51) dX12_place_51 4 rfl ?_
  refine ea_aload_n (pc := 53) dX12_place_53 rfl 0 rfl ?_
  refine ea_getR (pc := 54) dX12_place_54 ec_12 (k := 97) (Nat.le_of_ble_eq_true rfl) rfl (Or.inl ew_1442) (hs_h.1 0 (by decide)).1 (hs_h.1 0 (by decide)).2.1 (hs_h.2 0 97 rfl) ?_
  refine ea_iload_n (pc := 57) dX12_place_57 rfl 1 rfl ?_
  obtain ⟨z1, H⟩ := H
  refine ea_iald (pc := 58) dX12_place_58 (hs_h.1 70 (by decide)).1 (hs_h.1 70 (by decide)).2.1 (ea_vpl (hs_h.1 70 (by decide)).2.2 z1) ?_
  refine ea_icmp_ge (pc := 59) (tgt := 83) dX12_place_59 rfl (fun c4 => ?_) (fun c4 => ?_)
  · have H := H.1 c4
    exact H
  · have H := H.2 c4
    refine ea_aload_n (pc := 62) dX12_place_62 rfl 0 rfl ?_
    refine ea_getR (pc := 63) dX12_place_63 ec_12 (k := 98) (Nat.le_of_ble_eq_true rfl) rfl (Or.inl ew_1443) (hs_h.1 0 (by decide)).1 (hs_h.1 0 (by decide)).2.1 (hs_h.2 0 98 rfl) ?_
    refine ea_iconst (pc := 66) dX12_place_66 (v := 4) rfl ?_
    refine ea_iload_n (pc := 67) dX12_place_67 rfl 1 rfl ?_
    refine ea_imul (pc := 68) dX12_place_68 ?_
    refine ea_iload (pc := 69) dX12_place_69 4 rfl ?_
    refine ea_iadd (pc := 71) dX12_place_71 ?_
    obtain ⟨z2, H⟩ := H
    refine ea_iald (pc := 72) dX12_place_72 (hs_h.1 71 (by decide)).1 (hs_h.1 71 (by decide)).2.1 (ea_vpl (hs_h.1 71 (by decide)).2.2 z2) ?_
    refine ea_iload_n (pc := 73) dX12_place_73 rfl 2 rfl ?_
    refine ea_icmp_eq (pc := 74) (tgt := 83) dX12_place_74 rfl (fun c3 => ?_) (fun c3 => ?_)
    · have H := H.1 c3
      exact H
    · have H := H.2 c3
      refine ea_iinc (pc := 77) (v := 1) (lv' := [(0, vR (some (b0 + 0))), (1, vI x1), (2, vI x2), (3, vI x3), (4, vI (x4 + 1))]) dX12_place_77 4 rfl rfl (Nat.le_of_ble_eq_true rfl) [1, 2, 3, 4, 0] rfl ?_
      refine ea_goto (pc := 80) (tgt := 51) dX12_place_80 rfl ?_
      exact H
theorem pX12_place_83 {d b0 : Nat} {h0 hE h : ea_H} {rv : Option ea_V} {x1 : Int32} {x2 : Int32} {x3 : Int32} {x4 : Int32} (hd : 3 ≤ d) (hs_h : ShM b0 h) (H : (¬ x4 = (4 : Int32) → vp_in (((4 : Int32) * x1) + x4) 480 ∧ ∀ h2, h2 = ea_wi h (b0 + 71) (Int32.toNatClampNeg (((4 : Int32) * x1) + x4)) x2 → vp_in (((4 : Int32) * x1) + x4) 480 ∧ ∀ h5, h5 = ea_wi h2 (b0 + 72) (Int32.toNatClampNeg (((4 : Int32) * x1) + x4)) x3 → vp_in x1 120 ∧ (¬ x4 = (ea_i h5 (b0 + 70) (Int32.toNatClampNeg x1)) → rv = some (vI 1) ∧ hE = h5) ∧ (x4 = (ea_i h5 (b0 + 70) (Int32.toNatClampNeg x1)) → vp_in x1 120 ∧ vp_in x1 120 ∧ ∀ h10, h10 = ea_wi h5 (b0 + 70) (Int32.toNatClampNeg x1) ((ea_i h5 (b0 + 70) (Int32.toNatClampNeg x1)) + (1 : Int32)) → rv = some (vI 1) ∧ hE = h10)) ∧ (x4 = (4 : Int32) → rv = some (vI 0) ∧ hE = h)) : ea_W mX12_place d h0 rv hE 83 [(0, vR (some (b0 + 0))), (1, vI x1), (2, vI x2), (3, vI x3), (4, vI x4)] [] h := by
  refine ea_iload (pc := 83) dX12_place_83 4 rfl ?_
  refine ea_iconst (pc := 85) dX12_place_85 (v := 4) rfl ?_
  refine ea_icmp_ne (pc := 86) (tgt := 91) dX12_place_86 rfl (fun c13 => ?_) (fun c13 => ?_)
  · have H := H.1 c13
    refine ea_aload_n (pc := 91) dX12_place_91 rfl 0 rfl ?_
    refine ea_getR (pc := 92) dX12_place_92 ec_12 (k := 98) (Nat.le_of_ble_eq_true rfl) rfl (Or.inl ew_1443) (hs_h.1 0 (by decide)).1 (hs_h.1 0 (by decide)).2.1 (hs_h.2 0 98 rfl) ?_
    refine ea_iconst (pc := 95) dX12_place_95 (v := 4) rfl ?_
    refine ea_iload_n (pc := 96) dX12_place_96 rfl 1 rfl ?_
    refine ea_imul (pc := 97) dX12_place_97 ?_
    refine ea_iload (pc := 98) dX12_place_98 4 rfl ?_
    refine ea_iadd (pc := 100) dX12_place_100 ?_
    refine ea_iload_n (pc := 101) dX12_place_101 rfl 2 rfl ?_
    obtain ⟨z1, H⟩ := H
    refine ea_iast (pc := 102) dX12_place_102 (hs_h.1 71 (by decide)).1 (hs_h.1 71 (by decide)).2.1 (ea_vpl (hs_h.1 71 (by decide)).2.2 z1) ?_
    obtain ⟨h2, E3⟩ : ∃ z, z = ea_wi h (b0 + 71) (Int32.toNatClampNeg (((4 : Int32) * x1) + x4)) x2 := ⟨_, rfl⟩
    have H := H h2 E3
    refine ea_nm E3 ?_
    have hs_h2 : ShM b0 h2 := by rw [E3]; exact ShM_wi hs_h
    refine ea_aload_n (pc := 103) dX12_place_103 rfl 0 rfl ?_
    refine ea_getR (pc := 104) dX12_place_104 ec_12 (k := 99) (Nat.le_of_ble_eq_true rfl) rfl (Or.inl ew_1444) (hs_h2.1 0 (by decide)).1 (hs_h2.1 0 (by decide)).2.1 (hs_h2.2 0 99 rfl) ?_
    refine ea_iconst (pc := 107) dX12_place_107 (v := 4) rfl ?_
    refine ea_iload_n (pc := 108) dX12_place_108 rfl 1 rfl ?_
    refine ea_imul (pc := 109) dX12_place_109 ?_
    refine ea_iload (pc := 110) dX12_place_110 4 rfl ?_
    refine ea_iadd (pc := 112) dX12_place_112 ?_
    refine ea_iload_n (pc := 113) dX12_place_113 rfl 3 rfl ?_
    obtain ⟨z4, H⟩ := H
    refine ea_iast (pc := 114) dX12_place_114 (hs_h2.1 72 (by decide)).1 (hs_h2.1 72 (by decide)).2.1 (ea_vpl (hs_h2.1 72 (by decide)).2.2 z4) ?_
    obtain ⟨h5, E6⟩ : ∃ z, z = ea_wi h2 (b0 + 72) (Int32.toNatClampNeg (((4 : Int32) * x1) + x4)) x3 := ⟨_, rfl⟩
    have H := H h5 E6
    refine ea_nm E6 ?_
    have hs_h5 : ShM b0 h5 := by rw [E6]; exact ShM_wi hs_h2
    refine ea_iload (pc := 115) dX12_place_115 4 rfl ?_
    refine ea_aload_n (pc := 117) dX12_place_117 rfl 0 rfl ?_
    refine ea_getR (pc := 118) dX12_place_118 ec_12 (k := 97) (Nat.le_of_ble_eq_true rfl) rfl (Or.inl ew_1442) (hs_h5.1 0 (by decide)).1 (hs_h5.1 0 (by decide)).2.1 (hs_h5.2 0 97 rfl) ?_
    refine ea_iload_n (pc := 121) dX12_place_121 rfl 1 rfl ?_
    obtain ⟨z7, H⟩ := H
    refine ea_iald (pc := 122) dX12_place_122 (hs_h5.1 70 (by decide)).1 (hs_h5.1 70 (by decide)).2.1 (ea_vpl (hs_h5.1 70 (by decide)).2.2 z7) ?_
    refine ea_icmp_ne (pc := 123) (tgt := 136) dX12_place_123 rfl (fun c12 => ?_) (fun c12 => ?_)
    · have H := H.1 c12
      refine ea_iconst (pc := 136) dX12_place_136 (v := 1) rfl ?_
      obtain ⟨rfl, rfl⟩ := H
      exact ea_ireturn (pc := 137) dX12_place_137 rfl (ea_bn (Or.inr rfl))
    · have H := H.2 c12
      refine ea_aload_n (pc := 126) dX12_place_126 rfl 0 rfl ?_
      refine ea_getR (pc := 127) dX12_place_127 ec_12 (k := 97) (Nat.le_of_ble_eq_true rfl) rfl (Or.inl ew_1442) (hs_h5.1 0 (by decide)).1 (hs_h5.1 0 (by decide)).2.1 (hs_h5.2 0 97 rfl) ?_
      refine ea_iload_n (pc := 130) dX12_place_130 rfl 1 rfl ?_
      refine ea_dup2 (pc := 131) dX12_place_131 rfl rfl ?_
      obtain ⟨z8, H⟩ := H
      refine ea_iald (pc := 132) dX12_place_132 (hs_h5.1 70 (by decide)).1 (hs_h5.1 70 (by decide)).2.1 (ea_vpl (hs_h5.1 70 (by decide)).2.2 z8) ?_
      refine ea_iconst (pc := 133) dX12_place_133 (v := 1) rfl ?_
      refine ea_iadd (pc := 134) dX12_place_134 ?_
      obtain ⟨z9, H⟩ := H
      refine ea_iast (pc := 135) dX12_place_135 (hs_h5.1 70 (by decide)).1 (hs_h5.1 70 (by decide)).2.1 (ea_vpl (hs_h5.1 70 (by decide)).2.2 z9) ?_
      obtain ⟨h10, E11⟩ : ∃ z, z = ea_wi h5 (b0 + 70) (Int32.toNatClampNeg x1) ((ea_i h5 (b0 + 70) (Int32.toNatClampNeg x1)) + (1 : Int32)) := ⟨_, rfl⟩
      have H := H h10 E11
      refine ea_nm E11 ?_
      have hs_h10 : ShM b0 h10 := by rw [E11]; exact ShM_wi hs_h5
      refine ea_iconst (pc := 136) dX12_place_136 (v := 1) rfl ?_
      obtain ⟨rfl, rfl⟩ := H
      exact ea_ireturn (pc := 137) dX12_place_137 rfl (ea_bn (Or.inr rfl))
  · have H := H.2 c13
    refine ea_iconst (pc := 89) dX12_place_89 (v := 0) rfl ?_
    obtain ⟨rfl, rfl⟩ := H
    exact ea_ireturn (pc := 90) dX12_place_90 rfl (ea_bn (Or.inl rfl))
theorem pX12_ordered_0 {d b0 : Nat} {h0 hE h : ea_H} {rv : Option ea_V} {x1 : Int32} {x2 : Int32} (hd : 1 ≤ d) (hs_h : ShM b0 h) (H : ea_W mX12_ordered d h0 rv hE 2 [(0, vR (some (b0 + 0))), (1, vI x1), (2, vI x2), (3, vI 0)] [] h) : ea_W mX12_ordered d h0 rv hE 0 [(0, vR (some (b0 + 0))), (1, vI x1), (2, vI x2)] [] h := by
  refine ea_iconst (pc := 0) dX12_ordered_0 (v := 0) rfl ?_
  refine ea_istore_n (pc := 1) (lv' := [(0, vR (some (b0 + 0))), (1, vI x1), (2, vI x2), (3, vI 0)]) dX12_ordered_1 rfl (Nat.le_of_ble_eq_true rfl) [1, 2, 3, 0] rfl ?_
  exact H
theorem pX12_ordered_2 {d b0 : Nat} {h0 hE h : ea_H} {rv : Option ea_V} {x1 : Int32} {x2 : Int32} {x3 : Int32} (hd : 1 ≤ d) (hs_h : ShM b0 h) (H : vp_in x1 120 ∧ ((ea_i h (b0 + 70) (Int32.toNatClampNeg x1)) ≤ x3 → rv = some (vI (-1)) ∧ hE = h) ∧ (¬ (ea_i h (b0 + 70) (Int32.toNatClampNeg x1)) ≤ x3 → ea_W mX12_ordered d h0 rv hE 18 [(0, vR (some (b0 + 0))), (1, vI x1), (2, vI x2), (3, vI x3), (4, vI 0), (5, vI 0)] [] h)) : ea_W mX12_ordered d h0 rv hE 2 [(0, vR (some (b0 + 0))), (1, vI x1), (2, vI x2), (3, vI x3)] [] h := by
  refine ea_iload_n (pc := 2) dX12_ordered_2 rfl 3 rfl ?_
  refine ea_aload_n (pc := 3) dX12_ordered_3 rfl 0 rfl ?_
  refine ea_getR (pc := 4) dX12_ordered_4 ec_12 (k := 97) (Nat.le_of_ble_eq_true rfl) rfl (Or.inl ew_1442) (hs_h.1 0 (by decide)).1 (hs_h.1 0 (by decide)).2.1 (hs_h.2 0 97 rfl) ?_
  refine ea_iload_n (pc := 7) dX12_ordered_7 rfl 1 rfl ?_
  obtain ⟨z1, H⟩ := H
  refine ea_iald (pc := 8) dX12_ordered_8 (hs_h.1 70 (by decide)).1 (hs_h.1 70 (by decide)).2.1 (ea_vpl (hs_h.1 70 (by decide)).2.2 z1) ?_
  refine ea_icmp_ge (pc := 9) (tgt := 126) dX12_ordered_9 rfl (fun c2 => ?_) (fun c2 => ?_)
  · have H := H.1 c2
    refine ea_iconst (pc := 126) dX12_ordered_126 (v := (-1)) rfl ?_
    obtain ⟨rfl, rfl⟩ := H
    exact ea_ireturn (pc := 127) dX12_ordered_127 rfl rfl
  · have H := H.2 c2
    refine ea_iconst (pc := 12) dX12_ordered_12 (v := 0) rfl ?_
    refine ea_istore (pc := 13) (lv' := [(0, vR (some (b0 + 0))), (1, vI x1), (2, vI x2), (3, vI x3), (4, vI 0)]) dX12_ordered_13 (Nat.le_of_ble_eq_true rfl) [1, 2, 3, 4, 0] rfl ?_
    refine ea_iconst (pc := 15) dX12_ordered_15 (v := 0) rfl ?_
    refine ea_istore (pc := 16) (lv' := [(0, vR (some (b0 + 0))), (1, vI x1), (2, vI x2), (3, vI x3), (4, vI 0), (5, vI 0)]) dX12_ordered_16 (Nat.le_of_ble_eq_true rfl) [1, 2, 3, 4, 5, 0] rfl ?_
    exact H
theorem pX12_ordered_18 {d b0 : Nat} {h0 hE h : ea_H} {rv : Option ea_V} {x1 : Int32} {x2 : Int32} {x3 : Int32} {x4 : Int32} {x5 : Int32} (hd : 1 ≤ d) (hs_h : ShM b0 h) (H : vp_in x1 120 ∧ ((ea_i h (b0 + 70) (Int32.toNatClampNeg x1)) ≤ x5 → (¬ x4 = x2 → ea_W mX12_ordered d h0 rv hE 2 [(0, vR (some (b0 + 0))), (1, vI x1), (2, vI x2), (3, vI (x3 + 1))] [] h) ∧ (x4 = x2 → rv = some (vI (((4 : Int32) * x1) + x3)) ∧ hE = h)) ∧ (¬ (ea_i h (b0 + 70) (Int32.toNatClampNeg x1)) ≤ x5 → vp_in (((4 : Int32) * x1) + x5) 480 ∧ vp_in (((4 : Int32) * x1) + x3) 480 ∧ ((ea_i h (b0 + 72) (Int32.toNatClampNeg (((4 : Int32) * x1) + x3))) < (ea_i h (b0 + 72) (Int32.toNatClampNeg (((4 : Int32) * x1) + x5))) → ea_W mX12_ordered d h0 rv hE 18 [(0, vR (some (b0 + 0))), (1, vI x1), (2, vI x2), (3, vI x3), (4, vI (x4 + (1 : Int32))), (5, vI (x5 + 1))] [] h) ∧ (¬ (ea_i h (b0 + 72) (Int32.toNatClampNeg (((4 : Int32) * x1) + x3))) < (ea_i h (b0 + 72) (Int32.toNatClampNeg (((4 : Int32) * x1) + x5))) → (¬ (ea_i h (b0 + 72) (Int32.toNatClampNeg (((4 : Int32) * x1) + x5))) = (ea_i h (b0 + 72) (Int32.toNatClampNeg (((4 : Int32) * x1) + x3))) → ea_W mX12_ordered d h0 rv hE 18 [(0, vR (some (b0 + 0))), (1, vI x1), (2, vI x2), (3, vI x3), (4, vI (x4 + (0 : Int32))), (5, vI (x5 + 1))] [] h) ∧ ((ea_i h (b0 + 72) (Int32.toNatClampNeg (((4 : Int32) * x1) + x5))) = (ea_i h (b0 + 72) (Int32.toNatClampNeg (((4 : Int32) * x1) + x3))) → vp_in (((4 : Int32) * x1) + x5) 480 ∧ vp_in (((4 : Int32) * x1) + x3) 480 ∧ ((ea_i h (b0 + 71) (Int32.toNatClampNeg (((4 : Int32) * x1) + x3))) ≤ (ea_i h (b0 + 71) (Int32.toNatClampNeg (((4 : Int32) * x1) + x5))) → ea_W mX12_ordered d h0 rv hE 18 [(0, vR (some (b0 + 0))), (1, vI x1), (2, vI x2), (3, vI x3), (4, vI (x4 + (0 : Int32))), (5, vI (x5 + 1))] [] h) ∧ (¬ (ea_i h (b0 + 71) (Int32.toNatClampNeg (((4 : Int32) * x1) + x3))) ≤ (ea_i h (b0 + 71) (Int32.toNatClampNeg (((4 : Int32) * x1) + x5))) → ea_W mX12_ordered d h0 rv hE 18 [(0, vR (some (b0 + 0))), (1, vI x1), (2, vI x2), (3, vI x3), (4, vI (x4 + (1 : Int32))), (5, vI (x5 + 1))] [] h))))) : ea_W mX12_ordered d h0 rv hE 18 [(0, vR (some (b0 + 0))), (1, vI x1), (2, vI x2), (3, vI x3), (4, vI x4), (5, vI x5)] [] h := by
  refine ea_iload (pc := 18) dX12_ordered_18 5 rfl ?_
  refine ea_aload_n (pc := 20) dX12_ordered_20 rfl 0 rfl ?_
  refine ea_getR (pc := 21) dX12_ordered_21 ec_12 (k := 97) (Nat.le_of_ble_eq_true rfl) rfl (Or.inl ew_1442) (hs_h.1 0 (by decide)).1 (hs_h.1 0 (by decide)).2.1 (hs_h.2 0 97 rfl) ?_
  refine ea_iload_n (pc := 24) dX12_ordered_24 rfl 1 rfl ?_
  obtain ⟨z1, H⟩ := H
  refine ea_iald (pc := 25) dX12_ordered_25 (hs_h.1 70 (by decide)).1 (hs_h.1 70 (by decide)).2.1 (ea_vpl (hs_h.1 70 (by decide)).2.2 z1) ?_
  refine ea_icmp_ge (pc := 26) (tgt := 108) dX12_ordered_26 rfl (fun c10 => ?_) (fun c10 => ?_)
  · have H := H.1 c10
    refine ea_iload (pc := 108) dX12_ordered_108 4 rfl ?_
    refine ea_iload_n (pc := 110) dX12_ordered_110 rfl 2 rfl ?_
    refine ea_icmp_ne (pc := 111) (tgt := 120) dX12_ordered_111 rfl (fun c2 => ?_) (fun c2 => ?_)
    · have H := H.1 c2
      refine ea_iinc (pc := 120) (v := 1) (lv' := [(0, vR (some (b0 + 0))), (1, vI x1), (2, vI x2), (3, vI (x3 + 1))]) dX12_ordered_120 3 rfl rfl (Nat.le_of_ble_eq_true rfl) [1, 2, 3, 0] rfl ?_
      refine ea_goto (pc := 123) (tgt := 2) dX12_ordered_123 rfl ?_
      exact H
    · have H := H.2 c2
      refine ea_iconst (pc := 114) dX12_ordered_114 (v := 4) rfl ?_
      refine ea_iload_n (pc := 115) dX12_ordered_115 rfl 1 rfl ?_
      refine ea_imul (pc := 116) dX12_ordered_116 ?_
      refine ea_iload_n (pc := 117) dX12_ordered_117 rfl 3 rfl ?_
      refine ea_iadd (pc := 118) dX12_ordered_118 ?_
      obtain ⟨rfl, rfl⟩ := H
      exact ea_ireturn (pc := 119) dX12_ordered_119 rfl rfl
  · have H := H.2 c10
    refine ea_aload_n (pc := 29) dX12_ordered_29 rfl 0 rfl ?_
    refine ea_getR (pc := 30) dX12_ordered_30 ec_12 (k := 99) (Nat.le_of_ble_eq_true rfl) rfl (Or.inl ew_1444) (hs_h.1 0 (by decide)).1 (hs_h.1 0 (by decide)).2.1 (hs_h.2 0 99 rfl) ?_
    refine ea_iconst (pc := 33) dX12_ordered_33 (v := 4) rfl ?_
    refine ea_iload_n (pc := 34) dX12_ordered_34 rfl 1 rfl ?_
    refine ea_imul (pc := 35) dX12_ordered_35 ?_
    refine ea_iload (pc := 36) dX12_ordered_36 5 rfl ?_
    refine ea_iadd (pc := 38) dX12_ordered_38 ?_
    obtain ⟨z3, H⟩ := H
    refine ea_iald (pc := 39) dX12_ordered_39 (hs_h.1 72 (by decide)).1 (hs_h.1 72 (by decide)).2.1 (ea_vpl (hs_h.1 72 (by decide)).2.2 z3) ?_
    refine ea_istore (pc := 40) (lv' := [(0, vR (some (b0 + 0))), (1, vI x1), (2, vI x2), (3, vI x3), (4, vI x4), (5, vI x5), (6, vI (ea_i h (b0 + 72) (Int32.toNatClampNeg (((4 : Int32) * x1) + x5))))]) dX12_ordered_40 (Nat.le_of_ble_eq_true rfl) [1, 2, 3, 4, 5, 6, 0] rfl ?_
    refine ea_aload_n (pc := 42) dX12_ordered_42 rfl 0 rfl ?_
    refine ea_getR (pc := 43) dX12_ordered_43 ec_12 (k := 99) (Nat.le_of_ble_eq_true rfl) rfl (Or.inl ew_1444) (hs_h.1 0 (by decide)).1 (hs_h.1 0 (by decide)).2.1 (hs_h.2 0 99 rfl) ?_
    refine ea_iconst (pc := 46) dX12_ordered_46 (v := 4) rfl ?_
    refine ea_iload_n (pc := 47) dX12_ordered_47 rfl 1 rfl ?_
    refine ea_imul (pc := 48) dX12_ordered_48 ?_
    refine ea_iload_n (pc := 49) dX12_ordered_49 rfl 3 rfl ?_
    refine ea_iadd (pc := 50) dX12_ordered_50 ?_
    obtain ⟨z4, H⟩ := H
    refine ea_iald (pc := 51) dX12_ordered_51 (hs_h.1 72 (by decide)).1 (hs_h.1 72 (by decide)).2.1 (ea_vpl (hs_h.1 72 (by decide)).2.2 z4) ?_
    refine ea_istore (pc := 52) (lv' := [(0, vR (some (b0 + 0))), (1, vI x1), (2, vI x2), (3, vI x3), (4, vI x4), (5, vI x5), (6, vI (ea_i h (b0 + 72) (Int32.toNatClampNeg (((4 : Int32) * x1) + x5)))), (7, vI (ea_i h (b0 + 72) (Int32.toNatClampNeg (((4 : Int32) * x1) + x3))))]) dX12_ordered_52 (Nat.le_of_ble_eq_true rfl) [1, 2, 3, 4, 5, 6, 7, 0] rfl ?_
    refine ea_iload (pc := 54) dX12_ordered_54 4 rfl ?_
    refine ea_iload (pc := 56) dX12_ordered_56 6 rfl ?_
    refine ea_iload (pc := 58) dX12_ordered_58 7 rfl ?_
    refine ea_icmp_gt (pc := 60) (tgt := 94) dX12_ordered_60 rfl (fun c9 => ?_) (fun c9 => ?_)
    · have H := H.1 c9
      refine ea_iconst (pc := 94) dX12_ordered_94 (v := 1) rfl ?_
      refine ea_goto (pc := 95) (tgt := 99) dX12_ordered_95 rfl ?_
      refine ea_iadd (pc := 99) dX12_ordered_99 ?_
      refine ea_istore (pc := 100) (lv' := [(0, vR (some (b0 + 0))), (1, vI x1), (2, vI x2), (3, vI x3), (4, vI (x4 + (1 : Int32))), (5, vI x5)]) dX12_ordered_100 (Nat.le_of_ble_eq_true rfl) [1, 2, 3, 4, 0, 5] rfl ?_
      refine ea_iinc (pc := 102) (v := 1) (lv' := [(0, vR (some (b0 + 0))), (1, vI x1), (2, vI x2), (3, vI x3), (4, vI (x4 + (1 : Int32))), (5, vI (x5 + 1))]) dX12_ordered_102 5 rfl rfl (Nat.le_of_ble_eq_true rfl) [1, 2, 3, 4, 5, 0] rfl ?_
      refine ea_goto (pc := 105) (tgt := 18) dX12_ordered_105 rfl ?_
      exact H
    · have H := H.2 c9
      refine ea_iload (pc := 63) dX12_ordered_63 6 rfl ?_
      refine ea_iload (pc := 65) dX12_ordered_65 7 rfl ?_
      refine ea_icmp_ne (pc := 67) (tgt := 98) dX12_ordered_67 rfl (fun c8 => ?_) (fun c8 => ?_)
      · have H := H.1 c8
        refine ea_iconst (pc := 98) dX12_ordered_98 (v := 0) rfl ?_
        refine ea_iadd (pc := 99) dX12_ordered_99 ?_
        refine ea_istore (pc := 100) (lv' := [(0, vR (some (b0 + 0))), (1, vI x1), (2, vI x2), (3, vI x3), (4, vI (x4 + (0 : Int32))), (5, vI x5)]) dX12_ordered_100 (Nat.le_of_ble_eq_true rfl) [1, 2, 3, 4, 0, 5] rfl ?_
        refine ea_iinc (pc := 102) (v := 1) (lv' := [(0, vR (some (b0 + 0))), (1, vI x1), (2, vI x2), (3, vI x3), (4, vI (x4 + (0 : Int32))), (5, vI (x5 + 1))]) dX12_ordered_102 5 rfl rfl (Nat.le_of_ble_eq_true rfl) [1, 2, 3, 4, 5, 0] rfl ?_
        refine ea_goto (pc := 105) (tgt := 18) dX12_ordered_105 rfl ?_
        exact H
      · have H := H.2 c8
        refine ea_aload_n (pc := 70) dX12_ordered_70 rfl 0 rfl ?_
        refine ea_getR (pc := 71) dX12_ordered_71 ec_12 (k := 98) (Nat.le_of_ble_eq_true rfl) rfl (Or.inl ew_1443) (hs_h.1 0 (by decide)).1 (hs_h.1 0 (by decide)).2.1 (hs_h.2 0 98 rfl) ?_
        refine ea_iconst (pc := 74) dX12_ordered_74 (v := 4) rfl ?_
        refine ea_iload_n (pc := 75) dX12_ordered_75 rfl 1 rfl ?_
        refine ea_imul (pc := 76) dX12_ordered_76 ?_
        refine ea_iload (pc := 77) dX12_ordered_77 5 rfl ?_
        refine ea_iadd (pc := 79) dX12_ordered_79 ?_
        obtain ⟨z5, H⟩ := H
        refine ea_iald (pc := 80) dX12_ordered_80 (hs_h.1 71 (by decide)).1 (hs_h.1 71 (by decide)).2.1 (ea_vpl (hs_h.1 71 (by decide)).2.2 z5) ?_
        refine ea_aload_n (pc := 81) dX12_ordered_81 rfl 0 rfl ?_
        refine ea_getR (pc := 82) dX12_ordered_82 ec_12 (k := 98) (Nat.le_of_ble_eq_true rfl) rfl (Or.inl ew_1443) (hs_h.1 0 (by decide)).1 (hs_h.1 0 (by decide)).2.1 (hs_h.2 0 98 rfl) ?_
        refine ea_iconst (pc := 85) dX12_ordered_85 (v := 4) rfl ?_
        refine ea_iload_n (pc := 86) dX12_ordered_86 rfl 1 rfl ?_
        refine ea_imul (pc := 87) dX12_ordered_87 ?_
        refine ea_iload_n (pc := 88) dX12_ordered_88 rfl 3 rfl ?_
        refine ea_iadd (pc := 89) dX12_ordered_89 ?_
        obtain ⟨z6, H⟩ := H
        refine ea_iald (pc := 90) dX12_ordered_90 (hs_h.1 71 (by decide)).1 (hs_h.1 71 (by decide)).2.1 (ea_vpl (hs_h.1 71 (by decide)).2.2 z6) ?_
        refine ea_icmp_ge (pc := 91) (tgt := 98) dX12_ordered_91 rfl (fun c7 => ?_) (fun c7 => ?_)
        · have H := H.1 c7
          refine ea_iconst (pc := 98) dX12_ordered_98 (v := 0) rfl ?_
          refine ea_iadd (pc := 99) dX12_ordered_99 ?_
          refine ea_istore (pc := 100) (lv' := [(0, vR (some (b0 + 0))), (1, vI x1), (2, vI x2), (3, vI x3), (4, vI (x4 + (0 : Int32))), (5, vI x5)]) dX12_ordered_100 (Nat.le_of_ble_eq_true rfl) [1, 2, 3, 4, 0, 5] rfl ?_
          refine ea_iinc (pc := 102) (v := 1) (lv' := [(0, vR (some (b0 + 0))), (1, vI x1), (2, vI x2), (3, vI x3), (4, vI (x4 + (0 : Int32))), (5, vI (x5 + 1))]) dX12_ordered_102 5 rfl rfl (Nat.le_of_ble_eq_true rfl) [1, 2, 3, 4, 5, 0] rfl ?_
          refine ea_goto (pc := 105) (tgt := 18) dX12_ordered_105 rfl ?_
          exact H
        · have H := H.2 c7
          refine ea_iconst (pc := 94) dX12_ordered_94 (v := 1) rfl ?_
          refine ea_goto (pc := 95) (tgt := 99) dX12_ordered_95 rfl ?_
          refine ea_iadd (pc := 99) dX12_ordered_99 ?_
          refine ea_istore (pc := 100) (lv' := [(0, vR (some (b0 + 0))), (1, vI x1), (2, vI x2), (3, vI x3), (4, vI (x4 + (1 : Int32))), (5, vI x5)]) dX12_ordered_100 (Nat.le_of_ble_eq_true rfl) [1, 2, 3, 4, 0, 5] rfl ?_
          refine ea_iinc (pc := 102) (v := 1) (lv' := [(0, vR (some (b0 + 0))), (1, vI x1), (2, vI x2), (3, vI x3), (4, vI (x4 + (1 : Int32))), (5, vI (x5 + 1))]) dX12_ordered_102 5 rfl rfl (Nat.le_of_ble_eq_true rfl) [1, 2, 3, 4, 5, 0] rfl ?_
          refine ea_goto (pc := 105) (tgt := 18) dX12_ordered_105 rfl ?_
          exact H
theorem pX12_common_0 {d b0 : Nat} {h0 hE h : ea_H} {rv : Option ea_V} {y0 : Int64} {y2 : Int64} (hd : 1 ≤ d) (hs_h : ShM b0 h) (H : ea_W mX12_common d h0 rv hE 6 [(4, vJ y0), (6, vJ y2)] [] h) : ea_W mX12_common d h0 rv hE 0 [(0, vJ y0), (2, vJ y2)] [] h := by
  refine ea_lload_n (pc := 0) dX12_common_0 rfl 0 rfl ?_
  refine ea_lstore (pc := 1) (lv' := [(2, vJ y2), (4, vJ y0)]) dX12_common_1 (Nat.le_of_ble_eq_true rfl) [2, 0] rfl ?_
  refine ea_lload_n (pc := 3) dX12_common_3 rfl 0 rfl ?_
  refine ea_lstore (pc := 4) (lv' := [(4, vJ y0), (6, vJ y2)]) dX12_common_4 (Nat.le_of_ble_eq_true rfl) [2, 0] rfl ?_
  exact H
theorem pX12_common_6 {d b0 : Nat} {h0 hE h : ea_H} {rv : Option ea_V} {y4 : Int64} {y6 : Int64} (hd : 1 ≤ d) (hs_h : ShM b0 h) (H : ((lg_cmp y6 0) = (0 : Int32) → rv = some (vJ y4) ∧ hE = h) ∧ (¬ (lg_cmp y6 0) = (0 : Int32) → (¬ y6 = 0) ∧ ea_W mX12_common d h0 rv hE 6 [(4, vJ y6), (6, vJ (y4 - y4 / y6 * y6))] [] h)) : ea_W mX12_common d h0 rv hE 6 [(4, vJ y4), (6, vJ y6)] [] h := by
  refine ea_lload (pc := 6) dX12_common_6 1 rfl ?_
  refine ea_lconst (pc := 8) dX12_common_8 (v := 0) rfl ?_
  refine ea_lcmp (pc := 9) dX12_common_9 ?_
  refine ea_if_eq (pc := 10) (tgt := 31) dX12_common_10 rfl (fun c2 => ?_) (fun c2 => ?_)
  · have H := H.1 c2
    refine ea_lload (pc := 31) dX12_common_31 0 rfl ?_
    obtain ⟨rfl, rfl⟩ := H
    exact ea_lreturn (pc := 33) dX12_common_33 rfl
  · have H := H.2 c2
    refine ea_lload (pc := 13) dX12_common_13 0 rfl ?_
    refine ea_lload (pc := 15) dX12_common_15 1 rfl ?_
    obtain ⟨z1, H⟩ := H
    refine ea_lrem (pc := 17) dX12_common_17 z1 ?_
    refine ea_lstore (pc := 18) (lv' := [(6, vJ y6), (8, vJ (y4 - y4 / y6 * y6))]) dX12_common_18 (Nat.le_of_ble_eq_true rfl) [2, 0] rfl ?_
    refine ea_lload (pc := 20) dX12_common_20 0 rfl ?_
    refine ea_lstore (pc := 22) (lv' := [(4, vJ y6), (8, vJ (y4 - y4 / y6 * y6))]) dX12_common_22 (Nat.le_of_ble_eq_true rfl) [0, 2] rfl ?_
    refine ea_lload (pc := 24) dX12_common_24 1 rfl ?_
    refine ea_lstore (pc := 26) (lv' := [(4, vJ y6), (6, vJ (y4 - y4 / y6 * y6))]) dX12_common_26 (Nat.le_of_ble_eq_true rfl) [1, 0] rfl ?_
    refine ea_goto (pc := 28) (tgt := 6) dX12_common_28 rfl ?_
    exact H
theorem pX12_order_0 {d b0 : Nat} {h0 hE h : ea_H} {rv : Option ea_V} {x1 : Int32} {x2 : Int32} (hd : 3 ≤ d) (hs_h : ShM b0 h) (H : (¬ (vX12_isLetterOf b0 (x1 : Int32) h) = (0 : Int32) → (¬ x2 = (0 : Int32) → (x2 = (1 : Int32) → ea_W mX12_order d h0 rv hE 34 [(0, vR (some (b0 + 0))), (1, vI x1), (2, vI x2)] [] h) ∧ (¬ x2 = (1 : Int32) → (¬ x2 = (2 : Int32) → vp_in x1 120 ∧ ((vX12_isIn (x2 : Int32) (10 : Int32) (((9 : Int32) + (ea_i h (b0 + 70) (Int32.toNatClampNeg x1))) : Int32) h) = (0 : Int32) → vp_in x1 120 ∧ ((vX12_isIn (x2 : Int32) (20 : Int32) (((19 : Int32) + (ea_i h (b0 + 70) (Int32.toNatClampNeg x1))) : Int32) h) = (0 : Int32) → rv = some (vJ (-1)) ∧ hE = h) ∧ (¬ (vX12_isIn (x2 : Int32) (20 : Int32) (((19 : Int32) + (ea_i h (b0 + 70) (Int32.toNatClampNeg x1))) : Int32) h) = (0 : Int32) → ∃ (d121 : Nat) (xc125 : Int32) (h122 : ea_H), ea_Met mX12_ordered d121 [vR (some (b0 + 0)), vI x1, vI (x2 - (20 : Int32))] h (some (vI xc125)) h122 ∧ d121 + 1 ≤ d ∧ ShM b0 h122 ∧ vp_in xc125 480 ∧ rv = some (vJ (Int32.toInt64 (ea_i h122 (b0 + 72) (Int32.toNatClampNeg xc125)))) ∧ hE = h122)) ∧ (¬ (vX12_isIn (x2 : Int32) (10 : Int32) (((9 : Int32) + (ea_i h (b0 + 70) (Int32.toNatClampNeg x1))) : Int32) h) = (0 : Int32) → ∃ (d129 : Nat) (xc133 : Int32) (h130 : ea_H), ea_Met mX12_ordered d129 [vR (some (b0 + 0)), vI x1, vI (x2 - (10 : Int32))] h (some (vI xc133)) h130 ∧ d129 + 1 ≤ d ∧ ShM b0 h130 ∧ vp_in xc133 480 ∧ rv = some (vJ (Int32.toInt64 (ea_i h130 (b0 + 71) (Int32.toNatClampNeg xc133)))) ∧ hE = h130)) ∧ (x2 = (2 : Int32) → ea_W mX12_order d h0 rv hE 34 [(0, vR (some (b0 + 0))), (1, vI x1), (2, vI x2)] [] h))) ∧ (x2 = (0 : Int32) → vp_in x1 120 ∧ rv = some (vJ (Int32.toInt64 (ea_i h (b0 + 70) (Int32.toNatClampNeg x1)))) ∧ hE = h)) ∧ ((vX12_isLetterOf b0 (x1 : Int32) h) = (0 : Int32) → rv = some (vJ (-1)) ∧ hE = h)) : ea_W mX12_order d h0 rv hE 0 [(0, vR (some (b0 + 0))), (1, vI x1), (2, vI x2)] [] h := by
  refine ea_aload_n (pc := 0) dX12_order_0 rfl 0 rfl ?_
  refine ea_iload_n (pc := 1) dX12_order_1 rfl 1 rfl ?_
  refine ea_callV (pc := 2) (d' := d - 1) (As := [vI x1]) (st := []) dX12_order_2 kX12_isLetterOf (sX12_isLetterOf (d := d - 1) (by omega) hs_h) (by omega) rfl (Nat.le_of_ble_eq_true rfl) ew_2019 ew_2021 ew_89 (ci := 12) rfl (by decide) (hs_h.1 0 (by decide)).1 (hs_h.1 0 (by decide)).2.1 ?_
  refine ea_if_ne (pc := 5) (tgt := 12) dX12_order_5 rfl (fun c141 => ?_) (fun c141 => ?_)
  · have H := H.1 c141
    refine ea_iload_n (pc := 12) dX12_order_12 rfl 2 rfl ?_
    refine ea_if_ne (pc := 13) (tgt := 24) dX12_order_13 rfl (fun c140 => ?_) (fun c140 => ?_)
    · have H := H.1 c140
      refine ea_iload_n (pc := 24) dX12_order_24 rfl 2 rfl ?_
      refine ea_iconst (pc := 25) dX12_order_25 (v := 1) rfl ?_
      refine ea_icmp_eq (pc := 26) (tgt := 34) dX12_order_26 rfl (fun c138 => ?_) (fun c138 => ?_)
      · have H := H.1 c138
        exact H
      · have H := H.2 c138
        refine ea_iload_n (pc := 29) dX12_order_29 rfl 2 rfl ?_
        refine ea_iconst (pc := 30) dX12_order_30 (v := 2) rfl ?_
        refine ea_icmp_ne (pc := 31) (tgt := 128) dX12_order_31 rfl (fun c137 => ?_) (fun c137 => ?_)
        · have H := H.1 c137
          refine ea_iload_n (pc := 128) dX12_order_128 rfl 2 rfl ?_
          refine ea_bipush (pc := 129) dX12_order_129 (v := 10) rfl ?_
          refine ea_bipush (pc := 131) dX12_order_131 (v := 9) rfl ?_
          refine ea_aload_n (pc := 133) dX12_order_133 rfl 0 rfl ?_
          refine ea_getR (pc := 134) dX12_order_134 ec_12 (k := 97) (Nat.le_of_ble_eq_true rfl) rfl (Or.inl ew_1442) (hs_h.1 0 (by decide)).1 (hs_h.1 0 (by decide)).2.1 (hs_h.2 0 97 rfl) ?_
          refine ea_iload_n (pc := 137) dX12_order_137 rfl 1 rfl ?_
          obtain ⟨z74, H⟩ := H
          refine ea_iald (pc := 138) dX12_order_138 (hs_h.1 70 (by decide)).1 (hs_h.1 70 (by decide)).2.1 (ea_vpl (hs_h.1 70 (by decide)).2.2 z74) ?_
          refine ea_iadd (pc := 139) dX12_order_139 ?_
          refine ea_callS (pc := 140) (d' := d - 1) (As := [vI x2, vI 10, vI ((9 : Int32) + (ea_i h (b0 + 70) (Int32.toNatClampNeg x1)))]) (st := []) dX12_order_140 kX12_isIn (sX12_isIn (d := d - 1) (by omega)) (by omega) rfl (Nat.le_of_ble_eq_true rfl) ew_1712 ew_1713 ?_
          refine ea_if_eq (pc := 143) (tgt := 162) dX12_order_143 rfl (fun c135 => ?_) (fun c135 => ?_)
          · have H := H.1 c135
            refine ea_iload_n (pc := 162) dX12_order_162 rfl 2 rfl ?_
            refine ea_bipush (pc := 163) dX12_order_163 (v := 20) rfl ?_
            refine ea_bipush (pc := 165) dX12_order_165 (v := 19) rfl ?_
            refine ea_aload_n (pc := 167) dX12_order_167 rfl 0 rfl ?_
            refine ea_getR (pc := 168) dX12_order_168 ec_12 (k := 97) (Nat.le_of_ble_eq_true rfl) rfl (Or.inl ew_1442) (hs_h.1 0 (by decide)).1 (hs_h.1 0 (by decide)).2.1 (hs_h.2 0 97 rfl) ?_
            refine ea_iload_n (pc := 171) dX12_order_171 rfl 1 rfl ?_
            obtain ⟨z108, H⟩ := H
            refine ea_iald (pc := 172) dX12_order_172 (hs_h.1 70 (by decide)).1 (hs_h.1 70 (by decide)).2.1 (ea_vpl (hs_h.1 70 (by decide)).2.2 z108) ?_
            refine ea_iadd (pc := 173) dX12_order_173 ?_
            refine ea_callS (pc := 174) (d' := d - 1) (As := [vI x2, vI 20, vI ((19 : Int32) + (ea_i h (b0 + 70) (Int32.toNatClampNeg x1)))]) (st := []) dX12_order_174 kX12_isIn (sX12_isIn (d := d - 1) (by omega)) (by omega) rfl (Nat.le_of_ble_eq_true rfl) ew_1712 ew_1713 ?_
            refine ea_if_eq (pc := 177) (tgt := 198) dX12_order_177 rfl (fun c127 => ?_) (fun c127 => ?_)
            · have H := H.1 c127
              refine ea_ldc2 (pc := 198) dX12_order_198 ew_2118 ?_
              obtain ⟨rfl, rfl⟩ := H
              exact ea_lreturn (pc := 201) dX12_order_201 rfl
            · have H := H.2 c127
              refine ea_aload_n (pc := 180) dX12_order_180 rfl 0 rfl ?_
              refine ea_getR (pc := 181) dX12_order_181 ec_12 (k := 99) (Nat.le_of_ble_eq_true rfl) rfl (Or.inl ew_1444) (hs_h.1 0 (by decide)).1 (hs_h.1 0 (by decide)).2.1 (hs_h.2 0 99 rfl) ?_
              refine ea_aload_n (pc := 184) dX12_order_184 rfl 0 rfl ?_
              refine ea_iload_n (pc := 185) dX12_order_185 rfl 1 rfl ?_
              refine ea_iload_n (pc := 186) dX12_order_186 rfl 2 rfl ?_
              refine ea_bipush (pc := 187) dX12_order_187 (v := 20) rfl ?_
              refine ea_isub (pc := 189) dX12_order_189 ?_
              obtain ⟨d121, xc125, h122, m123, q124, hs_h122, H⟩ := H
              refine ea_callV (pc := 190) (As := [vI x1, vI (x2 - (20 : Int32))]) (st := [vR (some (b0 + 72))]) dX12_order_190 kX12_ordered m123 q124 rfl (Nat.le_of_ble_eq_true rfl) ew_2123 ew_2125 ew_101 (ci := 12) rfl (by decide) (hs_h.1 0 (by decide)).1 (hs_h.1 0 (by decide)).2.1 ?_
              obtain ⟨z126, H⟩ := H
              refine ea_iald (pc := 193) dX12_order_193 (hs_h122.1 72 (by decide)).1 (hs_h122.1 72 (by decide)).2.1 (ea_vpl (hs_h122.1 72 (by decide)).2.2 z126) ?_
              refine ea_i2l (pc := 194) dX12_order_194 ?_
              refine ea_goto (pc := 195) (tgt := 201) dX12_order_195 rfl ?_
              obtain ⟨rfl, rfl⟩ := H
              exact ea_lreturn (pc := 201) dX12_order_201 rfl
          · have H := H.2 c135
            refine ea_aload_n (pc := 146) dX12_order_146 rfl 0 rfl ?_
            refine ea_getR (pc := 147) dX12_order_147 ec_12 (k := 98) (Nat.le_of_ble_eq_true rfl) rfl (Or.inl ew_1443) (hs_h.1 0 (by decide)).1 (hs_h.1 0 (by decide)).2.1 (hs_h.2 0 98 rfl) ?_
            refine ea_aload_n (pc := 150) dX12_order_150 rfl 0 rfl ?_
            refine ea_iload_n (pc := 151) dX12_order_151 rfl 1 rfl ?_
            refine ea_iload_n (pc := 152) dX12_order_152 rfl 2 rfl ?_
            refine ea_bipush (pc := 153) dX12_order_153 (v := 10) rfl ?_
            refine ea_isub (pc := 155) dX12_order_155 ?_
            obtain ⟨d129, xc133, h130, m131, q132, hs_h130, H⟩ := H
            refine ea_callV (pc := 156) (As := [vI x1, vI (x2 - (10 : Int32))]) (st := [vR (some (b0 + 71))]) dX12_order_156 kX12_ordered m131 q132 rfl (Nat.le_of_ble_eq_true rfl) ew_2123 ew_2125 ew_101 (ci := 12) rfl (by decide) (hs_h.1 0 (by decide)).1 (hs_h.1 0 (by decide)).2.1 ?_
            obtain ⟨z134, H⟩ := H
            refine ea_iald (pc := 159) dX12_order_159 (hs_h130.1 71 (by decide)).1 (hs_h130.1 71 (by decide)).2.1 (ea_vpl (hs_h130.1 71 (by decide)).2.2 z134) ?_
            refine ea_i2l (pc := 160) dX12_order_160 ?_
            obtain ⟨rfl, rfl⟩ := H
            exact ea_lreturn (pc := 161) dX12_order_161 rfl
        · have H := H.2 c137
          exact H
    · have H := H.2 c140
      refine ea_aload_n (pc := 16) dX12_order_16 rfl 0 rfl ?_
      refine ea_getR (pc := 17) dX12_order_17 ec_12 (k := 97) (Nat.le_of_ble_eq_true rfl) rfl (Or.inl ew_1442) (hs_h.1 0 (by decide)).1 (hs_h.1 0 (by decide)).2.1 (hs_h.2 0 97 rfl) ?_
      refine ea_iload_n (pc := 20) dX12_order_20 rfl 1 rfl ?_
      obtain ⟨z139, H⟩ := H
      refine ea_iald (pc := 21) dX12_order_21 (hs_h.1 70 (by decide)).1 (hs_h.1 70 (by decide)).2.1 (ea_vpl (hs_h.1 70 (by decide)).2.2 z139) ?_
      refine ea_i2l (pc := 22) dX12_order_22 ?_
      obtain ⟨rfl, rfl⟩ := H
      exact ea_lreturn (pc := 23) dX12_order_23 rfl
  · have H := H.2 c141
    refine ea_ldc2 (pc := 8) dX12_order_8 ew_2118 ?_
    obtain ⟨rfl, rfl⟩ := H
    exact ea_lreturn (pc := 11) dX12_order_11 rfl
theorem pX12_order_34 {d b0 : Nat} {h0 hE h : ea_H} {rv : Option ea_V} {x1 : Int32} {x2 : Int32} (hd : 3 ≤ d) (hs_h : ShM b0 h) (H : vp_in x1 120 ∧ (¬ (ea_i h (b0 + 70) (Int32.toNatClampNeg x1)) = (0 : Int32) → ea_W mX12_order d h0 rv hE 55 [(0, vR (some (b0 + 0))), (1, vI x1), (2, vI x2), (3, vJ 1), (5, vJ 1), (7, vI 0)] [] h) ∧ ((ea_i h (b0 + 70) (Int32.toNatClampNeg x1)) = (0 : Int32) → rv = some (vJ (-1)) ∧ hE = h)) : ea_W mX12_order d h0 rv hE 34 [(0, vR (some (b0 + 0))), (1, vI x1), (2, vI x2)] [] h := by
  refine ea_aload_n (pc := 34) dX12_order_34 rfl 0 rfl ?_
  refine ea_getR (pc := 35) dX12_order_35 ec_12 (k := 97) (Nat.le_of_ble_eq_true rfl) rfl (Or.inl ew_1442) (hs_h.1 0 (by decide)).1 (hs_h.1 0 (by decide)).2.1 (hs_h.2 0 97 rfl) ?_
  refine ea_iload_n (pc := 38) dX12_order_38 rfl 1 rfl ?_
  obtain ⟨z1, H⟩ := H
  refine ea_iald (pc := 39) dX12_order_39 (hs_h.1 70 (by decide)).1 (hs_h.1 70 (by decide)).2.1 (ea_vpl (hs_h.1 70 (by decide)).2.2 z1) ?_
  refine ea_if_ne (pc := 40) (tgt := 47) dX12_order_40 rfl (fun c2 => ?_) (fun c2 => ?_)
  · have H := H.1 c2
    refine ea_lconst (pc := 47) dX12_order_47 (v := 1) rfl ?_
    refine ea_lstore_n (pc := 48) (lv' := [(0, vR (some (b0 + 0))), (1, vI x1), (2, vI x2), (3, vJ 1)]) dX12_order_48 rfl (Nat.le_of_ble_eq_true rfl) [1, 2, 3, 0] rfl ?_
    refine ea_lconst (pc := 49) dX12_order_49 (v := 1) rfl ?_
    refine ea_lstore (pc := 50) (lv' := [(0, vR (some (b0 + 0))), (1, vI x1), (2, vI x2), (3, vJ 1), (5, vJ 1)]) dX12_order_50 (Nat.le_of_ble_eq_true rfl) [1, 2, 3, 4, 0] rfl ?_
    refine ea_iconst (pc := 52) dX12_order_52 (v := 0) rfl ?_
    refine ea_istore (pc := 53) (lv' := [(0, vR (some (b0 + 0))), (1, vI x1), (2, vI x2), (3, vJ 1), (5, vJ 1), (7, vI 0)]) dX12_order_53 (Nat.le_of_ble_eq_true rfl) [1, 2, 3, 4, 5, 0] rfl ?_
    exact H
  · have H := H.2 c2
    refine ea_ldc2 (pc := 43) dX12_order_43 ew_2118 ?_
    obtain ⟨rfl, rfl⟩ := H
    exact ea_lreturn (pc := 46) dX12_order_46 rfl
theorem pX12_order_55 {d b0 : Nat} {h0 hE h : ea_H} {rv : Option ea_V} {x1 : Int32} {x2 : Int32} {y3 : Int64} {y5 : Int64} {x7 : Int32} (hd : 3 ≤ d) (hs_h : ShM b0 h) (H : vp_in x1 120 ∧ ((ea_i h (b0 + 70) (Int32.toNatClampNeg x1)) ≤ x7 → ∃ (d2 : Nat) (yc6 : Int64) (h3 : ea_H), ea_Met mX12_common d2 [vJ (y3 - y5), vJ y3] h (some (vJ yc6)) h3 ∧ d2 + 1 ≤ d ∧ ShM b0 h3 ∧ (¬ x2 = (1 : Int32) → (¬ yc6 = 0) ∧ rv = some (vJ (y3 / yc6)) ∧ hE = h3) ∧ (x2 = (1 : Int32) → (¬ yc6 = 0) ∧ rv = some (vJ ((y3 - y5) / yc6)) ∧ hE = h3)) ∧ (¬ (ea_i h (b0 + 70) (Int32.toNatClampNeg x1)) ≤ x7 → vp_in (((4 : Int32) * x1) + x7) 480 ∧ ea_W mX12_order d h0 rv hE 55 [(0, vR (some (b0 + 0))), (1, vI x1), (2, vI x2), (3, vJ (y3 * (100 : Int64))), (5, vJ (y5 * (Int32.toInt64 ((100 : Int32) - (ea_i h (b0 + 72) (Int32.toNatClampNeg (((4 : Int32) * x1) + x7))))))), (7, vI (x7 + 1))] [] h)) : ea_W mX12_order d h0 rv hE 55 [(0, vR (some (b0 + 0))), (1, vI x1), (2, vI x2), (3, vJ y3), (5, vJ y5), (7, vI x7)] [] h := by
  refine ea_iload (pc := 55) dX12_order_55 5 rfl ?_
  refine ea_aload_n (pc := 57) dX12_order_57 rfl 0 rfl ?_
  refine ea_getR (pc := 58) dX12_order_58 ec_12 (k := 97) (Nat.le_of_ble_eq_true rfl) rfl (Or.inl ew_1442) (hs_h.1 0 (by decide)).1 (hs_h.1 0 (by decide)).2.1 (hs_h.2 0 97 rfl) ?_
  refine ea_iload_n (pc := 61) dX12_order_61 rfl 1 rfl ?_
  obtain ⟨z1, H⟩ := H
  refine ea_iald (pc := 62) dX12_order_62 (hs_h.1 70 (by decide)).1 (hs_h.1 70 (by decide)).2.1 (ea_vpl (hs_h.1 70 (by decide)).2.2 z1) ?_
  refine ea_icmp_ge (pc := 63) (tgt := 98) dX12_order_63 rfl (fun c11 => ?_) (fun c11 => ?_)
  · have H := H.1 c11
    refine ea_lload_n (pc := 98) dX12_order_98 rfl 3 rfl ?_
    refine ea_lload (pc := 99) dX12_order_99 4 rfl ?_
    refine ea_lsub (pc := 101) dX12_order_101 ?_
    refine ea_lload_n (pc := 102) dX12_order_102 rfl 3 rfl ?_
    obtain ⟨d2, yc6, h3, m4, q5, hs_h3, H⟩ := H
    refine ea_callS (pc := 103) (As := [vJ (y3 - y5), vJ y3]) (st := []) dX12_order_103 kX12_common m4 q5 rfl (Nat.le_of_ble_eq_true rfl) ew_2120 ew_2121 ?_
    refine ea_lstore (pc := 106) (lv' := [(2, vI x2), (3, vJ y3), (5, vJ y5), (7, vJ yc6)]) dX12_order_106 (Nat.le_of_ble_eq_true rfl) [3, 4, 5, 0] rfl ?_
    refine ea_iload_n (pc := 108) dX12_order_108 rfl 0 rfl ?_
    refine ea_iconst (pc := 109) dX12_order_109 (v := 1) rfl ?_
    refine ea_icmp_ne (pc := 110) (tgt := 123) dX12_order_110 rfl (fun c9 => ?_) (fun c9 => ?_)
    · have H := H.1 c9
      refine ea_lload_n (pc := 123) dX12_order_123 rfl 1 rfl ?_
      refine ea_lload (pc := 124) dX12_order_124 3 rfl ?_
      obtain ⟨z7, H⟩ := H
      refine ea_ldiv (pc := 126) dX12_order_126 z7 ?_
      obtain ⟨rfl, rfl⟩ := H
      exact ea_lreturn (pc := 127) dX12_order_127 rfl
    · have H := H.2 c9
      refine ea_lload_n (pc := 113) dX12_order_113 rfl 1 rfl ?_
      refine ea_lload (pc := 114) dX12_order_114 2 rfl ?_
      refine ea_lsub (pc := 116) dX12_order_116 ?_
      refine ea_lload (pc := 117) dX12_order_117 3 rfl ?_
      obtain ⟨z8, H⟩ := H
      refine ea_ldiv (pc := 119) dX12_order_119 z8 ?_
      refine ea_goto (pc := 120) (tgt := 127) dX12_order_120 rfl ?_
      obtain ⟨rfl, rfl⟩ := H
      exact ea_lreturn (pc := 127) dX12_order_127 rfl
  · have H := H.2 c11
    refine ea_lload_n (pc := 66) dX12_order_66 rfl 3 rfl ?_
    refine ea_ldc2 (pc := 67) dX12_order_67 ew_2119 ?_
    refine ea_lmul (pc := 70) dX12_order_70 ?_
    refine ea_lstore_n (pc := 71) (lv' := [(0, vR (some (b0 + 0))), (1, vI x1), (2, vI x2), (3, vJ (y3 * (100 : Int64))), (5, vJ y5), (7, vI x7)]) dX12_order_71 rfl (Nat.le_of_ble_eq_true rfl) [1, 2, 3, 0, 4, 5] rfl ?_
    refine ea_lload (pc := 72) dX12_order_72 4 rfl ?_
    refine ea_bipush (pc := 74) dX12_order_74 (v := 100) rfl ?_
    refine ea_aload_n (pc := 76) dX12_order_76 rfl 0 rfl ?_
    refine ea_getR (pc := 77) dX12_order_77 ec_12 (k := 99) (Nat.le_of_ble_eq_true rfl) rfl (Or.inl ew_1444) (hs_h.1 0 (by decide)).1 (hs_h.1 0 (by decide)).2.1 (hs_h.2 0 99 rfl) ?_
    refine ea_iconst (pc := 80) dX12_order_80 (v := 4) rfl ?_
    refine ea_iload_n (pc := 81) dX12_order_81 rfl 1 rfl ?_
    refine ea_imul (pc := 82) dX12_order_82 ?_
    refine ea_iload (pc := 83) dX12_order_83 5 rfl ?_
    refine ea_iadd (pc := 85) dX12_order_85 ?_
    obtain ⟨z10, H⟩ := H
    refine ea_iald (pc := 86) dX12_order_86 (hs_h.1 72 (by decide)).1 (hs_h.1 72 (by decide)).2.1 (ea_vpl (hs_h.1 72 (by decide)).2.2 z10) ?_
    refine ea_isub (pc := 87) dX12_order_87 ?_
    refine ea_i2l (pc := 88) dX12_order_88 ?_
    refine ea_lmul (pc := 89) dX12_order_89 ?_
    refine ea_lstore (pc := 90) (lv' := [(0, vR (some (b0 + 0))), (1, vI x1), (2, vI x2), (3, vJ (y3 * (100 : Int64))), (5, vJ (y5 * (Int32.toInt64 ((100 : Int32) - (ea_i h (b0 + 72) (Int32.toNatClampNeg (((4 : Int32) * x1) + x7))))))), (7, vI x7)]) dX12_order_90 (Nat.le_of_ble_eq_true rfl) [1, 2, 3, 4, 0, 5] rfl ?_
    refine ea_iinc (pc := 92) (v := 1) (lv' := [(0, vR (some (b0 + 0))), (1, vI x1), (2, vI x2), (3, vJ (y3 * (100 : Int64))), (5, vJ (y5 * (Int32.toInt64 ((100 : Int32) - (ea_i h (b0 + 72) (Int32.toNatClampNeg (((4 : Int32) * x1) + x7))))))), (7, vI (x7 + 1))]) dX12_order_92 5 rfl rfl (Nat.le_of_ble_eq_true rfl) [1, 2, 3, 4, 5, 0] rfl ?_
    refine ea_goto (pc := 95) (tgt := 55) dX12_order_95 rfl ?_
    exact H
theorem pX12_found_0 {d b0 : Nat} {h0 hE h : ea_H} {rv : Option ea_V} {x1 : Int32} {x2 : Int32} (hd : 3 ≤ d) (hs_h : ShM b0 h) (H : ((vX12_isLetterOf b0 (x1 : Int32) h) = (0 : Int32) → rv = some (vI 0) ∧ hE = h) ∧ (¬ (vX12_isLetterOf b0 (x1 : Int32) h) = (0 : Int32) → vp_in x1 120 ∧ ((ea_i h (b0 + 55) (Int32.toNatClampNeg x1)) = (3 : Int32) → ea_W mX12_found d h0 rv hE 22 [(0, vR (some (b0 + 0))), (1, vI x1), (2, vI x2), (3, vI 0)] [] h) ∧ (¬ (ea_i h (b0 + 55) (Int32.toNatClampNeg x1)) = (3 : Int32) → rv = some (vI 0) ∧ hE = h))) : ea_W mX12_found d h0 rv hE 0 [(0, vR (some (b0 + 0))), (1, vI x1), (2, vI x2)] [] h := by
  refine ea_aload_n (pc := 0) dX12_found_0 rfl 0 rfl ?_
  refine ea_iload_n (pc := 1) dX12_found_1 rfl 1 rfl ?_
  refine ea_callV (pc := 2) (d' := d - 1) (As := [vI x1]) (st := []) dX12_found_2 kX12_isLetterOf (sX12_isLetterOf (d := d - 1) (by omega) hs_h) (by omega) rfl (Nat.le_of_ble_eq_true rfl) ew_2019 ew_2021 ew_89 (ci := 12) rfl (by decide) (hs_h.1 0 (by decide)).1 (hs_h.1 0 (by decide)).2.1 ?_
  refine ea_if_eq (pc := 5) (tgt := 18) dX12_found_5 rfl (fun c11 => ?_) (fun c11 => ?_)
  · have H := H.1 c11
    refine ea_iconst (pc := 18) dX12_found_18 (v := 0) rfl ?_
    obtain ⟨rfl, rfl⟩ := H
    exact ea_ireturn (pc := 19) dX12_found_19 rfl (ea_bn (Or.inl rfl))
  · have H := H.2 c11
    refine ea_aload_n (pc := 8) dX12_found_8 rfl 0 rfl ?_
    refine ea_getR (pc := 9) dX12_found_9 ec_12 (k := 81) (Nat.le_of_ble_eq_true rfl) rfl (Or.inl ew_1426) (hs_h.1 0 (by decide)).1 (hs_h.1 0 (by decide)).2.1 (hs_h.2 0 81 rfl) ?_
    refine ea_iload_n (pc := 12) dX12_found_12 rfl 1 rfl ?_
    obtain ⟨z9, H⟩ := H
    refine ea_iald (pc := 13) dX12_found_13 (hs_h.1 55 (by decide)).1 (hs_h.1 55 (by decide)).2.1 (ea_vpl (hs_h.1 55 (by decide)).2.2 z9) ?_
    refine ea_iconst (pc := 14) dX12_found_14 (v := 3) rfl ?_
    refine ea_icmp_eq (pc := 15) (tgt := 20) dX12_found_15 rfl (fun c10 => ?_) (fun c10 => ?_)
    · have H := H.1 c10
      refine ea_iconst (pc := 20) dX12_found_20 (v := 0) rfl ?_
      refine ea_istore_n (pc := 21) (lv' := [(0, vR (some (b0 + 0))), (1, vI x1), (2, vI x2), (3, vI 0)]) dX12_found_21 rfl (Nat.le_of_ble_eq_true rfl) [1, 2, 3, 0] rfl ?_
      exact H
    · have H := H.2 c10
      refine ea_iconst (pc := 18) dX12_found_18 (v := 0) rfl ?_
      obtain ⟨rfl, rfl⟩ := H
      exact ea_ireturn (pc := 19) dX12_found_19 rfl (ea_bn (Or.inl rfl))
theorem pX12_found_22 {d b0 : Nat} {h0 hE h : ea_H} {rv : Option ea_V} {x1 : Int32} {x2 : Int32} {x3 : Int32} (hd : 3 ≤ d) (hs_h : ShM b0 h) (H : vp_in x1 120 ∧ ((ea_i h (b0 + 70) (Int32.toNatClampNeg x1)) ≤ x3 → rv = some (vI 0) ∧ hE = h) ∧ (¬ (ea_i h (b0 + 70) (Int32.toNatClampNeg x1)) ≤ x3 → vp_in (((4 : Int32) * x1) + x3) 480 ∧ ((ea_i h (b0 + 71) (Int32.toNatClampNeg (((4 : Int32) * x1) + x3))) = x2 → (okX12_turns b0 (x1 : Int32) ((ea_i h (b0 + 0) 0) : Int32) (5 : Int32) (x2 : Int32) h) ∧ ∀ h4, h4 = (wX12_turns b0 (x1 : Int32) ((ea_i h (b0 + 0) 0) : Int32) (5 : Int32) (x2 : Int32) h) → rv = some (vI 1) ∧ hE = h4) ∧ (¬ (ea_i h (b0 + 71) (Int32.toNatClampNeg (((4 : Int32) * x1) + x3))) = x2 → ea_W mX12_found d h0 rv hE 22 [(0, vR (some (b0 + 0))), (1, vI x1), (2, vI x2), (3, vI (x3 + 1))] [] h))) : ea_W mX12_found d h0 rv hE 22 [(0, vR (some (b0 + 0))), (1, vI x1), (2, vI x2), (3, vI x3)] [] h := by
  refine ea_iload_n (pc := 22) dX12_found_22 rfl 3 rfl ?_
  refine ea_aload_n (pc := 23) dX12_found_23 rfl 0 rfl ?_
  refine ea_getR (pc := 24) dX12_found_24 ec_12 (k := 97) (Nat.le_of_ble_eq_true rfl) rfl (Or.inl ew_1442) (hs_h.1 0 (by decide)).1 (hs_h.1 0 (by decide)).2.1 (hs_h.2 0 97 rfl) ?_
  refine ea_iload_n (pc := 27) dX12_found_27 rfl 1 rfl ?_
  obtain ⟨z1, H⟩ := H
  refine ea_iald (pc := 28) dX12_found_28 (hs_h.1 70 (by decide)).1 (hs_h.1 70 (by decide)).2.1 (ea_vpl (hs_h.1 70 (by decide)).2.2 z1) ?_
  refine ea_icmp_ge (pc := 29) (tgt := 68) dX12_found_29 rfl (fun c10 => ?_) (fun c10 => ?_)
  · have H := H.1 c10
    refine ea_iconst (pc := 68) dX12_found_68 (v := 0) rfl ?_
    obtain ⟨rfl, rfl⟩ := H
    exact ea_ireturn (pc := 69) dX12_found_69 rfl (ea_bn (Or.inl rfl))
  · have H := H.2 c10
    refine ea_aload_n (pc := 32) dX12_found_32 rfl 0 rfl ?_
    refine ea_getR (pc := 33) dX12_found_33 ec_12 (k := 98) (Nat.le_of_ble_eq_true rfl) rfl (Or.inl ew_1443) (hs_h.1 0 (by decide)).1 (hs_h.1 0 (by decide)).2.1 (hs_h.2 0 98 rfl) ?_
    refine ea_iconst (pc := 36) dX12_found_36 (v := 4) rfl ?_
    refine ea_iload_n (pc := 37) dX12_found_37 rfl 1 rfl ?_
    refine ea_imul (pc := 38) dX12_found_38 ?_
    refine ea_iload_n (pc := 39) dX12_found_39 rfl 3 rfl ?_
    refine ea_iadd (pc := 40) dX12_found_40 ?_
    obtain ⟨z2, H⟩ := H
    refine ea_iald (pc := 41) dX12_found_41 (hs_h.1 71 (by decide)).1 (hs_h.1 71 (by decide)).2.1 (ea_vpl (hs_h.1 71 (by decide)).2.2 z2) ?_
    refine ea_iload_n (pc := 42) dX12_found_42 rfl 2 rfl ?_
    refine ea_icmp_eq (pc := 43) (tgt := 49) dX12_found_43 rfl (fun c9 => ?_) (fun c9 => ?_)
    · have H := H.1 c9
      refine ea_aload_n (pc := 49) dX12_found_49 rfl 0 rfl ?_
      refine ea_iload_n (pc := 50) dX12_found_50 rfl 1 rfl ?_
      refine ea_aload_n (pc := 51) dX12_found_51 rfl 0 rfl ?_
      refine ea_getI (pc := 52) dX12_found_52 ec_12 (k := 0) (Nat.le_of_ble_eq_true rfl) rfl (Or.inl ew_1345) (hs_h.1 0 (by decide)).1 (hs_h.1 0 (by decide)).2.1 ?_
      refine ea_iconst (pc := 55) dX12_found_55 (v := 5) rfl ?_
      refine ea_iload_n (pc := 56) dX12_found_56 rfl 2 rfl ?_
      obtain ⟨z7, H⟩ := H
      refine ea_callV (pc := 57) (d' := d - 1) (As := [vI x1, vI (ea_i h (b0 + 0) 0), vI 5, vI x2]) (st := []) dX12_found_57 kX12_turns (sX12_turns (d := d - 1) (by omega) hs_h z7) (by omega) rfl (Nat.le_of_ble_eq_true rfl) ew_2011 ew_2013 ew_88 (ci := 12) rfl (by decide) (hs_h.1 0 (by decide)).1 (hs_h.1 0 (by decide)).2.1 ?_
      obtain ⟨h4, E8⟩ : ∃ z, z = (wX12_turns b0 (x1 : Int32) ((ea_i h (b0 + 0) 0) : Int32) (5 : Int32) (x2 : Int32) h) := ⟨_, rfl⟩
      have H := H h4 E8
      refine ea_nm E8 ?_
      have hs_h4 : ShM b0 h4 := by rw [E8]; exact shX12_turns hs_h
      refine ea_iconst (pc := 60) dX12_found_60 (v := 1) rfl ?_
      obtain ⟨rfl, rfl⟩ := H
      exact ea_ireturn (pc := 61) dX12_found_61 rfl (ea_bn (Or.inr rfl))
    · have H := H.2 c9
      refine ea_goto (pc := 46) (tgt := 62) dX12_found_46 rfl ?_
      refine ea_iinc (pc := 62) (v := 1) (lv' := [(0, vR (some (b0 + 0))), (1, vI x1), (2, vI x2), (3, vI (x3 + 1))]) dX12_found_62 3 rfl rfl (Nat.le_of_ble_eq_true rfl) [1, 2, 3, 0] rfl ?_
      refine ea_goto (pc := 65) (tgt := 22) dX12_found_65 rfl ?_
      exact H
theorem pX12_rob_0 {d b0 : Nat} {h0 hE h : ea_H} {rv : Option ea_V} {x1 : Int32} {x2 : Int32} (hd : 3 ≤ d) (hs_h : ShM b0 h) (H : ((vX12_isTrain b0 (x1 : Int32) h) = (0 : Int32) → rv = some (vI (-1)) ∧ hE = h) ∧ (¬ (vX12_isTrain b0 (x1 : Int32) h) = (0 : Int32) → ((vX12_isDay (x2 : Int32) h) = (0 : Int32) → rv = some (vI (-1)) ∧ hE = h) ∧ (¬ (vX12_isDay (x2 : Int32) h) = (0 : Int32) → (¬ (ea_i h (b0 + 0) 100) = (20 : Int32) → ∃ (d425 : Nat) (xc429 : Int32) (h426 : ea_H), ea_Met mX12_gone d425 [vR (some (b0 + 0)), vI (vX12_run (x1 : Int32) (x2 : Int32) h)] h (some (vI xc429)) h426 ∧ d425 + 1 ≤ d ∧ ShM b0 h426 ∧ (xc429 = ((-1) : Int32) → rv = some (vI (-1)) ∧ hE = h426) ∧ (¬ xc429 = ((-1) : Int32) → (okX12_comesAt b0 ((vX12_run (x1 : Int32) (x2 : Int32) h) : Int32) ((xc429 + (1 : Int32)) : Int32) h426) ∧ ((ea_i h426 (b0 + 0) 0) < (vX12_comesAt b0 ((vX12_run (x1 : Int32) (x2 : Int32) h) : Int32) ((xc429 + (1 : Int32)) : Int32) h426) → ∀ h456, h456 = ea_wi h426 (b0 + 0) 100 ((ea_i h426 (b0 + 0) 100) + (1 : Int32)) → vp_in (ea_i h426 (b0 + 0) 100) 20 ∧ ∀ h470, h470 = ea_wi h456 (b0 + 73) (Int32.toNatClampNeg (ea_i h426 (b0 + 0) 100)) (vX12_code ((vX12_run (x1 : Int32) (x2 : Int32) h) : Int32) h456) → vp_in (ea_i h426 (b0 + 0) 100) 20 ∧ ∀ h473, h473 = ea_wi h470 (b0 + 74) (Int32.toNatClampNeg (ea_i h426 (b0 + 0) 100)) (ea_i h470 (b0 + 0) 0) → ea_W mX12_rob d h0 rv hE 104 [(0, vR (some (b0 + 0))), (3, vI (vX12_run (x1 : Int32) (x2 : Int32) h)), (5, vI (ea_i h426 (b0 + 0) 100)), (6, vI 0)] [] h473) ∧ (¬ (ea_i h426 (b0 + 0) 0) < (vX12_comesAt b0 ((vX12_run (x1 : Int32) (x2 : Int32) h) : Int32) ((xc429 + (1 : Int32)) : Int32) h426) → rv = some (vI (-1)) ∧ hE = h426))) ∧ ((ea_i h (b0 + 0) 100) = (20 : Int32) → rv = some (vI (-1)) ∧ hE = h)))) : ea_W mX12_rob d h0 rv hE 0 [(0, vR (some (b0 + 0))), (1, vI x1), (2, vI x2)] [] h := by
  refine ea_aload_n (pc := 0) dX12_rob_0 rfl 0 rfl ?_
  refine ea_iload_n (pc := 1) dX12_rob_1 rfl 1 rfl ?_
  refine ea_callV (pc := 2) (d' := d - 1) (As := [vI x1]) (st := []) dX12_rob_2 kX12_isTrain (sX12_isTrain (d := d - 1) (by omega) hs_h) (by omega) rfl (Nat.le_of_ble_eq_true rfl) ew_1736 ew_1738 ew_50 (ci := 12) rfl (by decide) (hs_h.1 0 (by decide)).1 (hs_h.1 0 (by decide)).2.1 ?_
  refine ea_if_eq (pc := 5) (tgt := 24) dX12_rob_5 rfl (fun c483 => ?_) (fun c483 => ?_)
  · have H := H.1 c483
    refine ea_iconst (pc := 24) dX12_rob_24 (v := (-1)) rfl ?_
    obtain ⟨rfl, rfl⟩ := H
    exact ea_ireturn (pc := 25) dX12_rob_25 rfl rfl
  · have H := H.2 c483
    refine ea_iload_n (pc := 8) dX12_rob_8 rfl 2 rfl ?_
    refine ea_callS (pc := 9) (d' := d - 1) (As := [vI x2]) (st := []) dX12_rob_9 kX12_isDay (sX12_isDay (d := d - 1) (by omega)) (by omega) rfl (Nat.le_of_ble_eq_true rfl) ew_1752 ew_1753 ?_
    refine ea_if_eq (pc := 12) (tgt := 24) dX12_rob_12 rfl (fun c481 => ?_) (fun c481 => ?_)
    · have H := H.1 c481
      refine ea_iconst (pc := 24) dX12_rob_24 (v := (-1)) rfl ?_
      obtain ⟨rfl, rfl⟩ := H
      exact ea_ireturn (pc := 25) dX12_rob_25 rfl rfl
    · have H := H.2 c481
      refine ea_aload_n (pc := 15) dX12_rob_15 rfl 0 rfl ?_
      refine ea_getI (pc := 16) dX12_rob_16 ec_12 (k := 100) (Nat.le_of_ble_eq_true rfl) rfl (Or.inl ew_1445) (hs_h.1 0 (by decide)).1 (hs_h.1 0 (by decide)).2.1 ?_
      refine ea_bipush (pc := 19) dX12_rob_19 (v := 20) rfl ?_
      refine ea_icmp_ne (pc := 21) (tgt := 26) dX12_rob_21 rfl (fun c480 => ?_) (fun c480 => ?_)
      · have H := H.1 c480
        refine ea_iload_n (pc := 26) dX12_rob_26 rfl 1 rfl ?_
        refine ea_iload_n (pc := 27) dX12_rob_27 rfl 2 rfl ?_
        refine ea_callS (pc := 28) (d' := d - 1) (As := [vI x1, vI x2]) (st := []) dX12_rob_28 kX12_run (sX12_run (d := d - 1) (by omega)) (by omega) rfl (Nat.le_of_ble_eq_true rfl) ew_1755 ew_1756 ?_
        refine ea_istore_n (pc := 31) (lv' := [(0, vR (some (b0 + 0))), (3, vI (vX12_run (x1 : Int32) (x2 : Int32) h))]) dX12_rob_31 rfl (Nat.le_of_ble_eq_true rfl) [1, 0] rfl ?_
        refine ea_aload_n (pc := 32) dX12_rob_32 rfl 0 rfl ?_
        refine ea_iload_n (pc := 33) dX12_rob_33 rfl 1 rfl ?_
        obtain ⟨d425, xc429, h426, m427, q428, hs_h426, H⟩ := H
        refine ea_callV (pc := 34) (As := [vI (vX12_run (x1 : Int32) (x2 : Int32) h)]) (st := []) dX12_rob_34 kX12_gone m427 q428 rfl (Nat.le_of_ble_eq_true rfl) ew_2094 ew_2096 ew_99 (ci := 12) rfl (by decide) (hs_h.1 0 (by decide)).1 (hs_h.1 0 (by decide)).2.1 ?_
        refine ea_istore (pc := 37) (lv' := [(0, vR (some (b0 + 0))), (3, vI (vX12_run (x1 : Int32) (x2 : Int32) h)), (4, vI xc429)]) dX12_rob_37 (Nat.le_of_ble_eq_true rfl) [1, 2, 0] rfl ?_
        refine ea_iload (pc := 39) dX12_rob_39 2 rfl ?_
        refine ea_iconst (pc := 41) dX12_rob_41 (v := (-1)) rfl ?_
        refine ea_icmp_eq (pc := 42) (tgt := 61) dX12_rob_42 rfl (fun c478 => ?_) (fun c478 => ?_)
        · have H := H.1 c478
          refine ea_iconst (pc := 61) dX12_rob_61 (v := (-1)) rfl ?_
          obtain ⟨rfl, rfl⟩ := H
          exact ea_ireturn (pc := 62) dX12_rob_62 rfl rfl
        · have H := H.2 c478
          refine ea_aload_n (pc := 45) dX12_rob_45 rfl 0 rfl ?_
          refine ea_iload_n (pc := 46) dX12_rob_46 rfl 1 rfl ?_
          refine ea_iload (pc := 47) dX12_rob_47 2 rfl ?_
          refine ea_iconst (pc := 49) dX12_rob_49 (v := 1) rfl ?_
          refine ea_iadd (pc := 50) dX12_rob_50 ?_
          obtain ⟨z477, H⟩ := H
          refine ea_callV (pc := 51) (d' := d - 1) (As := [vI (vX12_run (x1 : Int32) (x2 : Int32) h), vI (xc429 + (1 : Int32))]) (st := []) dX12_rob_51 kX12_comesAt (sX12_comesAt (d := d - 1) (by omega) hs_h426 z477) (by omega) rfl (Nat.le_of_ble_eq_true rfl) ew_1762 ew_1764 ew_52 (ci := 12) rfl (by decide) (hs_h426.1 0 (by decide)).1 (hs_h426.1 0 (by decide)).2.1 ?_
          refine ea_aload_n (pc := 54) dX12_rob_54 rfl 0 rfl ?_
          refine ea_getI (pc := 55) dX12_rob_55 ec_12 (k := 0) (Nat.le_of_ble_eq_true rfl) rfl (Or.inl ew_1345) (hs_h426.1 0 (by decide)).1 (hs_h426.1 0 (by decide)).2.1 ?_
          refine ea_icmp_gt (pc := 58) (tgt := 63) dX12_rob_58 rfl (fun c476 => ?_) (fun c476 => ?_)
          · have H := H.1 c476
            refine ea_aload_n (pc := 63) dX12_rob_63 rfl 0 rfl ?_
            refine ea_getI (pc := 64) dX12_rob_64 ec_12 (k := 100) (Nat.le_of_ble_eq_true rfl) rfl (Or.inl ew_1445) (hs_h426.1 0 (by decide)).1 (hs_h426.1 0 (by decide)).2.1 ?_
            refine ea_istore (pc := 67) (lv' := [(0, vR (some (b0 + 0))), (3, vI (vX12_run (x1 : Int32) (x2 : Int32) h)), (5, vI (ea_i h426 (b0 + 0) 100))]) dX12_rob_67 (Nat.le_of_ble_eq_true rfl) [1, 2, 0] rfl ?_
            refine ea_aload_n (pc := 69) dX12_rob_69 rfl 0 rfl ?_
            refine ea_dup (pc := 70) dX12_rob_70 rfl ?_
            refine ea_getI (pc := 71) dX12_rob_71 ec_12 (k := 100) (Nat.le_of_ble_eq_true rfl) rfl (Or.inl ew_1445) (hs_h426.1 0 (by decide)).1 (hs_h426.1 0 (by decide)).2.1 ?_
            refine ea_iconst (pc := 74) dX12_rob_74 (v := 1) rfl ?_
            refine ea_iadd (pc := 75) dX12_rob_75 ?_
            refine ea_putI (pc := 76) dX12_rob_76 ec_12 (k := 100) (Nat.le_of_ble_eq_true rfl) rfl (Or.inl ⟨rfl, Or.inl ew_1445⟩) rfl rfl (hs_h426.1 0 (by decide)).1 (hs_h426.1 0 (by decide)).2.1 ?_
            obtain ⟨h456, E457⟩ : ∃ z, z = ea_wi h426 (b0 + 0) 100 ((ea_i h426 (b0 + 0) 100) + (1 : Int32)) := ⟨_, rfl⟩
            have H := H h456 E457
            refine ea_nm E457 ?_
            have hs_h456 : ShM b0 h456 := by rw [E457]; exact ShM_wi hs_h426
            refine ea_aload_n (pc := 79) dX12_rob_79 rfl 0 rfl ?_
            refine ea_getR (pc := 80) dX12_rob_80 ec_12 (k := 101) (Nat.le_of_ble_eq_true rfl) rfl (Or.inl ew_1446) (hs_h456.1 0 (by decide)).1 (hs_h456.1 0 (by decide)).2.1 (hs_h456.2 0 101 rfl) ?_
            refine ea_iload (pc := 83) dX12_rob_83 2 rfl ?_
            refine ea_iload_n (pc := 85) dX12_rob_85 rfl 1 rfl ?_
            refine ea_callS (pc := 86) (d' := d - 1) (As := [vI (vX12_run (x1 : Int32) (x2 : Int32) h)]) (st := [vI (ea_i h426 (b0 + 0) 100), vR (some (b0 + 73))]) dX12_rob_86 kX12_code (sX12_code (d := d - 1) (by omega)) (by omega) rfl (Nat.le_of_ble_eq_true rfl) ew_2071 ew_2072 ?_
            obtain ⟨z469, H⟩ := H
            refine ea_iast (pc := 89) dX12_rob_89 (hs_h456.1 73 (by decide)).1 (hs_h456.1 73 (by decide)).2.1 (ea_vpl (hs_h456.1 73 (by decide)).2.2 z469) ?_
            obtain ⟨h470, E471⟩ : ∃ z, z = ea_wi h456 (b0 + 73) (Int32.toNatClampNeg (ea_i h426 (b0 + 0) 100)) (vX12_code ((vX12_run (x1 : Int32) (x2 : Int32) h) : Int32) h456) := ⟨_, rfl⟩
            have H := H h470 E471
            refine ea_nm E471 ?_
            have hs_h470 : ShM b0 h470 := by rw [E471]; exact ShM_wi hs_h456
            refine ea_aload_n (pc := 90) dX12_rob_90 rfl 0 rfl ?_
            refine ea_getR (pc := 91) dX12_rob_91 ec_12 (k := 102) (Nat.le_of_ble_eq_true rfl) rfl (Or.inl ew_1447) (hs_h470.1 0 (by decide)).1 (hs_h470.1 0 (by decide)).2.1 (hs_h470.2 0 102 rfl) ?_
            refine ea_iload (pc := 94) dX12_rob_94 2 rfl ?_
            refine ea_aload_n (pc := 96) dX12_rob_96 rfl 0 rfl ?_
            refine ea_getI (pc := 97) dX12_rob_97 ec_12 (k := 0) (Nat.le_of_ble_eq_true rfl) rfl (Or.inl ew_1345) (hs_h470.1 0 (by decide)).1 (hs_h470.1 0 (by decide)).2.1 ?_
            obtain ⟨z472, H⟩ := H
            refine ea_iast (pc := 100) dX12_rob_100 (hs_h470.1 74 (by decide)).1 (hs_h470.1 74 (by decide)).2.1 (ea_vpl (hs_h470.1 74 (by decide)).2.2 z472) ?_
            obtain ⟨h473, E474⟩ : ∃ z, z = ea_wi h470 (b0 + 74) (Int32.toNatClampNeg (ea_i h426 (b0 + 0) 100)) (ea_i h470 (b0 + 0) 0) := ⟨_, rfl⟩
            have H := H h473 E474
            refine ea_nm E474 ?_
            have hs_h473 : ShM b0 h473 := by rw [E474]; exact ShM_wi hs_h470
            refine ea_iconst (pc := 101) dX12_rob_101 (v := 0) rfl ?_
            refine ea_istore (pc := 102) (lv' := [(0, vR (some (b0 + 0))), (3, vI (vX12_run (x1 : Int32) (x2 : Int32) h)), (5, vI (ea_i h426 (b0 + 0) 100)), (6, vI 0)]) dX12_rob_102 (Nat.le_of_ble_eq_true rfl) [1, 2, 3, 0] rfl ?_
            exact H
          · have H := H.2 c476
            refine ea_iconst (pc := 61) dX12_rob_61 (v := (-1)) rfl ?_
            obtain ⟨rfl, rfl⟩ := H
            exact ea_ireturn (pc := 62) dX12_rob_62 rfl rfl
      · have H := H.2 c480
        refine ea_iconst (pc := 24) dX12_rob_24 (v := (-1)) rfl ?_
        obtain ⟨rfl, rfl⟩ := H
        exact ea_ireturn (pc := 25) dX12_rob_25 rfl rfl
theorem pX12_rob_104 {d b0 : Nat} {h0 hE h : ea_H} {rv : Option ea_V} {x3 : Int32} {x5 : Int32} {x6 : Int32} (hd : 3 ≤ d) (hs_h : ShM b0 h) (H : ((ea_i h (b0 + 0) 63) ≤ x6 → rv = some (vI x5) ∧ hE = h) ∧ (¬ (ea_i h (b0 + 0) 63) ≤ x6 → (okX12_isAboard b0 (x6 : Int32) (x3 : Int32) h) ∧ ((vX12_isAboard b0 (x6 : Int32) (x3 : Int32) h) = (0 : Int32) → ea_W mX12_rob d h0 rv hE 104 [(0, vR (some (b0 + 0))), (3, vI x3), (5, vI x5), (6, vI (x6 + 1))] [] h) ∧ (¬ (vX12_isAboard b0 (x6 : Int32) (x3 : Int32) h) = (0 : Int32) → vp_in x6 120 ∧ (¬ (ea_i h (b0 + 61) (Int32.toNatClampNeg x6)) = (0 : Int32) → vp_in x5 20 ∧ vp_in (((120 : Int32) * x5) + (ea_i h (b0 + 75) (Int32.toNatClampNeg x5))) 2400 ∧ ∀ h69, h69 = ea_wi h (b0 + 77) (Int32.toNatClampNeg (((120 : Int32) * x5) + (ea_i h (b0 + 75) (Int32.toNatClampNeg x5)))) x6 → vp_in x5 20 ∧ vp_in x5 20 ∧ ∀ h73, h73 = ea_wi h69 (b0 + 75) (Int32.toNatClampNeg x5) ((ea_i h69 (b0 + 75) (Int32.toNatClampNeg x5)) + (1 : Int32)) → vp_in x5 20 ∧ (okX12_owed b0 (x6 : Int32) h73) ∧ vp_in x5 20 ∧ ∀ h103, h103 = ea_wi h73 (b0 + 76) (Int32.toNatClampNeg x5) ((ea_i h73 (b0 + 76) (Int32.toNatClampNeg x5)) + (vX12_owed b0 (x6 : Int32) h73)) → (okX12_turns b0 (x6 : Int32) ((ea_i h103 (b0 + 0) 0) : Int32) (4 : Int32) ((vX12_code (x3 : Int32) h103) : Int32) h103) ∧ ∀ h117, h117 = (wX12_turns b0 (x6 : Int32) ((ea_i h103 (b0 + 0) 0) : Int32) (4 : Int32) ((vX12_code (x3 : Int32) h103) : Int32) h103) → ea_W mX12_rob d h0 rv hE 104 [(0, vR (some (b0 + 0))), (3, vI x3), (5, vI x5), (6, vI (x6 + 1))] [] h117) ∧ ((ea_i h (b0 + 61) (Int32.toNatClampNeg x6)) = (0 : Int32) → ea_W mX12_rob d h0 rv hE 104 [(0, vR (some (b0 + 0))), (3, vI x3), (5, vI x5), (6, vI (x6 + 1))] [] h)))) : ea_W mX12_rob d h0 rv hE 104 [(0, vR (some (b0 + 0))), (3, vI x3), (5, vI x5), (6, vI x6)] [] h := by
  refine ea_iload (pc := 104) dX12_rob_104 3 rfl ?_
  refine ea_aload_n (pc := 106) dX12_rob_106 rfl 0 rfl ?_
  refine ea_getI (pc := 107) dX12_rob_107 ec_12 (k := 63) (Nat.le_of_ble_eq_true rfl) rfl (Or.inl ew_1408) (hs_h.1 0 (by decide)).1 (hs_h.1 0 (by decide)).2.1 ?_
  refine ea_icmp_ge (pc := 110) (tgt := 204) dX12_rob_110 rfl (fun c127 => ?_) (fun c127 => ?_)
  · have H := H.1 c127
    refine ea_iload (pc := 204) dX12_rob_204 2 rfl ?_
    obtain ⟨rfl, rfl⟩ := H
    exact ea_ireturn (pc := 206) dX12_rob_206 rfl rfl
  · have H := H.2 c127
    refine ea_aload_n (pc := 113) dX12_rob_113 rfl 0 rfl ?_
    refine ea_iload (pc := 114) dX12_rob_114 3 rfl ?_
    refine ea_iload_n (pc := 116) dX12_rob_116 rfl 1 rfl ?_
    obtain ⟨z126, H⟩ := H
    refine ea_callV (pc := 117) (d' := d - 1) (As := [vI x6, vI x3]) (st := []) dX12_rob_117 kX12_isAboard (sX12_isAboard (d := d - 1) (by omega) hs_h z126) (by omega) rfl (Nat.le_of_ble_eq_true rfl) ew_2067 ew_2069 ew_95 (ci := 12) rfl (by decide) (hs_h.1 0 (by decide)).1 (hs_h.1 0 (by decide)).2.1 ?_
    refine ea_if_eq (pc := 120) (tgt := 198) dX12_rob_120 rfl (fun c125 => ?_) (fun c125 => ?_)
    · have H := H.1 c125
      refine ea_iinc (pc := 198) (v := 1) (lv' := [(0, vR (some (b0 + 0))), (3, vI x3), (5, vI x5), (6, vI (x6 + 1))]) dX12_rob_198 3 rfl rfl (Nat.le_of_ble_eq_true rfl) [1, 2, 3, 0] rfl ?_
      refine ea_goto (pc := 201) (tgt := 104) dX12_rob_201 rfl ?_
      exact H
    · have H := H.2 c125
      refine ea_aload_n (pc := 123) dX12_rob_123 rfl 0 rfl ?_
      refine ea_getR (pc := 124) dX12_rob_124 ec_12 (k := 87) (Nat.le_of_ble_eq_true rfl) rfl (Or.inl ew_1432) (hs_h.1 0 (by decide)).1 (hs_h.1 0 (by decide)).2.1 (hs_h.2 0 87 rfl) ?_
      refine ea_iload (pc := 127) dX12_rob_127 3 rfl ?_
      obtain ⟨z66, H⟩ := H
      refine ea_zald (pc := 129) dX12_rob_129 (hs_h.1 61 (by decide)).1 (hs_h.1 61 (by decide)).2.1 (ea_vpl (hs_h.1 61 (by decide)).2.2 z66) ?_
      refine ea_if_ne (pc := 130) (tgt := 136) dX12_rob_130 rfl (fun c124 => ?_) (fun c124 => ?_)
      · have H := H.1 c124
        refine ea_aload_n (pc := 136) dX12_rob_136 rfl 0 rfl ?_
        refine ea_getR (pc := 137) dX12_rob_137 ec_12 (k := 105) (Nat.le_of_ble_eq_true rfl) rfl (Or.inl ew_1450) (hs_h.1 0 (by decide)).1 (hs_h.1 0 (by decide)).2.1 (hs_h.2 0 105 rfl) ?_
        refine ea_bipush (pc := 140) dX12_rob_140 (v := 120) rfl ?_
        refine ea_iload (pc := 142) dX12_rob_142 2 rfl ?_
        refine ea_imul (pc := 144) dX12_rob_144 ?_
        refine ea_aload_n (pc := 145) dX12_rob_145 rfl 0 rfl ?_
        refine ea_getR (pc := 146) dX12_rob_146 ec_12 (k := 103) (Nat.le_of_ble_eq_true rfl) rfl (Or.inl ew_1448) (hs_h.1 0 (by decide)).1 (hs_h.1 0 (by decide)).2.1 (hs_h.2 0 103 rfl) ?_
        refine ea_iload (pc := 149) dX12_rob_149 2 rfl ?_
        obtain ⟨z67, H⟩ := H
        refine ea_iald (pc := 151) dX12_rob_151 (hs_h.1 75 (by decide)).1 (hs_h.1 75 (by decide)).2.1 (ea_vpl (hs_h.1 75 (by decide)).2.2 z67) ?_
        refine ea_iadd (pc := 152) dX12_rob_152 ?_
        refine ea_iload (pc := 153) dX12_rob_153 3 rfl ?_
        obtain ⟨z68, H⟩ := H
        refine ea_iast (pc := 155) dX12_rob_155 (hs_h.1 77 (by decide)).1 (hs_h.1 77 (by decide)).2.1 (ea_vpl (hs_h.1 77 (by decide)).2.2 z68) ?_
        obtain ⟨h69, E70⟩ : ∃ z, z = ea_wi h (b0 + 77) (Int32.toNatClampNeg (((120 : Int32) * x5) + (ea_i h (b0 + 75) (Int32.toNatClampNeg x5)))) x6 := ⟨_, rfl⟩
        have H := H h69 E70
        refine ea_nm E70 ?_
        have hs_h69 : ShM b0 h69 := by rw [E70]; exact ShM_wi hs_h
        refine ea_aload_n (pc := 156) dX12_rob_156 rfl 0 rfl ?_
        refine ea_getR (pc := 157) dX12_rob_157 ec_12 (k := 103) (Nat.le_of_ble_eq_true rfl) rfl (Or.inl ew_1448) (hs_h69.1 0 (by decide)).1 (hs_h69.1 0 (by decide)).2.1 (hs_h69.2 0 103 rfl) ?_
        refine ea_iload (pc := 160) dX12_rob_160 2 rfl ?_
        refine ea_dup2 (pc := 162) dX12_rob_162 rfl rfl ?_
        obtain ⟨z71, H⟩ := H
        refine ea_iald (pc := 163) dX12_rob_163 (hs_h69.1 75 (by decide)).1 (hs_h69.1 75 (by decide)).2.1 (ea_vpl (hs_h69.1 75 (by decide)).2.2 z71) ?_
        refine ea_iconst (pc := 164) dX12_rob_164 (v := 1) rfl ?_
        refine ea_iadd (pc := 165) dX12_rob_165 ?_
        obtain ⟨z72, H⟩ := H
        refine ea_iast (pc := 166) dX12_rob_166 (hs_h69.1 75 (by decide)).1 (hs_h69.1 75 (by decide)).2.1 (ea_vpl (hs_h69.1 75 (by decide)).2.2 z72) ?_
        obtain ⟨h73, E74⟩ : ∃ z, z = ea_wi h69 (b0 + 75) (Int32.toNatClampNeg x5) ((ea_i h69 (b0 + 75) (Int32.toNatClampNeg x5)) + (1 : Int32)) := ⟨_, rfl⟩
        have H := H h73 E74
        refine ea_nm E74 ?_
        have hs_h73 : ShM b0 h73 := by rw [E74]; exact ShM_wi hs_h69
        refine ea_aload_n (pc := 167) dX12_rob_167 rfl 0 rfl ?_
        refine ea_getR (pc := 168) dX12_rob_168 ec_12 (k := 104) (Nat.le_of_ble_eq_true rfl) rfl (Or.inl ew_1449) (hs_h73.1 0 (by decide)).1 (hs_h73.1 0 (by decide)).2.1 (hs_h73.2 0 104 rfl) ?_
        refine ea_iload (pc := 171) dX12_rob_171 2 rfl ?_
        refine ea_dup2 (pc := 173) dX12_rob_173 rfl rfl ?_
        obtain ⟨z75, H⟩ := H
        refine ea_iald (pc := 174) dX12_rob_174 (hs_h73.1 76 (by decide)).1 (hs_h73.1 76 (by decide)).2.1 (ea_vpl (hs_h73.1 76 (by decide)).2.2 z75) ?_
        refine ea_aload_n (pc := 175) dX12_rob_175 rfl 0 rfl ?_
        refine ea_iload (pc := 176) dX12_rob_176 3 rfl ?_
        obtain ⟨z123, H⟩ := H
        refine ea_callV (pc := 178) (d' := d - 1) (As := [vI x6]) (st := [vI (ea_i h73 (b0 + 76) (Int32.toNatClampNeg x5)), vI x5, vR (some (b0 + 76))]) dX12_rob_178 kX12_owed (sX12_owed (d := d - 1) (by omega) hs_h73 z123) (by omega) rfl (Nat.le_of_ble_eq_true rfl) ew_2027 ew_2029 ew_90 (ci := 12) rfl (by decide) (hs_h73.1 0 (by decide)).1 (hs_h73.1 0 (by decide)).2.1 ?_
        refine ea_iadd (pc := 181) dX12_rob_181 ?_
        obtain ⟨z102, H⟩ := H
        refine ea_iast (pc := 182) dX12_rob_182 (hs_h73.1 76 (by decide)).1 (hs_h73.1 76 (by decide)).2.1 (ea_vpl (hs_h73.1 76 (by decide)).2.2 z102) ?_
        obtain ⟨h103, E104⟩ : ∃ z, z = ea_wi h73 (b0 + 76) (Int32.toNatClampNeg x5) ((ea_i h73 (b0 + 76) (Int32.toNatClampNeg x5)) + (vX12_owed b0 (x6 : Int32) h73)) := ⟨_, rfl⟩
        have H := H h103 E104
        refine ea_nm E104 ?_
        have hs_h103 : ShM b0 h103 := by rw [E104]; exact ShM_wi hs_h73
        refine ea_aload_n (pc := 183) dX12_rob_183 rfl 0 rfl ?_
        refine ea_iload (pc := 184) dX12_rob_184 3 rfl ?_
        refine ea_aload_n (pc := 186) dX12_rob_186 rfl 0 rfl ?_
        refine ea_getI (pc := 187) dX12_rob_187 ec_12 (k := 0) (Nat.le_of_ble_eq_true rfl) rfl (Or.inl ew_1345) (hs_h103.1 0 (by decide)).1 (hs_h103.1 0 (by decide)).2.1 ?_
        refine ea_iconst (pc := 190) dX12_rob_190 (v := 4) rfl ?_
        refine ea_iload_n (pc := 191) dX12_rob_191 rfl 1 rfl ?_
        refine ea_callS (pc := 192) (d' := d - 1) (As := [vI x3]) (st := [vI 4, vI (ea_i h103 (b0 + 0) 0), vI x6, vR (some (b0 + 0))]) dX12_rob_192 kX12_code (sX12_code (d := d - 1) (by omega)) (by omega) rfl (Nat.le_of_ble_eq_true rfl) ew_2071 ew_2072 ?_
        obtain ⟨z120, H⟩ := H
        refine ea_callV (pc := 195) (d' := d - 1) (As := [vI x6, vI (ea_i h103 (b0 + 0) 0), vI 4, vI (vX12_code (x3 : Int32) h103)]) (st := []) dX12_rob_195 kX12_turns (sX12_turns (d := d - 1) (by omega) hs_h103 z120) (by omega) rfl (Nat.le_of_ble_eq_true rfl) ew_2011 ew_2013 ew_88 (ci := 12) rfl (by decide) (hs_h103.1 0 (by decide)).1 (hs_h103.1 0 (by decide)).2.1 ?_
        obtain ⟨h117, E121⟩ : ∃ z, z = (wX12_turns b0 (x6 : Int32) ((ea_i h103 (b0 + 0) 0) : Int32) (4 : Int32) ((vX12_code (x3 : Int32) h103) : Int32) h103) := ⟨_, rfl⟩
        have H := H h117 E121
        refine ea_nm E121 ?_
        have hs_h117 : ShM b0 h117 := by rw [E121]; exact shX12_turns hs_h103
        refine ea_iinc (pc := 198) (v := 1) (lv' := [(0, vR (some (b0 + 0))), (3, vI x3), (5, vI x5), (6, vI (x6 + 1))]) dX12_rob_198 3 rfl rfl (Nat.le_of_ble_eq_true rfl) [1, 2, 3, 0] rfl ?_
        refine ea_goto (pc := 201) (tgt := 104) dX12_rob_201 rfl ?_
        exact H
      · have H := H.2 c124
        refine ea_goto (pc := 133) (tgt := 198) dX12_rob_133 rfl ?_
        refine ea_iinc (pc := 198) (v := 1) (lv' := [(0, vR (some (b0 + 0))), (3, vI x3), (5, vI x5), (6, vI (x6 + 1))]) dX12_rob_198 3 rfl rfl (Nat.le_of_ble_eq_true rfl) [1, 2, 3, 0] rfl ?_
        refine ea_goto (pc := 201) (tgt := 104) dX12_rob_201 rfl ?_
        exact H
theorem pX12_seen_0 {d b0 : Nat} {h0 hE h : ea_H} {rv : Option ea_V} {x1 : Int32} {x2 : Int32} (hd : 3 ≤ d) (hs_h : ShM b0 h) (H : ((vX12_isTrain b0 (x1 : Int32) h) = (0 : Int32) → rv = some (vI 0) ∧ hE = h) ∧ (¬ (vX12_isTrain b0 (x1 : Int32) h) = (0 : Int32) → (¬ (vX12_isMinute (x2 : Int32) h) = (0 : Int32) → vp_in x1 10 ∧ vp_in x1 10 ∧ vp_in x1 10 ∧ ea_W mX12_seen d h0 rv hE 44 [(0, vR (some (b0 + 0))), (1, vI x1), (2, vI x2), (3, vI ((ea_i h (b0 + 79) (Int32.toNatClampNeg x1)) + (1 : Int32))), (4, vI ((ea_i h (b0 + 78) (Int32.toNatClampNeg x1)) - (1 : Int32))), (5, vI (ea_i h (b0 + 78) (Int32.toNatClampNeg x1)))] [] h) ∧ ((vX12_isMinute (x2 : Int32) h) = (0 : Int32) → rv = some (vI 0) ∧ hE = h))) : ea_W mX12_seen d h0 rv hE 0 [(0, vR (some (b0 + 0))), (1, vI x1), (2, vI x2)] [] h := by
  refine ea_aload_n (pc := 0) dX12_seen_0 rfl 0 rfl ?_
  refine ea_iload_n (pc := 1) dX12_seen_1 rfl 1 rfl ?_
  refine ea_callV (pc := 2) (d' := d - 1) (As := [vI x1]) (st := []) dX12_seen_2 kX12_isTrain (sX12_isTrain (d := d - 1) (by omega) hs_h) (by omega) rfl (Nat.le_of_ble_eq_true rfl) ew_1736 ew_1738 ew_50 (ci := 12) rfl (by decide) (hs_h.1 0 (by decide)).1 (hs_h.1 0 (by decide)).2.1 ?_
  refine ea_if_eq (pc := 5) (tgt := 15) dX12_seen_5 rfl (fun c35 => ?_) (fun c35 => ?_)
  · have H := H.1 c35
    refine ea_iconst (pc := 15) dX12_seen_15 (v := 0) rfl ?_
    obtain ⟨rfl, rfl⟩ := H
    exact ea_ireturn (pc := 16) dX12_seen_16 rfl (ea_bn (Or.inl rfl))
  · have H := H.2 c35
    refine ea_iload_n (pc := 8) dX12_seen_8 rfl 2 rfl ?_
    refine ea_callS (pc := 9) (d' := d - 1) (As := [vI x2]) (st := []) dX12_seen_9 kX12_isMinute (sX12_isMinute (d := d - 1) (by omega)) (by omega) rfl (Nat.le_of_ble_eq_true rfl) ew_2147 ew_2148 ?_
    refine ea_if_ne (pc := 12) (tgt := 17) dX12_seen_12 rfl (fun c33 => ?_) (fun c33 => ?_)
    · have H := H.1 c33
      refine ea_aload_n (pc := 17) dX12_seen_17 rfl 0 rfl ?_
      refine ea_getR (pc := 18) dX12_seen_18 ec_12 (k := 107) (Nat.le_of_ble_eq_true rfl) rfl (Or.inl ew_1452) (hs_h.1 0 (by decide)).1 (hs_h.1 0 (by decide)).2.1 (hs_h.2 0 107 rfl) ?_
      refine ea_iload_n (pc := 21) dX12_seen_21 rfl 1 rfl ?_
      obtain ⟨z30, H⟩ := H
      refine ea_iald (pc := 22) dX12_seen_22 (hs_h.1 79 (by decide)).1 (hs_h.1 79 (by decide)).2.1 (ea_vpl (hs_h.1 79 (by decide)).2.2 z30) ?_
      refine ea_iconst (pc := 23) dX12_seen_23 (v := 1) rfl ?_
      refine ea_iadd (pc := 24) dX12_seen_24 ?_
      refine ea_istore_n (pc := 25) (lv' := [(0, vR (some (b0 + 0))), (1, vI x1), (2, vI x2), (3, vI ((ea_i h (b0 + 79) (Int32.toNatClampNeg x1)) + (1 : Int32)))]) dX12_seen_25 rfl (Nat.le_of_ble_eq_true rfl) [1, 2, 3, 0] rfl ?_
      refine ea_aload_n (pc := 26) dX12_seen_26 rfl 0 rfl ?_
      refine ea_getR (pc := 27) dX12_seen_27 ec_12 (k := 106) (Nat.le_of_ble_eq_true rfl) rfl (Or.inl ew_1451) (hs_h.1 0 (by decide)).1 (hs_h.1 0 (by decide)).2.1 (hs_h.2 0 106 rfl) ?_
      refine ea_iload_n (pc := 30) dX12_seen_30 rfl 1 rfl ?_
      obtain ⟨z31, H⟩ := H
      refine ea_iald (pc := 31) dX12_seen_31 (hs_h.1 78 (by decide)).1 (hs_h.1 78 (by decide)).2.1 (ea_vpl (hs_h.1 78 (by decide)).2.2 z31) ?_
      refine ea_iconst (pc := 32) dX12_seen_32 (v := 1) rfl ?_
      refine ea_isub (pc := 33) dX12_seen_33 ?_
      refine ea_istore (pc := 34) (lv' := [(0, vR (some (b0 + 0))), (1, vI x1), (2, vI x2), (3, vI ((ea_i h (b0 + 79) (Int32.toNatClampNeg x1)) + (1 : Int32))), (4, vI ((ea_i h (b0 + 78) (Int32.toNatClampNeg x1)) - (1 : Int32)))]) dX12_seen_34 (Nat.le_of_ble_eq_true rfl) [1, 2, 3, 4, 0] rfl ?_
      refine ea_aload_n (pc := 36) dX12_seen_36 rfl 0 rfl ?_
      refine ea_getR (pc := 37) dX12_seen_37 ec_12 (k := 106) (Nat.le_of_ble_eq_true rfl) rfl (Or.inl ew_1451) (hs_h.1 0 (by decide)).1 (hs_h.1 0 (by decide)).2.1 (hs_h.2 0 106 rfl) ?_
      refine ea_iload_n (pc := 40) dX12_seen_40 rfl 1 rfl ?_
      obtain ⟨z32, H⟩ := H
      refine ea_iald (pc := 41) dX12_seen_41 (hs_h.1 78 (by decide)).1 (hs_h.1 78 (by decide)).2.1 (ea_vpl (hs_h.1 78 (by decide)).2.2 z32) ?_
      refine ea_istore (pc := 42) (lv' := [(0, vR (some (b0 + 0))), (1, vI x1), (2, vI x2), (3, vI ((ea_i h (b0 + 79) (Int32.toNatClampNeg x1)) + (1 : Int32))), (4, vI ((ea_i h (b0 + 78) (Int32.toNatClampNeg x1)) - (1 : Int32))), (5, vI (ea_i h (b0 + 78) (Int32.toNatClampNeg x1)))]) dX12_seen_42 (Nat.le_of_ble_eq_true rfl) [1, 2, 3, 4, 5, 0] rfl ?_
      exact H
    · have H := H.2 c33
      refine ea_iconst (pc := 15) dX12_seen_15 (v := 0) rfl ?_
      obtain ⟨rfl, rfl⟩ := H
      exact ea_ireturn (pc := 16) dX12_seen_16 rfl (ea_bn (Or.inl rfl))
theorem pX12_seen_44 {d b0 : Nat} {h0 hE h : ea_H} {rv : Option ea_V} {x1 : Int32} {x2 : Int32} {x3 : Int32} {x4 : Int32} {x5 : Int32} (hd : 3 ≤ d) (hs_h : ShM b0 h) (H : vp_in x1 10 ∧ ((ea_i h (b0 + 79) (Int32.toNatClampNeg x1)) < x5 → (x3 ≤ x4 → vp_in x1 10 ∧ ∀ h3, h3 = ea_wi h (b0 + 78) (Int32.toNatClampNeg x1) x3 → vp_in x1 10 ∧ ∀ h6, h6 = ea_wi h3 (b0 + 79) (Int32.toNatClampNeg x1) x4 → rv = some (vI 1) ∧ hE = h6) ∧ (¬ x3 ≤ x4 → rv = some (vI 0) ∧ hE = h)) ∧ (¬ (ea_i h (b0 + 79) (Int32.toNatClampNeg x1)) < x5 → (okX12_shows b0 (x1 : Int32) (x5 : Int32) ((ea_i h (b0 + 0) 0) : Int32) h) ∧ ((vX12_shows b0 (x1 : Int32) (x5 : Int32) ((ea_i h (b0 + 0) 0) : Int32) h) = x2 → (x3 ≤ x5 → ea_W mX12_seen d h0 rv hE 85 [(0, vR (some (b0 + 0))), (1, vI x1), (2, vI x2), (4, vI x4), (5, vI x5)] [vI x3] h) ∧ (¬ x3 ≤ x5 → ea_W mX12_seen d h0 rv hE 85 [(0, vR (some (b0 + 0))), (1, vI x1), (2, vI x2), (4, vI x4), (5, vI x5)] [vI x5] h)) ∧ (¬ (vX12_shows b0 (x1 : Int32) (x5 : Int32) ((ea_i h (b0 + 0) 0) : Int32) h) = x2 → ea_W mX12_seen d h0 rv hE 44 [(0, vR (some (b0 + 0))), (1, vI x1), (2, vI x2), (3, vI x3), (4, vI x4), (5, vI (x5 + 1))] [] h))) : ea_W mX12_seen d h0 rv hE 44 [(0, vR (some (b0 + 0))), (1, vI x1), (2, vI x2), (3, vI x3), (4, vI x4), (5, vI x5)] [] h := by
  refine ea_iload (pc := 44) dX12_seen_44 5 rfl ?_
  refine ea_aload_n (pc := 46) dX12_seen_46 rfl 0 rfl ?_
  refine ea_getR (pc := 47) dX12_seen_47 ec_12 (k := 107) (Nat.le_of_ble_eq_true rfl) rfl (Or.inl ew_1452) (hs_h.1 0 (by decide)).1 (hs_h.1 0 (by decide)).2.1 (hs_h.2 0 107 rfl) ?_
  refine ea_iload_n (pc := 50) dX12_seen_50 rfl 1 rfl ?_
  obtain ⟨z1, H⟩ := H
  refine ea_iald (pc := 51) dX12_seen_51 (hs_h.1 79 (by decide)).1 (hs_h.1 79 (by decide)).2.1 (ea_vpl (hs_h.1 79 (by decide)).2.2 z1) ?_
  refine ea_icmp_gt (pc := 52) (tgt := 108) dX12_seen_52 rfl (fun c19 => ?_) (fun c19 => ?_)
  · have H := H.1 c19
    refine ea_iload_n (pc := 108) dX12_seen_108 rfl 3 rfl ?_
    refine ea_iload (pc := 109) dX12_seen_109 4 rfl ?_
    refine ea_icmp_le (pc := 111) (tgt := 116) dX12_seen_111 rfl (fun c8 => ?_) (fun c8 => ?_)
    · have H := H.1 c8
      refine ea_aload_n (pc := 116) dX12_seen_116 rfl 0 rfl ?_
      refine ea_getR (pc := 117) dX12_seen_117 ec_12 (k := 106) (Nat.le_of_ble_eq_true rfl) rfl (Or.inl ew_1451) (hs_h.1 0 (by decide)).1 (hs_h.1 0 (by decide)).2.1 (hs_h.2 0 106 rfl) ?_
      refine ea_iload_n (pc := 120) dX12_seen_120 rfl 1 rfl ?_
      refine ea_iload_n (pc := 121) dX12_seen_121 rfl 3 rfl ?_
      obtain ⟨z2, H⟩ := H
      refine ea_iast (pc := 122) dX12_seen_122 (hs_h.1 78 (by decide)).1 (hs_h.1 78 (by decide)).2.1 (ea_vpl (hs_h.1 78 (by decide)).2.2 z2) ?_
      obtain ⟨h3, E4⟩ : ∃ z, z = ea_wi h (b0 + 78) (Int32.toNatClampNeg x1) x3 := ⟨_, rfl⟩
      have H := H h3 E4
      refine ea_nm E4 ?_
      have hs_h3 : ShM b0 h3 := by rw [E4]; exact ShM_wi hs_h
      refine ea_aload_n (pc := 123) dX12_seen_123 rfl 0 rfl ?_
      refine ea_getR (pc := 124) dX12_seen_124 ec_12 (k := 107) (Nat.le_of_ble_eq_true rfl) rfl (Or.inl ew_1452) (hs_h3.1 0 (by decide)).1 (hs_h3.1 0 (by decide)).2.1 (hs_h3.2 0 107 rfl) ?_
      refine ea_iload_n (pc := 127) dX12_seen_127 rfl 1 rfl ?_
      refine ea_iload (pc := 128) dX12_seen_128 4 rfl ?_
      obtain ⟨z5, H⟩ := H
      refine ea_iast (pc := 130) dX12_seen_130 (hs_h3.1 79 (by decide)).1 (hs_h3.1 79 (by decide)).2.1 (ea_vpl (hs_h3.1 79 (by decide)).2.2 z5) ?_
      obtain ⟨h6, E7⟩ : ∃ z, z = ea_wi h3 (b0 + 79) (Int32.toNatClampNeg x1) x4 := ⟨_, rfl⟩
      have H := H h6 E7
      refine ea_nm E7 ?_
      have hs_h6 : ShM b0 h6 := by rw [E7]; exact ShM_wi hs_h3
      refine ea_iconst (pc := 131) dX12_seen_131 (v := 1) rfl ?_
      obtain ⟨rfl, rfl⟩ := H
      exact ea_ireturn (pc := 132) dX12_seen_132 rfl (ea_bn (Or.inr rfl))
    · have H := H.2 c8
      refine ea_iconst (pc := 114) dX12_seen_114 (v := 0) rfl ?_
      obtain ⟨rfl, rfl⟩ := H
      exact ea_ireturn (pc := 115) dX12_seen_115 rfl (ea_bn (Or.inl rfl))
  · have H := H.2 c19
    refine ea_aload_n (pc := 55) dX12_seen_55 rfl 0 rfl ?_
    refine ea_iload_n (pc := 56) dX12_seen_56 rfl 1 rfl ?_
    refine ea_iload (pc := 57) dX12_seen_57 5 rfl ?_
    refine ea_aload_n (pc := 59) dX12_seen_59 rfl 0 rfl ?_
    refine ea_getI (pc := 60) dX12_seen_60 ec_12 (k := 0) (Nat.le_of_ble_eq_true rfl) rfl (Or.inl ew_1345) (hs_h.1 0 (by decide)).1 (hs_h.1 0 (by decide)).2.1 ?_
    obtain ⟨z18, H⟩ := H
    refine ea_callV (pc := 63) (d' := d - 1) (As := [vI x1, vI x5, vI (ea_i h (b0 + 0) 0)]) (st := []) dX12_seen_63 kX12_shows (sX12_shows (d := d - 1) (by omega) hs_h z18) (by omega) rfl (Nat.le_of_ble_eq_true rfl) ew_2150 ew_2152 ew_102 (ci := 12) rfl (by decide) (hs_h.1 0 (by decide)).1 (hs_h.1 0 (by decide)).2.1 ?_
    refine ea_iload_n (pc := 66) dX12_seen_66 rfl 2 rfl ?_
    refine ea_icmp_eq (pc := 67) (tgt := 73) dX12_seen_67 rfl (fun c17 => ?_) (fun c17 => ?_)
    · have H := H.1 c17
      refine ea_iload (pc := 73) dX12_seen_73 5 rfl ?_
      refine ea_iload_n (pc := 75) dX12_seen_75 rfl 3 rfl ?_
      refine ea_icmp_ge (pc := 76) (tgt := 84) dX12_seen_76 rfl (fun c16 => ?_) (fun c16 => ?_)
      · have H := H.1 c16
        refine ea_iload_n (pc := 84) dX12_seen_84 rfl 3 rfl ?_
        exact ea_fewer [0, 1, 2, 4, 5] rfl H
      · have H := H.2 c16
        refine ea_iload (pc := 79) dX12_seen_79 5 rfl ?_
        refine ea_goto (pc := 81) (tgt := 85) dX12_seen_81 rfl ?_
        exact ea_fewer [0, 1, 2, 4, 5] rfl H
    · have H := H.2 c17
      refine ea_goto (pc := 70) (tgt := 102) dX12_seen_70 rfl ?_
      refine ea_iinc (pc := 102) (v := 1) (lv' := [(0, vR (some (b0 + 0))), (1, vI x1), (2, vI x2), (3, vI x3), (4, vI x4), (5, vI (x5 + 1))]) dX12_seen_102 5 rfl rfl (Nat.le_of_ble_eq_true rfl) [1, 2, 3, 4, 5, 0] rfl ?_
      refine ea_goto (pc := 105) (tgt := 44) dX12_seen_105 rfl ?_
      exact H
theorem pX12_seen_85 {d b0 : Nat} {h0 hE h : ea_H} {rv : Option ea_V} {x1 : Int32} {x2 : Int32} {x4 : Int32} {x5 : Int32} {sx0 : Int32} (hd : 3 ≤ d) (hs_h : ShM b0 h) (H : (x5 ≤ x4 → ea_W mX12_seen d h0 rv hE 44 [(0, vR (some (b0 + 0))), (1, vI x1), (2, vI x2), (3, vI sx0), (4, vI x4), (5, vI (x5 + 1))] [] h) ∧ (¬ x5 ≤ x4 → ea_W mX12_seen d h0 rv hE 44 [(0, vR (some (b0 + 0))), (1, vI x1), (2, vI x2), (3, vI sx0), (4, vI x5), (5, vI (x5 + 1))] [] h)) : ea_W mX12_seen d h0 rv hE 85 [(0, vR (some (b0 + 0))), (1, vI x1), (2, vI x2), (4, vI x4), (5, vI x5)] [vI sx0] h := by
  refine ea_istore_n (pc := 85) (lv' := [(0, vR (some (b0 + 0))), (1, vI x1), (2, vI x2), (3, vI sx0), (4, vI x4), (5, vI x5)]) dX12_seen_85 rfl (Nat.le_of_ble_eq_true rfl) [1, 2, 3, 0, 4, 5] rfl ?_
  refine ea_iload (pc := 86) dX12_seen_86 5 rfl ?_
  refine ea_iload (pc := 88) dX12_seen_88 4 rfl ?_
  refine ea_icmp_le (pc := 90) (tgt := 98) dX12_seen_90 rfl (fun c1 => ?_) (fun c1 => ?_)
  · have H := H.1 c1
    refine ea_iload (pc := 98) dX12_seen_98 4 rfl ?_
    refine ea_istore (pc := 100) (lv' := [(0, vR (some (b0 + 0))), (1, vI x1), (2, vI x2), (3, vI sx0), (4, vI x4), (5, vI x5)]) dX12_seen_100 (Nat.le_of_ble_eq_true rfl) [1, 2, 3, 4, 0, 5] rfl ?_
    refine ea_iinc (pc := 102) (v := 1) (lv' := [(0, vR (some (b0 + 0))), (1, vI x1), (2, vI x2), (3, vI sx0), (4, vI x4), (5, vI (x5 + 1))]) dX12_seen_102 5 rfl rfl (Nat.le_of_ble_eq_true rfl) [1, 2, 3, 4, 5, 0] rfl ?_
    refine ea_goto (pc := 105) (tgt := 44) dX12_seen_105 rfl ?_
    exact H
  · have H := H.2 c1
    refine ea_iload (pc := 93) dX12_seen_93 5 rfl ?_
    refine ea_goto (pc := 95) (tgt := 100) dX12_seen_95 rfl ?_
    refine ea_istore (pc := 100) (lv' := [(0, vR (some (b0 + 0))), (1, vI x1), (2, vI x2), (3, vI sx0), (4, vI x5), (5, vI x5)]) dX12_seen_100 (Nat.le_of_ble_eq_true rfl) [1, 2, 3, 4, 0, 5] rfl ?_
    refine ea_iinc (pc := 102) (v := 1) (lv' := [(0, vR (some (b0 + 0))), (1, vI x1), (2, vI x2), (3, vI sx0), (4, vI x5), (5, vI (x5 + 1))]) dX12_seen_102 5 rfl rfl (Nat.le_of_ble_eq_true rfl) [1, 2, 3, 4, 5, 0] rfl ?_
    refine ea_goto (pc := 105) (tgt := 44) dX12_seen_105 rfl ?_
    exact H
theorem pX12_mayShow_0 {d b0 : Nat} {h0 hE h : ea_H} {rv : Option ea_V} {x1 : Int32} {x2 : Int32} {x3 : Int32} (hd : 2 ≤ d) (hs_h : ShM b0 h) (H : vp_in x1 10 ∧ ea_W mX12_mayShow d h0 rv hE 11 [(0, vR (some (b0 + 0))), (1, vI x1), (2, vI x2), (3, vI x3), (4, vI 0), (5, vI (ea_i h (b0 + 78) (Int32.toNatClampNeg x1)))] [] h) : ea_W mX12_mayShow d h0 rv hE 0 [(0, vR (some (b0 + 0))), (1, vI x1), (2, vI x2), (3, vI x3)] [] h := by
  refine ea_iconst (pc := 0) dX12_mayShow_0 (v := 0) rfl ?_
  refine ea_istore (pc := 1) (lv' := [(0, vR (some (b0 + 0))), (1, vI x1), (2, vI x2), (3, vI x3), (4, vI 0)]) dX12_mayShow_1 (Nat.le_of_ble_eq_true rfl) [1, 2, 3, 4, 0] rfl ?_
  refine ea_aload_n (pc := 3) dX12_mayShow_3 rfl 0 rfl ?_
  refine ea_getR (pc := 4) dX12_mayShow_4 ec_12 (k := 106) (Nat.le_of_ble_eq_true rfl) rfl (Or.inl ew_1451) (hs_h.1 0 (by decide)).1 (hs_h.1 0 (by decide)).2.1 (hs_h.2 0 106 rfl) ?_
  refine ea_iload_n (pc := 7) dX12_mayShow_7 rfl 1 rfl ?_
  obtain ⟨z1, H⟩ := H
  refine ea_iald (pc := 8) dX12_mayShow_8 (hs_h.1 78 (by decide)).1 (hs_h.1 78 (by decide)).2.1 (ea_vpl (hs_h.1 78 (by decide)).2.2 z1) ?_
  refine ea_istore (pc := 9) (lv' := [(0, vR (some (b0 + 0))), (1, vI x1), (2, vI x2), (3, vI x3), (4, vI 0), (5, vI (ea_i h (b0 + 78) (Int32.toNatClampNeg x1)))]) dX12_mayShow_9 (Nat.le_of_ble_eq_true rfl) [1, 2, 3, 4, 5, 0] rfl ?_
  exact H
theorem pX12_mayShow_11 {d b0 : Nat} {h0 hE h : ea_H} {rv : Option ea_V} {x1 : Int32} {x2 : Int32} {x3 : Int32} {x4 : Int32} {x5 : Int32} (hd : 2 ≤ d) (hs_h : ShM b0 h) (H : vp_in x1 10 ∧ ((ea_i h (b0 + 79) (Int32.toNatClampNeg x1)) < x5 → (x4 = 0 ∨ x4 = 1) ∧ rv = some (vI x4) ∧ hE = h) ∧ (¬ (ea_i h (b0 + 79) (Int32.toNatClampNeg x1)) < x5 → (¬ x4 = (0 : Int32) → (x4 = 0 ∨ x4 = 1) ∧ rv = some (vI x4) ∧ hE = h) ∧ (x4 = (0 : Int32) → (okX12_shows b0 (x1 : Int32) (x5 : Int32) (x3 : Int32) h) ∧ (¬ (vX12_shows b0 (x1 : Int32) (x5 : Int32) (x3 : Int32) h) = x2 → ea_W mX12_mayShow d h0 rv hE 11 [(0, vR (some (b0 + 0))), (1, vI x1), (2, vI x2), (3, vI x3), (4, vI 0), (5, vI (x5 + 1))] [] h) ∧ ((vX12_shows b0 (x1 : Int32) (x5 : Int32) (x3 : Int32) h) = x2 → ea_W mX12_mayShow d h0 rv hE 11 [(0, vR (some (b0 + 0))), (1, vI x1), (2, vI x2), (3, vI x3), (4, vI 1), (5, vI (x5 + 1))] [] h)))) : ea_W mX12_mayShow d h0 rv hE 11 [(0, vR (some (b0 + 0))), (1, vI x1), (2, vI x2), (3, vI x3), (4, vI x4), (5, vI x5)] [] h := by
  refine ea_iload (pc := 11) dX12_mayShow_11 5 rfl ?_
  refine ea_aload_n (pc := 13) dX12_mayShow_13 rfl 0 rfl ?_
  refine ea_getR (pc := 14) dX12_mayShow_14 ec_12 (k := 107) (Nat.le_of_ble_eq_true rfl) rfl (Or.inl ew_1452) (hs_h.1 0 (by decide)).1 (hs_h.1 0 (by decide)).2.1 (hs_h.2 0 107 rfl) ?_
  refine ea_iload_n (pc := 17) dX12_mayShow_17 rfl 1 rfl ?_
  obtain ⟨z1, H⟩ := H
  refine ea_iald (pc := 18) dX12_mayShow_18 (hs_h.1 79 (by decide)).1 (hs_h.1 79 (by decide)).2.1 (ea_vpl (hs_h.1 79 (by decide)).2.2 z1) ?_
  refine ea_icmp_gt (pc := 19) (tgt := 52) dX12_mayShow_19 rfl (fun c13 => ?_) (fun c13 => ?_)
  · have H := H.1 c13
    refine ea_iload (pc := 52) dX12_mayShow_52 4 rfl ?_
    obtain ⟨z2, rfl, rfl⟩ := H
    exact ea_ireturn (pc := 54) dX12_mayShow_54 rfl (ea_bn z2)
  · have H := H.2 c13
    refine ea_iload (pc := 22) dX12_mayShow_22 4 rfl ?_
    refine ea_if_ne (pc := 24) (tgt := 52) dX12_mayShow_24 rfl (fun c12 => ?_) (fun c12 => ?_)
    · have H := H.1 c12
      refine ea_iload (pc := 52) dX12_mayShow_52 4 rfl ?_
      obtain ⟨z3, rfl, rfl⟩ := H
      exact ea_ireturn (pc := 54) dX12_mayShow_54 rfl (ea_bn z3)
    · have H := H.2 c12
      refine ea_aload_n (pc := 27) dX12_mayShow_27 rfl 0 rfl ?_
      refine ea_iload_n (pc := 28) dX12_mayShow_28 rfl 1 rfl ?_
      refine ea_iload (pc := 29) dX12_mayShow_29 5 rfl ?_
      refine ea_iload_n (pc := 31) dX12_mayShow_31 rfl 3 rfl ?_
      obtain ⟨z11, H⟩ := H
      refine ea_callV (pc := 32) (d' := d - 1) (As := [vI x1, vI x5, vI x3]) (st := []) dX12_mayShow_32 kX12_shows (sX12_shows (d := d - 1) (by omega) hs_h z11) (by omega) rfl (Nat.le_of_ble_eq_true rfl) ew_2150 ew_2152 ew_102 (ci := 12) rfl (by decide) (hs_h.1 0 (by decide)).1 (hs_h.1 0 (by decide)).2.1 ?_
      refine ea_iload_n (pc := 35) dX12_mayShow_35 rfl 2 rfl ?_
      refine ea_icmp_ne (pc := 36) (tgt := 43) dX12_mayShow_36 rfl (fun c10 => ?_) (fun c10 => ?_)
      · have H := H.1 c10
        refine ea_iconst (pc := 43) dX12_mayShow_43 (v := 0) rfl ?_
        refine ea_istore (pc := 44) (lv' := [(0, vR (some (b0 + 0))), (1, vI x1), (2, vI x2), (3, vI x3), (4, vI 0), (5, vI x5)]) dX12_mayShow_44 (Nat.le_of_ble_eq_true rfl) [1, 2, 3, 4, 0, 5] rfl ?_
        refine ea_iinc (pc := 46) (v := 1) (lv' := [(0, vR (some (b0 + 0))), (1, vI x1), (2, vI x2), (3, vI x3), (4, vI 0), (5, vI (x5 + 1))]) dX12_mayShow_46 5 rfl rfl (Nat.le_of_ble_eq_true rfl) [1, 2, 3, 4, 5, 0] rfl ?_
        refine ea_goto (pc := 49) (tgt := 11) dX12_mayShow_49 rfl ?_
        exact H
      · have H := H.2 c10
        refine ea_iconst (pc := 39) dX12_mayShow_39 (v := 1) rfl ?_
        refine ea_goto (pc := 40) (tgt := 44) dX12_mayShow_40 rfl ?_
        refine ea_istore (pc := 44) (lv' := [(0, vR (some (b0 + 0))), (1, vI x1), (2, vI x2), (3, vI x3), (4, vI 1), (5, vI x5)]) dX12_mayShow_44 (Nat.le_of_ble_eq_true rfl) [1, 2, 3, 4, 0, 5] rfl ?_
        refine ea_iinc (pc := 46) (v := 1) (lv' := [(0, vR (some (b0 + 0))), (1, vI x1), (2, vI x2), (3, vI x3), (4, vI 1), (5, vI (x5 + 1))]) dX12_mayShow_46 5 rfl rfl (Nat.le_of_ble_eq_true rfl) [1, 2, 3, 4, 5, 0] rfl ?_
        refine ea_goto (pc := 49) (tgt := 11) dX12_mayShow_49 rfl ?_
        exact H
theorem pX12_trueMinute_0 {d b0 : Nat} {h0 hE h : ea_H} {rv : Option ea_V} {x1 : Int32} {x2 : Int32} {x3 : Int32} (hd : 3 ≤ d) (hs_h : ShM b0 h) (H : ((vX12_isTrain b0 (x1 : Int32) h) = (0 : Int32) → rv = some (vI (-1)) ∧ hE = h) ∧ (¬ (vX12_isTrain b0 (x1 : Int32) h) = (0 : Int32) → ((vX12_isMinute (x2 : Int32) h) = (0 : Int32) → rv = some (vI (-1)) ∧ hE = h) ∧ (¬ (vX12_isMinute (x2 : Int32) h) = (0 : Int32) → (¬ (vX12_isIn (x3 : Int32) (0 : Int32) (1 : Int32) h) = (0 : Int32) → vp_in x1 10 ∧ ea_W mX12_trueMinute d h0 rv hE 37 [(0, vR (some (b0 + 0))), (1, vI x1), (2, vI x2), (3, vI x3), (4, vI (-1)), (5, vI (ea_i h (b0 + 80) (Int32.toNatClampNeg x1)))] [] h) ∧ ((vX12_isIn (x3 : Int32) (0 : Int32) (1 : Int32) h) = (0 : Int32) → rv = some (vI (-1)) ∧ hE = h)))) : ea_W mX12_trueMinute d h0 rv hE 0 [(0, vR (some (b0 + 0))), (1, vI x1), (2, vI x2), (3, vI x3)] [] h := by
  refine ea_aload_n (pc := 0) dX12_trueMinute_0 rfl 0 rfl ?_
  refine ea_iload_n (pc := 1) dX12_trueMinute_1 rfl 1 rfl ?_
  refine ea_callV (pc := 2) (d' := d - 1) (As := [vI x1]) (st := []) dX12_trueMinute_2 kX12_isTrain (sX12_isTrain (d := d - 1) (by omega) hs_h) (by omega) rfl (Nat.le_of_ble_eq_true rfl) ew_1736 ew_1738 ew_50 (ci := 12) rfl (by decide) (hs_h.1 0 (by decide)).1 (hs_h.1 0 (by decide)).2.1 ?_
  refine ea_if_eq (pc := 5) (tgt := 24) dX12_trueMinute_5 rfl (fun c63 => ?_) (fun c63 => ?_)
  · have H := H.1 c63
    refine ea_iconst (pc := 24) dX12_trueMinute_24 (v := (-1)) rfl ?_
    obtain ⟨rfl, rfl⟩ := H
    exact ea_ireturn (pc := 25) dX12_trueMinute_25 rfl rfl
  · have H := H.2 c63
    refine ea_iload_n (pc := 8) dX12_trueMinute_8 rfl 2 rfl ?_
    refine ea_callS (pc := 9) (d' := d - 1) (As := [vI x2]) (st := []) dX12_trueMinute_9 kX12_isMinute (sX12_isMinute (d := d - 1) (by omega)) (by omega) rfl (Nat.le_of_ble_eq_true rfl) ew_2147 ew_2148 ?_
    refine ea_if_eq (pc := 12) (tgt := 24) dX12_trueMinute_12 rfl (fun c61 => ?_) (fun c61 => ?_)
    · have H := H.1 c61
      refine ea_iconst (pc := 24) dX12_trueMinute_24 (v := (-1)) rfl ?_
      obtain ⟨rfl, rfl⟩ := H
      exact ea_ireturn (pc := 25) dX12_trueMinute_25 rfl rfl
    · have H := H.2 c61
      refine ea_iload_n (pc := 15) dX12_trueMinute_15 rfl 3 rfl ?_
      refine ea_iconst (pc := 16) dX12_trueMinute_16 (v := 0) rfl ?_
      refine ea_iconst (pc := 17) dX12_trueMinute_17 (v := 1) rfl ?_
      refine ea_callS (pc := 18) (d' := d - 1) (As := [vI x3, vI 0, vI 1]) (st := []) dX12_trueMinute_18 kX12_isIn (sX12_isIn (d := d - 1) (by omega)) (by omega) rfl (Nat.le_of_ble_eq_true rfl) ew_1712 ew_1713 ?_
      refine ea_if_ne (pc := 21) (tgt := 26) dX12_trueMinute_21 rfl (fun c59 => ?_) (fun c59 => ?_)
      · have H := H.1 c59
        refine ea_iconst (pc := 26) dX12_trueMinute_26 (v := (-1)) rfl ?_
        refine ea_istore (pc := 27) (lv' := [(0, vR (some (b0 + 0))), (1, vI x1), (2, vI x2), (3, vI x3), (4, vI (-1))]) dX12_trueMinute_27 (Nat.le_of_ble_eq_true rfl) [1, 2, 3, 4, 0] rfl ?_
        refine ea_aload_n (pc := 29) dX12_trueMinute_29 rfl 0 rfl ?_
        refine ea_getR (pc := 30) dX12_trueMinute_30 ec_12 (k := 108) (Nat.le_of_ble_eq_true rfl) rfl (Or.inl ew_1453) (hs_h.1 0 (by decide)).1 (hs_h.1 0 (by decide)).2.1 (hs_h.2 0 108 rfl) ?_
        refine ea_iload_n (pc := 33) dX12_trueMinute_33 rfl 1 rfl ?_
        obtain ⟨z58, H⟩ := H
        refine ea_iald (pc := 34) dX12_trueMinute_34 (hs_h.1 80 (by decide)).1 (hs_h.1 80 (by decide)).2.1 (ea_vpl (hs_h.1 80 (by decide)).2.2 z58) ?_
        refine ea_istore (pc := 35) (lv' := [(0, vR (some (b0 + 0))), (1, vI x1), (2, vI x2), (3, vI x3), (4, vI (-1)), (5, vI (ea_i h (b0 + 80) (Int32.toNatClampNeg x1)))]) dX12_trueMinute_35 (Nat.le_of_ble_eq_true rfl) [1, 2, 3, 4, 5, 0] rfl ?_
        exact H
      · have H := H.2 c59
        refine ea_iconst (pc := 24) dX12_trueMinute_24 (v := (-1)) rfl ?_
        obtain ⟨rfl, rfl⟩ := H
        exact ea_ireturn (pc := 25) dX12_trueMinute_25 rfl rfl
theorem pX12_trueMinute_37 {d b0 : Nat} {h0 hE h : ea_H} {rv : Option ea_V} {x1 : Int32} {x2 : Int32} {x3 : Int32} {x4 : Int32} {x5 : Int32} (hd : 3 ≤ d) (hs_h : ShM b0 h) (H : ((10079 : Int32) < x5 → rv = some (vI x4) ∧ hE = h) ∧ (¬ (10079 : Int32) < x5 → (x3 = (1 : Int32) → ea_W mX12_trueMinute d h0 rv hE 56 [(0, vR (some (b0 + 0))), (1, vI x1), (2, vI x2), (3, vI x3), (4, vI x4), (5, vI x5)] [] h) ∧ (¬ x3 = (1 : Int32) → (¬ x4 = ((-1) : Int32) → rv = some (vI x4) ∧ hE = h) ∧ (x4 = ((-1) : Int32) → ea_W mX12_trueMinute d h0 rv hE 56 [(0, vR (some (b0 + 0))), (1, vI x1), (2, vI x2), (3, vI x3), (4, vI x4), (5, vI x5)] [] h)))) : ea_W mX12_trueMinute d h0 rv hE 37 [(0, vR (some (b0 + 0))), (1, vI x1), (2, vI x2), (3, vI x3), (4, vI x4), (5, vI x5)] [] h := by
  refine ea_iload (pc := 37) dX12_trueMinute_37 5 rfl ?_
  refine ea_sipush (pc := 39) dX12_trueMinute_39 (v := 10079) rfl ?_
  refine ea_icmp_gt (pc := 42) (tgt := 77) dX12_trueMinute_42 rfl (fun c3 => ?_) (fun c3 => ?_)
  · have H := H.1 c3
    refine ea_iload (pc := 77) dX12_trueMinute_77 4 rfl ?_
    obtain ⟨rfl, rfl⟩ := H
    exact ea_ireturn (pc := 79) dX12_trueMinute_79 rfl rfl
  · have H := H.2 c3
    refine ea_iload_n (pc := 45) dX12_trueMinute_45 rfl 3 rfl ?_
    refine ea_iconst (pc := 46) dX12_trueMinute_46 (v := 1) rfl ?_
    refine ea_icmp_eq (pc := 47) (tgt := 56) dX12_trueMinute_47 rfl (fun c2 => ?_) (fun c2 => ?_)
    · have H := H.1 c2
      exact H
    · have H := H.2 c2
      refine ea_iload (pc := 50) dX12_trueMinute_50 4 rfl ?_
      refine ea_iconst (pc := 52) dX12_trueMinute_52 (v := (-1)) rfl ?_
      refine ea_icmp_ne (pc := 53) (tgt := 77) dX12_trueMinute_53 rfl (fun c1 => ?_) (fun c1 => ?_)
      · have H := H.1 c1
        refine ea_iload (pc := 77) dX12_trueMinute_77 4 rfl ?_
        obtain ⟨rfl, rfl⟩ := H
        exact ea_ireturn (pc := 79) dX12_trueMinute_79 rfl rfl
      · have H := H.2 c1
        exact H
theorem pX12_trueMinute_56 {d b0 : Nat} {h0 hE h : ea_H} {rv : Option ea_V} {x1 : Int32} {x2 : Int32} {x3 : Int32} {x4 : Int32} {x5 : Int32} (hd : 3 ≤ d) (hs_h : ShM b0 h) (H : ∃ (d1 : Nat) (xc5 : Int32) (h2 : ea_H), ea_Met mX12_mayShow d1 [vR (some (b0 + 0)), vI x1, vI x2, vI x5] h (some (vI xc5)) h2 ∧ d1 + 1 ≤ d ∧ ShM b0 h2 ∧ (xc5 = (0 : Int32) → ea_W mX12_trueMinute d h0 rv hE 37 [(0, vR (some (b0 + 0))), (1, vI x1), (2, vI x2), (3, vI x3), (4, vI x4), (5, vI (x5 + 1))] [] h2) ∧ (¬ xc5 = (0 : Int32) → ea_W mX12_trueMinute d h0 rv hE 37 [(0, vR (some (b0 + 0))), (1, vI x1), (2, vI x2), (3, vI x3), (4, vI x5), (5, vI (x5 + 1))] [] h2)) : ea_W mX12_trueMinute d h0 rv hE 56 [(0, vR (some (b0 + 0))), (1, vI x1), (2, vI x2), (3, vI x3), (4, vI x4), (5, vI x5)] [] h := by
  refine ea_aload_n (pc := 56) dX12_trueMinute_56 rfl 0 rfl ?_
  refine ea_iload_n (pc := 57) dX12_trueMinute_57 rfl 1 rfl ?_
  refine ea_iload_n (pc := 58) dX12_trueMinute_58 rfl 2 rfl ?_
  refine ea_iload (pc := 59) dX12_trueMinute_59 5 rfl ?_
  obtain ⟨d1, xc5, h2, m3, q4, hs_h2, H⟩ := H
  refine ea_callV (pc := 61) (As := [vI x1, vI x2, vI x5]) (st := []) dX12_trueMinute_61 kX12_mayShow m3 q4 rfl (Nat.le_of_ble_eq_true rfl) ew_2163 ew_2165 ew_103 (ci := 12) rfl (by decide) (hs_h.1 0 (by decide)).1 (hs_h.1 0 (by decide)).2.1 ?_
  refine ea_if_eq (pc := 64) (tgt := 71) dX12_trueMinute_64 rfl (fun c6 => ?_) (fun c6 => ?_)
  · have H := H.1 c6
    refine ea_iinc (pc := 71) (v := 1) (lv' := [(0, vR (some (b0 + 0))), (1, vI x1), (2, vI x2), (3, vI x3), (4, vI x4), (5, vI (x5 + 1))]) dX12_trueMinute_71 5 rfl rfl (Nat.le_of_ble_eq_true rfl) [1, 2, 3, 4, 5, 0] rfl ?_
    refine ea_goto (pc := 74) (tgt := 37) dX12_trueMinute_74 rfl ?_
    exact H
  · have H := H.2 c6
    refine ea_iload (pc := 67) dX12_trueMinute_67 5 rfl ?_
    refine ea_istore (pc := 69) (lv' := [(0, vR (some (b0 + 0))), (1, vI x1), (2, vI x2), (3, vI x3), (4, vI x5), (5, vI x5)]) dX12_trueMinute_69 (Nat.le_of_ble_eq_true rfl) [1, 2, 3, 4, 0, 5] rfl ?_
    refine ea_iinc (pc := 71) (v := 1) (lv' := [(0, vR (some (b0 + 0))), (1, vI x1), (2, vI x2), (3, vI x3), (4, vI x5), (5, vI (x5 + 1))]) dX12_trueMinute_71 5 rfl rfl (Nat.le_of_ble_eq_true rfl) [1, 2, 3, 4, 5, 0] rfl ?_
    refine ea_goto (pc := 74) (tgt := 37) dX12_trueMinute_74 rfl ?_
    exact H
theorem pX12_tried_0 {d b0 : Nat} {h0 hE h : ea_H} {rv : Option ea_V} {x1 : Int32} (hd : 2 ≤ d) (hs_h : ShM b0 h) (H : (¬ (vX12_isIn (x1 : Int32) (0 : Int32) (((ea_i h (b0 + 0) 25) - (1 : Int32)) : Int32) h) = (0 : Int32) → ea_W mX12_tried d h0 rv hE 23 [(0, vR (some (b0 + 0))), (1, vI x1), (2, vJ 0), (4, vI 0)] [] h) ∧ ((vX12_isIn (x1 : Int32) (0 : Int32) (((ea_i h (b0 + 0) 25) - (1 : Int32)) : Int32) h) = (0 : Int32) → rv = some (vJ (-1)) ∧ hE = h)) : ea_W mX12_tried d h0 rv hE 0 [(0, vR (some (b0 + 0))), (1, vI x1)] [] h := by
  refine ea_iload_n (pc := 0) dX12_tried_0 rfl 1 rfl ?_
  refine ea_iconst (pc := 1) dX12_tried_1 (v := 0) rfl ?_
  refine ea_aload_n (pc := 2) dX12_tried_2 rfl 0 rfl ?_
  refine ea_getI (pc := 3) dX12_tried_3 ec_12 (k := 25) (Nat.le_of_ble_eq_true rfl) rfl (Or.inl ew_1370) (hs_h.1 0 (by decide)).1 (hs_h.1 0 (by decide)).2.1 ?_
  refine ea_iconst (pc := 6) dX12_tried_6 (v := 1) rfl ?_
  refine ea_isub (pc := 7) dX12_tried_7 ?_
  refine ea_callS (pc := 8) (d' := d - 1) (As := [vI x1, vI 0, vI ((ea_i h (b0 + 0) 25) - (1 : Int32))]) (st := []) dX12_tried_8 kX12_isIn (sX12_isIn (d := d - 1) (by omega)) (by omega) rfl (Nat.le_of_ble_eq_true rfl) ew_1712 ew_1713 ?_
  refine ea_if_ne (pc := 11) (tgt := 18) dX12_tried_11 rfl (fun c7 => ?_) (fun c7 => ?_)
  · have H := H.1 c7
    refine ea_lconst (pc := 18) dX12_tried_18 (v := 0) rfl ?_
    refine ea_lstore_n (pc := 19) (lv' := [(0, vR (some (b0 + 0))), (1, vI x1), (2, vJ 0)]) dX12_tried_19 rfl (Nat.le_of_ble_eq_true rfl) [1, 2, 0] rfl ?_
    refine ea_iconst (pc := 20) dX12_tried_20 (v := 0) rfl ?_
    refine ea_istore (pc := 21) (lv' := [(0, vR (some (b0 + 0))), (1, vI x1), (2, vJ 0), (4, vI 0)]) dX12_tried_21 (Nat.le_of_ble_eq_true rfl) [1, 2, 3, 0] rfl ?_
    exact H
  · have H := H.2 c7
    refine ea_ldc2 (pc := 14) dX12_tried_14 ew_2118 ?_
    obtain ⟨rfl, rfl⟩ := H
    exact ea_lreturn (pc := 17) dX12_tried_17 rfl
theorem pX12_tried_23 {d b0 : Nat} {h0 hE h : ea_H} {rv : Option ea_V} {x1 : Int32} {y2 : Int64} {x4 : Int32} (hd : 2 ≤ d) (hs_h : ShM b0 h) (H : ((ea_i h (b0 + 0) 63) ≤ x4 → rv = some (vJ y2) ∧ hE = h) ∧ (¬ (ea_i h (b0 + 0) 63) ≤ x4 → ∃ (d1 : Nat) (xc5 : Int32) (h2 : ea_H), ea_Met mX12_chargeBy d1 [vR (some (b0 + 0)), vI x4, vI x1] h (some (vI xc5)) h2 ∧ d1 + 1 ≤ d ∧ ShM b0 h2 ∧ ea_W mX12_tried d h0 rv hE 23 [(0, vR (some (b0 + 0))), (1, vI x1), (2, vJ (y2 + (Int32.toInt64 xc5))), (4, vI (x4 + 1))] [] h2)) : ea_W mX12_tried d h0 rv hE 23 [(0, vR (some (b0 + 0))), (1, vI x1), (2, vJ y2), (4, vI x4)] [] h := by
  refine ea_iload (pc := 23) dX12_tried_23 3 rfl ?_
  refine ea_aload_n (pc := 25) dX12_tried_25 rfl 0 rfl ?_
  refine ea_getI (pc := 26) dX12_tried_26 ec_12 (k := 63) (Nat.le_of_ble_eq_true rfl) rfl (Or.inl ew_1408) (hs_h.1 0 (by decide)).1 (hs_h.1 0 (by decide)).2.1 ?_
  refine ea_icmp_ge (pc := 29) (tgt := 49) dX12_tried_29 rfl (fun c6 => ?_) (fun c6 => ?_)
  · have H := H.1 c6
    refine ea_lload_n (pc := 49) dX12_tried_49 rfl 2 rfl ?_
    obtain ⟨rfl, rfl⟩ := H
    exact ea_lreturn (pc := 50) dX12_tried_50 rfl
  · have H := H.2 c6
    refine ea_lload_n (pc := 32) dX12_tried_32 rfl 2 rfl ?_
    refine ea_aload_n (pc := 33) dX12_tried_33 rfl 0 rfl ?_
    refine ea_iload (pc := 34) dX12_tried_34 3 rfl ?_
    refine ea_iload_n (pc := 36) dX12_tried_36 rfl 1 rfl ?_
    obtain ⟨d1, xc5, h2, m3, q4, hs_h2, H⟩ := H
    refine ea_callV (pc := 37) (As := [vI x4, vI x1]) (st := [vJ y2]) dX12_tried_37 kX12_chargeBy m3 q4 rfl (Nat.le_of_ble_eq_true rfl) ew_1991 ew_1993 ew_84 (ci := 12) rfl (by decide) (hs_h.1 0 (by decide)).1 (hs_h.1 0 (by decide)).2.1 ?_
    refine ea_i2l (pc := 40) dX12_tried_40 ?_
    refine ea_ladd (pc := 41) dX12_tried_41 ?_
    refine ea_lstore_n (pc := 42) (lv' := [(0, vR (some (b0 + 0))), (1, vI x1), (2, vJ (y2 + (Int32.toInt64 xc5))), (4, vI x4)]) dX12_tried_42 rfl (Nat.le_of_ble_eq_true rfl) [1, 2, 0, 3] rfl ?_
    refine ea_iinc (pc := 43) (v := 1) (lv' := [(0, vR (some (b0 + 0))), (1, vI x1), (2, vJ (y2 + (Int32.toInt64 xc5))), (4, vI (x4 + 1))]) dX12_tried_43 3 rfl rfl (Nat.le_of_ble_eq_true rfl) [1, 2, 3, 0] rfl ?_
    refine ea_goto (pc := 46) (tgt := 23) dX12_tried_46 rfl ?_
    exact H
theorem pX12_keeps_0 {d b0 : Nat} {h0 hE h : ea_H} {rv : Option ea_V}  (hd : 1 ≤ d) (hs_h : ShM b0 h) (H : ea_W mX12_keeps d h0 rv hE 2 [(0, vR (some (b0 + 0))), (1, vI 0)] [] h) : ea_W mX12_keeps d h0 rv hE 0 [(0, vR (some (b0 + 0)))] [] h := by
  refine ea_iconst (pc := 0) dX12_keeps_0 (v := 0) rfl ?_
  refine ea_istore_n (pc := 1) (lv' := [(0, vR (some (b0 + 0))), (1, vI 0)]) dX12_keeps_1 rfl (Nat.le_of_ble_eq_true rfl) [1, 0] rfl ?_
  exact H
theorem pX12_keeps_2 {d b0 : Nat} {h0 hE h : ea_H} {rv : Option ea_V} {x1 : Int32} (hd : 1 ≤ d) (hs_h : ShM b0 h) (H : ((ea_i h (b0 + 0) 63) ≤ x1 → ea_W mX12_keeps d h0 rv hE 114 [(0, vR (some (b0 + 0))), (1, vI 0)] [] h) ∧ (¬ (ea_i h (b0 + 0) 63) ≤ x1 → vp_in x1 120 ∧ vp_in x1 120 ∧ ∀ h3, h3 = ea_wi h (b0 + 81) (Int32.toNatClampNeg x1) (ea_i h (b0 + 55) (Int32.toNatClampNeg x1)) → vp_in x1 120 ∧ vp_in x1 120 ∧ ∀ h7, h7 = ea_wi h3 (b0 + 82) (Int32.toNatClampNeg x1) (ea_i h3 (b0 + 56) (Int32.toNatClampNeg x1)) → vp_in x1 120 ∧ vp_in x1 120 ∧ ∀ h11, h11 = ea_wi h7 (b0 + 83) (Int32.toNatClampNeg x1) (ea_i h7 (b0 + 57) (Int32.toNatClampNeg x1)) → vp_in x1 120 ∧ vp_in x1 120 ∧ ∀ h15, h15 = ea_wi h11 (b0 + 84) (Int32.toNatClampNeg x1) (ea_i h11 (b0 + 58) (Int32.toNatClampNeg x1)) → vp_in x1 120 ∧ vp_in x1 120 ∧ ∀ h19, h19 = ea_wi h15 (b0 + 85) (Int32.toNatClampNeg x1) (ea_i h15 (b0 + 59) (Int32.toNatClampNeg x1)) → vp_in x1 120 ∧ vp_in x1 120 ∧ ∀ h23, h23 = ea_wi h19 (b0 + 86) (Int32.toNatClampNeg x1) (ea_i h19 (b0 + 50) (Int32.toNatClampNeg x1)) → vp_in x1 120 ∧ vp_in x1 120 ∧ ∀ h27, h27 = ea_wi h23 (b0 + 87) (Int32.toNatClampNeg x1) (ea_i h23 (b0 + 51) (Int32.toNatClampNeg x1)) → vp_in x1 120 ∧ vp_in x1 120 ∧ ((ea_i h27 (b0 + 61) (Int32.toNatClampNeg x1)) = 0 ∨ (ea_i h27 (b0 + 61) (Int32.toNatClampNeg x1)) = 1) ∧ ∀ h31, h31 = ea_wi h27 (b0 + 89) (Int32.toNatClampNeg x1) (ea_i h27 (b0 + 61) (Int32.toNatClampNeg x1)) → ea_W mX12_keeps d h0 rv hE 2 [(0, vR (some (b0 + 0))), (1, vI (x1 + 1))] [] h31)) : ea_W mX12_keeps d h0 rv hE 2 [(0, vR (some (b0 + 0))), (1, vI x1)] [] h := by
  refine ea_iload_n (pc := 2) dX12_keeps_2 rfl 1 rfl ?_
  refine ea_aload_n (pc := 3) dX12_keeps_3 rfl 0 rfl ?_
  refine ea_getI (pc := 4) dX12_keeps_4 ec_12 (k := 63) (Nat.le_of_ble_eq_true rfl) rfl (Or.inl ew_1408) (hs_h.1 0 (by decide)).1 (hs_h.1 0 (by decide)).2.1 ?_
  refine ea_icmp_ge (pc := 7) (tgt := 112) dX12_keeps_7 rfl (fun c34 => ?_) (fun c34 => ?_)
  · have H := H.1 c34
    refine ea_iconst (pc := 112) dX12_keeps_112 (v := 0) rfl ?_
    refine ea_istore_n (pc := 113) (lv' := [(0, vR (some (b0 + 0))), (1, vI 0)]) dX12_keeps_113 rfl (Nat.le_of_ble_eq_true rfl) [1, 0] rfl ?_
    exact H
  · have H := H.2 c34
    refine ea_aload_n (pc := 10) dX12_keeps_10 rfl 0 rfl ?_
    refine ea_getR (pc := 11) dX12_keeps_11 ec_12 (k := 109) (Nat.le_of_ble_eq_true rfl) rfl (Or.inl ew_1454) (hs_h.1 0 (by decide)).1 (hs_h.1 0 (by decide)).2.1 (hs_h.2 0 109 rfl) ?_
    refine ea_iload_n (pc := 14) dX12_keeps_14 rfl 1 rfl ?_
    refine ea_aload_n (pc := 15) dX12_keeps_15 rfl 0 rfl ?_
    refine ea_getR (pc := 16) dX12_keeps_16 ec_12 (k := 81) (Nat.le_of_ble_eq_true rfl) rfl (Or.inl ew_1426) (hs_h.1 0 (by decide)).1 (hs_h.1 0 (by decide)).2.1 (hs_h.2 0 81 rfl) ?_
    refine ea_iload_n (pc := 19) dX12_keeps_19 rfl 1 rfl ?_
    obtain ⟨z1, H⟩ := H
    refine ea_iald (pc := 20) dX12_keeps_20 (hs_h.1 55 (by decide)).1 (hs_h.1 55 (by decide)).2.1 (ea_vpl (hs_h.1 55 (by decide)).2.2 z1) ?_
    obtain ⟨z2, H⟩ := H
    refine ea_iast (pc := 21) dX12_keeps_21 (hs_h.1 81 (by decide)).1 (hs_h.1 81 (by decide)).2.1 (ea_vpl (hs_h.1 81 (by decide)).2.2 z2) ?_
    obtain ⟨h3, E4⟩ : ∃ z, z = ea_wi h (b0 + 81) (Int32.toNatClampNeg x1) (ea_i h (b0 + 55) (Int32.toNatClampNeg x1)) := ⟨_, rfl⟩
    have H := H h3 E4
    refine ea_nm E4 ?_
    have hs_h3 : ShM b0 h3 := by rw [E4]; exact ShM_wi hs_h
    refine ea_aload_n (pc := 22) dX12_keeps_22 rfl 0 rfl ?_
    refine ea_getR (pc := 23) dX12_keeps_23 ec_12 (k := 110) (Nat.le_of_ble_eq_true rfl) rfl (Or.inl ew_1455) (hs_h3.1 0 (by decide)).1 (hs_h3.1 0 (by decide)).2.1 (hs_h3.2 0 110 rfl) ?_
    refine ea_iload_n (pc := 26) dX12_keeps_26 rfl 1 rfl ?_
    refine ea_aload_n (pc := 27) dX12_keeps_27 rfl 0 rfl ?_
    refine ea_getR (pc := 28) dX12_keeps_28 ec_12 (k := 82) (Nat.le_of_ble_eq_true rfl) rfl (Or.inl ew_1427) (hs_h3.1 0 (by decide)).1 (hs_h3.1 0 (by decide)).2.1 (hs_h3.2 0 82 rfl) ?_
    refine ea_iload_n (pc := 31) dX12_keeps_31 rfl 1 rfl ?_
    obtain ⟨z5, H⟩ := H
    refine ea_iald (pc := 32) dX12_keeps_32 (hs_h3.1 56 (by decide)).1 (hs_h3.1 56 (by decide)).2.1 (ea_vpl (hs_h3.1 56 (by decide)).2.2 z5) ?_
    obtain ⟨z6, H⟩ := H
    refine ea_iast (pc := 33) dX12_keeps_33 (hs_h3.1 82 (by decide)).1 (hs_h3.1 82 (by decide)).2.1 (ea_vpl (hs_h3.1 82 (by decide)).2.2 z6) ?_
    obtain ⟨h7, E8⟩ : ∃ z, z = ea_wi h3 (b0 + 82) (Int32.toNatClampNeg x1) (ea_i h3 (b0 + 56) (Int32.toNatClampNeg x1)) := ⟨_, rfl⟩
    have H := H h7 E8
    refine ea_nm E8 ?_
    have hs_h7 : ShM b0 h7 := by rw [E8]; exact ShM_wi hs_h3
    refine ea_aload_n (pc := 34) dX12_keeps_34 rfl 0 rfl ?_
    refine ea_getR (pc := 35) dX12_keeps_35 ec_12 (k := 111) (Nat.le_of_ble_eq_true rfl) rfl (Or.inl ew_1456) (hs_h7.1 0 (by decide)).1 (hs_h7.1 0 (by decide)).2.1 (hs_h7.2 0 111 rfl) ?_
    refine ea_iload_n (pc := 38) dX12_keeps_38 rfl 1 rfl ?_
    refine ea_aload_n (pc := 39) dX12_keeps_39 rfl 0 rfl ?_
    refine ea_getR (pc := 40) dX12_keeps_40 ec_12 (k := 83) (Nat.le_of_ble_eq_true rfl) rfl (Or.inl ew_1428) (hs_h7.1 0 (by decide)).1 (hs_h7.1 0 (by decide)).2.1 (hs_h7.2 0 83 rfl) ?_
    refine ea_iload_n (pc := 43) dX12_keeps_43 rfl 1 rfl ?_
    obtain ⟨z9, H⟩ := H
    refine ea_iald (pc := 44) dX12_keeps_44 (hs_h7.1 57 (by decide)).1 (hs_h7.1 57 (by decide)).2.1 (ea_vpl (hs_h7.1 57 (by decide)).2.2 z9) ?_
    obtain ⟨z10, H⟩ := H
    refine ea_iast (pc := 45) dX12_keeps_45 (hs_h7.1 83 (by decide)).1 (hs_h7.1 83 (by decide)).2.1 (ea_vpl (hs_h7.1 83 (by decide)).2.2 z10) ?_
    obtain ⟨h11, E12⟩ : ∃ z, z = ea_wi h7 (b0 + 83) (Int32.toNatClampNeg x1) (ea_i h7 (b0 + 57) (Int32.toNatClampNeg x1)) := ⟨_, rfl⟩
    have H := H h11 E12
    refine ea_nm E12 ?_
    have hs_h11 : ShM b0 h11 := by rw [E12]; exact ShM_wi hs_h7
    refine ea_aload_n (pc := 46) dX12_keeps_46 rfl 0 rfl ?_
    refine ea_getR (pc := 47) dX12_keeps_47 ec_12 (k := 112) (Nat.le_of_ble_eq_true rfl) rfl (Or.inl ew_1457) (hs_h11.1 0 (by decide)).1 (hs_h11.1 0 (by decide)).2.1 (hs_h11.2 0 112 rfl) ?_
    refine ea_iload_n (pc := 50) dX12_keeps_50 rfl 1 rfl ?_
    refine ea_aload_n (pc := 51) dX12_keeps_51 rfl 0 rfl ?_
    refine ea_getR (pc := 52) dX12_keeps_52 ec_12 (k := 84) (Nat.le_of_ble_eq_true rfl) rfl (Or.inl ew_1429) (hs_h11.1 0 (by decide)).1 (hs_h11.1 0 (by decide)).2.1 (hs_h11.2 0 84 rfl) ?_
    refine ea_iload_n (pc := 55) dX12_keeps_55 rfl 1 rfl ?_
    obtain ⟨z13, H⟩ := H
    refine ea_iald (pc := 56) dX12_keeps_56 (hs_h11.1 58 (by decide)).1 (hs_h11.1 58 (by decide)).2.1 (ea_vpl (hs_h11.1 58 (by decide)).2.2 z13) ?_
    obtain ⟨z14, H⟩ := H
    refine ea_iast (pc := 57) dX12_keeps_57 (hs_h11.1 84 (by decide)).1 (hs_h11.1 84 (by decide)).2.1 (ea_vpl (hs_h11.1 84 (by decide)).2.2 z14) ?_
    obtain ⟨h15, E16⟩ : ∃ z, z = ea_wi h11 (b0 + 84) (Int32.toNatClampNeg x1) (ea_i h11 (b0 + 58) (Int32.toNatClampNeg x1)) := ⟨_, rfl⟩
    have H := H h15 E16
    refine ea_nm E16 ?_
    have hs_h15 : ShM b0 h15 := by rw [E16]; exact ShM_wi hs_h11
    refine ea_aload_n (pc := 58) dX12_keeps_58 rfl 0 rfl ?_
    refine ea_getR (pc := 59) dX12_keeps_59 ec_12 (k := 113) (Nat.le_of_ble_eq_true rfl) rfl (Or.inl ew_1458) (hs_h15.1 0 (by decide)).1 (hs_h15.1 0 (by decide)).2.1 (hs_h15.2 0 113 rfl) ?_
    refine ea_iload_n (pc := 62) dX12_keeps_62 rfl 1 rfl ?_
    refine ea_aload_n (pc := 63) dX12_keeps_63 rfl 0 rfl ?_
    refine ea_getR (pc := 64) dX12_keeps_64 ec_12 (k := 85) (Nat.le_of_ble_eq_true rfl) rfl (Or.inl ew_1430) (hs_h15.1 0 (by decide)).1 (hs_h15.1 0 (by decide)).2.1 (hs_h15.2 0 85 rfl) ?_
    refine ea_iload_n (pc := 67) dX12_keeps_67 rfl 1 rfl ?_
    obtain ⟨z17, H⟩ := H
    refine ea_iald (pc := 68) dX12_keeps_68 (hs_h15.1 59 (by decide)).1 (hs_h15.1 59 (by decide)).2.1 (ea_vpl (hs_h15.1 59 (by decide)).2.2 z17) ?_
    obtain ⟨z18, H⟩ := H
    refine ea_iast (pc := 69) dX12_keeps_69 (hs_h15.1 85 (by decide)).1 (hs_h15.1 85 (by decide)).2.1 (ea_vpl (hs_h15.1 85 (by decide)).2.2 z18) ?_
    obtain ⟨h19, E20⟩ : ∃ z, z = ea_wi h15 (b0 + 85) (Int32.toNatClampNeg x1) (ea_i h15 (b0 + 59) (Int32.toNatClampNeg x1)) := ⟨_, rfl⟩
    have H := H h19 E20
    refine ea_nm E20 ?_
    have hs_h19 : ShM b0 h19 := by rw [E20]; exact ShM_wi hs_h15
    refine ea_aload_n (pc := 70) dX12_keeps_70 rfl 0 rfl ?_
    refine ea_getR (pc := 71) dX12_keeps_71 ec_12 (k := 114) (Nat.le_of_ble_eq_true rfl) rfl (Or.inl ew_1459) (hs_h19.1 0 (by decide)).1 (hs_h19.1 0 (by decide)).2.1 (hs_h19.2 0 114 rfl) ?_
    refine ea_iload_n (pc := 74) dX12_keeps_74 rfl 1 rfl ?_
    refine ea_aload_n (pc := 75) dX12_keeps_75 rfl 0 rfl ?_
    refine ea_getR (pc := 76) dX12_keeps_76 ec_12 (k := 76) (Nat.le_of_ble_eq_true rfl) rfl (Or.inl ew_1421) (hs_h19.1 0 (by decide)).1 (hs_h19.1 0 (by decide)).2.1 (hs_h19.2 0 76 rfl) ?_
    refine ea_iload_n (pc := 79) dX12_keeps_79 rfl 1 rfl ?_
    obtain ⟨z21, H⟩ := H
    refine ea_iald (pc := 80) dX12_keeps_80 (hs_h19.1 50 (by decide)).1 (hs_h19.1 50 (by decide)).2.1 (ea_vpl (hs_h19.1 50 (by decide)).2.2 z21) ?_
    obtain ⟨z22, H⟩ := H
    refine ea_iast (pc := 81) dX12_keeps_81 (hs_h19.1 86 (by decide)).1 (hs_h19.1 86 (by decide)).2.1 (ea_vpl (hs_h19.1 86 (by decide)).2.2 z22) ?_
    obtain ⟨h23, E24⟩ : ∃ z, z = ea_wi h19 (b0 + 86) (Int32.toNatClampNeg x1) (ea_i h19 (b0 + 50) (Int32.toNatClampNeg x1)) := ⟨_, rfl⟩
    have H := H h23 E24
    refine ea_nm E24 ?_
    have hs_h23 : ShM b0 h23 := by rw [E24]; exact ShM_wi hs_h19
    refine ea_aload_n (pc := 82) dX12_keeps_82 rfl 0 rfl ?_
    refine ea_getR (pc := 83) dX12_keeps_83 ec_12 (k := 115) (Nat.le_of_ble_eq_true rfl) rfl (Or.inl ew_1460) (hs_h23.1 0 (by decide)).1 (hs_h23.1 0 (by decide)).2.1 (hs_h23.2 0 115 rfl) ?_
    refine ea_iload_n (pc := 86) dX12_keeps_86 rfl 1 rfl ?_
    refine ea_aload_n (pc := 87) dX12_keeps_87 rfl 0 rfl ?_
    refine ea_getR (pc := 88) dX12_keeps_88 ec_12 (k := 77) (Nat.le_of_ble_eq_true rfl) rfl (Or.inl ew_1422) (hs_h23.1 0 (by decide)).1 (hs_h23.1 0 (by decide)).2.1 (hs_h23.2 0 77 rfl) ?_
    refine ea_iload_n (pc := 91) dX12_keeps_91 rfl 1 rfl ?_
    obtain ⟨z25, H⟩ := H
    refine ea_iald (pc := 92) dX12_keeps_92 (hs_h23.1 51 (by decide)).1 (hs_h23.1 51 (by decide)).2.1 (ea_vpl (hs_h23.1 51 (by decide)).2.2 z25) ?_
    obtain ⟨z26, H⟩ := H
    refine ea_iast (pc := 93) dX12_keeps_93 (hs_h23.1 87 (by decide)).1 (hs_h23.1 87 (by decide)).2.1 (ea_vpl (hs_h23.1 87 (by decide)).2.2 z26) ?_
    obtain ⟨h27, E28⟩ : ∃ z, z = ea_wi h23 (b0 + 87) (Int32.toNatClampNeg x1) (ea_i h23 (b0 + 51) (Int32.toNatClampNeg x1)) := ⟨_, rfl⟩
    have H := H h27 E28
    refine ea_nm E28 ?_
    have hs_h27 : ShM b0 h27 := by rw [E28]; exact ShM_wi hs_h23
    refine ea_aload_n (pc := 94) dX12_keeps_94 rfl 0 rfl ?_
    refine ea_getR (pc := 95) dX12_keeps_95 ec_12 (k := 117) (Nat.le_of_ble_eq_true rfl) rfl (Or.inl ew_1462) (hs_h27.1 0 (by decide)).1 (hs_h27.1 0 (by decide)).2.1 (hs_h27.2 0 117 rfl) ?_
    refine ea_iload_n (pc := 98) dX12_keeps_98 rfl 1 rfl ?_
    refine ea_aload_n (pc := 99) dX12_keeps_99 rfl 0 rfl ?_
    refine ea_getR (pc := 100) dX12_keeps_100 ec_12 (k := 87) (Nat.le_of_ble_eq_true rfl) rfl (Or.inl ew_1432) (hs_h27.1 0 (by decide)).1 (hs_h27.1 0 (by decide)).2.1 (hs_h27.2 0 87 rfl) ?_
    refine ea_iload_n (pc := 103) dX12_keeps_103 rfl 1 rfl ?_
    obtain ⟨z29, H⟩ := H
    refine ea_zald (pc := 104) dX12_keeps_104 (hs_h27.1 61 (by decide)).1 (hs_h27.1 61 (by decide)).2.1 (ea_vpl (hs_h27.1 61 (by decide)).2.2 z29) ?_
    obtain ⟨z30, H⟩ := H
    obtain ⟨z33, H⟩ := H
    refine ea_zast (pc := 105) dX12_keeps_105 (y := (ea_i h27 (b0 + 61) (Int32.toNatClampNeg x1))) (ea_bn z33) (hs_h27.1 89 (by decide)).1 (hs_h27.1 89 (by decide)).2.1 (ea_vpl (hs_h27.1 89 (by decide)).2.2 z30) ?_
    obtain ⟨h31, E32⟩ : ∃ z, z = ea_wi h27 (b0 + 89) (Int32.toNatClampNeg x1) (ea_i h27 (b0 + 61) (Int32.toNatClampNeg x1)) := ⟨_, rfl⟩
    have H := H h31 E32
    refine ea_nm E32 ?_
    have hs_h31 : ShM b0 h31 := by rw [E32]; exact ShM_wi hs_h27
    refine ea_iinc (pc := 106) (v := 1) (lv' := [(0, vR (some (b0 + 0))), (1, vI (x1 + 1))]) dX12_keeps_106 1 rfl rfl (Nat.le_of_ble_eq_true rfl) [1, 0] rfl ?_
    refine ea_goto (pc := 109) (tgt := 2) dX12_keeps_109 rfl ?_
    exact H
theorem pX12_keeps_114 {d b0 : Nat} {h0 hE h : ea_H} {rv : Option ea_V} {x1 : Int32} (hd : 1 ≤ d) (hs_h : ShM b0 h) (H : ((70 : Int32) ≤ x1 → rv = none ∧ hE = h) ∧ (¬ (70 : Int32) ≤ x1 → vp_in x1 70 ∧ vp_in x1 70 ∧ ∀ h3, h3 = ea_wi h (b0 + 88) (Int32.toNatClampNeg x1) (ea_i h (b0 + 60) (Int32.toNatClampNeg x1)) → ea_W mX12_keeps d h0 rv hE 114 [(0, vR (some (b0 + 0))), (1, vI (x1 + 1))] [] h3)) : ea_W mX12_keeps d h0 rv hE 114 [(0, vR (some (b0 + 0))), (1, vI x1)] [] h := by
  refine ea_iload_n (pc := 114) dX12_keeps_114 rfl 1 rfl ?_
  refine ea_bipush (pc := 115) dX12_keeps_115 (v := 70) rfl ?_
  refine ea_icmp_ge (pc := 117) (tgt := 138) dX12_keeps_117 rfl (fun c5 => ?_) (fun c5 => ?_)
  · have H := H.1 c5
    obtain ⟨rfl, rfl⟩ := H
    exact ea_return (pc := 138) dX12_keeps_138 rfl
  · have H := H.2 c5
    refine ea_aload_n (pc := 120) dX12_keeps_120 rfl 0 rfl ?_
    refine ea_getR (pc := 121) dX12_keeps_121 ec_12 (k := 116) (Nat.le_of_ble_eq_true rfl) rfl (Or.inl ew_1461) (hs_h.1 0 (by decide)).1 (hs_h.1 0 (by decide)).2.1 (hs_h.2 0 116 rfl) ?_
    refine ea_iload_n (pc := 124) dX12_keeps_124 rfl 1 rfl ?_
    refine ea_aload_n (pc := 125) dX12_keeps_125 rfl 0 rfl ?_
    refine ea_getR (pc := 126) dX12_keeps_126 ec_12 (k := 86) (Nat.le_of_ble_eq_true rfl) rfl (Or.inl ew_1431) (hs_h.1 0 (by decide)).1 (hs_h.1 0 (by decide)).2.1 (hs_h.2 0 86 rfl) ?_
    refine ea_iload_n (pc := 129) dX12_keeps_129 rfl 1 rfl ?_
    obtain ⟨z1, H⟩ := H
    refine ea_iald (pc := 130) dX12_keeps_130 (hs_h.1 60 (by decide)).1 (hs_h.1 60 (by decide)).2.1 (ea_vpl (hs_h.1 60 (by decide)).2.2 z1) ?_
    obtain ⟨z2, H⟩ := H
    refine ea_iast (pc := 131) dX12_keeps_131 (hs_h.1 88 (by decide)).1 (hs_h.1 88 (by decide)).2.1 (ea_vpl (hs_h.1 88 (by decide)).2.2 z2) ?_
    obtain ⟨h3, E4⟩ : ∃ z, z = ea_wi h (b0 + 88) (Int32.toNatClampNeg x1) (ea_i h (b0 + 60) (Int32.toNatClampNeg x1)) := ⟨_, rfl⟩
    have H := H h3 E4
    refine ea_nm E4 ?_
    have hs_h3 : ShM b0 h3 := by rw [E4]; exact ShM_wi hs_h
    refine ea_iinc (pc := 132) (v := 1) (lv' := [(0, vR (some (b0 + 0))), (1, vI (x1 + 1))]) dX12_keeps_132 1 rfl rfl (Nat.le_of_ble_eq_true rfl) [1, 0] rfl ?_
    refine ea_goto (pc := 135) (tgt := 114) dX12_keeps_135 rfl ?_
    exact H
theorem pX12_putsBack_0 {d b0 : Nat} {h0 hE h : ea_H} {rv : Option ea_V}  (hd : 1 ≤ d) (hs_h : ShM b0 h) (H : ea_W mX12_putsBack d h0 rv hE 2 [(0, vR (some (b0 + 0))), (1, vI 0)] [] h) : ea_W mX12_putsBack d h0 rv hE 0 [(0, vR (some (b0 + 0)))] [] h := by
  refine ea_iconst (pc := 0) dX12_putsBack_0 (v := 0) rfl ?_
  refine ea_istore_n (pc := 1) (lv' := [(0, vR (some (b0 + 0))), (1, vI 0)]) dX12_putsBack_1 rfl (Nat.le_of_ble_eq_true rfl) [1, 0] rfl ?_
  exact H
theorem pX12_putsBack_2 {d b0 : Nat} {h0 hE h : ea_H} {rv : Option ea_V} {x1 : Int32} (hd : 1 ≤ d) (hs_h : ShM b0 h) (H : ((ea_i h (b0 + 0) 63) ≤ x1 → ea_W mX12_putsBack d h0 rv hE 114 [(0, vR (some (b0 + 0))), (1, vI 0)] [] h) ∧ (¬ (ea_i h (b0 + 0) 63) ≤ x1 → vp_in x1 120 ∧ vp_in x1 120 ∧ ∀ h3, h3 = ea_wi h (b0 + 55) (Int32.toNatClampNeg x1) (ea_i h (b0 + 81) (Int32.toNatClampNeg x1)) → vp_in x1 120 ∧ vp_in x1 120 ∧ ∀ h7, h7 = ea_wi h3 (b0 + 56) (Int32.toNatClampNeg x1) (ea_i h3 (b0 + 82) (Int32.toNatClampNeg x1)) → vp_in x1 120 ∧ vp_in x1 120 ∧ ∀ h11, h11 = ea_wi h7 (b0 + 57) (Int32.toNatClampNeg x1) (ea_i h7 (b0 + 83) (Int32.toNatClampNeg x1)) → vp_in x1 120 ∧ vp_in x1 120 ∧ ∀ h15, h15 = ea_wi h11 (b0 + 58) (Int32.toNatClampNeg x1) (ea_i h11 (b0 + 84) (Int32.toNatClampNeg x1)) → vp_in x1 120 ∧ vp_in x1 120 ∧ ∀ h19, h19 = ea_wi h15 (b0 + 59) (Int32.toNatClampNeg x1) (ea_i h15 (b0 + 85) (Int32.toNatClampNeg x1)) → vp_in x1 120 ∧ vp_in x1 120 ∧ ∀ h23, h23 = ea_wi h19 (b0 + 50) (Int32.toNatClampNeg x1) (ea_i h19 (b0 + 86) (Int32.toNatClampNeg x1)) → vp_in x1 120 ∧ vp_in x1 120 ∧ ∀ h27, h27 = ea_wi h23 (b0 + 51) (Int32.toNatClampNeg x1) (ea_i h23 (b0 + 87) (Int32.toNatClampNeg x1)) → vp_in x1 120 ∧ vp_in x1 120 ∧ ((ea_i h27 (b0 + 89) (Int32.toNatClampNeg x1)) = 0 ∨ (ea_i h27 (b0 + 89) (Int32.toNatClampNeg x1)) = 1) ∧ ∀ h31, h31 = ea_wi h27 (b0 + 61) (Int32.toNatClampNeg x1) (ea_i h27 (b0 + 89) (Int32.toNatClampNeg x1)) → ea_W mX12_putsBack d h0 rv hE 2 [(0, vR (some (b0 + 0))), (1, vI (x1 + 1))] [] h31)) : ea_W mX12_putsBack d h0 rv hE 2 [(0, vR (some (b0 + 0))), (1, vI x1)] [] h := by
  refine ea_iload_n (pc := 2) dX12_putsBack_2 rfl 1 rfl ?_
  refine ea_aload_n (pc := 3) dX12_putsBack_3 rfl 0 rfl ?_
  refine ea_getI (pc := 4) dX12_putsBack_4 ec_12 (k := 63) (Nat.le_of_ble_eq_true rfl) rfl (Or.inl ew_1408) (hs_h.1 0 (by decide)).1 (hs_h.1 0 (by decide)).2.1 ?_
  refine ea_icmp_ge (pc := 7) (tgt := 112) dX12_putsBack_7 rfl (fun c34 => ?_) (fun c34 => ?_)
  · have H := H.1 c34
    refine ea_iconst (pc := 112) dX12_putsBack_112 (v := 0) rfl ?_
    refine ea_istore_n (pc := 113) (lv' := [(0, vR (some (b0 + 0))), (1, vI 0)]) dX12_putsBack_113 rfl (Nat.le_of_ble_eq_true rfl) [1, 0] rfl ?_
    exact H
  · have H := H.2 c34
    refine ea_aload_n (pc := 10) dX12_putsBack_10 rfl 0 rfl ?_
    refine ea_getR (pc := 11) dX12_putsBack_11 ec_12 (k := 81) (Nat.le_of_ble_eq_true rfl) rfl (Or.inl ew_1426) (hs_h.1 0 (by decide)).1 (hs_h.1 0 (by decide)).2.1 (hs_h.2 0 81 rfl) ?_
    refine ea_iload_n (pc := 14) dX12_putsBack_14 rfl 1 rfl ?_
    refine ea_aload_n (pc := 15) dX12_putsBack_15 rfl 0 rfl ?_
    refine ea_getR (pc := 16) dX12_putsBack_16 ec_12 (k := 109) (Nat.le_of_ble_eq_true rfl) rfl (Or.inl ew_1454) (hs_h.1 0 (by decide)).1 (hs_h.1 0 (by decide)).2.1 (hs_h.2 0 109 rfl) ?_
    refine ea_iload_n (pc := 19) dX12_putsBack_19 rfl 1 rfl ?_
    obtain ⟨z1, H⟩ := H
    refine ea_iald (pc := 20) dX12_putsBack_20 (hs_h.1 81 (by decide)).1 (hs_h.1 81 (by decide)).2.1 (ea_vpl (hs_h.1 81 (by decide)).2.2 z1) ?_
    obtain ⟨z2, H⟩ := H
    refine ea_iast (pc := 21) dX12_putsBack_21 (hs_h.1 55 (by decide)).1 (hs_h.1 55 (by decide)).2.1 (ea_vpl (hs_h.1 55 (by decide)).2.2 z2) ?_
    obtain ⟨h3, E4⟩ : ∃ z, z = ea_wi h (b0 + 55) (Int32.toNatClampNeg x1) (ea_i h (b0 + 81) (Int32.toNatClampNeg x1)) := ⟨_, rfl⟩
    have H := H h3 E4
    refine ea_nm E4 ?_
    have hs_h3 : ShM b0 h3 := by rw [E4]; exact ShM_wi hs_h
    refine ea_aload_n (pc := 22) dX12_putsBack_22 rfl 0 rfl ?_
    refine ea_getR (pc := 23) dX12_putsBack_23 ec_12 (k := 82) (Nat.le_of_ble_eq_true rfl) rfl (Or.inl ew_1427) (hs_h3.1 0 (by decide)).1 (hs_h3.1 0 (by decide)).2.1 (hs_h3.2 0 82 rfl) ?_
    refine ea_iload_n (pc := 26) dX12_putsBack_26 rfl 1 rfl ?_
    refine ea_aload_n (pc := 27) dX12_putsBack_27 rfl 0 rfl ?_
    refine ea_getR (pc := 28) dX12_putsBack_28 ec_12 (k := 110) (Nat.le_of_ble_eq_true rfl) rfl (Or.inl ew_1455) (hs_h3.1 0 (by decide)).1 (hs_h3.1 0 (by decide)).2.1 (hs_h3.2 0 110 rfl) ?_
    refine ea_iload_n (pc := 31) dX12_putsBack_31 rfl 1 rfl ?_
    obtain ⟨z5, H⟩ := H
    refine ea_iald (pc := 32) dX12_putsBack_32 (hs_h3.1 82 (by decide)).1 (hs_h3.1 82 (by decide)).2.1 (ea_vpl (hs_h3.1 82 (by decide)).2.2 z5) ?_
    obtain ⟨z6, H⟩ := H
    refine ea_iast (pc := 33) dX12_putsBack_33 (hs_h3.1 56 (by decide)).1 (hs_h3.1 56 (by decide)).2.1 (ea_vpl (hs_h3.1 56 (by decide)).2.2 z6) ?_
    obtain ⟨h7, E8⟩ : ∃ z, z = ea_wi h3 (b0 + 56) (Int32.toNatClampNeg x1) (ea_i h3 (b0 + 82) (Int32.toNatClampNeg x1)) := ⟨_, rfl⟩
    have H := H h7 E8
    refine ea_nm E8 ?_
    have hs_h7 : ShM b0 h7 := by rw [E8]; exact ShM_wi hs_h3
    refine ea_aload_n (pc := 34) dX12_putsBack_34 rfl 0 rfl ?_
    refine ea_getR (pc := 35) dX12_putsBack_35 ec_12 (k := 83) (Nat.le_of_ble_eq_true rfl) rfl (Or.inl ew_1428) (hs_h7.1 0 (by decide)).1 (hs_h7.1 0 (by decide)).2.1 (hs_h7.2 0 83 rfl) ?_
    refine ea_iload_n (pc := 38) dX12_putsBack_38 rfl 1 rfl ?_
    refine ea_aload_n (pc := 39) dX12_putsBack_39 rfl 0 rfl ?_
    refine ea_getR (pc := 40) dX12_putsBack_40 ec_12 (k := 111) (Nat.le_of_ble_eq_true rfl) rfl (Or.inl ew_1456) (hs_h7.1 0 (by decide)).1 (hs_h7.1 0 (by decide)).2.1 (hs_h7.2 0 111 rfl) ?_
    refine ea_iload_n (pc := 43) dX12_putsBack_43 rfl 1 rfl ?_
    obtain ⟨z9, H⟩ := H
    refine ea_iald (pc := 44) dX12_putsBack_44 (hs_h7.1 83 (by decide)).1 (hs_h7.1 83 (by decide)).2.1 (ea_vpl (hs_h7.1 83 (by decide)).2.2 z9) ?_
    obtain ⟨z10, H⟩ := H
    refine ea_iast (pc := 45) dX12_putsBack_45 (hs_h7.1 57 (by decide)).1 (hs_h7.1 57 (by decide)).2.1 (ea_vpl (hs_h7.1 57 (by decide)).2.2 z10) ?_
    obtain ⟨h11, E12⟩ : ∃ z, z = ea_wi h7 (b0 + 57) (Int32.toNatClampNeg x1) (ea_i h7 (b0 + 83) (Int32.toNatClampNeg x1)) := ⟨_, rfl⟩
    have H := H h11 E12
    refine ea_nm E12 ?_
    have hs_h11 : ShM b0 h11 := by rw [E12]; exact ShM_wi hs_h7
    refine ea_aload_n (pc := 46) dX12_putsBack_46 rfl 0 rfl ?_
    refine ea_getR (pc := 47) dX12_putsBack_47 ec_12 (k := 84) (Nat.le_of_ble_eq_true rfl) rfl (Or.inl ew_1429) (hs_h11.1 0 (by decide)).1 (hs_h11.1 0 (by decide)).2.1 (hs_h11.2 0 84 rfl) ?_
    refine ea_iload_n (pc := 50) dX12_putsBack_50 rfl 1 rfl ?_
    refine ea_aload_n (pc := 51) dX12_putsBack_51 rfl 0 rfl ?_
    refine ea_getR (pc := 52) dX12_putsBack_52 ec_12 (k := 112) (Nat.le_of_ble_eq_true rfl) rfl (Or.inl ew_1457) (hs_h11.1 0 (by decide)).1 (hs_h11.1 0 (by decide)).2.1 (hs_h11.2 0 112 rfl) ?_
    refine ea_iload_n (pc := 55) dX12_putsBack_55 rfl 1 rfl ?_
    obtain ⟨z13, H⟩ := H
    refine ea_iald (pc := 56) dX12_putsBack_56 (hs_h11.1 84 (by decide)).1 (hs_h11.1 84 (by decide)).2.1 (ea_vpl (hs_h11.1 84 (by decide)).2.2 z13) ?_
    obtain ⟨z14, H⟩ := H
    refine ea_iast (pc := 57) dX12_putsBack_57 (hs_h11.1 58 (by decide)).1 (hs_h11.1 58 (by decide)).2.1 (ea_vpl (hs_h11.1 58 (by decide)).2.2 z14) ?_
    obtain ⟨h15, E16⟩ : ∃ z, z = ea_wi h11 (b0 + 58) (Int32.toNatClampNeg x1) (ea_i h11 (b0 + 84) (Int32.toNatClampNeg x1)) := ⟨_, rfl⟩
    have H := H h15 E16
    refine ea_nm E16 ?_
    have hs_h15 : ShM b0 h15 := by rw [E16]; exact ShM_wi hs_h11
    refine ea_aload_n (pc := 58) dX12_putsBack_58 rfl 0 rfl ?_
    refine ea_getR (pc := 59) dX12_putsBack_59 ec_12 (k := 85) (Nat.le_of_ble_eq_true rfl) rfl (Or.inl ew_1430) (hs_h15.1 0 (by decide)).1 (hs_h15.1 0 (by decide)).2.1 (hs_h15.2 0 85 rfl) ?_
    refine ea_iload_n (pc := 62) dX12_putsBack_62 rfl 1 rfl ?_
    refine ea_aload_n (pc := 63) dX12_putsBack_63 rfl 0 rfl ?_
    refine ea_getR (pc := 64) dX12_putsBack_64 ec_12 (k := 113) (Nat.le_of_ble_eq_true rfl) rfl (Or.inl ew_1458) (hs_h15.1 0 (by decide)).1 (hs_h15.1 0 (by decide)).2.1 (hs_h15.2 0 113 rfl) ?_
    refine ea_iload_n (pc := 67) dX12_putsBack_67 rfl 1 rfl ?_
    obtain ⟨z17, H⟩ := H
    refine ea_iald (pc := 68) dX12_putsBack_68 (hs_h15.1 85 (by decide)).1 (hs_h15.1 85 (by decide)).2.1 (ea_vpl (hs_h15.1 85 (by decide)).2.2 z17) ?_
    obtain ⟨z18, H⟩ := H
    refine ea_iast (pc := 69) dX12_putsBack_69 (hs_h15.1 59 (by decide)).1 (hs_h15.1 59 (by decide)).2.1 (ea_vpl (hs_h15.1 59 (by decide)).2.2 z18) ?_
    obtain ⟨h19, E20⟩ : ∃ z, z = ea_wi h15 (b0 + 59) (Int32.toNatClampNeg x1) (ea_i h15 (b0 + 85) (Int32.toNatClampNeg x1)) := ⟨_, rfl⟩
    have H := H h19 E20
    refine ea_nm E20 ?_
    have hs_h19 : ShM b0 h19 := by rw [E20]; exact ShM_wi hs_h15
    refine ea_aload_n (pc := 70) dX12_putsBack_70 rfl 0 rfl ?_
    refine ea_getR (pc := 71) dX12_putsBack_71 ec_12 (k := 76) (Nat.le_of_ble_eq_true rfl) rfl (Or.inl ew_1421) (hs_h19.1 0 (by decide)).1 (hs_h19.1 0 (by decide)).2.1 (hs_h19.2 0 76 rfl) ?_
    refine ea_iload_n (pc := 74) dX12_putsBack_74 rfl 1 rfl ?_
    refine ea_aload_n (pc := 75) dX12_putsBack_75 rfl 0 rfl ?_
    refine ea_getR (pc := 76) dX12_putsBack_76 ec_12 (k := 114) (Nat.le_of_ble_eq_true rfl) rfl (Or.inl ew_1459) (hs_h19.1 0 (by decide)).1 (hs_h19.1 0 (by decide)).2.1 (hs_h19.2 0 114 rfl) ?_
    refine ea_iload_n (pc := 79) dX12_putsBack_79 rfl 1 rfl ?_
    obtain ⟨z21, H⟩ := H
    refine ea_iald (pc := 80) dX12_putsBack_80 (hs_h19.1 86 (by decide)).1 (hs_h19.1 86 (by decide)).2.1 (ea_vpl (hs_h19.1 86 (by decide)).2.2 z21) ?_
    obtain ⟨z22, H⟩ := H
    refine ea_iast (pc := 81) dX12_putsBack_81 (hs_h19.1 50 (by decide)).1 (hs_h19.1 50 (by decide)).2.1 (ea_vpl (hs_h19.1 50 (by decide)).2.2 z22) ?_
    obtain ⟨h23, E24⟩ : ∃ z, z = ea_wi h19 (b0 + 50) (Int32.toNatClampNeg x1) (ea_i h19 (b0 + 86) (Int32.toNatClampNeg x1)) := ⟨_, rfl⟩
    have H := H h23 E24
    refine ea_nm E24 ?_
    have hs_h23 : ShM b0 h23 := by rw [E24]; exact ShM_wi hs_h19
    refine ea_aload_n (pc := 82) dX12_putsBack_82 rfl 0 rfl ?_
    refine ea_getR (pc := 83) dX12_putsBack_83 ec_12 (k := 77) (Nat.le_of_ble_eq_true rfl) rfl (Or.inl ew_1422) (hs_h23.1 0 (by decide)).1 (hs_h23.1 0 (by decide)).2.1 (hs_h23.2 0 77 rfl) ?_
    refine ea_iload_n (pc := 86) dX12_putsBack_86 rfl 1 rfl ?_
    refine ea_aload_n (pc := 87) dX12_putsBack_87 rfl 0 rfl ?_
    refine ea_getR (pc := 88) dX12_putsBack_88 ec_12 (k := 115) (Nat.le_of_ble_eq_true rfl) rfl (Or.inl ew_1460) (hs_h23.1 0 (by decide)).1 (hs_h23.1 0 (by decide)).2.1 (hs_h23.2 0 115 rfl) ?_
    refine ea_iload_n (pc := 91) dX12_putsBack_91 rfl 1 rfl ?_
    obtain ⟨z25, H⟩ := H
    refine ea_iald (pc := 92) dX12_putsBack_92 (hs_h23.1 87 (by decide)).1 (hs_h23.1 87 (by decide)).2.1 (ea_vpl (hs_h23.1 87 (by decide)).2.2 z25) ?_
    obtain ⟨z26, H⟩ := H
    refine ea_iast (pc := 93) dX12_putsBack_93 (hs_h23.1 51 (by decide)).1 (hs_h23.1 51 (by decide)).2.1 (ea_vpl (hs_h23.1 51 (by decide)).2.2 z26) ?_
    obtain ⟨h27, E28⟩ : ∃ z, z = ea_wi h23 (b0 + 51) (Int32.toNatClampNeg x1) (ea_i h23 (b0 + 87) (Int32.toNatClampNeg x1)) := ⟨_, rfl⟩
    have H := H h27 E28
    refine ea_nm E28 ?_
    have hs_h27 : ShM b0 h27 := by rw [E28]; exact ShM_wi hs_h23
    refine ea_aload_n (pc := 94) dX12_putsBack_94 rfl 0 rfl ?_
    refine ea_getR (pc := 95) dX12_putsBack_95 ec_12 (k := 87) (Nat.le_of_ble_eq_true rfl) rfl (Or.inl ew_1432) (hs_h27.1 0 (by decide)).1 (hs_h27.1 0 (by decide)).2.1 (hs_h27.2 0 87 rfl) ?_
    refine ea_iload_n (pc := 98) dX12_putsBack_98 rfl 1 rfl ?_
    refine ea_aload_n (pc := 99) dX12_putsBack_99 rfl 0 rfl ?_
    refine ea_getR (pc := 100) dX12_putsBack_100 ec_12 (k := 117) (Nat.le_of_ble_eq_true rfl) rfl (Or.inl ew_1462) (hs_h27.1 0 (by decide)).1 (hs_h27.1 0 (by decide)).2.1 (hs_h27.2 0 117 rfl) ?_
    refine ea_iload_n (pc := 103) dX12_putsBack_103 rfl 1 rfl ?_
    obtain ⟨z29, H⟩ := H
    refine ea_zald (pc := 104) dX12_putsBack_104 (hs_h27.1 89 (by decide)).1 (hs_h27.1 89 (by decide)).2.1 (ea_vpl (hs_h27.1 89 (by decide)).2.2 z29) ?_
    obtain ⟨z30, H⟩ := H
    obtain ⟨z33, H⟩ := H
    refine ea_zast (pc := 105) dX12_putsBack_105 (y := (ea_i h27 (b0 + 89) (Int32.toNatClampNeg x1))) (ea_bn z33) (hs_h27.1 61 (by decide)).1 (hs_h27.1 61 (by decide)).2.1 (ea_vpl (hs_h27.1 61 (by decide)).2.2 z30) ?_
    obtain ⟨h31, E32⟩ : ∃ z, z = ea_wi h27 (b0 + 61) (Int32.toNatClampNeg x1) (ea_i h27 (b0 + 89) (Int32.toNatClampNeg x1)) := ⟨_, rfl⟩
    have H := H h31 E32
    refine ea_nm E32 ?_
    have hs_h31 : ShM b0 h31 := by rw [E32]; exact ShM_wi hs_h27
    refine ea_iinc (pc := 106) (v := 1) (lv' := [(0, vR (some (b0 + 0))), (1, vI (x1 + 1))]) dX12_putsBack_106 1 rfl rfl (Nat.le_of_ble_eq_true rfl) [1, 0] rfl ?_
    refine ea_goto (pc := 109) (tgt := 2) dX12_putsBack_109 rfl ?_
    exact H
theorem pX12_putsBack_114 {d b0 : Nat} {h0 hE h : ea_H} {rv : Option ea_V} {x1 : Int32} (hd : 1 ≤ d) (hs_h : ShM b0 h) (H : ((70 : Int32) ≤ x1 → rv = none ∧ hE = h) ∧ (¬ (70 : Int32) ≤ x1 → vp_in x1 70 ∧ vp_in x1 70 ∧ ∀ h3, h3 = ea_wi h (b0 + 60) (Int32.toNatClampNeg x1) (ea_i h (b0 + 88) (Int32.toNatClampNeg x1)) → ea_W mX12_putsBack d h0 rv hE 114 [(0, vR (some (b0 + 0))), (1, vI (x1 + 1))] [] h3)) : ea_W mX12_putsBack d h0 rv hE 114 [(0, vR (some (b0 + 0))), (1, vI x1)] [] h := by
  refine ea_iload_n (pc := 114) dX12_putsBack_114 rfl 1 rfl ?_
  refine ea_bipush (pc := 115) dX12_putsBack_115 (v := 70) rfl ?_
  refine ea_icmp_ge (pc := 117) (tgt := 138) dX12_putsBack_117 rfl (fun c5 => ?_) (fun c5 => ?_)
  · have H := H.1 c5
    obtain ⟨rfl, rfl⟩ := H
    exact ea_return (pc := 138) dX12_putsBack_138 rfl
  · have H := H.2 c5
    refine ea_aload_n (pc := 120) dX12_putsBack_120 rfl 0 rfl ?_
    refine ea_getR (pc := 121) dX12_putsBack_121 ec_12 (k := 86) (Nat.le_of_ble_eq_true rfl) rfl (Or.inl ew_1431) (hs_h.1 0 (by decide)).1 (hs_h.1 0 (by decide)).2.1 (hs_h.2 0 86 rfl) ?_
    refine ea_iload_n (pc := 124) dX12_putsBack_124 rfl 1 rfl ?_
    refine ea_aload_n (pc := 125) dX12_putsBack_125 rfl 0 rfl ?_
    refine ea_getR (pc := 126) dX12_putsBack_126 ec_12 (k := 116) (Nat.le_of_ble_eq_true rfl) rfl (Or.inl ew_1461) (hs_h.1 0 (by decide)).1 (hs_h.1 0 (by decide)).2.1 (hs_h.2 0 116 rfl) ?_
    refine ea_iload_n (pc := 129) dX12_putsBack_129 rfl 1 rfl ?_
    obtain ⟨z1, H⟩ := H
    refine ea_iald (pc := 130) dX12_putsBack_130 (hs_h.1 88 (by decide)).1 (hs_h.1 88 (by decide)).2.1 (ea_vpl (hs_h.1 88 (by decide)).2.2 z1) ?_
    obtain ⟨z2, H⟩ := H
    refine ea_iast (pc := 131) dX12_putsBack_131 (hs_h.1 60 (by decide)).1 (hs_h.1 60 (by decide)).2.1 (ea_vpl (hs_h.1 60 (by decide)).2.2 z2) ?_
    obtain ⟨h3, E4⟩ : ∃ z, z = ea_wi h (b0 + 60) (Int32.toNatClampNeg x1) (ea_i h (b0 + 88) (Int32.toNatClampNeg x1)) := ⟨_, rfl⟩
    have H := H h3 E4
    refine ea_nm E4 ?_
    have hs_h3 : ShM b0 h3 := by rw [E4]; exact ShM_wi hs_h
    refine ea_iinc (pc := 132) (v := 1) (lv' := [(0, vR (some (b0 + 0))), (1, vI (x1 + 1))]) dX12_putsBack_132 1 rfl rfl (Nat.le_of_ble_eq_true rfl) [1, 0] rfl ?_
    refine ea_goto (pc := 135) (tgt := 114) dX12_putsBack_135 rfl ?_
    exact H
theorem pX12_sums_0 {d b0 : Nat} {h0 hE h : ea_H} {rv : Option ea_V}  (hd : 1 ≤ d) (hs_h : ShM b0 h) (H : ∃ (d1 : Nat) (h2 : ea_H), ea_Met mX12_keeps d1 [vR (some (b0 + 0))] h none h2 ∧ d1 + 1 ≤ d ∧ ShM b0 h2 ∧ ∃ (d5 : Nat) (h6 : ea_H), ea_Met mX12_leadsOn d5 [vR (some (b0 + 0)), vI (ea_i h2 (b0 + 0) 0), vI 10079] h2 none h6 ∧ d5 + 1 ≤ d ∧ ShM b0 h6 ∧ ea_W mX12_sums d h0 rv hE 19 [(0, vR (some (b0 + 0))), (1, vI 0), (2, vI 0)] [] h6) : ea_W mX12_sums d h0 rv hE 0 [(0, vR (some (b0 + 0)))] [] h := by
  refine ea_aload_n (pc := 0) dX12_sums_0 rfl 0 rfl ?_
  obtain ⟨d1, h2, m3, q4, hs_h2, H⟩ := H
  refine ea_callV (pc := 1) (As := []) (st := []) dX12_sums_1 kX12_keeps m3 q4 rfl (Nat.le_of_ble_eq_true rfl) ew_2179 ew_2181 ew_105 (ci := 12) rfl (by decide) (hs_h.1 0 (by decide)).1 (hs_h.1 0 (by decide)).2.1 ?_
  refine ea_aload_n (pc := 4) dX12_sums_4 rfl 0 rfl ?_
  refine ea_aload_n (pc := 5) dX12_sums_5 rfl 0 rfl ?_
  refine ea_getI (pc := 6) dX12_sums_6 ec_12 (k := 0) (Nat.le_of_ble_eq_true rfl) rfl (Or.inl ew_1345) (hs_h2.1 0 (by decide)).1 (hs_h2.1 0 (by decide)).2.1 ?_
  refine ea_sipush (pc := 9) dX12_sums_9 (v := 10079) rfl ?_
  obtain ⟨d5, h6, m7, q8, hs_h6, H⟩ := H
  refine ea_callV (pc := 12) (As := [vI (ea_i h2 (b0 + 0) 0), vI 10079]) (st := []) dX12_sums_12 kX12_leadsOn m7 q8 rfl (Nat.le_of_ble_eq_true rfl) ew_2055 ew_2057 ew_92 (ci := 12) rfl (by decide) (hs_h2.1 0 (by decide)).1 (hs_h2.1 0 (by decide)).2.1 ?_
  refine ea_iconst (pc := 15) dX12_sums_15 (v := 0) rfl ?_
  refine ea_istore_n (pc := 16) (lv' := [(0, vR (some (b0 + 0))), (1, vI 0)]) dX12_sums_16 rfl (Nat.le_of_ble_eq_true rfl) [1, 0] rfl ?_
  refine ea_iconst (pc := 17) dX12_sums_17 (v := 0) rfl ?_
  refine ea_istore_n (pc := 18) (lv' := [(0, vR (some (b0 + 0))), (1, vI 0), (2, vI 0)]) dX12_sums_18 rfl (Nat.le_of_ble_eq_true rfl) [1, 2, 0] rfl ?_
  exact H
theorem pX12_sums_19 {d b0 : Nat} {h0 hE h : ea_H} {rv : Option ea_V} {x1 : Int32} {x2 : Int32} (hd : 1 ≤ d) (hs_h : ShM b0 h) (H : ((ea_i h (b0 + 0) 63) ≤ x2 → ∃ (d1 : Nat) (h2 : ea_H), ea_Met mX12_putsBack d1 [vR (some (b0 + 0))] h none h2 ∧ d1 + 1 ≤ d ∧ ShM b0 h2 ∧ rv = some (vI x1) ∧ hE = h2) ∧ (¬ (ea_i h (b0 + 0) 63) ≤ x2 → vp_in x2 120 ∧ (¬ (ea_i h (b0 + 55) (Int32.toNatClampNeg x2)) = (2 : Int32) → vp_in x2 120 ∧ ((2 : Int32) ≤ (ea_i h (b0 + 55) (Int32.toNatClampNeg x2)) → ea_W mX12_sums d h0 rv hE 19 [(0, vR (some (b0 + 0))), (1, vI (x1 + (0 : Int32))), (2, vI (x2 + 1))] [] h) ∧ (¬ (2 : Int32) ≤ (ea_i h (b0 + 55) (Int32.toNatClampNeg x2)) → ea_W mX12_sums d h0 rv hE 19 [(0, vR (some (b0 + 0))), (1, vI (x1 + (10080 : Int32))), (2, vI (x2 + 1))] [] h)) ∧ ((ea_i h (b0 + 55) (Int32.toNatClampNeg x2)) = (2 : Int32) → vp_in x2 120 ∧ ea_W mX12_sums d h0 rv hE 19 [(0, vR (some (b0 + 0))), (1, vI (x1 + (ea_i h (b0 + 59) (Int32.toNatClampNeg x2)))), (2, vI (x2 + 1))] [] h))) : ea_W mX12_sums d h0 rv hE 19 [(0, vR (some (b0 + 0))), (1, vI x1), (2, vI x2)] [] h := by
  refine ea_iload_n (pc := 19) dX12_sums_19 rfl 2 rfl ?_
  refine ea_aload_n (pc := 20) dX12_sums_20 rfl 0 rfl ?_
  refine ea_getI (pc := 21) dX12_sums_21 ec_12 (k := 63) (Nat.le_of_ble_eq_true rfl) rfl (Or.inl ew_1408) (hs_h.1 0 (by decide)).1 (hs_h.1 0 (by decide)).2.1 ?_
  refine ea_icmp_ge (pc := 24) (tgt := 72) dX12_sums_24 rfl (fun c10 => ?_) (fun c10 => ?_)
  · have H := H.1 c10
    refine ea_aload_n (pc := 72) dX12_sums_72 rfl 0 rfl ?_
    obtain ⟨d1, h2, m3, q4, hs_h2, H⟩ := H
    refine ea_callV (pc := 73) (As := []) (st := []) dX12_sums_73 kX12_putsBack m3 q4 rfl (Nat.le_of_ble_eq_true rfl) ew_2183 ew_2185 ew_106 (ci := 12) rfl (by decide) (hs_h.1 0 (by decide)).1 (hs_h.1 0 (by decide)).2.1 ?_
    refine ea_iload_n (pc := 76) dX12_sums_76 rfl 1 rfl ?_
    obtain ⟨rfl, rfl⟩ := H
    exact ea_ireturn (pc := 77) dX12_sums_77 rfl rfl
  · have H := H.2 c10
    refine ea_iload_n (pc := 27) dX12_sums_27 rfl 1 rfl ?_
    refine ea_aload_n (pc := 28) dX12_sums_28 rfl 0 rfl ?_
    refine ea_getR (pc := 29) dX12_sums_29 ec_12 (k := 81) (Nat.le_of_ble_eq_true rfl) rfl (Or.inl ew_1426) (hs_h.1 0 (by decide)).1 (hs_h.1 0 (by decide)).2.1 (hs_h.2 0 81 rfl) ?_
    refine ea_iload_n (pc := 32) dX12_sums_32 rfl 2 rfl ?_
    obtain ⟨z5, H⟩ := H
    refine ea_iald (pc := 33) dX12_sums_33 (hs_h.1 55 (by decide)).1 (hs_h.1 55 (by decide)).2.1 (ea_vpl (hs_h.1 55 (by decide)).2.2 z5) ?_
    refine ea_iconst (pc := 34) dX12_sums_34 (v := 2) rfl ?_
    refine ea_icmp_ne (pc := 35) (tgt := 47) dX12_sums_35 rfl (fun c9 => ?_) (fun c9 => ?_)
    · have H := H.1 c9
      refine ea_aload_n (pc := 47) dX12_sums_47 rfl 0 rfl ?_
      refine ea_getR (pc := 48) dX12_sums_48 ec_12 (k := 81) (Nat.le_of_ble_eq_true rfl) rfl (Or.inl ew_1426) (hs_h.1 0 (by decide)).1 (hs_h.1 0 (by decide)).2.1 (hs_h.2 0 81 rfl) ?_
      refine ea_iload_n (pc := 51) dX12_sums_51 rfl 2 rfl ?_
      obtain ⟨z6, H⟩ := H
      refine ea_iald (pc := 52) dX12_sums_52 (hs_h.1 55 (by decide)).1 (hs_h.1 55 (by decide)).2.1 (ea_vpl (hs_h.1 55 (by decide)).2.2 z6) ?_
      refine ea_iconst (pc := 53) dX12_sums_53 (v := 2) rfl ?_
      refine ea_icmp_ge (pc := 54) (tgt := 63) dX12_sums_54 rfl (fun c7 => ?_) (fun c7 => ?_)
      · have H := H.1 c7
        refine ea_iconst (pc := 63) dX12_sums_63 (v := 0) rfl ?_
        refine ea_iadd (pc := 64) dX12_sums_64 ?_
        refine ea_istore_n (pc := 65) (lv' := [(0, vR (some (b0 + 0))), (1, vI (x1 + (0 : Int32))), (2, vI x2)]) dX12_sums_65 rfl (Nat.le_of_ble_eq_true rfl) [1, 0, 2] rfl ?_
        refine ea_iinc (pc := 66) (v := 1) (lv' := [(0, vR (some (b0 + 0))), (1, vI (x1 + (0 : Int32))), (2, vI (x2 + 1))]) dX12_sums_66 2 rfl rfl (Nat.le_of_ble_eq_true rfl) [1, 2, 0] rfl ?_
        refine ea_goto (pc := 69) (tgt := 19) dX12_sums_69 rfl ?_
        exact H
      · have H := H.2 c7
        refine ea_sipush (pc := 57) dX12_sums_57 (v := 10080) rfl ?_
        refine ea_goto (pc := 60) (tgt := 64) dX12_sums_60 rfl ?_
        refine ea_iadd (pc := 64) dX12_sums_64 ?_
        refine ea_istore_n (pc := 65) (lv' := [(0, vR (some (b0 + 0))), (1, vI (x1 + (10080 : Int32))), (2, vI x2)]) dX12_sums_65 rfl (Nat.le_of_ble_eq_true rfl) [1, 0, 2] rfl ?_
        refine ea_iinc (pc := 66) (v := 1) (lv' := [(0, vR (some (b0 + 0))), (1, vI (x1 + (10080 : Int32))), (2, vI (x2 + 1))]) dX12_sums_66 2 rfl rfl (Nat.le_of_ble_eq_true rfl) [1, 2, 0] rfl ?_
        refine ea_goto (pc := 69) (tgt := 19) dX12_sums_69 rfl ?_
        exact H
    · have H := H.2 c9
      refine ea_aload_n (pc := 38) dX12_sums_38 rfl 0 rfl ?_
      refine ea_getR (pc := 39) dX12_sums_39 ec_12 (k := 85) (Nat.le_of_ble_eq_true rfl) rfl (Or.inl ew_1430) (hs_h.1 0 (by decide)).1 (hs_h.1 0 (by decide)).2.1 (hs_h.2 0 85 rfl) ?_
      refine ea_iload_n (pc := 42) dX12_sums_42 rfl 2 rfl ?_
      obtain ⟨z8, H⟩ := H
      refine ea_iald (pc := 43) dX12_sums_43 (hs_h.1 59 (by decide)).1 (hs_h.1 59 (by decide)).2.1 (ea_vpl (hs_h.1 59 (by decide)).2.2 z8) ?_
      refine ea_goto (pc := 44) (tgt := 64) dX12_sums_44 rfl ?_
      refine ea_iadd (pc := 64) dX12_sums_64 ?_
      refine ea_istore_n (pc := 65) (lv' := [(0, vR (some (b0 + 0))), (1, vI (x1 + (ea_i h (b0 + 59) (Int32.toNatClampNeg x2)))), (2, vI x2)]) dX12_sums_65 rfl (Nat.le_of_ble_eq_true rfl) [1, 0, 2] rfl ?_
      refine ea_iinc (pc := 66) (v := 1) (lv' := [(0, vR (some (b0 + 0))), (1, vI (x1 + (ea_i h (b0 + 59) (Int32.toNatClampNeg x2)))), (2, vI (x2 + 1))]) dX12_sums_66 2 rfl rfl (Nat.le_of_ble_eq_true rfl) [1, 2, 0] rfl ?_
      refine ea_goto (pc := 69) (tgt := 19) dX12_sums_69 rfl ?_
      exact H
theorem pX12_whatIf_0 {d b0 : Nat} {h0 hE h : ea_H} {rv : Option ea_V} {x1 : Int32} {x2 : Int32} {x3 : Int32} (hd : 4 ≤ d) (hs_h : ShM b0 h) (H : (¬ x1 = ((-1) : Int32) → (okX12_canBeLate b0 (x1 : Int32) (x2 : Int32) (x3 : Int32) h) ∧ (¬ (vX12_canBeLate b0 (x1 : Int32) (x2 : Int32) (x3 : Int32) h) = (0 : Int32) → vp_in (vX12_run (x1 : Int32) (x2 : Int32) h) 70 ∧ vp_in (vX12_run (x1 : Int32) (x2 : Int32) h) 70 ∧ ∀ h228, h228 = ea_wi h (b0 + 6) (Int32.toNatClampNeg (vX12_run (x1 : Int32) (x2 : Int32) h)) x3 → ∀ h230, h230 = ea_wi h228 (b0 + 0) 12 0 → ∃ (d232 : Nat) (xc236 : Int32) (h233 : ea_H), ea_Met mX12_sums d232 [vR (some (b0 + 0))] h230 (some (vI xc236)) h233 ∧ d232 + 1 ≤ d ∧ ShM b0 h233 ∧ vp_in (vX12_run (x1 : Int32) (x2 : Int32) h233) 70 ∧ ∀ h248, h248 = ea_wi h233 (b0 + 6) (Int32.toNatClampNeg (vX12_run (x1 : Int32) (x2 : Int32) h233)) (ea_i h (b0 + 6) (Int32.toNatClampNeg (vX12_run (x1 : Int32) (x2 : Int32) h))) → ∀ h250, h250 = ea_wi h248 (b0 + 0) 12 0 → rv = some (vI xc236) ∧ hE = h250) ∧ ((vX12_canBeLate b0 (x1 : Int32) (x2 : Int32) (x3 : Int32) h) = (0 : Int32) → rv = some (vI (-1)) ∧ hE = h)) ∧ (x1 = ((-1) : Int32) → ∃ (d257 : Nat) (xc261 : Int32) (h258 : ea_H), ea_Met mX12_sums d257 [vR (some (b0 + 0))] h (some (vI xc261)) h258 ∧ d257 + 1 ≤ d ∧ ShM b0 h258 ∧ rv = some (vI xc261) ∧ hE = h258)) : ea_W mX12_whatIf d h0 rv hE 0 [(0, vR (some (b0 + 0))), (1, vI x1), (2, vI x2), (3, vI x3)] [] h := by
  refine ea_iload_n (pc := 0) dX12_whatIf_0 rfl 1 rfl ?_
  refine ea_iconst (pc := 1) dX12_whatIf_1 (v := (-1)) rfl ?_
  refine ea_icmp_ne (pc := 2) (tgt := 10) dX12_whatIf_2 rfl (fun c262 => ?_) (fun c262 => ?_)
  · have H := H.1 c262
    refine ea_aload_n (pc := 10) dX12_whatIf_10 rfl 0 rfl ?_
    refine ea_iload_n (pc := 11) dX12_whatIf_11 rfl 1 rfl ?_
    refine ea_iload_n (pc := 12) dX12_whatIf_12 rfl 2 rfl ?_
    refine ea_iload_n (pc := 13) dX12_whatIf_13 rfl 3 rfl ?_
    obtain ⟨z256, H⟩ := H
    refine ea_callV (pc := 14) (d' := d - 1) (As := [vI x1, vI x2, vI x3]) (st := []) dX12_whatIf_14 kX12_canBeLate (sX12_canBeLate (d := d - 1) (by omega) hs_h z256) (by omega) rfl (Nat.le_of_ble_eq_true rfl) ew_1748 ew_1750 ew_51 (ci := 12) rfl (by decide) (hs_h.1 0 (by decide)).1 (hs_h.1 0 (by decide)).2.1 ?_
    refine ea_if_ne (pc := 17) (tgt := 22) dX12_whatIf_17 rfl (fun c255 => ?_) (fun c255 => ?_)
    · have H := H.1 c255
      refine ea_aload_n (pc := 22) dX12_whatIf_22 rfl 0 rfl ?_
      refine ea_getR (pc := 23) dX12_whatIf_23 ec_12 (k := 8) (Nat.le_of_ble_eq_true rfl) rfl (Or.inl ew_1353) (hs_h.1 0 (by decide)).1 (hs_h.1 0 (by decide)).2.1 (hs_h.2 0 8 rfl) ?_
      refine ea_iload_n (pc := 26) dX12_whatIf_26 rfl 1 rfl ?_
      refine ea_iload_n (pc := 27) dX12_whatIf_27 rfl 2 rfl ?_
      refine ea_callS (pc := 28) (d' := d - 1) (As := [vI x1, vI x2]) (st := [vR (some (b0 + 6))]) dX12_whatIf_28 kX12_run (sX12_run (d := d - 1) (by omega)) (by omega) rfl (Nat.le_of_ble_eq_true rfl) ew_1755 ew_1756 ?_
      obtain ⟨z195, H⟩ := H
      refine ea_iald (pc := 31) dX12_whatIf_31 (hs_h.1 6 (by decide)).1 (hs_h.1 6 (by decide)).2.1 (ea_vpl (hs_h.1 6 (by decide)).2.2 z195) ?_
      refine ea_istore (pc := 32) (lv' := [(0, vR (some (b0 + 0))), (1, vI x1), (2, vI x2), (3, vI x3), (4, vI (ea_i h (b0 + 6) (Int32.toNatClampNeg (vX12_run (x1 : Int32) (x2 : Int32) h))))]) dX12_whatIf_32 (Nat.le_of_ble_eq_true rfl) [1, 2, 3, 4, 0] rfl ?_
      refine ea_aload_n (pc := 34) dX12_whatIf_34 rfl 0 rfl ?_
      refine ea_getR (pc := 35) dX12_whatIf_35 ec_12 (k := 8) (Nat.le_of_ble_eq_true rfl) rfl (Or.inl ew_1353) (hs_h.1 0 (by decide)).1 (hs_h.1 0 (by decide)).2.1 (hs_h.2 0 8 rfl) ?_
      refine ea_iload_n (pc := 38) dX12_whatIf_38 rfl 1 rfl ?_
      refine ea_iload_n (pc := 39) dX12_whatIf_39 rfl 2 rfl ?_
      refine ea_callS (pc := 40) (d' := d - 1) (As := [vI x1, vI x2]) (st := [vR (some (b0 + 6))]) dX12_whatIf_40 kX12_run (sX12_run (d := d - 1) (by omega)) (by omega) rfl (Nat.le_of_ble_eq_true rfl) ew_1755 ew_1756 ?_
      refine ea_iload_n (pc := 43) dX12_whatIf_43 rfl 3 rfl ?_
      obtain ⟨z227, H⟩ := H
      refine ea_iast (pc := 44) dX12_whatIf_44 (hs_h.1 6 (by decide)).1 (hs_h.1 6 (by decide)).2.1 (ea_vpl (hs_h.1 6 (by decide)).2.2 z227) ?_
      obtain ⟨h228, E229⟩ : ∃ z, z = ea_wi h (b0 + 6) (Int32.toNatClampNeg (vX12_run (x1 : Int32) (x2 : Int32) h)) x3 := ⟨_, rfl⟩
      have H := H h228 E229
      refine ea_nm E229 ?_
      have hs_h228 : ShM b0 h228 := by rw [E229]; exact ShM_wi hs_h
      refine ea_aload_n (pc := 45) dX12_whatIf_45 rfl 0 rfl ?_
      refine ea_iconst (pc := 46) dX12_whatIf_46 (v := 0) rfl ?_
      refine ea_putI (pc := 47) dX12_whatIf_47 ec_12 (k := 12) (Nat.le_of_ble_eq_true rfl) rfl (Or.inl ⟨rfl, Or.inl ew_1357⟩) (ea_bn (Or.inl rfl)) (ea_bf (Or.inl rfl)) (hs_h228.1 0 (by decide)).1 (hs_h228.1 0 (by decide)).2.1 ?_
      obtain ⟨h230, E231⟩ : ∃ z, z = ea_wi h228 (b0 + 0) 12 0 := ⟨_, rfl⟩
      have H := H h230 E231
      refine ea_nm E231 ?_
      have hs_h230 : ShM b0 h230 := by rw [E231]; exact ShM_wi hs_h228
      refine ea_aload_n (pc := 50) dX12_whatIf_50 rfl 0 rfl ?_
      obtain ⟨d232, xc236, h233, m234, q235, hs_h233, H⟩ := H
      refine ea_callV (pc := 51) (As := []) (st := []) dX12_whatIf_51 kX12_sums m234 q235 rfl (Nat.le_of_ble_eq_true rfl) ew_2175 ew_2177 ew_104 (ci := 12) rfl (by decide) (hs_h230.1 0 (by decide)).1 (hs_h230.1 0 (by decide)).2.1 ?_
      refine ea_istore (pc := 54) (lv' := [(0, vR (some (b0 + 0))), (1, vI x1), (2, vI x2), (4, vI (ea_i h (b0 + 6) (Int32.toNatClampNeg (vX12_run (x1 : Int32) (x2 : Int32) h)))), (5, vI xc236)]) dX12_whatIf_54 (Nat.le_of_ble_eq_true rfl) [1, 2, 3, 5, 0] rfl ?_
      refine ea_aload_n (pc := 56) dX12_whatIf_56 rfl 0 rfl ?_
      refine ea_getR (pc := 57) dX12_whatIf_57 ec_12 (k := 8) (Nat.le_of_ble_eq_true rfl) rfl (Or.inl ew_1353) (hs_h233.1 0 (by decide)).1 (hs_h233.1 0 (by decide)).2.1 (hs_h233.2 0 8 rfl) ?_
      refine ea_iload_n (pc := 60) dX12_whatIf_60 rfl 1 rfl ?_
      refine ea_iload_n (pc := 61) dX12_whatIf_61 rfl 2 rfl ?_
      refine ea_callS (pc := 62) (d' := d - 1) (As := [vI x1, vI x2]) (st := [vR (some (b0 + 6))]) dX12_whatIf_62 kX12_run (sX12_run (d := d - 1) (by omega)) (by omega) rfl (Nat.le_of_ble_eq_true rfl) ew_1755 ew_1756 ?_
      refine ea_iload (pc := 65) dX12_whatIf_65 3 rfl ?_
      obtain ⟨z247, H⟩ := H
      refine ea_iast (pc := 67) dX12_whatIf_67 (hs_h233.1 6 (by decide)).1 (hs_h233.1 6 (by decide)).2.1 (ea_vpl (hs_h233.1 6 (by decide)).2.2 z247) ?_
      obtain ⟨h248, E249⟩ : ∃ z, z = ea_wi h233 (b0 + 6) (Int32.toNatClampNeg (vX12_run (x1 : Int32) (x2 : Int32) h233)) (ea_i h (b0 + 6) (Int32.toNatClampNeg (vX12_run (x1 : Int32) (x2 : Int32) h))) := ⟨_, rfl⟩
      have H := H h248 E249
      refine ea_nm E249 ?_
      have hs_h248 : ShM b0 h248 := by rw [E249]; exact ShM_wi hs_h233
      refine ea_aload_n (pc := 68) dX12_whatIf_68 rfl 0 rfl ?_
      refine ea_iconst (pc := 69) dX12_whatIf_69 (v := 0) rfl ?_
      refine ea_putI (pc := 70) dX12_whatIf_70 ec_12 (k := 12) (Nat.le_of_ble_eq_true rfl) rfl (Or.inl ⟨rfl, Or.inl ew_1357⟩) (ea_bn (Or.inl rfl)) (ea_bf (Or.inl rfl)) (hs_h248.1 0 (by decide)).1 (hs_h248.1 0 (by decide)).2.1 ?_
      obtain ⟨h250, E251⟩ : ∃ z, z = ea_wi h248 (b0 + 0) 12 0 := ⟨_, rfl⟩
      have H := H h250 E251
      refine ea_nm E251 ?_
      have hs_h250 : ShM b0 h250 := by rw [E251]; exact ShM_wi hs_h248
      refine ea_iload (pc := 73) dX12_whatIf_73 4 rfl ?_
      obtain ⟨rfl, rfl⟩ := H
      exact ea_ireturn (pc := 75) dX12_whatIf_75 rfl rfl
    · have H := H.2 c255
      refine ea_iconst (pc := 20) dX12_whatIf_20 (v := (-1)) rfl ?_
      obtain ⟨rfl, rfl⟩ := H
      exact ea_ireturn (pc := 21) dX12_whatIf_21 rfl rfl
  · have H := H.2 c262
    refine ea_aload_n (pc := 5) dX12_whatIf_5 rfl 0 rfl ?_
    obtain ⟨d257, xc261, h258, m259, q260, hs_h258, H⟩ := H
    refine ea_callV (pc := 6) (As := []) (st := []) dX12_whatIf_6 kX12_sums m259 q260 rfl (Nat.le_of_ble_eq_true rfl) ew_2175 ew_2177 ew_104 (ci := 12) rfl (by decide) (hs_h.1 0 (by decide)).1 (hs_h.1 0 (by decide)).2.1 ?_
    obtain ⟨rfl, rfl⟩ := H
    exact ea_ireturn (pc := 9) dX12_whatIf_9 rfl rfl
theorem pX12_seats_0 {d b0 : Nat} {h0 hE h : ea_H} {rv : Option ea_V} {x1 : Int32} (hd : 2 ≤ d) (hs_h : ShM b0 h) (H : ((ea_i h (b0 + 0) 2) = (0 : Int32) → rv = some (vI (-1)) ∧ hE = h) ∧ (¬ (ea_i h (b0 + 0) 2) = (0 : Int32) → ((ea_i h (b0 + 0) 92) = (0 : Int32) → rv = some (vI (-1)) ∧ hE = h) ∧ (¬ (ea_i h (b0 + 0) 92) = (0 : Int32) → (x1 = (0 : Int32) → ea_W mX12_seats d h0 rv hE 44 [(0, vR (some (b0 + 0))), (1, vI x1)] [] h) ∧ (¬ x1 = (0 : Int32) → ((ea_i h (b0 + 0) 92) ≤ (1 : Int32) → ea_W mX12_seats d h0 rv hE 36 [(0, vR (some (b0 + 0))), (1, vI x1)] [vI 10, vI 10, vI x1] h) ∧ (¬ (ea_i h (b0 + 0) 92) ≤ (1 : Int32) → ea_W mX12_seats d h0 rv hE 36 [(0, vR (some (b0 + 0))), (1, vI x1)] [vI 11, vI 10, vI x1] h))))) : ea_W mX12_seats d h0 rv hE 0 [(0, vR (some (b0 + 0))), (1, vI x1)] [] h := by
  refine ea_aload_n (pc := 0) dX12_seats_0 rfl 0 rfl ?_
  refine ea_getI (pc := 1) dX12_seats_1 ec_12 (k := 2) (Nat.le_of_ble_eq_true rfl) rfl (Or.inl ew_1347) (hs_h.1 0 (by decide)).1 (hs_h.1 0 (by decide)).2.1 ?_
  refine ea_if_eq (pc := 4) (tgt := 42) dX12_seats_4 rfl (fun c4 => ?_) (fun c4 => ?_)
  · have H := H.1 c4
    refine ea_iconst (pc := 42) dX12_seats_42 (v := (-1)) rfl ?_
    obtain ⟨rfl, rfl⟩ := H
    exact ea_ireturn (pc := 43) dX12_seats_43 rfl rfl
  · have H := H.2 c4
    refine ea_aload_n (pc := 7) dX12_seats_7 rfl 0 rfl ?_
    refine ea_getI (pc := 8) dX12_seats_8 ec_12 (k := 92) (Nat.le_of_ble_eq_true rfl) rfl (Or.inl ew_1437) (hs_h.1 0 (by decide)).1 (hs_h.1 0 (by decide)).2.1 ?_
    refine ea_if_eq (pc := 11) (tgt := 42) dX12_seats_11 rfl (fun c3 => ?_) (fun c3 => ?_)
    · have H := H.1 c3
      refine ea_iconst (pc := 42) dX12_seats_42 (v := (-1)) rfl ?_
      obtain ⟨rfl, rfl⟩ := H
      exact ea_ireturn (pc := 43) dX12_seats_43 rfl rfl
    · have H := H.2 c3
      refine ea_iload_n (pc := 14) dX12_seats_14 rfl 1 rfl ?_
      refine ea_if_eq (pc := 15) (tgt := 44) dX12_seats_15 rfl (fun c2 => ?_) (fun c2 => ?_)
      · have H := H.1 c2
        exact H
      · have H := H.2 c2
        refine ea_iload_n (pc := 18) dX12_seats_18 rfl 1 rfl ?_
        refine ea_bipush (pc := 19) dX12_seats_19 (v := 10) rfl ?_
        refine ea_aload_n (pc := 21) dX12_seats_21 rfl 0 rfl ?_
        refine ea_getI (pc := 22) dX12_seats_22 ec_12 (k := 92) (Nat.le_of_ble_eq_true rfl) rfl (Or.inl ew_1437) (hs_h.1 0 (by decide)).1 (hs_h.1 0 (by decide)).2.1 ?_
        refine ea_iconst (pc := 25) dX12_seats_25 (v := 1) rfl ?_
        refine ea_icmp_le (pc := 26) (tgt := 34) dX12_seats_26 rfl (fun c1 => ?_) (fun c1 => ?_)
        · have H := H.1 c1
          refine ea_bipush (pc := 34) dX12_seats_34 (v := 10) rfl ?_
          exact H
        · have H := H.2 c1
          refine ea_bipush (pc := 29) dX12_seats_29 (v := 11) rfl ?_
          refine ea_goto (pc := 31) (tgt := 36) dX12_seats_31 rfl ?_
          exact H
theorem pX12_seats_36 {d b0 : Nat} {h0 hE h : ea_H} {rv : Option ea_V} {x1 : Int32} {sx0 : Int32} {sx1 : Int32} {sx2 : Int32} (hd : 2 ≤ d) (hs_h : ShM b0 h) (H : (¬ (vX12_isIn (sx2 : Int32) (sx1 : Int32) (sx0 : Int32) h) = (0 : Int32) → ea_W mX12_seats d h0 rv hE 44 [(0, vR (some (b0 + 0))), (1, vI x1)] [] h) ∧ ((vX12_isIn (sx2 : Int32) (sx1 : Int32) (sx0 : Int32) h) = (0 : Int32) → rv = some (vI (-1)) ∧ hE = h)) : ea_W mX12_seats d h0 rv hE 36 [(0, vR (some (b0 + 0))), (1, vI x1)] [vI sx0, vI sx1, vI sx2] h := by
  refine ea_callS (pc := 36) (d' := d - 1) (As := [vI sx2, vI sx1, vI sx0]) (st := []) dX12_seats_36 kX12_isIn (sX12_isIn (d := d - 1) (by omega)) (by omega) rfl (Nat.le_of_ble_eq_true rfl) ew_1712 ew_1713 ?_
  refine ea_if_ne (pc := 39) (tgt := 44) dX12_seats_39 rfl (fun c7 => ?_) (fun c7 => ?_)
  · have H := H.1 c7
    exact H
  · have H := H.2 c7
    refine ea_iconst (pc := 42) dX12_seats_42 (v := (-1)) rfl ?_
    obtain ⟨rfl, rfl⟩ := H
    exact ea_ireturn (pc := 43) dX12_seats_43 rfl rfl
theorem pX12_seats_44 {d b0 : Nat} {h0 hE h : ea_H} {rv : Option ea_V} {x1 : Int32} (hd : 2 ≤ d) (hs_h : ShM b0 h) (H : ea_W mX12_seats d h0 rv hE 70 [(0, vR (some (b0 + 0))), (1, vI x1), (2, vI (ea_i h (b0 + 68) (Int32.toNatClampNeg 0))), (3, vI (ea_i h (b0 + 68) (Int32.toNatClampNeg 1))), (4, vI (-1)), (5, vI 0), (6, vI 0), (7, vI 0)] [] h) : ea_W mX12_seats d h0 rv hE 44 [(0, vR (some (b0 + 0))), (1, vI x1)] [] h := by
  refine ea_aload_n (pc := 44) dX12_seats_44 rfl 0 rfl ?_
  refine ea_getR (pc := 45) dX12_seats_45 ec_12 (k := 95) (Nat.le_of_ble_eq_true rfl) rfl (Or.inl ew_1440) (hs_h.1 0 (by decide)).1 (hs_h.1 0 (by decide)).2.1 (hs_h.2 0 95 rfl) ?_
  refine ea_iconst (pc := 48) dX12_seats_48 (v := 0) rfl ?_
  refine ea_iald (pc := 49) dX12_seats_49 (hs_h.1 68 (by decide)).1 (hs_h.1 68 (by decide)).2.1 (ea_vpl (n := 8) (hs_h.1 68 (by decide)).2.2 (by unfold vp_in; decide)) ?_
  refine ea_istore_n (pc := 50) (lv' := [(0, vR (some (b0 + 0))), (1, vI x1), (2, vI (ea_i h (b0 + 68) (Int32.toNatClampNeg 0)))]) dX12_seats_50 rfl (Nat.le_of_ble_eq_true rfl) [1, 2, 0] rfl ?_
  refine ea_aload_n (pc := 51) dX12_seats_51 rfl 0 rfl ?_
  refine ea_getR (pc := 52) dX12_seats_52 ec_12 (k := 95) (Nat.le_of_ble_eq_true rfl) rfl (Or.inl ew_1440) (hs_h.1 0 (by decide)).1 (hs_h.1 0 (by decide)).2.1 (hs_h.2 0 95 rfl) ?_
  refine ea_iconst (pc := 55) dX12_seats_55 (v := 1) rfl ?_
  refine ea_iald (pc := 56) dX12_seats_56 (hs_h.1 68 (by decide)).1 (hs_h.1 68 (by decide)).2.1 (ea_vpl (n := 8) (hs_h.1 68 (by decide)).2.2 (by unfold vp_in; decide)) ?_
  refine ea_istore_n (pc := 57) (lv' := [(0, vR (some (b0 + 0))), (1, vI x1), (2, vI (ea_i h (b0 + 68) (Int32.toNatClampNeg 0))), (3, vI (ea_i h (b0 + 68) (Int32.toNatClampNeg 1)))]) dX12_seats_57 rfl (Nat.le_of_ble_eq_true rfl) [1, 2, 3, 0] rfl ?_
  refine ea_iconst (pc := 58) dX12_seats_58 (v := (-1)) rfl ?_
  refine ea_istore (pc := 59) (lv' := [(0, vR (some (b0 + 0))), (1, vI x1), (2, vI (ea_i h (b0 + 68) (Int32.toNatClampNeg 0))), (3, vI (ea_i h (b0 + 68) (Int32.toNatClampNeg 1))), (4, vI (-1))]) dX12_seats_59 (Nat.le_of_ble_eq_true rfl) [1, 2, 3, 4, 0] rfl ?_
  refine ea_iconst (pc := 61) dX12_seats_61 (v := 0) rfl ?_
  refine ea_istore (pc := 62) (lv' := [(0, vR (some (b0 + 0))), (1, vI x1), (2, vI (ea_i h (b0 + 68) (Int32.toNatClampNeg 0))), (3, vI (ea_i h (b0 + 68) (Int32.toNatClampNeg 1))), (4, vI (-1)), (5, vI 0)]) dX12_seats_62 (Nat.le_of_ble_eq_true rfl) [1, 2, 3, 4, 5, 0] rfl ?_
  refine ea_iconst (pc := 64) dX12_seats_64 (v := 0) rfl ?_
  refine ea_istore (pc := 65) (lv' := [(0, vR (some (b0 + 0))), (1, vI x1), (2, vI (ea_i h (b0 + 68) (Int32.toNatClampNeg 0))), (3, vI (ea_i h (b0 + 68) (Int32.toNatClampNeg 1))), (4, vI (-1)), (5, vI 0), (6, vI 0)]) dX12_seats_65 (Nat.le_of_ble_eq_true rfl) [1, 2, 3, 4, 5, 6, 0] rfl ?_
  refine ea_iconst (pc := 67) dX12_seats_67 (v := 0) rfl ?_
  refine ea_istore (pc := 68) (lv' := [(0, vR (some (b0 + 0))), (1, vI x1), (2, vI (ea_i h (b0 + 68) (Int32.toNatClampNeg 0))), (3, vI (ea_i h (b0 + 68) (Int32.toNatClampNeg 1))), (4, vI (-1)), (5, vI 0), (6, vI 0), (7, vI 0)]) dX12_seats_68 (Nat.le_of_ble_eq_true rfl) [1, 2, 3, 4, 5, 6, 7, 0] rfl ?_
  exact H
theorem pX12_seats_70 {d b0 : Nat} {h0 hE h : ea_H} {rv : Option ea_V} {x1 : Int32} {x2 : Int32} {x3 : Int32} {x4 : Int32} {x5 : Int32} {x6 : Int32} {x7 : Int32} (hd : 2 ≤ d) (hs_h : ShM b0 h) (H : ((ea_i h (b0 + 0) 2) ≤ x7 → vp_in 0 8 ∧ ∀ h2, h2 = ea_wi h (b0 + 68) (Int32.toNatClampNeg 0) x2 → vp_in 1 8 ∧ ∀ h5, h5 = ea_wi h2 (b0 + 68) (Int32.toNatClampNeg 1) x3 → (¬ x1 = (0 : Int32) → (¬ x1 = (10 : Int32) → rv = some (vI x6) ∧ hE = h5) ∧ (x1 = (10 : Int32) → rv = some (vI x5) ∧ hE = h5)) ∧ (x1 = (0 : Int32) → rv = some (vI x4) ∧ hE = h5)) ∧ (¬ (ea_i h (b0 + 0) 2) ≤ x7 → ea_W mX12_seats d h0 rv hE 82 [(0, vR (some (b0 + 0))), (1, vI x1), (2, vI x2), (3, vI x3), (4, vI x4), (5, vI x5), (6, vI x6), (7, vI x7), (8, vI 0)] [] h)) : ea_W mX12_seats d h0 rv hE 70 [(0, vR (some (b0 + 0))), (1, vI x1), (2, vI x2), (3, vI x3), (4, vI x4), (5, vI x5), (6, vI x6), (7, vI x7)] [] h := by
  refine ea_iload (pc := 70) dX12_seats_70 7 rfl ?_
  refine ea_aload_n (pc := 72) dX12_seats_72 rfl 0 rfl ?_
  refine ea_getI (pc := 73) dX12_seats_73 ec_12 (k := 2) (Nat.le_of_ble_eq_true rfl) rfl (Or.inl ew_1347) (hs_h.1 0 (by decide)).1 (hs_h.1 0 (by decide)).2.1 ?_
  refine ea_icmp_ge (pc := 76) (tgt := 173) dX12_seats_76 rfl (fun c9 => ?_) (fun c9 => ?_)
  · have H := H.1 c9
    refine ea_aload_n (pc := 173) dX12_seats_173 rfl 0 rfl ?_
    refine ea_getR (pc := 174) dX12_seats_174 ec_12 (k := 95) (Nat.le_of_ble_eq_true rfl) rfl (Or.inl ew_1440) (hs_h.1 0 (by decide)).1 (hs_h.1 0 (by decide)).2.1 (hs_h.2 0 95 rfl) ?_
    refine ea_iconst (pc := 177) dX12_seats_177 (v := 0) rfl ?_
    refine ea_iload_n (pc := 178) dX12_seats_178 rfl 2 rfl ?_
    obtain ⟨z1, H⟩ := H
    refine ea_iast (pc := 179) dX12_seats_179 (hs_h.1 68 (by decide)).1 (hs_h.1 68 (by decide)).2.1 (ea_vpl (hs_h.1 68 (by decide)).2.2 z1) ?_
    obtain ⟨h2, E3⟩ : ∃ z, z = ea_wi h (b0 + 68) (Int32.toNatClampNeg 0) x2 := ⟨_, rfl⟩
    have H := H h2 E3
    refine ea_nm E3 ?_
    have hs_h2 : ShM b0 h2 := by rw [E3]; exact ShM_wi hs_h
    refine ea_aload_n (pc := 180) dX12_seats_180 rfl 0 rfl ?_
    refine ea_getR (pc := 181) dX12_seats_181 ec_12 (k := 95) (Nat.le_of_ble_eq_true rfl) rfl (Or.inl ew_1440) (hs_h2.1 0 (by decide)).1 (hs_h2.1 0 (by decide)).2.1 (hs_h2.2 0 95 rfl) ?_
    refine ea_iconst (pc := 184) dX12_seats_184 (v := 1) rfl ?_
    refine ea_iload_n (pc := 185) dX12_seats_185 rfl 3 rfl ?_
    obtain ⟨z4, H⟩ := H
    refine ea_iast (pc := 186) dX12_seats_186 (hs_h2.1 68 (by decide)).1 (hs_h2.1 68 (by decide)).2.1 (ea_vpl (hs_h2.1 68 (by decide)).2.2 z4) ?_
    obtain ⟨h5, E6⟩ : ∃ z, z = ea_wi h2 (b0 + 68) (Int32.toNatClampNeg 1) x3 := ⟨_, rfl⟩
    have H := H h5 E6
    refine ea_nm E6 ?_
    have hs_h5 : ShM b0 h5 := by rw [E6]; exact ShM_wi hs_h2
    refine ea_iload_n (pc := 187) dX12_seats_187 rfl 1 rfl ?_
    refine ea_if_ne (pc := 188) (tgt := 196) dX12_seats_188 rfl (fun c8 => ?_) (fun c8 => ?_)
    · have H := H.1 c8
      refine ea_iload_n (pc := 196) dX12_seats_196 rfl 1 rfl ?_
      refine ea_bipush (pc := 197) dX12_seats_197 (v := 10) rfl ?_
      refine ea_icmp_ne (pc := 199) (tgt := 207) dX12_seats_199 rfl (fun c7 => ?_) (fun c7 => ?_)
      · have H := H.1 c7
        refine ea_iload (pc := 207) dX12_seats_207 6 rfl ?_
        obtain ⟨rfl, rfl⟩ := H
        exact ea_ireturn (pc := 209) dX12_seats_209 rfl rfl
      · have H := H.2 c7
        refine ea_iload (pc := 202) dX12_seats_202 5 rfl ?_
        refine ea_goto (pc := 204) (tgt := 209) dX12_seats_204 rfl ?_
        obtain ⟨rfl, rfl⟩ := H
        exact ea_ireturn (pc := 209) dX12_seats_209 rfl rfl
    · have H := H.2 c8
      refine ea_iload (pc := 191) dX12_seats_191 4 rfl ?_
      refine ea_goto (pc := 193) (tgt := 209) dX12_seats_193 rfl ?_
      obtain ⟨rfl, rfl⟩ := H
      exact ea_ireturn (pc := 209) dX12_seats_209 rfl rfl
  · have H := H.2 c9
    refine ea_iconst (pc := 79) dX12_seats_79 (v := 0) rfl ?_
    refine ea_istore (pc := 80) (lv' := [(0, vR (some (b0 + 0))), (1, vI x1), (2, vI x2), (3, vI x3), (4, vI x4), (5, vI x5), (6, vI x6), (7, vI x7), (8, vI 0)]) dX12_seats_80 (Nat.le_of_ble_eq_true rfl) [1, 2, 3, 4, 5, 6, 7, 8, 0] rfl ?_
    exact H
theorem pX12_seats_82 {d b0 : Nat} {h0 hE h : ea_H} {rv : Option ea_V} {x1 : Int32} {x2 : Int32} {x3 : Int32} {x4 : Int32} {x5 : Int32} {x6 : Int32} {x7 : Int32} {x8 : Int32} (hd : 2 ≤ d) (hs_h : ShM b0 h) (H : ((ea_i h (b0 + 0) 92) ≤ (1 : Int32) → ea_W mX12_seats d h0 rv hE 100 [(0, vR (some (b0 + 0))), (1, vI x1), (2, vI x2), (3, vI x3), (4, vI x4), (5, vI x5), (6, vI x6), (7, vI x7), (8, vI x8)] [vI 1, vI x8] h) ∧ (¬ (ea_i h (b0 + 0) 92) ≤ (1 : Int32) → ea_W mX12_seats d h0 rv hE 100 [(0, vR (some (b0 + 0))), (1, vI x1), (2, vI x2), (3, vI x3), (4, vI x4), (5, vI x5), (6, vI x6), (7, vI x7), (8, vI x8)] [vI (ea_i h (b0 + 0) 2), vI x8] h)) : ea_W mX12_seats d h0 rv hE 82 [(0, vR (some (b0 + 0))), (1, vI x1), (2, vI x2), (3, vI x3), (4, vI x4), (5, vI x5), (6, vI x6), (7, vI x7), (8, vI x8)] [] h := by
  refine ea_iload (pc := 82) dX12_seats_82 8 rfl ?_
  refine ea_aload_n (pc := 84) dX12_seats_84 rfl 0 rfl ?_
  refine ea_getI (pc := 85) dX12_seats_85 ec_12 (k := 92) (Nat.le_of_ble_eq_true rfl) rfl (Or.inl ew_1437) (hs_h.1 0 (by decide)).1 (hs_h.1 0 (by decide)).2.1 ?_
  refine ea_iconst (pc := 88) dX12_seats_88 (v := 1) rfl ?_
  refine ea_icmp_le (pc := 89) (tgt := 99) dX12_seats_89 rfl (fun c1 => ?_) (fun c1 => ?_)
  · have H := H.1 c1
    refine ea_iconst (pc := 99) dX12_seats_99 (v := 1) rfl ?_
    exact H
  · have H := H.2 c1
    refine ea_aload_n (pc := 92) dX12_seats_92 rfl 0 rfl ?_
    refine ea_getI (pc := 93) dX12_seats_93 ec_12 (k := 2) (Nat.le_of_ble_eq_true rfl) rfl (Or.inl ew_1347) (hs_h.1 0 (by decide)).1 (hs_h.1 0 (by decide)).2.1 ?_
    refine ea_goto (pc := 96) (tgt := 100) dX12_seats_96 rfl ?_
    exact H
theorem pX12_seats_100 {d b0 : Nat} {h0 hE h : ea_H} {rv : Option ea_V} {x1 : Int32} {x2 : Int32} {x3 : Int32} {x4 : Int32} {x5 : Int32} {x6 : Int32} {x7 : Int32} {x8 : Int32} {sx0 : Int32} {sx1 : Int32} (hd : 2 ≤ d) (hs_h : ShM b0 h) (H : (sx0 ≤ sx1 → ea_W mX12_seats d h0 rv hE 70 [(0, vR (some (b0 + 0))), (1, vI x1), (2, vI x2), (3, vI x3), (4, vI x4), (5, vI x5), (6, vI x6), (7, vI (x7 + 1))] [] h) ∧ (¬ sx0 ≤ sx1 → vp_in 0 8 ∧ ∀ h2, h2 = ea_wi h (b0 + 68) (Int32.toNatClampNeg 0) x7 → ((ea_i h2 (b0 + 0) 92) ≤ (1 : Int32) → ea_W mX12_seats d h0 rv hE 127 [(0, vR (some (b0 + 0))), (1, vI x1), (2, vI x2), (3, vI x3), (4, vI x4), (5, vI x5), (6, vI x6), (7, vI x7), (8, vI x8)] [] h2) ∧ (¬ (ea_i h2 (b0 + 0) 92) ≤ (1 : Int32) → vp_in 1 8 ∧ ∀ h5, h5 = ea_wi h2 (b0 + 68) (Int32.toNatClampNeg 1) x8 → ea_W mX12_seats d h0 rv hE 127 [(0, vR (some (b0 + 0))), (1, vI x1), (2, vI x2), (3, vI x3), (4, vI x4), (5, vI x5), (6, vI x6), (7, vI x7), (8, vI x8)] [] h5))) : ea_W mX12_seats d h0 rv hE 100 [(0, vR (some (b0 + 0))), (1, vI x1), (2, vI x2), (3, vI x3), (4, vI x4), (5, vI x5), (6, vI x6), (7, vI x7), (8, vI x8)] [vI sx0, vI sx1] h := by
  refine ea_icmp_ge (pc := 100) (tgt := 167) dX12_seats_100 rfl (fun c8 => ?_) (fun c8 => ?_)
  · have H := H.1 c8
    refine ea_iinc (pc := 167) (v := 1) (lv' := [(0, vR (some (b0 + 0))), (1, vI x1), (2, vI x2), (3, vI x3), (4, vI x4), (5, vI x5), (6, vI x6), (7, vI (x7 + 1))]) dX12_seats_167 7 rfl rfl (Nat.le_of_ble_eq_true rfl) [1, 2, 3, 4, 5, 6, 7, 0] rfl ?_
    refine ea_goto (pc := 170) (tgt := 70) dX12_seats_170 rfl ?_
    exact H
  · have H := H.2 c8
    refine ea_aload_n (pc := 103) dX12_seats_103 rfl 0 rfl ?_
    refine ea_getR (pc := 104) dX12_seats_104 ec_12 (k := 95) (Nat.le_of_ble_eq_true rfl) rfl (Or.inl ew_1440) (hs_h.1 0 (by decide)).1 (hs_h.1 0 (by decide)).2.1 (hs_h.2 0 95 rfl) ?_
    refine ea_iconst (pc := 107) dX12_seats_107 (v := 0) rfl ?_
    refine ea_iload (pc := 108) dX12_seats_108 7 rfl ?_
    obtain ⟨z1, H⟩ := H
    refine ea_iast (pc := 110) dX12_seats_110 (hs_h.1 68 (by decide)).1 (hs_h.1 68 (by decide)).2.1 (ea_vpl (hs_h.1 68 (by decide)).2.2 z1) ?_
    obtain ⟨h2, E3⟩ : ∃ z, z = ea_wi h (b0 + 68) (Int32.toNatClampNeg 0) x7 := ⟨_, rfl⟩
    have H := H h2 E3
    refine ea_nm E3 ?_
    have hs_h2 : ShM b0 h2 := by rw [E3]; exact ShM_wi hs_h
    refine ea_aload_n (pc := 111) dX12_seats_111 rfl 0 rfl ?_
    refine ea_getI (pc := 112) dX12_seats_112 ec_12 (k := 92) (Nat.le_of_ble_eq_true rfl) rfl (Or.inl ew_1437) (hs_h2.1 0 (by decide)).1 (hs_h2.1 0 (by decide)).2.1 ?_
    refine ea_iconst (pc := 115) dX12_seats_115 (v := 1) rfl ?_
    refine ea_icmp_le (pc := 116) (tgt := 127) dX12_seats_116 rfl (fun c7 => ?_) (fun c7 => ?_)
    · have H := H.1 c7
      exact H
    · have H := H.2 c7
      refine ea_aload_n (pc := 119) dX12_seats_119 rfl 0 rfl ?_
      refine ea_getR (pc := 120) dX12_seats_120 ec_12 (k := 95) (Nat.le_of_ble_eq_true rfl) rfl (Or.inl ew_1440) (hs_h2.1 0 (by decide)).1 (hs_h2.1 0 (by decide)).2.1 (hs_h2.2 0 95 rfl) ?_
      refine ea_iconst (pc := 123) dX12_seats_123 (v := 1) rfl ?_
      refine ea_iload (pc := 124) dX12_seats_124 8 rfl ?_
      obtain ⟨z4, H⟩ := H
      refine ea_iast (pc := 126) dX12_seats_126 (hs_h2.1 68 (by decide)).1 (hs_h2.1 68 (by decide)).2.1 (ea_vpl (hs_h2.1 68 (by decide)).2.2 z4) ?_
      obtain ⟨h5, E6⟩ : ∃ z, z = ea_wi h2 (b0 + 68) (Int32.toNatClampNeg 1) x8 := ⟨_, rfl⟩
      have H := H h5 E6
      refine ea_nm E6 ?_
      have hs_h5 : ShM b0 h5 := by rw [E6]; exact ShM_wi hs_h2
      exact H
theorem pX12_seats_127 {d b0 : Nat} {h0 hE h : ea_H} {rv : Option ea_V} {x1 : Int32} {x2 : Int32} {x3 : Int32} {x4 : Int32} {x5 : Int32} {x6 : Int32} {x7 : Int32} {x8 : Int32} (hd : 2 ≤ d) (hs_h : ShM b0 h) (H : ∃ (d1 : Nat) (xc5 : Int32) (h2 : ea_H), ea_Met mX12_sums d1 [vR (some (b0 + 0))] h (some (vI xc5)) h2 ∧ d1 + 1 ≤ d ∧ ShM b0 h2 ∧ (x4 = ((-1) : Int32) → ea_W mX12_seats d h0 rv hE 82 [(0, vR (some (b0 + 0))), (1, vI x1), (2, vI x2), (3, vI x3), (4, vI xc5), (5, vI x7), (6, vI x8), (7, vI x7), (8, vI (x8 + 1))] [] h2) ∧ (¬ x4 = ((-1) : Int32) → (xc5 < x4 → ea_W mX12_seats d h0 rv hE 82 [(0, vR (some (b0 + 0))), (1, vI x1), (2, vI x2), (3, vI x3), (4, vI xc5), (5, vI x7), (6, vI x8), (7, vI x7), (8, vI (x8 + 1))] [] h2) ∧ (¬ xc5 < x4 → ea_W mX12_seats d h0 rv hE 82 [(0, vR (some (b0 + 0))), (1, vI x1), (2, vI x2), (3, vI x3), (4, vI x4), (5, vI x5), (6, vI x6), (7, vI x7), (8, vI (x8 + 1))] [] h2))) : ea_W mX12_seats d h0 rv hE 127 [(0, vR (some (b0 + 0))), (1, vI x1), (2, vI x2), (3, vI x3), (4, vI x4), (5, vI x5), (6, vI x6), (7, vI x7), (8, vI x8)] [] h := by
  refine ea_aload_n (pc := 127) dX12_seats_127 rfl 0 rfl ?_
  obtain ⟨d1, xc5, h2, m3, q4, hs_h2, H⟩ := H
  refine ea_callV (pc := 128) (As := []) (st := []) dX12_seats_128 kX12_sums m3 q4 rfl (Nat.le_of_ble_eq_true rfl) ew_2175 ew_2177 ew_104 (ci := 12) rfl (by decide) (hs_h.1 0 (by decide)).1 (hs_h.1 0 (by decide)).2.1 ?_
  refine ea_istore (pc := 131) (lv' := [(0, vR (some (b0 + 0))), (1, vI x1), (2, vI x2), (3, vI x3), (4, vI x4), (5, vI x5), (6, vI x6), (7, vI x7), (8, vI x8), (9, vI xc5)]) dX12_seats_131 (Nat.le_of_ble_eq_true rfl) [1, 2, 3, 4, 5, 6, 7, 8, 9, 0] rfl ?_
  refine ea_iload (pc := 133) dX12_seats_133 4 rfl ?_
  refine ea_iconst (pc := 135) dX12_seats_135 (v := (-1)) rfl ?_
  refine ea_icmp_eq (pc := 136) (tgt := 149) dX12_seats_136 rfl (fun c7 => ?_) (fun c7 => ?_)
  · have H := H.1 c7
    refine ea_iload (pc := 149) dX12_seats_149 9 rfl ?_
    refine ea_istore (pc := 151) (lv' := [(0, vR (some (b0 + 0))), (1, vI x1), (2, vI x2), (3, vI x3), (4, vI xc5), (7, vI x7), (8, vI x8)]) dX12_seats_151 (Nat.le_of_ble_eq_true rfl) [1, 2, 3, 4, 0, 7, 8] rfl ?_
    refine ea_iload (pc := 153) dX12_seats_153 5 rfl ?_
    refine ea_istore (pc := 155) (lv' := [(0, vR (some (b0 + 0))), (1, vI x1), (2, vI x2), (3, vI x3), (4, vI xc5), (5, vI x7), (7, vI x7), (8, vI x8)]) dX12_seats_155 (Nat.le_of_ble_eq_true rfl) [1, 2, 3, 4, 5, 0, 6, 7] rfl ?_
    refine ea_iload (pc := 157) dX12_seats_157 7 rfl ?_
    refine ea_istore (pc := 159) (lv' := [(0, vR (some (b0 + 0))), (1, vI x1), (2, vI x2), (3, vI x3), (4, vI xc5), (5, vI x7), (6, vI x8), (7, vI x7), (8, vI x8)]) dX12_seats_159 (Nat.le_of_ble_eq_true rfl) [1, 2, 3, 4, 5, 6, 0, 7, 8] rfl ?_
    refine ea_iinc (pc := 161) (v := 1) (lv' := [(0, vR (some (b0 + 0))), (1, vI x1), (2, vI x2), (3, vI x3), (4, vI xc5), (5, vI x7), (6, vI x8), (7, vI x7), (8, vI (x8 + 1))]) dX12_seats_161 8 rfl rfl (Nat.le_of_ble_eq_true rfl) [1, 2, 3, 4, 5, 6, 7, 8, 0] rfl ?_
    refine ea_goto (pc := 164) (tgt := 82) dX12_seats_164 rfl ?_
    exact H
  · have H := H.2 c7
    refine ea_iload (pc := 139) dX12_seats_139 9 rfl ?_
    refine ea_iload (pc := 141) dX12_seats_141 4 rfl ?_
    refine ea_icmp_lt (pc := 143) (tgt := 149) dX12_seats_143 rfl (fun c6 => ?_) (fun c6 => ?_)
    · have H := H.1 c6
      refine ea_iload (pc := 149) dX12_seats_149 9 rfl ?_
      refine ea_istore (pc := 151) (lv' := [(0, vR (some (b0 + 0))), (1, vI x1), (2, vI x2), (3, vI x3), (4, vI xc5), (7, vI x7), (8, vI x8)]) dX12_seats_151 (Nat.le_of_ble_eq_true rfl) [1, 2, 3, 4, 0, 7, 8] rfl ?_
      refine ea_iload (pc := 153) dX12_seats_153 5 rfl ?_
      refine ea_istore (pc := 155) (lv' := [(0, vR (some (b0 + 0))), (1, vI x1), (2, vI x2), (3, vI x3), (4, vI xc5), (5, vI x7), (7, vI x7), (8, vI x8)]) dX12_seats_155 (Nat.le_of_ble_eq_true rfl) [1, 2, 3, 4, 5, 0, 6, 7] rfl ?_
      refine ea_iload (pc := 157) dX12_seats_157 7 rfl ?_
      refine ea_istore (pc := 159) (lv' := [(0, vR (some (b0 + 0))), (1, vI x1), (2, vI x2), (3, vI x3), (4, vI xc5), (5, vI x7), (6, vI x8), (7, vI x7), (8, vI x8)]) dX12_seats_159 (Nat.le_of_ble_eq_true rfl) [1, 2, 3, 4, 5, 6, 0, 7, 8] rfl ?_
      refine ea_iinc (pc := 161) (v := 1) (lv' := [(0, vR (some (b0 + 0))), (1, vI x1), (2, vI x2), (3, vI x3), (4, vI xc5), (5, vI x7), (6, vI x8), (7, vI x7), (8, vI (x8 + 1))]) dX12_seats_161 8 rfl rfl (Nat.le_of_ble_eq_true rfl) [1, 2, 3, 4, 5, 6, 7, 8, 0] rfl ?_
      refine ea_goto (pc := 164) (tgt := 82) dX12_seats_164 rfl ?_
      exact H
    · have H := H.2 c6
      refine ea_goto (pc := 146) (tgt := 161) dX12_seats_146 rfl ?_
      refine ea_iinc (pc := 161) (v := 1) (lv' := [(0, vR (some (b0 + 0))), (1, vI x1), (2, vI x2), (3, vI x3), (4, vI x4), (5, vI x5), (6, vI x6), (7, vI x7), (8, vI (x8 + 1))]) dX12_seats_161 8 rfl rfl (Nat.le_of_ble_eq_true rfl) [1, 2, 3, 4, 5, 6, 7, 8, 0] rfl ?_
      refine ea_goto (pc := 164) (tgt := 82) dX12_seats_164 rfl ?_
      exact H
