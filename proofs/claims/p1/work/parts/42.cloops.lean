/-! the class: methods with loops, from each start, 2 -/
theorem pX1_sort_at32_57 {d b0 : Nat} {h0 hE h : ea_H} {rv : Option ea_V} {x1 : Int32} {x2 : Int32} {x4 : Int32} (hd : 2 ≤ d) (hs_h : ShC b0 h) (H : vp_in x2 10 ∧ ((ea_i h (b0 + 6) (Int32.toNatClampNeg x2)) ≤ x4 → rv = none ∧ hE = h) ∧ (¬ (ea_i h (b0 + 6) (Int32.toNatClampNeg x2)) ≤ x4 → vp_in (((8 : Int32) * x2) + x4) 80 ∧ ea_W mX1_sort d h0 rv hE 91 [(0, vR (some (b0 + 32))), (1, vI x1), (2, vI x2), (4, vI x4), (5, vI (ea_i h (b0 + 7) (Int32.toNatClampNeg (((8 : Int32) * x2) + x4)))), (6, vI 0)] [] h)) : ea_W mX1_sort d h0 rv hE 57 [(0, vR (some (b0 + 32))), (1, vI x1), (2, vI x2), (4, vI x4)] [] h := by
  refine ea_iload (pc := 57) dX1_sort_57 3 rfl ?_
  refine ea_aload_n (pc := 59) dX1_sort_59 rfl 0 rfl ?_
  refine ea_getR (pc := 60) dX1_sort_60 ec_1 (k := 11) (Nat.le_of_ble_eq_true rfl) rfl (Or.inl ew_377) (hs_h.1 32 (by decide)).1 (hs_h.1 32 (by decide)).2.1 (hs_h.2 32 11 rfl) ?_
  refine ea_getR (pc := 63) dX1_sort_63 ec_9 (k := 1) (Nat.le_of_ble_eq_true rfl) rfl (Or.inl ew_182) (hs_h.1 5 (by decide)).1 (hs_h.1 5 (by decide)).2.1 (hs_h.2 5 1 rfl) ?_
  refine ea_iload_n (pc := 66) dX1_sort_66 rfl 2 rfl ?_
  obtain ⟨z1, H⟩ := H
  refine ea_iald (pc := 67) dX1_sort_67 (hs_h.1 6 (by decide)).1 (hs_h.1 6 (by decide)).2.1 (ea_vpl (hs_h.1 6 (by decide)).2.2 z1) ?_
  refine ea_icmp_ge (pc := 68) (tgt := 161) dX1_sort_68 rfl (fun c3 => ?_) (fun c3 => ?_)
  · have H := H.1 c3
    obtain ⟨rfl, rfl⟩ := H
    exact ea_return (pc := 161) dX1_sort_161 rfl
  · have H := H.2 c3
    refine ea_aload_n (pc := 71) dX1_sort_71 rfl 0 rfl ?_
    refine ea_getR (pc := 72) dX1_sort_72 ec_1 (k := 11) (Nat.le_of_ble_eq_true rfl) rfl (Or.inl ew_377) (hs_h.1 32 (by decide)).1 (hs_h.1 32 (by decide)).2.1 (hs_h.2 32 11 rfl) ?_
    refine ea_getR (pc := 75) dX1_sort_75 ec_9 (k := 2) (Nat.le_of_ble_eq_true rfl) rfl (Or.inl ew_186) (hs_h.1 5 (by decide)).1 (hs_h.1 5 (by decide)).2.1 (hs_h.2 5 2 rfl) ?_
    refine ea_bipush (pc := 78) dX1_sort_78 (v := 8) rfl ?_
    refine ea_iload_n (pc := 80) dX1_sort_80 rfl 2 rfl ?_
    refine ea_imul (pc := 81) dX1_sort_81 ?_
    refine ea_iload (pc := 82) dX1_sort_82 3 rfl ?_
    refine ea_iadd (pc := 84) dX1_sort_84 ?_
    obtain ⟨z2, H⟩ := H
    refine ea_iald (pc := 85) dX1_sort_85 (hs_h.1 7 (by decide)).1 (hs_h.1 7 (by decide)).2.1 (ea_vpl (hs_h.1 7 (by decide)).2.2 z2) ?_
    refine ea_istore (pc := 86) (lv' := [(0, vR (some (b0 + 32))), (1, vI x1), (2, vI x2), (4, vI x4), (5, vI (ea_i h (b0 + 7) (Int32.toNatClampNeg (((8 : Int32) * x2) + x4))))]) dX1_sort_86 (Nat.le_of_ble_eq_true rfl) [1, 2, 3, 4, 0] rfl ?_
    refine ea_iconst (pc := 88) dX1_sort_88 (v := 0) rfl ?_
    refine ea_istore (pc := 89) (lv' := [(0, vR (some (b0 + 32))), (1, vI x1), (2, vI x2), (4, vI x4), (5, vI (ea_i h (b0 + 7) (Int32.toNatClampNeg (((8 : Int32) * x2) + x4)))), (6, vI 0)]) dX1_sort_89 (Nat.le_of_ble_eq_true rfl) [1, 2, 3, 4, 5, 0] rfl ?_
    exact H
theorem pX1_sort_at32_91 {d b0 : Nat} {h0 hE h : ea_H} {rv : Option ea_V} {x1 : Int32} {x2 : Int32} {x4 : Int32} {x5 : Int32} {x6 : Int32} (hd : 2 ≤ d) (hs_h : ShC b0 h) (H : ((ea_i h (b0 + 32) 0) ≤ x6 → ea_W mX1_sort d h0 rv hE 57 [(0, vR (some (b0 + 32))), (1, vI x1), (2, vI x2), (4, vI (x4 + 1))] [] h) ∧ (¬ (ea_i h (b0 + 32) 0) ≤ x6 → (okX1_isAboard_at32 b0 (x6 : Int32) (x1 : Int32) h) ∧ ((vX1_isAboard_at32 b0 (x6 : Int32) (x1 : Int32) h) = (0 : Int32) → ea_W mX1_sort d h0 rv hE 91 [(0, vR (some (b0 + 32))), (1, vI x1), (2, vI x2), (4, vI x4), (5, vI x5), (6, vI (x6 + 1))] [] h) ∧ (¬ (vX1_isAboard_at32 b0 (x6 : Int32) (x1 : Int32) h) = (0 : Int32) → vp_in x6 120 ∧ (¬ (ea_i h (b0 + 37) (Int32.toNatClampNeg x6)) = (0 : Int32) → ea_W mX1_sort d h0 rv hE 91 [(0, vR (some (b0 + 32))), (1, vI x1), (2, vI x2), (4, vI x4), (5, vI x5), (6, vI (x6 + 1))] [] h) ∧ ((ea_i h (b0 + 37) (Int32.toNatClampNeg x6)) = (0 : Int32) → vp_in x6 120 ∧ (¬ (ea_i h (b0 + 35) (Int32.toNatClampNeg x6)) = x4 → ea_W mX1_sort d h0 rv hE 91 [(0, vR (some (b0 + 32))), (1, vI x1), (2, vI x2), (4, vI x4), (5, vI x5), (6, vI (x6 + 1))] [] h) ∧ ((ea_i h (b0 + 35) (Int32.toNatClampNeg x6)) = x4 → ∃ (d22 : Nat) (xc26 : Int32) (h23 : ea_H), ea_Met mX3_sortsOne d22 [vR (some (b0 + 16)), vI x2, vI x5] h (some (vI xc26)) h23 ∧ d22 + 1 ≤ d ∧ ShC b0 h23 ∧ vp_in x6 120 ∧ (xc26 = 0 ∨ xc26 = 1) ∧ ∀ h28, h28 = ea_wi h23 (b0 + 37) (Int32.toNatClampNeg x6) xc26 → ea_W mX1_sort d h0 rv hE 91 [(0, vR (some (b0 + 32))), (1, vI x1), (2, vI x2), (4, vI x4), (5, vI x5), (6, vI (x6 + 1))] [] h28))))) : ea_W mX1_sort d h0 rv hE 91 [(0, vR (some (b0 + 32))), (1, vI x1), (2, vI x2), (4, vI x4), (5, vI x5), (6, vI x6)] [] h := by
  refine ea_iload (pc := 91) dX1_sort_91 5 rfl ?_
  refine ea_aload_n (pc := 93) dX1_sort_93 rfl 0 rfl ?_
  refine ea_getI (pc := 94) dX1_sort_94 ec_1 (k := 0) (Nat.le_of_ble_eq_true rfl) rfl (Or.inl ew_359) (hs_h.1 32 (by decide)).1 (hs_h.1 32 (by decide)).2.1 ?_
  refine ea_icmp_ge (pc := 97) (tgt := 155) dX1_sort_97 rfl (fun c35 => ?_) (fun c35 => ?_)
  · have H := H.1 c35
    refine ea_iinc (pc := 155) (v := 1) (lv' := [(0, vR (some (b0 + 32))), (1, vI x1), (2, vI x2), (4, vI (x4 + 1))]) dX1_sort_155 3 rfl rfl (Nat.le_of_ble_eq_true rfl) [1, 2, 3, 0] rfl ?_
    refine ea_goto (pc := 158) (tgt := 57) dX1_sort_158 rfl ?_
    exact H
  · have H := H.2 c35
    refine ea_aload_n (pc := 100) dX1_sort_100 rfl 0 rfl ?_
    refine ea_iload (pc := 101) dX1_sort_101 5 rfl ?_
    refine ea_iload_n (pc := 103) dX1_sort_103 rfl 1 rfl ?_
    obtain ⟨z34, H⟩ := H
    refine ea_callV (pc := 104) (d' := d - 1) (As := [vI x6, vI x1]) (st := []) dX1_sort_104 kX1_isAboard (sX1_isAboard_at32 (d := d - 1) (by omega) hs_h z34) (by omega) rfl (Nat.le_of_ble_eq_true rfl) ew_704 ew_705 ew_706 (ci := 1) rfl (by decide) (hs_h.1 32 (by decide)).1 (hs_h.1 32 (by decide)).2.1 ?_
    refine ea_if_eq (pc := 107) (tgt := 149) dX1_sort_107 rfl (fun c33 => ?_) (fun c33 => ?_)
    · have H := H.1 c33
      refine ea_iinc (pc := 149) (v := 1) (lv' := [(0, vR (some (b0 + 32))), (1, vI x1), (2, vI x2), (4, vI x4), (5, vI x5), (6, vI (x6 + 1))]) dX1_sort_149 5 rfl rfl (Nat.le_of_ble_eq_true rfl) [1, 2, 3, 4, 5, 0] rfl ?_
      refine ea_goto (pc := 152) (tgt := 91) dX1_sort_152 rfl ?_
      exact H
    · have H := H.2 c33
      refine ea_aload_n (pc := 110) dX1_sort_110 rfl 0 rfl ?_
      refine ea_getR (pc := 111) dX1_sort_111 ec_1 (k := 5) (Nat.le_of_ble_eq_true rfl) rfl (Or.inl ew_369) (hs_h.1 32 (by decide)).1 (hs_h.1 32 (by decide)).2.1 (hs_h.2 32 5 rfl) ?_
      refine ea_iload (pc := 114) dX1_sort_114 5 rfl ?_
      obtain ⟨z20, H⟩ := H
      refine ea_zald (pc := 116) dX1_sort_116 (hs_h.1 37 (by decide)).1 (hs_h.1 37 (by decide)).2.1 (ea_vpl (hs_h.1 37 (by decide)).2.2 z20) ?_
      refine ea_if_ne (pc := 117) (tgt := 149) dX1_sort_117 rfl (fun c32 => ?_) (fun c32 => ?_)
      · have H := H.1 c32
        refine ea_iinc (pc := 149) (v := 1) (lv' := [(0, vR (some (b0 + 32))), (1, vI x1), (2, vI x2), (4, vI x4), (5, vI x5), (6, vI (x6 + 1))]) dX1_sort_149 5 rfl rfl (Nat.le_of_ble_eq_true rfl) [1, 2, 3, 4, 5, 0] rfl ?_
        refine ea_goto (pc := 152) (tgt := 91) dX1_sort_152 rfl ?_
        exact H
      · have H := H.2 c32
        refine ea_aload_n (pc := 120) dX1_sort_120 rfl 0 rfl ?_
        refine ea_getR (pc := 121) dX1_sort_121 ec_1 (k := 3) (Nat.le_of_ble_eq_true rfl) rfl (Or.inl ew_365) (hs_h.1 32 (by decide)).1 (hs_h.1 32 (by decide)).2.1 (hs_h.2 32 3 rfl) ?_
        refine ea_iload (pc := 124) dX1_sort_124 5 rfl ?_
        obtain ⟨z21, H⟩ := H
        refine ea_iald (pc := 126) dX1_sort_126 (hs_h.1 35 (by decide)).1 (hs_h.1 35 (by decide)).2.1 (ea_vpl (hs_h.1 35 (by decide)).2.2 z21) ?_
        refine ea_iload (pc := 127) dX1_sort_127 3 rfl ?_
        refine ea_icmp_ne (pc := 129) (tgt := 149) dX1_sort_129 rfl (fun c31 => ?_) (fun c31 => ?_)
        · have H := H.1 c31
          refine ea_iinc (pc := 149) (v := 1) (lv' := [(0, vR (some (b0 + 32))), (1, vI x1), (2, vI x2), (4, vI x4), (5, vI x5), (6, vI (x6 + 1))]) dX1_sort_149 5 rfl rfl (Nat.le_of_ble_eq_true rfl) [1, 2, 3, 4, 5, 0] rfl ?_
          refine ea_goto (pc := 152) (tgt := 91) dX1_sort_152 rfl ?_
          exact H
        · have H := H.2 c31
          refine ea_aload_n (pc := 132) dX1_sort_132 rfl 0 rfl ?_
          refine ea_getR (pc := 133) dX1_sort_133 ec_1 (k := 5) (Nat.le_of_ble_eq_true rfl) rfl (Or.inl ew_369) (hs_h.1 32 (by decide)).1 (hs_h.1 32 (by decide)).2.1 (hs_h.2 32 5 rfl) ?_
          refine ea_iload (pc := 136) dX1_sort_136 5 rfl ?_
          refine ea_aload_n (pc := 138) dX1_sort_138 rfl 0 rfl ?_
          refine ea_getR (pc := 139) dX1_sort_139 ec_1 (k := 13) (Nat.le_of_ble_eq_true rfl) rfl (Or.inl ew_379) (hs_h.1 32 (by decide)).1 (hs_h.1 32 (by decide)).2.1 (hs_h.2 32 13 rfl) ?_
          refine ea_iload_n (pc := 142) dX1_sort_142 rfl 2 rfl ?_
          refine ea_iload (pc := 143) dX1_sort_143 4 rfl ?_
          obtain ⟨d22, xc26, h23, m24, q25, hs_h23, H⟩ := H
          refine ea_callV (pc := 145) (As := [vI x2, vI x5]) (st := [vI x6, vR (some (b0 + 37))]) dX1_sort_145 kX3_sortsOne m24 q25 rfl (Nat.le_of_ble_eq_true rfl) ew_708 ew_709 ew_710 (ci := 3) rfl (by decide) (hs_h.1 16 (by decide)).1 (hs_h.1 16 (by decide)).2.1 ?_
          obtain ⟨z27, H⟩ := H
          obtain ⟨z30, H⟩ := H
          refine ea_zast (pc := 148) dX1_sort_148 (y := xc26) (ea_bn z30) (hs_h23.1 37 (by decide)).1 (hs_h23.1 37 (by decide)).2.1 (ea_vpl (hs_h23.1 37 (by decide)).2.2 z27) ?_
          obtain ⟨h28, E29⟩ : ∃ z, z = ea_wi h23 (b0 + 37) (Int32.toNatClampNeg x6) xc26 := ⟨_, rfl⟩
          have H := H h28 E29
          refine ea_nm E29 ?_
          have hs_h28 : ShC b0 h28 := by rw [E29]; exact ShC_wi hs_h23
          refine ea_iinc (pc := 149) (v := 1) (lv' := [(0, vR (some (b0 + 32))), (1, vI x1), (2, vI x2), (4, vI x4), (5, vI x5), (6, vI (x6 + 1))]) dX1_sort_149 5 rfl rfl (Nat.le_of_ble_eq_true rfl) [1, 2, 3, 4, 5, 0] rfl ?_
          refine ea_goto (pc := 152) (tgt := 91) dX1_sort_152 rfl ?_
          exact H
theorem pX1_sort_at42_0 {d b0 : Nat} {h0 hE h : ea_H} {rv : Option ea_V} {x1 : Int32} {x2 : Int32} {x3 : Int32} (hd : 2 ≤ d) (hs_h : ShC b0 h) (H : vp_in x2 10 ∧ ((x3 + (1 : Int32)) < (ea_i h (b0 + 6) (Int32.toNatClampNeg x2)) → vp_in ((((8 : Int32) * x2) + x3) + (1 : Int32)) 80 ∧ vp_in (((8 : Int32) * x2) + x3) 80 ∧ ∃ (d4 : Nat) (h5 : ea_H), ea_Met mX3_begin d4 [vR (some (b0 + 16)), vI ((ea_i h (b0 + 8) (Int32.toNatClampNeg ((((8 : Int32) * x2) + x3) + (1 : Int32)))) - (ea_i h (b0 + 9) (Int32.toNatClampNeg (((8 : Int32) * x2) + x3))))] h none h5 ∧ d4 + 1 ≤ d ∧ ShC b0 h5 ∧ ea_W mX1_sort d h0 rv hE 57 [(0, vR (some (b0 + 42))), (1, vI x1), (2, vI x2), (4, vI 0)] [] h5) ∧ (¬ (x3 + (1 : Int32)) < (ea_i h (b0 + 6) (Int32.toNatClampNeg x2)) → rv = none ∧ hE = h)) : ea_W mX1_sort d h0 rv hE 0 [(0, vR (some (b0 + 42))), (1, vI x1), (2, vI x2), (3, vI x3)] [] h := by
  refine ea_iload_n (pc := 0) dX1_sort_0 rfl 3 rfl ?_
  refine ea_iconst (pc := 1) dX1_sort_1 (v := 1) rfl ?_
  refine ea_iadd (pc := 2) dX1_sort_2 ?_
  refine ea_aload_n (pc := 3) dX1_sort_3 rfl 0 rfl ?_
  refine ea_getR (pc := 4) dX1_sort_4 ec_1 (k := 11) (Nat.le_of_ble_eq_true rfl) rfl (Or.inl ew_377) (hs_h.1 42 (by decide)).1 (hs_h.1 42 (by decide)).2.1 (hs_h.2 42 11 rfl) ?_
  refine ea_getR (pc := 7) dX1_sort_7 ec_9 (k := 1) (Nat.le_of_ble_eq_true rfl) rfl (Or.inl ew_182) (hs_h.1 5 (by decide)).1 (hs_h.1 5 (by decide)).2.1 (hs_h.2 5 1 rfl) ?_
  refine ea_iload_n (pc := 10) dX1_sort_10 rfl 2 rfl ?_
  obtain ⟨z1, H⟩ := H
  refine ea_iald (pc := 11) dX1_sort_11 (hs_h.1 6 (by decide)).1 (hs_h.1 6 (by decide)).2.1 (ea_vpl (hs_h.1 6 (by decide)).2.2 z1) ?_
  refine ea_icmp_lt (pc := 12) (tgt := 16) dX1_sort_12 rfl (fun c8 => ?_) (fun c8 => ?_)
  · have H := H.1 c8
    refine ea_aload_n (pc := 16) dX1_sort_16 rfl 0 rfl ?_
    refine ea_getR (pc := 17) dX1_sort_17 ec_1 (k := 13) (Nat.le_of_ble_eq_true rfl) rfl (Or.inl ew_379) (hs_h.1 42 (by decide)).1 (hs_h.1 42 (by decide)).2.1 (hs_h.2 42 13 rfl) ?_
    refine ea_aload_n (pc := 20) dX1_sort_20 rfl 0 rfl ?_
    refine ea_getR (pc := 21) dX1_sort_21 ec_1 (k := 11) (Nat.le_of_ble_eq_true rfl) rfl (Or.inl ew_377) (hs_h.1 42 (by decide)).1 (hs_h.1 42 (by decide)).2.1 (hs_h.2 42 11 rfl) ?_
    refine ea_getR (pc := 24) dX1_sort_24 ec_9 (k := 3) (Nat.le_of_ble_eq_true rfl) rfl (Or.inl ew_190) (hs_h.1 5 (by decide)).1 (hs_h.1 5 (by decide)).2.1 (hs_h.2 5 3 rfl) ?_
    refine ea_bipush (pc := 27) dX1_sort_27 (v := 8) rfl ?_
    refine ea_iload_n (pc := 29) dX1_sort_29 rfl 2 rfl ?_
    refine ea_imul (pc := 30) dX1_sort_30 ?_
    refine ea_iload_n (pc := 31) dX1_sort_31 rfl 3 rfl ?_
    refine ea_iadd (pc := 32) dX1_sort_32 ?_
    refine ea_iconst (pc := 33) dX1_sort_33 (v := 1) rfl ?_
    refine ea_iadd (pc := 34) dX1_sort_34 ?_
    obtain ⟨z2, H⟩ := H
    refine ea_iald (pc := 35) dX1_sort_35 (hs_h.1 8 (by decide)).1 (hs_h.1 8 (by decide)).2.1 (ea_vpl (hs_h.1 8 (by decide)).2.2 z2) ?_
    refine ea_aload_n (pc := 36) dX1_sort_36 rfl 0 rfl ?_
    refine ea_getR (pc := 37) dX1_sort_37 ec_1 (k := 11) (Nat.le_of_ble_eq_true rfl) rfl (Or.inl ew_377) (hs_h.1 42 (by decide)).1 (hs_h.1 42 (by decide)).2.1 (hs_h.2 42 11 rfl) ?_
    refine ea_getR (pc := 40) dX1_sort_40 ec_9 (k := 4) (Nat.le_of_ble_eq_true rfl) rfl (Or.inl ew_193) (hs_h.1 5 (by decide)).1 (hs_h.1 5 (by decide)).2.1 (hs_h.2 5 4 rfl) ?_
    refine ea_bipush (pc := 43) dX1_sort_43 (v := 8) rfl ?_
    refine ea_iload_n (pc := 45) dX1_sort_45 rfl 2 rfl ?_
    refine ea_imul (pc := 46) dX1_sort_46 ?_
    refine ea_iload_n (pc := 47) dX1_sort_47 rfl 3 rfl ?_
    refine ea_iadd (pc := 48) dX1_sort_48 ?_
    obtain ⟨z3, H⟩ := H
    refine ea_iald (pc := 49) dX1_sort_49 (hs_h.1 9 (by decide)).1 (hs_h.1 9 (by decide)).2.1 (ea_vpl (hs_h.1 9 (by decide)).2.2 z3) ?_
    refine ea_isub (pc := 50) dX1_sort_50 ?_
    obtain ⟨d4, h5, m6, q7, hs_h5, H⟩ := H
    refine ea_callV (pc := 51) (As := [vI ((ea_i h (b0 + 8) (Int32.toNatClampNeg ((((8 : Int32) * x2) + x3) + (1 : Int32)))) - (ea_i h (b0 + 9) (Int32.toNatClampNeg (((8 : Int32) * x2) + x3))))]) (st := []) dX1_sort_51 kX3_begin m6 q7 rfl (Nat.le_of_ble_eq_true rfl) ew_700 ew_701 ew_702 (ci := 3) rfl (by decide) (hs_h.1 16 (by decide)).1 (hs_h.1 16 (by decide)).2.1 ?_
    refine ea_iconst (pc := 54) dX1_sort_54 (v := 0) rfl ?_
    refine ea_istore (pc := 55) (lv' := [(0, vR (some (b0 + 42))), (1, vI x1), (2, vI x2), (4, vI 0)]) dX1_sort_55 (Nat.le_of_ble_eq_true rfl) [1, 2, 3, 0] rfl ?_
    exact H
  · have H := H.2 c8
    obtain ⟨rfl, rfl⟩ := H
    exact ea_return (pc := 15) dX1_sort_15 rfl
theorem pX1_sort_at42_57 {d b0 : Nat} {h0 hE h : ea_H} {rv : Option ea_V} {x1 : Int32} {x2 : Int32} {x4 : Int32} (hd : 2 ≤ d) (hs_h : ShC b0 h) (H : vp_in x2 10 ∧ ((ea_i h (b0 + 6) (Int32.toNatClampNeg x2)) ≤ x4 → rv = none ∧ hE = h) ∧ (¬ (ea_i h (b0 + 6) (Int32.toNatClampNeg x2)) ≤ x4 → vp_in (((8 : Int32) * x2) + x4) 80 ∧ ea_W mX1_sort d h0 rv hE 91 [(0, vR (some (b0 + 42))), (1, vI x1), (2, vI x2), (4, vI x4), (5, vI (ea_i h (b0 + 7) (Int32.toNatClampNeg (((8 : Int32) * x2) + x4)))), (6, vI 0)] [] h)) : ea_W mX1_sort d h0 rv hE 57 [(0, vR (some (b0 + 42))), (1, vI x1), (2, vI x2), (4, vI x4)] [] h := by
  refine ea_iload (pc := 57) dX1_sort_57 3 rfl ?_
  refine ea_aload_n (pc := 59) dX1_sort_59 rfl 0 rfl ?_
  refine ea_getR (pc := 60) dX1_sort_60 ec_1 (k := 11) (Nat.le_of_ble_eq_true rfl) rfl (Or.inl ew_377) (hs_h.1 42 (by decide)).1 (hs_h.1 42 (by decide)).2.1 (hs_h.2 42 11 rfl) ?_
  refine ea_getR (pc := 63) dX1_sort_63 ec_9 (k := 1) (Nat.le_of_ble_eq_true rfl) rfl (Or.inl ew_182) (hs_h.1 5 (by decide)).1 (hs_h.1 5 (by decide)).2.1 (hs_h.2 5 1 rfl) ?_
  refine ea_iload_n (pc := 66) dX1_sort_66 rfl 2 rfl ?_
  obtain ⟨z1, H⟩ := H
  refine ea_iald (pc := 67) dX1_sort_67 (hs_h.1 6 (by decide)).1 (hs_h.1 6 (by decide)).2.1 (ea_vpl (hs_h.1 6 (by decide)).2.2 z1) ?_
  refine ea_icmp_ge (pc := 68) (tgt := 161) dX1_sort_68 rfl (fun c3 => ?_) (fun c3 => ?_)
  · have H := H.1 c3
    obtain ⟨rfl, rfl⟩ := H
    exact ea_return (pc := 161) dX1_sort_161 rfl
  · have H := H.2 c3
    refine ea_aload_n (pc := 71) dX1_sort_71 rfl 0 rfl ?_
    refine ea_getR (pc := 72) dX1_sort_72 ec_1 (k := 11) (Nat.le_of_ble_eq_true rfl) rfl (Or.inl ew_377) (hs_h.1 42 (by decide)).1 (hs_h.1 42 (by decide)).2.1 (hs_h.2 42 11 rfl) ?_
    refine ea_getR (pc := 75) dX1_sort_75 ec_9 (k := 2) (Nat.le_of_ble_eq_true rfl) rfl (Or.inl ew_186) (hs_h.1 5 (by decide)).1 (hs_h.1 5 (by decide)).2.1 (hs_h.2 5 2 rfl) ?_
    refine ea_bipush (pc := 78) dX1_sort_78 (v := 8) rfl ?_
    refine ea_iload_n (pc := 80) dX1_sort_80 rfl 2 rfl ?_
    refine ea_imul (pc := 81) dX1_sort_81 ?_
    refine ea_iload (pc := 82) dX1_sort_82 3 rfl ?_
    refine ea_iadd (pc := 84) dX1_sort_84 ?_
    obtain ⟨z2, H⟩ := H
    refine ea_iald (pc := 85) dX1_sort_85 (hs_h.1 7 (by decide)).1 (hs_h.1 7 (by decide)).2.1 (ea_vpl (hs_h.1 7 (by decide)).2.2 z2) ?_
    refine ea_istore (pc := 86) (lv' := [(0, vR (some (b0 + 42))), (1, vI x1), (2, vI x2), (4, vI x4), (5, vI (ea_i h (b0 + 7) (Int32.toNatClampNeg (((8 : Int32) * x2) + x4))))]) dX1_sort_86 (Nat.le_of_ble_eq_true rfl) [1, 2, 3, 4, 0] rfl ?_
    refine ea_iconst (pc := 88) dX1_sort_88 (v := 0) rfl ?_
    refine ea_istore (pc := 89) (lv' := [(0, vR (some (b0 + 42))), (1, vI x1), (2, vI x2), (4, vI x4), (5, vI (ea_i h (b0 + 7) (Int32.toNatClampNeg (((8 : Int32) * x2) + x4)))), (6, vI 0)]) dX1_sort_89 (Nat.le_of_ble_eq_true rfl) [1, 2, 3, 4, 5, 0] rfl ?_
    exact H
theorem pX1_sort_at42_91 {d b0 : Nat} {h0 hE h : ea_H} {rv : Option ea_V} {x1 : Int32} {x2 : Int32} {x4 : Int32} {x5 : Int32} {x6 : Int32} (hd : 2 ≤ d) (hs_h : ShC b0 h) (H : ((ea_i h (b0 + 42) 0) ≤ x6 → ea_W mX1_sort d h0 rv hE 57 [(0, vR (some (b0 + 42))), (1, vI x1), (2, vI x2), (4, vI (x4 + 1))] [] h) ∧ (¬ (ea_i h (b0 + 42) 0) ≤ x6 → (okX1_isAboard_at42 b0 (x6 : Int32) (x1 : Int32) h) ∧ ((vX1_isAboard_at42 b0 (x6 : Int32) (x1 : Int32) h) = (0 : Int32) → ea_W mX1_sort d h0 rv hE 91 [(0, vR (some (b0 + 42))), (1, vI x1), (2, vI x2), (4, vI x4), (5, vI x5), (6, vI (x6 + 1))] [] h) ∧ (¬ (vX1_isAboard_at42 b0 (x6 : Int32) (x1 : Int32) h) = (0 : Int32) → vp_in x6 120 ∧ (¬ (ea_i h (b0 + 47) (Int32.toNatClampNeg x6)) = (0 : Int32) → ea_W mX1_sort d h0 rv hE 91 [(0, vR (some (b0 + 42))), (1, vI x1), (2, vI x2), (4, vI x4), (5, vI x5), (6, vI (x6 + 1))] [] h) ∧ ((ea_i h (b0 + 47) (Int32.toNatClampNeg x6)) = (0 : Int32) → vp_in x6 120 ∧ (¬ (ea_i h (b0 + 45) (Int32.toNatClampNeg x6)) = x4 → ea_W mX1_sort d h0 rv hE 91 [(0, vR (some (b0 + 42))), (1, vI x1), (2, vI x2), (4, vI x4), (5, vI x5), (6, vI (x6 + 1))] [] h) ∧ ((ea_i h (b0 + 45) (Int32.toNatClampNeg x6)) = x4 → ∃ (d22 : Nat) (xc26 : Int32) (h23 : ea_H), ea_Met mX3_sortsOne d22 [vR (some (b0 + 16)), vI x2, vI x5] h (some (vI xc26)) h23 ∧ d22 + 1 ≤ d ∧ ShC b0 h23 ∧ vp_in x6 120 ∧ (xc26 = 0 ∨ xc26 = 1) ∧ ∀ h28, h28 = ea_wi h23 (b0 + 47) (Int32.toNatClampNeg x6) xc26 → ea_W mX1_sort d h0 rv hE 91 [(0, vR (some (b0 + 42))), (1, vI x1), (2, vI x2), (4, vI x4), (5, vI x5), (6, vI (x6 + 1))] [] h28))))) : ea_W mX1_sort d h0 rv hE 91 [(0, vR (some (b0 + 42))), (1, vI x1), (2, vI x2), (4, vI x4), (5, vI x5), (6, vI x6)] [] h := by
  refine ea_iload (pc := 91) dX1_sort_91 5 rfl ?_
  refine ea_aload_n (pc := 93) dX1_sort_93 rfl 0 rfl ?_
  refine ea_getI (pc := 94) dX1_sort_94 ec_1 (k := 0) (Nat.le_of_ble_eq_true rfl) rfl (Or.inl ew_359) (hs_h.1 42 (by decide)).1 (hs_h.1 42 (by decide)).2.1 ?_
  refine ea_icmp_ge (pc := 97) (tgt := 155) dX1_sort_97 rfl (fun c35 => ?_) (fun c35 => ?_)
  · have H := H.1 c35
    refine ea_iinc (pc := 155) (v := 1) (lv' := [(0, vR (some (b0 + 42))), (1, vI x1), (2, vI x2), (4, vI (x4 + 1))]) dX1_sort_155 3 rfl rfl (Nat.le_of_ble_eq_true rfl) [1, 2, 3, 0] rfl ?_
    refine ea_goto (pc := 158) (tgt := 57) dX1_sort_158 rfl ?_
    exact H
  · have H := H.2 c35
    refine ea_aload_n (pc := 100) dX1_sort_100 rfl 0 rfl ?_
    refine ea_iload (pc := 101) dX1_sort_101 5 rfl ?_
    refine ea_iload_n (pc := 103) dX1_sort_103 rfl 1 rfl ?_
    obtain ⟨z34, H⟩ := H
    refine ea_callV (pc := 104) (d' := d - 1) (As := [vI x6, vI x1]) (st := []) dX1_sort_104 kX1_isAboard (sX1_isAboard_at42 (d := d - 1) (by omega) hs_h z34) (by omega) rfl (Nat.le_of_ble_eq_true rfl) ew_704 ew_705 ew_706 (ci := 1) rfl (by decide) (hs_h.1 42 (by decide)).1 (hs_h.1 42 (by decide)).2.1 ?_
    refine ea_if_eq (pc := 107) (tgt := 149) dX1_sort_107 rfl (fun c33 => ?_) (fun c33 => ?_)
    · have H := H.1 c33
      refine ea_iinc (pc := 149) (v := 1) (lv' := [(0, vR (some (b0 + 42))), (1, vI x1), (2, vI x2), (4, vI x4), (5, vI x5), (6, vI (x6 + 1))]) dX1_sort_149 5 rfl rfl (Nat.le_of_ble_eq_true rfl) [1, 2, 3, 4, 5, 0] rfl ?_
      refine ea_goto (pc := 152) (tgt := 91) dX1_sort_152 rfl ?_
      exact H
    · have H := H.2 c33
      refine ea_aload_n (pc := 110) dX1_sort_110 rfl 0 rfl ?_
      refine ea_getR (pc := 111) dX1_sort_111 ec_1 (k := 5) (Nat.le_of_ble_eq_true rfl) rfl (Or.inl ew_369) (hs_h.1 42 (by decide)).1 (hs_h.1 42 (by decide)).2.1 (hs_h.2 42 5 rfl) ?_
      refine ea_iload (pc := 114) dX1_sort_114 5 rfl ?_
      obtain ⟨z20, H⟩ := H
      refine ea_zald (pc := 116) dX1_sort_116 (hs_h.1 47 (by decide)).1 (hs_h.1 47 (by decide)).2.1 (ea_vpl (hs_h.1 47 (by decide)).2.2 z20) ?_
      refine ea_if_ne (pc := 117) (tgt := 149) dX1_sort_117 rfl (fun c32 => ?_) (fun c32 => ?_)
      · have H := H.1 c32
        refine ea_iinc (pc := 149) (v := 1) (lv' := [(0, vR (some (b0 + 42))), (1, vI x1), (2, vI x2), (4, vI x4), (5, vI x5), (6, vI (x6 + 1))]) dX1_sort_149 5 rfl rfl (Nat.le_of_ble_eq_true rfl) [1, 2, 3, 4, 5, 0] rfl ?_
        refine ea_goto (pc := 152) (tgt := 91) dX1_sort_152 rfl ?_
        exact H
      · have H := H.2 c32
        refine ea_aload_n (pc := 120) dX1_sort_120 rfl 0 rfl ?_
        refine ea_getR (pc := 121) dX1_sort_121 ec_1 (k := 3) (Nat.le_of_ble_eq_true rfl) rfl (Or.inl ew_365) (hs_h.1 42 (by decide)).1 (hs_h.1 42 (by decide)).2.1 (hs_h.2 42 3 rfl) ?_
        refine ea_iload (pc := 124) dX1_sort_124 5 rfl ?_
        obtain ⟨z21, H⟩ := H
        refine ea_iald (pc := 126) dX1_sort_126 (hs_h.1 45 (by decide)).1 (hs_h.1 45 (by decide)).2.1 (ea_vpl (hs_h.1 45 (by decide)).2.2 z21) ?_
        refine ea_iload (pc := 127) dX1_sort_127 3 rfl ?_
        refine ea_icmp_ne (pc := 129) (tgt := 149) dX1_sort_129 rfl (fun c31 => ?_) (fun c31 => ?_)
        · have H := H.1 c31
          refine ea_iinc (pc := 149) (v := 1) (lv' := [(0, vR (some (b0 + 42))), (1, vI x1), (2, vI x2), (4, vI x4), (5, vI x5), (6, vI (x6 + 1))]) dX1_sort_149 5 rfl rfl (Nat.le_of_ble_eq_true rfl) [1, 2, 3, 4, 5, 0] rfl ?_
          refine ea_goto (pc := 152) (tgt := 91) dX1_sort_152 rfl ?_
          exact H
        · have H := H.2 c31
          refine ea_aload_n (pc := 132) dX1_sort_132 rfl 0 rfl ?_
          refine ea_getR (pc := 133) dX1_sort_133 ec_1 (k := 5) (Nat.le_of_ble_eq_true rfl) rfl (Or.inl ew_369) (hs_h.1 42 (by decide)).1 (hs_h.1 42 (by decide)).2.1 (hs_h.2 42 5 rfl) ?_
          refine ea_iload (pc := 136) dX1_sort_136 5 rfl ?_
          refine ea_aload_n (pc := 138) dX1_sort_138 rfl 0 rfl ?_
          refine ea_getR (pc := 139) dX1_sort_139 ec_1 (k := 13) (Nat.le_of_ble_eq_true rfl) rfl (Or.inl ew_379) (hs_h.1 42 (by decide)).1 (hs_h.1 42 (by decide)).2.1 (hs_h.2 42 13 rfl) ?_
          refine ea_iload_n (pc := 142) dX1_sort_142 rfl 2 rfl ?_
          refine ea_iload (pc := 143) dX1_sort_143 4 rfl ?_
          obtain ⟨d22, xc26, h23, m24, q25, hs_h23, H⟩ := H
          refine ea_callV (pc := 145) (As := [vI x2, vI x5]) (st := [vI x6, vR (some (b0 + 47))]) dX1_sort_145 kX3_sortsOne m24 q25 rfl (Nat.le_of_ble_eq_true rfl) ew_708 ew_709 ew_710 (ci := 3) rfl (by decide) (hs_h.1 16 (by decide)).1 (hs_h.1 16 (by decide)).2.1 ?_
          obtain ⟨z27, H⟩ := H
          obtain ⟨z30, H⟩ := H
          refine ea_zast (pc := 148) dX1_sort_148 (y := xc26) (ea_bn z30) (hs_h23.1 47 (by decide)).1 (hs_h23.1 47 (by decide)).2.1 (ea_vpl (hs_h23.1 47 (by decide)).2.2 z27) ?_
          obtain ⟨h28, E29⟩ : ∃ z, z = ea_wi h23 (b0 + 47) (Int32.toNatClampNeg x6) xc26 := ⟨_, rfl⟩
          have H := H h28 E29
          refine ea_nm E29 ?_
          have hs_h28 : ShC b0 h28 := by rw [E29]; exact ShC_wi hs_h23
          refine ea_iinc (pc := 149) (v := 1) (lv' := [(0, vR (some (b0 + 42))), (1, vI x1), (2, vI x2), (4, vI x4), (5, vI x5), (6, vI (x6 + 1))]) dX1_sort_149 5 rfl rfl (Nat.le_of_ble_eq_true rfl) [1, 2, 3, 4, 5, 0] rfl ?_
          refine ea_goto (pc := 152) (tgt := 91) dX1_sort_152 rfl ?_
          exact H
theorem pX3_sitsIn_0 {d b0 : Nat} {h0 hE h : ea_H} {rv : Option ea_V} {x1 : Int32} (hd : 1 ≤ d) (hs_h : ShC b0 h) (H : ea_W mX3_sitsIn d h0 rv hE 2 [(0, vR (some (b0 + 16))), (1, vI x1), (2, vI 0)] [] h) : ea_W mX3_sitsIn d h0 rv hE 0 [(0, vR (some (b0 + 16))), (1, vI x1)] [] h := by
  refine ea_iconst (pc := 0) dX3_sitsIn_0 (v := 0) rfl ?_
  refine ea_istore_n (pc := 1) (lv' := [(0, vR (some (b0 + 16))), (1, vI x1), (2, vI 0)]) dX3_sitsIn_1 rfl (Nat.le_of_ble_eq_true rfl) [1, 2, 0] rfl ?_
  exact H
theorem pX3_sitsIn_2 {d b0 : Nat} {h0 hE h : ea_H} {rv : Option ea_V} {x1 : Int32} {x2 : Int32} (hd : 1 ≤ d) (hs_h : ShC b0 h) (H : ((ea_i h (b0 + 16) 0) ≤ x2 → rv = some (vI 0) ∧ hE = h) ∧ (¬ (ea_i h (b0 + 16) 0) ≤ x2 → vp_in x2 8 ∧ (¬ (ea_i h (b0 + 17) (Int32.toNatClampNeg x2)) = x1 → ea_W mX3_sitsIn d h0 rv hE 2 [(0, vR (some (b0 + 16))), (1, vI x1), (2, vI (x2 + 1))] [] h) ∧ ((ea_i h (b0 + 17) (Int32.toNatClampNeg x2)) = x1 → rv = some (vI 1) ∧ hE = h))) : ea_W mX3_sitsIn d h0 rv hE 2 [(0, vR (some (b0 + 16))), (1, vI x1), (2, vI x2)] [] h := by
  refine ea_iload_n (pc := 2) dX3_sitsIn_2 rfl 2 rfl ?_
  refine ea_aload_n (pc := 3) dX3_sitsIn_3 rfl 0 rfl ?_
  refine ea_getI (pc := 4) dX3_sitsIn_4 ec_3 (k := 0) (Nat.le_of_ble_eq_true rfl) rfl (Or.inl ew_261) (hs_h.1 16 (by decide)).1 (hs_h.1 16 (by decide)).2.1 ?_
  refine ea_icmp_ge (pc := 7) (tgt := 28) dX3_sitsIn_7 rfl (fun c3 => ?_) (fun c3 => ?_)
  · have H := H.1 c3
    refine ea_iconst (pc := 28) dX3_sitsIn_28 (v := 0) rfl ?_
    obtain ⟨rfl, rfl⟩ := H
    exact ea_ireturn (pc := 29) dX3_sitsIn_29 rfl (ea_bn (Or.inl rfl))
  · have H := H.2 c3
    refine ea_aload_n (pc := 10) dX3_sitsIn_10 rfl 0 rfl ?_
    refine ea_getR (pc := 11) dX3_sitsIn_11 ec_3 (k := 1) (Nat.le_of_ble_eq_true rfl) rfl (Or.inl ew_263) (hs_h.1 16 (by decide)).1 (hs_h.1 16 (by decide)).2.1 (hs_h.2 16 1 rfl) ?_
    refine ea_iload_n (pc := 14) dX3_sitsIn_14 rfl 2 rfl ?_
    obtain ⟨z1, H⟩ := H
    refine ea_iald (pc := 15) dX3_sitsIn_15 (hs_h.1 17 (by decide)).1 (hs_h.1 17 (by decide)).2.1 (ea_vpl (hs_h.1 17 (by decide)).2.2 z1) ?_
    refine ea_iload_n (pc := 16) dX3_sitsIn_16 rfl 1 rfl ?_
    refine ea_icmp_ne (pc := 17) (tgt := 22) dX3_sitsIn_17 rfl (fun c2 => ?_) (fun c2 => ?_)
    · have H := H.1 c2
      refine ea_iinc (pc := 22) (v := 1) (lv' := [(0, vR (some (b0 + 16))), (1, vI x1), (2, vI (x2 + 1))]) dX3_sitsIn_22 2 rfl rfl (Nat.le_of_ble_eq_true rfl) [1, 2, 0] rfl ?_
      refine ea_goto (pc := 25) (tgt := 2) dX3_sitsIn_25 rfl ?_
      exact H
    · have H := H.2 c2
      refine ea_iconst (pc := 20) dX3_sitsIn_20 (v := 1) rfl ?_
      obtain ⟨rfl, rfl⟩ := H
      exact ea_ireturn (pc := 21) dX3_sitsIn_21 rfl (ea_bn (Or.inr rfl))
theorem pX3_begin_0 {d b0 : Nat} {h0 hE h : ea_H} {rv : Option ea_V} {x1 : Int32} (hd : 1 ≤ d) (hs_h : ShC b0 h) (H : ea_W mX3_begin d h0 rv hE 2 [(0, vR (some (b0 + 16))), (1, vI x1), (2, vI 0)] [] h) : ea_W mX3_begin d h0 rv hE 0 [(0, vR (some (b0 + 16))), (1, vI x1)] [] h := by
  refine ea_iconst (pc := 0) dX3_begin_0 (v := 0) rfl ?_
  refine ea_istore_n (pc := 1) (lv' := [(0, vR (some (b0 + 16))), (1, vI x1), (2, vI 0)]) dX3_begin_1 rfl (Nat.le_of_ble_eq_true rfl) [1, 2, 0] rfl ?_
  exact H
theorem pX3_begin_2 {d b0 : Nat} {h0 hE h : ea_H} {rv : Option ea_V} {x1 : Int32} {x2 : Int32} (hd : 1 ≤ d) (hs_h : ShC b0 h) (H : ((ea_i h (b0 + 16) 0) ≤ x2 → rv = none ∧ hE = h) ∧ (¬ (ea_i h (b0 + 16) 0) ≤ x2 → vp_in x2 8 ∧ vp_in x2 8 ∧ ∀ h3, h3 = ea_wi h (b0 + 20) (Int32.toNatClampNeg x2) ((ea_i h (b0 + 18) (Int32.toNatClampNeg x2)) * x1) → ea_W mX3_begin d h0 rv hE 2 [(0, vR (some (b0 + 16))), (1, vI x1), (2, vI (x2 + 1))] [] h3)) : ea_W mX3_begin d h0 rv hE 2 [(0, vR (some (b0 + 16))), (1, vI x1), (2, vI x2)] [] h := by
  refine ea_iload_n (pc := 2) dX3_begin_2 rfl 2 rfl ?_
  refine ea_aload_n (pc := 3) dX3_begin_3 rfl 0 rfl ?_
  refine ea_getI (pc := 4) dX3_begin_4 ec_3 (k := 0) (Nat.le_of_ble_eq_true rfl) rfl (Or.inl ew_261) (hs_h.1 16 (by decide)).1 (hs_h.1 16 (by decide)).2.1 ?_
  refine ea_icmp_ge (pc := 7) (tgt := 30) dX3_begin_7 rfl (fun c5 => ?_) (fun c5 => ?_)
  · have H := H.1 c5
    obtain ⟨rfl, rfl⟩ := H
    exact ea_return (pc := 30) dX3_begin_30 rfl
  · have H := H.2 c5
    refine ea_aload_n (pc := 10) dX3_begin_10 rfl 0 rfl ?_
    refine ea_getR (pc := 11) dX3_begin_11 ec_3 (k := 4) (Nat.le_of_ble_eq_true rfl) rfl (Or.inl ew_267) (hs_h.1 16 (by decide)).1 (hs_h.1 16 (by decide)).2.1 (hs_h.2 16 4 rfl) ?_
    refine ea_iload_n (pc := 14) dX3_begin_14 rfl 2 rfl ?_
    refine ea_aload_n (pc := 15) dX3_begin_15 rfl 0 rfl ?_
    refine ea_getR (pc := 16) dX3_begin_16 ec_3 (k := 2) (Nat.le_of_ble_eq_true rfl) rfl (Or.inl ew_265) (hs_h.1 16 (by decide)).1 (hs_h.1 16 (by decide)).2.1 (hs_h.2 16 2 rfl) ?_
    refine ea_iload_n (pc := 19) dX3_begin_19 rfl 2 rfl ?_
    obtain ⟨z1, H⟩ := H
    refine ea_iald (pc := 20) dX3_begin_20 (hs_h.1 18 (by decide)).1 (hs_h.1 18 (by decide)).2.1 (ea_vpl (hs_h.1 18 (by decide)).2.2 z1) ?_
    refine ea_iload_n (pc := 21) dX3_begin_21 rfl 1 rfl ?_
    refine ea_imul (pc := 22) dX3_begin_22 ?_
    obtain ⟨z2, H⟩ := H
    refine ea_iast (pc := 23) dX3_begin_23 (hs_h.1 20 (by decide)).1 (hs_h.1 20 (by decide)).2.1 (ea_vpl (hs_h.1 20 (by decide)).2.2 z2) ?_
    obtain ⟨h3, E4⟩ : ∃ z, z = ea_wi h (b0 + 20) (Int32.toNatClampNeg x2) ((ea_i h (b0 + 18) (Int32.toNatClampNeg x2)) * x1) := ⟨_, rfl⟩
    have H := H h3 E4
    refine ea_nm E4 ?_
    have hs_h3 : ShC b0 h3 := by rw [E4]; exact ShC_wi hs_h
    refine ea_iinc (pc := 24) (v := 1) (lv' := [(0, vR (some (b0 + 16))), (1, vI x1), (2, vI (x2 + 1))]) dX3_begin_24 2 rfl rfl (Nat.le_of_ble_eq_true rfl) [1, 2, 0] rfl ?_
    refine ea_goto (pc := 27) (tgt := 2) dX3_begin_27 rfl ?_
    exact H
theorem pX3_sortsOne_0 {d b0 : Nat} {h0 hE h : ea_H} {rv : Option ea_V} {x1 : Int32} {x2 : Int32} (hd : 1 ≤ d) (hs_h : ShC b0 h) (H : ea_W mX3_sortsOne d h0 rv hE 2 [(0, vR (some (b0 + 16))), (1, vI x1), (2, vI x2), (3, vI 0)] [] h) : ea_W mX3_sortsOne d h0 rv hE 0 [(0, vR (some (b0 + 16))), (1, vI x1), (2, vI x2)] [] h := by
  refine ea_iconst (pc := 0) dX3_sortsOne_0 (v := 0) rfl ?_
  refine ea_istore_n (pc := 1) (lv' := [(0, vR (some (b0 + 16))), (1, vI x1), (2, vI x2), (3, vI 0)]) dX3_sortsOne_1 rfl (Nat.le_of_ble_eq_true rfl) [1, 2, 3, 0] rfl ?_
  exact H
theorem pX3_sortsOne_2 {d b0 : Nat} {h0 hE h : ea_H} {rv : Option ea_V} {x1 : Int32} {x2 : Int32} {x3 : Int32} (hd : 1 ≤ d) (hs_h : ShC b0 h) (H : ((ea_i h (b0 + 16) 0) ≤ x3 → rv = some (vI 0) ∧ hE = h) ∧ (¬ (ea_i h (b0 + 16) 0) ≤ x3 → vp_in x3 8 ∧ (¬ (ea_i h (b0 + 17) (Int32.toNatClampNeg x3)) = x1 → ea_W mX3_sortsOne d h0 rv hE 2 [(0, vR (some (b0 + 16))), (1, vI x1), (2, vI x2), (3, vI (x3 + 1))] [] h) ∧ ((ea_i h (b0 + 17) (Int32.toNatClampNeg x3)) = x1 → vp_in x3 8 ∧ ((ea_i h (b0 + 20) (Int32.toNatClampNeg x3)) ≤ (0 : Int32) → ea_W mX3_sortsOne d h0 rv hE 2 [(0, vR (some (b0 + 16))), (1, vI x1), (2, vI x2), (3, vI (x3 + 1))] [] h) ∧ (¬ (ea_i h (b0 + 20) (Int32.toNatClampNeg x3)) ≤ (0 : Int32) → vp_in x3 8 ∧ (¬ (((ea_i h (b0 + 19) (Int32.toNatClampNeg x3)) >>> (x2 &&& 31)) &&& (1 : Int32)) = (1 : Int32) → ea_W mX3_sortsOne d h0 rv hE 2 [(0, vR (some (b0 + 16))), (1, vI x1), (2, vI x2), (3, vI (x3 + 1))] [] h) ∧ ((((ea_i h (b0 + 19) (Int32.toNatClampNeg x3)) >>> (x2 &&& 31)) &&& (1 : Int32)) = (1 : Int32) → vp_in x3 8 ∧ vp_in x3 8 ∧ ∀ h6, h6 = ea_wi h (b0 + 20) (Int32.toNatClampNeg x3) ((ea_i h (b0 + 20) (Int32.toNatClampNeg x3)) - (1 : Int32)) → rv = some (vI 1) ∧ hE = h6))))) : ea_W mX3_sortsOne d h0 rv hE 2 [(0, vR (some (b0 + 16))), (1, vI x1), (2, vI x2), (3, vI x3)] [] h := by
  refine ea_iload_n (pc := 2) dX3_sortsOne_2 rfl 3 rfl ?_
  refine ea_aload_n (pc := 3) dX3_sortsOne_3 rfl 0 rfl ?_
  refine ea_getI (pc := 4) dX3_sortsOne_4 ec_3 (k := 0) (Nat.le_of_ble_eq_true rfl) rfl (Or.inl ew_261) (hs_h.1 16 (by decide)).1 (hs_h.1 16 (by decide)).2.1 ?_
  refine ea_icmp_ge (pc := 7) (tgt := 61) dX3_sortsOne_7 rfl (fun c11 => ?_) (fun c11 => ?_)
  · have H := H.1 c11
    refine ea_iconst (pc := 61) dX3_sortsOne_61 (v := 0) rfl ?_
    obtain ⟨rfl, rfl⟩ := H
    exact ea_ireturn (pc := 62) dX3_sortsOne_62 rfl (ea_bn (Or.inl rfl))
  · have H := H.2 c11
    refine ea_aload_n (pc := 10) dX3_sortsOne_10 rfl 0 rfl ?_
    refine ea_getR (pc := 11) dX3_sortsOne_11 ec_3 (k := 1) (Nat.le_of_ble_eq_true rfl) rfl (Or.inl ew_263) (hs_h.1 16 (by decide)).1 (hs_h.1 16 (by decide)).2.1 (hs_h.2 16 1 rfl) ?_
    refine ea_iload_n (pc := 14) dX3_sortsOne_14 rfl 3 rfl ?_
    obtain ⟨z1, H⟩ := H
    refine ea_iald (pc := 15) dX3_sortsOne_15 (hs_h.1 17 (by decide)).1 (hs_h.1 17 (by decide)).2.1 (ea_vpl (hs_h.1 17 (by decide)).2.2 z1) ?_
    refine ea_iload_n (pc := 16) dX3_sortsOne_16 rfl 1 rfl ?_
    refine ea_icmp_ne (pc := 17) (tgt := 55) dX3_sortsOne_17 rfl (fun c10 => ?_) (fun c10 => ?_)
    · have H := H.1 c10
      refine ea_iinc (pc := 55) (v := 1) (lv' := [(0, vR (some (b0 + 16))), (1, vI x1), (2, vI x2), (3, vI (x3 + 1))]) dX3_sortsOne_55 3 rfl rfl (Nat.le_of_ble_eq_true rfl) [1, 2, 3, 0] rfl ?_
      refine ea_goto (pc := 58) (tgt := 2) dX3_sortsOne_58 rfl ?_
      exact H
    · have H := H.2 c10
      refine ea_aload_n (pc := 20) dX3_sortsOne_20 rfl 0 rfl ?_
      refine ea_getR (pc := 21) dX3_sortsOne_21 ec_3 (k := 4) (Nat.le_of_ble_eq_true rfl) rfl (Or.inl ew_267) (hs_h.1 16 (by decide)).1 (hs_h.1 16 (by decide)).2.1 (hs_h.2 16 4 rfl) ?_
      refine ea_iload_n (pc := 24) dX3_sortsOne_24 rfl 3 rfl ?_
      obtain ⟨z2, H⟩ := H
      refine ea_iald (pc := 25) dX3_sortsOne_25 (hs_h.1 20 (by decide)).1 (hs_h.1 20 (by decide)).2.1 (ea_vpl (hs_h.1 20 (by decide)).2.2 z2) ?_
      refine ea_if_le (pc := 26) (tgt := 55) dX3_sortsOne_26 rfl (fun c9 => ?_) (fun c9 => ?_)
      · have H := H.1 c9
        refine ea_iinc (pc := 55) (v := 1) (lv' := [(0, vR (some (b0 + 16))), (1, vI x1), (2, vI x2), (3, vI (x3 + 1))]) dX3_sortsOne_55 3 rfl rfl (Nat.le_of_ble_eq_true rfl) [1, 2, 3, 0] rfl ?_
        refine ea_goto (pc := 58) (tgt := 2) dX3_sortsOne_58 rfl ?_
        exact H
      · have H := H.2 c9
        refine ea_aload_n (pc := 29) dX3_sortsOne_29 rfl 0 rfl ?_
        refine ea_getR (pc := 30) dX3_sortsOne_30 ec_3 (k := 3) (Nat.le_of_ble_eq_true rfl) rfl (Or.inl ew_266) (hs_h.1 16 (by decide)).1 (hs_h.1 16 (by decide)).2.1 (hs_h.2 16 3 rfl) ?_
        refine ea_iload_n (pc := 33) dX3_sortsOne_33 rfl 3 rfl ?_
        obtain ⟨z3, H⟩ := H
        refine ea_iald (pc := 34) dX3_sortsOne_34 (hs_h.1 19 (by decide)).1 (hs_h.1 19 (by decide)).2.1 (ea_vpl (hs_h.1 19 (by decide)).2.2 z3) ?_
        refine ea_iload_n (pc := 35) dX3_sortsOne_35 rfl 2 rfl ?_
        refine ea_ishr (pc := 36) dX3_sortsOne_36 ?_
        refine ea_iconst (pc := 37) dX3_sortsOne_37 (v := 1) rfl ?_
        refine ea_iand (pc := 38) dX3_sortsOne_38 ?_
        refine ea_iconst (pc := 39) dX3_sortsOne_39 (v := 1) rfl ?_
        refine ea_icmp_ne (pc := 40) (tgt := 55) dX3_sortsOne_40 rfl (fun c8 => ?_) (fun c8 => ?_)
        · have H := H.1 c8
          refine ea_iinc (pc := 55) (v := 1) (lv' := [(0, vR (some (b0 + 16))), (1, vI x1), (2, vI x2), (3, vI (x3 + 1))]) dX3_sortsOne_55 3 rfl rfl (Nat.le_of_ble_eq_true rfl) [1, 2, 3, 0] rfl ?_
          refine ea_goto (pc := 58) (tgt := 2) dX3_sortsOne_58 rfl ?_
          exact H
        · have H := H.2 c8
          refine ea_aload_n (pc := 43) dX3_sortsOne_43 rfl 0 rfl ?_
          refine ea_getR (pc := 44) dX3_sortsOne_44 ec_3 (k := 4) (Nat.le_of_ble_eq_true rfl) rfl (Or.inl ew_267) (hs_h.1 16 (by decide)).1 (hs_h.1 16 (by decide)).2.1 (hs_h.2 16 4 rfl) ?_
          refine ea_iload_n (pc := 47) dX3_sortsOne_47 rfl 3 rfl ?_
          refine ea_dup2 (pc := 48) dX3_sortsOne_48 rfl rfl ?_
          obtain ⟨z4, H⟩ := H
          refine ea_iald (pc := 49) dX3_sortsOne_49 (hs_h.1 20 (by decide)).1 (hs_h.1 20 (by decide)).2.1 (ea_vpl (hs_h.1 20 (by decide)).2.2 z4) ?_
          refine ea_iconst (pc := 50) dX3_sortsOne_50 (v := 1) rfl ?_
          refine ea_isub (pc := 51) dX3_sortsOne_51 ?_
          obtain ⟨z5, H⟩ := H
          refine ea_iast (pc := 52) dX3_sortsOne_52 (hs_h.1 20 (by decide)).1 (hs_h.1 20 (by decide)).2.1 (ea_vpl (hs_h.1 20 (by decide)).2.2 z5) ?_
          obtain ⟨h6, E7⟩ : ∃ z, z = ea_wi h (b0 + 20) (Int32.toNatClampNeg x3) ((ea_i h (b0 + 20) (Int32.toNatClampNeg x3)) - (1 : Int32)) := ⟨_, rfl⟩
          have H := H h6 E7
          refine ea_nm E7 ?_
          have hs_h6 : ShC b0 h6 := by rw [E7]; exact ShC_wi hs_h
          refine ea_iconst (pc := 53) dX3_sortsOne_53 (v := 1) rfl ?_
          obtain ⟨rfl, rfl⟩ := H
          exact ea_ireturn (pc := 54) dX3_sortsOne_54 rfl (ea_bn (Or.inr rfl))
theorem pX5_take_0 {d b0 : Nat} {h0 hE h : ea_H} {rv : Option ea_V} {x1 : Int32} (hd : 1 ≤ d) (hs_h : ShC b0 h) (H : ea_W mX5_take d h0 rv hE 3 [(0, vR (some (b0 + 22))), (1, vI x1), (2, vI 24)] [] h) : ea_W mX5_take d h0 rv hE 0 [(0, vR (some (b0 + 22))), (1, vI x1)] [] h := by
  refine ea_bipush (pc := 0) dX5_take_0 (v := 24) rfl ?_
  refine ea_istore_n (pc := 2) (lv' := [(0, vR (some (b0 + 22))), (1, vI x1), (2, vI 24)]) dX5_take_2 rfl (Nat.le_of_ble_eq_true rfl) [1, 2, 0] rfl ?_
  exact H
theorem pX5_take_3 {d b0 : Nat} {h0 hE h : ea_H} {rv : Option ea_V} {x1 : Int32} {x2 : Int32} (hd : 1 ≤ d) (hs_h : ShC b0 h) (H : (x2 < (0 : Int32) → rv = none ∧ hE = h) ∧ (¬ x2 < (0 : Int32) → ((600 : Int32) ≤ (ea_i h (b0 + 22) 0) → ea_W mX5_take d h0 rv hE 3 [(0, vR (some (b0 + 22))), (1, vI x1), (2, vI (x2 + (-8)))] [] h) ∧ (¬ (600 : Int32) ≤ (ea_i h (b0 + 22) 0) → vp_in (ea_i h (b0 + 22) 0) 600 ∧ ∀ h2, h2 = ea_wi h (b0 + 23) (Int32.toNatClampNeg (ea_i h (b0 + 22) 0)) ((x1 >>> (x2 &&& 31)) &&& (255 : Int32)) → ∀ h4, h4 = ea_wi h2 (b0 + 22) 0 ((ea_i h2 (b0 + 22) 0) + (1 : Int32)) → ea_W mX5_take d h0 rv hE 3 [(0, vR (some (b0 + 22))), (1, vI x1), (2, vI (x2 + (-8)))] [] h4))) : ea_W mX5_take d h0 rv hE 3 [(0, vR (some (b0 + 22))), (1, vI x1), (2, vI x2)] [] h := by
  refine ea_iload_n (pc := 3) dX5_take_3 rfl 2 rfl ?_
  refine ea_if_lt (pc := 4) (tgt := 49) dX5_take_4 rfl (fun c7 => ?_) (fun c7 => ?_)
  · have H := H.1 c7
    obtain ⟨rfl, rfl⟩ := H
    exact ea_return (pc := 49) dX5_take_49 rfl
  · have H := H.2 c7
    refine ea_aload_n (pc := 7) dX5_take_7 rfl 0 rfl ?_
    refine ea_getI (pc := 8) dX5_take_8 ec_5 (k := 0) (Nat.le_of_ble_eq_true rfl) rfl (Or.inl ew_291) (hs_h.1 22 (by decide)).1 (hs_h.1 22 (by decide)).2.1 ?_
    refine ea_sipush (pc := 11) dX5_take_11 (v := 600) rfl ?_
    refine ea_icmp_ge (pc := 14) (tgt := 43) dX5_take_14 rfl (fun c6 => ?_) (fun c6 => ?_)
    · have H := H.1 c6
      refine ea_iinc (pc := 43) (v := (-8)) (lv' := [(0, vR (some (b0 + 22))), (1, vI x1), (2, vI (x2 + (-8)))]) dX5_take_43 2 rfl rfl (Nat.le_of_ble_eq_true rfl) [1, 2, 0] rfl ?_
      refine ea_goto (pc := 46) (tgt := 3) dX5_take_46 rfl ?_
      exact H
    · have H := H.2 c6
      refine ea_aload_n (pc := 17) dX5_take_17 rfl 0 rfl ?_
      refine ea_getR (pc := 18) dX5_take_18 ec_5 (k := 3) (Nat.le_of_ble_eq_true rfl) rfl (Or.inl ew_297) (hs_h.1 22 (by decide)).1 (hs_h.1 22 (by decide)).2.1 (hs_h.2 22 3 rfl) ?_
      refine ea_aload_n (pc := 21) dX5_take_21 rfl 0 rfl ?_
      refine ea_getI (pc := 22) dX5_take_22 ec_5 (k := 0) (Nat.le_of_ble_eq_true rfl) rfl (Or.inl ew_291) (hs_h.1 22 (by decide)).1 (hs_h.1 22 (by decide)).2.1 ?_
      refine ea_iload_n (pc := 25) dX5_take_25 rfl 1 rfl ?_
      refine ea_iload_n (pc := 26) dX5_take_26 rfl 2 rfl ?_
      refine ea_ishr (pc := 27) dX5_take_27 ?_
      refine ea_sipush (pc := 28) dX5_take_28 (v := 255) rfl ?_
      refine ea_iand (pc := 31) dX5_take_31 ?_
      obtain ⟨z1, H⟩ := H
      refine ea_iast (pc := 32) dX5_take_32 (hs_h.1 23 (by decide)).1 (hs_h.1 23 (by decide)).2.1 (ea_vpl (hs_h.1 23 (by decide)).2.2 z1) ?_
      obtain ⟨h2, E3⟩ : ∃ z, z = ea_wi h (b0 + 23) (Int32.toNatClampNeg (ea_i h (b0 + 22) 0)) ((x1 >>> (x2 &&& 31)) &&& (255 : Int32)) := ⟨_, rfl⟩
      have H := H h2 E3
      refine ea_nm E3 ?_
      have hs_h2 : ShC b0 h2 := by rw [E3]; exact ShC_wi hs_h
      refine ea_aload_n (pc := 33) dX5_take_33 rfl 0 rfl ?_
      refine ea_dup (pc := 34) dX5_take_34 rfl ?_
      refine ea_getI (pc := 35) dX5_take_35 ec_5 (k := 0) (Nat.le_of_ble_eq_true rfl) rfl (Or.inl ew_291) (hs_h2.1 22 (by decide)).1 (hs_h2.1 22 (by decide)).2.1 ?_
      refine ea_iconst (pc := 38) dX5_take_38 (v := 1) rfl ?_
      refine ea_iadd (pc := 39) dX5_take_39 ?_
      refine ea_putI (pc := 40) dX5_take_40 ec_5 (k := 0) (Nat.le_of_ble_eq_true rfl) rfl (Or.inl ⟨rfl, Or.inl ew_291⟩) rfl rfl (hs_h2.1 22 (by decide)).1 (hs_h2.1 22 (by decide)).2.1 ?_
      obtain ⟨h4, E5⟩ : ∃ z, z = ea_wi h2 (b0 + 22) 0 ((ea_i h2 (b0 + 22) 0) + (1 : Int32)) := ⟨_, rfl⟩
      have H := H h4 E5
      refine ea_nm E5 ?_
      have hs_h4 : ShC b0 h4 := by rw [E5]; exact ShC_wi hs_h2
      refine ea_iinc (pc := 43) (v := (-8)) (lv' := [(0, vR (some (b0 + 22))), (1, vI x1), (2, vI (x2 + (-8)))]) dX5_take_43 2 rfl rfl (Nat.le_of_ble_eq_true rfl) [1, 2, 0] rfl ?_
      refine ea_goto (pc := 46) (tgt := 3) dX5_take_46 rfl ?_
      exact H
theorem pX5_read_0 {d b0 : Nat} {h0 hE h : ea_H} {rv : Option ea_V} {x1 : Int32} (hd : 5 ≤ d) (hs_h : ShC b0 h) (H : ∃ (d1 : Nat) (h2 : ea_H), ea_Met mX5_scan d1 [vR (some (b0 + 22))] h none h2 ∧ d1 + 1 ≤ d ∧ ShC b0 h2 ∧ ∀ h6, h6 = (wX5_drop b0 h2) → ∀ h22, h22 = ea_wi h6 (b0 + 22) 11 0 → ∀ h24, h24 = ea_wi h22 (b0 + 22) 8 0 → ∀ h27, h27 = ea_wi h24 (b0 + 22) 9 (ea_i h24 (b0 + 24) (Int32.toNatClampNeg 0)) → ∀ h29, h29 = ea_new h27 0 0 12 → ∃ (d31 : Nat) (h32 : ea_H), ea_Met mX0_init d31 [vR (some (ea_n h27)), vI x1] h29 none h32 ∧ d31 + 1 ≤ d ∧ ShC b0 h32 ∧ ea_W mX5_read d h0 rv hE 39 [(0, vR (some (b0 + 22))), (2, vR (some (ea_n h27))), (3, vI 0)] [] h32) : ea_W mX5_read d h0 rv hE 0 [(0, vR (some (b0 + 22))), (1, vI x1)] [] h := by
  refine ea_aload_n (pc := 0) dX5_read_0 rfl 0 rfl ?_
  obtain ⟨d1, h2, m3, q4, hs_h2, H⟩ := H
  refine ea_callV (pc := 1) (As := []) (st := []) dX5_read_1 kX5_scan m3 q4 rfl (Nat.le_of_ble_eq_true rfl) ew_757 ew_759 ew_16 (ci := 5) rfl (by decide) (hs_h.1 22 (by decide)).1 (hs_h.1 22 (by decide)).2.1 ?_
  refine ea_aload_n (pc := 4) dX5_read_4 rfl 0 rfl ?_
  refine ea_callV (pc := 5) (d' := d - 1) (As := []) (st := []) dX5_read_5 kX5_drop (sX5_drop (d := d - 1) (by omega) hs_h2) (by omega) rfl (Nat.le_of_ble_eq_true rfl) ew_785 ew_750 ew_751 (ci := 5) rfl (by decide) (hs_h2.1 22 (by decide)).1 (hs_h2.1 22 (by decide)).2.1 ?_
  obtain ⟨h6, E36⟩ : ∃ z, z = (wX5_drop b0 h2) := ⟨_, rfl⟩
  have H := H h6 E36
  refine ea_nm E36 ?_
  have hs_h6 : ShC b0 h6 := by rw [E36]; exact shX5_drop hs_h2
  refine ea_aload_n (pc := 8) dX5_read_8 rfl 0 rfl ?_
  refine ea_iconst (pc := 9) dX5_read_9 (v := 0) rfl ?_
  refine ea_putI (pc := 10) dX5_read_10 ec_5 (k := 11) (Nat.le_of_ble_eq_true rfl) rfl (Or.inl ⟨rfl, Or.inl ew_305⟩) rfl rfl (hs_h6.1 22 (by decide)).1 (hs_h6.1 22 (by decide)).2.1 ?_
  obtain ⟨h22, E23⟩ : ∃ z, z = ea_wi h6 (b0 + 22) 11 0 := ⟨_, rfl⟩
  have H := H h22 E23
  refine ea_nm E23 ?_
  have hs_h22 : ShC b0 h22 := by rw [E23]; exact ShC_wi hs_h6
  refine ea_aload_n (pc := 13) dX5_read_13 rfl 0 rfl ?_
  refine ea_iconst (pc := 14) dX5_read_14 (v := 0) rfl ?_
  refine ea_putI (pc := 15) dX5_read_15 ec_5 (k := 8) (Nat.le_of_ble_eq_true rfl) rfl (Or.inl ⟨rfl, Or.inl ew_302⟩) rfl rfl (hs_h22.1 22 (by decide)).1 (hs_h22.1 22 (by decide)).2.1 ?_
  obtain ⟨h24, E25⟩ : ∃ z, z = ea_wi h22 (b0 + 22) 8 0 := ⟨_, rfl⟩
  have H := H h24 E25
  refine ea_nm E25 ?_
  have hs_h24 : ShC b0 h24 := by rw [E25]; exact ShC_wi hs_h22
  refine ea_aload_n (pc := 18) dX5_read_18 rfl 0 rfl ?_
  refine ea_aload_n (pc := 19) dX5_read_19 rfl 0 rfl ?_
  refine ea_getR (pc := 20) dX5_read_20 ec_5 (k := 4) (Nat.le_of_ble_eq_true rfl) rfl (Or.inl ew_298) (hs_h24.1 22 (by decide)).1 (hs_h24.1 22 (by decide)).2.1 (hs_h24.2 22 4 rfl) ?_
  refine ea_iconst (pc := 23) dX5_read_23 (v := 0) rfl ?_
  refine ea_iald (pc := 24) dX5_read_24 (hs_h24.1 24 (by decide)).1 (hs_h24.1 24 (by decide)).2.1 (ea_vpl (n := 601) (hs_h24.1 24 (by decide)).2.2 (by unfold vp_in; decide)) ?_
  refine ea_putI (pc := 25) dX5_read_25 ec_5 (k := 9) (Nat.le_of_ble_eq_true rfl) rfl (Or.inl ⟨rfl, Or.inl ew_303⟩) rfl rfl (hs_h24.1 22 (by decide)).1 (hs_h24.1 22 (by decide)).2.1 ?_
  obtain ⟨h27, E28⟩ : ∃ z, z = ea_wi h24 (b0 + 22) 9 (ea_i h24 (b0 + 24) (Int32.toNatClampNeg 0)) := ⟨_, rfl⟩
  have H := H h27 E28
  refine ea_nm E28 ?_
  have hs_h27 : ShC b0 h27 := by rw [E28]; exact ShC_wi hs_h24
  refine ea_newO (pc := 28) dX5_read_28 ec_0 ew_786 ew_787 ew_121 ?_
  obtain ⟨h29, E30⟩ : ∃ z, z = ea_new h27 0 0 12 := ⟨_, rfl⟩
  have H := H h29 E30
  refine ea_nm E30 ?_
  have hs_h29 : ShC b0 h29 := by rw [E30]; exact ShC_new hs_h27
  refine ea_dup (pc := 31) dX5_read_31 rfl ?_
  refine ea_iload_n (pc := 32) dX5_read_32 rfl 1 rfl ?_
  obtain ⟨d31, h32, m33, q34, hs_h32, H⟩ := H
  refine ea_callI (pc := 33) (As := [vI x1]) (st := [vR (some (ea_n h27))]) dX5_read_33 kX0_init m33 q34 rfl (Nat.le_of_ble_eq_true rfl) ew_788 ew_789 rfl rfl ?_
  refine ea_astore_n (pc := 36) (lv' := [(0, vR (some (b0 + 22))), (2, vR (some (ea_n h27)))]) dX5_read_36 rfl (Nat.le_of_ble_eq_true rfl) [1, 0] rfl ?_
  refine ea_iconst (pc := 37) dX5_read_37 (v := 0) rfl ?_
  refine ea_istore_n (pc := 38) (lv' := [(0, vR (some (b0 + 22))), (2, vR (some (ea_n h27))), (3, vI 0)]) dX5_read_38 rfl (Nat.le_of_ble_eq_true rfl) [1, 2, 0] rfl ?_
  exact H
theorem pX5_read_39 {d b0 : Nat} {h0 hE h : ea_H} {rv : Option ea_V} {r2 : Option Nat} {x3 : Int32} (hd : 5 ≤ d) (hs_h : ShC b0 h) (H : ((600 : Int32) < x3 → ea_W mX5_read d h0 rv hE 156 [(0, vR (some (b0 + 22))), (2, vR r2)] [] h) ∧ (¬ (600 : Int32) < x3 → ((ea_i h (b0 + 22) 9) = (19 : Int32) → ea_W mX5_read d h0 rv hE 156 [(0, vR (some (b0 + 22))), (2, vR r2)] [] h) ∧ (¬ (ea_i h (b0 + 22) 9) = (19 : Int32) → ((ea_i h (b0 + 22) 9) ≤ (5 : Int32) → ∃ a3, r2 = some a3 ∧ a3 < ea_n h ∧ ea_c h a3 = 0 ∧ ((ea_i h a3 1) < (24 : Int32) → (¬ (ea_i h (b0 + 22) 9) = (0 : Int32) → a3 < ea_n h ∧ ea_c h a3 = 0 ∧ a3 < ea_n h ∧ ea_c h a3 = 0 ∧ ∀ h9, h9 = ea_wi h a3 1 ((ea_i h a3 1) + (1 : Int32)) → (okX5_readRule b0 (r2 : Option Nat) h9) ∧ ∀ h12, h12 = (wX5_readRule b0 (r2 : Option Nat) h9) → ea_W mX5_read d h0 rv hE 132 [(0, vR (some (b0 + 22))), (2, vR r2), (3, vI x3)] [] h12) ∧ ((ea_i h (b0 + 22) 9) = (0 : Int32) → a3 < ea_n h ∧ ea_c h a3 = 0 ∧ a3 < ea_n h ∧ ea_c h a3 = 0 ∧ ∀ h22, h22 = ea_wi h a3 1 ((ea_i h a3 1) + (1 : Int32)) → ∃ (d24 : Nat) (xc28 : Int32) (h25 : ea_H), ea_Met mX5_readCharge d24 [vR (some (b0 + 22)), vR r2] h22 (some (vI xc28)) h25 ∧ d24 + 1 ≤ d ∧ ShC b0 h25 ∧ ea_W mX5_read d h0 rv hE 132 [(0, vR (some (b0 + 22))), (2, vR r2), (3, vI x3)] [] h25)) ∧ (¬ (ea_i h a3 1) < (24 : Int32) → (okX5_refuse b0 (3 : Int32) h) ∧ ∀ h31, h31 = (wX5_refuse b0 (3 : Int32) h) → ea_W mX5_read d h0 rv hE 132 [(0, vR (some (b0 + 22))), (2, vR r2), (3, vI x3)] [] h31)) ∧ (¬ (ea_i h (b0 + 22) 9) ≤ (5 : Int32) → (okX5_refuse b0 (1 : Int32) h) ∧ ∀ h39, h39 = (wX5_refuse b0 (1 : Int32) h) → ea_W mX5_read d h0 rv hE 132 [(0, vR (some (b0 + 22))), (2, vR r2), (3, vI x3)] [] h39)))) : ea_W mX5_read d h0 rv hE 39 [(0, vR (some (b0 + 22))), (2, vR r2), (3, vI x3)] [] h := by
  refine ea_iload_n (pc := 39) dX5_read_39 rfl 2 rfl ?_
  refine ea_sipush (pc := 40) dX5_read_40 (v := 600) rfl ?_
  refine ea_icmp_gt (pc := 43) (tgt := 156) dX5_read_43 rfl (fun c47 => ?_) (fun c47 => ?_)
  · have H := H.1 c47
    exact ea_fewer [0, 1] rfl H
  · have H := H.2 c47
    refine ea_aload_n (pc := 46) dX5_read_46 rfl 0 rfl ?_
    refine ea_getI (pc := 47) dX5_read_47 ec_5 (k := 9) (Nat.le_of_ble_eq_true rfl) rfl (Or.inl ew_303) (hs_h.1 22 (by decide)).1 (hs_h.1 22 (by decide)).2.1 ?_
    refine ea_bipush (pc := 50) dX5_read_50 (v := 19) rfl ?_
    refine ea_icmp_eq (pc := 52) (tgt := 156) dX5_read_52 rfl (fun c46 => ?_) (fun c46 => ?_)
    · have H := H.1 c46
      exact ea_fewer [0, 1] rfl H
    · have H := H.2 c46
      refine ea_aload_n (pc := 55) dX5_read_55 rfl 0 rfl ?_
      refine ea_getI (pc := 56) dX5_read_56 ec_5 (k := 9) (Nat.le_of_ble_eq_true rfl) rfl (Or.inl ew_303) (hs_h.1 22 (by decide)).1 (hs_h.1 22 (by decide)).2.1 ?_
      refine ea_iconst (pc := 59) dX5_read_59 (v := 5) rfl ?_
      refine ea_icmp_le (pc := 60) (tgt := 72) dX5_read_60 rfl (fun c45 => ?_) (fun c45 => ?_)
      · have H := H.1 c45
        refine ea_aload_n (pc := 72) dX5_read_72 rfl 1 rfl ?_
        obtain ⟨a3, e4, f1, g2, H⟩ := H
        refine ea_deref0 e4 ?_
        refine ea_getI (pc := 73) dX5_read_73 ec_0 (k := 1) (Nat.le_of_ble_eq_true rfl) rfl (Or.inl ew_794) f1 g2 ?_
        refine ea_bipush (pc := 76) dX5_read_76 (v := 24) rfl ?_
        refine ea_icmp_lt (pc := 78) (tgt := 90) dX5_read_78 rfl (fun c37 => ?_) (fun c37 => ?_)
        · have H := H.1 c37
          refine ea_aload_n (pc := 90) dX5_read_90 rfl 0 rfl ?_
          refine ea_getI (pc := 91) dX5_read_91 ec_5 (k := 9) (Nat.le_of_ble_eq_true rfl) rfl (Or.inl ew_303) (hs_h.1 22 (by decide)).1 (hs_h.1 22 (by decide)).2.1 ?_
          refine ea_if_ne (pc := 94) (tgt := 116) dX5_read_94 rfl (fun c29 => ?_) (fun c29 => ?_)
          · have H := H.1 c29
            refine ea_aload_n (pc := 116) dX5_read_116 rfl 1 rfl ?_
            refine ea_dup (pc := 117) dX5_read_117 rfl ?_
            obtain ⟨f5, g6, H⟩ := H
            refine ea_deref0 e4 ?_
            refine ea_getI (pc := 118) dX5_read_118 ec_0 (k := 1) (Nat.le_of_ble_eq_true rfl) rfl (Or.inl ew_794) f5 g6 ?_
            refine ea_iconst (pc := 121) dX5_read_121 (v := 1) rfl ?_
            refine ea_iadd (pc := 122) dX5_read_122 ?_
            obtain ⟨f7, g8, H⟩ := H
            refine ea_deref1 e4 ?_
            refine ea_putI (pc := 123) dX5_read_123 ec_0 (k := 1) (Nat.le_of_ble_eq_true rfl) rfl (Or.inl ⟨rfl, Or.inl ew_794⟩) rfl rfl f7 g8 ?_
            obtain ⟨h9, E10⟩ : ∃ z, z = ea_wi h a3 1 ((ea_i h a3 1) + (1 : Int32)) := ⟨_, rfl⟩
            have H := H h9 E10
            refine ea_nm E10 ?_
            have hs_h9 : ShC b0 h9 := by rw [E10]; exact ShC_wi hs_h
            refine ea_aload_n (pc := 126) dX5_read_126 rfl 0 rfl ?_
            refine ea_aload_n (pc := 127) dX5_read_127 rfl 1 rfl ?_
            obtain ⟨z16, H⟩ := H
            refine ea_callV (pc := 128) (d' := d - 1) (As := [vR r2]) (st := []) dX5_read_128 kX5_readRule (sX5_readRule (d := d - 1) (by omega) hs_h9 z16) (by omega) rfl (Nat.le_of_ble_eq_true rfl) ew_891 ew_893 ew_30 (ci := 5) rfl (by decide) (hs_h9.1 22 (by decide)).1 (hs_h9.1 22 (by decide)).2.1 ?_
            obtain ⟨h12, E17⟩ : ∃ z, z = (wX5_readRule b0 (r2 : Option Nat) h9) := ⟨_, rfl⟩
            have H := H h12 E17
            refine ea_nm E17 ?_
            have hs_h12 : ShC b0 h12 := by rw [E17]; exact shX5_readRule hs_h9
            refine ea_pop (pc := 131) dX5_read_131 rfl ?_
            exact H
          · have H := H.2 c29
            refine ea_aload_n (pc := 97) dX5_read_97 rfl 1 rfl ?_
            refine ea_dup (pc := 98) dX5_read_98 rfl ?_
            obtain ⟨f18, g19, H⟩ := H
            refine ea_deref0 e4 ?_
            refine ea_getI (pc := 99) dX5_read_99 ec_0 (k := 1) (Nat.le_of_ble_eq_true rfl) rfl (Or.inl ew_794) f18 g19 ?_
            refine ea_iconst (pc := 102) dX5_read_102 (v := 1) rfl ?_
            refine ea_iadd (pc := 103) dX5_read_103 ?_
            obtain ⟨f20, g21, H⟩ := H
            refine ea_deref1 e4 ?_
            refine ea_putI (pc := 104) dX5_read_104 ec_0 (k := 1) (Nat.le_of_ble_eq_true rfl) rfl (Or.inl ⟨rfl, Or.inl ew_794⟩) rfl rfl f20 g21 ?_
            obtain ⟨h22, E23⟩ : ∃ z, z = ea_wi h a3 1 ((ea_i h a3 1) + (1 : Int32)) := ⟨_, rfl⟩
            have H := H h22 E23
            refine ea_nm E23 ?_
            have hs_h22 : ShC b0 h22 := by rw [E23]; exact ShC_wi hs_h
            refine ea_aload_n (pc := 107) dX5_read_107 rfl 0 rfl ?_
            refine ea_aload_n (pc := 108) dX5_read_108 rfl 1 rfl ?_
            obtain ⟨d24, xc28, h25, m26, q27, hs_h25, H⟩ := H
            refine ea_callV (pc := 109) (As := [vR r2]) (st := []) dX5_read_109 kX5_readCharge m26 q27 rfl (Nat.le_of_ble_eq_true rfl) ew_855 ew_857 ew_21 (ci := 5) rfl (by decide) (hs_h22.1 22 (by decide)).1 (hs_h22.1 22 (by decide)).2.1 ?_
            refine ea_pop (pc := 112) dX5_read_112 rfl ?_
            refine ea_goto (pc := 113) (tgt := 132) dX5_read_113 rfl ?_
            exact H
        · have H := H.2 c37
          refine ea_aload_n (pc := 81) dX5_read_81 rfl 0 rfl ?_
          refine ea_iconst (pc := 82) dX5_read_82 (v := 3) rfl ?_
          obtain ⟨z35, H⟩ := H
          refine ea_callV (pc := 83) (d' := d - 1) (As := [vI 3]) (st := []) dX5_read_83 kX5_refuse (sX5_refuse (d := d - 1) (by omega) hs_h z35) (by omega) rfl (Nat.le_of_ble_eq_true rfl) ew_851 ew_853 ew_20 (ci := 5) rfl (by decide) (hs_h.1 22 (by decide)).1 (hs_h.1 22 (by decide)).2.1 ?_
          obtain ⟨h31, E36⟩ : ∃ z, z = (wX5_refuse b0 (3 : Int32) h) := ⟨_, rfl⟩
          have H := H h31 E36
          refine ea_nm E36 ?_
          have hs_h31 : ShC b0 h31 := by rw [E36]; exact shX5_refuse hs_h
          refine ea_pop (pc := 86) dX5_read_86 rfl ?_
          refine ea_goto (pc := 87) (tgt := 132) dX5_read_87 rfl ?_
          exact H
      · have H := H.2 c45
        refine ea_aload_n (pc := 63) dX5_read_63 rfl 0 rfl ?_
        refine ea_iconst (pc := 64) dX5_read_64 (v := 1) rfl ?_
        obtain ⟨z43, H⟩ := H
        refine ea_callV (pc := 65) (d' := d - 1) (As := [vI 1]) (st := []) dX5_read_65 kX5_refuse (sX5_refuse (d := d - 1) (by omega) hs_h z43) (by omega) rfl (Nat.le_of_ble_eq_true rfl) ew_851 ew_853 ew_20 (ci := 5) rfl (by decide) (hs_h.1 22 (by decide)).1 (hs_h.1 22 (by decide)).2.1 ?_
        obtain ⟨h39, E44⟩ : ∃ z, z = (wX5_refuse b0 (1 : Int32) h) := ⟨_, rfl⟩
        have H := H h39 E44
        refine ea_nm E44 ?_
        have hs_h39 : ShC b0 h39 := by rw [E44]; exact shX5_refuse hs_h
        refine ea_pop (pc := 68) dX5_read_68 rfl ?_
        refine ea_goto (pc := 69) (tgt := 132) dX5_read_69 rfl ?_
        exact H
theorem pX5_read_132 {d b0 : Nat} {h0 hE h : ea_H} {rv : Option ea_V} {r2 : Option Nat} {x3 : Int32} (hd : 5 ≤ d) (hs_h : ShC b0 h) (H : (¬ (ea_i h (b0 + 22) 1) = (0 : Int32) → rv = some (vR none) ∧ hE = h) ∧ ((ea_i h (b0 + 22) 1) = (0 : Int32) → (okX5_skip b0 (59 : Int32) h) ∧ ∀ h2, h2 = (wX5_skip b0 (59 : Int32) h) → (¬ (vX5_skip b0 (59 : Int32) h) = (0 : Int32) → ea_W mX5_read d h0 rv hE 39 [(0, vR (some (b0 + 22))), (2, vR r2), (3, vI (x3 + 1))] [] h2) ∧ ((vX5_skip b0 (59 : Int32) h) = (0 : Int32) → rv = some (vR none) ∧ hE = h2))) : ea_W mX5_read d h0 rv hE 132 [(0, vR (some (b0 + 22))), (2, vR r2), (3, vI x3)] [] h := by
  refine ea_aload_n (pc := 132) dX5_read_132 rfl 0 rfl ?_
  refine ea_getI (pc := 133) dX5_read_133 ec_5 (k := 1) (Nat.le_of_ble_eq_true rfl) rfl (Or.inl ew_293) (hs_h.1 22 (by decide)).1 (hs_h.1 22 (by decide)).2.1 ?_
  refine ea_if_ne (pc := 136) (tgt := 148) dX5_read_136 rfl (fun c10 => ?_) (fun c10 => ?_)
  · have H := H.1 c10
    refine ea_null (pc := 148) dX5_read_148 ?_
    obtain ⟨rfl, rfl⟩ := H
    exact ea_areturn (pc := 149) dX5_read_149 rfl (Or.inl ⟨_, rfl⟩)
  · have H := H.2 c10
    refine ea_aload_n (pc := 139) dX5_read_139 rfl 0 rfl ?_
    refine ea_bipush (pc := 140) dX5_read_140 (v := 59) rfl ?_
    obtain ⟨z8, H⟩ := H
    refine ea_callV (pc := 142) (d' := d - 1) (As := [vI 59]) (st := []) dX5_read_142 kX5_skip (sX5_skip (d := d - 1) (by omega) hs_h z8) (by omega) rfl (Nat.le_of_ble_eq_true rfl) ew_899 ew_901 ew_32 (ci := 5) rfl (by decide) (hs_h.1 22 (by decide)).1 (hs_h.1 22 (by decide)).2.1 ?_
    obtain ⟨h2, E9⟩ : ∃ z, z = (wX5_skip b0 (59 : Int32) h) := ⟨_, rfl⟩
    have H := H h2 E9
    refine ea_nm E9 ?_
    have hs_h2 : ShC b0 h2 := by rw [E9]; exact shX5_skip hs_h
    refine ea_if_ne (pc := 145) (tgt := 150) dX5_read_145 rfl (fun c7 => ?_) (fun c7 => ?_)
    · have H := H.1 c7
      refine ea_iinc (pc := 150) (v := 1) (lv' := [(0, vR (some (b0 + 22))), (2, vR r2), (3, vI (x3 + 1))]) dX5_read_150 2 rfl rfl (Nat.le_of_ble_eq_true rfl) [1, 2, 0] rfl ?_
      refine ea_goto (pc := 153) (tgt := 39) dX5_read_153 rfl ?_
      exact H
    · have H := H.2 c7
      refine ea_null (pc := 148) dX5_read_148 ?_
      obtain ⟨rfl, rfl⟩ := H
      exact ea_areturn (pc := 149) dX5_read_149 rfl (Or.inl ⟨_, rfl⟩)
theorem pX5_readCharge_0 {d b0 : Nat} {h0 hE h : ea_H} {rv : Option ea_V} {r1 : Option Nat} (hd : 2 ≤ d) (hs_h : ShC b0 h) (H : ∃ a3, r1 = some a3 ∧ a3 < ea_n h ∧ ea_c h a3 = 0 ∧ ((ea_i h a3 8) < (24 : Int32) → a3 < ea_n h ∧ ea_c h a3 = 0 ∧ a3 < ea_n h ∧ ea_c h a3 = 0 ∧ ∀ h9, h9 = ea_wi h a3 8 ((ea_i h a3 8) + (1 : Int32)) → a3 < ea_n h9 ∧ ea_c h9 a3 = 0 ∧ ∃ a15, (ea_r h9 a3 9) = some a15 ∧ a15 < ea_n h9 ∧ ea_c h9 a15 = 20 ∧ vp_in (ea_i h a3 8) (ea_l h9 a15) ∧ ∀ h18, h18 = ea_wi h9 a15 (Int32.toNatClampNeg (ea_i h a3 8)) (ea_i h9 (b0 + 22) 11) → a3 < ea_n h18 ∧ ea_c h18 a3 = 0 ∧ ∃ a24, (ea_r h18 a3 10) = some a24 ∧ a24 < ea_n h18 ∧ ea_c h18 a24 = 20 ∧ vp_in (ea_i h a3 8) (ea_l h18 a24) ∧ ∀ h27, h27 = ea_wi h18 a24 (Int32.toNatClampNeg (ea_i h a3 8)) (-1) → (okX5_step b0 h27) ∧ ∀ h30, h30 = (wX5_step b0 h27) → ∃ (d147 : Nat) (xc151 : Int32) (h148 : ea_H), ea_Met mX5_readSum d147 [vR (some (b0 + 22)), vI 0] h30 (some (vI xc151)) h148 ∧ d147 + 1 ≤ d ∧ ShC b0 h148 ∧ (¬ xc151 = (0 : Int32) → (okX5_put b0 ((-100) : Int32) h148) ∧ ∀ h153, h153 = (wX5_put b0 ((-100) : Int32) h148) → ((ea_i h153 (b0 + 22) 9) = (13 : Int32) → (okX5_step b0 h153) ∧ ∀ h208, h208 = (wX5_step b0 h153) → a3 < ea_n h208 ∧ ea_c h208 a3 = 0 ∧ ∃ a237, (ea_r h208 a3 10) = some a237 ∧ a237 < ea_n h208 ∧ ea_c h208 a237 = 20 ∧ vp_in (ea_i h a3 8) (ea_l h208 a237) ∧ ∀ h240, h240 = ea_wi h208 a237 (Int32.toNatClampNeg (ea_i h a3 8)) (ea_i h208 (b0 + 22) 11) → ∃ (d242 : Nat) (xc246 : Int32) (h243 : ea_H), ea_Met mX5_readWhen d242 [vR (some (b0 + 22))] h240 (some (vI xc246)) h243 ∧ d242 + 1 ≤ d ∧ ShC b0 h243 ∧ (okX5_put b0 ((-100) : Int32) h243) ∧ ∀ h248, h248 = (wX5_put b0 ((-100) : Int32) h243) → (xc246 = 0 ∨ xc246 = 1) ∧ rv = some (vI xc246) ∧ hE = h248) ∧ (¬ (ea_i h153 (b0 + 22) 9) = (13 : Int32) → rv = some (vI 1) ∧ hE = h153)) ∧ (xc151 = (0 : Int32) → rv = some (vI 0) ∧ hE = h148)) ∧ (¬ (ea_i h a3 8) < (24 : Int32) → (okX5_refuse b0 (3 : Int32) h) ∧ ∀ h264, h264 = (wX5_refuse b0 (3 : Int32) h) → ((vX5_refuse b0 (3 : Int32) h) = 0 ∨ (vX5_refuse b0 (3 : Int32) h) = 1) ∧ rv = some (vI (vX5_refuse b0 (3 : Int32) h)) ∧ hE = h264)) : ea_W mX5_readCharge d h0 rv hE 0 [(0, vR (some (b0 + 22))), (1, vR r1)] [] h := by
  refine ea_aload_n (pc := 0) dX5_readCharge_0 rfl 1 rfl ?_
  obtain ⟨a3, e4, f1, g2, H⟩ := H
  refine ea_deref0 e4 ?_
  refine ea_getI (pc := 1) dX5_readCharge_1 ec_0 (k := 8) (Nat.le_of_ble_eq_true rfl) rfl (Or.inl ew_816) f1 g2 ?_
  refine ea_istore_n (pc := 4) (lv' := [(0, vR (some (b0 + 22))), (1, vR r1), (2, vI (ea_i h a3 8))]) dX5_readCharge_4 rfl (Nat.le_of_ble_eq_true rfl) [1, 2, 0] rfl ?_
  refine ea_iload_n (pc := 5) dX5_readCharge_5 rfl 2 rfl ?_
  refine ea_bipush (pc := 6) dX5_readCharge_6 (v := 24) rfl ?_
  refine ea_icmp_lt (pc := 8) (tgt := 17) dX5_readCharge_8 rfl (fun c272 => ?_) (fun c272 => ?_)
  · have H := H.1 c272
    refine ea_aload_n (pc := 17) dX5_readCharge_17 rfl 1 rfl ?_
    refine ea_dup (pc := 18) dX5_readCharge_18 rfl ?_
    obtain ⟨f5, g6, H⟩ := H
    refine ea_deref0 e4 ?_
    refine ea_getI (pc := 19) dX5_readCharge_19 ec_0 (k := 8) (Nat.le_of_ble_eq_true rfl) rfl (Or.inl ew_816) f5 g6 ?_
    refine ea_iconst (pc := 22) dX5_readCharge_22 (v := 1) rfl ?_
    refine ea_iadd (pc := 23) dX5_readCharge_23 ?_
    obtain ⟨f7, g8, H⟩ := H
    refine ea_deref1 e4 ?_
    refine ea_putI (pc := 24) dX5_readCharge_24 ec_0 (k := 8) (Nat.le_of_ble_eq_true rfl) rfl (Or.inl ⟨rfl, Or.inl ew_816⟩) rfl rfl f7 g8 ?_
    obtain ⟨h9, E10⟩ : ∃ z, z = ea_wi h a3 8 ((ea_i h a3 8) + (1 : Int32)) := ⟨_, rfl⟩
    have H := H h9 E10
    refine ea_nm E10 ?_
    have hs_h9 : ShC b0 h9 := by rw [E10]; exact ShC_wi hs_h
    refine ea_aload_n (pc := 27) dX5_readCharge_27 rfl 1 rfl ?_
    obtain ⟨f11, g12, H⟩ := H
    refine ea_deref0 e4 ?_
    refine ea_getR (pc := 28) dX5_readCharge_28 ec_0 (k := 9) (Nat.le_of_ble_eq_true rfl) rfl (Or.inl ew_819) f11 g12 rfl ?_
    refine ea_iload_n (pc := 31) dX5_readCharge_31 rfl 2 rfl ?_
    refine ea_aload_n (pc := 32) dX5_readCharge_32 rfl 0 rfl ?_
    refine ea_getI (pc := 33) dX5_readCharge_33 ec_5 (k := 11) (Nat.le_of_ble_eq_true rfl) rfl (Or.inl ew_305) (hs_h9.1 22 (by decide)).1 (hs_h9.1 22 (by decide)).2.1 ?_
    obtain ⟨a15, e16, f13, g14, H⟩ := H
    refine ea_deref2 e16 ?_
    obtain ⟨z17, H⟩ := H
    refine ea_iast (pc := 36) dX5_readCharge_36 f13 g14 z17 ?_
    obtain ⟨h18, E19⟩ : ∃ z, z = ea_wi h9 a15 (Int32.toNatClampNeg (ea_i h a3 8)) (ea_i h9 (b0 + 22) 11) := ⟨_, rfl⟩
    have H := H h18 E19
    refine ea_nm E19 ?_
    have hs_h18 : ShC b0 h18 := by rw [E19]; exact ShC_wi hs_h9
    refine ea_aload_n (pc := 37) dX5_readCharge_37 rfl 1 rfl ?_
    obtain ⟨f20, g21, H⟩ := H
    refine ea_deref0 e4 ?_
    refine ea_getR (pc := 38) dX5_readCharge_38 ec_0 (k := 10) (Nat.le_of_ble_eq_true rfl) rfl (Or.inl ew_822) f20 g21 rfl ?_
    refine ea_iload_n (pc := 41) dX5_readCharge_41 rfl 2 rfl ?_
    refine ea_iconst (pc := 42) dX5_readCharge_42 (v := (-1)) rfl ?_
    obtain ⟨a24, e25, f22, g23, H⟩ := H
    refine ea_deref2 e25 ?_
    obtain ⟨z26, H⟩ := H
    refine ea_iast (pc := 43) dX5_readCharge_43 f22 g23 z26 ?_
    obtain ⟨h27, E28⟩ : ∃ z, z = ea_wi h18 a24 (Int32.toNatClampNeg (ea_i h a3 8)) (-1) := ⟨_, rfl⟩
    have H := H h27 E28
    refine ea_nm E28 ?_
    have hs_h27 : ShC b0 h27 := by rw [E28]; exact ShC_wi hs_h18
    refine ea_aload_n (pc := 44) dX5_readCharge_44 rfl 0 rfl ?_
    obtain ⟨z261, H⟩ := H
    refine ea_callV (pc := 45) (d' := d - 1) (As := []) (st := []) dX5_readCharge_45 kX5_step (sX5_step (d := d - 1) (by omega) hs_h27 z261) (by omega) rfl (Nat.le_of_ble_eq_true rfl) ew_859 ew_861 ew_22 (ci := 5) rfl (by decide) (hs_h27.1 22 (by decide)).1 (hs_h27.1 22 (by decide)).2.1 ?_
    obtain ⟨h30, E262⟩ : ∃ z, z = (wX5_step b0 h27) := ⟨_, rfl⟩
    have H := H h30 E262
    refine ea_nm E262 ?_
    have hs_h30 : ShC b0 h30 := by rw [E262]; exact shX5_step hs_h27
    refine ea_aload_n (pc := 48) dX5_readCharge_48 rfl 0 rfl ?_
    refine ea_iconst (pc := 49) dX5_readCharge_49 (v := 0) rfl ?_
    obtain ⟨d147, xc151, h148, m149, q150, hs_h148, H⟩ := H
    refine ea_callV (pc := 50) (As := [vI 0]) (st := []) dX5_readCharge_50 kX5_readSum m149 q150 rfl (Nat.le_of_ble_eq_true rfl) ew_863 ew_865 ew_23 (ci := 5) rfl (by decide) (hs_h30.1 22 (by decide)).1 (hs_h30.1 22 (by decide)).2.1 ?_
    refine ea_if_ne (pc := 53) (tgt := 58) dX5_readCharge_53 rfl (fun c260 => ?_) (fun c260 => ?_)
    · have H := H.1 c260
      refine ea_aload_n (pc := 58) dX5_readCharge_58 rfl 0 rfl ?_
      refine ea_bipush (pc := 59) dX5_readCharge_59 (v := (-100)) rfl ?_
      obtain ⟨z258, H⟩ := H
      refine ea_callV (pc := 61) (d' := d - 1) (As := [vI (-100)]) (st := []) dX5_readCharge_61 kX5_put (sX5_put (d := d - 1) (by omega) hs_h148 z258) (by omega) rfl (Nat.le_of_ble_eq_true rfl) ew_875 ew_877 ew_26 (ci := 5) rfl (by decide) (hs_h148.1 22 (by decide)).1 (hs_h148.1 22 (by decide)).2.1 ?_
      obtain ⟨h153, E259⟩ : ∃ z, z = (wX5_put b0 ((-100) : Int32) h148) := ⟨_, rfl⟩
      have H := H h153 E259
      refine ea_nm E259 ?_
      have hs_h153 : ShC b0 h153 := by rw [E259]; exact shX5_put hs_h148
      refine ea_aload_n (pc := 64) dX5_readCharge_64 rfl 0 rfl ?_
      refine ea_getI (pc := 65) dX5_readCharge_65 ec_5 (k := 9) (Nat.le_of_ble_eq_true rfl) rfl (Or.inl ew_303) (hs_h153.1 22 (by decide)).1 (hs_h153.1 22 (by decide)).2.1 ?_
      refine ea_bipush (pc := 68) dX5_readCharge_68 (v := 13) rfl ?_
      refine ea_icmp_eq (pc := 70) (tgt := 75) dX5_readCharge_70 rfl (fun c257 => ?_) (fun c257 => ?_)
      · have H := H.1 c257
        refine ea_aload_n (pc := 75) dX5_readCharge_75 rfl 0 rfl ?_
        obtain ⟨z255, H⟩ := H
        refine ea_callV (pc := 76) (d' := d - 1) (As := []) (st := []) dX5_readCharge_76 kX5_step (sX5_step (d := d - 1) (by omega) hs_h153 z255) (by omega) rfl (Nat.le_of_ble_eq_true rfl) ew_859 ew_861 ew_22 (ci := 5) rfl (by decide) (hs_h153.1 22 (by decide)).1 (hs_h153.1 22 (by decide)).2.1 ?_
        obtain ⟨h208, E256⟩ : ∃ z, z = (wX5_step b0 h153) := ⟨_, rfl⟩
        have H := H h208 E256
        refine ea_nm E256 ?_
        have hs_h208 : ShC b0 h208 := by rw [E256]; exact shX5_step hs_h153
        refine ea_aload_n (pc := 79) dX5_readCharge_79 rfl 1 rfl ?_
        obtain ⟨f233, g234, H⟩ := H
        refine ea_deref0 e4 ?_
        refine ea_getR (pc := 80) dX5_readCharge_80 ec_0 (k := 10) (Nat.le_of_ble_eq_true rfl) rfl (Or.inl ew_822) f233 g234 rfl ?_
        refine ea_iload_n (pc := 83) dX5_readCharge_83 rfl 2 rfl ?_
        refine ea_aload_n (pc := 84) dX5_readCharge_84 rfl 0 rfl ?_
        refine ea_getI (pc := 85) dX5_readCharge_85 ec_5 (k := 11) (Nat.le_of_ble_eq_true rfl) rfl (Or.inl ew_305) (hs_h208.1 22 (by decide)).1 (hs_h208.1 22 (by decide)).2.1 ?_
        obtain ⟨a237, e238, f235, g236, H⟩ := H
        refine ea_deref2 e238 ?_
        obtain ⟨z239, H⟩ := H
        refine ea_iast (pc := 88) dX5_readCharge_88 f235 g236 z239 ?_
        obtain ⟨h240, E241⟩ : ∃ z, z = ea_wi h208 a237 (Int32.toNatClampNeg (ea_i h a3 8)) (ea_i h208 (b0 + 22) 11) := ⟨_, rfl⟩
        have H := H h240 E241
        refine ea_nm E241 ?_
        have hs_h240 : ShC b0 h240 := by rw [E241]; exact ShC_wi hs_h208
        refine ea_aload_n (pc := 89) dX5_readCharge_89 rfl 0 rfl ?_
        obtain ⟨d242, xc246, h243, m244, q245, hs_h243, H⟩ := H
        refine ea_callV (pc := 90) (As := []) (st := []) dX5_readCharge_90 kX5_readWhen m244 q245 rfl (Nat.le_of_ble_eq_true rfl) ew_879 ew_881 ew_27 (ci := 5) rfl (by decide) (hs_h240.1 22 (by decide)).1 (hs_h240.1 22 (by decide)).2.1 ?_
        refine ea_istore_n (pc := 93) (lv' := [(0, vR (some (b0 + 22))), (3, vI xc246)]) dX5_readCharge_93 rfl (Nat.le_of_ble_eq_true rfl) [1, 0] rfl ?_
        refine ea_aload_n (pc := 94) dX5_readCharge_94 rfl 0 rfl ?_
        refine ea_bipush (pc := 95) dX5_readCharge_95 (v := (-100)) rfl ?_
        obtain ⟨z253, H⟩ := H
        refine ea_callV (pc := 97) (d' := d - 1) (As := [vI (-100)]) (st := []) dX5_readCharge_97 kX5_put (sX5_put (d := d - 1) (by omega) hs_h243 z253) (by omega) rfl (Nat.le_of_ble_eq_true rfl) ew_875 ew_877 ew_26 (ci := 5) rfl (by decide) (hs_h243.1 22 (by decide)).1 (hs_h243.1 22 (by decide)).2.1 ?_
        obtain ⟨h248, E254⟩ : ∃ z, z = (wX5_put b0 ((-100) : Int32) h243) := ⟨_, rfl⟩
        have H := H h248 E254
        refine ea_nm E254 ?_
        have hs_h248 : ShC b0 h248 := by rw [E254]; exact shX5_put hs_h243
        refine ea_iload_n (pc := 100) dX5_readCharge_100 rfl 1 rfl ?_
        obtain ⟨z252, rfl, rfl⟩ := H
        exact ea_ireturn (pc := 101) dX5_readCharge_101 rfl (ea_bn z252)
      · have H := H.2 c257
        refine ea_iconst (pc := 73) dX5_readCharge_73 (v := 1) rfl ?_
        obtain ⟨rfl, rfl⟩ := H
        exact ea_ireturn (pc := 74) dX5_readCharge_74 rfl (ea_bn (Or.inr rfl))
    · have H := H.2 c260
      refine ea_iconst (pc := 56) dX5_readCharge_56 (v := 0) rfl ?_
      obtain ⟨rfl, rfl⟩ := H
      exact ea_ireturn (pc := 57) dX5_readCharge_57 rfl (ea_bn (Or.inl rfl))
  · have H := H.2 c272
    refine ea_aload_n (pc := 11) dX5_readCharge_11 rfl 0 rfl ?_
    refine ea_iconst (pc := 12) dX5_readCharge_12 (v := 3) rfl ?_
    obtain ⟨z270, H⟩ := H
    refine ea_callV (pc := 13) (d' := d - 1) (As := [vI 3]) (st := []) dX5_readCharge_13 kX5_refuse (sX5_refuse (d := d - 1) (by omega) hs_h z270) (by omega) rfl (Nat.le_of_ble_eq_true rfl) ew_851 ew_853 ew_20 (ci := 5) rfl (by decide) (hs_h.1 22 (by decide)).1 (hs_h.1 22 (by decide)).2.1 ?_
    obtain ⟨h264, E271⟩ : ∃ z, z = (wX5_refuse b0 (3 : Int32) h) := ⟨_, rfl⟩
    have H := H h264 E271
    refine ea_nm E271 ?_
    have hs_h264 : ShC b0 h264 := by rw [E271]; exact shX5_refuse hs_h
    obtain ⟨z269, rfl, rfl⟩ := H
    exact ea_ireturn (pc := 16) dX5_readCharge_16 rfl (ea_bn z269)
theorem pX5_readWhen_0 {d b0 : Nat} {h0 hE h : ea_H} {rv : Option ea_V}  (hd : 2 ≤ d) (hs_h : ShC b0 h) (H : ea_W mX5_readWhen d h0 rv hE 7 [(0, vR (some (b0 + 22))), (1, vI 0), (2, vI 13), (3, vI 0)] [] h) : ea_W mX5_readWhen d h0 rv hE 0 [(0, vR (some (b0 + 22)))] [] h := by
  refine ea_iconst (pc := 0) dX5_readWhen_0 (v := 0) rfl ?_
  refine ea_istore_n (pc := 1) (lv' := [(0, vR (some (b0 + 22))), (1, vI 0)]) dX5_readWhen_1 rfl (Nat.le_of_ble_eq_true rfl) [1, 0] rfl ?_
  refine ea_bipush (pc := 2) dX5_readWhen_2 (v := 13) rfl ?_
  refine ea_istore_n (pc := 4) (lv' := [(0, vR (some (b0 + 22))), (1, vI 0), (2, vI 13)]) dX5_readWhen_4 rfl (Nat.le_of_ble_eq_true rfl) [1, 2, 0] rfl ?_
  refine ea_iconst (pc := 5) dX5_readWhen_5 (v := 0) rfl ?_
  refine ea_istore_n (pc := 6) (lv' := [(0, vR (some (b0 + 22))), (1, vI 0), (2, vI 13), (3, vI 0)]) dX5_readWhen_6 rfl (Nat.le_of_ble_eq_true rfl) [1, 2, 3, 0] rfl ?_
  exact H
theorem pX5_readWhen_7 {d b0 : Nat} {h0 hE h : ea_H} {rv : Option ea_V} {x1 : Int32} {x2 : Int32} {x3 : Int32} (hd : 2 ≤ d) (hs_h : ShC b0 h) (H : ((600 : Int32) < x3 → rv = some (vI 0) ∧ hE = h) ∧ (¬ (600 : Int32) < x3 → ∃ (d1 : Nat) (xc5 : Int32) (h2 : ea_H), ea_Met mX5_readNots d1 [vR (some (b0 + 22))] h (some (vI xc5)) h2 ∧ d1 + 1 ≤ d ∧ ShC b0 h2 ∧ (xc5 = ((-1) : Int32) → rv = some (vI 0) ∧ hE = h2) ∧ (¬ xc5 = ((-1) : Int32) → ∃ (d6 : Nat) (xc10 : Int32) (h7 : ea_H), ea_Met mX5_readSum d6 [vR (some (b0 + 22)), vI xc5] h2 (some (vI xc10)) h7 ∧ d6 + 1 ≤ d ∧ ShC b0 h7 ∧ (¬ xc10 = (0 : Int32) → (¬ (vX5_comparison b0 h7) = ((-1) : Int32) → (okX5_step b0 h7) ∧ ∀ h85, h85 = (wX5_step b0 h7) → ∃ (d114 : Nat) (xc118 : Int32) (h115 : ea_H), ea_Met mX5_readSum d114 [vR (some (b0 + 22)), vI xc5] h85 (some (vI xc118)) h115 ∧ d114 + 1 ≤ d ∧ ShC b0 h115 ∧ (¬ xc118 = (0 : Int32) → (okX5_put b0 ((vX5_comparison b0 h7) : Int32) h115) ∧ ∀ h120, h120 = (wX5_put b0 ((vX5_comparison b0 h7) : Int32) h115) → (¬ (xc5 - xc5 / (2 : Int32) * (2 : Int32)) = (1 : Int32) → ea_W mX5_readWhen d h0 rv hE 90 [(0, vR (some (b0 + 22))), (1, vI x1), (2, vI x2), (3, vI x3)] [] h120) ∧ ((xc5 - xc5 / (2 : Int32) * (2 : Int32)) = (1 : Int32) → (okX5_put b0 ((-17) : Int32) h120) ∧ ∀ h131, h131 = (wX5_put b0 ((-17) : Int32) h120) → ea_W mX5_readWhen d h0 rv hE 90 [(0, vR (some (b0 + 22))), (1, vI x1), (2, vI x2), (3, vI x3)] [] h131)) ∧ (xc118 = (0 : Int32) → rv = some (vI 0) ∧ hE = h115)) ∧ ((vX5_comparison b0 h7) = ((-1) : Int32) → (okX5_refuse b0 (1 : Int32) h7) ∧ ∀ h143, h143 = (wX5_refuse b0 (1 : Int32) h7) → ((vX5_refuse b0 (1 : Int32) h7) = 0 ∨ (vX5_refuse b0 (1 : Int32) h7) = 1) ∧ rv = some (vI (vX5_refuse b0 (1 : Int32) h7)) ∧ hE = h143)) ∧ (xc10 = (0 : Int32) → rv = some (vI 0) ∧ hE = h7)))) : ea_W mX5_readWhen d h0 rv hE 7 [(0, vR (some (b0 + 22))), (1, vI x1), (2, vI x2), (3, vI x3)] [] h := by
  refine ea_iload_n (pc := 7) dX5_readWhen_7 rfl 3 rfl ?_
  refine ea_sipush (pc := 8) dX5_readWhen_8 (v := 600) rfl ?_
  refine ea_icmp_gt (pc := 11) (tgt := 151) dX5_readWhen_11 rfl (fun c155 => ?_) (fun c155 => ?_)
  · have H := H.1 c155
    refine ea_iconst (pc := 151) dX5_readWhen_151 (v := 0) rfl ?_
    obtain ⟨rfl, rfl⟩ := H
    exact ea_ireturn (pc := 152) dX5_readWhen_152 rfl (ea_bn (Or.inl rfl))
  · have H := H.2 c155
    refine ea_aload_n (pc := 14) dX5_readWhen_14 rfl 0 rfl ?_
    obtain ⟨d1, xc5, h2, m3, q4, hs_h2, H⟩ := H
    refine ea_callV (pc := 15) (As := []) (st := []) dX5_readWhen_15 kX5_readNots m3 q4 rfl (Nat.le_of_ble_eq_true rfl) ew_883 ew_885 ew_28 (ci := 5) rfl (by decide) (hs_h.1 22 (by decide)).1 (hs_h.1 22 (by decide)).2.1 ?_
    refine ea_istore (pc := 18) (lv' := [(0, vR (some (b0 + 22))), (1, vI x1), (2, vI x2), (3, vI x3), (4, vI xc5)]) dX5_readWhen_18 (Nat.le_of_ble_eq_true rfl) [1, 2, 3, 4, 0] rfl ?_
    refine ea_iload (pc := 20) dX5_readWhen_20 4 rfl ?_
    refine ea_iconst (pc := 22) dX5_readWhen_22 (v := (-1)) rfl ?_
    refine ea_icmp_eq (pc := 23) (tgt := 35) dX5_readWhen_23 rfl (fun c154 => ?_) (fun c154 => ?_)
    · have H := H.1 c154
      refine ea_iconst (pc := 35) dX5_readWhen_35 (v := 0) rfl ?_
      obtain ⟨rfl, rfl⟩ := H
      exact ea_ireturn (pc := 36) dX5_readWhen_36 rfl (ea_bn (Or.inl rfl))
    · have H := H.2 c154
      refine ea_aload_n (pc := 26) dX5_readWhen_26 rfl 0 rfl ?_
      refine ea_iload (pc := 27) dX5_readWhen_27 4 rfl ?_
      obtain ⟨d6, xc10, h7, m8, q9, hs_h7, H⟩ := H
      refine ea_callV (pc := 29) (As := [vI xc5]) (st := []) dX5_readWhen_29 kX5_readSum m8 q9 rfl (Nat.le_of_ble_eq_true rfl) ew_863 ew_865 ew_23 (ci := 5) rfl (by decide) (hs_h2.1 22 (by decide)).1 (hs_h2.1 22 (by decide)).2.1 ?_
      refine ea_if_ne (pc := 32) (tgt := 37) dX5_readWhen_32 rfl (fun c153 => ?_) (fun c153 => ?_)
      · have H := H.1 c153
        refine ea_aload_n (pc := 37) dX5_readWhen_37 rfl 0 rfl ?_
        refine ea_callV (pc := 38) (d' := d - 1) (As := []) (st := []) dX5_readWhen_38 kX5_comparison (sX5_comparison (d := d - 1) (by omega) hs_h7) (by omega) rfl (Nat.le_of_ble_eq_true rfl) ew_887 ew_889 ew_29 (ci := 5) rfl (by decide) (hs_h7.1 22 (by decide)).1 (hs_h7.1 22 (by decide)).2.1 ?_
        refine ea_istore (pc := 41) (lv' := [(0, vR (some (b0 + 22))), (1, vI x1), (2, vI x2), (3, vI x3), (4, vI xc5), (5, vI (vX5_comparison b0 h7))]) dX5_readWhen_41 (Nat.le_of_ble_eq_true rfl) [1, 2, 3, 4, 5, 0] rfl ?_
        refine ea_iload (pc := 43) dX5_readWhen_43 5 rfl ?_
        refine ea_iconst (pc := 45) dX5_readWhen_45 (v := (-1)) rfl ?_
        refine ea_icmp_ne (pc := 46) (tgt := 55) dX5_readWhen_46 rfl (fun c151 => ?_) (fun c151 => ?_)
        · have H := H.1 c151
          refine ea_aload_n (pc := 55) dX5_readWhen_55 rfl 0 rfl ?_
          obtain ⟨z140, H⟩ := H
          refine ea_callV (pc := 56) (d' := d - 1) (As := []) (st := []) dX5_readWhen_56 kX5_step (sX5_step (d := d - 1) (by omega) hs_h7 z140) (by omega) rfl (Nat.le_of_ble_eq_true rfl) ew_859 ew_861 ew_22 (ci := 5) rfl (by decide) (hs_h7.1 22 (by decide)).1 (hs_h7.1 22 (by decide)).2.1 ?_
          obtain ⟨h85, E141⟩ : ∃ z, z = (wX5_step b0 h7) := ⟨_, rfl⟩
          have H := H h85 E141
          refine ea_nm E141 ?_
          have hs_h85 : ShC b0 h85 := by rw [E141]; exact shX5_step hs_h7
          refine ea_aload_n (pc := 59) dX5_readWhen_59 rfl 0 rfl ?_
          refine ea_iload (pc := 60) dX5_readWhen_60 4 rfl ?_
          obtain ⟨d114, xc118, h115, m116, q117, hs_h115, H⟩ := H
          refine ea_callV (pc := 62) (As := [vI xc5]) (st := []) dX5_readWhen_62 kX5_readSum m116 q117 rfl (Nat.le_of_ble_eq_true rfl) ew_863 ew_865 ew_23 (ci := 5) rfl (by decide) (hs_h85.1 22 (by decide)).1 (hs_h85.1 22 (by decide)).2.1 ?_
          refine ea_if_ne (pc := 65) (tgt := 70) dX5_readWhen_65 rfl (fun c139 => ?_) (fun c139 => ?_)
          · have H := H.1 c139
            refine ea_aload_n (pc := 70) dX5_readWhen_70 rfl 0 rfl ?_
            refine ea_iload (pc := 71) dX5_readWhen_71 5 rfl ?_
            obtain ⟨z137, H⟩ := H
            refine ea_callV (pc := 73) (d' := d - 1) (As := [vI (vX5_comparison b0 h7)]) (st := []) dX5_readWhen_73 kX5_put (sX5_put (d := d - 1) (by omega) hs_h115 z137) (by omega) rfl (Nat.le_of_ble_eq_true rfl) ew_875 ew_877 ew_26 (ci := 5) rfl (by decide) (hs_h115.1 22 (by decide)).1 (hs_h115.1 22 (by decide)).2.1 ?_
            obtain ⟨h120, E138⟩ : ∃ z, z = (wX5_put b0 ((vX5_comparison b0 h7) : Int32) h115) := ⟨_, rfl⟩
            have H := H h120 E138
            refine ea_nm E138 ?_
            have hs_h120 : ShC b0 h120 := by rw [E138]; exact shX5_put hs_h115
            refine ea_iload (pc := 76) dX5_readWhen_76 4 rfl ?_
            refine ea_iconst (pc := 78) dX5_readWhen_78 (v := 2) rfl ?_
            refine ea_irem (pc := 79) dX5_readWhen_79 (by decide) ?_
            refine ea_iconst (pc := 80) dX5_readWhen_80 (v := 1) rfl ?_
            refine ea_icmp_ne (pc := 81) (tgt := 90) dX5_readWhen_81 rfl (fun c136 => ?_) (fun c136 => ?_)
            · have H := H.1 c136
              exact ea_fewer [0, 1, 2, 3] rfl H
            · have H := H.2 c136
              refine ea_aload_n (pc := 84) dX5_readWhen_84 rfl 0 rfl ?_
              refine ea_bipush (pc := 85) dX5_readWhen_85 (v := (-17)) rfl ?_
              obtain ⟨z134, H⟩ := H
              refine ea_callV (pc := 87) (d' := d - 1) (As := [vI (-17)]) (st := []) dX5_readWhen_87 kX5_put (sX5_put (d := d - 1) (by omega) hs_h120 z134) (by omega) rfl (Nat.le_of_ble_eq_true rfl) ew_875 ew_877 ew_26 (ci := 5) rfl (by decide) (hs_h120.1 22 (by decide)).1 (hs_h120.1 22 (by decide)).2.1 ?_
              obtain ⟨h131, E135⟩ : ∃ z, z = (wX5_put b0 ((-17) : Int32) h120) := ⟨_, rfl⟩
              have H := H h131 E135
              refine ea_nm E135 ?_
              have hs_h131 : ShC b0 h131 := by rw [E135]; exact shX5_put hs_h120
              exact ea_fewer [0, 1, 2, 3] rfl H
          · have H := H.2 c139
            refine ea_iconst (pc := 68) dX5_readWhen_68 (v := 0) rfl ?_
            obtain ⟨rfl, rfl⟩ := H
            exact ea_ireturn (pc := 69) dX5_readWhen_69 rfl (ea_bn (Or.inl rfl))
        · have H := H.2 c151
          refine ea_aload_n (pc := 49) dX5_readWhen_49 rfl 0 rfl ?_
          refine ea_iconst (pc := 50) dX5_readWhen_50 (v := 1) rfl ?_
          obtain ⟨z149, H⟩ := H
          refine ea_callV (pc := 51) (d' := d - 1) (As := [vI 1]) (st := []) dX5_readWhen_51 kX5_refuse (sX5_refuse (d := d - 1) (by omega) hs_h7 z149) (by omega) rfl (Nat.le_of_ble_eq_true rfl) ew_851 ew_853 ew_20 (ci := 5) rfl (by decide) (hs_h7.1 22 (by decide)).1 (hs_h7.1 22 (by decide)).2.1 ?_
          obtain ⟨h143, E150⟩ : ∃ z, z = (wX5_refuse b0 (1 : Int32) h7) := ⟨_, rfl⟩
          have H := H h143 E150
          refine ea_nm E150 ?_
          have hs_h143 : ShC b0 h143 := by rw [E150]; exact shX5_refuse hs_h7
          obtain ⟨z148, rfl, rfl⟩ := H
          exact ea_ireturn (pc := 54) dX5_readWhen_54 rfl (ea_bn z148)
      · have H := H.2 c153
        refine ea_iconst (pc := 35) dX5_readWhen_35 (v := 0) rfl ?_
        obtain ⟨rfl, rfl⟩ := H
        exact ea_ireturn (pc := 36) dX5_readWhen_36 rfl (ea_bn (Or.inl rfl))
theorem pX5_readWhen_90 {d b0 : Nat} {h0 hE h : ea_H} {rv : Option ea_V} {x1 : Int32} {x2 : Int32} {x3 : Int32} (hd : 2 ≤ d) (hs_h : ShC b0 h) (H : (¬ x2 = (16 : Int32) → ea_W mX5_readWhen d h0 rv hE 102 [(0, vR (some (b0 + 22))), (1, vI x1), (3, vI x3)] [] h) ∧ (x2 = (16 : Int32) → (okX5_put b0 ((-18) : Int32) h) ∧ ∀ h2, h2 = (wX5_put b0 ((-18) : Int32) h) → ea_W mX5_readWhen d h0 rv hE 102 [(0, vR (some (b0 + 22))), (1, vI x1), (3, vI x3)] [] h2)) : ea_W mX5_readWhen d h0 rv hE 90 [(0, vR (some (b0 + 22))), (1, vI x1), (2, vI x2), (3, vI x3)] [] h := by
  refine ea_iload_n (pc := 90) dX5_readWhen_90 rfl 2 rfl ?_
  refine ea_bipush (pc := 91) dX5_readWhen_91 (v := 16) rfl ?_
  refine ea_icmp_ne (pc := 93) (tgt := 102) dX5_readWhen_93 rfl (fun c7 => ?_) (fun c7 => ?_)
  · have H := H.1 c7
    exact ea_fewer [0, 1, 3] rfl H
  · have H := H.2 c7
    refine ea_aload_n (pc := 96) dX5_readWhen_96 rfl 0 rfl ?_
    refine ea_bipush (pc := 97) dX5_readWhen_97 (v := (-18)) rfl ?_
    obtain ⟨z5, H⟩ := H
    refine ea_callV (pc := 99) (d' := d - 1) (As := [vI (-18)]) (st := []) dX5_readWhen_99 kX5_put (sX5_put (d := d - 1) (by omega) hs_h z5) (by omega) rfl (Nat.le_of_ble_eq_true rfl) ew_875 ew_877 ew_26 (ci := 5) rfl (by decide) (hs_h.1 22 (by decide)).1 (hs_h.1 22 (by decide)).2.1 ?_
    obtain ⟨h2, E6⟩ : ∃ z, z = (wX5_put b0 ((-18) : Int32) h) := ⟨_, rfl⟩
    have H := H h2 E6
    refine ea_nm E6 ?_
    have hs_h2 : ShC b0 h2 := by rw [E6]; exact shX5_put hs_h
    exact ea_fewer [0, 1, 3] rfl H
theorem pX5_readWhen_102 {d b0 : Nat} {h0 hE h : ea_H} {rv : Option ea_V} {x1 : Int32} {x3 : Int32} (hd : 2 ≤ d) (hs_h : ShC b0 h) (H : ((ea_i h (b0 + 22) 9) = (16 : Int32) → (okX5_step b0 h) ∧ ∀ h2, h2 = (wX5_step b0 h) → ea_W mX5_readWhen d h0 rv hE 7 [(0, vR (some (b0 + 22))), (1, vI x1), (2, vI (ea_i h (b0 + 22) 9)), (3, vI (x3 + 1))] [] h2) ∧ (¬ (ea_i h (b0 + 22) 9) = (16 : Int32) → (x1 = (0 : Int32) → ea_W mX5_readWhen d h0 rv hE 123 [(0, vR (some (b0 + 22))), (2, vI (ea_i h (b0 + 22) 9)), (3, vI x3)] [] h) ∧ (¬ x1 = (0 : Int32) → (okX5_put b0 ((-19) : Int32) h) ∧ ∀ h8, h8 = (wX5_put b0 ((-19) : Int32) h) → ea_W mX5_readWhen d h0 rv hE 123 [(0, vR (some (b0 + 22))), (2, vI (ea_i h (b0 + 22) 9)), (3, vI x3)] [] h8))) : ea_W mX5_readWhen d h0 rv hE 102 [(0, vR (some (b0 + 22))), (1, vI x1), (3, vI x3)] [] h := by
  refine ea_aload_n (pc := 102) dX5_readWhen_102 rfl 0 rfl ?_
  refine ea_getI (pc := 103) dX5_readWhen_103 ec_5 (k := 9) (Nat.le_of_ble_eq_true rfl) rfl (Or.inl ew_303) (hs_h.1 22 (by decide)).1 (hs_h.1 22 (by decide)).2.1 ?_
  refine ea_istore_n (pc := 106) (lv' := [(0, vR (some (b0 + 22))), (1, vI x1), (2, vI (ea_i h (b0 + 22) 9)), (3, vI x3)]) dX5_readWhen_106 rfl (Nat.le_of_ble_eq_true rfl) [1, 2, 0, 3] rfl ?_
  refine ea_iload_n (pc := 107) dX5_readWhen_107 rfl 2 rfl ?_
  refine ea_bipush (pc := 108) dX5_readWhen_108 (v := 16) rfl ?_
  refine ea_icmp_eq (pc := 110) (tgt := 141) dX5_readWhen_110 rfl (fun c14 => ?_) (fun c14 => ?_)
  · have H := H.1 c14
    refine ea_aload_n (pc := 141) dX5_readWhen_141 rfl 0 rfl ?_
    obtain ⟨z5, H⟩ := H
    refine ea_callV (pc := 142) (d' := d - 1) (As := []) (st := []) dX5_readWhen_142 kX5_step (sX5_step (d := d - 1) (by omega) hs_h z5) (by omega) rfl (Nat.le_of_ble_eq_true rfl) ew_859 ew_861 ew_22 (ci := 5) rfl (by decide) (hs_h.1 22 (by decide)).1 (hs_h.1 22 (by decide)).2.1 ?_
    obtain ⟨h2, E6⟩ : ∃ z, z = (wX5_step b0 h) := ⟨_, rfl⟩
    have H := H h2 E6
    refine ea_nm E6 ?_
    have hs_h2 : ShC b0 h2 := by rw [E6]; exact shX5_step hs_h
    refine ea_iinc (pc := 145) (v := 1) (lv' := [(0, vR (some (b0 + 22))), (1, vI x1), (2, vI (ea_i h (b0 + 22) 9)), (3, vI (x3 + 1))]) dX5_readWhen_145 3 rfl rfl (Nat.le_of_ble_eq_true rfl) [1, 2, 3, 0] rfl ?_
    refine ea_goto (pc := 148) (tgt := 7) dX5_readWhen_148 rfl ?_
    exact H
  · have H := H.2 c14
    refine ea_iload_n (pc := 113) dX5_readWhen_113 rfl 1 rfl ?_
    refine ea_if_eq (pc := 114) (tgt := 123) dX5_readWhen_114 rfl (fun c13 => ?_) (fun c13 => ?_)
    · have H := H.1 c13
      exact ea_fewer [0, 2, 3] rfl H
    · have H := H.2 c13
      refine ea_aload_n (pc := 117) dX5_readWhen_117 rfl 0 rfl ?_
      refine ea_bipush (pc := 118) dX5_readWhen_118 (v := (-19)) rfl ?_
      obtain ⟨z11, H⟩ := H
      refine ea_callV (pc := 120) (d' := d - 1) (As := [vI (-19)]) (st := []) dX5_readWhen_120 kX5_put (sX5_put (d := d - 1) (by omega) hs_h z11) (by omega) rfl (Nat.le_of_ble_eq_true rfl) ew_875 ew_877 ew_26 (ci := 5) rfl (by decide) (hs_h.1 22 (by decide)).1 (hs_h.1 22 (by decide)).2.1 ?_
      obtain ⟨h8, E12⟩ : ∃ z, z = (wX5_put b0 ((-19) : Int32) h) := ⟨_, rfl⟩
      have H := H h8 E12
      refine ea_nm E12 ?_
      have hs_h8 : ShC b0 h8 := by rw [E12]; exact shX5_put hs_h
      exact ea_fewer [0, 2, 3] rfl H
theorem pX5_readWhen_123 {d b0 : Nat} {h0 hE h : ea_H} {rv : Option ea_V} {x2 : Int32} {x3 : Int32} (hd : 2 ≤ d) (hs_h : ShC b0 h) (H : (¬ x2 = (17 : Int32) → ea_W mX5_readWhen d h0 rv hE 134 [(0, vR (some (b0 + 22))), (2, vI x2), (3, vI x3)] [vI 0] h) ∧ (x2 = (17 : Int32) → ea_W mX5_readWhen d h0 rv hE 134 [(0, vR (some (b0 + 22))), (2, vI x2), (3, vI x3)] [vI 1] h)) : ea_W mX5_readWhen d h0 rv hE 123 [(0, vR (some (b0 + 22))), (2, vI x2), (3, vI x3)] [] h := by
  refine ea_iload_n (pc := 123) dX5_readWhen_123 rfl 1 rfl ?_
  refine ea_bipush (pc := 124) dX5_readWhen_124 (v := 17) rfl ?_
  refine ea_icmp_ne (pc := 126) (tgt := 133) dX5_readWhen_126 rfl (fun c1 => ?_) (fun c1 => ?_)
  · have H := H.1 c1
    refine ea_iconst (pc := 133) dX5_readWhen_133 (v := 0) rfl ?_
    exact H
  · have H := H.2 c1
    refine ea_iconst (pc := 129) dX5_readWhen_129 (v := 1) rfl ?_
    refine ea_goto (pc := 130) (tgt := 134) dX5_readWhen_130 rfl ?_
    exact H
theorem pX5_readWhen_134 {d b0 : Nat} {h0 hE h : ea_H} {rv : Option ea_V} {x2 : Int32} {x3 : Int32} {sx0 : Int32} (hd : 2 ≤ d) (hs_h : ShC b0 h) (H : (¬ sx0 = (0 : Int32) → (okX5_step b0 h) ∧ ∀ h2, h2 = (wX5_step b0 h) → ea_W mX5_readWhen d h0 rv hE 7 [(0, vR (some (b0 + 22))), (1, vI sx0), (2, vI x2), (3, vI (x3 + 1))] [] h2) ∧ (sx0 = (0 : Int32) → rv = some (vI 1) ∧ hE = h)) : ea_W mX5_readWhen d h0 rv hE 134 [(0, vR (some (b0 + 22))), (2, vI x2), (3, vI x3)] [vI sx0] h := by
  refine ea_istore_n (pc := 134) (lv' := [(0, vR (some (b0 + 22))), (1, vI sx0), (2, vI x2), (3, vI x3)]) dX5_readWhen_134 rfl (Nat.le_of_ble_eq_true rfl) [1, 0, 2, 3] rfl ?_
  refine ea_iload_n (pc := 135) dX5_readWhen_135 rfl 1 rfl ?_
  refine ea_if_ne (pc := 136) (tgt := 141) dX5_readWhen_136 rfl (fun c7 => ?_) (fun c7 => ?_)
  · have H := H.1 c7
    refine ea_aload_n (pc := 141) dX5_readWhen_141 rfl 0 rfl ?_
    obtain ⟨z5, H⟩ := H
    refine ea_callV (pc := 142) (d' := d - 1) (As := []) (st := []) dX5_readWhen_142 kX5_step (sX5_step (d := d - 1) (by omega) hs_h z5) (by omega) rfl (Nat.le_of_ble_eq_true rfl) ew_859 ew_861 ew_22 (ci := 5) rfl (by decide) (hs_h.1 22 (by decide)).1 (hs_h.1 22 (by decide)).2.1 ?_
    obtain ⟨h2, E6⟩ : ∃ z, z = (wX5_step b0 h) := ⟨_, rfl⟩
    have H := H h2 E6
    refine ea_nm E6 ?_
    have hs_h2 : ShC b0 h2 := by rw [E6]; exact shX5_step hs_h
    refine ea_iinc (pc := 145) (v := 1) (lv' := [(0, vR (some (b0 + 22))), (1, vI sx0), (2, vI x2), (3, vI (x3 + 1))]) dX5_readWhen_145 3 rfl rfl (Nat.le_of_ble_eq_true rfl) [1, 2, 3, 0] rfl ?_
    refine ea_goto (pc := 148) (tgt := 7) dX5_readWhen_148 rfl ?_
    exact H
  · have H := H.2 c7
    refine ea_iconst (pc := 139) dX5_readWhen_139 (v := 1) rfl ?_
    obtain ⟨rfl, rfl⟩ := H
    exact ea_ireturn (pc := 140) dX5_readWhen_140 rfl (ea_bn (Or.inr rfl))
theorem pX5_readNots_0 {d b0 : Nat} {h0 hE h : ea_H} {rv : Option ea_V}  (hd : 2 ≤ d) (hs_h : ShC b0 h) (H : ea_W mX5_readNots d h0 rv hE 2 [(0, vR (some (b0 + 22))), (1, vI 0)] [] h) : ea_W mX5_readNots d h0 rv hE 0 [(0, vR (some (b0 + 22)))] [] h := by
  refine ea_iconst (pc := 0) dX5_readNots_0 (v := 0) rfl ?_
  refine ea_istore_n (pc := 1) (lv' := [(0, vR (some (b0 + 22))), (1, vI 0)]) dX5_readNots_1 rfl (Nat.le_of_ble_eq_true rfl) [1, 0] rfl ?_
  exact H
theorem pX5_readNots_2 {d b0 : Nat} {h0 hE h : ea_H} {rv : Option ea_V} {x1 : Int32} (hd : 2 ≤ d) (hs_h : ShC b0 h) (H : ((8 : Int32) < x1 → rv = some (vI x1) ∧ hE = h) ∧ (¬ (8 : Int32) < x1 → (¬ (ea_i h (b0 + 22) 9) = (15 : Int32) → rv = some (vI x1) ∧ hE = h) ∧ ((ea_i h (b0 + 22) 9) = (15 : Int32) → (¬ x1 = (8 : Int32) → (okX5_step b0 h) ∧ ∀ h2, h2 = (wX5_step b0 h) → ea_W mX5_readNots d h0 rv hE 2 [(0, vR (some (b0 + 22))), (1, vI (x1 + 1))] [] h2) ∧ (x1 = (8 : Int32) → (okX5_refuse b0 (3 : Int32) h) ∧ ∀ h8, h8 = (wX5_refuse b0 (3 : Int32) h) → rv = some (vI (-1)) ∧ hE = h8)))) : ea_W mX5_readNots d h0 rv hE 2 [(0, vR (some (b0 + 22))), (1, vI x1)] [] h := by
  refine ea_iload_n (pc := 2) dX5_readNots_2 rfl 1 rfl ?_
  refine ea_bipush (pc := 3) dX5_readNots_3 (v := 8) rfl ?_
  refine ea_icmp_gt (pc := 5) (tgt := 41) dX5_readNots_5 rfl (fun c16 => ?_) (fun c16 => ?_)
  · have H := H.1 c16
    refine ea_iload_n (pc := 41) dX5_readNots_41 rfl 1 rfl ?_
    obtain ⟨rfl, rfl⟩ := H
    exact ea_ireturn (pc := 42) dX5_readNots_42 rfl rfl
  · have H := H.2 c16
    refine ea_aload_n (pc := 8) dX5_readNots_8 rfl 0 rfl ?_
    refine ea_getI (pc := 9) dX5_readNots_9 ec_5 (k := 9) (Nat.le_of_ble_eq_true rfl) rfl (Or.inl ew_303) (hs_h.1 22 (by decide)).1 (hs_h.1 22 (by decide)).2.1 ?_
    refine ea_bipush (pc := 12) dX5_readNots_12 (v := 15) rfl ?_
    refine ea_icmp_ne (pc := 14) (tgt := 41) dX5_readNots_14 rfl (fun c15 => ?_) (fun c15 => ?_)
    · have H := H.1 c15
      refine ea_iload_n (pc := 41) dX5_readNots_41 rfl 1 rfl ?_
      obtain ⟨rfl, rfl⟩ := H
      exact ea_ireturn (pc := 42) dX5_readNots_42 rfl rfl
    · have H := H.2 c15
      refine ea_iload_n (pc := 17) dX5_readNots_17 rfl 1 rfl ?_
      refine ea_bipush (pc := 18) dX5_readNots_18 (v := 8) rfl ?_
      refine ea_icmp_ne (pc := 20) (tgt := 31) dX5_readNots_20 rfl (fun c14 => ?_) (fun c14 => ?_)
      · have H := H.1 c14
        refine ea_aload_n (pc := 31) dX5_readNots_31 rfl 0 rfl ?_
        obtain ⟨z5, H⟩ := H
        refine ea_callV (pc := 32) (d' := d - 1) (As := []) (st := []) dX5_readNots_32 kX5_step (sX5_step (d := d - 1) (by omega) hs_h z5) (by omega) rfl (Nat.le_of_ble_eq_true rfl) ew_859 ew_861 ew_22 (ci := 5) rfl (by decide) (hs_h.1 22 (by decide)).1 (hs_h.1 22 (by decide)).2.1 ?_
        obtain ⟨h2, E6⟩ : ∃ z, z = (wX5_step b0 h) := ⟨_, rfl⟩
        have H := H h2 E6
        refine ea_nm E6 ?_
        have hs_h2 : ShC b0 h2 := by rw [E6]; exact shX5_step hs_h
        refine ea_iinc (pc := 35) (v := 1) (lv' := [(0, vR (some (b0 + 22))), (1, vI (x1 + 1))]) dX5_readNots_35 1 rfl rfl (Nat.le_of_ble_eq_true rfl) [1, 0] rfl ?_
        refine ea_goto (pc := 38) (tgt := 2) dX5_readNots_38 rfl ?_
        exact H
      · have H := H.2 c14
        refine ea_aload_n (pc := 23) dX5_readNots_23 rfl 0 rfl ?_
        refine ea_iconst (pc := 24) dX5_readNots_24 (v := 3) rfl ?_
        obtain ⟨z12, H⟩ := H
        refine ea_callV (pc := 25) (d' := d - 1) (As := [vI 3]) (st := []) dX5_readNots_25 kX5_refuse (sX5_refuse (d := d - 1) (by omega) hs_h z12) (by omega) rfl (Nat.le_of_ble_eq_true rfl) ew_851 ew_853 ew_20 (ci := 5) rfl (by decide) (hs_h.1 22 (by decide)).1 (hs_h.1 22 (by decide)).2.1 ?_
        obtain ⟨h8, E13⟩ : ∃ z, z = (wX5_refuse b0 (3 : Int32) h) := ⟨_, rfl⟩
        have H := H h8 E13
        refine ea_nm E13 ?_
        have hs_h8 : ShC b0 h8 := by rw [E13]; exact shX5_refuse hs_h
        refine ea_pop (pc := 28) dX5_readNots_28 rfl ?_
        refine ea_iconst (pc := 29) dX5_readNots_29 (v := (-1)) rfl ?_
        obtain ⟨rfl, rfl⟩ := H
        exact ea_ireturn (pc := 30) dX5_readNots_30 rfl rfl
theorem pX5_readSum_0 {d b0 : Nat} {h0 hE h : ea_H} {rv : Option ea_V} {x1 : Int32} (hd : 2 ≤ d) (hs_h : ShC b0 h) (H : ∃ (d1 : Nat) (xc5 : Int32) (h2 : ea_H), ea_Met mX5_readProduct d1 [vR (some (b0 + 22)), vI x1] h (some (vI xc5)) h2 ∧ d1 + 1 ≤ d ∧ ShC b0 h2 ∧ (¬ xc5 = (0 : Int32) → ea_W mX5_readSum d h0 rv hE 12 [(0, vR (some (b0 + 22))), (1, vI x1), (2, vI 0)] [] h2) ∧ (xc5 = (0 : Int32) → rv = some (vI 0) ∧ hE = h2)) : ea_W mX5_readSum d h0 rv hE 0 [(0, vR (some (b0 + 22))), (1, vI x1)] [] h := by
  refine ea_aload_n (pc := 0) dX5_readSum_0 rfl 0 rfl ?_
  refine ea_iload_n (pc := 1) dX5_readSum_1 rfl 1 rfl ?_
  obtain ⟨d1, xc5, h2, m3, q4, hs_h2, H⟩ := H
  refine ea_callV (pc := 2) (As := [vI x1]) (st := []) dX5_readSum_2 kX5_readProduct m3 q4 rfl (Nat.le_of_ble_eq_true rfl) ew_867 ew_869 ew_24 (ci := 5) rfl (by decide) (hs_h.1 22 (by decide)).1 (hs_h.1 22 (by decide)).2.1 ?_
  refine ea_if_ne (pc := 5) (tgt := 10) dX5_readSum_5 rfl (fun c6 => ?_) (fun c6 => ?_)
  · have H := H.1 c6
    refine ea_iconst (pc := 10) dX5_readSum_10 (v := 0) rfl ?_
    refine ea_istore_n (pc := 11) (lv' := [(0, vR (some (b0 + 22))), (1, vI x1), (2, vI 0)]) dX5_readSum_11 rfl (Nat.le_of_ble_eq_true rfl) [1, 2, 0] rfl ?_
    exact H
  · have H := H.2 c6
    refine ea_iconst (pc := 8) dX5_readSum_8 (v := 0) rfl ?_
    obtain ⟨rfl, rfl⟩ := H
    exact ea_ireturn (pc := 9) dX5_readSum_9 rfl (ea_bn (Or.inl rfl))
theorem pX5_readSum_12 {d b0 : Nat} {h0 hE h : ea_H} {rv : Option ea_V} {x1 : Int32} {x2 : Int32} (hd : 2 ≤ d) (hs_h : ShC b0 h) (H : ((600 : Int32) < x2 → rv = some (vI 1) ∧ hE = h) ∧ (¬ (600 : Int32) < x2 → ((ea_i h (b0 + 22) 9) = (43 : Int32) → ea_W mX5_readSum d h0 rv hE 37 [(0, vR (some (b0 + 22))), (1, vI x1), (2, vI x2)] [] h) ∧ (¬ (ea_i h (b0 + 22) 9) = (43 : Int32) → (¬ (ea_i h (b0 + 22) 9) = (45 : Int32) → rv = some (vI 1) ∧ hE = h) ∧ ((ea_i h (b0 + 22) 9) = (45 : Int32) → ea_W mX5_readSum d h0 rv hE 37 [(0, vR (some (b0 + 22))), (1, vI x1), (2, vI x2)] [] h)))) : ea_W mX5_readSum d h0 rv hE 12 [(0, vR (some (b0 + 22))), (1, vI x1), (2, vI x2)] [] h := by
  refine ea_iload_n (pc := 12) dX5_readSum_12 rfl 2 rfl ?_
  refine ea_sipush (pc := 13) dX5_readSum_13 (v := 600) rfl ?_
  refine ea_icmp_gt (pc := 16) (tgt := 79) dX5_readSum_16 rfl (fun c3 => ?_) (fun c3 => ?_)
  · have H := H.1 c3
    refine ea_iconst (pc := 79) dX5_readSum_79 (v := 1) rfl ?_
    obtain ⟨rfl, rfl⟩ := H
    exact ea_ireturn (pc := 80) dX5_readSum_80 rfl (ea_bn (Or.inr rfl))
  · have H := H.2 c3
    refine ea_aload_n (pc := 19) dX5_readSum_19 rfl 0 rfl ?_
    refine ea_getI (pc := 20) dX5_readSum_20 ec_5 (k := 9) (Nat.le_of_ble_eq_true rfl) rfl (Or.inl ew_303) (hs_h.1 22 (by decide)).1 (hs_h.1 22 (by decide)).2.1 ?_
    refine ea_bipush (pc := 23) dX5_readSum_23 (v := 43) rfl ?_
    refine ea_icmp_eq (pc := 25) (tgt := 37) dX5_readSum_25 rfl (fun c2 => ?_) (fun c2 => ?_)
    · have H := H.1 c2
      exact H
    · have H := H.2 c2
      refine ea_aload_n (pc := 28) dX5_readSum_28 rfl 0 rfl ?_
      refine ea_getI (pc := 29) dX5_readSum_29 ec_5 (k := 9) (Nat.le_of_ble_eq_true rfl) rfl (Or.inl ew_303) (hs_h.1 22 (by decide)).1 (hs_h.1 22 (by decide)).2.1 ?_
      refine ea_bipush (pc := 32) dX5_readSum_32 (v := 45) rfl ?_
      refine ea_icmp_ne (pc := 34) (tgt := 79) dX5_readSum_34 rfl (fun c1 => ?_) (fun c1 => ?_)
      · have H := H.1 c1
        refine ea_iconst (pc := 79) dX5_readSum_79 (v := 1) rfl ?_
        obtain ⟨rfl, rfl⟩ := H
        exact ea_ireturn (pc := 80) dX5_readSum_80 rfl (ea_bn (Or.inr rfl))
      · have H := H.2 c1
        exact H
theorem pX5_readSum_37 {d b0 : Nat} {h0 hE h : ea_H} {rv : Option ea_V} {x1 : Int32} {x2 : Int32} (hd : 2 ≤ d) (hs_h : ShC b0 h) (H : (¬ (ea_i h (b0 + 22) 9) = (43 : Int32) → ea_W mX5_readSum d h0 rv hE 53 [(0, vR (some (b0 + 22))), (1, vI x1), (2, vI x2)] [vI (-11)] h) ∧ ((ea_i h (b0 + 22) 9) = (43 : Int32) → ea_W mX5_readSum d h0 rv hE 53 [(0, vR (some (b0 + 22))), (1, vI x1), (2, vI x2)] [vI (-10)] h)) : ea_W mX5_readSum d h0 rv hE 37 [(0, vR (some (b0 + 22))), (1, vI x1), (2, vI x2)] [] h := by
  refine ea_aload_n (pc := 37) dX5_readSum_37 rfl 0 rfl ?_
  refine ea_getI (pc := 38) dX5_readSum_38 ec_5 (k := 9) (Nat.le_of_ble_eq_true rfl) rfl (Or.inl ew_303) (hs_h.1 22 (by decide)).1 (hs_h.1 22 (by decide)).2.1 ?_
  refine ea_bipush (pc := 41) dX5_readSum_41 (v := 43) rfl ?_
  refine ea_icmp_ne (pc := 43) (tgt := 51) dX5_readSum_43 rfl (fun c1 => ?_) (fun c1 => ?_)
  · have H := H.1 c1
    refine ea_bipush (pc := 51) dX5_readSum_51 (v := (-11)) rfl ?_
    exact H
  · have H := H.2 c1
    refine ea_bipush (pc := 46) dX5_readSum_46 (v := (-10)) rfl ?_
    refine ea_goto (pc := 48) (tgt := 53) dX5_readSum_48 rfl ?_
    exact H
theorem pX5_readSum_53 {d b0 : Nat} {h0 hE h : ea_H} {rv : Option ea_V} {x1 : Int32} {x2 : Int32} {sx0 : Int32} (hd : 2 ≤ d) (hs_h : ShC b0 h) (H : (okX5_step b0 h) ∧ ∀ h2, h2 = (wX5_step b0 h) → ∃ (d17 : Nat) (xc21 : Int32) (h18 : ea_H), ea_Met mX5_readProduct d17 [vR (some (b0 + 22)), vI x1] h2 (some (vI xc21)) h18 ∧ d17 + 1 ≤ d ∧ ShC b0 h18 ∧ (¬ xc21 = (0 : Int32) → (okX5_put b0 (sx0 : Int32) h18) ∧ ∀ h23, h23 = (wX5_put b0 (sx0 : Int32) h18) → ea_W mX5_readSum d h0 rv hE 12 [(0, vR (some (b0 + 22))), (1, vI x1), (2, vI (x2 + 1))] [] h23) ∧ (xc21 = (0 : Int32) → rv = some (vI 0) ∧ hE = h18)) : ea_W mX5_readSum d h0 rv hE 53 [(0, vR (some (b0 + 22))), (1, vI x1), (2, vI x2)] [vI sx0] h := by
  refine ea_istore_n (pc := 53) (lv' := [(0, vR (some (b0 + 22))), (1, vI x1), (2, vI x2), (3, vI sx0)]) dX5_readSum_53 rfl (Nat.le_of_ble_eq_true rfl) [1, 2, 3, 0] rfl ?_
  refine ea_aload_n (pc := 54) dX5_readSum_54 rfl 0 rfl ?_
  obtain ⟨z29, H⟩ := H
  refine ea_callV (pc := 55) (d' := d - 1) (As := []) (st := []) dX5_readSum_55 kX5_step (sX5_step (d := d - 1) (by omega) hs_h z29) (by omega) rfl (Nat.le_of_ble_eq_true rfl) ew_859 ew_861 ew_22 (ci := 5) rfl (by decide) (hs_h.1 22 (by decide)).1 (hs_h.1 22 (by decide)).2.1 ?_
  obtain ⟨h2, E30⟩ : ∃ z, z = (wX5_step b0 h) := ⟨_, rfl⟩
  have H := H h2 E30
  refine ea_nm E30 ?_
  have hs_h2 : ShC b0 h2 := by rw [E30]; exact shX5_step hs_h
  refine ea_aload_n (pc := 58) dX5_readSum_58 rfl 0 rfl ?_
  refine ea_iload_n (pc := 59) dX5_readSum_59 rfl 1 rfl ?_
  obtain ⟨d17, xc21, h18, m19, q20, hs_h18, H⟩ := H
  refine ea_callV (pc := 60) (As := [vI x1]) (st := []) dX5_readSum_60 kX5_readProduct m19 q20 rfl (Nat.le_of_ble_eq_true rfl) ew_867 ew_869 ew_24 (ci := 5) rfl (by decide) (hs_h2.1 22 (by decide)).1 (hs_h2.1 22 (by decide)).2.1 ?_
  refine ea_if_ne (pc := 63) (tgt := 68) dX5_readSum_63 rfl (fun c28 => ?_) (fun c28 => ?_)
  · have H := H.1 c28
    refine ea_aload_n (pc := 68) dX5_readSum_68 rfl 0 rfl ?_
    refine ea_iload_n (pc := 69) dX5_readSum_69 rfl 3 rfl ?_
    obtain ⟨z26, H⟩ := H
    refine ea_callV (pc := 70) (d' := d - 1) (As := [vI sx0]) (st := []) dX5_readSum_70 kX5_put (sX5_put (d := d - 1) (by omega) hs_h18 z26) (by omega) rfl (Nat.le_of_ble_eq_true rfl) ew_875 ew_877 ew_26 (ci := 5) rfl (by decide) (hs_h18.1 22 (by decide)).1 (hs_h18.1 22 (by decide)).2.1 ?_
    obtain ⟨h23, E27⟩ : ∃ z, z = (wX5_put b0 (sx0 : Int32) h18) := ⟨_, rfl⟩
    have H := H h23 E27
    refine ea_nm E27 ?_
    have hs_h23 : ShC b0 h23 := by rw [E27]; exact shX5_put hs_h18
    refine ea_iinc (pc := 73) (v := 1) (lv' := [(0, vR (some (b0 + 22))), (1, vI x1), (2, vI (x2 + 1))]) dX5_readSum_73 2 rfl rfl (Nat.le_of_ble_eq_true rfl) [1, 2, 0] rfl ?_
    refine ea_goto (pc := 76) (tgt := 12) dX5_readSum_76 rfl ?_
    exact H
  · have H := H.2 c28
    refine ea_iconst (pc := 66) dX5_readSum_66 (v := 0) rfl ?_
    obtain ⟨rfl, rfl⟩ := H
    exact ea_ireturn (pc := 67) dX5_readSum_67 rfl (ea_bn (Or.inl rfl))
theorem pX5_readProduct_0 {d b0 : Nat} {h0 hE h : ea_H} {rv : Option ea_V} {x1 : Int32} (hd : 2 ≤ d) (hs_h : ShC b0 h) (H : ∃ (d1 : Nat) (xc5 : Int32) (h2 : ea_H), ea_Met mX5_readUnit d1 [vR (some (b0 + 22)), vI x1] h (some (vI xc5)) h2 ∧ d1 + 1 ≤ d ∧ ShC b0 h2 ∧ (¬ xc5 = (0 : Int32) → ea_W mX5_readProduct d h0 rv hE 12 [(0, vR (some (b0 + 22))), (1, vI x1), (2, vI 0)] [] h2) ∧ (xc5 = (0 : Int32) → rv = some (vI 0) ∧ hE = h2)) : ea_W mX5_readProduct d h0 rv hE 0 [(0, vR (some (b0 + 22))), (1, vI x1)] [] h := by
  refine ea_aload_n (pc := 0) dX5_readProduct_0 rfl 0 rfl ?_
  refine ea_iload_n (pc := 1) dX5_readProduct_1 rfl 1 rfl ?_
  obtain ⟨d1, xc5, h2, m3, q4, hs_h2, H⟩ := H
  refine ea_callV (pc := 2) (As := [vI x1]) (st := []) dX5_readProduct_2 kX5_readUnit m3 q4 rfl (Nat.le_of_ble_eq_true rfl) ew_871 ew_873 ew_25 (ci := 5) rfl (by decide) (hs_h.1 22 (by decide)).1 (hs_h.1 22 (by decide)).2.1 ?_
  refine ea_if_ne (pc := 5) (tgt := 10) dX5_readProduct_5 rfl (fun c6 => ?_) (fun c6 => ?_)
  · have H := H.1 c6
    refine ea_iconst (pc := 10) dX5_readProduct_10 (v := 0) rfl ?_
    refine ea_istore_n (pc := 11) (lv' := [(0, vR (some (b0 + 22))), (1, vI x1), (2, vI 0)]) dX5_readProduct_11 rfl (Nat.le_of_ble_eq_true rfl) [1, 2, 0] rfl ?_
    exact H
  · have H := H.2 c6
    refine ea_iconst (pc := 8) dX5_readProduct_8 (v := 0) rfl ?_
    obtain ⟨rfl, rfl⟩ := H
    exact ea_ireturn (pc := 9) dX5_readProduct_9 rfl (ea_bn (Or.inl rfl))
theorem pX5_readProduct_12 {d b0 : Nat} {h0 hE h : ea_H} {rv : Option ea_V} {x1 : Int32} {x2 : Int32} (hd : 2 ≤ d) (hs_h : ShC b0 h) (H : ((600 : Int32) < x2 → rv = some (vI 1) ∧ hE = h) ∧ (¬ (600 : Int32) < x2 → ((ea_i h (b0 + 22) 9) = (42 : Int32) → ea_W mX5_readProduct d h0 rv hE 37 [(0, vR (some (b0 + 22))), (1, vI x1), (2, vI x2)] [] h) ∧ (¬ (ea_i h (b0 + 22) 9) = (42 : Int32) → (¬ (ea_i h (b0 + 22) 9) = (47 : Int32) → rv = some (vI 1) ∧ hE = h) ∧ ((ea_i h (b0 + 22) 9) = (47 : Int32) → ea_W mX5_readProduct d h0 rv hE 37 [(0, vR (some (b0 + 22))), (1, vI x1), (2, vI x2)] [] h)))) : ea_W mX5_readProduct d h0 rv hE 12 [(0, vR (some (b0 + 22))), (1, vI x1), (2, vI x2)] [] h := by
  refine ea_iload_n (pc := 12) dX5_readProduct_12 rfl 2 rfl ?_
  refine ea_sipush (pc := 13) dX5_readProduct_13 (v := 600) rfl ?_
  refine ea_icmp_gt (pc := 16) (tgt := 128) dX5_readProduct_16 rfl (fun c3 => ?_) (fun c3 => ?_)
  · have H := H.1 c3
    refine ea_iconst (pc := 128) dX5_readProduct_128 (v := 1) rfl ?_
    obtain ⟨rfl, rfl⟩ := H
    exact ea_ireturn (pc := 129) dX5_readProduct_129 rfl (ea_bn (Or.inr rfl))
  · have H := H.2 c3
    refine ea_aload_n (pc := 19) dX5_readProduct_19 rfl 0 rfl ?_
    refine ea_getI (pc := 20) dX5_readProduct_20 ec_5 (k := 9) (Nat.le_of_ble_eq_true rfl) rfl (Or.inl ew_303) (hs_h.1 22 (by decide)).1 (hs_h.1 22 (by decide)).2.1 ?_
    refine ea_bipush (pc := 23) dX5_readProduct_23 (v := 42) rfl ?_
    refine ea_icmp_eq (pc := 25) (tgt := 37) dX5_readProduct_25 rfl (fun c2 => ?_) (fun c2 => ?_)
    · have H := H.1 c2
      exact H
    · have H := H.2 c2
      refine ea_aload_n (pc := 28) dX5_readProduct_28 rfl 0 rfl ?_
      refine ea_getI (pc := 29) dX5_readProduct_29 ec_5 (k := 9) (Nat.le_of_ble_eq_true rfl) rfl (Or.inl ew_303) (hs_h.1 22 (by decide)).1 (hs_h.1 22 (by decide)).2.1 ?_
      refine ea_bipush (pc := 32) dX5_readProduct_32 (v := 47) rfl ?_
      refine ea_icmp_ne (pc := 34) (tgt := 128) dX5_readProduct_34 rfl (fun c1 => ?_) (fun c1 => ?_)
      · have H := H.1 c1
        refine ea_iconst (pc := 128) dX5_readProduct_128 (v := 1) rfl ?_
        obtain ⟨rfl, rfl⟩ := H
        exact ea_ireturn (pc := 129) dX5_readProduct_129 rfl (ea_bn (Or.inr rfl))
      · have H := H.2 c1
        exact H
theorem pX5_readProduct_37 {d b0 : Nat} {h0 hE h : ea_H} {rv : Option ea_V} {x1 : Int32} {x2 : Int32} (hd : 2 ≤ d) (hs_h : ShC b0 h) (H : (¬ (ea_i h (b0 + 22) 9) = (47 : Int32) → ea_W mX5_readProduct d h0 rv hE 51 [(0, vR (some (b0 + 22))), (1, vI x1), (2, vI x2)] [vI 0] h) ∧ ((ea_i h (b0 + 22) 9) = (47 : Int32) → ea_W mX5_readProduct d h0 rv hE 51 [(0, vR (some (b0 + 22))), (1, vI x1), (2, vI x2)] [vI 1] h)) : ea_W mX5_readProduct d h0 rv hE 37 [(0, vR (some (b0 + 22))), (1, vI x1), (2, vI x2)] [] h := by
  refine ea_aload_n (pc := 37) dX5_readProduct_37 rfl 0 rfl ?_
  refine ea_getI (pc := 38) dX5_readProduct_38 ec_5 (k := 9) (Nat.le_of_ble_eq_true rfl) rfl (Or.inl ew_303) (hs_h.1 22 (by decide)).1 (hs_h.1 22 (by decide)).2.1 ?_
  refine ea_bipush (pc := 41) dX5_readProduct_41 (v := 47) rfl ?_
  refine ea_icmp_ne (pc := 43) (tgt := 50) dX5_readProduct_43 rfl (fun c1 => ?_) (fun c1 => ?_)
  · have H := H.1 c1
    refine ea_iconst (pc := 50) dX5_readProduct_50 (v := 0) rfl ?_
    exact H
  · have H := H.2 c1
    refine ea_iconst (pc := 46) dX5_readProduct_46 (v := 1) rfl ?_
    refine ea_goto (pc := 47) (tgt := 51) dX5_readProduct_47 rfl ?_
    exact H
theorem pX5_readProduct_51 {d b0 : Nat} {h0 hE h : ea_H} {rv : Option ea_V} {x1 : Int32} {x2 : Int32} {sx0 : Int32} (hd : 2 ≤ d) (hs_h : ShC b0 h) (H : (okX5_step b0 h) ∧ ∀ h2, h2 = (wX5_step b0 h) → (sx0 = (0 : Int32) → ea_W mX5_readProduct d h0 rv hE 75 [(0, vR (some (b0 + 22))), (1, vI x1), (2, vI x2), (3, vI sx0)] [] h2) ∧ (¬ sx0 = (0 : Int32) → ((ea_i h2 (b0 + 22) 9) = (18 : Int32) → ea_W mX5_readProduct d h0 rv hE 75 [(0, vR (some (b0 + 22))), (1, vI x1), (2, vI x2), (3, vI sx0)] [] h2) ∧ (¬ (ea_i h2 (b0 + 22) 9) = (18 : Int32) → (okX5_refuse b0 (1 : Int32) h2) ∧ ∀ h17, h17 = (wX5_refuse b0 (1 : Int32) h2) → ((vX5_refuse b0 (1 : Int32) h2) = 0 ∨ (vX5_refuse b0 (1 : Int32) h2) = 1) ∧ rv = some (vI (vX5_refuse b0 (1 : Int32) h2)) ∧ hE = h17))) : ea_W mX5_readProduct d h0 rv hE 51 [(0, vR (some (b0 + 22))), (1, vI x1), (2, vI x2)] [vI sx0] h := by
  refine ea_istore_n (pc := 51) (lv' := [(0, vR (some (b0 + 22))), (1, vI x1), (2, vI x2), (3, vI sx0)]) dX5_readProduct_51 rfl (Nat.le_of_ble_eq_true rfl) [1, 2, 3, 0] rfl ?_
  refine ea_aload_n (pc := 52) dX5_readProduct_52 rfl 0 rfl ?_
  obtain ⟨z27, H⟩ := H
  refine ea_callV (pc := 53) (d' := d - 1) (As := []) (st := []) dX5_readProduct_53 kX5_step (sX5_step (d := d - 1) (by omega) hs_h z27) (by omega) rfl (Nat.le_of_ble_eq_true rfl) ew_859 ew_861 ew_22 (ci := 5) rfl (by decide) (hs_h.1 22 (by decide)).1 (hs_h.1 22 (by decide)).2.1 ?_
  obtain ⟨h2, E28⟩ : ∃ z, z = (wX5_step b0 h) := ⟨_, rfl⟩
  have H := H h2 E28
  refine ea_nm E28 ?_
  have hs_h2 : ShC b0 h2 := by rw [E28]; exact shX5_step hs_h
  refine ea_iload_n (pc := 56) dX5_readProduct_56 rfl 3 rfl ?_
  refine ea_if_eq (pc := 57) (tgt := 75) dX5_readProduct_57 rfl (fun c26 => ?_) (fun c26 => ?_)
  · have H := H.1 c26
    exact H
  · have H := H.2 c26
    refine ea_aload_n (pc := 60) dX5_readProduct_60 rfl 0 rfl ?_
    refine ea_getI (pc := 61) dX5_readProduct_61 ec_5 (k := 9) (Nat.le_of_ble_eq_true rfl) rfl (Or.inl ew_303) (hs_h2.1 22 (by decide)).1 (hs_h2.1 22 (by decide)).2.1 ?_
    refine ea_bipush (pc := 64) dX5_readProduct_64 (v := 18) rfl ?_
    refine ea_icmp_eq (pc := 66) (tgt := 75) dX5_readProduct_66 rfl (fun c25 => ?_) (fun c25 => ?_)
    · have H := H.1 c25
      exact H
    · have H := H.2 c25
      refine ea_aload_n (pc := 69) dX5_readProduct_69 rfl 0 rfl ?_
      refine ea_iconst (pc := 70) dX5_readProduct_70 (v := 1) rfl ?_
      obtain ⟨z23, H⟩ := H
      refine ea_callV (pc := 71) (d' := d - 1) (As := [vI 1]) (st := []) dX5_readProduct_71 kX5_refuse (sX5_refuse (d := d - 1) (by omega) hs_h2 z23) (by omega) rfl (Nat.le_of_ble_eq_true rfl) ew_851 ew_853 ew_20 (ci := 5) rfl (by decide) (hs_h2.1 22 (by decide)).1 (hs_h2.1 22 (by decide)).2.1 ?_
      obtain ⟨h17, E24⟩ : ∃ z, z = (wX5_refuse b0 (1 : Int32) h2) := ⟨_, rfl⟩
      have H := H h17 E24
      refine ea_nm E24 ?_
      have hs_h17 : ShC b0 h17 := by rw [E24]; exact shX5_refuse hs_h2
      obtain ⟨z22, rfl, rfl⟩ := H
      exact ea_ireturn (pc := 74) dX5_readProduct_74 rfl (ea_bn z22)
theorem pX5_readProduct_75 {d b0 : Nat} {h0 hE h : ea_H} {rv : Option ea_V} {x1 : Int32} {x2 : Int32} {x3 : Int32} (hd : 2 ≤ d) (hs_h : ShC b0 h) (H : (x3 = (0 : Int32) → ea_W mX5_readProduct d h0 rv hE 97 [(0, vR (some (b0 + 22))), (1, vI x1), (2, vI x2), (3, vI x3)] [] h) ∧ (¬ x3 = (0 : Int32) → vp_in (ea_i h (b0 + 22) 8) 601 ∧ (¬ (ea_i h (b0 + 26) (Int32.toNatClampNeg (ea_i h (b0 + 22) 8))) = (0 : Int32) → ea_W mX5_readProduct d h0 rv hE 97 [(0, vR (some (b0 + 22))), (1, vI x1), (2, vI x2), (3, vI x3)] [] h) ∧ ((ea_i h (b0 + 26) (Int32.toNatClampNeg (ea_i h (b0 + 22) 8))) = (0 : Int32) → (okX5_refuse b0 (2 : Int32) h) ∧ ∀ h3, h3 = (wX5_refuse b0 (2 : Int32) h) → ((vX5_refuse b0 (2 : Int32) h) = 0 ∨ (vX5_refuse b0 (2 : Int32) h) = 1) ∧ rv = some (vI (vX5_refuse b0 (2 : Int32) h)) ∧ hE = h3))) : ea_W mX5_readProduct d h0 rv hE 75 [(0, vR (some (b0 + 22))), (1, vI x1), (2, vI x2), (3, vI x3)] [] h := by
  refine ea_iload_n (pc := 75) dX5_readProduct_75 rfl 3 rfl ?_
  refine ea_if_eq (pc := 76) (tgt := 97) dX5_readProduct_76 rfl (fun c12 => ?_) (fun c12 => ?_)
  · have H := H.1 c12
    exact H
  · have H := H.2 c12
    refine ea_aload_n (pc := 79) dX5_readProduct_79 rfl 0 rfl ?_
    refine ea_getR (pc := 80) dX5_readProduct_80 ec_5 (k := 6) (Nat.le_of_ble_eq_true rfl) rfl (Or.inl ew_300) (hs_h.1 22 (by decide)).1 (hs_h.1 22 (by decide)).2.1 (hs_h.2 22 6 rfl) ?_
    refine ea_aload_n (pc := 83) dX5_readProduct_83 rfl 0 rfl ?_
    refine ea_getI (pc := 84) dX5_readProduct_84 ec_5 (k := 8) (Nat.le_of_ble_eq_true rfl) rfl (Or.inl ew_302) (hs_h.1 22 (by decide)).1 (hs_h.1 22 (by decide)).2.1 ?_
    obtain ⟨z1, H⟩ := H
    refine ea_iald (pc := 87) dX5_readProduct_87 (hs_h.1 26 (by decide)).1 (hs_h.1 26 (by decide)).2.1 (ea_vpl (hs_h.1 26 (by decide)).2.2 z1) ?_
    refine ea_if_ne (pc := 88) (tgt := 97) dX5_readProduct_88 rfl (fun c11 => ?_) (fun c11 => ?_)
    · have H := H.1 c11
      exact H
    · have H := H.2 c11
      refine ea_aload_n (pc := 91) dX5_readProduct_91 rfl 0 rfl ?_
      refine ea_iconst (pc := 92) dX5_readProduct_92 (v := 2) rfl ?_
      obtain ⟨z9, H⟩ := H
      refine ea_callV (pc := 93) (d' := d - 1) (As := [vI 2]) (st := []) dX5_readProduct_93 kX5_refuse (sX5_refuse (d := d - 1) (by omega) hs_h z9) (by omega) rfl (Nat.le_of_ble_eq_true rfl) ew_851 ew_853 ew_20 (ci := 5) rfl (by decide) (hs_h.1 22 (by decide)).1 (hs_h.1 22 (by decide)).2.1 ?_
      obtain ⟨h3, E10⟩ : ∃ z, z = (wX5_refuse b0 (2 : Int32) h) := ⟨_, rfl⟩
      have H := H h3 E10
      refine ea_nm E10 ?_
      have hs_h3 : ShC b0 h3 := by rw [E10]; exact shX5_refuse hs_h
      obtain ⟨z8, rfl, rfl⟩ := H
      exact ea_ireturn (pc := 96) dX5_readProduct_96 rfl (ea_bn z8)
theorem pX5_readProduct_97 {d b0 : Nat} {h0 hE h : ea_H} {rv : Option ea_V} {x1 : Int32} {x2 : Int32} {x3 : Int32} (hd : 2 ≤ d) (hs_h : ShC b0 h) (H : ∃ (d1 : Nat) (xc5 : Int32) (h2 : ea_H), ea_Met mX5_readUnit d1 [vR (some (b0 + 22)), vI x1] h (some (vI xc5)) h2 ∧ d1 + 1 ≤ d ∧ ShC b0 h2 ∧ (¬ xc5 = (0 : Int32) → (x3 = (0 : Int32) → (okX5_put b0 ((-12) : Int32) h2) ∧ ∀ h7, h7 = (wX5_put b0 ((-12) : Int32) h2) → ea_W mX5_readProduct d h0 rv hE 12 [(0, vR (some (b0 + 22))), (1, vI x1), (2, vI (x2 + 1))] [] h7) ∧ (¬ x3 = (0 : Int32) → (okX5_put b0 ((-13) : Int32) h2) ∧ ∀ h13, h13 = (wX5_put b0 ((-13) : Int32) h2) → ea_W mX5_readProduct d h0 rv hE 12 [(0, vR (some (b0 + 22))), (1, vI x1), (2, vI (x2 + 1))] [] h13)) ∧ (xc5 = (0 : Int32) → rv = some (vI 0) ∧ hE = h2)) : ea_W mX5_readProduct d h0 rv hE 97 [(0, vR (some (b0 + 22))), (1, vI x1), (2, vI x2), (3, vI x3)] [] h := by
  refine ea_aload_n (pc := 97) dX5_readProduct_97 rfl 0 rfl ?_
  refine ea_iload_n (pc := 98) dX5_readProduct_98 rfl 1 rfl ?_
  obtain ⟨d1, xc5, h2, m3, q4, hs_h2, H⟩ := H
  refine ea_callV (pc := 99) (As := [vI x1]) (st := []) dX5_readProduct_99 kX5_readUnit m3 q4 rfl (Nat.le_of_ble_eq_true rfl) ew_871 ew_873 ew_25 (ci := 5) rfl (by decide) (hs_h.1 22 (by decide)).1 (hs_h.1 22 (by decide)).2.1 ?_
  refine ea_if_ne (pc := 102) (tgt := 107) dX5_readProduct_102 rfl (fun c19 => ?_) (fun c19 => ?_)
  · have H := H.1 c19
    refine ea_aload_n (pc := 107) dX5_readProduct_107 rfl 0 rfl ?_
    refine ea_iload_n (pc := 108) dX5_readProduct_108 rfl 3 rfl ?_
    refine ea_if_eq (pc := 109) (tgt := 117) dX5_readProduct_109 rfl (fun c18 => ?_) (fun c18 => ?_)
    · have H := H.1 c18
      refine ea_bipush (pc := 117) dX5_readProduct_117 (v := (-12)) rfl ?_
      obtain ⟨z10, H⟩ := H
      refine ea_callV (pc := 119) (d' := d - 1) (As := [vI (-12)]) (st := []) dX5_readProduct_119 kX5_put (sX5_put (d := d - 1) (by omega) hs_h2 z10) (by omega) rfl (Nat.le_of_ble_eq_true rfl) ew_875 ew_877 ew_26 (ci := 5) rfl (by decide) (hs_h2.1 22 (by decide)).1 (hs_h2.1 22 (by decide)).2.1 ?_
      obtain ⟨h7, E11⟩ : ∃ z, z = (wX5_put b0 ((-12) : Int32) h2) := ⟨_, rfl⟩
      have H := H h7 E11
      refine ea_nm E11 ?_
      have hs_h7 : ShC b0 h7 := by rw [E11]; exact shX5_put hs_h2
      refine ea_iinc (pc := 122) (v := 1) (lv' := [(0, vR (some (b0 + 22))), (1, vI x1), (2, vI (x2 + 1))]) dX5_readProduct_122 2 rfl rfl (Nat.le_of_ble_eq_true rfl) [1, 2, 0] rfl ?_
      refine ea_goto (pc := 125) (tgt := 12) dX5_readProduct_125 rfl ?_
      exact H
    · have H := H.2 c18
      refine ea_bipush (pc := 112) dX5_readProduct_112 (v := (-13)) rfl ?_
      refine ea_goto (pc := 114) (tgt := 119) dX5_readProduct_114 rfl ?_
      obtain ⟨z16, H⟩ := H
      refine ea_callV (pc := 119) (d' := d - 1) (As := [vI (-13)]) (st := []) dX5_readProduct_119 kX5_put (sX5_put (d := d - 1) (by omega) hs_h2 z16) (by omega) rfl (Nat.le_of_ble_eq_true rfl) ew_875 ew_877 ew_26 (ci := 5) rfl (by decide) (hs_h2.1 22 (by decide)).1 (hs_h2.1 22 (by decide)).2.1 ?_
      obtain ⟨h13, E17⟩ : ∃ z, z = (wX5_put b0 ((-13) : Int32) h2) := ⟨_, rfl⟩
      have H := H h13 E17
      refine ea_nm E17 ?_
      have hs_h13 : ShC b0 h13 := by rw [E17]; exact shX5_put hs_h2
      refine ea_iinc (pc := 122) (v := 1) (lv' := [(0, vR (some (b0 + 22))), (1, vI x1), (2, vI (x2 + 1))]) dX5_readProduct_122 2 rfl rfl (Nat.le_of_ble_eq_true rfl) [1, 2, 0] rfl ?_
      refine ea_goto (pc := 125) (tgt := 12) dX5_readProduct_125 rfl ?_
      exact H
  · have H := H.2 c19
    refine ea_iconst (pc := 105) dX5_readProduct_105 (v := 0) rfl ?_
    obtain ⟨rfl, rfl⟩ := H
    exact ea_ireturn (pc := 106) dX5_readProduct_106 rfl (ea_bn (Or.inl rfl))
theorem pX5_readUnit_0 {d b0 : Nat} {h0 hE h : ea_H} {rv : Option ea_V} {x1 : Int32} (hd : 2 ≤ d) (hs_h : ShC b0 h) (H : (¬ (ea_i h (b0 + 22) 9) = (18 : Int32) → ((ea_i h (b0 + 22) 9) < (6 : Int32) → ea_W mX5_readUnit d h0 rv hE 65 [(0, vR (some (b0 + 22))), (1, vI x1)] [] h) ∧ (¬ (ea_i h (b0 + 22) 9) < (6 : Int32) → ((12 : Int32) < (ea_i h (b0 + 22) 9) → ea_W mX5_readUnit d h0 rv hE 65 [(0, vR (some (b0 + 22))), (1, vI x1)] [] h) ∧ (¬ (12 : Int32) < (ea_i h (b0 + 22) 9) → (okX5_put b0 ((((-1) : Int32) - ((ea_i h (b0 + 22) 9) - (6 : Int32))) : Int32) h) ∧ ∀ h2, h2 = (wX5_put b0 ((((-1) : Int32) - ((ea_i h (b0 + 22) 9) - (6 : Int32))) : Int32) h) → (okX5_step b0 h2) ∧ ∀ h12, h12 = (wX5_step b0 h2) → rv = some (vI 1) ∧ hE = h12))) ∧ ((ea_i h (b0 + 22) 9) = (18 : Int32) → vp_in (ea_i h (b0 + 22) 8) 601 ∧ (okX5_put b0 ((ea_i h (b0 + 26) (Int32.toNatClampNeg (ea_i h (b0 + 22) 8))) : Int32) h) ∧ ∀ h23, h23 = (wX5_put b0 ((ea_i h (b0 + 26) (Int32.toNatClampNeg (ea_i h (b0 + 22) 8))) : Int32) h) → (okX5_step b0 h23) ∧ ∀ h33, h33 = (wX5_step b0 h23) → rv = some (vI 1) ∧ hE = h33)) : ea_W mX5_readUnit d h0 rv hE 0 [(0, vR (some (b0 + 22))), (1, vI x1)] [] h := by
  refine ea_aload_n (pc := 0) dX5_readUnit_0 rfl 0 rfl ?_
  refine ea_getI (pc := 1) dX5_readUnit_1 ec_5 (k := 9) (Nat.le_of_ble_eq_true rfl) rfl (Or.inl ew_303) (hs_h.1 22 (by decide)).1 (hs_h.1 22 (by decide)).2.1 ?_
  refine ea_bipush (pc := 4) dX5_readUnit_4 (v := 18) rfl ?_
  refine ea_icmp_ne (pc := 6) (tgt := 28) dX5_readUnit_6 rfl (fun c40 => ?_) (fun c40 => ?_)
  · have H := H.1 c40
    refine ea_aload_n (pc := 28) dX5_readUnit_28 rfl 0 rfl ?_
    refine ea_getI (pc := 29) dX5_readUnit_29 ec_5 (k := 9) (Nat.le_of_ble_eq_true rfl) rfl (Or.inl ew_303) (hs_h.1 22 (by decide)).1 (hs_h.1 22 (by decide)).2.1 ?_
    refine ea_bipush (pc := 32) dX5_readUnit_32 (v := 6) rfl ?_
    refine ea_icmp_lt (pc := 34) (tgt := 65) dX5_readUnit_34 rfl (fun c20 => ?_) (fun c20 => ?_)
    · have H := H.1 c20
      exact H
    · have H := H.2 c20
      refine ea_aload_n (pc := 37) dX5_readUnit_37 rfl 0 rfl ?_
      refine ea_getI (pc := 38) dX5_readUnit_38 ec_5 (k := 9) (Nat.le_of_ble_eq_true rfl) rfl (Or.inl ew_303) (hs_h.1 22 (by decide)).1 (hs_h.1 22 (by decide)).2.1 ?_
      refine ea_bipush (pc := 41) dX5_readUnit_41 (v := 12) rfl ?_
      refine ea_icmp_gt (pc := 43) (tgt := 65) dX5_readUnit_43 rfl (fun c19 => ?_) (fun c19 => ?_)
      · have H := H.1 c19
        exact H
      · have H := H.2 c19
        refine ea_aload_n (pc := 46) dX5_readUnit_46 rfl 0 rfl ?_
        refine ea_iconst (pc := 47) dX5_readUnit_47 (v := (-1)) rfl ?_
        refine ea_aload_n (pc := 48) dX5_readUnit_48 rfl 0 rfl ?_
        refine ea_getI (pc := 49) dX5_readUnit_49 ec_5 (k := 9) (Nat.le_of_ble_eq_true rfl) rfl (Or.inl ew_303) (hs_h.1 22 (by decide)).1 (hs_h.1 22 (by decide)).2.1 ?_
        refine ea_bipush (pc := 52) dX5_readUnit_52 (v := 6) rfl ?_
        refine ea_isub (pc := 54) dX5_readUnit_54 ?_
        refine ea_isub (pc := 55) dX5_readUnit_55 ?_
        obtain ⟨z17, H⟩ := H
        refine ea_callV (pc := 56) (d' := d - 1) (As := [vI (((-1) : Int32) - ((ea_i h (b0 + 22) 9) - (6 : Int32)))]) (st := []) dX5_readUnit_56 kX5_put (sX5_put (d := d - 1) (by omega) hs_h z17) (by omega) rfl (Nat.le_of_ble_eq_true rfl) ew_875 ew_877 ew_26 (ci := 5) rfl (by decide) (hs_h.1 22 (by decide)).1 (hs_h.1 22 (by decide)).2.1 ?_
        obtain ⟨h2, E18⟩ : ∃ z, z = (wX5_put b0 ((((-1) : Int32) - ((ea_i h (b0 + 22) 9) - (6 : Int32))) : Int32) h) := ⟨_, rfl⟩
        have H := H h2 E18
        refine ea_nm E18 ?_
        have hs_h2 : ShC b0 h2 := by rw [E18]; exact shX5_put hs_h
        refine ea_aload_n (pc := 59) dX5_readUnit_59 rfl 0 rfl ?_
        obtain ⟨z15, H⟩ := H
        refine ea_callV (pc := 60) (d' := d - 1) (As := []) (st := []) dX5_readUnit_60 kX5_step (sX5_step (d := d - 1) (by omega) hs_h2 z15) (by omega) rfl (Nat.le_of_ble_eq_true rfl) ew_859 ew_861 ew_22 (ci := 5) rfl (by decide) (hs_h2.1 22 (by decide)).1 (hs_h2.1 22 (by decide)).2.1 ?_
        obtain ⟨h12, E16⟩ : ∃ z, z = (wX5_step b0 h2) := ⟨_, rfl⟩
        have H := H h12 E16
        refine ea_nm E16 ?_
        have hs_h12 : ShC b0 h12 := by rw [E16]; exact shX5_step hs_h2
        refine ea_iconst (pc := 63) dX5_readUnit_63 (v := 1) rfl ?_
        obtain ⟨rfl, rfl⟩ := H
        exact ea_ireturn (pc := 64) dX5_readUnit_64 rfl (ea_bn (Or.inr rfl))
  · have H := H.2 c40
    refine ea_aload_n (pc := 9) dX5_readUnit_9 rfl 0 rfl ?_
    refine ea_aload_n (pc := 10) dX5_readUnit_10 rfl 0 rfl ?_
    refine ea_getR (pc := 11) dX5_readUnit_11 ec_5 (k := 6) (Nat.le_of_ble_eq_true rfl) rfl (Or.inl ew_300) (hs_h.1 22 (by decide)).1 (hs_h.1 22 (by decide)).2.1 (hs_h.2 22 6 rfl) ?_
    refine ea_aload_n (pc := 14) dX5_readUnit_14 rfl 0 rfl ?_
    refine ea_getI (pc := 15) dX5_readUnit_15 ec_5 (k := 8) (Nat.le_of_ble_eq_true rfl) rfl (Or.inl ew_302) (hs_h.1 22 (by decide)).1 (hs_h.1 22 (by decide)).2.1 ?_
    obtain ⟨z21, H⟩ := H
    refine ea_iald (pc := 18) dX5_readUnit_18 (hs_h.1 26 (by decide)).1 (hs_h.1 26 (by decide)).2.1 (ea_vpl (hs_h.1 26 (by decide)).2.2 z21) ?_
    obtain ⟨z38, H⟩ := H
    refine ea_callV (pc := 19) (d' := d - 1) (As := [vI (ea_i h (b0 + 26) (Int32.toNatClampNeg (ea_i h (b0 + 22) 8)))]) (st := []) dX5_readUnit_19 kX5_put (sX5_put (d := d - 1) (by omega) hs_h z38) (by omega) rfl (Nat.le_of_ble_eq_true rfl) ew_875 ew_877 ew_26 (ci := 5) rfl (by decide) (hs_h.1 22 (by decide)).1 (hs_h.1 22 (by decide)).2.1 ?_
    obtain ⟨h23, E39⟩ : ∃ z, z = (wX5_put b0 ((ea_i h (b0 + 26) (Int32.toNatClampNeg (ea_i h (b0 + 22) 8))) : Int32) h) := ⟨_, rfl⟩
    have H := H h23 E39
    refine ea_nm E39 ?_
    have hs_h23 : ShC b0 h23 := by rw [E39]; exact shX5_put hs_h
    refine ea_aload_n (pc := 22) dX5_readUnit_22 rfl 0 rfl ?_
    obtain ⟨z36, H⟩ := H
    refine ea_callV (pc := 23) (d' := d - 1) (As := []) (st := []) dX5_readUnit_23 kX5_step (sX5_step (d := d - 1) (by omega) hs_h23 z36) (by omega) rfl (Nat.le_of_ble_eq_true rfl) ew_859 ew_861 ew_22 (ci := 5) rfl (by decide) (hs_h23.1 22 (by decide)).1 (hs_h23.1 22 (by decide)).2.1 ?_
    obtain ⟨h33, E37⟩ : ∃ z, z = (wX5_step b0 h23) := ⟨_, rfl⟩
    have H := H h33 E37
    refine ea_nm E37 ?_
    have hs_h33 : ShC b0 h33 := by rw [E37]; exact shX5_step hs_h23
    refine ea_iconst (pc := 26) dX5_readUnit_26 (v := 1) rfl ?_
    obtain ⟨rfl, rfl⟩ := H
    exact ea_ireturn (pc := 27) dX5_readUnit_27 rfl (ea_bn (Or.inr rfl))
theorem pX5_readUnit_65 {d b0 : Nat} {h0 hE h : ea_H} {rv : Option ea_V} {x1 : Int32} (hd : 2 ≤ d) (hs_h : ShC b0 h) (H : ((ea_i h (b0 + 22) 9) = (40 : Int32) → (x1 < (8 : Int32) → (okX5_step b0 h) ∧ ∀ h2, h2 = (wX5_step b0 h) → ∃ (d27 : Nat) (xc31 : Int32) (h28 : ea_H), ea_Met mX5_readSum d27 [vR (some (b0 + 22)), vI (x1 + (1 : Int32))] h2 (some (vI xc31)) h28 ∧ d27 + 1 ≤ d ∧ ShC b0 h28 ∧ (¬ xc31 = (0 : Int32) → ((ea_i h28 (b0 + 22) 9) = (41 : Int32) → (okX5_step b0 h28) ∧ ∀ h33, h33 = (wX5_step b0 h28) → rv = some (vI 1) ∧ hE = h33) ∧ (¬ (ea_i h28 (b0 + 22) 9) = (41 : Int32) → (okX5_refuse b0 (1 : Int32) h28) ∧ ∀ h39, h39 = (wX5_refuse b0 (1 : Int32) h28) → ((vX5_refuse b0 (1 : Int32) h28) = 0 ∨ (vX5_refuse b0 (1 : Int32) h28) = 1) ∧ rv = some (vI (vX5_refuse b0 (1 : Int32) h28)) ∧ hE = h39)) ∧ (xc31 = (0 : Int32) → rv = some (vI 0) ∧ hE = h28)) ∧ (¬ x1 < (8 : Int32) → (okX5_refuse b0 (3 : Int32) h) ∧ ∀ h52, h52 = (wX5_refuse b0 (3 : Int32) h) → ((vX5_refuse b0 (3 : Int32) h) = 0 ∨ (vX5_refuse b0 (3 : Int32) h) = 1) ∧ rv = some (vI (vX5_refuse b0 (3 : Int32) h)) ∧ hE = h52)) ∧ (¬ (ea_i h (b0 + 22) 9) = (40 : Int32) → (okX5_refuse b0 (1 : Int32) h) ∧ ∀ h62, h62 = (wX5_refuse b0 (1 : Int32) h) → ((vX5_refuse b0 (1 : Int32) h) = 0 ∨ (vX5_refuse b0 (1 : Int32) h) = 1) ∧ rv = some (vI (vX5_refuse b0 (1 : Int32) h)) ∧ hE = h62)) : ea_W mX5_readUnit d h0 rv hE 65 [(0, vR (some (b0 + 22))), (1, vI x1)] [] h := by
  refine ea_aload_n (pc := 65) dX5_readUnit_65 rfl 0 rfl ?_
  refine ea_getI (pc := 66) dX5_readUnit_66 ec_5 (k := 9) (Nat.le_of_ble_eq_true rfl) rfl (Or.inl ew_303) (hs_h.1 22 (by decide)).1 (hs_h.1 22 (by decide)).2.1 ?_
  refine ea_bipush (pc := 69) dX5_readUnit_69 (v := 40) rfl ?_
  refine ea_icmp_eq (pc := 71) (tgt := 80) dX5_readUnit_71 rfl (fun c70 => ?_) (fun c70 => ?_)
  · have H := H.1 c70
    refine ea_iload_n (pc := 80) dX5_readUnit_80 rfl 1 rfl ?_
    refine ea_bipush (pc := 81) dX5_readUnit_81 (v := 8) rfl ?_
    refine ea_icmp_lt (pc := 83) (tgt := 92) dX5_readUnit_83 rfl (fun c60 => ?_) (fun c60 => ?_)
    · have H := H.1 c60
      refine ea_aload_n (pc := 92) dX5_readUnit_92 rfl 0 rfl ?_
      obtain ⟨z49, H⟩ := H
      refine ea_callV (pc := 93) (d' := d - 1) (As := []) (st := []) dX5_readUnit_93 kX5_step (sX5_step (d := d - 1) (by omega) hs_h z49) (by omega) rfl (Nat.le_of_ble_eq_true rfl) ew_859 ew_861 ew_22 (ci := 5) rfl (by decide) (hs_h.1 22 (by decide)).1 (hs_h.1 22 (by decide)).2.1 ?_
      obtain ⟨h2, E50⟩ : ∃ z, z = (wX5_step b0 h) := ⟨_, rfl⟩
      have H := H h2 E50
      refine ea_nm E50 ?_
      have hs_h2 : ShC b0 h2 := by rw [E50]; exact shX5_step hs_h
      refine ea_aload_n (pc := 96) dX5_readUnit_96 rfl 0 rfl ?_
      refine ea_iload_n (pc := 97) dX5_readUnit_97 rfl 1 rfl ?_
      refine ea_iconst (pc := 98) dX5_readUnit_98 (v := 1) rfl ?_
      refine ea_iadd (pc := 99) dX5_readUnit_99 ?_
      obtain ⟨d27, xc31, h28, m29, q30, hs_h28, H⟩ := H
      refine ea_callV (pc := 100) (As := [vI (x1 + (1 : Int32))]) (st := []) dX5_readUnit_100 kX5_readSum m29 q30 rfl (Nat.le_of_ble_eq_true rfl) ew_863 ew_865 ew_23 (ci := 5) rfl (by decide) (hs_h2.1 22 (by decide)).1 (hs_h2.1 22 (by decide)).2.1 ?_
      refine ea_if_ne (pc := 103) (tgt := 108) dX5_readUnit_103 rfl (fun c48 => ?_) (fun c48 => ?_)
      · have H := H.1 c48
        refine ea_aload_n (pc := 108) dX5_readUnit_108 rfl 0 rfl ?_
        refine ea_getI (pc := 109) dX5_readUnit_109 ec_5 (k := 9) (Nat.le_of_ble_eq_true rfl) rfl (Or.inl ew_303) (hs_h28.1 22 (by decide)).1 (hs_h28.1 22 (by decide)).2.1 ?_
        refine ea_bipush (pc := 112) dX5_readUnit_112 (v := 41) rfl ?_
        refine ea_icmp_eq (pc := 114) (tgt := 123) dX5_readUnit_114 rfl (fun c47 => ?_) (fun c47 => ?_)
        · have H := H.1 c47
          refine ea_aload_n (pc := 123) dX5_readUnit_123 rfl 0 rfl ?_
          obtain ⟨z36, H⟩ := H
          refine ea_callV (pc := 124) (d' := d - 1) (As := []) (st := []) dX5_readUnit_124 kX5_step (sX5_step (d := d - 1) (by omega) hs_h28 z36) (by omega) rfl (Nat.le_of_ble_eq_true rfl) ew_859 ew_861 ew_22 (ci := 5) rfl (by decide) (hs_h28.1 22 (by decide)).1 (hs_h28.1 22 (by decide)).2.1 ?_
          obtain ⟨h33, E37⟩ : ∃ z, z = (wX5_step b0 h28) := ⟨_, rfl⟩
          have H := H h33 E37
          refine ea_nm E37 ?_
          have hs_h33 : ShC b0 h33 := by rw [E37]; exact shX5_step hs_h28
          refine ea_iconst (pc := 127) dX5_readUnit_127 (v := 1) rfl ?_
          obtain ⟨rfl, rfl⟩ := H
          exact ea_ireturn (pc := 128) dX5_readUnit_128 rfl (ea_bn (Or.inr rfl))
        · have H := H.2 c47
          refine ea_aload_n (pc := 117) dX5_readUnit_117 rfl 0 rfl ?_
          refine ea_iconst (pc := 118) dX5_readUnit_118 (v := 1) rfl ?_
          obtain ⟨z45, H⟩ := H
          refine ea_callV (pc := 119) (d' := d - 1) (As := [vI 1]) (st := []) dX5_readUnit_119 kX5_refuse (sX5_refuse (d := d - 1) (by omega) hs_h28 z45) (by omega) rfl (Nat.le_of_ble_eq_true rfl) ew_851 ew_853 ew_20 (ci := 5) rfl (by decide) (hs_h28.1 22 (by decide)).1 (hs_h28.1 22 (by decide)).2.1 ?_
          obtain ⟨h39, E46⟩ : ∃ z, z = (wX5_refuse b0 (1 : Int32) h28) := ⟨_, rfl⟩
          have H := H h39 E46
          refine ea_nm E46 ?_
          have hs_h39 : ShC b0 h39 := by rw [E46]; exact shX5_refuse hs_h28
          obtain ⟨z44, rfl, rfl⟩ := H
          exact ea_ireturn (pc := 122) dX5_readUnit_122 rfl (ea_bn z44)
      · have H := H.2 c48
        refine ea_iconst (pc := 106) dX5_readUnit_106 (v := 0) rfl ?_
        obtain ⟨rfl, rfl⟩ := H
        exact ea_ireturn (pc := 107) dX5_readUnit_107 rfl (ea_bn (Or.inl rfl))
    · have H := H.2 c60
      refine ea_aload_n (pc := 86) dX5_readUnit_86 rfl 0 rfl ?_
      refine ea_iconst (pc := 87) dX5_readUnit_87 (v := 3) rfl ?_
      obtain ⟨z58, H⟩ := H
      refine ea_callV (pc := 88) (d' := d - 1) (As := [vI 3]) (st := []) dX5_readUnit_88 kX5_refuse (sX5_refuse (d := d - 1) (by omega) hs_h z58) (by omega) rfl (Nat.le_of_ble_eq_true rfl) ew_851 ew_853 ew_20 (ci := 5) rfl (by decide) (hs_h.1 22 (by decide)).1 (hs_h.1 22 (by decide)).2.1 ?_
      obtain ⟨h52, E59⟩ : ∃ z, z = (wX5_refuse b0 (3 : Int32) h) := ⟨_, rfl⟩
      have H := H h52 E59
      refine ea_nm E59 ?_
      have hs_h52 : ShC b0 h52 := by rw [E59]; exact shX5_refuse hs_h
      obtain ⟨z57, rfl, rfl⟩ := H
      exact ea_ireturn (pc := 91) dX5_readUnit_91 rfl (ea_bn z57)
  · have H := H.2 c70
    refine ea_aload_n (pc := 74) dX5_readUnit_74 rfl 0 rfl ?_
    refine ea_iconst (pc := 75) dX5_readUnit_75 (v := 1) rfl ?_
    obtain ⟨z68, H⟩ := H
    refine ea_callV (pc := 76) (d' := d - 1) (As := [vI 1]) (st := []) dX5_readUnit_76 kX5_refuse (sX5_refuse (d := d - 1) (by omega) hs_h z68) (by omega) rfl (Nat.le_of_ble_eq_true rfl) ew_851 ew_853 ew_20 (ci := 5) rfl (by decide) (hs_h.1 22 (by decide)).1 (hs_h.1 22 (by decide)).2.1 ?_
    obtain ⟨h62, E69⟩ : ∃ z, z = (wX5_refuse b0 (1 : Int32) h) := ⟨_, rfl⟩
    have H := H h62 E69
    refine ea_nm E69 ?_
    have hs_h62 : ShC b0 h62 := by rw [E69]; exact shX5_refuse hs_h
    obtain ⟨z67, rfl, rfl⟩ := H
    exact ea_ireturn (pc := 79) dX5_readUnit_79 rfl (ea_bn z67)
theorem pX5_scan_0 {d b0 : Nat} {h0 hE h : ea_H} {rv : Option ea_V}  (hd : 2 ≤ d) (hs_h : ShC b0 h) (H : ∀ h1, h1 = ea_wi h (b0 + 22) 7 0 → ea_W mX5_scan d h0 rv hE 7 [(0, vR (some (b0 + 22))), (1, vI 0)] [] h1) : ea_W mX5_scan d h0 rv hE 0 [(0, vR (some (b0 + 22)))] [] h := by
  refine ea_aload_n (pc := 0) dX5_scan_0 rfl 0 rfl ?_
  refine ea_iconst (pc := 1) dX5_scan_1 (v := 0) rfl ?_
  refine ea_putI (pc := 2) dX5_scan_2 ec_5 (k := 7) (Nat.le_of_ble_eq_true rfl) rfl (Or.inl ⟨rfl, Or.inl ew_301⟩) rfl rfl (hs_h.1 22 (by decide)).1 (hs_h.1 22 (by decide)).2.1 ?_
  obtain ⟨h1, E2⟩ : ∃ z, z = ea_wi h (b0 + 22) 7 0 := ⟨_, rfl⟩
  have H := H h1 E2
  refine ea_nm E2 ?_
  have hs_h1 : ShC b0 h1 := by rw [E2]; exact ShC_wi hs_h
  refine ea_iconst (pc := 5) dX5_scan_5 (v := 0) rfl ?_
  refine ea_istore_n (pc := 6) (lv' := [(0, vR (some (b0 + 22))), (1, vI 0)]) dX5_scan_6 rfl (Nat.le_of_ble_eq_true rfl) [1, 0] rfl ?_
  exact H
theorem pX5_scan_7 {d b0 : Nat} {h0 hE h : ea_H} {rv : Option ea_V} {x1 : Int32} (hd : 2 ≤ d) (hs_h : ShC b0 h) (H : ((ea_i h (b0 + 22) 0) ≤ x1 → (okX5_addToken b0 (19 : Int32) ((ea_i h (b0 + 22) 0) : Int32) (0 : Int32) h) ∧ ∀ h2, h2 = (wX5_addToken b0 (19 : Int32) ((ea_i h (b0 + 22) 0) : Int32) (0 : Int32) h) → rv = none ∧ hE = h2) ∧ (¬ (ea_i h (b0 + 22) 0) ≤ x1 → vp_in x1 600 ∧ ((vX5_isLetter ((ea_i h (b0 + 23) (Int32.toNatClampNeg x1)) : Int32) h) = (0 : Int32) → ((vX5_isDigit ((ea_i h (b0 + 23) (Int32.toNatClampNeg x1)) : Int32) h) = (0 : Int32) → ((ea_i h (b0 + 23) (Int32.toNatClampNeg x1)) = (32 : Int32) → ea_W mX5_scan d h0 rv hE 7 [(0, vR (some (b0 + 22))), (1, vI (x1 + 1))] [] h) ∧ (¬ (ea_i h (b0 + 23) (Int32.toNatClampNeg x1)) = (32 : Int32) → ((ea_i h (b0 + 23) (Int32.toNatClampNeg x1)) = (10 : Int32) → ea_W mX5_scan d h0 rv hE 7 [(0, vR (some (b0 + 22))), (1, vI (x1 + 1))] [] h) ∧ (¬ (ea_i h (b0 + 23) (Int32.toNatClampNeg x1)) = (10 : Int32) → ((vX5_isSign ((ea_i h (b0 + 23) (Int32.toNatClampNeg x1)) : Int32) h) = (0 : Int32) → (okX5_addToken b0 (20 : Int32) (x1 : Int32) (0 : Int32) h) ∧ ∀ h169, h169 = (wX5_addToken b0 (20 : Int32) (x1 : Int32) (0 : Int32) h) → ea_W mX5_scan d h0 rv hE 7 [(0, vR (some (b0 + 22))), (1, vI (x1 + 1))] [] h169) ∧ (¬ (vX5_isSign ((ea_i h (b0 + 23) (Int32.toNatClampNeg x1)) : Int32) h) = (0 : Int32) → (okX5_addToken b0 ((ea_i h (b0 + 23) (Int32.toNatClampNeg x1)) : Int32) (x1 : Int32) (0 : Int32) h) ∧ ∀ h175, h175 = (wX5_addToken b0 ((ea_i h (b0 + 23) (Int32.toNatClampNeg x1)) : Int32) (x1 : Int32) (0 : Int32) h) → ea_W mX5_scan d h0 rv hE 7 [(0, vR (some (b0 + 22))), (1, vI (x1 + 1))] [] h175)))) ∧ (¬ (vX5_isDigit ((ea_i h (b0 + 23) (Int32.toNatClampNeg x1)) : Int32) h) = (0 : Int32) → ∃ (d184 : Nat) (xc188 : Int32) (h185 : ea_H), ea_Met mX5_scanNumber d184 [vR (some (b0 + 22)), vI x1] h (some (vI xc188)) h185 ∧ d184 + 1 ≤ d ∧ ShC b0 h185 ∧ ea_W mX5_scan d h0 rv hE 7 [(0, vR (some (b0 + 22))), (1, vI (xc188 + 1))] [] h185)) ∧ (¬ (vX5_isLetter ((ea_i h (b0 + 23) (Int32.toNatClampNeg x1)) : Int32) h) = (0 : Int32) → ∃ (d191 : Nat) (xc195 : Int32) (h192 : ea_H), ea_Met mX5_scanWord d191 [vR (some (b0 + 22)), vI x1] h (some (vI xc195)) h192 ∧ d191 + 1 ≤ d ∧ ShC b0 h192 ∧ ea_W mX5_scan d h0 rv hE 7 [(0, vR (some (b0 + 22))), (1, vI (xc195 + 1))] [] h192))) : ea_W mX5_scan d h0 rv hE 7 [(0, vR (some (b0 + 22))), (1, vI x1)] [] h := by
  refine ea_iload_n (pc := 7) dX5_scan_7 rfl 1 rfl ?_
  refine ea_aload_n (pc := 8) dX5_scan_8 rfl 0 rfl ?_
  refine ea_getI (pc := 9) dX5_scan_9 ec_5 (k := 0) (Nat.le_of_ble_eq_true rfl) rfl (Or.inl ew_291) (hs_h.1 22 (by decide)).1 (hs_h.1 22 (by decide)).2.1 ?_
  refine ea_icmp_ge (pc := 12) (tgt := 91) dX5_scan_12 rfl (fun c198 => ?_) (fun c198 => ?_)
  · have H := H.1 c198
    refine ea_aload_n (pc := 91) dX5_scan_91 rfl 0 rfl ?_
    refine ea_bipush (pc := 92) dX5_scan_92 (v := 19) rfl ?_
    refine ea_aload_n (pc := 94) dX5_scan_94 rfl 0 rfl ?_
    refine ea_getI (pc := 95) dX5_scan_95 ec_5 (k := 0) (Nat.le_of_ble_eq_true rfl) rfl (Or.inl ew_291) (hs_h.1 22 (by decide)).1 (hs_h.1 22 (by decide)).2.1 ?_
    refine ea_iconst (pc := 98) dX5_scan_98 (v := 0) rfl ?_
    obtain ⟨z5, H⟩ := H
    refine ea_callV (pc := 99) (d' := d - 1) (As := [vI 19, vI (ea_i h (b0 + 22) 0), vI 0]) (st := []) dX5_scan_99 kX5_addToken (sX5_addToken (d := d - 1) (by omega) hs_h z5) (by omega) rfl (Nat.le_of_ble_eq_true rfl) ew_771 ew_773 ew_18 (ci := 5) rfl (by decide) (hs_h.1 22 (by decide)).1 (hs_h.1 22 (by decide)).2.1 ?_
    obtain ⟨h2, E6⟩ : ∃ z, z = (wX5_addToken b0 (19 : Int32) ((ea_i h (b0 + 22) 0) : Int32) (0 : Int32) h) := ⟨_, rfl⟩
    have H := H h2 E6
    refine ea_nm E6 ?_
    have hs_h2 : ShC b0 h2 := by rw [E6]; exact shX5_addToken hs_h
    obtain ⟨rfl, rfl⟩ := H
    exact ea_return (pc := 102) dX5_scan_102 rfl
  · have H := H.2 c198
    refine ea_aload_n (pc := 15) dX5_scan_15 rfl 0 rfl ?_
    refine ea_getR (pc := 16) dX5_scan_16 ec_5 (k := 3) (Nat.le_of_ble_eq_true rfl) rfl (Or.inl ew_297) (hs_h.1 22 (by decide)).1 (hs_h.1 22 (by decide)).2.1 (hs_h.2 22 3 rfl) ?_
    refine ea_iload_n (pc := 19) dX5_scan_19 rfl 1 rfl ?_
    obtain ⟨z7, H⟩ := H
    refine ea_iald (pc := 20) dX5_scan_20 (hs_h.1 23 (by decide)).1 (hs_h.1 23 (by decide)).2.1 (ea_vpl (hs_h.1 23 (by decide)).2.2 z7) ?_
    refine ea_istore_n (pc := 21) (lv' := [(0, vR (some (b0 + 22))), (1, vI x1), (2, vI (ea_i h (b0 + 23) (Int32.toNatClampNeg x1)))]) dX5_scan_21 rfl (Nat.le_of_ble_eq_true rfl) [1, 2, 0] rfl ?_
    refine ea_iload_n (pc := 22) dX5_scan_22 rfl 2 rfl ?_
    refine ea_callS (pc := 23) (d' := d - 1) (As := [vI (ea_i h (b0 + 23) (Int32.toNatClampNeg x1))]) (st := []) dX5_scan_23 kX5_isLetter (sX5_isLetter (d := d - 1) (by omega)) (by omega) rfl (Nat.le_of_ble_eq_true rfl) ew_761 ew_762 ?_
    refine ea_if_eq (pc := 26) (tgt := 38) dX5_scan_26 rfl (fun c196 => ?_) (fun c196 => ?_)
    · have H := H.1 c196
      refine ea_iload_n (pc := 38) dX5_scan_38 rfl 2 rfl ?_
      refine ea_callS (pc := 39) (d' := d - 1) (As := [vI (ea_i h (b0 + 23) (Int32.toNatClampNeg x1))]) (st := []) dX5_scan_39 kX5_isDigit (sX5_isDigit (d := d - 1) (by omega)) (by omega) rfl (Nat.le_of_ble_eq_true rfl) ew_775 ew_776 ?_
      refine ea_if_eq (pc := 42) (tgt := 54) dX5_scan_42 rfl (fun c189 => ?_) (fun c189 => ?_)
      · have H := H.1 c189
        refine ea_iload_n (pc := 54) dX5_scan_54 rfl 2 rfl ?_
        refine ea_bipush (pc := 55) dX5_scan_55 (v := 32) rfl ?_
        refine ea_icmp_eq (pc := 57) (tgt := 85) dX5_scan_57 rfl (fun c183 => ?_) (fun c183 => ?_)
        · have H := H.1 c183
          refine ea_iinc (pc := 85) (v := 1) (lv' := [(0, vR (some (b0 + 22))), (1, vI (x1 + 1))]) dX5_scan_85 1 rfl rfl (Nat.le_of_ble_eq_true rfl) [1, 0] rfl ?_
          refine ea_goto (pc := 88) (tgt := 7) dX5_scan_88 rfl ?_
          exact H
        · have H := H.2 c183
          refine ea_iload_n (pc := 60) dX5_scan_60 rfl 2 rfl ?_
          refine ea_bipush (pc := 61) dX5_scan_61 (v := 10) rfl ?_
          refine ea_icmp_eq (pc := 63) (tgt := 85) dX5_scan_63 rfl (fun c182 => ?_) (fun c182 => ?_)
          · have H := H.1 c182
            refine ea_iinc (pc := 85) (v := 1) (lv' := [(0, vR (some (b0 + 22))), (1, vI (x1 + 1))]) dX5_scan_85 1 rfl rfl (Nat.le_of_ble_eq_true rfl) [1, 0] rfl ?_
            refine ea_goto (pc := 88) (tgt := 7) dX5_scan_88 rfl ?_
            exact H
          · have H := H.2 c182
            refine ea_aload_n (pc := 66) dX5_scan_66 rfl 0 rfl ?_
            refine ea_iload_n (pc := 67) dX5_scan_67 rfl 2 rfl ?_
            refine ea_callS (pc := 68) (d' := d - 1) (As := [vI (ea_i h (b0 + 23) (Int32.toNatClampNeg x1))]) (st := [vR (some (b0 + 22))]) dX5_scan_68 kX5_isSign (sX5_isSign (d := d - 1) (by omega)) (by omega) rfl (Nat.le_of_ble_eq_true rfl) ew_782 ew_783 ?_
            refine ea_if_eq (pc := 71) (tgt := 78) dX5_scan_71 rfl (fun c180 => ?_) (fun c180 => ?_)
            · have H := H.1 c180
              refine ea_bipush (pc := 78) dX5_scan_78 (v := 20) rfl ?_
              refine ea_iload_n (pc := 80) dX5_scan_80 rfl 1 rfl ?_
              refine ea_iconst (pc := 81) dX5_scan_81 (v := 0) rfl ?_
              obtain ⟨z172, H⟩ := H
              refine ea_callV (pc := 82) (d' := d - 1) (As := [vI 20, vI x1, vI 0]) (st := []) dX5_scan_82 kX5_addToken (sX5_addToken (d := d - 1) (by omega) hs_h z172) (by omega) rfl (Nat.le_of_ble_eq_true rfl) ew_771 ew_773 ew_18 (ci := 5) rfl (by decide) (hs_h.1 22 (by decide)).1 (hs_h.1 22 (by decide)).2.1 ?_
              obtain ⟨h169, E173⟩ : ∃ z, z = (wX5_addToken b0 (20 : Int32) (x1 : Int32) (0 : Int32) h) := ⟨_, rfl⟩
              have H := H h169 E173
              refine ea_nm E173 ?_
              have hs_h169 : ShC b0 h169 := by rw [E173]; exact shX5_addToken hs_h
              refine ea_iinc (pc := 85) (v := 1) (lv' := [(0, vR (some (b0 + 22))), (1, vI (x1 + 1))]) dX5_scan_85 1 rfl rfl (Nat.le_of_ble_eq_true rfl) [1, 0] rfl ?_
              refine ea_goto (pc := 88) (tgt := 7) dX5_scan_88 rfl ?_
              exact H
            · have H := H.2 c180
              refine ea_iload_n (pc := 74) dX5_scan_74 rfl 2 rfl ?_
              refine ea_goto (pc := 75) (tgt := 80) dX5_scan_75 rfl ?_
              refine ea_iload_n (pc := 80) dX5_scan_80 rfl 1 rfl ?_
              refine ea_iconst (pc := 81) dX5_scan_81 (v := 0) rfl ?_
              obtain ⟨z178, H⟩ := H
              refine ea_callV (pc := 82) (d' := d - 1) (As := [vI (ea_i h (b0 + 23) (Int32.toNatClampNeg x1)), vI x1, vI 0]) (st := []) dX5_scan_82 kX5_addToken (sX5_addToken (d := d - 1) (by omega) hs_h z178) (by omega) rfl (Nat.le_of_ble_eq_true rfl) ew_771 ew_773 ew_18 (ci := 5) rfl (by decide) (hs_h.1 22 (by decide)).1 (hs_h.1 22 (by decide)).2.1 ?_
              obtain ⟨h175, E179⟩ : ∃ z, z = (wX5_addToken b0 ((ea_i h (b0 + 23) (Int32.toNatClampNeg x1)) : Int32) (x1 : Int32) (0 : Int32) h) := ⟨_, rfl⟩
              have H := H h175 E179
              refine ea_nm E179 ?_
              have hs_h175 : ShC b0 h175 := by rw [E179]; exact shX5_addToken hs_h
              refine ea_iinc (pc := 85) (v := 1) (lv' := [(0, vR (some (b0 + 22))), (1, vI (x1 + 1))]) dX5_scan_85 1 rfl rfl (Nat.le_of_ble_eq_true rfl) [1, 0] rfl ?_
              refine ea_goto (pc := 88) (tgt := 7) dX5_scan_88 rfl ?_
              exact H
      · have H := H.2 c189
        refine ea_aload_n (pc := 45) dX5_scan_45 rfl 0 rfl ?_
        refine ea_iload_n (pc := 46) dX5_scan_46 rfl 1 rfl ?_
        obtain ⟨d184, xc188, h185, m186, q187, hs_h185, H⟩ := H
        refine ea_callV (pc := 47) (As := [vI x1]) (st := []) dX5_scan_47 kX5_scanNumber m186 q187 rfl (Nat.le_of_ble_eq_true rfl) ew_778 ew_780 ew_19 (ci := 5) rfl (by decide) (hs_h.1 22 (by decide)).1 (hs_h.1 22 (by decide)).2.1 ?_
        refine ea_istore_n (pc := 50) (lv' := [(0, vR (some (b0 + 22))), (1, vI xc188)]) dX5_scan_50 rfl (Nat.le_of_ble_eq_true rfl) [1, 0] rfl ?_
        refine ea_goto (pc := 51) (tgt := 85) dX5_scan_51 rfl ?_
        refine ea_iinc (pc := 85) (v := 1) (lv' := [(0, vR (some (b0 + 22))), (1, vI (xc188 + 1))]) dX5_scan_85 1 rfl rfl (Nat.le_of_ble_eq_true rfl) [1, 0] rfl ?_
        refine ea_goto (pc := 88) (tgt := 7) dX5_scan_88 rfl ?_
        exact H
    · have H := H.2 c196
      refine ea_aload_n (pc := 29) dX5_scan_29 rfl 0 rfl ?_
      refine ea_iload_n (pc := 30) dX5_scan_30 rfl 1 rfl ?_
      obtain ⟨d191, xc195, h192, m193, q194, hs_h192, H⟩ := H
      refine ea_callV (pc := 31) (As := [vI x1]) (st := []) dX5_scan_31 kX5_scanWord m193 q194 rfl (Nat.le_of_ble_eq_true rfl) ew_764 ew_766 ew_17 (ci := 5) rfl (by decide) (hs_h.1 22 (by decide)).1 (hs_h.1 22 (by decide)).2.1 ?_
      refine ea_istore_n (pc := 34) (lv' := [(0, vR (some (b0 + 22))), (1, vI xc195)]) dX5_scan_34 rfl (Nat.le_of_ble_eq_true rfl) [1, 0] rfl ?_
      refine ea_goto (pc := 35) (tgt := 85) dX5_scan_35 rfl ?_
      refine ea_iinc (pc := 85) (v := 1) (lv' := [(0, vR (some (b0 + 22))), (1, vI (xc195 + 1))]) dX5_scan_85 1 rfl rfl (Nat.le_of_ble_eq_true rfl) [1, 0] rfl ?_
      refine ea_goto (pc := 88) (tgt := 7) dX5_scan_88 rfl ?_
      exact H
theorem pX5_scanWord_0 {d b0 : Nat} {h0 hE h : ea_H} {rv : Option ea_V} {x1 : Int32} (hd : 2 ≤ d) (hs_h : ShC b0 h) (H : ea_W mX5_scanWord d h0 rv hE 5 [(0, vR (some (b0 + 22))), (1, vI x1), (2, vJ 0), (4, vI x1)] [] h) : ea_W mX5_scanWord d h0 rv hE 0 [(0, vR (some (b0 + 22))), (1, vI x1)] [] h := by
  refine ea_lconst (pc := 0) dX5_scanWord_0 (v := 0) rfl ?_
  refine ea_lstore_n (pc := 1) (lv' := [(0, vR (some (b0 + 22))), (1, vI x1), (2, vJ 0)]) dX5_scanWord_1 rfl (Nat.le_of_ble_eq_true rfl) [1, 2, 0] rfl ?_
  refine ea_iload_n (pc := 2) dX5_scanWord_2 rfl 1 rfl ?_
  refine ea_istore (pc := 3) (lv' := [(0, vR (some (b0 + 22))), (1, vI x1), (2, vJ 0), (4, vI x1)]) dX5_scanWord_3 (Nat.le_of_ble_eq_true rfl) [1, 2, 3, 0] rfl ?_
  exact H
theorem pX5_scanWord_5 {d b0 : Nat} {h0 hE h : ea_H} {rv : Option ea_V} {x1 : Int32} {y2 : Int64} {x4 : Int32} (hd : 2 ≤ d) (hs_h : ShC b0 h) (H : ((ea_i h (b0 + 22) 0) ≤ x4 → ea_W mX5_scanWord d h0 rv hE 69 [(0, vR (some (b0 + 22))), (1, vI x1), (2, vJ y2), (4, vI x4), (5, vI 20), (6, vI 0)] [] h) ∧ (¬ (ea_i h (b0 + 22) 0) ≤ x4 → vp_in x4 600 ∧ ((vX5_isLetter ((ea_i h (b0 + 23) (Int32.toNatClampNeg x4)) : Int32) h) = (0 : Int32) → ea_W mX5_scanWord d h0 rv hE 69 [(0, vR (some (b0 + 22))), (1, vI x1), (2, vJ y2), (4, vI x4), (5, vI 20), (6, vI 0)] [] h) ∧ (¬ (vX5_isLetter ((ea_i h (b0 + 23) (Int32.toNatClampNeg x4)) : Int32) h) = (0 : Int32) → ((6 : Int32) ≤ (x4 - x1) → ea_W mX5_scanWord d h0 rv hE 5 [(0, vR (some (b0 + 22))), (1, vI x1), (2, vJ (-1)), (4, vI (x4 + 1))] [] h) ∧ (¬ (6 : Int32) ≤ (x4 - x1) → vp_in x4 600 ∧ ea_W mX5_scanWord d h0 rv hE 5 [(0, vR (some (b0 + 22))), (1, vI x1), (2, vJ ((y2 <<< (Int32.toInt64 8 &&& 63)) ||| (Int32.toInt64 (ea_i h (b0 + 23) (Int32.toNatClampNeg x4))))), (4, vI (x4 + 1))] [] h)))) : ea_W mX5_scanWord d h0 rv hE 5 [(0, vR (some (b0 + 22))), (1, vI x1), (2, vJ y2), (4, vI x4)] [] h := by
  refine ea_iload (pc := 5) dX5_scanWord_5 3 rfl ?_
  refine ea_aload_n (pc := 7) dX5_scanWord_7 rfl 0 rfl ?_
  refine ea_getI (pc := 8) dX5_scanWord_8 ec_5 (k := 0) (Nat.le_of_ble_eq_true rfl) rfl (Or.inl ew_291) (hs_h.1 22 (by decide)).1 (hs_h.1 22 (by decide)).2.1 ?_
  refine ea_icmp_ge (pc := 11) (tgt := 62) dX5_scanWord_11 rfl (fun c14 => ?_) (fun c14 => ?_)
  · have H := H.1 c14
    refine ea_bipush (pc := 62) dX5_scanWord_62 (v := 20) rfl ?_
    refine ea_istore (pc := 64) (lv' := [(0, vR (some (b0 + 22))), (1, vI x1), (2, vJ y2), (4, vI x4), (5, vI 20)]) dX5_scanWord_64 (Nat.le_of_ble_eq_true rfl) [1, 2, 3, 4, 0] rfl ?_
    refine ea_iconst (pc := 66) dX5_scanWord_66 (v := 0) rfl ?_
    refine ea_istore (pc := 67) (lv' := [(0, vR (some (b0 + 22))), (1, vI x1), (2, vJ y2), (4, vI x4), (5, vI 20), (6, vI 0)]) dX5_scanWord_67 (Nat.le_of_ble_eq_true rfl) [1, 2, 3, 4, 5, 0] rfl ?_
    exact H
  · have H := H.2 c14
    refine ea_aload_n (pc := 14) dX5_scanWord_14 rfl 0 rfl ?_
    refine ea_getR (pc := 15) dX5_scanWord_15 ec_5 (k := 3) (Nat.le_of_ble_eq_true rfl) rfl (Or.inl ew_297) (hs_h.1 22 (by decide)).1 (hs_h.1 22 (by decide)).2.1 (hs_h.2 22 3 rfl) ?_
    refine ea_iload (pc := 18) dX5_scanWord_18 3 rfl ?_
    obtain ⟨z1, H⟩ := H
    refine ea_iald (pc := 20) dX5_scanWord_20 (hs_h.1 23 (by decide)).1 (hs_h.1 23 (by decide)).2.1 (ea_vpl (hs_h.1 23 (by decide)).2.2 z1) ?_
    refine ea_callS (pc := 21) (d' := d - 1) (As := [vI (ea_i h (b0 + 23) (Int32.toNatClampNeg x4))]) (st := []) dX5_scanWord_21 kX5_isLetter (sX5_isLetter (d := d - 1) (by omega)) (by omega) rfl (Nat.le_of_ble_eq_true rfl) ew_761 ew_762 ?_
    refine ea_if_eq (pc := 24) (tgt := 62) dX5_scanWord_24 rfl (fun c12 => ?_) (fun c12 => ?_)
    · have H := H.1 c12
      refine ea_bipush (pc := 62) dX5_scanWord_62 (v := 20) rfl ?_
      refine ea_istore (pc := 64) (lv' := [(0, vR (some (b0 + 22))), (1, vI x1), (2, vJ y2), (4, vI x4), (5, vI 20)]) dX5_scanWord_64 (Nat.le_of_ble_eq_true rfl) [1, 2, 3, 4, 0] rfl ?_
      refine ea_iconst (pc := 66) dX5_scanWord_66 (v := 0) rfl ?_
      refine ea_istore (pc := 67) (lv' := [(0, vR (some (b0 + 22))), (1, vI x1), (2, vJ y2), (4, vI x4), (5, vI 20), (6, vI 0)]) dX5_scanWord_67 (Nat.le_of_ble_eq_true rfl) [1, 2, 3, 4, 5, 0] rfl ?_
      exact H
    · have H := H.2 c12
      refine ea_iload (pc := 27) dX5_scanWord_27 3 rfl ?_
      refine ea_iload_n (pc := 29) dX5_scanWord_29 rfl 1 rfl ?_
      refine ea_isub (pc := 30) dX5_scanWord_30 ?_
      refine ea_bipush (pc := 31) dX5_scanWord_31 (v := 6) rfl ?_
      refine ea_icmp_ge (pc := 33) (tgt := 52) dX5_scanWord_33 rfl (fun c11 => ?_) (fun c11 => ?_)
      · have H := H.1 c11
        refine ea_ldc2 (pc := 52) dX5_scanWord_52 ew_768 ?_
        refine ea_lstore_n (pc := 55) (lv' := [(0, vR (some (b0 + 22))), (1, vI x1), (2, vJ (-1)), (4, vI x4)]) dX5_scanWord_55 rfl (Nat.le_of_ble_eq_true rfl) [1, 2, 0, 3] rfl ?_
        refine ea_iinc (pc := 56) (v := 1) (lv' := [(0, vR (some (b0 + 22))), (1, vI x1), (2, vJ (-1)), (4, vI (x4 + 1))]) dX5_scanWord_56 3 rfl rfl (Nat.le_of_ble_eq_true rfl) [1, 2, 3, 0] rfl ?_
        refine ea_goto (pc := 59) (tgt := 5) dX5_scanWord_59 rfl ?_
        exact H
      · have H := H.2 c11
        refine ea_lload_n (pc := 36) dX5_scanWord_36 rfl 2 rfl ?_
        refine ea_bipush (pc := 37) dX5_scanWord_37 (v := 8) rfl ?_
        refine ea_lshl (pc := 39) dX5_scanWord_39 ?_
        refine ea_aload_n (pc := 40) dX5_scanWord_40 rfl 0 rfl ?_
        refine ea_getR (pc := 41) dX5_scanWord_41 ec_5 (k := 3) (Nat.le_of_ble_eq_true rfl) rfl (Or.inl ew_297) (hs_h.1 22 (by decide)).1 (hs_h.1 22 (by decide)).2.1 (hs_h.2 22 3 rfl) ?_
        refine ea_iload (pc := 44) dX5_scanWord_44 3 rfl ?_
        obtain ⟨z10, H⟩ := H
        refine ea_iald (pc := 46) dX5_scanWord_46 (hs_h.1 23 (by decide)).1 (hs_h.1 23 (by decide)).2.1 (ea_vpl (hs_h.1 23 (by decide)).2.2 z10) ?_
        refine ea_i2l (pc := 47) dX5_scanWord_47 ?_
        refine ea_lor (pc := 48) dX5_scanWord_48 ?_
        refine ea_goto (pc := 49) (tgt := 55) dX5_scanWord_49 rfl ?_
        refine ea_lstore_n (pc := 55) (lv' := [(0, vR (some (b0 + 22))), (1, vI x1), (2, vJ ((y2 <<< (Int32.toInt64 8 &&& 63)) ||| (Int32.toInt64 (ea_i h (b0 + 23) (Int32.toNatClampNeg x4))))), (4, vI x4)]) dX5_scanWord_55 rfl (Nat.le_of_ble_eq_true rfl) [1, 2, 0, 3] rfl ?_
        refine ea_iinc (pc := 56) (v := 1) (lv' := [(0, vR (some (b0 + 22))), (1, vI x1), (2, vJ ((y2 <<< (Int32.toInt64 8 &&& 63)) ||| (Int32.toInt64 (ea_i h (b0 + 23) (Int32.toNatClampNeg x4))))), (4, vI (x4 + 1))]) dX5_scanWord_56 3 rfl rfl (Nat.le_of_ble_eq_true rfl) [1, 2, 3, 0] rfl ?_
        refine ea_goto (pc := 59) (tgt := 5) dX5_scanWord_59 rfl ?_
        exact H
theorem pX5_scanWord_69 {d b0 : Nat} {h0 hE h : ea_H} {rv : Option ea_V} {x1 : Int32} {y2 : Int64} {x4 : Int32} {x5 : Int32} {x6 : Int32} (hd : 2 ≤ d) (hs_h : ShC b0 h) (H : False) : ea_W mX5_scanWord d h0 rv hE 69 [(0, vR (some (b0 + 22))), (1, vI x1), (2, vJ y2), (4, vI x4), (5, vI x5), (6, vI x6)] [] h := by
  refine ea_iload (pc := 69) dX5_scanWord_69 5 rfl ?_
  exact H.elim
theorem pX5_scanNumber_0 {d b0 : Nat} {h0 hE h : ea_H} {rv : Option ea_V} {x1 : Int32} (hd : 2 ≤ d) (hs_h : ShC b0 h) (H : ea_W mX5_scanNumber d h0 rv hE 4 [(0, vR (some (b0 + 22))), (1, vI x1), (2, vI 0), (3, vI x1)] [] h) : ea_W mX5_scanNumber d h0 rv hE 0 [(0, vR (some (b0 + 22))), (1, vI x1)] [] h := by
  refine ea_iconst (pc := 0) dX5_scanNumber_0 (v := 0) rfl ?_
  refine ea_istore_n (pc := 1) (lv' := [(0, vR (some (b0 + 22))), (1, vI x1), (2, vI 0)]) dX5_scanNumber_1 rfl (Nat.le_of_ble_eq_true rfl) [1, 2, 0] rfl ?_
  refine ea_iload_n (pc := 2) dX5_scanNumber_2 rfl 1 rfl ?_
  refine ea_istore_n (pc := 3) (lv' := [(0, vR (some (b0 + 22))), (1, vI x1), (2, vI 0), (3, vI x1)]) dX5_scanNumber_3 rfl (Nat.le_of_ble_eq_true rfl) [1, 2, 3, 0] rfl ?_
  exact H
theorem pX5_scanNumber_4 {d b0 : Nat} {h0 hE h : ea_H} {rv : Option ea_V} {x1 : Int32} {x2 : Int32} {x3 : Int32} (hd : 2 ≤ d) (hs_h : ShC b0 h) (H : ((ea_i h (b0 + 22) 0) ≤ x3 → ea_W mX5_scanNumber d h0 rv hE 56 [(0, vR (some (b0 + 22))), (1, vI x1), (2, vI x2), (3, vI x3)] [] h) ∧ (¬ (ea_i h (b0 + 22) 0) ≤ x3 → vp_in x3 600 ∧ ((vX5_isDigit ((ea_i h (b0 + 23) (Int32.toNatClampNeg x3)) : Int32) h) = (0 : Int32) → ea_W mX5_scanNumber d h0 rv hE 56 [(0, vR (some (b0 + 22))), (1, vI x1), (2, vI x2), (3, vI x3)] [] h) ∧ (¬ (vX5_isDigit ((ea_i h (b0 + 23) (Int32.toNatClampNeg x3)) : Int32) h) = (0 : Int32) → ((4 : Int32) ≤ (x3 - x1) → ea_W mX5_scanNumber d h0 rv hE 4 [(0, vR (some (b0 + 22))), (1, vI x1), (2, vI (-1)), (3, vI (x3 + 1))] [] h) ∧ (¬ (4 : Int32) ≤ (x3 - x1) → vp_in x3 600 ∧ ea_W mX5_scanNumber d h0 rv hE 4 [(0, vR (some (b0 + 22))), (1, vI x1), (2, vI (((x2 * (10 : Int32)) + (ea_i h (b0 + 23) (Int32.toNatClampNeg x3))) - (48 : Int32))), (3, vI (x3 + 1))] [] h)))) : ea_W mX5_scanNumber d h0 rv hE 4 [(0, vR (some (b0 + 22))), (1, vI x1), (2, vI x2), (3, vI x3)] [] h := by
  refine ea_iload_n (pc := 4) dX5_scanNumber_4 rfl 3 rfl ?_
  refine ea_aload_n (pc := 5) dX5_scanNumber_5 rfl 0 rfl ?_
  refine ea_getI (pc := 6) dX5_scanNumber_6 ec_5 (k := 0) (Nat.le_of_ble_eq_true rfl) rfl (Or.inl ew_291) (hs_h.1 22 (by decide)).1 (hs_h.1 22 (by decide)).2.1 ?_
  refine ea_icmp_ge (pc := 9) (tgt := 56) dX5_scanNumber_9 rfl (fun c14 => ?_) (fun c14 => ?_)
  · have H := H.1 c14
    exact H
  · have H := H.2 c14
    refine ea_aload_n (pc := 12) dX5_scanNumber_12 rfl 0 rfl ?_
    refine ea_getR (pc := 13) dX5_scanNumber_13 ec_5 (k := 3) (Nat.le_of_ble_eq_true rfl) rfl (Or.inl ew_297) (hs_h.1 22 (by decide)).1 (hs_h.1 22 (by decide)).2.1 (hs_h.2 22 3 rfl) ?_
    refine ea_iload_n (pc := 16) dX5_scanNumber_16 rfl 3 rfl ?_
    obtain ⟨z1, H⟩ := H
    refine ea_iald (pc := 17) dX5_scanNumber_17 (hs_h.1 23 (by decide)).1 (hs_h.1 23 (by decide)).2.1 (ea_vpl (hs_h.1 23 (by decide)).2.2 z1) ?_
    refine ea_callS (pc := 18) (d' := d - 1) (As := [vI (ea_i h (b0 + 23) (Int32.toNatClampNeg x3))]) (st := []) dX5_scanNumber_18 kX5_isDigit (sX5_isDigit (d := d - 1) (by omega)) (by omega) rfl (Nat.le_of_ble_eq_true rfl) ew_775 ew_776 ?_
    refine ea_if_eq (pc := 21) (tgt := 56) dX5_scanNumber_21 rfl (fun c12 => ?_) (fun c12 => ?_)
    · have H := H.1 c12
      exact H
    · have H := H.2 c12
      refine ea_iload_n (pc := 24) dX5_scanNumber_24 rfl 3 rfl ?_
      refine ea_iload_n (pc := 25) dX5_scanNumber_25 rfl 1 rfl ?_
      refine ea_isub (pc := 26) dX5_scanNumber_26 ?_
      refine ea_iconst (pc := 27) dX5_scanNumber_27 (v := 4) rfl ?_
      refine ea_icmp_ge (pc := 28) (tgt := 48) dX5_scanNumber_28 rfl (fun c11 => ?_) (fun c11 => ?_)
      · have H := H.1 c11
        refine ea_iconst (pc := 48) dX5_scanNumber_48 (v := (-1)) rfl ?_
        refine ea_istore_n (pc := 49) (lv' := [(0, vR (some (b0 + 22))), (1, vI x1), (2, vI (-1)), (3, vI x3)]) dX5_scanNumber_49 rfl (Nat.le_of_ble_eq_true rfl) [1, 2, 0, 3] rfl ?_
        refine ea_iinc (pc := 50) (v := 1) (lv' := [(0, vR (some (b0 + 22))), (1, vI x1), (2, vI (-1)), (3, vI (x3 + 1))]) dX5_scanNumber_50 3 rfl rfl (Nat.le_of_ble_eq_true rfl) [1, 2, 3, 0] rfl ?_
        refine ea_goto (pc := 53) (tgt := 4) dX5_scanNumber_53 rfl ?_
        exact H
      · have H := H.2 c11
        refine ea_iload_n (pc := 31) dX5_scanNumber_31 rfl 2 rfl ?_
        refine ea_bipush (pc := 32) dX5_scanNumber_32 (v := 10) rfl ?_
        refine ea_imul (pc := 34) dX5_scanNumber_34 ?_
        refine ea_aload_n (pc := 35) dX5_scanNumber_35 rfl 0 rfl ?_
        refine ea_getR (pc := 36) dX5_scanNumber_36 ec_5 (k := 3) (Nat.le_of_ble_eq_true rfl) rfl (Or.inl ew_297) (hs_h.1 22 (by decide)).1 (hs_h.1 22 (by decide)).2.1 (hs_h.2 22 3 rfl) ?_
        refine ea_iload_n (pc := 39) dX5_scanNumber_39 rfl 3 rfl ?_
        obtain ⟨z10, H⟩ := H
        refine ea_iald (pc := 40) dX5_scanNumber_40 (hs_h.1 23 (by decide)).1 (hs_h.1 23 (by decide)).2.1 (ea_vpl (hs_h.1 23 (by decide)).2.2 z10) ?_
        refine ea_iadd (pc := 41) dX5_scanNumber_41 ?_
        refine ea_bipush (pc := 42) dX5_scanNumber_42 (v := 48) rfl ?_
        refine ea_isub (pc := 44) dX5_scanNumber_44 ?_
        refine ea_goto (pc := 45) (tgt := 49) dX5_scanNumber_45 rfl ?_
        refine ea_istore_n (pc := 49) (lv' := [(0, vR (some (b0 + 22))), (1, vI x1), (2, vI (((x2 * (10 : Int32)) + (ea_i h (b0 + 23) (Int32.toNatClampNeg x3))) - (48 : Int32))), (3, vI x3)]) dX5_scanNumber_49 rfl (Nat.le_of_ble_eq_true rfl) [1, 2, 0, 3] rfl ?_
        refine ea_iinc (pc := 50) (v := 1) (lv' := [(0, vR (some (b0 + 22))), (1, vI x1), (2, vI (((x2 * (10 : Int32)) + (ea_i h (b0 + 23) (Int32.toNatClampNeg x3))) - (48 : Int32))), (3, vI (x3 + 1))]) dX5_scanNumber_50 3 rfl rfl (Nat.le_of_ble_eq_true rfl) [1, 2, 3, 0] rfl ?_
        refine ea_goto (pc := 53) (tgt := 4) dX5_scanNumber_53 rfl ?_
        exact H
theorem pX5_scanNumber_56 {d b0 : Nat} {h0 hE h : ea_H} {rv : Option ea_V} {x1 : Int32} {x2 : Int32} {x3 : Int32} (hd : 2 ≤ d) (hs_h : ShC b0 h) (H : (¬ x2 = ((-1) : Int32) → (okX5_addToken b0 (18 : Int32) (x1 : Int32) (x2 : Int32) h) ∧ ∀ h2, h2 = (wX5_addToken b0 (18 : Int32) (x1 : Int32) (x2 : Int32) h) → rv = some (vI (x3 - (1 : Int32))) ∧ hE = h2) ∧ (x2 = ((-1) : Int32) → (okX5_addToken b0 (20 : Int32) (x1 : Int32) (x2 : Int32) h) ∧ ∀ h8, h8 = (wX5_addToken b0 (20 : Int32) (x1 : Int32) (x2 : Int32) h) → rv = some (vI (x3 - (1 : Int32))) ∧ hE = h8)) : ea_W mX5_scanNumber d h0 rv hE 56 [(0, vR (some (b0 + 22))), (1, vI x1), (2, vI x2), (3, vI x3)] [] h := by
  refine ea_aload_n (pc := 56) dX5_scanNumber_56 rfl 0 rfl ?_
  refine ea_iload_n (pc := 57) dX5_scanNumber_57 rfl 2 rfl ?_
  refine ea_iconst (pc := 58) dX5_scanNumber_58 (v := (-1)) rfl ?_
  refine ea_icmp_ne (pc := 59) (tgt := 67) dX5_scanNumber_59 rfl (fun c13 => ?_) (fun c13 => ?_)
  · have H := H.1 c13
    refine ea_bipush (pc := 67) dX5_scanNumber_67 (v := 18) rfl ?_
    refine ea_iload_n (pc := 69) dX5_scanNumber_69 rfl 1 rfl ?_
    refine ea_iload_n (pc := 70) dX5_scanNumber_70 rfl 2 rfl ?_
    obtain ⟨z5, H⟩ := H
    refine ea_callV (pc := 71) (d' := d - 1) (As := [vI 18, vI x1, vI x2]) (st := []) dX5_scanNumber_71 kX5_addToken (sX5_addToken (d := d - 1) (by omega) hs_h z5) (by omega) rfl (Nat.le_of_ble_eq_true rfl) ew_771 ew_773 ew_18 (ci := 5) rfl (by decide) (hs_h.1 22 (by decide)).1 (hs_h.1 22 (by decide)).2.1 ?_
    obtain ⟨h2, E6⟩ : ∃ z, z = (wX5_addToken b0 (18 : Int32) (x1 : Int32) (x2 : Int32) h) := ⟨_, rfl⟩
    have H := H h2 E6
    refine ea_nm E6 ?_
    have hs_h2 : ShC b0 h2 := by rw [E6]; exact shX5_addToken hs_h
    refine ea_iload_n (pc := 74) dX5_scanNumber_74 rfl 3 rfl ?_
    refine ea_iconst (pc := 75) dX5_scanNumber_75 (v := 1) rfl ?_
    refine ea_isub (pc := 76) dX5_scanNumber_76 ?_
    obtain ⟨rfl, rfl⟩ := H
    exact ea_ireturn (pc := 77) dX5_scanNumber_77 rfl rfl
  · have H := H.2 c13
    refine ea_bipush (pc := 62) dX5_scanNumber_62 (v := 20) rfl ?_
    refine ea_goto (pc := 64) (tgt := 69) dX5_scanNumber_64 rfl ?_
    refine ea_iload_n (pc := 69) dX5_scanNumber_69 rfl 1 rfl ?_
    refine ea_iload_n (pc := 70) dX5_scanNumber_70 rfl 2 rfl ?_
    obtain ⟨z11, H⟩ := H
    refine ea_callV (pc := 71) (d' := d - 1) (As := [vI 20, vI x1, vI x2]) (st := []) dX5_scanNumber_71 kX5_addToken (sX5_addToken (d := d - 1) (by omega) hs_h z11) (by omega) rfl (Nat.le_of_ble_eq_true rfl) ew_771 ew_773 ew_18 (ci := 5) rfl (by decide) (hs_h.1 22 (by decide)).1 (hs_h.1 22 (by decide)).2.1 ?_
    obtain ⟨h8, E12⟩ : ∃ z, z = (wX5_addToken b0 (20 : Int32) (x1 : Int32) (x2 : Int32) h) := ⟨_, rfl⟩
    have H := H h8 E12
    refine ea_nm E12 ?_
    have hs_h8 : ShC b0 h8 := by rw [E12]; exact shX5_addToken hs_h
    refine ea_iload_n (pc := 74) dX5_scanNumber_74 rfl 3 rfl ?_
    refine ea_iconst (pc := 75) dX5_scanNumber_75 (v := 1) rfl ?_
    refine ea_isub (pc := 76) dX5_scanNumber_76 ?_
    obtain ⟨rfl, rfl⟩ := H
    exact ea_ireturn (pc := 77) dX5_scanNumber_77 rfl rfl
theorem pX6_lay_0 {d b0 : Nat} {h0 hE h : ea_H} {rv : Option ea_V} {x1 : Int32} {x2 : Int32} {x3 : Int32} (hd : 1 ≤ d) (hs_h : ShC b0 h) (H : vp_in (((12 : Int32) * x1) + x2) 144 ∧ ∀ h2, h2 = ea_wi h (b0 + 2) (Int32.toNatClampNeg (((12 : Int32) * x1) + x2)) x3 → vp_in (((12 : Int32) * x2) + x1) 144 ∧ ∀ h5, h5 = ea_wi h2 (b0 + 2) (Int32.toNatClampNeg (((12 : Int32) * x2) + x1)) x3 → ∃ (d7 : Nat) (h8 : ea_H), ea_Met mX6_reckon d7 [vR (some (b0 + 1)), vR (some (b0 + 3)), vI 0] h5 none h8 ∧ d7 + 1 ≤ d ∧ ShC b0 h8 ∧ ∃ (d11 : Nat) (h12 : ea_H), ea_Met mX6_reckon d11 [vR (some (b0 + 1)), vR (some (b0 + 4)), vI 1] h8 none h12 ∧ d11 + 1 ≤ d ∧ ShC b0 h12 ∧ rv = none ∧ hE = h12) : ea_W mX6_lay d h0 rv hE 0 [(0, vR (some (b0 + 1))), (1, vI x1), (2, vI x2), (3, vI x3)] [] h := by
  refine ea_aload_n (pc := 0) dX6_lay_0 rfl 0 rfl ?_
  refine ea_getR (pc := 1) dX6_lay_1 ec_6 (k := 1) (Nat.le_of_ble_eq_true rfl) rfl (Or.inl ew_158) (hs_h.1 1 (by decide)).1 (hs_h.1 1 (by decide)).2.1 (hs_h.2 1 1 rfl) ?_
  refine ea_bipush (pc := 4) dX6_lay_4 (v := 12) rfl ?_
  refine ea_iload_n (pc := 6) dX6_lay_6 rfl 1 rfl ?_
  refine ea_imul (pc := 7) dX6_lay_7 ?_
  refine ea_iload_n (pc := 8) dX6_lay_8 rfl 2 rfl ?_
  refine ea_iadd (pc := 9) dX6_lay_9 ?_
  refine ea_iload_n (pc := 10) dX6_lay_10 rfl 3 rfl ?_
  obtain ⟨z1, H⟩ := H
  refine ea_iast (pc := 11) dX6_lay_11 (hs_h.1 2 (by decide)).1 (hs_h.1 2 (by decide)).2.1 (ea_vpl (hs_h.1 2 (by decide)).2.2 z1) ?_
  obtain ⟨h2, E3⟩ : ∃ z, z = ea_wi h (b0 + 2) (Int32.toNatClampNeg (((12 : Int32) * x1) + x2)) x3 := ⟨_, rfl⟩
  have H := H h2 E3
  refine ea_nm E3 ?_
  have hs_h2 : ShC b0 h2 := by rw [E3]; exact ShC_wi hs_h
  refine ea_aload_n (pc := 12) dX6_lay_12 rfl 0 rfl ?_
  refine ea_getR (pc := 13) dX6_lay_13 ec_6 (k := 1) (Nat.le_of_ble_eq_true rfl) rfl (Or.inl ew_158) (hs_h2.1 1 (by decide)).1 (hs_h2.1 1 (by decide)).2.1 (hs_h2.2 1 1 rfl) ?_
  refine ea_bipush (pc := 16) dX6_lay_16 (v := 12) rfl ?_
  refine ea_iload_n (pc := 18) dX6_lay_18 rfl 2 rfl ?_
  refine ea_imul (pc := 19) dX6_lay_19 ?_
  refine ea_iload_n (pc := 20) dX6_lay_20 rfl 1 rfl ?_
  refine ea_iadd (pc := 21) dX6_lay_21 ?_
  refine ea_iload_n (pc := 22) dX6_lay_22 rfl 3 rfl ?_
  obtain ⟨z4, H⟩ := H
  refine ea_iast (pc := 23) dX6_lay_23 (hs_h2.1 2 (by decide)).1 (hs_h2.1 2 (by decide)).2.1 (ea_vpl (hs_h2.1 2 (by decide)).2.2 z4) ?_
  obtain ⟨h5, E6⟩ : ∃ z, z = ea_wi h2 (b0 + 2) (Int32.toNatClampNeg (((12 : Int32) * x2) + x1)) x3 := ⟨_, rfl⟩
  have H := H h5 E6
  refine ea_nm E6 ?_
  have hs_h5 : ShC b0 h5 := by rw [E6]; exact ShC_wi hs_h2
  refine ea_aload_n (pc := 24) dX6_lay_24 rfl 0 rfl ?_
  refine ea_aload_n (pc := 25) dX6_lay_25 rfl 0 rfl ?_
  refine ea_getR (pc := 26) dX6_lay_26 ec_6 (k := 2) (Nat.le_of_ble_eq_true rfl) rfl (Or.inl ew_159) (hs_h5.1 1 (by decide)).1 (hs_h5.1 1 (by decide)).2.1 (hs_h5.2 1 2 rfl) ?_
  refine ea_iconst (pc := 29) dX6_lay_29 (v := 0) rfl ?_
  obtain ⟨d7, h8, m9, q10, hs_h8, H⟩ := H
  refine ea_callV (pc := 30) (As := [vR (some (b0 + 3)), vI 0]) (st := []) dX6_lay_30 kX6_reckon m9 q10 rfl (Nat.le_of_ble_eq_true rfl) ew_146 ew_148 ew_0 (ci := 6) rfl (by decide) (hs_h5.1 1 (by decide)).1 (hs_h5.1 1 (by decide)).2.1 ?_
  refine ea_aload_n (pc := 33) dX6_lay_33 rfl 0 rfl ?_
  refine ea_aload_n (pc := 34) dX6_lay_34 rfl 0 rfl ?_
  refine ea_getR (pc := 35) dX6_lay_35 ec_6 (k := 3) (Nat.le_of_ble_eq_true rfl) rfl (Or.inl ew_160) (hs_h8.1 1 (by decide)).1 (hs_h8.1 1 (by decide)).2.1 (hs_h8.2 1 3 rfl) ?_
  refine ea_iconst (pc := 38) dX6_lay_38 (v := 1) rfl ?_
  obtain ⟨d11, h12, m13, q14, hs_h12, H⟩ := H
  refine ea_callV (pc := 39) (As := [vR (some (b0 + 4)), vI 1]) (st := []) dX6_lay_39 kX6_reckon m13 q14 rfl (Nat.le_of_ble_eq_true rfl) ew_146 ew_148 ew_0 (ci := 6) rfl (by decide) (hs_h8.1 1 (by decide)).1 (hs_h8.1 1 (by decide)).2.1 ?_
  obtain ⟨rfl, rfl⟩ := H
  exact ea_return (pc := 42) dX6_lay_42 rfl
theorem pX6_reckon_0 {d b0 : Nat} {h0 hE h : ea_H} {rv : Option ea_V} {r1 : Option Nat} {x2 : Int32} (hd : 1 ≤ d) (hs_h : ShC b0 h) (H : False) : ea_W mX6_reckon d h0 rv hE 0 [(0, vR (some (b0 + 1))), (1, vR r1), (2, vI x2)] [] h := by
  refine ea_aload_n (pc := 0) dX6_reckon_0 rfl 0 rfl ?_
  refine ea_getR (pc := 1) dX6_reckon_1 ec_6 (k := 1) (Nat.le_of_ble_eq_true rfl) rfl (Or.inl ew_158) (hs_h.1 1 (by decide)).1 (hs_h.1 1 (by decide)).2.1 (hs_h.2 1 1 rfl) ?_
  refine ea_iconst (pc := 4) dX6_reckon_4 (v := 0) rfl ?_
  refine ea_aload_n (pc := 5) dX6_reckon_5 rfl 1 rfl ?_
  refine ea_iconst (pc := 6) dX6_reckon_6 (v := 0) rfl ?_
  refine ea_sipush (pc := 7) dX6_reckon_7 (v := 144) rfl ?_
  exact H.elim
theorem pX6_reckon_15 {d b0 : Nat} {h0 hE h : ea_H} {rv : Option ea_V} {r1 : Option Nat} {x3 : Int32} (hd : 1 ≤ d) (hs_h : ShC b0 h) (H : ((12 : Int32) ≤ x3 → rv = none ∧ hE = h) ∧ (¬ (12 : Int32) ≤ x3 → ea_W mX6_reckon d h0 rv hE 24 [(1, vR r1), (3, vI x3), (4, vI 0)] [] h)) : ea_W mX6_reckon d h0 rv hE 15 [(1, vR r1), (3, vI x3)] [] h := by
  refine ea_iload_n (pc := 15) dX6_reckon_15 rfl 1 rfl ?_
  refine ea_bipush (pc := 16) dX6_reckon_16 (v := 12) rfl ?_
  refine ea_icmp_ge (pc := 18) (tgt := 105) dX6_reckon_18 rfl (fun c1 => ?_) (fun c1 => ?_)
  · have H := H.1 c1
    obtain ⟨rfl, rfl⟩ := H
    exact ea_return (pc := 105) dX6_reckon_105 rfl
  · have H := H.2 c1
    refine ea_iconst (pc := 21) dX6_reckon_21 (v := 0) rfl ?_
    refine ea_istore (pc := 22) (lv' := [(1, vR r1), (3, vI x3), (4, vI 0)]) dX6_reckon_22 (Nat.le_of_ble_eq_true rfl) [1, 2, 0] rfl ?_
    exact H
theorem pX6_reckon_24 {d b0 : Nat} {h0 hE h : ea_H} {rv : Option ea_V} {r1 : Option Nat} {x3 : Int32} {x4 : Int32} (hd : 1 ≤ d) (hs_h : ShC b0 h) (H : ((12 : Int32) ≤ x4 → ea_W mX6_reckon d h0 rv hE 15 [(1, vR r1), (3, vI (x3 + 1))] [] h) ∧ (¬ (12 : Int32) ≤ x4 → ea_W mX6_reckon d h0 rv hE 34 [(1, vR r1), (3, vI x3), (4, vI x4), (5, vI 0)] [] h)) : ea_W mX6_reckon d h0 rv hE 24 [(1, vR r1), (3, vI x3), (4, vI x4)] [] h := by
  refine ea_iload (pc := 24) dX6_reckon_24 2 rfl ?_
  refine ea_bipush (pc := 26) dX6_reckon_26 (v := 12) rfl ?_
  refine ea_icmp_ge (pc := 28) (tgt := 99) dX6_reckon_28 rfl (fun c1 => ?_) (fun c1 => ?_)
  · have H := H.1 c1
    refine ea_iinc (pc := 99) (v := 1) (lv' := [(1, vR r1), (3, vI (x3 + 1))]) dX6_reckon_99 1 rfl rfl (Nat.le_of_ble_eq_true rfl) [1, 0] rfl ?_
    refine ea_goto (pc := 102) (tgt := 15) dX6_reckon_102 rfl ?_
    exact H
  · have H := H.2 c1
    refine ea_iconst (pc := 31) dX6_reckon_31 (v := 0) rfl ?_
    refine ea_istore (pc := 32) (lv' := [(1, vR r1), (3, vI x3), (4, vI x4), (5, vI 0)]) dX6_reckon_32 (Nat.le_of_ble_eq_true rfl) [1, 2, 3, 0] rfl ?_
    exact H
theorem pX6_reckon_34 {d b0 : Nat} {h0 hE h : ea_H} {rv : Option ea_V} {r1 : Option Nat} {x3 : Int32} {x4 : Int32} {x5 : Int32} (hd : 1 ≤ d) (hs_h : ShC b0 h) (H : ((12 : Int32) ≤ x5 → ea_W mX6_reckon d h0 rv hE 24 [(1, vR r1), (3, vI x3), (4, vI (x4 + 1))] [] h) ∧ (¬ (12 : Int32) ≤ x5 → ∃ a3, r1 = some a3 ∧ a3 < ea_n h ∧ ea_c h a3 = 20 ∧ vp_in (((12 : Int32) * x4) + x3) (ea_l h a3) ∧ a3 < ea_n h ∧ ea_c h a3 = 20 ∧ vp_in (((12 : Int32) * x3) + x5) (ea_l h a3) ∧ a3 < ea_n h ∧ ea_c h a3 = 20 ∧ vp_in (((12 : Int32) * x4) + x5) (ea_l h a3) ∧ ∃ (d12 : Nat) (xc16 : Int32) (h13 : ea_H), ea_Met mJ9_min_7cf53 d12 [vI (ea_i h a3 (Int32.toNatClampNeg (((12 : Int32) * x4) + x5))), vI ((ea_i h a3 (Int32.toNatClampNeg (((12 : Int32) * x4) + x3))) + (ea_i h a3 (Int32.toNatClampNeg (((12 : Int32) * x3) + x5))))] h (some (vI xc16)) h13 ∧ d12 + 1 ≤ d ∧ ShC b0 h13 ∧ a3 < ea_n h13 ∧ ea_c h13 a3 = 20 ∧ vp_in (((12 : Int32) * x4) + x5) (ea_l h13 a3) ∧ ∀ h20, h20 = ea_wi h13 a3 (Int32.toNatClampNeg (((12 : Int32) * x4) + x5)) xc16 → ea_W mX6_reckon d h0 rv hE 34 [(1, vR r1), (3, vI x3), (4, vI x4), (5, vI (x5 + 1))] [] h20)) : ea_W mX6_reckon d h0 rv hE 34 [(1, vR r1), (3, vI x3), (4, vI x4), (5, vI x5)] [] h := by
  refine ea_iload (pc := 34) dX6_reckon_34 3 rfl ?_
  refine ea_bipush (pc := 36) dX6_reckon_36 (v := 12) rfl ?_
  refine ea_icmp_ge (pc := 38) (tgt := 93) dX6_reckon_38 rfl (fun c22 => ?_) (fun c22 => ?_)
  · have H := H.1 c22
    refine ea_iinc (pc := 93) (v := 1) (lv' := [(1, vR r1), (3, vI x3), (4, vI (x4 + 1))]) dX6_reckon_93 2 rfl rfl (Nat.le_of_ble_eq_true rfl) [1, 2, 0] rfl ?_
    refine ea_goto (pc := 96) (tgt := 24) dX6_reckon_96 rfl ?_
    exact H
  · have H := H.2 c22
    refine ea_aload_n (pc := 41) dX6_reckon_41 rfl 0 rfl ?_
    refine ea_bipush (pc := 42) dX6_reckon_42 (v := 12) rfl ?_
    refine ea_iload (pc := 44) dX6_reckon_44 2 rfl ?_
    refine ea_imul (pc := 46) dX6_reckon_46 ?_
    refine ea_iload_n (pc := 47) dX6_reckon_47 rfl 1 rfl ?_
    refine ea_iadd (pc := 48) dX6_reckon_48 ?_
    obtain ⟨a3, e4, f1, g2, H⟩ := H
    refine ea_deref1 e4 ?_
    obtain ⟨z5, H⟩ := H
    refine ea_iald (pc := 49) dX6_reckon_49 f1 g2 z5 ?_
    refine ea_aload_n (pc := 50) dX6_reckon_50 rfl 0 rfl ?_
    refine ea_bipush (pc := 51) dX6_reckon_51 (v := 12) rfl ?_
    refine ea_iload_n (pc := 53) dX6_reckon_53 rfl 1 rfl ?_
    refine ea_imul (pc := 54) dX6_reckon_54 ?_
    refine ea_iload (pc := 55) dX6_reckon_55 3 rfl ?_
    refine ea_iadd (pc := 57) dX6_reckon_57 ?_
    obtain ⟨f6, g7, H⟩ := H
    refine ea_deref1 e4 ?_
    obtain ⟨z8, H⟩ := H
    refine ea_iald (pc := 58) dX6_reckon_58 f6 g7 z8 ?_
    refine ea_iadd (pc := 59) dX6_reckon_59 ?_
    refine ea_istore (pc := 60) (lv' := [(1, vR r1), (3, vI x3), (4, vI x4), (5, vI x5), (6, vI ((ea_i h a3 (Int32.toNatClampNeg (((12 : Int32) * x4) + x3))) + (ea_i h a3 (Int32.toNatClampNeg (((12 : Int32) * x3) + x5)))))]) dX6_reckon_60 (Nat.le_of_ble_eq_true rfl) [1, 2, 3, 4, 0] rfl ?_
    refine ea_aload_n (pc := 62) dX6_reckon_62 rfl 0 rfl ?_
    refine ea_bipush (pc := 63) dX6_reckon_63 (v := 12) rfl ?_
    refine ea_iload (pc := 65) dX6_reckon_65 2 rfl ?_
    refine ea_imul (pc := 67) dX6_reckon_67 ?_
    refine ea_iload (pc := 68) dX6_reckon_68 3 rfl ?_
    refine ea_iadd (pc := 70) dX6_reckon_70 ?_
    refine ea_aload_n (pc := 71) dX6_reckon_71 rfl 0 rfl ?_
    refine ea_bipush (pc := 72) dX6_reckon_72 (v := 12) rfl ?_
    refine ea_iload (pc := 74) dX6_reckon_74 2 rfl ?_
    refine ea_imul (pc := 76) dX6_reckon_76 ?_
    refine ea_iload (pc := 77) dX6_reckon_77 3 rfl ?_
    refine ea_iadd (pc := 79) dX6_reckon_79 ?_
    obtain ⟨f9, g10, H⟩ := H
    refine ea_deref1 e4 ?_
    obtain ⟨z11, H⟩ := H
    refine ea_iald (pc := 80) dX6_reckon_80 f9 g10 z11 ?_
    refine ea_iload (pc := 81) dX6_reckon_81 4 rfl ?_
    obtain ⟨d12, xc16, h13, m14, q15, hs_h13, H⟩ := H
    refine ea_callS (pc := 83) (As := [vI (ea_i h a3 (Int32.toNatClampNeg (((12 : Int32) * x4) + x5))), vI ((ea_i h a3 (Int32.toNatClampNeg (((12 : Int32) * x4) + x3))) + (ea_i h a3 (Int32.toNatClampNeg (((12 : Int32) * x3) + x5))))]) (st := [vI (((12 : Int32) * x4) + x5), vR r1]) dX6_reckon_83 kJ9_min_7cf53 m14 q15 rfl (Nat.le_of_ble_eq_true rfl) ew_153 ew_154 ?_
    obtain ⟨f17, g18, H⟩ := H
    refine ea_deref2 e4 ?_
    obtain ⟨z19, H⟩ := H
    refine ea_iast (pc := 86) dX6_reckon_86 f17 g18 z19 ?_
    obtain ⟨h20, E21⟩ : ∃ z, z = ea_wi h13 a3 (Int32.toNatClampNeg (((12 : Int32) * x4) + x5)) xc16 := ⟨_, rfl⟩
    have H := H h20 E21
    refine ea_nm E21 ?_
    have hs_h20 : ShC b0 h20 := by rw [E21]; exact ShC_wi hs_h13
    refine ea_iinc (pc := 87) (v := 1) (lv' := [(1, vR r1), (3, vI x3), (4, vI x4), (5, vI (x5 + 1))]) dX6_reckon_87 3 rfl rfl (Nat.le_of_ble_eq_true rfl) [1, 2, 3, 0] rfl ?_
    refine ea_goto (pc := 90) (tgt := 34) dX6_reckon_90 rfl ?_
    exact H
theorem pX8_numberOn_0 {d b0 : Nat} {h0 hE h : ea_H} {rv : Option ea_V} {x1 : Int32} (hd : 1 ≤ d) (hs_h : ShC b0 h) (H : ea_W mX8_numberOn d h0 rv hE 4 [(0, vR (some (b0 + 21))), (1, vI x1), (2, vI (-1)), (3, vI 0)] [] h) : ea_W mX8_numberOn d h0 rv hE 0 [(0, vR (some (b0 + 21))), (1, vI x1)] [] h := by
  refine ea_iconst (pc := 0) dX8_numberOn_0 (v := (-1)) rfl ?_
  refine ea_istore_n (pc := 1) (lv' := [(0, vR (some (b0 + 21))), (1, vI x1), (2, vI (-1))]) dX8_numberOn_1 rfl (Nat.le_of_ble_eq_true rfl) [1, 2, 0] rfl ?_
  refine ea_iconst (pc := 2) dX8_numberOn_2 (v := 0) rfl ?_
  refine ea_istore_n (pc := 3) (lv' := [(0, vR (some (b0 + 21))), (1, vI x1), (2, vI (-1)), (3, vI 0)]) dX8_numberOn_3 rfl (Nat.le_of_ble_eq_true rfl) [1, 2, 3, 0] rfl ?_
  exact H
theorem pX8_numberOn_4 {d b0 : Nat} {h0 hE h : ea_H} {rv : Option ea_V} {x1 : Int32} {x2 : Int32} {x3 : Int32} (hd : 1 ≤ d) (hs_h : ShC b0 h) (H : ((ea_i h (b0 + 21) 1) ≤ x3 → rv = some (vI x2) ∧ hE = h) ∧ (¬ (ea_i h (b0 + 21) 1) ≤ x3 → vp_in x3 6 ∧ ∃ a4, (ea_r h (b0 + 28) (Int32.toNatClampNeg x3)) = some a4 ∧ a4 < ea_n h ∧ ea_c h a4 = 0 ∧ (x1 < (ea_i h a4 0) → ea_W mX8_numberOn d h0 rv hE 4 [(0, vR (some (b0 + 21))), (1, vI x1), (2, vI x2), (3, vI (x3 + 1))] [] h) ∧ (¬ x1 < (ea_i h a4 0) → ea_W mX8_numberOn d h0 rv hE 4 [(0, vR (some (b0 + 21))), (1, vI x1), (2, vI x3), (3, vI (x3 + 1))] [] h))) : ea_W mX8_numberOn d h0 rv hE 4 [(0, vR (some (b0 + 21))), (1, vI x1), (2, vI x2), (3, vI x3)] [] h := by
  refine ea_iload_n (pc := 4) dX8_numberOn_4 rfl 3 rfl ?_
  refine ea_aload_n (pc := 5) dX8_numberOn_5 rfl 0 rfl ?_
  refine ea_getI (pc := 6) dX8_numberOn_6 ec_8 (k := 1) (Nat.le_of_ble_eq_true rfl) rfl (Or.inl ew_335) (hs_h.1 21 (by decide)).1 (hs_h.1 21 (by decide)).2.1 ?_
  refine ea_icmp_ge (pc := 9) (tgt := 33) dX8_numberOn_9 rfl (fun c7 => ?_) (fun c7 => ?_)
  · have H := H.1 c7
    refine ea_iload_n (pc := 33) dX8_numberOn_33 rfl 2 rfl ?_
    obtain ⟨rfl, rfl⟩ := H
    exact ea_ireturn (pc := 34) dX8_numberOn_34 rfl rfl
  · have H := H.2 c7
    refine ea_aload_n (pc := 12) dX8_numberOn_12 rfl 0 rfl ?_
    refine ea_getR (pc := 13) dX8_numberOn_13 ec_8 (k := 2) (Nat.le_of_ble_eq_true rfl) rfl (Or.inl ew_337) (hs_h.1 21 (by decide)).1 (hs_h.1 21 (by decide)).2.1 (hs_h.2 21 2 rfl) ?_
    refine ea_iload_n (pc := 16) dX8_numberOn_16 rfl 3 rfl ?_
    obtain ⟨z1, H⟩ := H
    refine ea_aald26 (pc := 17) dX8_numberOn_17 (hs_h.1 28 (by decide)).1 (hs_h.1 28 (by decide)).2.1 (ea_vpl (hs_h.1 28 (by decide)).2.2 z1) rfl ?_
    obtain ⟨a4, e5, f2, g3, H⟩ := H
    refine ea_deref0 e5 ?_
    refine ea_getI (pc := 18) dX8_numberOn_18 ec_0 (k := 0) (Nat.le_of_ble_eq_true rfl) rfl (Or.inl ew_793) f2 g3 ?_
    refine ea_iload_n (pc := 21) dX8_numberOn_21 rfl 1 rfl ?_
    refine ea_icmp_gt (pc := 22) (tgt := 27) dX8_numberOn_22 rfl (fun c6 => ?_) (fun c6 => ?_)
    · have H := H.1 c6
      refine ea_iinc (pc := 27) (v := 1) (lv' := [(0, vR (some (b0 + 21))), (1, vI x1), (2, vI x2), (3, vI (x3 + 1))]) dX8_numberOn_27 3 rfl rfl (Nat.le_of_ble_eq_true rfl) [1, 2, 3, 0] rfl ?_
      refine ea_goto (pc := 30) (tgt := 4) dX8_numberOn_30 rfl ?_
      exact H
    · have H := H.2 c6
      refine ea_iload_n (pc := 25) dX8_numberOn_25 rfl 3 rfl ?_
      refine ea_istore_n (pc := 26) (lv' := [(0, vR (some (b0 + 21))), (1, vI x1), (2, vI x3), (3, vI x3)]) dX8_numberOn_26 rfl (Nat.le_of_ble_eq_true rfl) [1, 2, 0, 3] rfl ?_
      refine ea_iinc (pc := 27) (v := 1) (lv' := [(0, vR (some (b0 + 21))), (1, vI x1), (2, vI x3), (3, vI (x3 + 1))]) dX8_numberOn_27 3 rfl rfl (Nat.le_of_ble_eq_true rfl) [1, 2, 3, 0] rfl ?_
      refine ea_goto (pc := 30) (tgt := 4) dX8_numberOn_30 rfl ?_
      exact H
theorem pX8_price_0 {d b0 : Nat} {h0 hE h : ea_H} {rv : Option ea_V} {r1 : Option Nat} (hd : 2 ≤ d) (hs_h : ShC b0 h) (H : ∃ a7, r1 = some a7 ∧ a7 < ea_n h ∧ ea_c h a7 = 4 ∧ ∃ (d1 : Nat) (xc9 : Int32) (h2 : ea_H), ea_Met mX4_dayOf d1 [vR (some a7)] h (some (vI xc9)) h2 ∧ d1 + 1 ≤ d ∧ ShC b0 h2 ∧ ∃ (d10 : Nat) (xc14 : Int32) (h11 : ea_H), ea_Met mX8_numberOn d10 [vR (some (b0 + 21)), vI xc9] h2 (some (vI xc14)) h11 ∧ d10 + 1 ≤ d ∧ ShC b0 h11 ∧ a7 < ea_n h11 ∧ ea_c h11 a7 = 4 ∧ ∀ h17, h17 = ea_wi h11 a7 11 xc14 → a7 < ea_n h17 ∧ ea_c h17 a7 = 4 ∧ (okX8_actOf b0 ((ea_i h17 a7 11) : Int32) h17) ∧ (∀ a100, (vX8_actOf b0 ((ea_i h17 a7 11) : Int32) h17) = some a100 → a100 < ea_n h17 ∧ ea_c h17 a100 = 0 ∧ a7 < ea_n h17 ∧ ea_c h17 a7 = 4 ∧ ∀ h106, h106 = ea_wi h17 a7 14 (ea_i h17 a100 7) → (okX8_isFree ((vX8_actOf b0 ((ea_i h17 a7 11) : Int32) h17) : Option Nat) (r1 : Option Nat) h106) ∧ a7 < ea_n h106 ∧ ea_c h106 a7 = 4 ∧ ((vX8_isFree ((vX8_actOf b0 ((ea_i h17 a7 11) : Int32) h17) : Option Nat) (r1 : Option Nat) h106) = 0 ∨ (vX8_isFree ((vX8_actOf b0 ((ea_i h17 a7 11) : Int32) h17) : Option Nat) (r1 : Option Nat) h106) = 1) ∧ ∀ h145, h145 = ea_wi h106 a7 13 (vX8_isFree ((vX8_actOf b0 ((ea_i h17 a7 11) : Int32) h17) : Option Nat) (r1 : Option Nat) h106) → ∃ (d147 : Nat) (xc151 : Int32) (h148 : ea_H), ea_Met mX8_chargeBy d147 [vR (some (b0 + 21)), vR (vX8_actOf b0 ((ea_i h17 a7 11) : Int32) h17), vR r1] h145 (some (vI xc151)) h148 ∧ d147 + 1 ≤ d ∧ ShC b0 h148 ∧ a7 < ea_n h148 ∧ ea_c h148 a7 = 4 ∧ ∀ h154, h154 = ea_wi h148 a7 10 xc151 → a7 < ea_n h154 ∧ ea_c h154 a7 = 4 ∧ ((ea_i h154 a7 13) = (0 : Int32) → ∃ (d158 : Nat) (xc162 : Int32) (h159 : ea_H), ea_Met mX8_lineFor d158 [vR (some (b0 + 21)), vR (vX8_actOf b0 ((ea_i h17 a7 11) : Int32) h17), vR r1] h154 (some (vI xc162)) h159 ∧ d158 + 1 ≤ d ∧ ShC b0 h159 ∧ a7 < ea_n h159 ∧ ea_c h159 a7 = 4 ∧ ∀ h165, h165 = ea_wi h159 a7 12 xc162 → rv = none ∧ hE = h165) ∧ (¬ (ea_i h154 a7 13) = (0 : Int32) → a7 < ea_n h154 ∧ ea_c h154 a7 = 4 ∧ ∀ h169, h169 = ea_wi h154 a7 12 (-1) → rv = none ∧ hE = h169)) ∧ ((vX8_actOf b0 ((ea_i h17 a7 11) : Int32) h17) = none → rv = none ∧ hE = h17)) : ea_W mX8_price d h0 rv hE 0 [(0, vR (some (b0 + 21))), (1, vR r1)] [] h := by
  refine ea_aload_n (pc := 0) dX8_price_0 rfl 1 rfl ?_
  refine ea_aload_n (pc := 1) dX8_price_1 rfl 0 rfl ?_
  refine ea_aload_n (pc := 2) dX8_price_2 rfl 1 rfl ?_
  obtain ⟨a7, e8, f5, g6, H⟩ := H
  refine ea_deref0 e8 ?_
  obtain ⟨d1, xc9, h2, m3, q4, hs_h2, H⟩ := H
  refine ea_callV (pc := 3) (As := []) (st := [vR (some (b0 + 21)), vR r1]) dX8_price_3 kX4_dayOf m3 q4 rfl (Nat.le_of_ble_eq_true rfl) ew_1040 ew_1033 ew_1034 (ci := 4) rfl (by decide) f5 g6 ?_
  obtain ⟨d10, xc14, h11, m12, q13, hs_h11, H⟩ := H
  refine ea_callV (pc := 6) (As := [vI xc9]) (st := [vR r1]) dX8_price_6 kX8_numberOn m12 q13 rfl (Nat.le_of_ble_eq_true rfl) ew_1041 ew_917 ew_918 (ci := 8) rfl (by decide) (hs_h2.1 21 (by decide)).1 (hs_h2.1 21 (by decide)).2.1 ?_
  obtain ⟨f15, g16, H⟩ := H
  refine ea_deref1 e8 ?_
  refine ea_putI (pc := 9) dX8_price_9 ec_4 (k := 11) (Nat.le_of_ble_eq_true rfl) rfl (Or.inl ⟨rfl, Or.inl ew_962⟩) rfl rfl f15 g16 ?_
  obtain ⟨h17, E18⟩ : ∃ z, z = ea_wi h11 a7 11 xc14 := ⟨_, rfl⟩
  have H := H h17 E18
  refine ea_nm E18 ?_
  have hs_h17 : ShC b0 h17 := by rw [E18]; exact ShC_wi hs_h11
  refine ea_aload_n (pc := 12) dX8_price_12 rfl 0 rfl ?_
  refine ea_aload_n (pc := 13) dX8_price_13 rfl 1 rfl ?_
  obtain ⟨f19, g20, H⟩ := H
  refine ea_deref0 e8 ?_
  refine ea_getI (pc := 14) dX8_price_14 ec_4 (k := 11) (Nat.le_of_ble_eq_true rfl) rfl (Or.inl ew_962) f19 g20 ?_
  obtain ⟨z174, H⟩ := H
  refine ea_callV (pc := 17) (d' := d - 1) (As := [vI (ea_i h17 a7 11)]) (st := []) dX8_price_17 kX8_actOf (sX8_actOf (d := d - 1) (by omega) hs_h17 z174) (by omega) rfl (Nat.le_of_ble_eq_true rfl) ew_1042 ew_921 ew_922 (ci := 8) rfl (by decide) (hs_h17.1 21 (by decide)).1 (hs_h17.1 21 (by decide)).2.1 ?_
  refine ea_astore_n (pc := 20) (lv' := [(0, vR (some (b0 + 21))), (1, vR r1), (2, vR (vX8_actOf b0 ((ea_i h17 a7 11) : Int32) h17))]) dX8_price_20 rfl (Nat.le_of_ble_eq_true rfl) [1, 2, 0] rfl ?_
  refine ea_aload_n (pc := 21) dX8_price_21 rfl 2 rfl ?_
  refine ea_ifnonnull (pc := 22) (tgt := 26) dX8_price_22 rfl (fun a100 e101 => ?_) (fun e101 => ?_)
  · have H := H.1 a100 e101
    refine ea_aload_n (pc := 26) dX8_price_26 rfl 1 rfl ?_
    refine ea_aload_n (pc := 27) dX8_price_27 rfl 2 rfl ?_
    obtain ⟨f102, g103, H⟩ := H
    refine ea_deref0 e101 ?_
    refine ea_getI (pc := 28) dX8_price_28 ec_0 (k := 7) (Nat.le_of_ble_eq_true rfl) rfl (Or.inl ew_814) f102 g103 ?_
    obtain ⟨f104, g105, H⟩ := H
    refine ea_deref1 e8 ?_
    refine ea_putI (pc := 31) dX8_price_31 ec_4 (k := 14) (Nat.le_of_ble_eq_true rfl) rfl (Or.inl ⟨rfl, Or.inl ew_970⟩) rfl rfl f104 g105 ?_
    obtain ⟨h106, E107⟩ : ∃ z, z = ea_wi h17 a7 14 (ea_i h17 a100 7) := ⟨_, rfl⟩
    have H := H h106 E107
    refine ea_nm E107 ?_
    have hs_h106 : ShC b0 h106 := by rw [E107]; exact ShC_wi hs_h17
    refine ea_aload_n (pc := 34) dX8_price_34 rfl 1 rfl ?_
    refine ea_aload_n (pc := 35) dX8_price_35 rfl 2 rfl ?_
    refine ea_aload_n (pc := 36) dX8_price_36 rfl 1 rfl ?_
    obtain ⟨z173, H⟩ := H
    refine ea_callS (pc := 37) (d' := d - 1) (As := [vR (vX8_actOf b0 ((ea_i h17 a7 11) : Int32) h17), vR r1]) (st := [vR r1]) dX8_price_37 kX8_isFree (sX8_isFree (d := d - 1) (by omega) z173) (by omega) rfl (Nat.le_of_ble_eq_true rfl) ew_1043 ew_1044 ?_
    obtain ⟨f143, g144, H⟩ := H
    refine ea_deref1 e8 ?_
    obtain ⟨z172, H⟩ := H
    refine ea_putI (pc := 40) dX8_price_40 ec_4 (k := 13) (Nat.le_of_ble_eq_true rfl) rfl (Or.inl ⟨rfl, Or.inl ew_967⟩) (ea_bn z172) (ea_bf z172) f143 g144 ?_
    obtain ⟨h145, E146⟩ : ∃ z, z = ea_wi h106 a7 13 (vX8_isFree ((vX8_actOf b0 ((ea_i h17 a7 11) : Int32) h17) : Option Nat) (r1 : Option Nat) h106) := ⟨_, rfl⟩
    have H := H h145 E146
    refine ea_nm E146 ?_
    have hs_h145 : ShC b0 h145 := by rw [E146]; exact ShC_wi hs_h106
    refine ea_aload_n (pc := 43) dX8_price_43 rfl 1 rfl ?_
    refine ea_aload_n (pc := 44) dX8_price_44 rfl 0 rfl ?_
    refine ea_aload_n (pc := 45) dX8_price_45 rfl 2 rfl ?_
    refine ea_aload_n (pc := 46) dX8_price_46 rfl 1 rfl ?_
    obtain ⟨d147, xc151, h148, m149, q150, hs_h148, H⟩ := H
    refine ea_callV (pc := 47) (As := [vR (vX8_actOf b0 ((ea_i h17 a7 11) : Int32) h17), vR r1]) (st := [vR r1]) dX8_price_47 kX8_chargeBy m149 q150 rfl (Nat.le_of_ble_eq_true rfl) ew_1046 ew_1047 ew_1048 (ci := 8) rfl (by decide) (hs_h145.1 21 (by decide)).1 (hs_h145.1 21 (by decide)).2.1 ?_
    obtain ⟨f152, g153, H⟩ := H
    refine ea_deref1 e8 ?_
    refine ea_putI (pc := 50) dX8_price_50 ec_4 (k := 10) (Nat.le_of_ble_eq_true rfl) rfl (Or.inl ⟨rfl, Or.inl ew_959⟩) rfl rfl f152 g153 ?_
    obtain ⟨h154, E155⟩ : ∃ z, z = ea_wi h148 a7 10 xc151 := ⟨_, rfl⟩
    have H := H h154 E155
    refine ea_nm E155 ?_
    have hs_h154 : ShC b0 h154 := by rw [E155]; exact ShC_wi hs_h148
    refine ea_aload_n (pc := 53) dX8_price_53 rfl 1 rfl ?_
    refine ea_aload_n (pc := 54) dX8_price_54 rfl 1 rfl ?_
    obtain ⟨f156, g157, H⟩ := H
    refine ea_deref0 e8 ?_
    refine ea_getI (pc := 55) dX8_price_55 ec_4 (k := 13) (Nat.le_of_ble_eq_true rfl) rfl (Or.inl ew_967) f156 g157 ?_
    refine ea_if_eq (pc := 58) (tgt := 65) dX8_price_58 rfl (fun c171 => ?_) (fun c171 => ?_)
    · have H := H.1 c171
      refine ea_aload_n (pc := 65) dX8_price_65 rfl 0 rfl ?_
      refine ea_aload_n (pc := 66) dX8_price_66 rfl 2 rfl ?_
      refine ea_aload_n (pc := 67) dX8_price_67 rfl 1 rfl ?_
      obtain ⟨d158, xc162, h159, m160, q161, hs_h159, H⟩ := H
      refine ea_callV (pc := 68) (As := [vR (vX8_actOf b0 ((ea_i h17 a7 11) : Int32) h17), vR r1]) (st := [vR r1]) dX8_price_68 kX8_lineFor m160 q161 rfl (Nat.le_of_ble_eq_true rfl) ew_1050 ew_1052 ew_34 (ci := 8) rfl (by decide) (hs_h154.1 21 (by decide)).1 (hs_h154.1 21 (by decide)).2.1 ?_
      obtain ⟨f163, g164, H⟩ := H
      refine ea_deref1 e8 ?_
      refine ea_putI (pc := 71) dX8_price_71 ec_4 (k := 12) (Nat.le_of_ble_eq_true rfl) rfl (Or.inl ⟨rfl, Or.inl ew_965⟩) rfl rfl f163 g164 ?_
      obtain ⟨h165, E166⟩ : ∃ z, z = ea_wi h159 a7 12 xc162 := ⟨_, rfl⟩
      have H := H h165 E166
      refine ea_nm E166 ?_
      have hs_h165 : ShC b0 h165 := by rw [E166]; exact ShC_wi hs_h159
      obtain ⟨rfl, rfl⟩ := H
      exact ea_return (pc := 74) dX8_price_74 rfl
    · have H := H.2 c171
      refine ea_iconst (pc := 61) dX8_price_61 (v := (-1)) rfl ?_
      refine ea_goto (pc := 62) (tgt := 71) dX8_price_62 rfl ?_
      obtain ⟨f167, g168, H⟩ := H
      refine ea_deref1 e8 ?_
      refine ea_putI (pc := 71) dX8_price_71 ec_4 (k := 12) (Nat.le_of_ble_eq_true rfl) rfl (Or.inl ⟨rfl, Or.inl ew_965⟩) rfl rfl f167 g168 ?_
      obtain ⟨h169, E170⟩ : ∃ z, z = ea_wi h154 a7 12 (-1) := ⟨_, rfl⟩
      have H := H h169 E170
      refine ea_nm E170 ?_
      have hs_h169 : ShC b0 h169 := by rw [E170]; exact ShC_wi hs_h154
      obtain ⟨rfl, rfl⟩ := H
      exact ea_return (pc := 74) dX8_price_74 rfl
  · have H := H.2 e101
    obtain ⟨rfl, rfl⟩ := H
    exact ea_return (pc := 25) dX8_price_25 rfl
theorem pX8_chargeBy_0 {d b0 : Nat} {h0 hE h : ea_H} {rv : Option ea_V} {r1 : Option Nat} {r2 : Option Nat} (hd : 2 ≤ d) (hs_h : ShC b0 h) (H : (okX8_isFree (r1 : Option Nat) (r2 : Option Nat) h) ∧ ((vX8_isFree (r1 : Option Nat) (r2 : Option Nat) h) = (0 : Int32) → ∃ (d39 : Nat) (xc43 : Int32) (h40 : ea_H), ea_Met mX8_lineFor d39 [vR (some (b0 + 21)), vR r1, vR r2] h (some (vI xc43)) h40 ∧ d39 + 1 ≤ d ∧ ShC b0 h40 ∧ (xc43 = ((-1) : Int32) → ea_W mX8_chargeBy d h0 rv hE 50 [(1, vR r1), (2, vR r2), (4, vI 0)] [] h40) ∧ (¬ xc43 = ((-1) : Int32) → ∃ a46, r1 = some a46 ∧ a46 < ea_n h40 ∧ ea_c h40 a46 = 0 ∧ a46 < ea_n h40 ∧ ea_c h40 a46 = 0 ∧ ∃ a52, (ea_r h40 a46 9) = some a52 ∧ a52 < ea_n h40 ∧ ea_c h40 a52 = 20 ∧ vp_in xc43 (ea_l h40 a52) ∧ ∃ (d55 : Nat) (xc59 : Int32) (h56 : ea_H), ea_Met mX8_worth d55 [vR (some (b0 + 21)), vR (ea_r h40 a46 11), vI (ea_i h40 a52 (Int32.toNatClampNeg xc43))] h40 (some (vI xc59)) h56 ∧ d55 + 1 ≤ d ∧ ShC b0 h56 ∧ ∃ (d60 : Nat) (xc64 : Int32) (h61 : ea_H), ea_Met mJ9_max_7cf53 d60 [vI xc59, vI 0] h56 (some (vI xc64)) h61 ∧ d60 + 1 ≤ d ∧ ShC b0 h61 ∧ ∃ (d65 : Nat) (xc69 : Int32) (h66 : ea_H), ea_Met mJ9_min_7cf53 d65 [vI xc64, vI 99999] h61 (some (vI xc69)) h66 ∧ d65 + 1 ≤ d ∧ ShC b0 h66 ∧ ea_W mX8_chargeBy d h0 rv hE 50 [(1, vR r1), (2, vR r2), (4, vI xc69)] [] h66)) ∧ (¬ (vX8_isFree (r1 : Option Nat) (r2 : Option Nat) h) = (0 : Int32) → rv = some (vI 0) ∧ hE = h)) : ea_W mX8_chargeBy d h0 rv hE 0 [(0, vR (some (b0 + 21))), (1, vR r1), (2, vR r2)] [] h := by
  refine ea_aload_n (pc := 0) dX8_chargeBy_0 rfl 1 rfl ?_
  refine ea_aload_n (pc := 1) dX8_chargeBy_1 rfl 2 rfl ?_
  obtain ⟨z72, H⟩ := H
  refine ea_callS (pc := 2) (d' := d - 1) (As := [vR r1, vR r2]) (st := []) dX8_chargeBy_2 kX8_isFree (sX8_isFree (d := d - 1) (by omega) z72) (by omega) rfl (Nat.le_of_ble_eq_true rfl) ew_1043 ew_1044 ?_
  refine ea_if_eq (pc := 5) (tgt := 10) dX8_chargeBy_5 rfl (fun c71 => ?_) (fun c71 => ?_)
  · have H := H.1 c71
    refine ea_aload_n (pc := 10) dX8_chargeBy_10 rfl 0 rfl ?_
    refine ea_aload_n (pc := 11) dX8_chargeBy_11 rfl 1 rfl ?_
    refine ea_aload_n (pc := 12) dX8_chargeBy_12 rfl 2 rfl ?_
    obtain ⟨d39, xc43, h40, m41, q42, hs_h40, H⟩ := H
    refine ea_callV (pc := 13) (As := [vR r1, vR r2]) (st := []) dX8_chargeBy_13 kX8_lineFor m41 q42 rfl (Nat.le_of_ble_eq_true rfl) ew_1050 ew_1052 ew_34 (ci := 8) rfl (by decide) (hs_h.1 21 (by decide)).1 (hs_h.1 21 (by decide)).2.1 ?_
    refine ea_istore_n (pc := 16) (lv' := [(0, vR (some (b0 + 21))), (1, vR r1), (2, vR r2), (3, vI xc43)]) dX8_chargeBy_16 rfl (Nat.le_of_ble_eq_true rfl) [1, 2, 3, 0] rfl ?_
    refine ea_iconst (pc := 17) dX8_chargeBy_17 (v := 0) rfl ?_
    refine ea_istore (pc := 18) (lv' := [(0, vR (some (b0 + 21))), (1, vR r1), (2, vR r2), (3, vI xc43), (4, vI 0)]) dX8_chargeBy_18 (Nat.le_of_ble_eq_true rfl) [1, 2, 3, 4, 0] rfl ?_
    refine ea_iload_n (pc := 20) dX8_chargeBy_20 rfl 3 rfl ?_
    refine ea_iconst (pc := 21) dX8_chargeBy_21 (v := (-1)) rfl ?_
    refine ea_icmp_eq (pc := 22) (tgt := 50) dX8_chargeBy_22 rfl (fun c70 => ?_) (fun c70 => ?_)
    · have H := H.1 c70
      exact ea_fewer [1, 2, 4] rfl H
    · have H := H.2 c70
      refine ea_aload_n (pc := 25) dX8_chargeBy_25 rfl 0 rfl ?_
      refine ea_aload_n (pc := 26) dX8_chargeBy_26 rfl 1 rfl ?_
      obtain ⟨a46, e47, f44, g45, H⟩ := H
      refine ea_deref0 e47 ?_
      refine ea_getR (pc := 27) dX8_chargeBy_27 ec_0 (k := 11) (Nat.le_of_ble_eq_true rfl) rfl (Or.inl ew_825) f44 g45 rfl ?_
      refine ea_aload_n (pc := 30) dX8_chargeBy_30 rfl 1 rfl ?_
      obtain ⟨f48, g49, H⟩ := H
      refine ea_deref0 e47 ?_
      refine ea_getR (pc := 31) dX8_chargeBy_31 ec_0 (k := 9) (Nat.le_of_ble_eq_true rfl) rfl (Or.inl ew_820) f48 g49 rfl ?_
      refine ea_iload_n (pc := 34) dX8_chargeBy_34 rfl 3 rfl ?_
      obtain ⟨a52, e53, f50, g51, H⟩ := H
      refine ea_deref1 e53 ?_
      obtain ⟨z54, H⟩ := H
      refine ea_iald (pc := 35) dX8_chargeBy_35 f50 g51 z54 ?_
      obtain ⟨d55, xc59, h56, m57, q58, hs_h56, H⟩ := H
      refine ea_callV (pc := 36) (As := [vR (ea_r h40 a46 11), vI (ea_i h40 a52 (Int32.toNatClampNeg xc43))]) (st := []) dX8_chargeBy_36 kX8_worth m57 q58 rfl (Nat.le_of_ble_eq_true rfl) ew_1058 ew_1060 ew_36 (ci := 8) rfl (by decide) (hs_h40.1 21 (by decide)).1 (hs_h40.1 21 (by decide)).2.1 ?_
      refine ea_iconst (pc := 39) dX8_chargeBy_39 (v := 0) rfl ?_
      obtain ⟨d60, xc64, h61, m62, q63, hs_h61, H⟩ := H
      refine ea_callS (pc := 40) (As := [vI xc59, vI 0]) (st := []) dX8_chargeBy_40 kJ9_max_7cf53 m62 q63 rfl (Nat.le_of_ble_eq_true rfl) ew_1065 ew_1022 ?_
      refine ea_ldc (pc := 43) dX8_chargeBy_43 ew_1066 ?_
      obtain ⟨d65, xc69, h66, m67, q68, hs_h66, H⟩ := H
      refine ea_callS (pc := 45) (As := [vI xc64, vI 99999]) (st := []) dX8_chargeBy_45 kJ9_min_7cf53 m67 q68 rfl (Nat.le_of_ble_eq_true rfl) ew_1067 ew_154 ?_
      refine ea_istore (pc := 48) (lv' := [(1, vR r1), (2, vR r2), (4, vI xc69)]) dX8_chargeBy_48 (Nat.le_of_ble_eq_true rfl) [2, 3, 0] rfl ?_
      exact H
  · have H := H.2 c71
    refine ea_iconst (pc := 8) dX8_chargeBy_8 (v := 0) rfl ?_
    obtain ⟨rfl, rfl⟩ := H
    exact ea_ireturn (pc := 9) dX8_chargeBy_9 rfl rfl
theorem pX8_chargeBy_50 {d b0 : Nat} {h0 hE h : ea_H} {rv : Option ea_V} {r1 : Option Nat} {r2 : Option Nat} {x4 : Int32} (hd : 2 ≤ d) (hs_h : ShC b0 h) (H : ∃ a3, r2 = some a3 ∧ a3 < ea_n h ∧ ea_c h a3 = 4 ∧ ∃ a7, r1 = some a7 ∧ a7 < ea_n h ∧ ea_c h a7 = 0 ∧ (((ea_i h a3 6) - (ea_i h a3 6) / (1440 : Int32) * (1440 : Int32)) ≤ (ea_i h a7 3) → ea_W mX8_chargeBy d h0 rv hE 74 [(1, vR r1), (2, vR r2), (4, vI x4)] [] h) ∧ (¬ ((ea_i h a3 6) - (ea_i h a3 6) / (1440 : Int32) * (1440 : Int32)) ≤ (ea_i h a7 3) → a7 < ea_n h ∧ ea_c h a7 = 0 ∧ ea_W mX8_chargeBy d h0 rv hE 74 [(1, vR r1), (2, vR r2), (4, vI (x4 + (ea_i h a7 2)))] [] h)) : ea_W mX8_chargeBy d h0 rv hE 50 [(1, vR r1), (2, vR r2), (4, vI x4)] [] h := by
  refine ea_aload_n (pc := 50) dX8_chargeBy_50 rfl 1 rfl ?_
  obtain ⟨a3, e4, f1, g2, H⟩ := H
  refine ea_deref0 e4 ?_
  refine ea_getI (pc := 51) dX8_chargeBy_51 ec_4 (k := 6) (Nat.le_of_ble_eq_true rfl) rfl (Or.inl ew_950) f1 g2 ?_
  refine ea_sipush (pc := 54) dX8_chargeBy_54 (v := 1440) rfl ?_
  refine ea_irem (pc := 57) dX8_chargeBy_57 (by decide) ?_
  refine ea_aload_n (pc := 58) dX8_chargeBy_58 rfl 0 rfl ?_
  obtain ⟨a7, e8, f5, g6, H⟩ := H
  refine ea_deref0 e8 ?_
  refine ea_getI (pc := 59) dX8_chargeBy_59 ec_0 (k := 3) (Nat.le_of_ble_eq_true rfl) rfl (Or.inl ew_801) f5 g6 ?_
  refine ea_icmp_le (pc := 62) (tgt := 74) dX8_chargeBy_62 rfl (fun c11 => ?_) (fun c11 => ?_)
  · have H := H.1 c11
    exact H
  · have H := H.2 c11
    refine ea_iload (pc := 65) dX8_chargeBy_65 2 rfl ?_
    refine ea_aload_n (pc := 67) dX8_chargeBy_67 rfl 0 rfl ?_
    obtain ⟨f9, g10, H⟩ := H
    refine ea_deref0 e8 ?_
    refine ea_getI (pc := 68) dX8_chargeBy_68 ec_0 (k := 2) (Nat.le_of_ble_eq_true rfl) rfl (Or.inl ew_797) f9 g10 ?_
    refine ea_iadd (pc := 71) dX8_chargeBy_71 ?_
    refine ea_istore (pc := 72) (lv' := [(1, vR r1), (2, vR r2), (4, vI (x4 + (ea_i h a7 2)))]) dX8_chargeBy_72 (Nat.le_of_ble_eq_true rfl) [1, 2, 0] rfl ?_
    exact H
theorem pX8_chargeBy_74 {d b0 : Nat} {h0 hE h : ea_H} {rv : Option ea_V} {r1 : Option Nat} {r2 : Option Nat} {x4 : Int32} (hd : 2 ≤ d) (hs_h : ShC b0 h) (H : ∃ a3, r2 = some a3 ∧ a3 < ea_n h ∧ ea_c h a3 = 4 ∧ (¬ (ea_i h a3 0) = (3 : Int32) → ea_W mX8_chargeBy d h0 rv hE 91 [(1, vR r1), (2, vR r2), (4, vI x4)] [] h) ∧ ((ea_i h a3 0) = (3 : Int32) → ∃ a7, r1 = some a7 ∧ a7 < ea_n h ∧ ea_c h a7 = 0 ∧ ea_W mX8_chargeBy d h0 rv hE 91 [(1, vR r1), (2, vR r2), (4, vI (x4 + (ea_i h a7 5)))] [] h)) : ea_W mX8_chargeBy d h0 rv hE 74 [(1, vR r1), (2, vR r2), (4, vI x4)] [] h := by
  refine ea_aload_n (pc := 74) dX8_chargeBy_74 rfl 1 rfl ?_
  obtain ⟨a3, e4, f1, g2, H⟩ := H
  refine ea_deref0 e4 ?_
  refine ea_getI (pc := 75) dX8_chargeBy_75 ec_4 (k := 0) (Nat.le_of_ble_eq_true rfl) rfl (Or.inl ew_934) f1 g2 ?_
  refine ea_iconst (pc := 78) dX8_chargeBy_78 (v := 3) rfl ?_
  refine ea_icmp_ne (pc := 79) (tgt := 91) dX8_chargeBy_79 rfl (fun c9 => ?_) (fun c9 => ?_)
  · have H := H.1 c9
    exact H
  · have H := H.2 c9
    refine ea_iload (pc := 82) dX8_chargeBy_82 2 rfl ?_
    refine ea_aload_n (pc := 84) dX8_chargeBy_84 rfl 0 rfl ?_
    obtain ⟨a7, e8, f5, g6, H⟩ := H
    refine ea_deref0 e8 ?_
    refine ea_getI (pc := 85) dX8_chargeBy_85 ec_0 (k := 5) (Nat.le_of_ble_eq_true rfl) rfl (Or.inl ew_807) f5 g6 ?_
    refine ea_iadd (pc := 88) dX8_chargeBy_88 ?_
    refine ea_istore (pc := 89) (lv' := [(1, vR r1), (2, vR r2), (4, vI (x4 + (ea_i h a7 5)))]) dX8_chargeBy_89 (Nat.le_of_ble_eq_true rfl) [1, 2, 0] rfl ?_
    exact H
theorem pX8_chargeBy_91 {d b0 : Nat} {h0 hE h : ea_H} {rv : Option ea_V} {r1 : Option Nat} {r2 : Option Nat} {x4 : Int32} (hd : 2 ≤ d) (hs_h : ShC b0 h) (H : ∃ a3, r2 = some a3 ∧ a3 < ea_n h ∧ ea_c h a3 = 4 ∧ (¬ (ea_i h a3 0) = (4 : Int32) → rv = some (vI x4) ∧ hE = h) ∧ ((ea_i h a3 0) = (4 : Int32) → ∃ a7, r1 = some a7 ∧ a7 < ea_n h ∧ ea_c h a7 = 0 ∧ rv = some (vI (x4 + (ea_i h a7 6))) ∧ hE = h)) : ea_W mX8_chargeBy d h0 rv hE 91 [(1, vR r1), (2, vR r2), (4, vI x4)] [] h := by
  refine ea_aload_n (pc := 91) dX8_chargeBy_91 rfl 1 rfl ?_
  obtain ⟨a3, e4, f1, g2, H⟩ := H
  refine ea_deref0 e4 ?_
  refine ea_getI (pc := 92) dX8_chargeBy_92 ec_4 (k := 0) (Nat.le_of_ble_eq_true rfl) rfl (Or.inl ew_934) f1 g2 ?_
  refine ea_iconst (pc := 95) dX8_chargeBy_95 (v := 4) rfl ?_
  refine ea_icmp_ne (pc := 96) (tgt := 108) dX8_chargeBy_96 rfl (fun c9 => ?_) (fun c9 => ?_)
  · have H := H.1 c9
    refine ea_iload (pc := 108) dX8_chargeBy_108 2 rfl ?_
    obtain ⟨rfl, rfl⟩ := H
    exact ea_ireturn (pc := 110) dX8_chargeBy_110 rfl rfl
  · have H := H.2 c9
    refine ea_iload (pc := 99) dX8_chargeBy_99 2 rfl ?_
    refine ea_aload_n (pc := 101) dX8_chargeBy_101 rfl 0 rfl ?_
    obtain ⟨a7, e8, f5, g6, H⟩ := H
    refine ea_deref0 e8 ?_
    refine ea_getI (pc := 102) dX8_chargeBy_102 ec_0 (k := 6) (Nat.le_of_ble_eq_true rfl) rfl (Or.inl ew_810) f5 g6 ?_
    refine ea_iadd (pc := 105) dX8_chargeBy_105 ?_
    refine ea_istore (pc := 106) (lv' := [(4, vI (x4 + (ea_i h a7 6)))]) dX8_chargeBy_106 (Nat.le_of_ble_eq_true rfl) [0] rfl ?_
    refine ea_iload (pc := 108) dX8_chargeBy_108 0 rfl ?_
    obtain ⟨rfl, rfl⟩ := H
    exact ea_ireturn (pc := 110) dX8_chargeBy_110 rfl rfl
theorem pX8_lineFor_0 {d b0 : Nat} {h0 hE h : ea_H} {rv : Option ea_V} {r1 : Option Nat} {r2 : Option Nat} (hd : 3 ≤ d) (hs_h : ShC b0 h) (H : (okX8_ask b0 (r2 : Option Nat) h) ∧ ∀ h2, h2 = (wX8_ask b0 (r2 : Option Nat) h) → ea_W mX8_lineFor d h0 rv hE 7 [(0, vR (some (b0 + 21))), (1, vR r1), (3, vI 0)] [] h2) : ea_W mX8_lineFor d h0 rv hE 0 [(0, vR (some (b0 + 21))), (1, vR r1), (2, vR r2)] [] h := by
  refine ea_aload_n (pc := 0) dX8_lineFor_0 rfl 0 rfl ?_
  refine ea_aload_n (pc := 1) dX8_lineFor_1 rfl 2 rfl ?_
  obtain ⟨z5, H⟩ := H
  refine ea_callV (pc := 2) (d' := d - 1) (As := [vR r2]) (st := []) dX8_lineFor_2 kX8_ask (sX8_ask (d := d - 1) (by omega) hs_h z5) (by omega) rfl (Nat.le_of_ble_eq_true rfl) ew_1054 ew_1056 ew_35 (ci := 8) rfl (by decide) (hs_h.1 21 (by decide)).1 (hs_h.1 21 (by decide)).2.1 ?_
  obtain ⟨h2, E6⟩ : ∃ z, z = (wX8_ask b0 (r2 : Option Nat) h) := ⟨_, rfl⟩
  have H := H h2 E6
  refine ea_nm E6 ?_
  have hs_h2 : ShC b0 h2 := by rw [E6]; exact shX8_ask hs_h
  refine ea_iconst (pc := 5) dX8_lineFor_5 (v := 0) rfl ?_
  refine ea_istore_n (pc := 6) (lv' := [(0, vR (some (b0 + 21))), (1, vR r1), (3, vI 0)]) dX8_lineFor_6 rfl (Nat.le_of_ble_eq_true rfl) [1, 2, 0] rfl ?_
  exact H
theorem pX8_lineFor_7 {d b0 : Nat} {h0 hE h : ea_H} {rv : Option ea_V} {r1 : Option Nat} {x3 : Int32} (hd : 3 ≤ d) (hs_h : ShC b0 h) (H : ∃ a3, r1 = some a3 ∧ a3 < ea_n h ∧ ea_c h a3 = 0 ∧ ((ea_i h a3 8) ≤ x3 → rv = some (vI (-1)) ∧ hE = h) ∧ (¬ (ea_i h a3 8) ≤ x3 → a3 < ea_n h ∧ ea_c h a3 = 0 ∧ ∃ a9, (ea_r h a3 10) = some a9 ∧ a9 < ea_n h ∧ ea_c h a9 = 20 ∧ vp_in x3 (ea_l h a9) ∧ ((ea_i h a9 (Int32.toNatClampNeg x3)) = ((-1) : Int32) → rv = some (vI x3) ∧ hE = h) ∧ (¬ (ea_i h a9 (Int32.toNatClampNeg x3)) = ((-1) : Int32) → a3 < ea_n h ∧ ea_c h a3 = 0 ∧ a3 < ea_n h ∧ ea_c h a3 = 0 ∧ a9 < ea_n h ∧ ea_c h a9 = 20 ∧ vp_in x3 (ea_l h a9) ∧ ∃ (d19 : Nat) (xc23 : Int32) (h20 : ea_H), ea_Met mX8_worth d19 [vR (some (b0 + 21)), vR (ea_r h a3 11), vI (ea_i h a9 (Int32.toNatClampNeg x3))] h (some (vI xc23)) h20 ∧ d19 + 1 ≤ d ∧ ShC b0 h20 ∧ (xc23 = (0 : Int32) → ea_W mX8_lineFor d h0 rv hE 7 [(0, vR (some (b0 + 21))), (1, vR r1), (3, vI (x3 + 1))] [] h20) ∧ (¬ xc23 = (0 : Int32) → rv = some (vI x3) ∧ hE = h20)))) : ea_W mX8_lineFor d h0 rv hE 7 [(0, vR (some (b0 + 21))), (1, vR r1), (3, vI x3)] [] h := by
  refine ea_iload_n (pc := 7) dX8_lineFor_7 rfl 2 rfl ?_
  refine ea_aload_n (pc := 8) dX8_lineFor_8 rfl 1 rfl ?_
  obtain ⟨a3, e4, f1, g2, H⟩ := H
  refine ea_deref0 e4 ?_
  refine ea_getI (pc := 9) dX8_lineFor_9 ec_0 (k := 8) (Nat.le_of_ble_eq_true rfl) rfl (Or.inl ew_817) f1 g2 ?_
  refine ea_icmp_ge (pc := 12) (tgt := 50) dX8_lineFor_12 rfl (fun c26 => ?_) (fun c26 => ?_)
  · have H := H.1 c26
    refine ea_iconst (pc := 50) dX8_lineFor_50 (v := (-1)) rfl ?_
    obtain ⟨rfl, rfl⟩ := H
    exact ea_ireturn (pc := 51) dX8_lineFor_51 rfl rfl
  · have H := H.2 c26
    refine ea_aload_n (pc := 15) dX8_lineFor_15 rfl 1 rfl ?_
    obtain ⟨f5, g6, H⟩ := H
    refine ea_deref0 e4 ?_
    refine ea_getR (pc := 16) dX8_lineFor_16 ec_0 (k := 10) (Nat.le_of_ble_eq_true rfl) rfl (Or.inl ew_823) f5 g6 rfl ?_
    refine ea_iload_n (pc := 19) dX8_lineFor_19 rfl 2 rfl ?_
    obtain ⟨a9, e10, f7, g8, H⟩ := H
    refine ea_deref1 e10 ?_
    obtain ⟨z11, H⟩ := H
    refine ea_iald (pc := 20) dX8_lineFor_20 f7 g8 z11 ?_
    refine ea_iconst (pc := 21) dX8_lineFor_21 (v := (-1)) rfl ?_
    refine ea_icmp_eq (pc := 22) (tgt := 42) dX8_lineFor_22 rfl (fun c25 => ?_) (fun c25 => ?_)
    · have H := H.1 c25
      refine ea_iload_n (pc := 42) dX8_lineFor_42 rfl 2 rfl ?_
      obtain ⟨rfl, rfl⟩ := H
      exact ea_ireturn (pc := 43) dX8_lineFor_43 rfl rfl
    · have H := H.2 c25
      refine ea_aload_n (pc := 25) dX8_lineFor_25 rfl 0 rfl ?_
      refine ea_aload_n (pc := 26) dX8_lineFor_26 rfl 1 rfl ?_
      obtain ⟨f12, g13, H⟩ := H
      refine ea_deref0 e4 ?_
      refine ea_getR (pc := 27) dX8_lineFor_27 ec_0 (k := 11) (Nat.le_of_ble_eq_true rfl) rfl (Or.inl ew_825) f12 g13 rfl ?_
      refine ea_aload_n (pc := 30) dX8_lineFor_30 rfl 1 rfl ?_
      obtain ⟨f14, g15, H⟩ := H
      refine ea_deref0 e4 ?_
      refine ea_getR (pc := 31) dX8_lineFor_31 ec_0 (k := 10) (Nat.le_of_ble_eq_true rfl) rfl (Or.inl ew_823) f14 g15 rfl ?_
      refine ea_iload_n (pc := 34) dX8_lineFor_34 rfl 2 rfl ?_
      obtain ⟨f16, g17, H⟩ := H
      refine ea_deref1 e10 ?_
      obtain ⟨z18, H⟩ := H
      refine ea_iald (pc := 35) dX8_lineFor_35 f16 g17 z18 ?_
      obtain ⟨d19, xc23, h20, m21, q22, hs_h20, H⟩ := H
      refine ea_callV (pc := 36) (As := [vR (ea_r h a3 11), vI (ea_i h a9 (Int32.toNatClampNeg x3))]) (st := []) dX8_lineFor_36 kX8_worth m21 q22 rfl (Nat.le_of_ble_eq_true rfl) ew_1058 ew_1060 ew_36 (ci := 8) rfl (by decide) (hs_h.1 21 (by decide)).1 (hs_h.1 21 (by decide)).2.1 ?_
      refine ea_if_eq (pc := 39) (tgt := 44) dX8_lineFor_39 rfl (fun c24 => ?_) (fun c24 => ?_)
      · have H := H.1 c24
        refine ea_iinc (pc := 44) (v := 1) (lv' := [(0, vR (some (b0 + 21))), (1, vR r1), (3, vI (x3 + 1))]) dX8_lineFor_44 2 rfl rfl (Nat.le_of_ble_eq_true rfl) [1, 2, 0] rfl ?_
        refine ea_goto (pc := 47) (tgt := 7) dX8_lineFor_47 rfl ?_
        exact H
      · have H := H.2 c24
        refine ea_iload_n (pc := 42) dX8_lineFor_42 rfl 2 rfl ?_
        obtain ⟨rfl, rfl⟩ := H
        exact ea_ireturn (pc := 43) dX8_lineFor_43 rfl rfl
theorem pX8_worth_0 {d b0 : Nat} {h0 hE h : ea_H} {rv : Option ea_V} {r1 : Option Nat} {x2 : Int32} (hd : 2 ≤ d) (hs_h : ShC b0 h) (H : ea_W mX8_worth d h0 rv hE 5 [(0, vR (some (b0 + 21))), (1, vR r1), (3, vI 0), (4, vI x2)] [] h) : ea_W mX8_worth d h0 rv hE 0 [(0, vR (some (b0 + 21))), (1, vR r1), (2, vI x2)] [] h := by
  refine ea_iconst (pc := 0) dX8_worth_0 (v := 0) rfl ?_
  refine ea_istore_n (pc := 1) (lv' := [(0, vR (some (b0 + 21))), (1, vR r1), (2, vI x2), (3, vI 0)]) dX8_worth_1 rfl (Nat.le_of_ble_eq_true rfl) [1, 2, 3, 0] rfl ?_
  refine ea_iload_n (pc := 2) dX8_worth_2 rfl 2 rfl ?_
  refine ea_istore (pc := 3) (lv' := [(0, vR (some (b0 + 21))), (1, vR r1), (3, vI 0), (4, vI x2)]) dX8_worth_3 (Nat.le_of_ble_eq_true rfl) [1, 2, 4, 0] rfl ?_
  exact H
theorem pX8_worth_5 {d b0 : Nat} {h0 hE h : ea_H} {rv : Option ea_V} {r1 : Option Nat} {x3 : Int32} {x4 : Int32} (hd : 2 ≤ d) (hs_h : ShC b0 h) (H : (x4 < (0 : Int32) → ea_W mX8_worth d h0 rv hE 166 [(0, vR (some (b0 + 21))), (3, vI x3)] [] h) ∧ (¬ x4 < (0 : Int32) → ∃ a3, r1 = some a3 ∧ a3 < ea_n h ∧ ea_c h a3 = 20 ∧ ((Int32.ofNat (ea_l h a3)) ≤ x4 → ea_W mX8_worth d h0 rv hE 166 [(0, vR (some (b0 + 21))), (3, vI x3)] [] h) ∧ (¬ (Int32.ofNat (ea_l h a3)) ≤ x4 → a3 < ea_n h ∧ ea_c h a3 = 20 ∧ vp_in x4 (ea_l h a3) ∧ ((ea_i h a3 (Int32.toNatClampNeg x4)) = ((-100) : Int32) → ea_W mX8_worth d h0 rv hE 166 [(0, vR (some (b0 + 21))), (3, vI x3)] [] h) ∧ (¬ (ea_i h a3 (Int32.toNatClampNeg x4)) = ((-100) : Int32) → a3 < ea_n h ∧ ea_c h a3 = 20 ∧ vp_in x4 (ea_l h a3) ∧ ((ea_i h a3 (Int32.toNatClampNeg x4)) ≤ ((-10) : Int32) → (¬ (ea_i h a3 (Int32.toNatClampNeg x4)) = ((-17) : Int32) → ea_W mX8_worth d h0 rv hE 125 [(0, vR (some (b0 + 21))), (1, vR r1), (3, vI x3), (4, vI x4), (5, vI (ea_i h a3 (Int32.toNatClampNeg x4)))] [] h) ∧ ((ea_i h a3 (Int32.toNatClampNeg x4)) = ((-17) : Int32) → (x3 ≤ (0 : Int32) → ea_W mX8_worth d h0 rv hE 125 [(0, vR (some (b0 + 21))), (1, vR r1), (3, vI x3), (4, vI x4), (5, vI (ea_i h a3 (Int32.toNatClampNeg x4)))] [] h) ∧ (¬ x3 ≤ (0 : Int32) → vp_in (x3 - (1 : Int32)) 64 ∧ vp_in (x3 - (1 : Int32)) 64 ∧ ∀ h13, h13 = ea_wi h (b0 + 30) (Int32.toNatClampNeg (x3 - (1 : Int32))) ((1 : Int32) - (ea_i h (b0 + 30) (Int32.toNatClampNeg (x3 - (1 : Int32))))) → ea_W mX8_worth d h0 rv hE 5 [(0, vR (some (b0 + 21))), (1, vR r1), (3, vI x3), (4, vI (x4 + 1))] [] h13))) ∧ (¬ (ea_i h a3 (Int32.toNatClampNeg x4)) ≤ ((-10) : Int32) → ((Int32.ofNat (ea_l h (b0 + 30))) ≤ x3 → rv = some (vI 0) ∧ hE = h) ∧ (¬ (Int32.ofNat (ea_l h (b0 + 30))) ≤ x3 → ((((-1) : Int32) - (ea_i h a3 (Int32.toNatClampNeg x4))) < (Int32.ofNat (ea_l h (b0 + 29))) → ((ea_i h a3 (Int32.toNatClampNeg x4)) < (0 : Int32) → vp_in (((-1) : Int32) - (ea_i h a3 (Int32.toNatClampNeg x4))) 7 ∧ vp_in x3 64 ∧ ∀ h19, h19 = ea_wi h (b0 + 30) (Int32.toNatClampNeg x3) (ea_i h (b0 + 29) (Int32.toNatClampNeg (((-1) : Int32) - (ea_i h a3 (Int32.toNatClampNeg x4))))) → ea_W mX8_worth d h0 rv hE 5 [(0, vR (some (b0 + 21))), (1, vR r1), (3, vI (x3 + 1)), (4, vI (x4 + 1))] [] h19) ∧ (¬ (ea_i h a3 (Int32.toNatClampNeg x4)) < (0 : Int32) → vp_in x3 64 ∧ ∀ h22, h22 = ea_wi h (b0 + 30) (Int32.toNatClampNeg x3) (ea_i h a3 (Int32.toNatClampNeg x4)) → ea_W mX8_worth d h0 rv hE 5 [(0, vR (some (b0 + 21))), (1, vR r1), (3, vI (x3 + 1)), (4, vI (x4 + 1))] [] h22)) ∧ (¬ (((-1) : Int32) - (ea_i h a3 (Int32.toNatClampNeg x4))) < (Int32.ofNat (ea_l h (b0 + 29))) → rv = some (vI 0) ∧ hE = h))))))) : ea_W mX8_worth d h0 rv hE 5 [(0, vR (some (b0 + 21))), (1, vR r1), (3, vI x3), (4, vI x4)] [] h := by
  refine ea_iload (pc := 5) dX8_worth_5 3 rfl ?_
  refine ea_if_lt (pc := 7) (tgt := 166) dX8_worth_7 rfl (fun c30 => ?_) (fun c30 => ?_)
  · have H := H.1 c30
    exact ea_fewer [0, 2] rfl H
  · have H := H.2 c30
    refine ea_iload (pc := 10) dX8_worth_10 3 rfl ?_
    refine ea_aload_n (pc := 12) dX8_worth_12 rfl 1 rfl ?_
    obtain ⟨a3, e4, f1, g2, H⟩ := H
    refine ea_deref0 e4 ?_
    refine ea_alen (pc := 13) dX8_worth_13 f1 g2 (by decide) (by decide) ?_
    refine ea_icmp_ge (pc := 14) (tgt := 166) dX8_worth_14 rfl (fun c29 => ?_) (fun c29 => ?_)
    · have H := H.1 c29
      exact ea_fewer [0, 2] rfl H
    · have H := H.2 c29
      refine ea_aload_n (pc := 17) dX8_worth_17 rfl 1 rfl ?_
      refine ea_iload (pc := 18) dX8_worth_18 3 rfl ?_
      obtain ⟨f5, g6, H⟩ := H
      refine ea_deref1 e4 ?_
      obtain ⟨z7, H⟩ := H
      refine ea_iald (pc := 20) dX8_worth_20 f5 g6 z7 ?_
      refine ea_bipush (pc := 21) dX8_worth_21 (v := (-100)) rfl ?_
      refine ea_icmp_eq (pc := 23) (tgt := 166) dX8_worth_23 rfl (fun c28 => ?_) (fun c28 => ?_)
      · have H := H.1 c28
        exact ea_fewer [0, 2] rfl H
      · have H := H.2 c28
        refine ea_aload_n (pc := 26) dX8_worth_26 rfl 1 rfl ?_
        refine ea_iload (pc := 27) dX8_worth_27 3 rfl ?_
        obtain ⟨f8, g9, H⟩ := H
        refine ea_deref1 e4 ?_
        obtain ⟨z10, H⟩ := H
        refine ea_iald (pc := 29) dX8_worth_29 f8 g9 z10 ?_
        refine ea_istore (pc := 30) (lv' := [(0, vR (some (b0 + 21))), (1, vR r1), (3, vI x3), (4, vI x4), (5, vI (ea_i h a3 (Int32.toNatClampNeg x4)))]) dX8_worth_30 (Nat.le_of_ble_eq_true rfl) [1, 2, 3, 4, 0] rfl ?_
        refine ea_iload (pc := 32) dX8_worth_32 4 rfl ?_
        refine ea_bipush (pc := 34) dX8_worth_34 (v := (-10)) rfl ?_
        refine ea_icmp_le (pc := 36) (tgt := 93) dX8_worth_36 rfl (fun c27 => ?_) (fun c27 => ?_)
        · have H := H.1 c27
          refine ea_iload (pc := 93) dX8_worth_93 4 rfl ?_
          refine ea_bipush (pc := 95) dX8_worth_95 (v := (-17)) rfl ?_
          refine ea_icmp_ne (pc := 97) (tgt := 125) dX8_worth_97 rfl (fun c16 => ?_) (fun c16 => ?_)
          · have H := H.1 c16
            exact H
          · have H := H.2 c16
            refine ea_iload_n (pc := 100) dX8_worth_100 rfl 2 rfl ?_
            refine ea_if_le (pc := 101) (tgt := 125) dX8_worth_101 rfl (fun c15 => ?_) (fun c15 => ?_)
            · have H := H.1 c15
              exact H
            · have H := H.2 c15
              refine ea_aload_n (pc := 104) dX8_worth_104 rfl 0 rfl ?_
              refine ea_getR (pc := 105) dX8_worth_105 ec_8 (k := 4) (Nat.le_of_ble_eq_true rfl) rfl (Or.inl ew_339) (hs_h.1 21 (by decide)).1 (hs_h.1 21 (by decide)).2.1 (hs_h.2 21 4 rfl) ?_
              refine ea_iload_n (pc := 108) dX8_worth_108 rfl 2 rfl ?_
              refine ea_iconst (pc := 109) dX8_worth_109 (v := 1) rfl ?_
              refine ea_isub (pc := 110) dX8_worth_110 ?_
              refine ea_iconst (pc := 111) dX8_worth_111 (v := 1) rfl ?_
              refine ea_aload_n (pc := 112) dX8_worth_112 rfl 0 rfl ?_
              refine ea_getR (pc := 113) dX8_worth_113 ec_8 (k := 4) (Nat.le_of_ble_eq_true rfl) rfl (Or.inl ew_339) (hs_h.1 21 (by decide)).1 (hs_h.1 21 (by decide)).2.1 (hs_h.2 21 4 rfl) ?_
              refine ea_iload_n (pc := 116) dX8_worth_116 rfl 2 rfl ?_
              refine ea_iconst (pc := 117) dX8_worth_117 (v := 1) rfl ?_
              refine ea_isub (pc := 118) dX8_worth_118 ?_
              obtain ⟨z11, H⟩ := H
              refine ea_iald (pc := 119) dX8_worth_119 (hs_h.1 30 (by decide)).1 (hs_h.1 30 (by decide)).2.1 (ea_vpl (hs_h.1 30 (by decide)).2.2 z11) ?_
              refine ea_isub (pc := 120) dX8_worth_120 ?_
              obtain ⟨z12, H⟩ := H
              refine ea_iast (pc := 121) dX8_worth_121 (hs_h.1 30 (by decide)).1 (hs_h.1 30 (by decide)).2.1 (ea_vpl (hs_h.1 30 (by decide)).2.2 z12) ?_
              obtain ⟨h13, E14⟩ : ∃ z, z = ea_wi h (b0 + 30) (Int32.toNatClampNeg (x3 - (1 : Int32))) ((1 : Int32) - (ea_i h (b0 + 30) (Int32.toNatClampNeg (x3 - (1 : Int32))))) := ⟨_, rfl⟩
              have H := H h13 E14
              refine ea_nm E14 ?_
              have hs_h13 : ShC b0 h13 := by rw [E14]; exact ShC_wi hs_h
              refine ea_goto (pc := 122) (tgt := 160) dX8_worth_122 rfl ?_
              refine ea_iinc (pc := 160) (v := 1) (lv' := [(0, vR (some (b0 + 21))), (1, vR r1), (3, vI x3), (4, vI (x4 + 1))]) dX8_worth_160 3 rfl rfl (Nat.le_of_ble_eq_true rfl) [1, 2, 3, 0] rfl ?_
              refine ea_goto (pc := 163) (tgt := 5) dX8_worth_163 rfl ?_
              exact H
        · have H := H.2 c27
          refine ea_iload_n (pc := 39) dX8_worth_39 rfl 2 rfl ?_
          refine ea_aload_n (pc := 40) dX8_worth_40 rfl 0 rfl ?_
          refine ea_getR (pc := 41) dX8_worth_41 ec_8 (k := 4) (Nat.le_of_ble_eq_true rfl) rfl (Or.inl ew_339) (hs_h.1 21 (by decide)).1 (hs_h.1 21 (by decide)).2.1 (hs_h.2 21 4 rfl) ?_
          refine ea_alen (pc := 44) dX8_worth_44 (hs_h.1 30 (by decide)).1 (hs_h.1 30 (by decide)).2.1 (by decide) (by decide) ?_
          refine ea_icmp_ge (pc := 45) (tgt := 60) dX8_worth_45 rfl (fun c26 => ?_) (fun c26 => ?_)
          · have H := H.1 c26
            refine ea_iconst (pc := 60) dX8_worth_60 (v := 0) rfl ?_
            obtain ⟨rfl, rfl⟩ := H
            exact ea_ireturn (pc := 61) dX8_worth_61 rfl rfl
          · have H := H.2 c26
            refine ea_iconst (pc := 48) dX8_worth_48 (v := (-1)) rfl ?_
            refine ea_iload (pc := 49) dX8_worth_49 4 rfl ?_
            refine ea_isub (pc := 51) dX8_worth_51 ?_
            refine ea_aload_n (pc := 52) dX8_worth_52 rfl 0 rfl ?_
            refine ea_getR (pc := 53) dX8_worth_53 ec_8 (k := 3) (Nat.le_of_ble_eq_true rfl) rfl (Or.inl ew_338) (hs_h.1 21 (by decide)).1 (hs_h.1 21 (by decide)).2.1 (hs_h.2 21 3 rfl) ?_
            refine ea_alen (pc := 56) dX8_worth_56 (hs_h.1 29 (by decide)).1 (hs_h.1 29 (by decide)).2.1 (by decide) (by decide) ?_
            refine ea_icmp_lt (pc := 57) (tgt := 62) dX8_worth_57 rfl (fun c25 => ?_) (fun c25 => ?_)
            · have H := H.1 c25
              refine ea_aload_n (pc := 62) dX8_worth_62 rfl 0 rfl ?_
              refine ea_getR (pc := 63) dX8_worth_63 ec_8 (k := 4) (Nat.le_of_ble_eq_true rfl) rfl (Or.inl ew_339) (hs_h.1 21 (by decide)).1 (hs_h.1 21 (by decide)).2.1 (hs_h.2 21 4 rfl) ?_
              refine ea_iload_n (pc := 66) dX8_worth_66 rfl 2 rfl ?_
              refine ea_iload (pc := 67) dX8_worth_67 4 rfl ?_
              refine ea_if_lt (pc := 69) (tgt := 77) dX8_worth_69 rfl (fun c24 => ?_) (fun c24 => ?_)
              · have H := H.1 c24
                refine ea_aload_n (pc := 77) dX8_worth_77 rfl 0 rfl ?_
                refine ea_getR (pc := 78) dX8_worth_78 ec_8 (k := 3) (Nat.le_of_ble_eq_true rfl) rfl (Or.inl ew_338) (hs_h.1 21 (by decide)).1 (hs_h.1 21 (by decide)).2.1 (hs_h.2 21 3 rfl) ?_
                refine ea_iconst (pc := 81) dX8_worth_81 (v := (-1)) rfl ?_
                refine ea_iload (pc := 82) dX8_worth_82 4 rfl ?_
                refine ea_isub (pc := 84) dX8_worth_84 ?_
                obtain ⟨z17, H⟩ := H
                refine ea_iald (pc := 85) dX8_worth_85 (hs_h.1 29 (by decide)).1 (hs_h.1 29 (by decide)).2.1 (ea_vpl (hs_h.1 29 (by decide)).2.2 z17) ?_
                obtain ⟨z18, H⟩ := H
                refine ea_iast (pc := 86) dX8_worth_86 (hs_h.1 30 (by decide)).1 (hs_h.1 30 (by decide)).2.1 (ea_vpl (hs_h.1 30 (by decide)).2.2 z18) ?_
                obtain ⟨h19, E20⟩ : ∃ z, z = ea_wi h (b0 + 30) (Int32.toNatClampNeg x3) (ea_i h (b0 + 29) (Int32.toNatClampNeg (((-1) : Int32) - (ea_i h a3 (Int32.toNatClampNeg x4))))) := ⟨_, rfl⟩
                have H := H h19 E20
                refine ea_nm E20 ?_
                have hs_h19 : ShC b0 h19 := by rw [E20]; exact ShC_wi hs_h
                refine ea_iinc (pc := 87) (v := 1) (lv' := [(0, vR (some (b0 + 21))), (1, vR r1), (3, vI (x3 + 1)), (4, vI x4)]) dX8_worth_87 2 rfl rfl (Nat.le_of_ble_eq_true rfl) [1, 2, 0, 3] rfl ?_
                refine ea_goto (pc := 90) (tgt := 160) dX8_worth_90 rfl ?_
                refine ea_iinc (pc := 160) (v := 1) (lv' := [(0, vR (some (b0 + 21))), (1, vR r1), (3, vI (x3 + 1)), (4, vI (x4 + 1))]) dX8_worth_160 3 rfl rfl (Nat.le_of_ble_eq_true rfl) [1, 2, 3, 0] rfl ?_
                refine ea_goto (pc := 163) (tgt := 5) dX8_worth_163 rfl ?_
                exact H
              · have H := H.2 c24
                refine ea_iload (pc := 72) dX8_worth_72 4 rfl ?_
                refine ea_goto (pc := 74) (tgt := 86) dX8_worth_74 rfl ?_
                obtain ⟨z21, H⟩ := H
                refine ea_iast (pc := 86) dX8_worth_86 (hs_h.1 30 (by decide)).1 (hs_h.1 30 (by decide)).2.1 (ea_vpl (hs_h.1 30 (by decide)).2.2 z21) ?_
                obtain ⟨h22, E23⟩ : ∃ z, z = ea_wi h (b0 + 30) (Int32.toNatClampNeg x3) (ea_i h a3 (Int32.toNatClampNeg x4)) := ⟨_, rfl⟩
                have H := H h22 E23
                refine ea_nm E23 ?_
                have hs_h22 : ShC b0 h22 := by rw [E23]; exact ShC_wi hs_h
                refine ea_iinc (pc := 87) (v := 1) (lv' := [(0, vR (some (b0 + 21))), (1, vR r1), (3, vI (x3 + 1)), (4, vI x4)]) dX8_worth_87 2 rfl rfl (Nat.le_of_ble_eq_true rfl) [1, 2, 0, 3] rfl ?_
                refine ea_goto (pc := 90) (tgt := 160) dX8_worth_90 rfl ?_
                refine ea_iinc (pc := 160) (v := 1) (lv' := [(0, vR (some (b0 + 21))), (1, vR r1), (3, vI (x3 + 1)), (4, vI (x4 + 1))]) dX8_worth_160 3 rfl rfl (Nat.le_of_ble_eq_true rfl) [1, 2, 3, 0] rfl ?_
                refine ea_goto (pc := 163) (tgt := 5) dX8_worth_163 rfl ?_
                exact H
            · have H := H.2 c25
              refine ea_iconst (pc := 60) dX8_worth_60 (v := 0) rfl ?_
              obtain ⟨rfl, rfl⟩ := H
              exact ea_ireturn (pc := 61) dX8_worth_61 rfl rfl
theorem pX8_worth_125 {d b0 : Nat} {h0 hE h : ea_H} {rv : Option ea_V} {r1 : Option Nat} {x3 : Int32} {x4 : Int32} {x5 : Int32} (hd : 2 ≤ d) (hs_h : ShC b0 h) (H : (x3 ≤ (1 : Int32) → ea_W mX8_worth d h0 rv hE 5 [(0, vR (some (b0 + 21))), (1, vR r1), (3, vI x3), (4, vI (x4 + 1))] [] h) ∧ (¬ x3 ≤ (1 : Int32) → vp_in ((x3 + (-1)) - (1 : Int32)) 64 ∧ vp_in (x3 + (-1)) 64 ∧ (okX8_joined (x5 : Int32) ((ea_i h (b0 + 30) (Int32.toNatClampNeg ((x3 + (-1)) - (1 : Int32)))) : Int32) ((ea_i h (b0 + 30) (Int32.toNatClampNeg (x3 + (-1)))) : Int32) h) ∧ vp_in ((x3 + (-1)) - (1 : Int32)) 64 ∧ ∀ h12, h12 = ea_wi h (b0 + 30) (Int32.toNatClampNeg ((x3 + (-1)) - (1 : Int32))) (vX8_joined (x5 : Int32) ((ea_i h (b0 + 30) (Int32.toNatClampNeg ((x3 + (-1)) - (1 : Int32)))) : Int32) ((ea_i h (b0 + 30) (Int32.toNatClampNeg (x3 + (-1)))) : Int32) h) → ea_W mX8_worth d h0 rv hE 5 [(0, vR (some (b0 + 21))), (1, vR r1), (3, vI (x3 + (-1))), (4, vI (x4 + 1))] [] h12)) : ea_W mX8_worth d h0 rv hE 125 [(0, vR (some (b0 + 21))), (1, vR r1), (3, vI x3), (4, vI x4), (5, vI x5)] [] h := by
  refine ea_iload_n (pc := 125) dX8_worth_125 rfl 2 rfl ?_
  refine ea_iconst (pc := 126) dX8_worth_126 (v := 1) rfl ?_
  refine ea_icmp_le (pc := 127) (tgt := 160) dX8_worth_127 rfl (fun c15 => ?_) (fun c15 => ?_)
  · have H := H.1 c15
    refine ea_iinc (pc := 160) (v := 1) (lv' := [(0, vR (some (b0 + 21))), (1, vR r1), (3, vI x3), (4, vI (x4 + 1))]) dX8_worth_160 3 rfl rfl (Nat.le_of_ble_eq_true rfl) [1, 2, 3, 0] rfl ?_
    refine ea_goto (pc := 163) (tgt := 5) dX8_worth_163 rfl ?_
    exact H
  · have H := H.2 c15
    refine ea_iinc (pc := 130) (v := (-1)) (lv' := [(0, vR (some (b0 + 21))), (1, vR r1), (3, vI (x3 + (-1))), (4, vI x4), (5, vI x5)]) dX8_worth_130 2 rfl rfl (Nat.le_of_ble_eq_true rfl) [1, 2, 0, 3, 4] rfl ?_
    refine ea_aload_n (pc := 133) dX8_worth_133 rfl 0 rfl ?_
    refine ea_getR (pc := 134) dX8_worth_134 ec_8 (k := 4) (Nat.le_of_ble_eq_true rfl) rfl (Or.inl ew_339) (hs_h.1 21 (by decide)).1 (hs_h.1 21 (by decide)).2.1 (hs_h.2 21 4 rfl) ?_
    refine ea_iload_n (pc := 137) dX8_worth_137 rfl 2 rfl ?_
    refine ea_iconst (pc := 138) dX8_worth_138 (v := 1) rfl ?_
    refine ea_isub (pc := 139) dX8_worth_139 ?_
    refine ea_iload (pc := 140) dX8_worth_140 4 rfl ?_
    refine ea_aload_n (pc := 142) dX8_worth_142 rfl 0 rfl ?_
    refine ea_getR (pc := 143) dX8_worth_143 ec_8 (k := 4) (Nat.le_of_ble_eq_true rfl) rfl (Or.inl ew_339) (hs_h.1 21 (by decide)).1 (hs_h.1 21 (by decide)).2.1 (hs_h.2 21 4 rfl) ?_
    refine ea_iload_n (pc := 146) dX8_worth_146 rfl 2 rfl ?_
    refine ea_iconst (pc := 147) dX8_worth_147 (v := 1) rfl ?_
    refine ea_isub (pc := 148) dX8_worth_148 ?_
    obtain ⟨z1, H⟩ := H
    refine ea_iald (pc := 149) dX8_worth_149 (hs_h.1 30 (by decide)).1 (hs_h.1 30 (by decide)).2.1 (ea_vpl (hs_h.1 30 (by decide)).2.2 z1) ?_
    refine ea_aload_n (pc := 150) dX8_worth_150 rfl 0 rfl ?_
    refine ea_getR (pc := 151) dX8_worth_151 ec_8 (k := 4) (Nat.le_of_ble_eq_true rfl) rfl (Or.inl ew_339) (hs_h.1 21 (by decide)).1 (hs_h.1 21 (by decide)).2.1 (hs_h.2 21 4 rfl) ?_
    refine ea_iload_n (pc := 154) dX8_worth_154 rfl 2 rfl ?_
    obtain ⟨z2, H⟩ := H
    refine ea_iald (pc := 155) dX8_worth_155 (hs_h.1 30 (by decide)).1 (hs_h.1 30 (by decide)).2.1 (ea_vpl (hs_h.1 30 (by decide)).2.2 z2) ?_
    obtain ⟨z14, H⟩ := H
    refine ea_callS (pc := 156) (d' := d - 1) (As := [vI x5, vI (ea_i h (b0 + 30) (Int32.toNatClampNeg ((x3 + (-1)) - (1 : Int32)))), vI (ea_i h (b0 + 30) (Int32.toNatClampNeg (x3 + (-1))))]) (st := [vI ((x3 + (-1)) - (1 : Int32)), vR (some (b0 + 30))]) dX8_worth_156 kX8_joined (sX8_joined (d := d - 1) (by omega) z14) (by omega) rfl (Nat.le_of_ble_eq_true rfl) ew_1062 ew_1063 ?_
    obtain ⟨z11, H⟩ := H
    refine ea_iast (pc := 159) dX8_worth_159 (hs_h.1 30 (by decide)).1 (hs_h.1 30 (by decide)).2.1 (ea_vpl (hs_h.1 30 (by decide)).2.2 z11) ?_
    obtain ⟨h12, E13⟩ : ∃ z, z = ea_wi h (b0 + 30) (Int32.toNatClampNeg ((x3 + (-1)) - (1 : Int32))) (vX8_joined (x5 : Int32) ((ea_i h (b0 + 30) (Int32.toNatClampNeg ((x3 + (-1)) - (1 : Int32)))) : Int32) ((ea_i h (b0 + 30) (Int32.toNatClampNeg (x3 + (-1)))) : Int32) h) := ⟨_, rfl⟩
    have H := H h12 E13
    refine ea_nm E13 ?_
    have hs_h12 : ShC b0 h12 := by rw [E13]; exact ShC_wi hs_h
    refine ea_iinc (pc := 160) (v := 1) (lv' := [(0, vR (some (b0 + 21))), (1, vR r1), (3, vI (x3 + (-1))), (4, vI (x4 + 1))]) dX8_worth_160 3 rfl rfl (Nat.le_of_ble_eq_true rfl) [1, 2, 3, 0] rfl ?_
    refine ea_goto (pc := 163) (tgt := 5) dX8_worth_163 rfl ?_
    exact H
theorem pX8_worth_166 {d b0 : Nat} {h0 hE h : ea_H} {rv : Option ea_V} {x3 : Int32} (hd : 2 ≤ d) (hs_h : ShC b0 h) (H : (x3 ≤ (0 : Int32) → rv = some (vI 0) ∧ hE = h) ∧ (¬ x3 ≤ (0 : Int32) → vp_in (x3 - (1 : Int32)) 64 ∧ rv = some (vI (ea_i h (b0 + 30) (Int32.toNatClampNeg (x3 - (1 : Int32))))) ∧ hE = h)) : ea_W mX8_worth d h0 rv hE 166 [(0, vR (some (b0 + 21))), (3, vI x3)] [] h := by
  refine ea_iload_n (pc := 166) dX8_worth_166 rfl 1 rfl ?_
  refine ea_if_le (pc := 167) (tgt := 181) dX8_worth_167 rfl (fun c2 => ?_) (fun c2 => ?_)
  · have H := H.1 c2
    refine ea_iconst (pc := 181) dX8_worth_181 (v := 0) rfl ?_
    obtain ⟨rfl, rfl⟩ := H
    exact ea_ireturn (pc := 182) dX8_worth_182 rfl rfl
  · have H := H.2 c2
    refine ea_aload_n (pc := 170) dX8_worth_170 rfl 0 rfl ?_
    refine ea_getR (pc := 171) dX8_worth_171 ec_8 (k := 4) (Nat.le_of_ble_eq_true rfl) rfl (Or.inl ew_339) (hs_h.1 21 (by decide)).1 (hs_h.1 21 (by decide)).2.1 (hs_h.2 21 4 rfl) ?_
    refine ea_iload_n (pc := 174) dX8_worth_174 rfl 1 rfl ?_
    refine ea_iconst (pc := 175) dX8_worth_175 (v := 1) rfl ?_
    refine ea_isub (pc := 176) dX8_worth_176 ?_
    obtain ⟨z1, H⟩ := H
    refine ea_iald (pc := 177) dX8_worth_177 (hs_h.1 30 (by decide)).1 (hs_h.1 30 (by decide)).2.1 (ea_vpl (hs_h.1 30 (by decide)).2.2 z1) ?_
    refine ea_goto (pc := 178) (tgt := 182) dX8_worth_178 rfl ?_
    obtain ⟨rfl, rfl⟩ := H
    exact ea_ireturn (pc := 182) dX8_worth_182 rfl rfl
theorem pX9_goneFrom_0 {d b0 : Nat} {h0 hE h : ea_H} {rv : Option ea_V} {x1 : Int32} {x2 : Int32} {x3 : Int32} (hd : 2 ≤ d) (hs_h : ShC b0 h) (H : ea_W mX9_goneFrom d h0 rv hE 6 [(0, vR (some (b0 + 5))), (1, vI x1), (2, vI x2), (3, vI x3), (4, vI (-1)), (5, vI 0)] [] h) : ea_W mX9_goneFrom d h0 rv hE 0 [(0, vR (some (b0 + 5))), (1, vI x1), (2, vI x2), (3, vI x3)] [] h := by
  refine ea_iconst (pc := 0) dX9_goneFrom_0 (v := (-1)) rfl ?_
  refine ea_istore (pc := 1) (lv' := [(0, vR (some (b0 + 5))), (1, vI x1), (2, vI x2), (3, vI x3), (4, vI (-1))]) dX9_goneFrom_1 (Nat.le_of_ble_eq_true rfl) [1, 2, 3, 4, 0] rfl ?_
  refine ea_iconst (pc := 3) dX9_goneFrom_3 (v := 0) rfl ?_
  refine ea_istore (pc := 4) (lv' := [(0, vR (some (b0 + 5))), (1, vI x1), (2, vI x2), (3, vI x3), (4, vI (-1)), (5, vI 0)]) dX9_goneFrom_4 (Nat.le_of_ble_eq_true rfl) [1, 2, 3, 4, 5, 0] rfl ?_
  exact H
theorem pX9_goneFrom_6 {d b0 : Nat} {h0 hE h : ea_H} {rv : Option ea_V} {x1 : Int32} {x2 : Int32} {x3 : Int32} {x4 : Int32} {x5 : Int32} (hd : 2 ≤ d) (hs_h : ShC b0 h) (H : vp_in x1 10 ∧ (((ea_i h (b0 + 6) (Int32.toNatClampNeg x1)) - (1 : Int32)) ≤ x5 → rv = some (vI x4) ∧ hE = h) ∧ (¬ ((ea_i h (b0 + 6) (Int32.toNatClampNeg x1)) - (1 : Int32)) ≤ x5 → (okX9_goesAt b0 (x1 : Int32) (x2 : Int32) (x5 : Int32) h) ∧ (x3 < (vX9_goesAt b0 (x1 : Int32) (x2 : Int32) (x5 : Int32) h) → ea_W mX9_goneFrom d h0 rv hE 6 [(0, vR (some (b0 + 5))), (1, vI x1), (2, vI x2), (3, vI x3), (4, vI x4), (5, vI (x5 + 1))] [] h) ∧ (¬ x3 < (vX9_goesAt b0 (x1 : Int32) (x2 : Int32) (x5 : Int32) h) → ea_W mX9_goneFrom d h0 rv hE 6 [(0, vR (some (b0 + 5))), (1, vI x1), (2, vI x2), (3, vI x3), (4, vI x5), (5, vI (x5 + 1))] [] h))) : ea_W mX9_goneFrom d h0 rv hE 6 [(0, vR (some (b0 + 5))), (1, vI x1), (2, vI x2), (3, vI x3), (4, vI x4), (5, vI x5)] [] h := by
  refine ea_iload (pc := 6) dX9_goneFrom_6 5 rfl ?_
  refine ea_aload_n (pc := 8) dX9_goneFrom_8 rfl 0 rfl ?_
  refine ea_getR (pc := 9) dX9_goneFrom_9 ec_9 (k := 1) (Nat.le_of_ble_eq_true rfl) rfl (Or.inl ew_180) (hs_h.1 5 (by decide)).1 (hs_h.1 5 (by decide)).2.1 (hs_h.2 5 1 rfl) ?_
  refine ea_iload_n (pc := 12) dX9_goneFrom_12 rfl 1 rfl ?_
  obtain ⟨z1, H⟩ := H
  refine ea_iald (pc := 13) dX9_goneFrom_13 (hs_h.1 6 (by decide)).1 (hs_h.1 6 (by decide)).2.1 (ea_vpl (hs_h.1 6 (by decide)).2.2 z1) ?_
  refine ea_iconst (pc := 14) dX9_goneFrom_14 (v := 1) rfl ?_
  refine ea_isub (pc := 15) dX9_goneFrom_15 ?_
  refine ea_icmp_ge (pc := 16) (tgt := 41) dX9_goneFrom_16 rfl (fun c10 => ?_) (fun c10 => ?_)
  · have H := H.1 c10
    refine ea_iload (pc := 41) dX9_goneFrom_41 4 rfl ?_
    obtain ⟨rfl, rfl⟩ := H
    exact ea_ireturn (pc := 43) dX9_goneFrom_43 rfl rfl
  · have H := H.2 c10
    refine ea_aload_n (pc := 19) dX9_goneFrom_19 rfl 0 rfl ?_
    refine ea_iload_n (pc := 20) dX9_goneFrom_20 rfl 1 rfl ?_
    refine ea_iload_n (pc := 21) dX9_goneFrom_21 rfl 2 rfl ?_
    refine ea_iload (pc := 22) dX9_goneFrom_22 5 rfl ?_
    obtain ⟨z9, H⟩ := H
    refine ea_callV (pc := 24) (d' := d - 1) (As := [vI x1, vI x2, vI x5]) (st := []) dX9_goneFrom_24 kX9_goesAt (sX9_goesAt (d := d - 1) (by omega) hs_h z9) (by omega) rfl (Nat.le_of_ble_eq_true rfl) ew_1157 ew_577 ew_578 (ci := 9) rfl (by decide) (hs_h.1 5 (by decide)).1 (hs_h.1 5 (by decide)).2.1 ?_
    refine ea_iload_n (pc := 27) dX9_goneFrom_27 rfl 3 rfl ?_
    refine ea_icmp_gt (pc := 28) (tgt := 35) dX9_goneFrom_28 rfl (fun c8 => ?_) (fun c8 => ?_)
    · have H := H.1 c8
      refine ea_iinc (pc := 35) (v := 1) (lv' := [(0, vR (some (b0 + 5))), (1, vI x1), (2, vI x2), (3, vI x3), (4, vI x4), (5, vI (x5 + 1))]) dX9_goneFrom_35 5 rfl rfl (Nat.le_of_ble_eq_true rfl) [1, 2, 3, 4, 5, 0] rfl ?_
      refine ea_goto (pc := 38) (tgt := 6) dX9_goneFrom_38 rfl ?_
      exact H
    · have H := H.2 c8
      refine ea_iload (pc := 31) dX9_goneFrom_31 5 rfl ?_
      refine ea_istore (pc := 33) (lv' := [(0, vR (some (b0 + 5))), (1, vI x1), (2, vI x2), (3, vI x3), (4, vI x5), (5, vI x5)]) dX9_goneFrom_33 (Nat.le_of_ble_eq_true rfl) [1, 2, 3, 4, 0, 5] rfl ?_
      refine ea_iinc (pc := 35) (v := 1) (lv' := [(0, vR (some (b0 + 5))), (1, vI x1), (2, vI x2), (3, vI x3), (4, vI x5), (5, vI (x5 + 1))]) dX9_goneFrom_35 5 rfl rfl (Nat.le_of_ble_eq_true rfl) [1, 2, 3, 4, 5, 0] rfl ?_
      refine ea_goto (pc := 38) (tgt := 6) dX9_goneFrom_38 rfl ?_
      exact H
theorem pX10_refresh_0 {d b0 : Nat} {h0 hE h : ea_H} {rv : Option ea_V}  (hd : 1 ≤ d) (hs_h : ShC b0 h) (H : ((ea_i h (b0 + 13) 0) = (0 : Int32) → (∀ a1, (ea_r h (b0 + 13) 3) = some a1 → ea_W mX10_refresh d h0 rv hE 51 [(0, vR (some (b0 + 13)))] [] h) ∧ ((ea_r h (b0 + 13) 3) = none → ∀ h3, h3 = ea_new h 20 1120 1120 → ∀ h5, h5 = ea_wr h3 (b0 + 13) 3 (some (ea_n h)) → ∀ h7, h7 = ea_new h5 22 6720 6720 → ∀ h9, h9 = ea_wr h7 (b0 + 13) 4 (some (ea_n h5)) → ∀ h11, h11 = ea_new h9 22 840 840 → ∀ h13, h13 = ea_wr h11 (b0 + 13) 5 (some (ea_n h9)) → ∀ h15, h15 = ea_new h13 20 560 560 → ∀ h17, h17 = ea_wr h15 (b0 + 13) 6 (some (ea_n h13)) → ea_W mX10_refresh d h0 rv hE 51 [(0, vR (some (b0 + 13)))] [] h17)) ∧ (¬ (ea_i h (b0 + 13) 0) = (0 : Int32) → rv = none ∧ hE = h)) : ea_W mX10_refresh d h0 rv hE 0 [(0, vR (some (b0 + 13)))] [] h := by
  refine ea_aload_n (pc := 0) dX10_refresh_0 rfl 0 rfl ?_
  refine ea_getI (pc := 1) dX10_refresh_1 ec_10 (k := 0) (Nat.le_of_ble_eq_true rfl) rfl (Or.inl ew_225) (hs_h.1 13 (by decide)).1 (hs_h.1 13 (by decide)).2.1 ?_
  refine ea_if_eq (pc := 4) (tgt := 8) dX10_refresh_4 rfl (fun c19 => ?_) (fun c19 => ?_)
  · have H := H.1 c19
    refine ea_aload_n (pc := 8) dX10_refresh_8 rfl 0 rfl ?_
    refine ea_getR (pc := 9) dX10_refresh_9 ec_10 (k := 3) (Nat.le_of_ble_eq_true rfl) rfl (Or.inl ew_230) (hs_h.1 13 (by decide)).1 (hs_h.1 13 (by decide)).2.1 rfl ?_
    refine ea_ifnonnull (pc := 12) (tgt := 51) dX10_refresh_12 rfl (fun a1 e2 => ?_) (fun e2 => ?_)
    · have H := H.1 a1 e2
      exact H
    · have H := H.2 e2
      refine ea_aload_n (pc := 15) dX10_refresh_15 rfl 0 rfl ?_
      refine ea_sipush (pc := 16) dX10_refresh_16 (v := 1120) rfl ?_
      refine ea_newI (pc := 19) (N := 1120) dX10_refresh_19 ew_170 (by decide) rfl (Nat.le_of_ble_eq_true rfl) ?_
      obtain ⟨h3, E4⟩ : ∃ z, z = ea_new h 20 1120 1120 := ⟨_, rfl⟩
      have H := H h3 E4
      refine ea_nm E4 ?_
      have hs_h3 : ShC b0 h3 := by rw [E4]; exact ShC_new hs_h
      refine ea_putR (pc := 21) dX10_refresh_21 ec_10 (k := 3) (Nat.le_of_ble_eq_true rfl) rfl (Or.inl ⟨rfl, Or.inl ew_230⟩) (hs_h3.1 13 (by decide)).1 (hs_h3.1 13 (by decide)).2.1 ?_
      obtain ⟨h5, E6⟩ : ∃ z, z = ea_wr h3 (b0 + 13) 3 (some (ea_n h)) := ⟨_, rfl⟩
      have H := H h5 E6
      refine ea_nm E6 ?_
      have hs_h5 : ShC b0 h5 := by rw [E6]; exact ShC_wr (o := 13) rfl hs_h3
      refine ea_aload_n (pc := 24) dX10_refresh_24 rfl 0 rfl ?_
      refine ea_sipush (pc := 25) dX10_refresh_25 (v := 6720) rfl ?_
      refine ea_newJ (pc := 28) (N := 6720) dX10_refresh_28 ew_720 (by decide) rfl (Nat.le_of_ble_eq_true rfl) ?_
      obtain ⟨h7, E8⟩ : ∃ z, z = ea_new h5 22 6720 6720 := ⟨_, rfl⟩
      have H := H h7 E8
      refine ea_nm E8 ?_
      have hs_h7 : ShC b0 h7 := by rw [E8]; exact ShC_new hs_h5
      refine ea_putR (pc := 30) dX10_refresh_30 ec_10 (k := 4) (Nat.le_of_ble_eq_true rfl) rfl (Or.inl ⟨rfl, Or.inl ew_231⟩) (hs_h7.1 13 (by decide)).1 (hs_h7.1 13 (by decide)).2.1 ?_
      obtain ⟨h9, E10⟩ : ∃ z, z = ea_wr h7 (b0 + 13) 4 (some (ea_n h5)) := ⟨_, rfl⟩
      have H := H h9 E10
      refine ea_nm E10 ?_
      have hs_h9 : ShC b0 h9 := by rw [E10]; exact ShC_wr (o := 13) rfl hs_h7
      refine ea_aload_n (pc := 33) dX10_refresh_33 rfl 0 rfl ?_
      refine ea_sipush (pc := 34) dX10_refresh_34 (v := 840) rfl ?_
      refine ea_newJ (pc := 37) (N := 840) dX10_refresh_37 ew_720 (by decide) rfl (Nat.le_of_ble_eq_true rfl) ?_
      obtain ⟨h11, E12⟩ : ∃ z, z = ea_new h9 22 840 840 := ⟨_, rfl⟩
      have H := H h11 E12
      refine ea_nm E12 ?_
      have hs_h11 : ShC b0 h11 := by rw [E12]; exact ShC_new hs_h9
      refine ea_putR (pc := 39) dX10_refresh_39 ec_10 (k := 5) (Nat.le_of_ble_eq_true rfl) rfl (Or.inl ⟨rfl, Or.inl ew_232⟩) (hs_h11.1 13 (by decide)).1 (hs_h11.1 13 (by decide)).2.1 ?_
      obtain ⟨h13, E14⟩ : ∃ z, z = ea_wr h11 (b0 + 13) 5 (some (ea_n h9)) := ⟨_, rfl⟩
      have H := H h13 E14
      refine ea_nm E14 ?_
      have hs_h13 : ShC b0 h13 := by rw [E14]; exact ShC_wr (o := 13) rfl hs_h11
      refine ea_aload_n (pc := 42) dX10_refresh_42 rfl 0 rfl ?_
      refine ea_sipush (pc := 43) dX10_refresh_43 (v := 560) rfl ?_
      refine ea_newI (pc := 46) (N := 560) dX10_refresh_46 ew_170 (by decide) rfl (Nat.le_of_ble_eq_true rfl) ?_
      obtain ⟨h15, E16⟩ : ∃ z, z = ea_new h13 20 560 560 := ⟨_, rfl⟩
      have H := H h15 E16
      refine ea_nm E16 ?_
      have hs_h15 : ShC b0 h15 := by rw [E16]; exact ShC_new hs_h13
      refine ea_putR (pc := 48) dX10_refresh_48 ec_10 (k := 6) (Nat.le_of_ble_eq_true rfl) rfl (Or.inl ⟨rfl, Or.inl ew_233⟩) (hs_h15.1 13 (by decide)).1 (hs_h15.1 13 (by decide)).2.1 ?_
      obtain ⟨h17, E18⟩ : ∃ z, z = ea_wr h15 (b0 + 13) 6 (some (ea_n h13)) := ⟨_, rfl⟩
      have H := H h17 E18
      refine ea_nm E18 ?_
      have hs_h17 : ShC b0 h17 := by rw [E18]; exact ShC_wr (o := 13) rfl hs_h15
      exact H
  · have H := H.2 c19
    obtain ⟨rfl, rfl⟩ := H
    exact ea_return (pc := 7) dX10_refresh_7 rfl
theorem pX10_refresh_51 {d b0 : Nat} {h0 hE h : ea_H} {rv : Option ea_V}  (hd : 1 ≤ d) (hs_h : ShC b0 h) (H : ∃ (d1 : Nat) (h2 : ea_H), ea_Met mX10_collect d1 [vR (some (b0 + 13))] h none h2 ∧ d1 + 1 ≤ d ∧ ShC b0 h2 ∧ ∃ (d5 : Nat) (h6 : ea_H), ea_Met mX10_sortKeys d5 [vR (some (b0 + 13))] h2 none h6 ∧ d5 + 1 ≤ d ∧ ShC b0 h6 ∧ ∃ (d9 : Nat) (h10 : ea_H), ea_Met mX10_linkMinutes d9 [vR (some (b0 + 13))] h6 none h10 ∧ d9 + 1 ≤ d ∧ ShC b0 h10 ∧ ∃ (d13 : Nat) (h14 : ea_H), ea_Met mX10_trace d13 [vR (some (b0 + 13))] h10 none h14 ∧ d13 + 1 ≤ d ∧ ShC b0 h14 ∧ ∀ h17, h17 = ea_wi h14 (b0 + 13) 0 1 → rv = none ∧ hE = h17) : ea_W mX10_refresh d h0 rv hE 51 [(0, vR (some (b0 + 13)))] [] h := by
  refine ea_aload_n (pc := 51) dX10_refresh_51 rfl 0 rfl ?_
  obtain ⟨d1, h2, m3, q4, hs_h2, H⟩ := H
  refine ea_callV (pc := 52) (As := []) (st := []) dX10_refresh_52 kX10_collect m3 q4 rfl (Nat.le_of_ble_eq_true rfl) ew_567 ew_569 ew_3 (ci := 10) rfl (by decide) (hs_h.1 13 (by decide)).1 (hs_h.1 13 (by decide)).2.1 ?_
  refine ea_aload_n (pc := 55) dX10_refresh_55 rfl 0 rfl ?_
  obtain ⟨d5, h6, m7, q8, hs_h6, H⟩ := H
  refine ea_callV (pc := 56) (As := []) (st := []) dX10_refresh_56 kX10_sortKeys m7 q8 rfl (Nat.le_of_ble_eq_true rfl) ew_580 ew_582 ew_5 (ci := 10) rfl (by decide) (hs_h2.1 13 (by decide)).1 (hs_h2.1 13 (by decide)).2.1 ?_
  refine ea_aload_n (pc := 59) dX10_refresh_59 rfl 0 rfl ?_
  obtain ⟨d9, h10, m11, q12, hs_h10, H⟩ := H
  refine ea_callV (pc := 60) (As := []) (st := []) dX10_refresh_60 kX10_linkMinutes m11 q12 rfl (Nat.le_of_ble_eq_true rfl) ew_584 ew_586 ew_6 (ci := 10) rfl (by decide) (hs_h6.1 13 (by decide)).1 (hs_h6.1 13 (by decide)).2.1 ?_
  refine ea_aload_n (pc := 63) dX10_refresh_63 rfl 0 rfl ?_
  obtain ⟨d13, h14, m15, q16, hs_h14, H⟩ := H
  refine ea_callV (pc := 64) (As := []) (st := []) dX10_refresh_64 kX10_trace m15 q16 rfl (Nat.le_of_ble_eq_true rfl) ew_611 ew_613 ew_8 (ci := 10) rfl (by decide) (hs_h10.1 13 (by decide)).1 (hs_h10.1 13 (by decide)).2.1 ?_
  refine ea_aload_n (pc := 67) dX10_refresh_67 rfl 0 rfl ?_
  refine ea_iconst (pc := 68) dX10_refresh_68 (v := 1) rfl ?_
  refine ea_putI (pc := 69) dX10_refresh_69 ec_10 (k := 0) (Nat.le_of_ble_eq_true rfl) rfl (Or.inl ⟨rfl, Or.inl ew_225⟩) (ea_bn (Or.inr rfl)) (ea_bf (Or.inr rfl)) (hs_h14.1 13 (by decide)).1 (hs_h14.1 13 (by decide)).2.1 ?_
  obtain ⟨h17, E18⟩ : ∃ z, z = ea_wi h14 (b0 + 13) 0 1 := ⟨_, rfl⟩
  have H := H h17 E18
  refine ea_nm E18 ?_
  have hs_h17 : ShC b0 h17 := by rw [E18]; exact ShC_wi hs_h14
  obtain ⟨rfl, rfl⟩ := H
  exact ea_return (pc := 72) dX10_refresh_72 rfl
theorem pX10_firstBehind_0 {d b0 : Nat} {h0 hE h : ea_H} {rv : Option ea_V} {x1 : Int32} (hd : 2 ≤ d) (hs_h : ShC b0 h) (H : ea_W mX10_firstBehind d h0 rv hE 2 [(0, vR (some (b0 + 13))), (1, vI x1), (2, vI 0)] [] h) : ea_W mX10_firstBehind d h0 rv hE 0 [(0, vR (some (b0 + 13))), (1, vI x1)] [] h := by
  refine ea_iconst (pc := 0) dX10_firstBehind_0 (v := 0) rfl ?_
  refine ea_istore_n (pc := 1) (lv' := [(0, vR (some (b0 + 13))), (1, vI x1), (2, vI 0)]) dX10_firstBehind_1 rfl (Nat.le_of_ble_eq_true rfl) [1, 2, 0] rfl ?_
  exact H
theorem pX10_firstBehind_2 {d b0 : Nat} {h0 hE h : ea_H} {rv : Option ea_V} {x1 : Int32} {x2 : Int32} (hd : 2 ≤ d) (hs_h : ShC b0 h) (H : ((ea_i h (b0 + 13) 1) ≤ x2 → rv = some (vI (ea_i h (b0 + 13) 1)) ∧ hE = h) ∧ (¬ (ea_i h (b0 + 13) 1) ≤ x2 → (okX10_keyAt b0 (x2 : Int32) h) ∧ ((vX10_minuteIn ((vX10_keyAt b0 (x2 : Int32) h) : Int32) h) ≤ x1 → ea_W mX10_firstBehind d h0 rv hE 2 [(0, vR (some (b0 + 13))), (1, vI x1), (2, vI (x2 + 1))] [] h) ∧ (¬ (vX10_minuteIn ((vX10_keyAt b0 (x2 : Int32) h) : Int32) h) ≤ x1 → rv = some (vI x2) ∧ hE = h))) : ea_W mX10_firstBehind d h0 rv hE 2 [(0, vR (some (b0 + 13))), (1, vI x1), (2, vI x2)] [] h := by
  refine ea_iload_n (pc := 2) dX10_firstBehind_2 rfl 2 rfl ?_
  refine ea_aload_n (pc := 3) dX10_firstBehind_3 rfl 0 rfl ?_
  refine ea_getI (pc := 4) dX10_firstBehind_4 ec_10 (k := 1) (Nat.le_of_ble_eq_true rfl) rfl (Or.inl ew_227) (hs_h.1 13 (by decide)).1 (hs_h.1 13 (by decide)).2.1 ?_
  refine ea_icmp_ge (pc := 7) (tgt := 30) dX10_firstBehind_7 rfl (fun c23 => ?_) (fun c23 => ?_)
  · have H := H.1 c23
    refine ea_aload_n (pc := 30) dX10_firstBehind_30 rfl 0 rfl ?_
    refine ea_getI (pc := 31) dX10_firstBehind_31 ec_10 (k := 1) (Nat.le_of_ble_eq_true rfl) rfl (Or.inl ew_227) (hs_h.1 13 (by decide)).1 (hs_h.1 13 (by decide)).2.1 ?_
    obtain ⟨rfl, rfl⟩ := H
    exact ea_ireturn (pc := 34) dX10_firstBehind_34 rfl rfl
  · have H := H.2 c23
    refine ea_aload_n (pc := 10) dX10_firstBehind_10 rfl 0 rfl ?_
    refine ea_iload_n (pc := 11) dX10_firstBehind_11 rfl 2 rfl ?_
    obtain ⟨z22, H⟩ := H
    refine ea_callV (pc := 12) (d' := d - 1) (As := [vI x2]) (st := []) dX10_firstBehind_12 kX10_keyAt (sX10_keyAt (d := d - 1) (by omega) hs_h z22) (by omega) rfl (Nat.le_of_ble_eq_true rfl) ew_635 ew_636 ew_637 (ci := 10) rfl (by decide) (hs_h.1 13 (by decide)).1 (hs_h.1 13 (by decide)).2.1 ?_
    refine ea_callS (pc := 15) (d' := d - 1) (As := [vI (vX10_keyAt b0 (x2 : Int32) h)]) (st := []) dX10_firstBehind_15 kX10_minuteIn (sX10_minuteIn (d := d - 1) (by omega)) (by omega) rfl (Nat.le_of_ble_eq_true rfl) ew_602 ew_603 ?_
    refine ea_iload_n (pc := 18) dX10_firstBehind_18 rfl 1 rfl ?_
    refine ea_icmp_le (pc := 19) (tgt := 24) dX10_firstBehind_19 rfl (fun c20 => ?_) (fun c20 => ?_)
    · have H := H.1 c20
      refine ea_iinc (pc := 24) (v := 1) (lv' := [(0, vR (some (b0 + 13))), (1, vI x1), (2, vI (x2 + 1))]) dX10_firstBehind_24 2 rfl rfl (Nat.le_of_ble_eq_true rfl) [1, 2, 0] rfl ?_
      refine ea_goto (pc := 27) (tgt := 2) dX10_firstBehind_27 rfl ?_
      exact H
    · have H := H.2 c20
      refine ea_iload_n (pc := 22) dX10_firstBehind_22 rfl 2 rfl ?_
      obtain ⟨rfl, rfl⟩ := H
      exact ea_ireturn (pc := 23) dX10_firstBehind_23 rfl rfl
theorem pX10_bestFrom_0 {d b0 : Nat} {h0 hE h : ea_H} {rv : Option ea_V} {x1 : Int32} {x2 : Int32} {x3 : Int32} (hd : 3 ≤ d) (hs_h : ShC b0 h) (H : ∃ (d1 : Nat) (h2 : ea_H), ea_Met mX10_refresh d1 [vR (some (b0 + 13))] h none h2 ∧ d1 + 1 ≤ d ∧ ShC b0 h2 ∧ ea_W mX10_bestFrom d h0 rv hE 7 [(0, vR (some (b0 + 13))), (1, vI x1), (2, vI x2), (3, vI x3), (4, vI 0)] [] h2) : ea_W mX10_bestFrom d h0 rv hE 0 [(0, vR (some (b0 + 13))), (1, vI x1), (2, vI x2), (3, vI x3)] [] h := by
  refine ea_aload_n (pc := 0) dX10_bestFrom_0 rfl 0 rfl ?_
  obtain ⟨d1, h2, m3, q4, hs_h2, H⟩ := H
  refine ea_callV (pc := 1) (As := []) (st := []) dX10_bestFrom_1 kX10_refresh m3 q4 rfl (Nat.le_of_ble_eq_true rfl) ew_1096 ew_564 ew_565 (ci := 10) rfl (by decide) (hs_h.1 13 (by decide)).1 (hs_h.1 13 (by decide)).2.1 ?_
  refine ea_iconst (pc := 4) dX10_bestFrom_4 (v := 0) rfl ?_
  refine ea_istore (pc := 5) (lv' := [(0, vR (some (b0 + 13))), (1, vI x1), (2, vI x2), (3, vI x3), (4, vI 0)]) dX10_bestFrom_5 (Nat.le_of_ble_eq_true rfl) [1, 2, 3, 4, 0] rfl ?_
  exact H
theorem pX10_bestFrom_7 {d b0 : Nat} {h0 hE h : ea_H} {rv : Option ea_V} {x1 : Int32} {x2 : Int32} {x3 : Int32} {x4 : Int32} (hd : 3 ≤ d) (hs_h : ShC b0 h) (H : ((ea_i h (b0 + 13) 1) ≤ x4 → rv = some (vJ 9223372036854775807) ∧ hE = h) ∧ (¬ (ea_i h (b0 + 13) 1) ≤ x4 → (okX10_keyAt b0 (x4 : Int32) h) ∧ ((vX10_isGoing ((vX10_keyAt b0 (x4 : Int32) h) : Int32) h) = (0 : Int32) → ea_W mX10_bestFrom d h0 rv hE 7 [(0, vR (some (b0 + 13))), (1, vI x1), (2, vI x2), (3, vI x3), (4, vI (x4 + 1))] [] h) ∧ (¬ (vX10_isGoing ((vX10_keyAt b0 (x4 : Int32) h) : Int32) h) = (0 : Int32) → ((vX10_minuteIn ((vX10_keyAt b0 (x4 : Int32) h) : Int32) h) < x2 → ea_W mX10_bestFrom d h0 rv hE 7 [(0, vR (some (b0 + 13))), (1, vI x1), (2, vI x2), (3, vI x3), (4, vI (x4 + 1))] [] h) ∧ (¬ (vX10_minuteIn ((vX10_keyAt b0 (x4 : Int32) h) : Int32) h) < x2 → (okX10_townIn b0 ((vX10_keyAt b0 (x4 : Int32) h) : Int32) h) ∧ (¬ (vX10_townIn b0 ((vX10_keyAt b0 (x4 : Int32) h) : Int32) h) = x1 → ea_W mX10_bestFrom d h0 rv hE 7 [(0, vR (some (b0 + 13))), (1, vI x1), (2, vI x2), (3, vI x3), (4, vI (x4 + 1))] [] h) ∧ ((vX10_townIn b0 ((vX10_keyAt b0 (x4 : Int32) h) : Int32) h) = x1 → ∃ a364, (ea_r h (b0 + 13) 4) = some a364 ∧ a364 < ea_n h ∧ ea_c h a364 = 22 ∧ vp_in (((12 : Int32) * (vX10_slotIn ((vX10_keyAt b0 (x4 : Int32) h) : Int32) h)) + x3) (ea_l h a364) ∧ rv = some (vJ (ea_j h a364 (Int32.toNatClampNeg (((12 : Int32) * (vX10_slotIn ((vX10_keyAt b0 (x4 : Int32) h) : Int32) h)) + x3)))) ∧ hE = h))))) : ea_W mX10_bestFrom d h0 rv hE 7 [(0, vR (some (b0 + 13))), (1, vI x1), (2, vI x2), (3, vI x3), (4, vI x4)] [] h := by
  refine ea_iload (pc := 7) dX10_bestFrom_7 4 rfl ?_
  refine ea_aload_n (pc := 9) dX10_bestFrom_9 rfl 0 rfl ?_
  refine ea_getI (pc := 10) dX10_bestFrom_10 ec_10 (k := 1) (Nat.le_of_ble_eq_true rfl) rfl (Or.inl ew_227) (hs_h.1 13 (by decide)).1 (hs_h.1 13 (by decide)).2.1 ?_
  refine ea_icmp_ge (pc := 13) (tgt := 73) dX10_bestFrom_13 rfl (fun c375 => ?_) (fun c375 => ?_)
  · have H := H.1 c375
    refine ea_ldc2 (pc := 73) dX10_bestFrom_73 ew_615 ?_
    obtain ⟨rfl, rfl⟩ := H
    exact ea_lreturn (pc := 76) dX10_bestFrom_76 rfl
  · have H := H.2 c375
    refine ea_aload_n (pc := 16) dX10_bestFrom_16 rfl 0 rfl ?_
    refine ea_iload (pc := 17) dX10_bestFrom_17 4 rfl ?_
    obtain ⟨z374, H⟩ := H
    refine ea_callV (pc := 19) (d' := d - 1) (As := [vI x4]) (st := []) dX10_bestFrom_19 kX10_keyAt (sX10_keyAt (d := d - 1) (by omega) hs_h z374) (by omega) rfl (Nat.le_of_ble_eq_true rfl) ew_635 ew_636 ew_637 (ci := 10) rfl (by decide) (hs_h.1 13 (by decide)).1 (hs_h.1 13 (by decide)).2.1 ?_
    refine ea_istore (pc := 22) (lv' := [(0, vR (some (b0 + 13))), (1, vI x1), (2, vI x2), (3, vI x3), (4, vI x4), (5, vI (vX10_keyAt b0 (x4 : Int32) h))]) dX10_bestFrom_22 (Nat.le_of_ble_eq_true rfl) [1, 2, 3, 4, 5, 0] rfl ?_
    refine ea_iload (pc := 24) dX10_bestFrom_24 5 rfl ?_
    refine ea_callS (pc := 26) (d' := d - 1) (As := [vI (vX10_keyAt b0 (x4 : Int32) h)]) (st := []) dX10_bestFrom_26 kX10_isGoing (sX10_isGoing (d := d - 1) (by omega)) (by omega) rfl (Nat.le_of_ble_eq_true rfl) ew_589 ew_590 ?_
    refine ea_if_eq (pc := 29) (tgt := 67) dX10_bestFrom_29 rfl (fun c372 => ?_) (fun c372 => ?_)
    · have H := H.1 c372
      refine ea_iinc (pc := 67) (v := 1) (lv' := [(0, vR (some (b0 + 13))), (1, vI x1), (2, vI x2), (3, vI x3), (4, vI (x4 + 1))]) dX10_bestFrom_67 4 rfl rfl (Nat.le_of_ble_eq_true rfl) [1, 2, 3, 4, 0] rfl ?_
      refine ea_goto (pc := 70) (tgt := 7) dX10_bestFrom_70 rfl ?_
      exact H
    · have H := H.2 c372
      refine ea_iload (pc := 32) dX10_bestFrom_32 5 rfl ?_
      refine ea_callS (pc := 34) (d' := d - 1) (As := [vI (vX10_keyAt b0 (x4 : Int32) h)]) (st := []) dX10_bestFrom_34 kX10_minuteIn (sX10_minuteIn (d := d - 1) (by omega)) (by omega) rfl (Nat.le_of_ble_eq_true rfl) ew_602 ew_603 ?_
      refine ea_iload_n (pc := 37) dX10_bestFrom_37 rfl 2 rfl ?_
      refine ea_icmp_lt (pc := 38) (tgt := 67) dX10_bestFrom_38 rfl (fun c370 => ?_) (fun c370 => ?_)
      · have H := H.1 c370
        refine ea_iinc (pc := 67) (v := 1) (lv' := [(0, vR (some (b0 + 13))), (1, vI x1), (2, vI x2), (3, vI x3), (4, vI (x4 + 1))]) dX10_bestFrom_67 4 rfl rfl (Nat.le_of_ble_eq_true rfl) [1, 2, 3, 4, 0] rfl ?_
        refine ea_goto (pc := 70) (tgt := 7) dX10_bestFrom_70 rfl ?_
        exact H
      · have H := H.2 c370
        refine ea_aload_n (pc := 41) dX10_bestFrom_41 rfl 0 rfl ?_
        refine ea_iload (pc := 42) dX10_bestFrom_42 5 rfl ?_
        obtain ⟨z369, H⟩ := H
        refine ea_callV (pc := 44) (d' := d - 1) (As := [vI (vX10_keyAt b0 (x4 : Int32) h)]) (st := []) dX10_bestFrom_44 kX10_townIn (sX10_townIn (d := d - 1) (by omega) hs_h z369) (by omega) rfl (Nat.le_of_ble_eq_true rfl) ew_592 ew_594 ew_7 (ci := 10) rfl (by decide) (hs_h.1 13 (by decide)).1 (hs_h.1 13 (by decide)).2.1 ?_
        refine ea_iload_n (pc := 47) dX10_bestFrom_47 rfl 1 rfl ?_
        refine ea_icmp_ne (pc := 48) (tgt := 67) dX10_bestFrom_48 rfl (fun c368 => ?_) (fun c368 => ?_)
        · have H := H.1 c368
          refine ea_iinc (pc := 67) (v := 1) (lv' := [(0, vR (some (b0 + 13))), (1, vI x1), (2, vI x2), (3, vI x3), (4, vI (x4 + 1))]) dX10_bestFrom_67 4 rfl rfl (Nat.le_of_ble_eq_true rfl) [1, 2, 3, 4, 0] rfl ?_
          refine ea_goto (pc := 70) (tgt := 7) dX10_bestFrom_70 rfl ?_
          exact H
        · have H := H.2 c368
          refine ea_aload_n (pc := 51) dX10_bestFrom_51 rfl 0 rfl ?_
          refine ea_getR (pc := 52) dX10_bestFrom_52 ec_10 (k := 4) (Nat.le_of_ble_eq_true rfl) rfl (Or.inl ew_231) (hs_h.1 13 (by decide)).1 (hs_h.1 13 (by decide)).2.1 rfl ?_
          refine ea_bipush (pc := 55) dX10_bestFrom_55 (v := 12) rfl ?_
          refine ea_iload (pc := 57) dX10_bestFrom_57 5 rfl ?_
          refine ea_callS (pc := 59) (d' := d - 1) (As := [vI (vX10_keyAt b0 (x4 : Int32) h)]) (st := [vI 12, vR (ea_r h (b0 + 13) 4)]) dX10_bestFrom_59 kX10_slotIn (sX10_slotIn (d := d - 1) (by omega)) (by omega) rfl (Nat.le_of_ble_eq_true rfl) ew_605 ew_606 ?_
          refine ea_imul (pc := 62) dX10_bestFrom_62 ?_
          refine ea_iload_n (pc := 63) dX10_bestFrom_63 rfl 3 rfl ?_
          refine ea_iadd (pc := 64) dX10_bestFrom_64 ?_
          obtain ⟨a364, e365, f362, g363, H⟩ := H
          refine ea_deref1 e365 ?_
          obtain ⟨z366, H⟩ := H
          refine ea_lald (pc := 65) dX10_bestFrom_65 f362 g363 z366 ?_
          obtain ⟨rfl, rfl⟩ := H
          exact ea_lreturn (pc := 66) dX10_bestFrom_66 rfl
theorem pX10_collect_0 {d b0 : Nat} {h0 hE h : ea_H} {rv : Option ea_V}  (hd : 2 ≤ d) (hs_h : ShC b0 h) (H : ∀ h1, h1 = ea_wi h (b0 + 13) 1 0 → ea_W mX10_collect d h0 rv hE 7 [(0, vR (some (b0 + 13))), (1, vI 0)] [] h1) : ea_W mX10_collect d h0 rv hE 0 [(0, vR (some (b0 + 13)))] [] h := by
  refine ea_aload_n (pc := 0) dX10_collect_0 rfl 0 rfl ?_
  refine ea_iconst (pc := 1) dX10_collect_1 (v := 0) rfl ?_
  refine ea_putI (pc := 2) dX10_collect_2 ec_10 (k := 1) (Nat.le_of_ble_eq_true rfl) rfl (Or.inl ⟨rfl, Or.inl ew_227⟩) rfl rfl (hs_h.1 13 (by decide)).1 (hs_h.1 13 (by decide)).2.1 ?_
  obtain ⟨h1, E2⟩ : ∃ z, z = ea_wi h (b0 + 13) 1 0 := ⟨_, rfl⟩
  have H := H h1 E2
  refine ea_nm E2 ?_
  have hs_h1 : ShC b0 h1 := by rw [E2]; exact ShC_wi hs_h
  refine ea_iconst (pc := 5) dX10_collect_5 (v := 0) rfl ?_
  refine ea_istore_n (pc := 6) (lv' := [(0, vR (some (b0 + 13))), (1, vI 0)]) dX10_collect_6 rfl (Nat.le_of_ble_eq_true rfl) [1, 0] rfl ?_
  exact H
theorem pX10_collect_7 {d b0 : Nat} {h0 hE h : ea_H} {rv : Option ea_V} {x1 : Int32} (hd : 2 ≤ d) (hs_h : ShC b0 h) (H : ((ea_i h (b0 + 5) 0) ≤ x1 → rv = none ∧ hE = h) ∧ (¬ (ea_i h (b0 + 5) 0) ≤ x1 → ea_W mX10_collect d h0 rv hE 20 [(0, vR (some (b0 + 13))), (1, vI x1), (2, vI 0)] [] h)) : ea_W mX10_collect d h0 rv hE 7 [(0, vR (some (b0 + 13))), (1, vI x1)] [] h := by
  refine ea_iload_n (pc := 7) dX10_collect_7 rfl 1 rfl ?_
  refine ea_aload_n (pc := 8) dX10_collect_8 rfl 0 rfl ?_
  refine ea_getR (pc := 9) dX10_collect_9 ec_10 (k := 2) (Nat.le_of_ble_eq_true rfl) rfl (Or.inl ew_229) (hs_h.1 13 (by decide)).1 (hs_h.1 13 (by decide)).2.1 (hs_h.2 13 2 rfl) ?_
  refine ea_getI (pc := 12) dX10_collect_12 ec_9 (k := 0) (Nat.le_of_ble_eq_true rfl) rfl (Or.inl ew_179) (hs_h.1 5 (by decide)).1 (hs_h.1 5 (by decide)).2.1 ?_
  refine ea_icmp_ge (pc := 15) (tgt := 126) dX10_collect_15 rfl (fun c1 => ?_) (fun c1 => ?_)
  · have H := H.1 c1
    obtain ⟨rfl, rfl⟩ := H
    exact ea_return (pc := 126) dX10_collect_126 rfl
  · have H := H.2 c1
    refine ea_iconst (pc := 18) dX10_collect_18 (v := 0) rfl ?_
    refine ea_istore_n (pc := 19) (lv' := [(0, vR (some (b0 + 13))), (1, vI x1), (2, vI 0)]) dX10_collect_19 rfl (Nat.le_of_ble_eq_true rfl) [1, 2, 0] rfl ?_
    exact H
theorem pX10_collect_20 {d b0 : Nat} {h0 hE h : ea_H} {rv : Option ea_V} {x1 : Int32} {x2 : Int32} (hd : 2 ≤ d) (hs_h : ShC b0 h) (H : ((7 : Int32) ≤ x2 → ea_W mX10_collect d h0 rv hE 7 [(0, vR (some (b0 + 13))), (1, vI (x1 + 1))] [] h) ∧ (¬ (7 : Int32) ≤ x2 → ea_W mX10_collect d h0 rv hE 28 [(0, vR (some (b0 + 13))), (1, vI x1), (2, vI x2), (3, vI 0)] [] h)) : ea_W mX10_collect d h0 rv hE 20 [(0, vR (some (b0 + 13))), (1, vI x1), (2, vI x2)] [] h := by
  refine ea_iload_n (pc := 20) dX10_collect_20 rfl 2 rfl ?_
  refine ea_bipush (pc := 21) dX10_collect_21 (v := 7) rfl ?_
  refine ea_icmp_ge (pc := 23) (tgt := 120) dX10_collect_23 rfl (fun c1 => ?_) (fun c1 => ?_)
  · have H := H.1 c1
    refine ea_iinc (pc := 120) (v := 1) (lv' := [(0, vR (some (b0 + 13))), (1, vI (x1 + 1))]) dX10_collect_120 1 rfl rfl (Nat.le_of_ble_eq_true rfl) [1, 0] rfl ?_
    refine ea_goto (pc := 123) (tgt := 7) dX10_collect_123 rfl ?_
    exact H
  · have H := H.2 c1
    refine ea_iconst (pc := 26) dX10_collect_26 (v := 0) rfl ?_
    refine ea_istore_n (pc := 27) (lv' := [(0, vR (some (b0 + 13))), (1, vI x1), (2, vI x2), (3, vI 0)]) dX10_collect_27 rfl (Nat.le_of_ble_eq_true rfl) [1, 2, 3, 0] rfl ?_
    exact H
theorem pX10_collect_28 {d b0 : Nat} {h0 hE h : ea_H} {rv : Option ea_V} {x1 : Int32} {x2 : Int32} {x3 : Int32} (hd : 2 ≤ d) (hs_h : ShC b0 h) (H : vp_in x1 10 ∧ ((ea_i h (b0 + 6) (Int32.toNatClampNeg x1)) ≤ x3 → ea_W mX10_collect d h0 rv hE 20 [(0, vR (some (b0 + 13))), (1, vI x1), (2, vI (x2 + 1))] [] h) ∧ (¬ (ea_i h (b0 + 6) (Int32.toNatClampNeg x1)) ≤ x3 → (x3 ≤ (0 : Int32) → ea_W mX10_collect d h0 rv hE 73 [(0, vR (some (b0 + 13))), (1, vI x1), (2, vI x2), (3, vI x3), (4, vI (((x1 <<< ((6 : Int32) &&& 31)) ||| (x2 <<< ((3 : Int32) &&& 31))) ||| x3))] [] h) ∧ (¬ x3 ≤ (0 : Int32) → (okX9_comesAt b0 (x1 : Int32) (x2 : Int32) (x3 : Int32) h) ∧ (okX10_addKey b0 ((vX9_comesAt b0 (x1 : Int32) (x2 : Int32) (x3 : Int32) h) : Int32) ((((x1 <<< ((6 : Int32) &&& 31)) ||| (x2 <<< ((3 : Int32) &&& 31))) ||| x3) : Int32) h) ∧ ∀ h14, h14 = (wX10_addKey b0 ((vX9_comesAt b0 (x1 : Int32) (x2 : Int32) (x3 : Int32) h) : Int32) ((((x1 <<< ((6 : Int32) &&& 31)) ||| (x2 <<< ((3 : Int32) &&& 31))) ||| x3) : Int32) h) → ea_W mX10_collect d h0 rv hE 73 [(0, vR (some (b0 + 13))), (1, vI x1), (2, vI x2), (3, vI x3), (4, vI (((x1 <<< ((6 : Int32) &&& 31)) ||| (x2 <<< ((3 : Int32) &&& 31))) ||| x3))] [] h14))) : ea_W mX10_collect d h0 rv hE 28 [(0, vR (some (b0 + 13))), (1, vI x1), (2, vI x2), (3, vI x3)] [] h := by
  refine ea_iload_n (pc := 28) dX10_collect_28 rfl 3 rfl ?_
  refine ea_aload_n (pc := 29) dX10_collect_29 rfl 0 rfl ?_
  refine ea_getR (pc := 30) dX10_collect_30 ec_10 (k := 2) (Nat.le_of_ble_eq_true rfl) rfl (Or.inl ew_229) (hs_h.1 13 (by decide)).1 (hs_h.1 13 (by decide)).2.1 (hs_h.2 13 2 rfl) ?_
  refine ea_getR (pc := 33) dX10_collect_33 ec_9 (k := 1) (Nat.le_of_ble_eq_true rfl) rfl (Or.inl ew_183) (hs_h.1 5 (by decide)).1 (hs_h.1 5 (by decide)).2.1 (hs_h.2 5 1 rfl) ?_
  refine ea_iload_n (pc := 36) dX10_collect_36 rfl 1 rfl ?_
  obtain ⟨z1, H⟩ := H
  refine ea_iald (pc := 37) dX10_collect_37 (hs_h.1 6 (by decide)).1 (hs_h.1 6 (by decide)).2.1 (ea_vpl (hs_h.1 6 (by decide)).2.2 z1) ?_
  refine ea_icmp_ge (pc := 38) (tgt := 114) dX10_collect_38 rfl (fun c21 => ?_) (fun c21 => ?_)
  · have H := H.1 c21
    refine ea_iinc (pc := 114) (v := 1) (lv' := [(0, vR (some (b0 + 13))), (1, vI x1), (2, vI (x2 + 1))]) dX10_collect_114 2 rfl rfl (Nat.le_of_ble_eq_true rfl) [1, 2, 0] rfl ?_
    refine ea_goto (pc := 117) (tgt := 20) dX10_collect_117 rfl ?_
    exact H
  · have H := H.2 c21
    refine ea_iload_n (pc := 41) dX10_collect_41 rfl 1 rfl ?_
    refine ea_bipush (pc := 42) dX10_collect_42 (v := 6) rfl ?_
    refine ea_ishl (pc := 44) dX10_collect_44 ?_
    refine ea_iload_n (pc := 45) dX10_collect_45 rfl 2 rfl ?_
    refine ea_iconst (pc := 46) dX10_collect_46 (v := 3) rfl ?_
    refine ea_ishl (pc := 47) dX10_collect_47 ?_
    refine ea_ior (pc := 48) dX10_collect_48 ?_
    refine ea_iload_n (pc := 49) dX10_collect_49 rfl 3 rfl ?_
    refine ea_ior (pc := 50) dX10_collect_50 ?_
    refine ea_istore (pc := 51) (lv' := [(0, vR (some (b0 + 13))), (1, vI x1), (2, vI x2), (3, vI x3), (4, vI (((x1 <<< ((6 : Int32) &&& 31)) ||| (x2 <<< ((3 : Int32) &&& 31))) ||| x3))]) dX10_collect_51 (Nat.le_of_ble_eq_true rfl) [1, 2, 3, 4, 0] rfl ?_
    refine ea_iload_n (pc := 53) dX10_collect_53 rfl 3 rfl ?_
    refine ea_if_le (pc := 54) (tgt := 73) dX10_collect_54 rfl (fun c20 => ?_) (fun c20 => ?_)
    · have H := H.1 c20
      exact H
    · have H := H.2 c20
      refine ea_aload_n (pc := 57) dX10_collect_57 rfl 0 rfl ?_
      refine ea_aload_n (pc := 58) dX10_collect_58 rfl 0 rfl ?_
      refine ea_getR (pc := 59) dX10_collect_59 ec_10 (k := 2) (Nat.le_of_ble_eq_true rfl) rfl (Or.inl ew_229) (hs_h.1 13 (by decide)).1 (hs_h.1 13 (by decide)).2.1 (hs_h.2 13 2 rfl) ?_
      refine ea_iload_n (pc := 62) dX10_collect_62 rfl 1 rfl ?_
      refine ea_iload_n (pc := 63) dX10_collect_63 rfl 2 rfl ?_
      refine ea_iload_n (pc := 64) dX10_collect_64 rfl 3 rfl ?_
      obtain ⟨z19, H⟩ := H
      refine ea_callV (pc := 65) (d' := d - 1) (As := [vI x1, vI x2, vI x3]) (st := [vR (some (b0 + 13))]) dX10_collect_65 kX9_comesAt (sX9_comesAt (d := d - 1) (by omega) hs_h z19) (by omega) rfl (Nat.le_of_ble_eq_true rfl) ew_571 ew_552 ew_553 (ci := 9) rfl (by decide) (hs_h.1 5 (by decide)).1 (hs_h.1 5 (by decide)).2.1 ?_
      refine ea_iload (pc := 68) dX10_collect_68 4 rfl ?_
      obtain ⟨z17, H⟩ := H
      refine ea_callV (pc := 70) (d' := d - 1) (As := [vI (vX9_comesAt b0 (x1 : Int32) (x2 : Int32) (x3 : Int32) h), vI (((x1 <<< ((6 : Int32) &&& 31)) ||| (x2 <<< ((3 : Int32) &&& 31))) ||| x3)]) (st := []) dX10_collect_70 kX10_addKey (sX10_addKey (d := d - 1) (by omega) hs_h z17) (by omega) rfl (Nat.le_of_ble_eq_true rfl) ew_572 ew_574 ew_4 (ci := 10) rfl (by decide) (hs_h.1 13 (by decide)).1 (hs_h.1 13 (by decide)).2.1 ?_
      obtain ⟨h14, E18⟩ : ∃ z, z = (wX10_addKey b0 ((vX9_comesAt b0 (x1 : Int32) (x2 : Int32) (x3 : Int32) h) : Int32) ((((x1 <<< ((6 : Int32) &&& 31)) ||| (x2 <<< ((3 : Int32) &&& 31))) ||| x3) : Int32) h) := ⟨_, rfl⟩
      have H := H h14 E18
      refine ea_nm E18 ?_
      have hs_h14 : ShC b0 h14 := by rw [E18]; exact shX10_addKey hs_h
      exact H
theorem pX10_collect_73 {d b0 : Nat} {h0 hE h : ea_H} {rv : Option ea_V} {x1 : Int32} {x2 : Int32} {x3 : Int32} {x4 : Int32} (hd : 2 ≤ d) (hs_h : ShC b0 h) (H : vp_in x1 10 ∧ (((ea_i h (b0 + 6) (Int32.toNatClampNeg x1)) - (1 : Int32)) ≤ x3 → ea_W mX10_collect d h0 rv hE 28 [(0, vR (some (b0 + 13))), (1, vI x1), (2, vI x2), (3, vI (x3 + 1))] [] h) ∧ (¬ ((ea_i h (b0 + 6) (Int32.toNatClampNeg x1)) - (1 : Int32)) ≤ x3 → (okX9_goesAt b0 (x1 : Int32) (x2 : Int32) (x3 : Int32) h) ∧ (okX10_addKey b0 ((vX9_goesAt b0 (x1 : Int32) (x2 : Int32) (x3 : Int32) h) : Int32) (((1024 : Int32) ||| x4) : Int32) h) ∧ ∀ h14, h14 = (wX10_addKey b0 ((vX9_goesAt b0 (x1 : Int32) (x2 : Int32) (x3 : Int32) h) : Int32) (((1024 : Int32) ||| x4) : Int32) h) → ea_W mX10_collect d h0 rv hE 28 [(0, vR (some (b0 + 13))), (1, vI x1), (2, vI x2), (3, vI (x3 + 1))] [] h14)) : ea_W mX10_collect d h0 rv hE 73 [(0, vR (some (b0 + 13))), (1, vI x1), (2, vI x2), (3, vI x3), (4, vI x4)] [] h := by
  refine ea_iload_n (pc := 73) dX10_collect_73 rfl 3 rfl ?_
  refine ea_aload_n (pc := 74) dX10_collect_74 rfl 0 rfl ?_
  refine ea_getR (pc := 75) dX10_collect_75 ec_10 (k := 2) (Nat.le_of_ble_eq_true rfl) rfl (Or.inl ew_229) (hs_h.1 13 (by decide)).1 (hs_h.1 13 (by decide)).2.1 (hs_h.2 13 2 rfl) ?_
  refine ea_getR (pc := 78) dX10_collect_78 ec_9 (k := 1) (Nat.le_of_ble_eq_true rfl) rfl (Or.inl ew_183) (hs_h.1 5 (by decide)).1 (hs_h.1 5 (by decide)).2.1 (hs_h.2 5 1 rfl) ?_
  refine ea_iload_n (pc := 81) dX10_collect_81 rfl 1 rfl ?_
  obtain ⟨z1, H⟩ := H
  refine ea_iald (pc := 82) dX10_collect_82 (hs_h.1 6 (by decide)).1 (hs_h.1 6 (by decide)).2.1 (ea_vpl (hs_h.1 6 (by decide)).2.2 z1) ?_
  refine ea_iconst (pc := 83) dX10_collect_83 (v := 1) rfl ?_
  refine ea_isub (pc := 84) dX10_collect_84 ?_
  refine ea_icmp_ge (pc := 85) (tgt := 108) dX10_collect_85 rfl (fun c20 => ?_) (fun c20 => ?_)
  · have H := H.1 c20
    refine ea_iinc (pc := 108) (v := 1) (lv' := [(0, vR (some (b0 + 13))), (1, vI x1), (2, vI x2), (3, vI (x3 + 1))]) dX10_collect_108 3 rfl rfl (Nat.le_of_ble_eq_true rfl) [1, 2, 3, 0] rfl ?_
    refine ea_goto (pc := 111) (tgt := 28) dX10_collect_111 rfl ?_
    exact H
  · have H := H.2 c20
    refine ea_aload_n (pc := 88) dX10_collect_88 rfl 0 rfl ?_
    refine ea_aload_n (pc := 89) dX10_collect_89 rfl 0 rfl ?_
    refine ea_getR (pc := 90) dX10_collect_90 ec_10 (k := 2) (Nat.le_of_ble_eq_true rfl) rfl (Or.inl ew_229) (hs_h.1 13 (by decide)).1 (hs_h.1 13 (by decide)).2.1 (hs_h.2 13 2 rfl) ?_
    refine ea_iload_n (pc := 93) dX10_collect_93 rfl 1 rfl ?_
    refine ea_iload_n (pc := 94) dX10_collect_94 rfl 2 rfl ?_
    refine ea_iload_n (pc := 95) dX10_collect_95 rfl 3 rfl ?_
    obtain ⟨z19, H⟩ := H
    refine ea_callV (pc := 96) (d' := d - 1) (As := [vI x1, vI x2, vI x3]) (st := [vR (some (b0 + 13))]) dX10_collect_96 kX9_goesAt (sX9_goesAt (d := d - 1) (by omega) hs_h z19) (by omega) rfl (Nat.le_of_ble_eq_true rfl) ew_576 ew_577 ew_578 (ci := 9) rfl (by decide) (hs_h.1 5 (by decide)).1 (hs_h.1 5 (by decide)).2.1 ?_
    refine ea_sipush (pc := 99) dX10_collect_99 (v := 1024) rfl ?_
    refine ea_iload (pc := 102) dX10_collect_102 4 rfl ?_
    refine ea_ior (pc := 104) dX10_collect_104 ?_
    obtain ⟨z17, H⟩ := H
    refine ea_callV (pc := 105) (d' := d - 1) (As := [vI (vX9_goesAt b0 (x1 : Int32) (x2 : Int32) (x3 : Int32) h), vI ((1024 : Int32) ||| x4)]) (st := []) dX10_collect_105 kX10_addKey (sX10_addKey (d := d - 1) (by omega) hs_h z17) (by omega) rfl (Nat.le_of_ble_eq_true rfl) ew_572 ew_574 ew_4 (ci := 10) rfl (by decide) (hs_h.1 13 (by decide)).1 (hs_h.1 13 (by decide)).2.1 ?_
    obtain ⟨h14, E18⟩ : ∃ z, z = (wX10_addKey b0 ((vX9_goesAt b0 (x1 : Int32) (x2 : Int32) (x3 : Int32) h) : Int32) (((1024 : Int32) ||| x4) : Int32) h) := ⟨_, rfl⟩
    have H := H h14 E18
    refine ea_nm E18 ?_
    have hs_h14 : ShC b0 h14 := by rw [E18]; exact shX10_addKey hs_h
    refine ea_iinc (pc := 108) (v := 1) (lv' := [(0, vR (some (b0 + 13))), (1, vI x1), (2, vI x2), (3, vI (x3 + 1))]) dX10_collect_108 3 rfl rfl (Nat.le_of_ble_eq_true rfl) [1, 2, 3, 0] rfl ?_
    refine ea_goto (pc := 111) (tgt := 28) dX10_collect_111 rfl ?_
    exact H
theorem pX10_sortKeys_0 {d b0 : Nat} {h0 hE h : ea_H} {rv : Option ea_V}  (hd : 1 ≤ d) (hs_h : ShC b0 h) (H : ea_W mX10_sortKeys d h0 rv hE 4 [(0, vR (some (b0 + 13))), (1, vI 364)] [] h) : ea_W mX10_sortKeys d h0 rv hE 0 [(0, vR (some (b0 + 13)))] [] h := by
  refine ea_sipush (pc := 0) dX10_sortKeys_0 (v := 364) rfl ?_
  refine ea_istore_n (pc := 3) (lv' := [(0, vR (some (b0 + 13))), (1, vI 364)]) dX10_sortKeys_3 rfl (Nat.le_of_ble_eq_true rfl) [1, 0] rfl ?_
  exact H
theorem pX10_sortKeys_4 {d b0 : Nat} {h0 hE h : ea_H} {rv : Option ea_V} {x1 : Int32} (hd : 1 ≤ d) (hs_h : ShC b0 h) (H : (x1 ≤ (0 : Int32) → rv = none ∧ hE = h) ∧ (¬ x1 ≤ (0 : Int32) → ea_W mX10_sortKeys d h0 rv hE 10 [(0, vR (some (b0 + 13))), (1, vI x1), (2, vI x1)] [] h)) : ea_W mX10_sortKeys d h0 rv hE 4 [(0, vR (some (b0 + 13))), (1, vI x1)] [] h := by
  refine ea_iload_n (pc := 4) dX10_sortKeys_4 rfl 1 rfl ?_
  refine ea_if_le (pc := 5) (tgt := 93) dX10_sortKeys_5 rfl (fun c1 => ?_) (fun c1 => ?_)
  · have H := H.1 c1
    obtain ⟨rfl, rfl⟩ := H
    exact ea_return (pc := 93) dX10_sortKeys_93 rfl
  · have H := H.2 c1
    refine ea_iload_n (pc := 8) dX10_sortKeys_8 rfl 1 rfl ?_
    refine ea_istore_n (pc := 9) (lv' := [(0, vR (some (b0 + 13))), (1, vI x1), (2, vI x1)]) dX10_sortKeys_9 rfl (Nat.le_of_ble_eq_true rfl) [1, 2, 0] rfl ?_
    exact H
theorem pX10_sortKeys_10 {d b0 : Nat} {h0 hE h : ea_H} {rv : Option ea_V} {x1 : Int32} {x2 : Int32} (hd : 1 ≤ d) (hs_h : ShC b0 h) (H : ((ea_i h (b0 + 13) 1) ≤ x2 → ea_W mX10_sortKeys d h0 rv hE 4 [(0, vR (some (b0 + 13))), (1, vI (x1 / (3 : Int32)))] [] h) ∧ (¬ (ea_i h (b0 + 13) 1) ≤ x2 → ∃ a3, (ea_r h (b0 + 13) 3) = some a3 ∧ a3 < ea_n h ∧ ea_c h a3 = 20 ∧ vp_in x2 (ea_l h a3) ∧ ea_W mX10_sortKeys d h0 rv hE 28 [(0, vR (some (b0 + 13))), (1, vI x1), (2, vI x2), (3, vI (ea_i h a3 (Int32.toNatClampNeg x2))), (4, vI x2)] [] h)) : ea_W mX10_sortKeys d h0 rv hE 10 [(0, vR (some (b0 + 13))), (1, vI x1), (2, vI x2)] [] h := by
  refine ea_iload_n (pc := 10) dX10_sortKeys_10 rfl 2 rfl ?_
  refine ea_aload_n (pc := 11) dX10_sortKeys_11 rfl 0 rfl ?_
  refine ea_getI (pc := 12) dX10_sortKeys_12 ec_10 (k := 1) (Nat.le_of_ble_eq_true rfl) rfl (Or.inl ew_227) (hs_h.1 13 (by decide)).1 (hs_h.1 13 (by decide)).2.1 ?_
  refine ea_icmp_ge (pc := 15) (tgt := 86) dX10_sortKeys_15 rfl (fun c6 => ?_) (fun c6 => ?_)
  · have H := H.1 c6
    refine ea_iload_n (pc := 86) dX10_sortKeys_86 rfl 1 rfl ?_
    refine ea_iconst (pc := 87) dX10_sortKeys_87 (v := 3) rfl ?_
    refine ea_idiv (pc := 88) dX10_sortKeys_88 (by decide) ?_
    refine ea_istore_n (pc := 89) (lv' := [(0, vR (some (b0 + 13))), (1, vI (x1 / (3 : Int32)))]) dX10_sortKeys_89 rfl (Nat.le_of_ble_eq_true rfl) [1, 0] rfl ?_
    refine ea_goto (pc := 90) (tgt := 4) dX10_sortKeys_90 rfl ?_
    exact H
  · have H := H.2 c6
    refine ea_aload_n (pc := 18) dX10_sortKeys_18 rfl 0 rfl ?_
    refine ea_getR (pc := 19) dX10_sortKeys_19 ec_10 (k := 3) (Nat.le_of_ble_eq_true rfl) rfl (Or.inl ew_230) (hs_h.1 13 (by decide)).1 (hs_h.1 13 (by decide)).2.1 rfl ?_
    refine ea_iload_n (pc := 22) dX10_sortKeys_22 rfl 2 rfl ?_
    obtain ⟨a3, e4, f1, g2, H⟩ := H
    refine ea_deref1 e4 ?_
    obtain ⟨z5, H⟩ := H
    refine ea_iald (pc := 23) dX10_sortKeys_23 f1 g2 z5 ?_
    refine ea_istore_n (pc := 24) (lv' := [(0, vR (some (b0 + 13))), (1, vI x1), (2, vI x2), (3, vI (ea_i h a3 (Int32.toNatClampNeg x2)))]) dX10_sortKeys_24 rfl (Nat.le_of_ble_eq_true rfl) [1, 2, 3, 0] rfl ?_
    refine ea_iload_n (pc := 25) dX10_sortKeys_25 rfl 2 rfl ?_
    refine ea_istore (pc := 26) (lv' := [(0, vR (some (b0 + 13))), (1, vI x1), (2, vI x2), (3, vI (ea_i h a3 (Int32.toNatClampNeg x2))), (4, vI x2)]) dX10_sortKeys_26 (Nat.le_of_ble_eq_true rfl) [1, 2, 3, 4, 0] rfl ?_
    exact H
theorem pX10_sortKeys_28 {d b0 : Nat} {h0 hE h : ea_H} {rv : Option ea_V} {x1 : Int32} {x2 : Int32} {x3 : Int32} {x4 : Int32} (hd : 1 ≤ d) (hs_h : ShC b0 h) (H : (x4 < x1 → ∃ a3, (ea_r h (b0 + 13) 3) = some a3 ∧ a3 < ea_n h ∧ ea_c h a3 = 20 ∧ vp_in x4 (ea_l h a3) ∧ ∀ h6, h6 = ea_wi h a3 (Int32.toNatClampNeg x4) x3 → ea_W mX10_sortKeys d h0 rv hE 10 [(0, vR (some (b0 + 13))), (1, vI x1), (2, vI (x2 + 1))] [] h6) ∧ (¬ x4 < x1 → ∃ a10, (ea_r h (b0 + 13) 3) = some a10 ∧ a10 < ea_n h ∧ ea_c h a10 = 20 ∧ vp_in (x4 - x1) (ea_l h a10) ∧ ((ea_i h a10 (Int32.toNatClampNeg (x4 - x1))) ≤ x3 → a10 < ea_n h ∧ ea_c h a10 = 20 ∧ vp_in x4 (ea_l h a10) ∧ ∀ h16, h16 = ea_wi h a10 (Int32.toNatClampNeg x4) x3 → ea_W mX10_sortKeys d h0 rv hE 10 [(0, vR (some (b0 + 13))), (1, vI x1), (2, vI (x2 + 1))] [] h16) ∧ (¬ (ea_i h a10 (Int32.toNatClampNeg (x4 - x1))) ≤ x3 → a10 < ea_n h ∧ ea_c h a10 = 20 ∧ vp_in (x4 - x1) (ea_l h a10) ∧ a10 < ea_n h ∧ ea_c h a10 = 20 ∧ vp_in x4 (ea_l h a10) ∧ ∀ h24, h24 = ea_wi h a10 (Int32.toNatClampNeg x4) (ea_i h a10 (Int32.toNatClampNeg (x4 - x1))) → ea_W mX10_sortKeys d h0 rv hE 28 [(0, vR (some (b0 + 13))), (1, vI x1), (2, vI x2), (3, vI x3), (4, vI (x4 - x1))] [] h24))) : ea_W mX10_sortKeys d h0 rv hE 28 [(0, vR (some (b0 + 13))), (1, vI x1), (2, vI x2), (3, vI x3), (4, vI x4)] [] h := by
  refine ea_iload (pc := 28) dX10_sortKeys_28 4 rfl ?_
  refine ea_iload_n (pc := 30) dX10_sortKeys_30 rfl 1 rfl ?_
  refine ea_icmp_lt (pc := 31) (tgt := 72) dX10_sortKeys_31 rfl (fun c27 => ?_) (fun c27 => ?_)
  · have H := H.1 c27
    refine ea_aload_n (pc := 72) dX10_sortKeys_72 rfl 0 rfl ?_
    refine ea_getR (pc := 73) dX10_sortKeys_73 ec_10 (k := 3) (Nat.le_of_ble_eq_true rfl) rfl (Or.inl ew_230) (hs_h.1 13 (by decide)).1 (hs_h.1 13 (by decide)).2.1 rfl ?_
    refine ea_iload (pc := 76) dX10_sortKeys_76 4 rfl ?_
    refine ea_iload_n (pc := 78) dX10_sortKeys_78 rfl 3 rfl ?_
    obtain ⟨a3, e4, f1, g2, H⟩ := H
    refine ea_deref2 e4 ?_
    obtain ⟨z5, H⟩ := H
    refine ea_iast (pc := 79) dX10_sortKeys_79 f1 g2 z5 ?_
    obtain ⟨h6, E7⟩ : ∃ z, z = ea_wi h a3 (Int32.toNatClampNeg x4) x3 := ⟨_, rfl⟩
    have H := H h6 E7
    refine ea_nm E7 ?_
    have hs_h6 : ShC b0 h6 := by rw [E7]; exact ShC_wi hs_h
    refine ea_iinc (pc := 80) (v := 1) (lv' := [(0, vR (some (b0 + 13))), (1, vI x1), (2, vI (x2 + 1))]) dX10_sortKeys_80 2 rfl rfl (Nat.le_of_ble_eq_true rfl) [1, 2, 0] rfl ?_
    refine ea_goto (pc := 83) (tgt := 10) dX10_sortKeys_83 rfl ?_
    exact H
  · have H := H.2 c27
    refine ea_aload_n (pc := 34) dX10_sortKeys_34 rfl 0 rfl ?_
    refine ea_getR (pc := 35) dX10_sortKeys_35 ec_10 (k := 3) (Nat.le_of_ble_eq_true rfl) rfl (Or.inl ew_230) (hs_h.1 13 (by decide)).1 (hs_h.1 13 (by decide)).2.1 rfl ?_
    refine ea_iload (pc := 38) dX10_sortKeys_38 4 rfl ?_
    refine ea_iload_n (pc := 40) dX10_sortKeys_40 rfl 1 rfl ?_
    refine ea_isub (pc := 41) dX10_sortKeys_41 ?_
    obtain ⟨a10, e11, f8, g9, H⟩ := H
    refine ea_deref1 e11 ?_
    obtain ⟨z12, H⟩ := H
    refine ea_iald (pc := 42) dX10_sortKeys_42 f8 g9 z12 ?_
    refine ea_iload_n (pc := 43) dX10_sortKeys_43 rfl 3 rfl ?_
    refine ea_icmp_le (pc := 44) (tgt := 72) dX10_sortKeys_44 rfl (fun c26 => ?_) (fun c26 => ?_)
    · have H := H.1 c26
      refine ea_aload_n (pc := 72) dX10_sortKeys_72 rfl 0 rfl ?_
      refine ea_getR (pc := 73) dX10_sortKeys_73 ec_10 (k := 3) (Nat.le_of_ble_eq_true rfl) rfl (Or.inl ew_230) (hs_h.1 13 (by decide)).1 (hs_h.1 13 (by decide)).2.1 rfl ?_
      refine ea_iload (pc := 76) dX10_sortKeys_76 4 rfl ?_
      refine ea_iload_n (pc := 78) dX10_sortKeys_78 rfl 3 rfl ?_
      obtain ⟨f13, g14, H⟩ := H
      refine ea_deref2 e11 ?_
      obtain ⟨z15, H⟩ := H
      refine ea_iast (pc := 79) dX10_sortKeys_79 f13 g14 z15 ?_
      obtain ⟨h16, E17⟩ : ∃ z, z = ea_wi h a10 (Int32.toNatClampNeg x4) x3 := ⟨_, rfl⟩
      have H := H h16 E17
      refine ea_nm E17 ?_
      have hs_h16 : ShC b0 h16 := by rw [E17]; exact ShC_wi hs_h
      refine ea_iinc (pc := 80) (v := 1) (lv' := [(0, vR (some (b0 + 13))), (1, vI x1), (2, vI (x2 + 1))]) dX10_sortKeys_80 2 rfl rfl (Nat.le_of_ble_eq_true rfl) [1, 2, 0] rfl ?_
      refine ea_goto (pc := 83) (tgt := 10) dX10_sortKeys_83 rfl ?_
      exact H
    · have H := H.2 c26
      refine ea_aload_n (pc := 47) dX10_sortKeys_47 rfl 0 rfl ?_
      refine ea_getR (pc := 48) dX10_sortKeys_48 ec_10 (k := 3) (Nat.le_of_ble_eq_true rfl) rfl (Or.inl ew_230) (hs_h.1 13 (by decide)).1 (hs_h.1 13 (by decide)).2.1 rfl ?_
      refine ea_iload (pc := 51) dX10_sortKeys_51 4 rfl ?_
      refine ea_aload_n (pc := 53) dX10_sortKeys_53 rfl 0 rfl ?_
      refine ea_getR (pc := 54) dX10_sortKeys_54 ec_10 (k := 3) (Nat.le_of_ble_eq_true rfl) rfl (Or.inl ew_230) (hs_h.1 13 (by decide)).1 (hs_h.1 13 (by decide)).2.1 rfl ?_
      refine ea_iload (pc := 57) dX10_sortKeys_57 4 rfl ?_
      refine ea_iload_n (pc := 59) dX10_sortKeys_59 rfl 1 rfl ?_
      refine ea_isub (pc := 60) dX10_sortKeys_60 ?_
      obtain ⟨f18, g19, H⟩ := H
      refine ea_deref1 e11 ?_
      obtain ⟨z20, H⟩ := H
      refine ea_iald (pc := 61) dX10_sortKeys_61 f18 g19 z20 ?_
      obtain ⟨f21, g22, H⟩ := H
      refine ea_deref2 e11 ?_
      obtain ⟨z23, H⟩ := H
      refine ea_iast (pc := 62) dX10_sortKeys_62 f21 g22 z23 ?_
      obtain ⟨h24, E25⟩ : ∃ z, z = ea_wi h a10 (Int32.toNatClampNeg x4) (ea_i h a10 (Int32.toNatClampNeg (x4 - x1))) := ⟨_, rfl⟩
      have H := H h24 E25
      refine ea_nm E25 ?_
      have hs_h24 : ShC b0 h24 := by rw [E25]; exact ShC_wi hs_h
      refine ea_iload (pc := 63) dX10_sortKeys_63 4 rfl ?_
      refine ea_iload_n (pc := 65) dX10_sortKeys_65 rfl 1 rfl ?_
      refine ea_isub (pc := 66) dX10_sortKeys_66 ?_
      refine ea_istore (pc := 67) (lv' := [(0, vR (some (b0 + 13))), (1, vI x1), (2, vI x2), (3, vI x3), (4, vI (x4 - x1))]) dX10_sortKeys_67 (Nat.le_of_ble_eq_true rfl) [1, 2, 3, 4, 0] rfl ?_
      refine ea_goto (pc := 69) (tgt := 28) dX10_sortKeys_69 rfl ?_
      exact H
theorem pX10_linkMinutes_0 {d b0 : Nat} {h0 hE h : ea_H} {rv : Option ea_V}  (hd : 3 ≤ d) (hs_h : ShC b0 h) (H : ∃ (d1 : Nat) (h2 : ea_H), ea_Met mJ7_fill_53178 d1 [vR (some (b0 + 15)), vI (-1)] h none h2 ∧ d1 + 1 ≤ d ∧ ShC b0 h2 ∧ ea_W mX10_linkMinutes d h0 rv hE 10 [(0, vR (some (b0 + 13))), (1, vI 0)] [] h2) : ea_W mX10_linkMinutes d h0 rv hE 0 [(0, vR (some (b0 + 13)))] [] h := by
  refine ea_aload_n (pc := 0) dX10_linkMinutes_0 rfl 0 rfl ?_
  refine ea_getR (pc := 1) dX10_linkMinutes_1 ec_10 (k := 8) (Nat.le_of_ble_eq_true rfl) rfl (Or.inl ew_235) (hs_h.1 13 (by decide)).1 (hs_h.1 13 (by decide)).2.1 (hs_h.2 13 8 rfl) ?_
  refine ea_iconst (pc := 4) dX10_linkMinutes_4 (v := (-1)) rfl ?_
  obtain ⟨d1, h2, m3, q4, hs_h2, H⟩ := H
  refine ea_callS (pc := 5) (As := [vR (some (b0 + 15)), vI (-1)]) (st := []) dX10_linkMinutes_5 kJ7_fill_53178 m3 q4 rfl (Nat.le_of_ble_eq_true rfl) ew_588 ew_144 ?_
  refine ea_iconst (pc := 8) dX10_linkMinutes_8 (v := 0) rfl ?_
  refine ea_istore_n (pc := 9) (lv' := [(0, vR (some (b0 + 13))), (1, vI 0)]) dX10_linkMinutes_9 rfl (Nat.le_of_ble_eq_true rfl) [1, 0] rfl ?_
  exact H
theorem pX10_linkMinutes_10 {d b0 : Nat} {h0 hE h : ea_H} {rv : Option ea_V} {x1 : Int32} (hd : 3 ≤ d) (hs_h : ShC b0 h) (H : ((ea_i h (b0 + 13) 1) ≤ x1 → rv = none ∧ hE = h) ∧ (¬ (ea_i h (b0 + 13) 1) ≤ x1 → ∃ a3, (ea_r h (b0 + 13) 3) = some a3 ∧ a3 < ea_n h ∧ ea_c h a3 = 20 ∧ vp_in x1 (ea_l h a3) ∧ ((vX10_isGoing ((ea_i h a3 (Int32.toNatClampNeg x1)) : Int32) h) = (0 : Int32) → ea_W mX10_linkMinutes d h0 rv hE 10 [(0, vR (some (b0 + 13))), (1, vI (x1 + 1))] [] h) ∧ (¬ (vX10_isGoing ((ea_i h a3 (Int32.toNatClampNeg x1)) : Int32) h) = (0 : Int32) → (okX10_townIn b0 ((ea_i h a3 (Int32.toNatClampNeg x1)) : Int32) h) ∧ vp_in (vX10_townIn b0 ((ea_i h a3 (Int32.toNatClampNeg x1)) : Int32) h) 12 ∧ ((ea_i h (b0 + 15) (Int32.toNatClampNeg (vX10_townIn b0 ((ea_i h a3 (Int32.toNatClampNeg x1)) : Int32) h))) = (vX10_minuteIn ((ea_i h a3 (Int32.toNatClampNeg x1)) : Int32) h) → ea_W mX10_linkMinutes d h0 rv hE 71 [(0, vR (some (b0 + 13))), (1, vI x1), (2, vI (ea_i h a3 (Int32.toNatClampNeg x1))), (3, vI (vX10_townIn b0 ((ea_i h a3 (Int32.toNatClampNeg x1)) : Int32) h))] [] h) ∧ (¬ (ea_i h (b0 + 15) (Int32.toNatClampNeg (vX10_townIn b0 ((ea_i h a3 (Int32.toNatClampNeg x1)) : Int32) h))) = (vX10_minuteIn ((ea_i h a3 (Int32.toNatClampNeg x1)) : Int32) h) → vp_in (vX10_townIn b0 ((ea_i h a3 (Int32.toNatClampNeg x1)) : Int32) h) 12 ∧ ∀ h330, h330 = ea_wi h (b0 + 15) (Int32.toNatClampNeg (vX10_townIn b0 ((ea_i h a3 (Int32.toNatClampNeg x1)) : Int32) h)) (vX10_minuteIn ((ea_i h a3 (Int32.toNatClampNeg x1)) : Int32) h) → vp_in (vX10_townIn b0 ((ea_i h a3 (Int32.toNatClampNeg x1)) : Int32) h) 12 ∧ ∀ h341, h341 = ea_wi h330 (b0 + 14) (Int32.toNatClampNeg (vX10_townIn b0 ((ea_i h a3 (Int32.toNatClampNeg x1)) : Int32) h)) (vX10_slotIn ((ea_i h a3 (Int32.toNatClampNeg x1)) : Int32) h330) → ea_W mX10_linkMinutes d h0 rv hE 71 [(0, vR (some (b0 + 13))), (1, vI x1), (2, vI (ea_i h a3 (Int32.toNatClampNeg x1))), (3, vI (vX10_townIn b0 ((ea_i h a3 (Int32.toNatClampNeg x1)) : Int32) h))] [] h341)))) : ea_W mX10_linkMinutes d h0 rv hE 10 [(0, vR (some (b0 + 13))), (1, vI x1)] [] h := by
  refine ea_iload_n (pc := 10) dX10_linkMinutes_10 rfl 1 rfl ?_
  refine ea_aload_n (pc := 11) dX10_linkMinutes_11 rfl 0 rfl ?_
  refine ea_getI (pc := 12) dX10_linkMinutes_12 ec_10 (k := 1) (Nat.le_of_ble_eq_true rfl) rfl (Or.inl ew_227) (hs_h.1 13 (by decide)).1 (hs_h.1 13 (by decide)).2.1 ?_
  refine ea_icmp_ge (pc := 15) (tgt := 92) dX10_linkMinutes_15 rfl (fun c350 => ?_) (fun c350 => ?_)
  · have H := H.1 c350
    obtain ⟨rfl, rfl⟩ := H
    exact ea_return (pc := 92) dX10_linkMinutes_92 rfl
  · have H := H.2 c350
    refine ea_aload_n (pc := 18) dX10_linkMinutes_18 rfl 0 rfl ?_
    refine ea_getR (pc := 19) dX10_linkMinutes_19 ec_10 (k := 3) (Nat.le_of_ble_eq_true rfl) rfl (Or.inl ew_230) (hs_h.1 13 (by decide)).1 (hs_h.1 13 (by decide)).2.1 rfl ?_
    refine ea_iload_n (pc := 22) dX10_linkMinutes_22 rfl 1 rfl ?_
    obtain ⟨a3, e4, f1, g2, H⟩ := H
    refine ea_deref1 e4 ?_
    obtain ⟨z5, H⟩ := H
    refine ea_iald (pc := 23) dX10_linkMinutes_23 f1 g2 z5 ?_
    refine ea_istore_n (pc := 24) (lv' := [(0, vR (some (b0 + 13))), (1, vI x1), (2, vI (ea_i h a3 (Int32.toNatClampNeg x1)))]) dX10_linkMinutes_24 rfl (Nat.le_of_ble_eq_true rfl) [1, 2, 0] rfl ?_
    refine ea_iload_n (pc := 25) dX10_linkMinutes_25 rfl 2 rfl ?_
    refine ea_callS (pc := 26) (d' := d - 1) (As := [vI (ea_i h a3 (Int32.toNatClampNeg x1))]) (st := []) dX10_linkMinutes_26 kX10_isGoing (sX10_isGoing (d := d - 1) (by omega)) (by omega) rfl (Nat.le_of_ble_eq_true rfl) ew_589 ew_590 ?_
    refine ea_if_eq (pc := 29) (tgt := 86) dX10_linkMinutes_29 rfl (fun c348 => ?_) (fun c348 => ?_)
    · have H := H.1 c348
      refine ea_iinc (pc := 86) (v := 1) (lv' := [(0, vR (some (b0 + 13))), (1, vI (x1 + 1))]) dX10_linkMinutes_86 1 rfl rfl (Nat.le_of_ble_eq_true rfl) [1, 0] rfl ?_
      refine ea_goto (pc := 89) (tgt := 10) dX10_linkMinutes_89 rfl ?_
      exact H
    · have H := H.2 c348
      refine ea_aload_n (pc := 32) dX10_linkMinutes_32 rfl 0 rfl ?_
      refine ea_iload_n (pc := 33) dX10_linkMinutes_33 rfl 2 rfl ?_
      obtain ⟨z347, H⟩ := H
      refine ea_callV (pc := 34) (d' := d - 1) (As := [vI (ea_i h a3 (Int32.toNatClampNeg x1))]) (st := []) dX10_linkMinutes_34 kX10_townIn (sX10_townIn (d := d - 1) (by omega) hs_h z347) (by omega) rfl (Nat.le_of_ble_eq_true rfl) ew_592 ew_594 ew_7 (ci := 10) rfl (by decide) (hs_h.1 13 (by decide)).1 (hs_h.1 13 (by decide)).2.1 ?_
      refine ea_istore_n (pc := 37) (lv' := [(0, vR (some (b0 + 13))), (1, vI x1), (2, vI (ea_i h a3 (Int32.toNatClampNeg x1))), (3, vI (vX10_townIn b0 ((ea_i h a3 (Int32.toNatClampNeg x1)) : Int32) h))]) dX10_linkMinutes_37 rfl (Nat.le_of_ble_eq_true rfl) [1, 2, 3, 0] rfl ?_
      refine ea_aload_n (pc := 38) dX10_linkMinutes_38 rfl 0 rfl ?_
      refine ea_getR (pc := 39) dX10_linkMinutes_39 ec_10 (k := 8) (Nat.le_of_ble_eq_true rfl) rfl (Or.inl ew_235) (hs_h.1 13 (by decide)).1 (hs_h.1 13 (by decide)).2.1 (hs_h.2 13 8 rfl) ?_
      refine ea_iload_n (pc := 42) dX10_linkMinutes_42 rfl 3 rfl ?_
      obtain ⟨z266, H⟩ := H
      refine ea_iald (pc := 43) dX10_linkMinutes_43 (hs_h.1 15 (by decide)).1 (hs_h.1 15 (by decide)).2.1 (ea_vpl (hs_h.1 15 (by decide)).2.2 z266) ?_
      refine ea_iload_n (pc := 44) dX10_linkMinutes_44 rfl 2 rfl ?_
      refine ea_callS (pc := 45) (d' := d - 1) (As := [vI (ea_i h a3 (Int32.toNatClampNeg x1))]) (st := [vI (ea_i h (b0 + 15) (Int32.toNatClampNeg (vX10_townIn b0 ((ea_i h a3 (Int32.toNatClampNeg x1)) : Int32) h)))]) dX10_linkMinutes_45 kX10_minuteIn (sX10_minuteIn (d := d - 1) (by omega)) (by omega) rfl (Nat.le_of_ble_eq_true rfl) ew_602 ew_603 ?_
      refine ea_icmp_eq (pc := 48) (tgt := 71) dX10_linkMinutes_48 rfl (fun c345 => ?_) (fun c345 => ?_)
      · have H := H.1 c345
        exact H
      · have H := H.2 c345
        refine ea_aload_n (pc := 51) dX10_linkMinutes_51 rfl 0 rfl ?_
        refine ea_getR (pc := 52) dX10_linkMinutes_52 ec_10 (k := 8) (Nat.le_of_ble_eq_true rfl) rfl (Or.inl ew_235) (hs_h.1 13 (by decide)).1 (hs_h.1 13 (by decide)).2.1 (hs_h.2 13 8 rfl) ?_
        refine ea_iload_n (pc := 55) dX10_linkMinutes_55 rfl 3 rfl ?_
        refine ea_iload_n (pc := 56) dX10_linkMinutes_56 rfl 2 rfl ?_
        refine ea_callS (pc := 57) (d' := d - 1) (As := [vI (ea_i h a3 (Int32.toNatClampNeg x1))]) (st := [vI (vX10_townIn b0 ((ea_i h a3 (Int32.toNatClampNeg x1)) : Int32) h), vR (some (b0 + 15))]) dX10_linkMinutes_57 kX10_minuteIn (sX10_minuteIn (d := d - 1) (by omega)) (by omega) rfl (Nat.le_of_ble_eq_true rfl) ew_602 ew_603 ?_
        obtain ⟨z329, H⟩ := H
        refine ea_iast (pc := 60) dX10_linkMinutes_60 (hs_h.1 15 (by decide)).1 (hs_h.1 15 (by decide)).2.1 (ea_vpl (hs_h.1 15 (by decide)).2.2 z329) ?_
        obtain ⟨h330, E331⟩ : ∃ z, z = ea_wi h (b0 + 15) (Int32.toNatClampNeg (vX10_townIn b0 ((ea_i h a3 (Int32.toNatClampNeg x1)) : Int32) h)) (vX10_minuteIn ((ea_i h a3 (Int32.toNatClampNeg x1)) : Int32) h) := ⟨_, rfl⟩
        have H := H h330 E331
        refine ea_nm E331 ?_
        have hs_h330 : ShC b0 h330 := by rw [E331]; exact ShC_wi hs_h
        refine ea_aload_n (pc := 61) dX10_linkMinutes_61 rfl 0 rfl ?_
        refine ea_getR (pc := 62) dX10_linkMinutes_62 ec_10 (k := 7) (Nat.le_of_ble_eq_true rfl) rfl (Or.inl ew_234) (hs_h330.1 13 (by decide)).1 (hs_h330.1 13 (by decide)).2.1 (hs_h330.2 13 7 rfl) ?_
        refine ea_iload_n (pc := 65) dX10_linkMinutes_65 rfl 3 rfl ?_
        refine ea_iload_n (pc := 66) dX10_linkMinutes_66 rfl 2 rfl ?_
        refine ea_callS (pc := 67) (d' := d - 1) (As := [vI (ea_i h a3 (Int32.toNatClampNeg x1))]) (st := [vI (vX10_townIn b0 ((ea_i h a3 (Int32.toNatClampNeg x1)) : Int32) h), vR (some (b0 + 14))]) dX10_linkMinutes_67 kX10_slotIn (sX10_slotIn (d := d - 1) (by omega)) (by omega) rfl (Nat.le_of_ble_eq_true rfl) ew_605 ew_606 ?_
        obtain ⟨z340, H⟩ := H
        refine ea_iast (pc := 70) dX10_linkMinutes_70 (hs_h330.1 14 (by decide)).1 (hs_h330.1 14 (by decide)).2.1 (ea_vpl (hs_h330.1 14 (by decide)).2.2 z340) ?_
        obtain ⟨h341, E342⟩ : ∃ z, z = ea_wi h330 (b0 + 14) (Int32.toNatClampNeg (vX10_townIn b0 ((ea_i h a3 (Int32.toNatClampNeg x1)) : Int32) h)) (vX10_slotIn ((ea_i h a3 (Int32.toNatClampNeg x1)) : Int32) h330) := ⟨_, rfl⟩
        have H := H h341 E342
        refine ea_nm E342 ?_
        have hs_h341 : ShC b0 h341 := by rw [E342]; exact ShC_wi hs_h330
        exact H
theorem pX10_linkMinutes_71 {d b0 : Nat} {h0 hE h : ea_H} {rv : Option ea_V} {x1 : Int32} {x2 : Int32} {x3 : Int32} (hd : 3 ≤ d) (hs_h : ShC b0 h) (H : vp_in x3 12 ∧ ∃ a17, (ea_r h (b0 + 13) 6) = some a17 ∧ a17 < ea_n h ∧ ea_c h a17 = 20 ∧ vp_in (vX10_slotIn (x2 : Int32) h) (ea_l h a17) ∧ ∀ h20, h20 = ea_wi h a17 (Int32.toNatClampNeg (vX10_slotIn (x2 : Int32) h)) (ea_i h (b0 + 14) (Int32.toNatClampNeg x3)) → ea_W mX10_linkMinutes d h0 rv hE 10 [(0, vR (some (b0 + 13))), (1, vI (x1 + 1))] [] h20) : ea_W mX10_linkMinutes d h0 rv hE 71 [(0, vR (some (b0 + 13))), (1, vI x1), (2, vI x2), (3, vI x3)] [] h := by
  refine ea_aload_n (pc := 71) dX10_linkMinutes_71 rfl 0 rfl ?_
  refine ea_getR (pc := 72) dX10_linkMinutes_72 ec_10 (k := 6) (Nat.le_of_ble_eq_true rfl) rfl (Or.inl ew_233) (hs_h.1 13 (by decide)).1 (hs_h.1 13 (by decide)).2.1 rfl ?_
  refine ea_iload_n (pc := 75) dX10_linkMinutes_75 rfl 2 rfl ?_
  refine ea_callS (pc := 76) (d' := d - 1) (As := [vI x2]) (st := [vR (ea_r h (b0 + 13) 6)]) dX10_linkMinutes_76 kX10_slotIn (sX10_slotIn (d := d - 1) (by omega)) (by omega) rfl (Nat.le_of_ble_eq_true rfl) ew_605 ew_606 ?_
  refine ea_aload_n (pc := 79) dX10_linkMinutes_79 rfl 0 rfl ?_
  refine ea_getR (pc := 80) dX10_linkMinutes_80 ec_10 (k := 7) (Nat.le_of_ble_eq_true rfl) rfl (Or.inl ew_234) (hs_h.1 13 (by decide)).1 (hs_h.1 13 (by decide)).2.1 (hs_h.2 13 7 rfl) ?_
  refine ea_iload_n (pc := 83) dX10_linkMinutes_83 rfl 3 rfl ?_
  obtain ⟨z14, H⟩ := H
  refine ea_iald (pc := 84) dX10_linkMinutes_84 (hs_h.1 14 (by decide)).1 (hs_h.1 14 (by decide)).2.1 (ea_vpl (hs_h.1 14 (by decide)).2.2 z14) ?_
  obtain ⟨a17, e18, f15, g16, H⟩ := H
  refine ea_deref2 e18 ?_
  obtain ⟨z19, H⟩ := H
  refine ea_iast (pc := 85) dX10_linkMinutes_85 f15 g16 z19 ?_
  obtain ⟨h20, E21⟩ : ∃ z, z = ea_wi h a17 (Int32.toNatClampNeg (vX10_slotIn (x2 : Int32) h)) (ea_i h (b0 + 14) (Int32.toNatClampNeg x3)) := ⟨_, rfl⟩
  have H := H h20 E21
  refine ea_nm E21 ?_
  have hs_h20 : ShC b0 h20 := by rw [E21]; exact ShC_wi hs_h
  refine ea_iinc (pc := 86) (v := 1) (lv' := [(0, vR (some (b0 + 13))), (1, vI (x1 + 1))]) dX10_linkMinutes_86 1 rfl rfl (Nat.le_of_ble_eq_true rfl) [1, 0] rfl ?_
  refine ea_goto (pc := 89) (tgt := 10) dX10_linkMinutes_89 rfl ?_
  exact H
theorem pX10_trace_0 {d b0 : Nat} {h0 hE h : ea_H} {rv : Option ea_V}  (hd : 3 ≤ d) (hs_h : ShC b0 h) (H : ∃ (d1 : Nat) (h2 : ea_H), ea_Met mJ7_fill_d0a16 d1 [vR (ea_r h (b0 + 13) 5), vJ 9223372036854775807] h none h2 ∧ d1 + 1 ≤ d ∧ ShC b0 h2 ∧ ∃ (d5 : Nat) (h6 : ea_H), ea_Met mJ7_fill_53178 d5 [vR (some (b0 + 14)), vI (-1)] h2 none h6 ∧ d5 + 1 ≤ d ∧ ShC b0 h6 ∧ ea_W mX10_trace d h0 rv hE 25 [(0, vR (some (b0 + 13))), (1, vI ((ea_i h6 (b0 + 13) 1) - (1 : Int32)))] [] h6) : ea_W mX10_trace d h0 rv hE 0 [(0, vR (some (b0 + 13)))] [] h := by
  refine ea_aload_n (pc := 0) dX10_trace_0 rfl 0 rfl ?_
  refine ea_getR (pc := 1) dX10_trace_1 ec_10 (k := 5) (Nat.le_of_ble_eq_true rfl) rfl (Or.inl ew_232) (hs_h.1 13 (by decide)).1 (hs_h.1 13 (by decide)).2.1 rfl ?_
  refine ea_ldc2 (pc := 4) dX10_trace_4 ew_615 ?_
  obtain ⟨d1, h2, m3, q4, hs_h2, H⟩ := H
  refine ea_callS (pc := 7) (As := [vR (ea_r h (b0 + 13) 5), vJ 9223372036854775807]) (st := []) dX10_trace_7 kJ7_fill_d0a16 m3 q4 rfl (Nat.le_of_ble_eq_true rfl) ew_616 ew_617 ?_
  refine ea_aload_n (pc := 10) dX10_trace_10 rfl 0 rfl ?_
  refine ea_getR (pc := 11) dX10_trace_11 ec_10 (k := 7) (Nat.le_of_ble_eq_true rfl) rfl (Or.inl ew_234) (hs_h2.1 13 (by decide)).1 (hs_h2.1 13 (by decide)).2.1 (hs_h2.2 13 7 rfl) ?_
  refine ea_iconst (pc := 14) dX10_trace_14 (v := (-1)) rfl ?_
  obtain ⟨d5, h6, m7, q8, hs_h6, H⟩ := H
  refine ea_callS (pc := 15) (As := [vR (some (b0 + 14)), vI (-1)]) (st := []) dX10_trace_15 kJ7_fill_53178 m7 q8 rfl (Nat.le_of_ble_eq_true rfl) ew_588 ew_144 ?_
  refine ea_aload_n (pc := 18) dX10_trace_18 rfl 0 rfl ?_
  refine ea_getI (pc := 19) dX10_trace_19 ec_10 (k := 1) (Nat.le_of_ble_eq_true rfl) rfl (Or.inl ew_227) (hs_h6.1 13 (by decide)).1 (hs_h6.1 13 (by decide)).2.1 ?_
  refine ea_iconst (pc := 22) dX10_trace_22 (v := 1) rfl ?_
  refine ea_isub (pc := 23) dX10_trace_23 ?_
  refine ea_istore_n (pc := 24) (lv' := [(0, vR (some (b0 + 13))), (1, vI ((ea_i h6 (b0 + 13) 1) - (1 : Int32)))]) dX10_trace_24 rfl (Nat.le_of_ble_eq_true rfl) [1, 0] rfl ?_
  exact H
theorem pX10_trace_25 {d b0 : Nat} {h0 hE h : ea_H} {rv : Option ea_V} {x1 : Int32} (hd : 3 ≤ d) (hs_h : ShC b0 h) (H : (x1 < (0 : Int32) → rv = none ∧ hE = h) ∧ (¬ x1 < (0 : Int32) → ∃ a3, (ea_r h (b0 + 13) 3) = some a3 ∧ a3 < ea_n h ∧ ea_c h a3 = 20 ∧ vp_in x1 (ea_l h a3) ∧ ((vX10_isGoing ((ea_i h a3 (Int32.toNatClampNeg x1)) : Int32) h) = (0 : Int32) → (okX10_townIn b0 ((ea_i h a3 (Int32.toNatClampNeg x1)) : Int32) h) ∧ ∃ (d108 : Nat) (h109 : ea_H), ea_Met mX10_leaveRun d108 [vR (some (b0 + 13)), vI (ea_i h a3 (Int32.toNatClampNeg x1)), vI (vX10_slotIn ((ea_i h a3 (Int32.toNatClampNeg x1)) : Int32) h), vI (vX10_townIn b0 ((ea_i h a3 (Int32.toNatClampNeg x1)) : Int32) h)] h none h109 ∧ d108 + 1 ≤ d ∧ ShC b0 h109 ∧ ea_W mX10_trace d h0 rv hE 25 [(0, vR (some (b0 + 13))), (1, vI (x1 + (-1)))] [] h109) ∧ (¬ (vX10_isGoing ((ea_i h a3 (Int32.toNatClampNeg x1)) : Int32) h) = (0 : Int32) → (okX10_townIn b0 ((ea_i h a3 (Int32.toNatClampNeg x1)) : Int32) h) ∧ ∃ (d142 : Nat) (h143 : ea_H), ea_Met mX10_takeRun d142 [vR (some (b0 + 13)), vI (ea_i h a3 (Int32.toNatClampNeg x1)), vI (vX10_slotIn ((ea_i h a3 (Int32.toNatClampNeg x1)) : Int32) h), vI (vX10_townIn b0 ((ea_i h a3 (Int32.toNatClampNeg x1)) : Int32) h)] h none h143 ∧ d142 + 1 ≤ d ∧ ShC b0 h143 ∧ ea_W mX10_trace d h0 rv hE 25 [(0, vR (some (b0 + 13))), (1, vI (x1 + (-1)))] [] h143))) : ea_W mX10_trace d h0 rv hE 25 [(0, vR (some (b0 + 13))), (1, vI x1)] [] h := by
  refine ea_iload_n (pc := 25) dX10_trace_25 rfl 1 rfl ?_
  refine ea_if_lt (pc := 26) (tgt := 80) dX10_trace_26 rfl (fun c150 => ?_) (fun c150 => ?_)
  · have H := H.1 c150
    obtain ⟨rfl, rfl⟩ := H
    exact ea_return (pc := 80) dX10_trace_80 rfl
  · have H := H.2 c150
    refine ea_aload_n (pc := 29) dX10_trace_29 rfl 0 rfl ?_
    refine ea_getR (pc := 30) dX10_trace_30 ec_10 (k := 3) (Nat.le_of_ble_eq_true rfl) rfl (Or.inl ew_230) (hs_h.1 13 (by decide)).1 (hs_h.1 13 (by decide)).2.1 rfl ?_
    refine ea_iload_n (pc := 33) dX10_trace_33 rfl 1 rfl ?_
    obtain ⟨a3, e4, f1, g2, H⟩ := H
    refine ea_deref1 e4 ?_
    obtain ⟨z5, H⟩ := H
    refine ea_iald (pc := 34) dX10_trace_34 f1 g2 z5 ?_
    refine ea_istore_n (pc := 35) (lv' := [(0, vR (some (b0 + 13))), (1, vI x1), (2, vI (ea_i h a3 (Int32.toNatClampNeg x1)))]) dX10_trace_35 rfl (Nat.le_of_ble_eq_true rfl) [1, 2, 0] rfl ?_
    refine ea_iload_n (pc := 36) dX10_trace_36 rfl 2 rfl ?_
    refine ea_callS (pc := 37) (d' := d - 1) (As := [vI (ea_i h a3 (Int32.toNatClampNeg x1))]) (st := []) dX10_trace_37 kX10_isGoing (sX10_isGoing (d := d - 1) (by omega)) (by omega) rfl (Nat.le_of_ble_eq_true rfl) ew_589 ew_590 ?_
    refine ea_if_eq (pc := 40) (tgt := 60) dX10_trace_40 rfl (fun c148 => ?_) (fun c148 => ?_)
    · have H := H.1 c148
      refine ea_aload_n (pc := 60) dX10_trace_60 rfl 0 rfl ?_
      refine ea_iload_n (pc := 61) dX10_trace_61 rfl 2 rfl ?_
      refine ea_iload_n (pc := 62) dX10_trace_62 rfl 2 rfl ?_
      refine ea_callS (pc := 63) (d' := d - 1) (As := [vI (ea_i h a3 (Int32.toNatClampNeg x1))]) (st := [vI (ea_i h a3 (Int32.toNatClampNeg x1)), vR (some (b0 + 13))]) dX10_trace_63 kX10_slotIn (sX10_slotIn (d := d - 1) (by omega)) (by omega) rfl (Nat.le_of_ble_eq_true rfl) ew_605 ew_606 ?_
      refine ea_aload_n (pc := 66) dX10_trace_66 rfl 0 rfl ?_
      refine ea_iload_n (pc := 67) dX10_trace_67 rfl 2 rfl ?_
      obtain ⟨z112, H⟩ := H
      refine ea_callV (pc := 68) (d' := d - 1) (As := [vI (ea_i h a3 (Int32.toNatClampNeg x1))]) (st := [vI (vX10_slotIn ((ea_i h a3 (Int32.toNatClampNeg x1)) : Int32) h), vI (ea_i h a3 (Int32.toNatClampNeg x1)), vR (some (b0 + 13))]) dX10_trace_68 kX10_townIn (sX10_townIn (d := d - 1) (by omega) hs_h z112) (by omega) rfl (Nat.le_of_ble_eq_true rfl) ew_592 ew_594 ew_7 (ci := 10) rfl (by decide) (hs_h.1 13 (by decide)).1 (hs_h.1 13 (by decide)).2.1 ?_
      obtain ⟨d108, h109, m110, q111, hs_h109, H⟩ := H
      refine ea_callV (pc := 71) (As := [vI (ea_i h a3 (Int32.toNatClampNeg x1)), vI (vX10_slotIn ((ea_i h a3 (Int32.toNatClampNeg x1)) : Int32) h), vI (vX10_townIn b0 ((ea_i h a3 (Int32.toNatClampNeg x1)) : Int32) h)]) (st := []) dX10_trace_71 kX10_leaveRun m110 q111 rfl (Nat.le_of_ble_eq_true rfl) ew_626 ew_628 ew_10 (ci := 10) rfl (by decide) (hs_h.1 13 (by decide)).1 (hs_h.1 13 (by decide)).2.1 ?_
      refine ea_iinc (pc := 74) (v := (-1)) (lv' := [(0, vR (some (b0 + 13))), (1, vI (x1 + (-1)))]) dX10_trace_74 1 rfl rfl (Nat.le_of_ble_eq_true rfl) [1, 0] rfl ?_
      refine ea_goto (pc := 77) (tgt := 25) dX10_trace_77 rfl ?_
      exact H
    · have H := H.2 c148
      refine ea_aload_n (pc := 43) dX10_trace_43 rfl 0 rfl ?_
      refine ea_iload_n (pc := 44) dX10_trace_44 rfl 2 rfl ?_
      refine ea_iload_n (pc := 45) dX10_trace_45 rfl 2 rfl ?_
      refine ea_callS (pc := 46) (d' := d - 1) (As := [vI (ea_i h a3 (Int32.toNatClampNeg x1))]) (st := [vI (ea_i h a3 (Int32.toNatClampNeg x1)), vR (some (b0 + 13))]) dX10_trace_46 kX10_slotIn (sX10_slotIn (d := d - 1) (by omega)) (by omega) rfl (Nat.le_of_ble_eq_true rfl) ew_605 ew_606 ?_
      refine ea_aload_n (pc := 49) dX10_trace_49 rfl 0 rfl ?_
      refine ea_iload_n (pc := 50) dX10_trace_50 rfl 2 rfl ?_
      obtain ⟨z146, H⟩ := H
      refine ea_callV (pc := 51) (d' := d - 1) (As := [vI (ea_i h a3 (Int32.toNatClampNeg x1))]) (st := [vI (vX10_slotIn ((ea_i h a3 (Int32.toNatClampNeg x1)) : Int32) h), vI (ea_i h a3 (Int32.toNatClampNeg x1)), vR (some (b0 + 13))]) dX10_trace_51 kX10_townIn (sX10_townIn (d := d - 1) (by omega) hs_h z146) (by omega) rfl (Nat.le_of_ble_eq_true rfl) ew_592 ew_594 ew_7 (ci := 10) rfl (by decide) (hs_h.1 13 (by decide)).1 (hs_h.1 13 (by decide)).2.1 ?_
      obtain ⟨d142, h143, m144, q145, hs_h143, H⟩ := H
      refine ea_callV (pc := 54) (As := [vI (ea_i h a3 (Int32.toNatClampNeg x1)), vI (vX10_slotIn ((ea_i h a3 (Int32.toNatClampNeg x1)) : Int32) h), vI (vX10_townIn b0 ((ea_i h a3 (Int32.toNatClampNeg x1)) : Int32) h)]) (st := []) dX10_trace_54 kX10_takeRun m144 q145 rfl (Nat.le_of_ble_eq_true rfl) ew_619 ew_621 ew_9 (ci := 10) rfl (by decide) (hs_h.1 13 (by decide)).1 (hs_h.1 13 (by decide)).2.1 ?_
      refine ea_goto (pc := 57) (tgt := 74) dX10_trace_57 rfl ?_
      refine ea_iinc (pc := 74) (v := (-1)) (lv' := [(0, vR (some (b0 + 13))), (1, vI (x1 + (-1)))]) dX10_trace_74 1 rfl rfl (Nat.le_of_ble_eq_true rfl) [1, 0] rfl ?_
      refine ea_goto (pc := 77) (tgt := 25) dX10_trace_77 rfl ?_
      exact H
theorem pX10_takeRun_0 {d b0 : Nat} {h0 hE h : ea_H} {rv : Option ea_V} {x1 : Int32} {x2 : Int32} {x3 : Int32} (hd : 2 ≤ d) (hs_h : ShC b0 h) (H : ea_W mX10_takeRun d h0 rv hE 3 [(0, vR (some (b0 + 13))), (1, vI x1), (2, vI x2), (3, vI x3), (4, vI 0)] [] h) : ea_W mX10_takeRun d h0 rv hE 0 [(0, vR (some (b0 + 13))), (1, vI x1), (2, vI x2), (3, vI x3)] [] h := by
  refine ea_iconst (pc := 0) dX10_takeRun_0 (v := 0) rfl ?_
  refine ea_istore (pc := 1) (lv' := [(0, vR (some (b0 + 13))), (1, vI x1), (2, vI x2), (3, vI x3), (4, vI 0)]) dX10_takeRun_1 (Nat.le_of_ble_eq_true rfl) [1, 2, 3, 4, 0] rfl ?_
  exact H
theorem pX10_takeRun_3 {d b0 : Nat} {h0 hE h : ea_H} {rv : Option ea_V} {x1 : Int32} {x2 : Int32} {x3 : Int32} {x4 : Int32} (hd : 2 ≤ d) (hs_h : ShC b0 h) (H : ((12 : Int32) ≤ x4 → vp_in x3 12 ∧ ∀ h2, h2 = ea_wi h (b0 + 14) (Int32.toNatClampNeg x3) x2 → rv = none ∧ hE = h2) ∧ (¬ (12 : Int32) ≤ x4 → ∃ a6, (ea_r h (b0 + 13) 5) = some a6 ∧ a6 < ea_n h ∧ ea_c h a6 = 22 ∧ vp_in (((12 : Int32) * (x2 / (8 : Int32))) + x4) (ea_l h a6) ∧ ((lg_cmp (ea_j h a6 (Int32.toNatClampNeg (((12 : Int32) * (x2 / (8 : Int32))) + x4))) 9223372036854775807) = (0 : Int32) → ea_W mX10_takeRun d h0 rv hE 48 [(0, vR (some (b0 + 13))), (1, vI x1), (2, vI x2), (3, vI x3), (4, vI x4), (5, vJ (ea_j h a6 (Int32.toNatClampNeg (((12 : Int32) * (x2 / (8 : Int32))) + x4))))] [] h) ∧ (¬ (lg_cmp (ea_j h a6 (Int32.toNatClampNeg (((12 : Int32) * (x2 / (8 : Int32))) + x4))) 9223372036854775807) = (0 : Int32) → ea_W mX10_takeRun d h0 rv hE 48 [(0, vR (some (b0 + 13))), (1, vI x1), (2, vI x2), (3, vI x3), (4, vI x4), (5, vJ ((ea_j h a6 (Int32.toNatClampNeg (((12 : Int32) * (x2 / (8 : Int32))) + x4))) + ((Int32.toInt64 (vX10_stopIn (x1 : Int32) h)) <<< (Int32.toInt64 3 &&& 63))))] [] h))) : ea_W mX10_takeRun d h0 rv hE 3 [(0, vR (some (b0 + 13))), (1, vI x1), (2, vI x2), (3, vI x3), (4, vI x4)] [] h := by
  refine ea_iload (pc := 3) dX10_takeRun_3 4 rfl ?_
  refine ea_bipush (pc := 5) dX10_takeRun_5 (v := 12) rfl ?_
  refine ea_icmp_ge (pc := 7) (tgt := 107) dX10_takeRun_7 rfl (fun c16 => ?_) (fun c16 => ?_)
  · have H := H.1 c16
    refine ea_aload_n (pc := 107) dX10_takeRun_107 rfl 0 rfl ?_
    refine ea_getR (pc := 108) dX10_takeRun_108 ec_10 (k := 7) (Nat.le_of_ble_eq_true rfl) rfl (Or.inl ew_234) (hs_h.1 13 (by decide)).1 (hs_h.1 13 (by decide)).2.1 (hs_h.2 13 7 rfl) ?_
    refine ea_iload_n (pc := 111) dX10_takeRun_111 rfl 3 rfl ?_
    refine ea_iload_n (pc := 112) dX10_takeRun_112 rfl 2 rfl ?_
    obtain ⟨z1, H⟩ := H
    refine ea_iast (pc := 113) dX10_takeRun_113 (hs_h.1 14 (by decide)).1 (hs_h.1 14 (by decide)).2.1 (ea_vpl (hs_h.1 14 (by decide)).2.2 z1) ?_
    obtain ⟨h2, E3⟩ : ∃ z, z = ea_wi h (b0 + 14) (Int32.toNatClampNeg x3) x2 := ⟨_, rfl⟩
    have H := H h2 E3
    refine ea_nm E3 ?_
    have hs_h2 : ShC b0 h2 := by rw [E3]; exact ShC_wi hs_h
    obtain ⟨rfl, rfl⟩ := H
    exact ea_return (pc := 114) dX10_takeRun_114 rfl
  · have H := H.2 c16
    refine ea_aload_n (pc := 10) dX10_takeRun_10 rfl 0 rfl ?_
    refine ea_getR (pc := 11) dX10_takeRun_11 ec_10 (k := 5) (Nat.le_of_ble_eq_true rfl) rfl (Or.inl ew_232) (hs_h.1 13 (by decide)).1 (hs_h.1 13 (by decide)).2.1 rfl ?_
    refine ea_bipush (pc := 14) dX10_takeRun_14 (v := 12) rfl ?_
    refine ea_iload_n (pc := 16) dX10_takeRun_16 rfl 2 rfl ?_
    refine ea_bipush (pc := 17) dX10_takeRun_17 (v := 8) rfl ?_
    refine ea_idiv (pc := 19) dX10_takeRun_19 (by decide) ?_
    refine ea_imul (pc := 20) dX10_takeRun_20 ?_
    refine ea_iload (pc := 21) dX10_takeRun_21 4 rfl ?_
    refine ea_iadd (pc := 23) dX10_takeRun_23 ?_
    obtain ⟨a6, e7, f4, g5, H⟩ := H
    refine ea_deref1 e7 ?_
    obtain ⟨z8, H⟩ := H
    refine ea_lald (pc := 24) dX10_takeRun_24 f4 g5 z8 ?_
    refine ea_lstore (pc := 25) (lv' := [(0, vR (some (b0 + 13))), (1, vI x1), (2, vI x2), (3, vI x3), (4, vI x4), (5, vJ (ea_j h a6 (Int32.toNatClampNeg (((12 : Int32) * (x2 / (8 : Int32))) + x4))))]) dX10_takeRun_25 (Nat.le_of_ble_eq_true rfl) [1, 2, 3, 4, 5, 0] rfl ?_
    refine ea_lload (pc := 27) dX10_takeRun_27 5 rfl ?_
    refine ea_ldc2 (pc := 29) dX10_takeRun_29 ew_615 ?_
    refine ea_lcmp (pc := 32) dX10_takeRun_32 ?_
    refine ea_if_eq (pc := 33) (tgt := 48) dX10_takeRun_33 rfl (fun c15 => ?_) (fun c15 => ?_)
    · have H := H.1 c15
      exact H
    · have H := H.2 c15
      refine ea_lload (pc := 36) dX10_takeRun_36 5 rfl ?_
      refine ea_iload_n (pc := 38) dX10_takeRun_38 rfl 1 rfl ?_
      refine ea_callS (pc := 39) (d' := d - 1) (As := [vI x1]) (st := [vJ (ea_j h a6 (Int32.toNatClampNeg (((12 : Int32) * (x2 / (8 : Int32))) + x4)))]) dX10_takeRun_39 kX10_stopIn (sX10_stopIn (d := d - 1) (by omega)) (by omega) rfl (Nat.le_of_ble_eq_true rfl) ew_599 ew_600 ?_
      refine ea_i2l (pc := 42) dX10_takeRun_42 ?_
      refine ea_iconst (pc := 43) dX10_takeRun_43 (v := 3) rfl ?_
      refine ea_lshl (pc := 44) dX10_takeRun_44 ?_
      refine ea_ladd (pc := 45) dX10_takeRun_45 ?_
      refine ea_lstore (pc := 46) (lv' := [(0, vR (some (b0 + 13))), (1, vI x1), (2, vI x2), (3, vI x3), (4, vI x4), (5, vJ ((ea_j h a6 (Int32.toNatClampNeg (((12 : Int32) * (x2 / (8 : Int32))) + x4))) + ((Int32.toInt64 (vX10_stopIn (x1 : Int32) h)) <<< (Int32.toInt64 3 &&& 63))))]) dX10_takeRun_46 (Nat.le_of_ble_eq_true rfl) [1, 2, 3, 4, 5, 0] rfl ?_
      exact H
theorem pX10_takeRun_48 {d b0 : Nat} {h0 hE h : ea_H} {rv : Option ea_V} {x1 : Int32} {x2 : Int32} {x3 : Int32} {x4 : Int32} {y5 : Int64} (hd : 2 ≤ d) (hs_h : ShC b0 h) (H : vp_in x3 12 ∧ ((0 : Int32) ≤ (ea_i h (b0 + 14) (Int32.toNatClampNeg x3)) → vp_in x3 12 ∧ ∃ a5, (ea_r h (b0 + 13) 4) = some a5 ∧ a5 < ea_n h ∧ ea_c h a5 = 22 ∧ vp_in (((12 : Int32) * (ea_i h (b0 + 14) (Int32.toNatClampNeg x3))) + x4) (ea_l h a5) ∧ ea_W mX10_takeRun d h0 rv hE 80 [(0, vR (some (b0 + 13))), (1, vI x1), (2, vI x2), (3, vI x3), (4, vI x4), (5, vJ y5)] [vJ (ea_j h a5 (Int32.toNatClampNeg (((12 : Int32) * (ea_i h (b0 + 14) (Int32.toNatClampNeg x3))) + x4)))] h) ∧ (¬ (0 : Int32) ≤ (ea_i h (b0 + 14) (Int32.toNatClampNeg x3)) → ea_W mX10_takeRun d h0 rv hE 80 [(0, vR (some (b0 + 13))), (1, vI x1), (2, vI x2), (3, vI x3), (4, vI x4), (5, vJ y5)] [vJ 9223372036854775807] h)) : ea_W mX10_takeRun d h0 rv hE 48 [(0, vR (some (b0 + 13))), (1, vI x1), (2, vI x2), (3, vI x3), (4, vI x4), (5, vJ y5)] [] h := by
  refine ea_aload_n (pc := 48) dX10_takeRun_48 rfl 0 rfl ?_
  refine ea_getR (pc := 49) dX10_takeRun_49 ec_10 (k := 7) (Nat.le_of_ble_eq_true rfl) rfl (Or.inl ew_234) (hs_h.1 13 (by decide)).1 (hs_h.1 13 (by decide)).2.1 (hs_h.2 13 7 rfl) ?_
  refine ea_iload_n (pc := 52) dX10_takeRun_52 rfl 3 rfl ?_
  obtain ⟨z1, H⟩ := H
  refine ea_iald (pc := 53) dX10_takeRun_53 (hs_h.1 14 (by decide)).1 (hs_h.1 14 (by decide)).2.1 (ea_vpl (hs_h.1 14 (by decide)).2.2 z1) ?_
  refine ea_if_ge (pc := 54) (tgt := 63) dX10_takeRun_54 rfl (fun c8 => ?_) (fun c8 => ?_)
  · have H := H.1 c8
    refine ea_aload_n (pc := 63) dX10_takeRun_63 rfl 0 rfl ?_
    refine ea_getR (pc := 64) dX10_takeRun_64 ec_10 (k := 4) (Nat.le_of_ble_eq_true rfl) rfl (Or.inl ew_231) (hs_h.1 13 (by decide)).1 (hs_h.1 13 (by decide)).2.1 rfl ?_
    refine ea_bipush (pc := 67) dX10_takeRun_67 (v := 12) rfl ?_
    refine ea_aload_n (pc := 69) dX10_takeRun_69 rfl 0 rfl ?_
    refine ea_getR (pc := 70) dX10_takeRun_70 ec_10 (k := 7) (Nat.le_of_ble_eq_true rfl) rfl (Or.inl ew_234) (hs_h.1 13 (by decide)).1 (hs_h.1 13 (by decide)).2.1 (hs_h.2 13 7 rfl) ?_
    refine ea_iload_n (pc := 73) dX10_takeRun_73 rfl 3 rfl ?_
    obtain ⟨z2, H⟩ := H
    refine ea_iald (pc := 74) dX10_takeRun_74 (hs_h.1 14 (by decide)).1 (hs_h.1 14 (by decide)).2.1 (ea_vpl (hs_h.1 14 (by decide)).2.2 z2) ?_
    refine ea_imul (pc := 75) dX10_takeRun_75 ?_
    refine ea_iload (pc := 76) dX10_takeRun_76 4 rfl ?_
    refine ea_iadd (pc := 78) dX10_takeRun_78 ?_
    obtain ⟨a5, e6, f3, g4, H⟩ := H
    refine ea_deref1 e6 ?_
    obtain ⟨z7, H⟩ := H
    refine ea_lald (pc := 79) dX10_takeRun_79 f3 g4 z7 ?_
    exact H
  · have H := H.2 c8
    refine ea_ldc2 (pc := 57) dX10_takeRun_57 ew_615 ?_
    refine ea_goto (pc := 60) (tgt := 80) dX10_takeRun_60 rfl ?_
    exact H
theorem pX10_takeRun_80 {d b0 : Nat} {h0 hE h : ea_H} {rv : Option ea_V} {x1 : Int32} {x2 : Int32} {x3 : Int32} {x4 : Int32} {y5 : Int64} {sy0 : Int64} (hd : 2 ≤ d) (hs_h : ShC b0 h) (H : ∃ (d1 : Nat) (yc5 : Int64) (h2 : ea_H), ea_Met mJ9_min_f86c9 d1 [vJ y5, vJ sy0] h (some (vJ yc5)) h2 ∧ d1 + 1 ≤ d ∧ ShC b0 h2 ∧ ∃ a8, (ea_r h (b0 + 13) 4) = some a8 ∧ a8 < ea_n h2 ∧ ea_c h2 a8 = 22 ∧ vp_in (((12 : Int32) * x2) + x4) (ea_l h2 a8) ∧ ∀ h11, h11 = ea_wj h2 a8 (Int32.toNatClampNeg (((12 : Int32) * x2) + x4)) yc5 → ea_W mX10_takeRun d h0 rv hE 3 [(0, vR (some (b0 + 13))), (1, vI x1), (2, vI x2), (3, vI x3), (4, vI (x4 + 1))] [] h11) : ea_W mX10_takeRun d h0 rv hE 80 [(0, vR (some (b0 + 13))), (1, vI x1), (2, vI x2), (3, vI x3), (4, vI x4), (5, vJ y5)] [vJ sy0] h := by
  refine ea_lstore (pc := 80) (lv' := [(0, vR (some (b0 + 13))), (1, vI x1), (2, vI x2), (3, vI x3), (4, vI x4), (5, vJ y5), (7, vJ sy0)]) dX10_takeRun_80 (Nat.le_of_ble_eq_true rfl) [1, 2, 3, 4, 5, 6, 0] rfl ?_
  refine ea_aload_n (pc := 82) dX10_takeRun_82 rfl 0 rfl ?_
  refine ea_getR (pc := 83) dX10_takeRun_83 ec_10 (k := 4) (Nat.le_of_ble_eq_true rfl) rfl (Or.inl ew_231) (hs_h.1 13 (by decide)).1 (hs_h.1 13 (by decide)).2.1 rfl ?_
  refine ea_bipush (pc := 86) dX10_takeRun_86 (v := 12) rfl ?_
  refine ea_iload_n (pc := 88) dX10_takeRun_88 rfl 2 rfl ?_
  refine ea_imul (pc := 89) dX10_takeRun_89 ?_
  refine ea_iload (pc := 90) dX10_takeRun_90 4 rfl ?_
  refine ea_iadd (pc := 92) dX10_takeRun_92 ?_
  refine ea_lload (pc := 93) dX10_takeRun_93 5 rfl ?_
  refine ea_lload (pc := 95) dX10_takeRun_95 6 rfl ?_
  obtain ⟨d1, yc5, h2, m3, q4, hs_h2, H⟩ := H
  refine ea_callS (pc := 97) (As := [vJ y5, vJ sy0]) (st := [vI (((12 : Int32) * x2) + x4), vR (ea_r h (b0 + 13) 4)]) dX10_takeRun_97 kJ9_min_f86c9 m3 q4 rfl (Nat.le_of_ble_eq_true rfl) ew_623 ew_624 ?_
  obtain ⟨a8, e9, f6, g7, H⟩ := H
  refine ea_deref2 e9 ?_
  obtain ⟨z10, H⟩ := H
  refine ea_last (pc := 100) dX10_takeRun_100 f6 g7 z10 ?_
  obtain ⟨h11, E12⟩ : ∃ z, z = ea_wj h2 a8 (Int32.toNatClampNeg (((12 : Int32) * x2) + x4)) yc5 := ⟨_, rfl⟩
  have H := H h11 E12
  refine ea_nm E12 ?_
  have hs_h11 : ShC b0 h11 := by rw [E12]; exact ShC_wj hs_h2
  refine ea_iinc (pc := 101) (v := 1) (lv' := [(0, vR (some (b0 + 13))), (1, vI x1), (2, vI x2), (3, vI x3), (4, vI (x4 + 1))]) dX10_takeRun_101 4 rfl rfl (Nat.le_of_ble_eq_true rfl) [1, 2, 3, 4, 0] rfl ?_
  refine ea_goto (pc := 104) (tgt := 3) dX10_takeRun_104 rfl ?_
  exact H
theorem pX10_leaveRun_0 {d b0 : Nat} {h0 hE h : ea_H} {rv : Option ea_V} {x1 : Int32} {x2 : Int32} {x3 : Int32} (hd : 2 ≤ d) (hs_h : ShC b0 h) (H : ea_W mX10_leaveRun d h0 rv hE 26 [(0, vR (some (b0 + 13))), (1, vI x1), (2, vI x2), (3, vI x3), (4, vJ (Int32.toInt64 ((((vX10_trainIn (x1 : Int32) h) <<< ((9 : Int32) &&& 31)) ||| ((vX10_dayIn (x1 : Int32) h) <<< ((6 : Int32) &&& 31))) ||| (vX10_stopIn (x1 : Int32) h)))), (6, vI 0)] [] h) : ea_W mX10_leaveRun d h0 rv hE 0 [(0, vR (some (b0 + 13))), (1, vI x1), (2, vI x2), (3, vI x3)] [] h := by
  refine ea_iload_n (pc := 0) dX10_leaveRun_0 rfl 1 rfl ?_
  refine ea_callS (pc := 1) (d' := d - 1) (As := [vI x1]) (st := []) dX10_leaveRun_1 kX10_trainIn (sX10_trainIn (d := d - 1) (by omega)) (by omega) rfl (Nat.le_of_ble_eq_true rfl) ew_596 ew_597 ?_
  refine ea_bipush (pc := 4) dX10_leaveRun_4 (v := 9) rfl ?_
  refine ea_ishl (pc := 6) dX10_leaveRun_6 ?_
  refine ea_iload_n (pc := 7) dX10_leaveRun_7 rfl 1 rfl ?_
  refine ea_callS (pc := 8) (d' := d - 1) (As := [vI x1]) (st := [vI ((vX10_trainIn (x1 : Int32) h) <<< ((9 : Int32) &&& 31))]) dX10_leaveRun_8 kX10_dayIn (sX10_dayIn (d := d - 1) (by omega)) (by omega) rfl (Nat.le_of_ble_eq_true rfl) ew_608 ew_609 ?_
  refine ea_bipush (pc := 11) dX10_leaveRun_11 (v := 6) rfl ?_
  refine ea_ishl (pc := 13) dX10_leaveRun_13 ?_
  refine ea_ior (pc := 14) dX10_leaveRun_14 ?_
  refine ea_iload_n (pc := 15) dX10_leaveRun_15 rfl 1 rfl ?_
  refine ea_callS (pc := 16) (d' := d - 1) (As := [vI x1]) (st := [vI (((vX10_trainIn (x1 : Int32) h) <<< ((9 : Int32) &&& 31)) ||| ((vX10_dayIn (x1 : Int32) h) <<< ((6 : Int32) &&& 31)))]) dX10_leaveRun_16 kX10_stopIn (sX10_stopIn (d := d - 1) (by omega)) (by omega) rfl (Nat.le_of_ble_eq_true rfl) ew_599 ew_600 ?_
  refine ea_ior (pc := 19) dX10_leaveRun_19 ?_
  refine ea_i2l (pc := 20) dX10_leaveRun_20 ?_
  refine ea_lstore (pc := 21) (lv' := [(0, vR (some (b0 + 13))), (1, vI x1), (2, vI x2), (3, vI x3), (4, vJ (Int32.toInt64 ((((vX10_trainIn (x1 : Int32) h) <<< ((9 : Int32) &&& 31)) ||| ((vX10_dayIn (x1 : Int32) h) <<< ((6 : Int32) &&& 31))) ||| (vX10_stopIn (x1 : Int32) h))))]) dX10_leaveRun_21 (Nat.le_of_ble_eq_true rfl) [1, 2, 3, 4, 0] rfl ?_
  refine ea_iconst (pc := 23) dX10_leaveRun_23 (v := 0) rfl ?_
  refine ea_istore (pc := 24) (lv' := [(0, vR (some (b0 + 13))), (1, vI x1), (2, vI x2), (3, vI x3), (4, vJ (Int32.toInt64 ((((vX10_trainIn (x1 : Int32) h) <<< ((9 : Int32) &&& 31)) ||| ((vX10_dayIn (x1 : Int32) h) <<< ((6 : Int32) &&& 31))) ||| (vX10_stopIn (x1 : Int32) h)))), (6, vI 0)]) dX10_leaveRun_24 (Nat.le_of_ble_eq_true rfl) [1, 2, 3, 4, 5, 0] rfl ?_
  exact H
theorem pX10_leaveRun_26 {d b0 : Nat} {h0 hE h : ea_H} {rv : Option ea_V} {x1 : Int32} {x2 : Int32} {x3 : Int32} {y4 : Int64} {x6 : Int32} (hd : 2 ≤ d) (hs_h : ShC b0 h) (H : ((12 : Int32) ≤ x6 → rv = none ∧ hE = h) ∧ (¬ (12 : Int32) ≤ x6 → vp_in x3 12 ∧ ((0 : Int32) ≤ (ea_i h (b0 + 14) (Int32.toNatClampNeg x3)) → vp_in x3 12 ∧ ∃ a5, (ea_r h (b0 + 13) 4) = some a5 ∧ a5 < ea_n h ∧ ea_c h a5 = 22 ∧ vp_in (((12 : Int32) * (ea_i h (b0 + 14) (Int32.toNatClampNeg x3))) + x6) (ea_l h a5) ∧ ea_W mX10_leaveRun d h0 rv hE 65 [(0, vR (some (b0 + 13))), (1, vI x1), (2, vI x2), (3, vI x3), (4, vJ y4), (6, vI x6)] [vJ (ea_j h a5 (Int32.toNatClampNeg (((12 : Int32) * (ea_i h (b0 + 14) (Int32.toNatClampNeg x3))) + x6)))] h) ∧ (¬ (0 : Int32) ≤ (ea_i h (b0 + 14) (Int32.toNatClampNeg x3)) → ea_W mX10_leaveRun d h0 rv hE 65 [(0, vR (some (b0 + 13))), (1, vI x1), (2, vI x2), (3, vI x3), (4, vJ y4), (6, vI x6)] [vJ 9223372036854775807] h))) : ea_W mX10_leaveRun d h0 rv hE 26 [(0, vR (some (b0 + 13))), (1, vI x1), (2, vI x2), (3, vI x3), (4, vJ y4), (6, vI x6)] [] h := by
  refine ea_iload (pc := 26) dX10_leaveRun_26 5 rfl ?_
  refine ea_bipush (pc := 28) dX10_leaveRun_28 (v := 12) rfl ?_
  refine ea_icmp_ge (pc := 30) (tgt := 159) dX10_leaveRun_30 rfl (fun c9 => ?_) (fun c9 => ?_)
  · have H := H.1 c9
    obtain ⟨rfl, rfl⟩ := H
    exact ea_return (pc := 159) dX10_leaveRun_159 rfl
  · have H := H.2 c9
    refine ea_aload_n (pc := 33) dX10_leaveRun_33 rfl 0 rfl ?_
    refine ea_getR (pc := 34) dX10_leaveRun_34 ec_10 (k := 7) (Nat.le_of_ble_eq_true rfl) rfl (Or.inl ew_234) (hs_h.1 13 (by decide)).1 (hs_h.1 13 (by decide)).2.1 (hs_h.2 13 7 rfl) ?_
    refine ea_iload_n (pc := 37) dX10_leaveRun_37 rfl 3 rfl ?_
    obtain ⟨z1, H⟩ := H
    refine ea_iald (pc := 38) dX10_leaveRun_38 (hs_h.1 14 (by decide)).1 (hs_h.1 14 (by decide)).2.1 (ea_vpl (hs_h.1 14 (by decide)).2.2 z1) ?_
    refine ea_if_ge (pc := 39) (tgt := 48) dX10_leaveRun_39 rfl (fun c8 => ?_) (fun c8 => ?_)
    · have H := H.1 c8
      refine ea_aload_n (pc := 48) dX10_leaveRun_48 rfl 0 rfl ?_
      refine ea_getR (pc := 49) dX10_leaveRun_49 ec_10 (k := 4) (Nat.le_of_ble_eq_true rfl) rfl (Or.inl ew_231) (hs_h.1 13 (by decide)).1 (hs_h.1 13 (by decide)).2.1 rfl ?_
      refine ea_bipush (pc := 52) dX10_leaveRun_52 (v := 12) rfl ?_
      refine ea_aload_n (pc := 54) dX10_leaveRun_54 rfl 0 rfl ?_
      refine ea_getR (pc := 55) dX10_leaveRun_55 ec_10 (k := 7) (Nat.le_of_ble_eq_true rfl) rfl (Or.inl ew_234) (hs_h.1 13 (by decide)).1 (hs_h.1 13 (by decide)).2.1 (hs_h.2 13 7 rfl) ?_
      refine ea_iload_n (pc := 58) dX10_leaveRun_58 rfl 3 rfl ?_
      obtain ⟨z2, H⟩ := H
      refine ea_iald (pc := 59) dX10_leaveRun_59 (hs_h.1 14 (by decide)).1 (hs_h.1 14 (by decide)).2.1 (ea_vpl (hs_h.1 14 (by decide)).2.2 z2) ?_
      refine ea_imul (pc := 60) dX10_leaveRun_60 ?_
      refine ea_iload (pc := 61) dX10_leaveRun_61 5 rfl ?_
      refine ea_iadd (pc := 63) dX10_leaveRun_63 ?_
      obtain ⟨a5, e6, f3, g4, H⟩ := H
      refine ea_deref1 e6 ?_
      obtain ⟨z7, H⟩ := H
      refine ea_lald (pc := 64) dX10_leaveRun_64 f3 g4 z7 ?_
      exact H
    · have H := H.2 c8
      refine ea_ldc2 (pc := 42) dX10_leaveRun_42 ew_615 ?_
      refine ea_goto (pc := 45) (tgt := 65) dX10_leaveRun_45 rfl ?_
      exact H
theorem pX10_leaveRun_65 {d b0 : Nat} {h0 hE h : ea_H} {rv : Option ea_V} {x1 : Int32} {x2 : Int32} {x3 : Int32} {y4 : Int64} {x6 : Int32} {sy0 : Int64} (hd : 2 ≤ d) (hs_h : ShC b0 h) (H : (¬ x6 = x3 → ((lg_cmp sy0 9223372036854775807) = (0 : Int32) → ea_W mX10_leaveRun d h0 rv hE 122 [(0, vR (some (b0 + 13))), (1, vI x1), (2, vI x2), (3, vI x3), (4, vJ y4), (6, vI x6), (9, vJ 9223372036854775807)] [] h) ∧ (¬ (lg_cmp sy0 9223372036854775807) = (0 : Int32) → ea_W mX10_leaveRun d h0 rv hE 122 [(0, vR (some (b0 + 13))), (1, vI x1), (2, vI x2), (3, vI x3), (4, vJ y4), (6, vI x6), (9, vJ ((((sy0 >>> (Int32.toInt64 13 &&& 63)) + (1 : Int64)) <<< (Int32.toInt64 13 &&& 63)) ||| y4))] [] h)) ∧ (x6 = x3 → ea_W mX10_leaveRun d h0 rv hE 122 [(0, vR (some (b0 + 13))), (1, vI x1), (2, vI x2), (3, vI x3), (4, vJ y4), (6, vI x6), (9, vJ ((((Int32.toInt64 (vX10_minuteIn (x1 : Int32) h)) <<< (Int32.toInt64 21 &&& 63)) ||| (8192 : Int64)) ||| y4))] [] h)) : ea_W mX10_leaveRun d h0 rv hE 65 [(0, vR (some (b0 + 13))), (1, vI x1), (2, vI x2), (3, vI x3), (4, vJ y4), (6, vI x6)] [vJ sy0] h := by
  refine ea_lstore (pc := 65) (lv' := [(0, vR (some (b0 + 13))), (1, vI x1), (2, vI x2), (3, vI x3), (4, vJ y4), (6, vI x6), (7, vJ sy0)]) dX10_leaveRun_65 (Nat.le_of_ble_eq_true rfl) [1, 2, 3, 4, 5, 6, 0] rfl ?_
  refine ea_ldc2 (pc := 67) dX10_leaveRun_67 ew_615 ?_
  refine ea_lstore (pc := 70) (lv' := [(0, vR (some (b0 + 13))), (1, vI x1), (2, vI x2), (3, vI x3), (4, vJ y4), (6, vI x6), (7, vJ sy0), (9, vJ 9223372036854775807)]) dX10_leaveRun_70 (Nat.le_of_ble_eq_true rfl) [1, 2, 3, 4, 5, 6, 7, 0] rfl ?_
  refine ea_iload (pc := 72) dX10_leaveRun_72 5 rfl ?_
  refine ea_iload_n (pc := 74) dX10_leaveRun_74 rfl 3 rfl ?_
  refine ea_icmp_ne (pc := 75) (tgt := 98) dX10_leaveRun_75 rfl (fun c8 => ?_) (fun c8 => ?_)
  · have H := H.1 c8
    refine ea_lload (pc := 98) dX10_leaveRun_98 6 rfl ?_
    refine ea_ldc2 (pc := 100) dX10_leaveRun_100 ew_615 ?_
    refine ea_lcmp (pc := 103) dX10_leaveRun_103 ?_
    refine ea_if_eq (pc := 104) (tgt := 122) dX10_leaveRun_104 rfl (fun c1 => ?_) (fun c1 => ?_)
    · have H := H.1 c1
      exact ea_fewer [0, 1, 2, 3, 4, 5, 7] rfl H
    · have H := H.2 c1
      refine ea_lload (pc := 107) dX10_leaveRun_107 6 rfl ?_
      refine ea_bipush (pc := 109) dX10_leaveRun_109 (v := 13) rfl ?_
      refine ea_lshr (pc := 111) dX10_leaveRun_111 ?_
      refine ea_lconst (pc := 112) dX10_leaveRun_112 (v := 1) rfl ?_
      refine ea_ladd (pc := 113) dX10_leaveRun_113 ?_
      refine ea_bipush (pc := 114) dX10_leaveRun_114 (v := 13) rfl ?_
      refine ea_lshl (pc := 116) dX10_leaveRun_116 ?_
      refine ea_lload (pc := 117) dX10_leaveRun_117 4 rfl ?_
      refine ea_lor (pc := 119) dX10_leaveRun_119 ?_
      refine ea_lstore (pc := 120) (lv' := [(0, vR (some (b0 + 13))), (1, vI x1), (2, vI x2), (3, vI x3), (4, vJ y4), (6, vI x6), (9, vJ ((((sy0 >>> (Int32.toInt64 13 &&& 63)) + (1 : Int64)) <<< (Int32.toInt64 13 &&& 63)) ||| y4))]) dX10_leaveRun_120 (Nat.le_of_ble_eq_true rfl) [1, 2, 3, 4, 5, 6, 0] rfl ?_
      exact H
  · have H := H.2 c8
    refine ea_iload_n (pc := 78) dX10_leaveRun_78 rfl 1 rfl ?_
    refine ea_callS (pc := 79) (d' := d - 1) (As := [vI x1]) (st := []) dX10_leaveRun_79 kX10_minuteIn (sX10_minuteIn (d := d - 1) (by omega)) (by omega) rfl (Nat.le_of_ble_eq_true rfl) ew_602 ew_603 ?_
    refine ea_i2l (pc := 82) dX10_leaveRun_82 ?_
    refine ea_bipush (pc := 83) dX10_leaveRun_83 (v := 21) rfl ?_
    refine ea_lshl (pc := 85) dX10_leaveRun_85 ?_
    refine ea_ldc2 (pc := 86) dX10_leaveRun_86 ew_630 ?_
    refine ea_lor (pc := 89) dX10_leaveRun_89 ?_
    refine ea_lload (pc := 90) dX10_leaveRun_90 4 rfl ?_
    refine ea_lor (pc := 92) dX10_leaveRun_92 ?_
    refine ea_lstore (pc := 93) (lv' := [(0, vR (some (b0 + 13))), (1, vI x1), (2, vI x2), (3, vI x3), (4, vJ y4), (6, vI x6), (9, vJ ((((Int32.toInt64 (vX10_minuteIn (x1 : Int32) h)) <<< (Int32.toInt64 21 &&& 63)) ||| (8192 : Int64)) ||| y4))]) dX10_leaveRun_93 (Nat.le_of_ble_eq_true rfl) [1, 2, 3, 4, 5, 6, 0] rfl ?_
    refine ea_goto (pc := 95) (tgt := 122) dX10_leaveRun_95 rfl ?_
    exact H
theorem pX10_leaveRun_122 {d b0 : Nat} {h0 hE h : ea_H} {rv : Option ea_V} {x1 : Int32} {x2 : Int32} {x3 : Int32} {y4 : Int64} {x6 : Int32} {y9 : Int64} (hd : 2 ≤ d) (hs_h : ShC b0 h) (H : ∃ a3, (ea_r h (b0 + 13) 5) = some a3 ∧ a3 < ea_n h ∧ ea_c h a3 = 22 ∧ vp_in (((12 : Int32) * (x2 / (8 : Int32))) + x6) (ea_l h a3) ∧ ∃ (d6 : Nat) (yc10 : Int64) (h7 : ea_H), ea_Met mJ9_min_f86c9 d6 [vJ (ea_j h a3 (Int32.toNatClampNeg (((12 : Int32) * (x2 / (8 : Int32))) + x6))), vJ y9] h (some (vJ yc10)) h7 ∧ d6 + 1 ≤ d ∧ ShC b0 h7 ∧ a3 < ea_n h7 ∧ ea_c h7 a3 = 22 ∧ vp_in (((12 : Int32) * (x2 / (8 : Int32))) + x6) (ea_l h7 a3) ∧ ∀ h14, h14 = ea_wj h7 a3 (Int32.toNatClampNeg (((12 : Int32) * (x2 / (8 : Int32))) + x6)) yc10 → ea_W mX10_leaveRun d h0 rv hE 26 [(0, vR (some (b0 + 13))), (1, vI x1), (2, vI x2), (3, vI x3), (4, vJ y4), (6, vI (x6 + 1))] [] h14) : ea_W mX10_leaveRun d h0 rv hE 122 [(0, vR (some (b0 + 13))), (1, vI x1), (2, vI x2), (3, vI x3), (4, vJ y4), (6, vI x6), (9, vJ y9)] [] h := by
  refine ea_bipush (pc := 122) dX10_leaveRun_122 (v := 12) rfl ?_
  refine ea_iload_n (pc := 124) dX10_leaveRun_124 rfl 2 rfl ?_
  refine ea_bipush (pc := 125) dX10_leaveRun_125 (v := 8) rfl ?_
  refine ea_idiv (pc := 127) dX10_leaveRun_127 (by decide) ?_
  refine ea_imul (pc := 128) dX10_leaveRun_128 ?_
  refine ea_iload (pc := 129) dX10_leaveRun_129 5 rfl ?_
  refine ea_iadd (pc := 131) dX10_leaveRun_131 ?_
  refine ea_istore (pc := 132) (lv' := [(0, vR (some (b0 + 13))), (1, vI x1), (2, vI x2), (3, vI x3), (4, vJ y4), (6, vI x6), (9, vJ y9), (11, vI (((12 : Int32) * (x2 / (8 : Int32))) + x6))]) dX10_leaveRun_132 (Nat.le_of_ble_eq_true rfl) [1, 2, 3, 4, 5, 6, 7, 0] rfl ?_
  refine ea_aload_n (pc := 134) dX10_leaveRun_134 rfl 0 rfl ?_
  refine ea_getR (pc := 135) dX10_leaveRun_135 ec_10 (k := 5) (Nat.le_of_ble_eq_true rfl) rfl (Or.inl ew_232) (hs_h.1 13 (by decide)).1 (hs_h.1 13 (by decide)).2.1 rfl ?_
  refine ea_iload (pc := 138) dX10_leaveRun_138 7 rfl ?_
  refine ea_aload_n (pc := 140) dX10_leaveRun_140 rfl 0 rfl ?_
  refine ea_getR (pc := 141) dX10_leaveRun_141 ec_10 (k := 5) (Nat.le_of_ble_eq_true rfl) rfl (Or.inl ew_232) (hs_h.1 13 (by decide)).1 (hs_h.1 13 (by decide)).2.1 rfl ?_
  refine ea_iload (pc := 144) dX10_leaveRun_144 7 rfl ?_
  obtain ⟨a3, e4, f1, g2, H⟩ := H
  refine ea_deref1 e4 ?_
  obtain ⟨z5, H⟩ := H
  refine ea_lald (pc := 146) dX10_leaveRun_146 f1 g2 z5 ?_
  refine ea_lload (pc := 147) dX10_leaveRun_147 6 rfl ?_
  obtain ⟨d6, yc10, h7, m8, q9, hs_h7, H⟩ := H
  refine ea_callS (pc := 149) (As := [vJ (ea_j h a3 (Int32.toNatClampNeg (((12 : Int32) * (x2 / (8 : Int32))) + x6))), vJ y9]) (st := [vI (((12 : Int32) * (x2 / (8 : Int32))) + x6), vR (ea_r h (b0 + 13) 5)]) dX10_leaveRun_149 kJ9_min_f86c9 m8 q9 rfl (Nat.le_of_ble_eq_true rfl) ew_623 ew_624 ?_
  obtain ⟨f11, g12, H⟩ := H
  refine ea_deref2 e4 ?_
  obtain ⟨z13, H⟩ := H
  refine ea_last (pc := 152) dX10_leaveRun_152 f11 g12 z13 ?_
  obtain ⟨h14, E15⟩ : ∃ z, z = ea_wj h7 a3 (Int32.toNatClampNeg (((12 : Int32) * (x2 / (8 : Int32))) + x6)) yc10 := ⟨_, rfl⟩
  have H := H h14 E15
  refine ea_nm E15 ?_
  have hs_h14 : ShC b0 h14 := by rw [E15]; exact ShC_wj hs_h7
  refine ea_iinc (pc := 153) (v := 1) (lv' := [(0, vR (some (b0 + 13))), (1, vI x1), (2, vI x2), (3, vI x3), (4, vJ y4), (6, vI (x6 + 1))]) dX10_leaveRun_153 5 rfl rfl (Nat.le_of_ble_eq_true rfl) [1, 2, 3, 4, 5, 0] rfl ?_
  refine ea_goto (pc := 156) (tgt := 26) dX10_leaveRun_156 rfl ?_
  exact H
