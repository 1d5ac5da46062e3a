/-! blocks -/
theorem dX12_putsBack_0 : decode cX12_putsBack 0 = .ok (.iconst 0, 1) := by decide +kernel
theorem dX12_putsBack_1 : decode cX12_putsBack 1 = .ok (.istore_n 1, 1) := by decide +kernel
theorem dX12_putsBack_2 : decode cX12_putsBack 2 = .ok (.iload_n 1, 1) := by decide +kernel
theorem dX12_putsBack_3 : decode cX12_putsBack 3 = .ok (.aload_n 0, 1) := by decide +kernel
theorem dX12_putsBack_4 : decode cX12_putsBack 4 = .ok (.getfield 531, 3) := by decide +kernel
theorem dX12_putsBack_7 : decode cX12_putsBack 7 = .ok (.if_icmp .ge 105, 3) := by decide +kernel
theorem dX12_putsBack_10 : decode cX12_putsBack 10 = .ok (.aload_n 0, 1) := by decide +kernel
theorem dX12_putsBack_11 : decode cX12_putsBack 11 = .ok (.getfield 177, 3) := by decide +kernel
theorem dX12_putsBack_14 : decode cX12_putsBack 14 = .ok (.iload_n 1, 1) := by decide +kernel
theorem dX12_putsBack_15 : decode cX12_putsBack 15 = .ok (.aload_n 0, 1) := by decide +kernel
theorem dX12_putsBack_16 : decode cX12_putsBack 16 = .ok (.getfield 256, 3) := by decide +kernel
theorem dX12_putsBack_19 : decode cX12_putsBack 19 = .ok (.iload_n 1, 1) := by decide +kernel
theorem dX12_putsBack_20 : decode cX12_putsBack 20 = .ok (.iaload, 1) := by decide +kernel
theorem dX12_putsBack_21 : decode cX12_putsBack 21 = .ok (.iastore, 1) := by decide +kernel
theorem dX12_putsBack_22 : decode cX12_putsBack 22 = .ok (.aload_n 0, 1) := by decide +kernel
theorem dX12_putsBack_23 : decode cX12_putsBack 23 = .ok (.getfield 180, 3) := by decide +kernel
theorem dX12_putsBack_26 : decode cX12_putsBack 26 = .ok (.iload_n 1, 1) := by decide +kernel
theorem dX12_putsBack_27 : decode cX12_putsBack 27 = .ok (.aload_n 0, 1) := by decide +kernel
theorem dX12_putsBack_28 : decode cX12_putsBack 28 = .ok (.getfield 259, 3) := by decide +kernel
theorem dX12_putsBack_31 : decode cX12_putsBack 31 = .ok (.iload_n 1, 1) := by decide +kernel
theorem dX12_putsBack_32 : decode cX12_putsBack 32 = .ok (.iaload, 1) := by decide +kernel
theorem dX12_putsBack_33 : decode cX12_putsBack 33 = .ok (.iastore, 1) := by decide +kernel
theorem dX12_putsBack_34 : decode cX12_putsBack 34 = .ok (.aload_n 0, 1) := by decide +kernel
theorem dX12_putsBack_35 : decode cX12_putsBack 35 = .ok (.getfield 183, 3) := by decide +kernel
theorem dX12_putsBack_38 : decode cX12_putsBack 38 = .ok (.iload_n 1, 1) := by decide +kernel
theorem dX12_putsBack_39 : decode cX12_putsBack 39 = .ok (.aload_n 0, 1) := by decide +kernel
theorem dX12_putsBack_40 : decode cX12_putsBack 40 = .ok (.getfield 262, 3) := by decide +kernel
theorem dX12_putsBack_43 : decode cX12_putsBack 43 = .ok (.iload_n 1, 1) := by decide +kernel
theorem dX12_putsBack_44 : decode cX12_putsBack 44 = .ok (.iaload, 1) := by decide +kernel
theorem dX12_putsBack_45 : decode cX12_putsBack 45 = .ok (.iastore, 1) := by decide +kernel
theorem dX12_putsBack_46 : decode cX12_putsBack 46 = .ok (.aload_n 0, 1) := by decide +kernel
theorem dX12_putsBack_47 : decode cX12_putsBack 47 = .ok (.getfield 186, 3) := by decide +kernel
theorem dX12_putsBack_50 : decode cX12_putsBack 50 = .ok (.iload_n 1, 1) := by decide +kernel
theorem dX12_putsBack_51 : decode cX12_putsBack 51 = .ok (.aload_n 0, 1) := by decide +kernel
theorem dX12_putsBack_52 : decode cX12_putsBack 52 = .ok (.getfield 265, 3) := by decide +kernel
theorem dX12_putsBack_55 : decode cX12_putsBack 55 = .ok (.iload_n 1, 1) := by decide +kernel
theorem dX12_putsBack_56 : decode cX12_putsBack 56 = .ok (.iaload, 1) := by decide +kernel
theorem dX12_putsBack_57 : decode cX12_putsBack 57 = .ok (.iastore, 1) := by decide +kernel
theorem dX12_putsBack_58 : decode cX12_putsBack 58 = .ok (.aload_n 0, 1) := by decide +kernel
theorem dX12_putsBack_59 : decode cX12_putsBack 59 = .ok (.getfield 189, 3) := by decide +kernel
theorem dX12_putsBack_62 : decode cX12_putsBack 62 = .ok (.iload_n 1, 1) := by decide +kernel
theorem dX12_putsBack_63 : decode cX12_putsBack 63 = .ok (.aload_n 0, 1) := by decide +kernel
theorem dX12_putsBack_64 : decode cX12_putsBack 64 = .ok (.getfield 268, 3) := by decide +kernel
theorem dX12_putsBack_67 : decode cX12_putsBack 67 = .ok (.iload_n 1, 1) := by decide +kernel
theorem dX12_putsBack_68 : decode cX12_putsBack 68 = .ok (.iaload, 1) := by decide +kernel
theorem dX12_putsBack_69 : decode cX12_putsBack 69 = .ok (.iastore, 1) := by decide +kernel
theorem dX12_putsBack_70 : decode cX12_putsBack 70 = .ok (.aload_n 0, 1) := by decide +kernel
theorem dX12_putsBack_71 : decode cX12_putsBack 71 = .ok (.getfield 162, 3) := by decide +kernel
theorem dX12_putsBack_74 : decode cX12_putsBack 74 = .ok (.iload_n 1, 1) := by decide +kernel
theorem dX12_putsBack_75 : decode cX12_putsBack 75 = .ok (.aload_n 0, 1) := by decide +kernel
theorem dX12_putsBack_76 : decode cX12_putsBack 76 = .ok (.getfield 271, 3) := by decide +kernel
theorem dX12_putsBack_79 : decode cX12_putsBack 79 = .ok (.iload_n 1, 1) := by decide +kernel
theorem dX12_putsBack_80 : decode cX12_putsBack 80 = .ok (.iaload, 1) := by decide +kernel
theorem dX12_putsBack_81 : decode cX12_putsBack 81 = .ok (.iastore, 1) := by decide +kernel
theorem dX12_putsBack_82 : decode cX12_putsBack 82 = .ok (.aload_n 0, 1) := by decide +kernel
theorem dX12_putsBack_83 : decode cX12_putsBack 83 = .ok (.getfield 165, 3) := by decide +kernel
theorem dX12_putsBack_86 : decode cX12_putsBack 86 = .ok (.iload_n 1, 1) := by decide +kernel
theorem dX12_putsBack_87 : decode cX12_putsBack 87 = .ok (.aload_n 0, 1) := by decide +kernel
theorem dX12_putsBack_88 : decode cX12_putsBack 88 = .ok (.getfield 274, 3) := by decide +kernel
theorem dX12_putsBack_91 : decode cX12_putsBack 91 = .ok (.iload_n 1, 1) := by decide +kernel
theorem dX12_putsBack_92 : decode cX12_putsBack 92 = .ok (.iaload, 1) := by decide +kernel
theorem dX12_putsBack_93 : decode cX12_putsBack 93 = .ok (.iastore, 1) := by decide +kernel
theorem dX12_putsBack_94 : decode cX12_putsBack 94 = .ok (.aload_n 0, 1) := by decide +kernel
theorem dX12_putsBack_95 : decode cX12_putsBack 95 = .ok (.getfield 195, 3) := by decide +kernel
theorem dX12_putsBack_98 : decode cX12_putsBack 98 = .ok (.iload_n 1, 1) := by decide +kernel
theorem dX12_putsBack_99 : decode cX12_putsBack 99 = .ok (.aload_n 0, 1) := by decide +kernel
theorem dX12_putsBack_100 : decode cX12_putsBack 100 = .ok (.getfield 280, 3) := by decide +kernel
theorem dX12_putsBack_103 : decode cX12_putsBack 103 = .ok (.iload_n 1, 1) := by decide +kernel
theorem dX12_putsBack_104 : decode cX12_putsBack 104 = .ok (.baload, 1) := by decide +kernel
theorem dX12_putsBack_105 : decode cX12_putsBack 105 = .ok (.bastore, 1) := by decide +kernel
theorem dX12_putsBack_106 : decode cX12_putsBack 106 = .ok (.iinc 1 1, 3) := by decide +kernel
theorem dX12_putsBack_109 : decode cX12_putsBack 109 = .ok (.goto (-107), 3) := by decide +kernel
theorem dX12_putsBack_112 : decode cX12_putsBack 112 = .ok (.iconst 0, 1) := by decide +kernel
theorem dX12_putsBack_113 : decode cX12_putsBack 113 = .ok (.istore_n 1, 1) := by decide +kernel
theorem dX12_putsBack_114 : decode cX12_putsBack 114 = .ok (.iload_n 1, 1) := by decide +kernel
theorem dX12_putsBack_115 : decode cX12_putsBack 115 = .ok (.bipush 70, 2) := by decide +kernel
theorem dX12_putsBack_117 : decode cX12_putsBack 117 = .ok (.if_icmp .ge 21, 3) := by decide +kernel
theorem dX12_putsBack_120 : decode cX12_putsBack 120 = .ok (.aload_n 0, 1) := by decide +kernel
theorem dX12_putsBack_121 : decode cX12_putsBack 121 = .ok (.getfield 192, 3) := by decide +kernel
theorem dX12_putsBack_124 : decode cX12_putsBack 124 = .ok (.iload_n 1, 1) := by decide +kernel
theorem dX12_putsBack_125 : decode cX12_putsBack 125 = .ok (.aload_n 0, 1) := by decide +kernel
theorem dX12_putsBack_126 : decode cX12_putsBack 126 = .ok (.getfield 277, 3) := by decide +kernel
theorem dX12_putsBack_129 : decode cX12_putsBack 129 = .ok (.iload_n 1, 1) := by decide +kernel
theorem dX12_putsBack_130 : decode cX12_putsBack 130 = .ok (.iaload, 1) := by decide +kernel
theorem dX12_putsBack_131 : decode cX12_putsBack 131 = .ok (.iastore, 1) := by decide +kernel
theorem dX12_putsBack_132 : decode cX12_putsBack 132 = .ok (.iinc 1 1, 3) := by decide +kernel
theorem dX12_putsBack_135 : decode cX12_putsBack 135 = .ok (.goto (-21), 3) := by decide +kernel
theorem dX12_putsBack_138 : decode cX12_putsBack 138 = .ok (.return_, 1) := by decide +kernel
theorem bX12_putsBack_0 {d : Nat} {h0 hE h : ea_H} {rv : Option ea_V} {r0 : Option Nat} (H : ea_W mX12_putsBack d h0 rv hE 2 [(0, vR r0), (1, vI 0)] [] h) : ea_W mX12_putsBack d h0 rv hE 0 [(0, vR r0)] [] h := by
  refine ea_iconst (pc := 0) dX12_putsBack_0 (v := 0) rfl ?_
  refine ea_istore_n (pc := 1) (lv' := [(0, vR r0), (1, vI 0)]) dX12_putsBack_1 rfl (Nat.le_of_ble_eq_true rfl) [1, 0] rfl ?_
  exact H
theorem bX12_putsBack_2 {d : Nat} {h0 hE h : ea_H} {rv : Option ea_V} {r0 : Option Nat} {x1 : Int32} (H : ∃ a3, r0 = some a3 ∧ a3 < ea_n h ∧ ea_c h a3 = 12 ∧ ((ea_i h a3 63) ≤ x1 → ea_W mX12_putsBack d h0 rv hE 114 [(0, vR r0), (1, vI 0)] [] h) ∧ (¬ (ea_i h a3 63) ≤ x1 → a3 < ea_n h ∧ ea_c h a3 = 12 ∧ a3 < ea_n h ∧ ea_c h a3 = 12 ∧ ∃ a11, (ea_r h a3 109) = some a11 ∧ a11 < ea_n h ∧ ea_c h a11 = 20 ∧ vp_in x1 (ea_l h a11) ∧ ∃ a16, (ea_r h a3 81) = some a16 ∧ a16 < ea_n h ∧ ea_c h a16 = 20 ∧ vp_in x1 (ea_l h a16) ∧ ∀ h19, h19 = ea_wi h a16 (Int32.toNatClampNeg x1) (ea_i h a11 (Int32.toNatClampNeg x1)) → a3 < ea_n h19 ∧ ea_c h19 a3 = 12 ∧ a3 < ea_n h19 ∧ ea_c h19 a3 = 12 ∧ ∃ a27, (ea_r h19 a3 110) = some a27 ∧ a27 < ea_n h19 ∧ ea_c h19 a27 = 20 ∧ vp_in x1 (ea_l h19 a27) ∧ ∃ a32, (ea_r h19 a3 82) = some a32 ∧ a32 < ea_n h19 ∧ ea_c h19 a32 = 20 ∧ vp_in x1 (ea_l h19 a32) ∧ ∀ h35, h35 = ea_wi h19 a32 (Int32.toNatClampNeg x1) (ea_i h19 a27 (Int32.toNatClampNeg x1)) → a3 < ea_n h35 ∧ ea_c h35 a3 = 12 ∧ a3 < ea_n h35 ∧ ea_c h35 a3 = 12 ∧ ∃ a43, (ea_r h35 a3 111) = some a43 ∧ a43 < ea_n h35 ∧ ea_c h35 a43 = 20 ∧ vp_in x1 (ea_l h35 a43) ∧ ∃ a48, (ea_r h35 a3 83) = some a48 ∧ a48 < ea_n h35 ∧ ea_c h35 a48 = 20 ∧ vp_in x1 (ea_l h35 a48) ∧ ∀ h51, h51 = ea_wi h35 a48 (Int32.toNatClampNeg x1) (ea_i h35 a43 (Int32.toNatClampNeg x1)) → a3 < ea_n h51 ∧ ea_c h51 a3 = 12 ∧ a3 < ea_n h51 ∧ ea_c h51 a3 = 12 ∧ ∃ a59, (ea_r h51 a3 112) = some a59 ∧ a59 < ea_n h51 ∧ ea_c h51 a59 = 20 ∧ vp_in x1 (ea_l h51 a59) ∧ ∃ a64, (ea_r h51 a3 84) = some a64 ∧ a64 < ea_n h51 ∧ ea_c h51 a64 = 20 ∧ vp_in x1 (ea_l h51 a64) ∧ ∀ h67, h67 = ea_wi h51 a64 (Int32.toNatClampNeg x1) (ea_i h51 a59 (Int32.toNatClampNeg x1)) → a3 < ea_n h67 ∧ ea_c h67 a3 = 12 ∧ a3 < ea_n h67 ∧ ea_c h67 a3 = 12 ∧ ∃ a75, (ea_r h67 a3 113) = some a75 ∧ a75 < ea_n h67 ∧ ea_c h67 a75 = 20 ∧ vp_in x1 (ea_l h67 a75) ∧ ∃ a80, (ea_r h67 a3 85) = some a80 ∧ a80 < ea_n h67 ∧ ea_c h67 a80 = 20 ∧ vp_in x1 (ea_l h67 a80) ∧ ∀ h83, h83 = ea_wi h67 a80 (Int32.toNatClampNeg x1) (ea_i h67 a75 (Int32.toNatClampNeg x1)) → a3 < ea_n h83 ∧ ea_c h83 a3 = 12 ∧ a3 < ea_n h83 ∧ ea_c h83 a3 = 12 ∧ ∃ a91, (ea_r h83 a3 114) = some a91 ∧ a91 < ea_n h83 ∧ ea_c h83 a91 = 20 ∧ vp_in x1 (ea_l h83 a91) ∧ ∃ a96, (ea_r h83 a3 76) = some a96 ∧ a96 < ea_n h83 ∧ ea_c h83 a96 = 20 ∧ vp_in x1 (ea_l h83 a96) ∧ ∀ h99, h99 = ea_wi h83 a96 (Int32.toNatClampNeg x1) (ea_i h83 a91 (Int32.toNatClampNeg x1)) → a3 < ea_n h99 ∧ ea_c h99 a3 = 12 ∧ a3 < ea_n h99 ∧ ea_c h99 a3 = 12 ∧ ∃ a107, (ea_r h99 a3 115) = some a107 ∧ a107 < ea_n h99 ∧ ea_c h99 a107 = 20 ∧ vp_in x1 (ea_l h99 a107) ∧ ∃ a112, (ea_r h99 a3 77) = some a112 ∧ a112 < ea_n h99 ∧ ea_c h99 a112 = 20 ∧ vp_in x1 (ea_l h99 a112) ∧ ∀ h115, h115 = ea_wi h99 a112 (Int32.toNatClampNeg x1) (ea_i h99 a107 (Int32.toNatClampNeg x1)) → a3 < ea_n h115 ∧ ea_c h115 a3 = 12 ∧ a3 < ea_n h115 ∧ ea_c h115 a3 = 12 ∧ ∃ a123, (ea_r h115 a3 117) = some a123 ∧ a123 < ea_n h115 ∧ ea_c h115 a123 = 21 ∧ vp_in x1 (ea_l h115 a123) ∧ ∃ a128, (ea_r h115 a3 87) = some a128 ∧ a128 < ea_n h115 ∧ ea_c h115 a128 = 21 ∧ vp_in x1 (ea_l h115 a128) ∧ ((ea_i h115 a123 (Int32.toNatClampNeg x1)) = 0 ∨ (ea_i h115 a123 (Int32.toNatClampNeg x1)) = 1) ∧ ∀ h131, h131 = ea_wi h115 a128 (Int32.toNatClampNeg x1) (ea_i h115 a123 (Int32.toNatClampNeg x1)) → ea_W mX12_putsBack d h0 rv hE 2 [(0, vR r0), (1, vI (x1 + 1))] [] h131)) : ea_W mX12_putsBack d h0 rv hE 2 [(0, vR r0), (1, vI x1)] [] h := by
  refine ea_iload_n (pc := 2) dX12_putsBack_2 rfl 1 rfl ?_
  refine ea_aload_n (pc := 3) dX12_putsBack_3 rfl 0 rfl ?_
  obtain ⟨a3, e4, f1, g2, H⟩ := H
  refine ea_deref0 e4 ?_
  refine ea_getI (pc := 4) dX12_putsBack_4 ec_12 (k := 63) (Nat.le_of_ble_eq_true rfl) rfl (Or.inl ew_1408) f1 g2 ?_
  refine ea_icmp_ge (pc := 7) (tgt := 112) dX12_putsBack_7 rfl (fun c134 => ?_) (fun c134 => ?_)
  · have H := H.1 c134
    refine ea_iconst (pc := 112) dX12_putsBack_112 (v := 0) rfl ?_
    refine ea_istore_n (pc := 113) (lv' := [(0, vR r0), (1, vI 0)]) dX12_putsBack_113 rfl (Nat.le_of_ble_eq_true rfl) [1, 0] rfl ?_
    exact H
  · have H := H.2 c134
    refine ea_aload_n (pc := 10) dX12_putsBack_10 rfl 0 rfl ?_
    obtain ⟨f5, g6, H⟩ := H
    refine ea_deref0 e4 ?_
    refine ea_getR (pc := 11) dX12_putsBack_11 ec_12 (k := 81) (Nat.le_of_ble_eq_true rfl) rfl (Or.inl ew_1426) f5 g6 rfl ?_
    refine ea_iload_n (pc := 14) dX12_putsBack_14 rfl 1 rfl ?_
    refine ea_aload_n (pc := 15) dX12_putsBack_15 rfl 0 rfl ?_
    obtain ⟨f7, g8, H⟩ := H
    refine ea_deref0 e4 ?_
    refine ea_getR (pc := 16) dX12_putsBack_16 ec_12 (k := 109) (Nat.le_of_ble_eq_true rfl) rfl (Or.inl ew_1454) f7 g8 rfl ?_
    refine ea_iload_n (pc := 19) dX12_putsBack_19 rfl 1 rfl ?_
    obtain ⟨a11, e12, f9, g10, H⟩ := H
    refine ea_deref1 e12 ?_
    obtain ⟨z13, H⟩ := H
    refine ea_iald (pc := 20) dX12_putsBack_20 f9 g10 z13 ?_
    obtain ⟨a16, e17, f14, g15, H⟩ := H
    refine ea_deref2 e17 ?_
    obtain ⟨z18, H⟩ := H
    refine ea_iast (pc := 21) dX12_putsBack_21 f14 g15 z18 ?_
    obtain ⟨h19, E20⟩ : ∃ z, z = ea_wi h a16 (Int32.toNatClampNeg x1) (ea_i h a11 (Int32.toNatClampNeg x1)) := ⟨_, rfl⟩
    have H := H h19 E20
    refine ea_nm E20 ?_
    refine ea_aload_n (pc := 22) dX12_putsBack_22 rfl 0 rfl ?_
    obtain ⟨f21, g22, H⟩ := H
    refine ea_deref0 e4 ?_
    refine ea_getR (pc := 23) dX12_putsBack_23 ec_12 (k := 82) (Nat.le_of_ble_eq_true rfl) rfl (Or.inl ew_1427) f21 g22 rfl ?_
    refine ea_iload_n (pc := 26) dX12_putsBack_26 rfl 1 rfl ?_
    refine ea_aload_n (pc := 27) dX12_putsBack_27 rfl 0 rfl ?_
    obtain ⟨f23, g24, H⟩ := H
    refine ea_deref0 e4 ?_
    refine ea_getR (pc := 28) dX12_putsBack_28 ec_12 (k := 110) (Nat.le_of_ble_eq_true rfl) rfl (Or.inl ew_1455) f23 g24 rfl ?_
    refine ea_iload_n (pc := 31) dX12_putsBack_31 rfl 1 rfl ?_
    obtain ⟨a27, e28, f25, g26, H⟩ := H
    refine ea_deref1 e28 ?_
    obtain ⟨z29, H⟩ := H
    refine ea_iald (pc := 32) dX12_putsBack_32 f25 g26 z29 ?_
    obtain ⟨a32, e33, f30, g31, H⟩ := H
    refine ea_deref2 e33 ?_
    obtain ⟨z34, H⟩ := H
    refine ea_iast (pc := 33) dX12_putsBack_33 f30 g31 z34 ?_
    obtain ⟨h35, E36⟩ : ∃ z, z = ea_wi h19 a32 (Int32.toNatClampNeg x1) (ea_i h19 a27 (Int32.toNatClampNeg x1)) := ⟨_, rfl⟩
    have H := H h35 E36
    refine ea_nm E36 ?_
    refine ea_aload_n (pc := 34) dX12_putsBack_34 rfl 0 rfl ?_
    obtain ⟨f37, g38, H⟩ := H
    refine ea_deref0 e4 ?_
    refine ea_getR (pc := 35) dX12_putsBack_35 ec_12 (k := 83) (Nat.le_of_ble_eq_true rfl) rfl (Or.inl ew_1428) f37 g38 rfl ?_
    refine ea_iload_n (pc := 38) dX12_putsBack_38 rfl 1 rfl ?_
    refine ea_aload_n (pc := 39) dX12_putsBack_39 rfl 0 rfl ?_
    obtain ⟨f39, g40, H⟩ := H
    refine ea_deref0 e4 ?_
    refine ea_getR (pc := 40) dX12_putsBack_40 ec_12 (k := 111) (Nat.le_of_ble_eq_true rfl) rfl (Or.inl ew_1456) f39 g40 rfl ?_
    refine ea_iload_n (pc := 43) dX12_putsBack_43 rfl 1 rfl ?_
    obtain ⟨a43, e44, f41, g42, H⟩ := H
    refine ea_deref1 e44 ?_
    obtain ⟨z45, H⟩ := H
    refine ea_iald (pc := 44) dX12_putsBack_44 f41 g42 z45 ?_
    obtain ⟨a48, e49, f46, g47, H⟩ := H
    refine ea_deref2 e49 ?_
    obtain ⟨z50, H⟩ := H
    refine ea_iast (pc := 45) dX12_putsBack_45 f46 g47 z50 ?_
    obtain ⟨h51, E52⟩ : ∃ z, z = ea_wi h35 a48 (Int32.toNatClampNeg x1) (ea_i h35 a43 (Int32.toNatClampNeg x1)) := ⟨_, rfl⟩
    have H := H h51 E52
    refine ea_nm E52 ?_
    refine ea_aload_n (pc := 46) dX12_putsBack_46 rfl 0 rfl ?_
    obtain ⟨f53, g54, H⟩ := H
    refine ea_deref0 e4 ?_
    refine ea_getR (pc := 47) dX12_putsBack_47 ec_12 (k := 84) (Nat.le_of_ble_eq_true rfl) rfl (Or.inl ew_1429) f53 g54 rfl ?_
    refine ea_iload_n (pc := 50) dX12_putsBack_50 rfl 1 rfl ?_
    refine ea_aload_n (pc := 51) dX12_putsBack_51 rfl 0 rfl ?_
    obtain ⟨f55, g56, H⟩ := H
    refine ea_deref0 e4 ?_
    refine ea_getR (pc := 52) dX12_putsBack_52 ec_12 (k := 112) (Nat.le_of_ble_eq_true rfl) rfl (Or.inl ew_1457) f55 g56 rfl ?_
    refine ea_iload_n (pc := 55) dX12_putsBack_55 rfl 1 rfl ?_
    obtain ⟨a59, e60, f57, g58, H⟩ := H
    refine ea_deref1 e60 ?_
    obtain ⟨z61, H⟩ := H
    refine ea_iald (pc := 56) dX12_putsBack_56 f57 g58 z61 ?_
    obtain ⟨a64, e65, f62, g63, H⟩ := H
    refine ea_deref2 e65 ?_
    obtain ⟨z66, H⟩ := H
    refine ea_iast (pc := 57) dX12_putsBack_57 f62 g63 z66 ?_
    obtain ⟨h67, E68⟩ : ∃ z, z = ea_wi h51 a64 (Int32.toNatClampNeg x1) (ea_i h51 a59 (Int32.toNatClampNeg x1)) := ⟨_, rfl⟩
    have H := H h67 E68
    refine ea_nm E68 ?_
    refine ea_aload_n (pc := 58) dX12_putsBack_58 rfl 0 rfl ?_
    obtain ⟨f69, g70, H⟩ := H
    refine ea_deref0 e4 ?_
    refine ea_getR (pc := 59) dX12_putsBack_59 ec_12 (k := 85) (Nat.le_of_ble_eq_true rfl) rfl (Or.inl ew_1430) f69 g70 rfl ?_
    refine ea_iload_n (pc := 62) dX12_putsBack_62 rfl 1 rfl ?_
    refine ea_aload_n (pc := 63) dX12_putsBack_63 rfl 0 rfl ?_
    obtain ⟨f71, g72, H⟩ := H
    refine ea_deref0 e4 ?_
    refine ea_getR (pc := 64) dX12_putsBack_64 ec_12 (k := 113) (Nat.le_of_ble_eq_true rfl) rfl (Or.inl ew_1458) f71 g72 rfl ?_
    refine ea_iload_n (pc := 67) dX12_putsBack_67 rfl 1 rfl ?_
    obtain ⟨a75, e76, f73, g74, H⟩ := H
    refine ea_deref1 e76 ?_
    obtain ⟨z77, H⟩ := H
    refine ea_iald (pc := 68) dX12_putsBack_68 f73 g74 z77 ?_
    obtain ⟨a80, e81, f78, g79, H⟩ := H
    refine ea_deref2 e81 ?_
    obtain ⟨z82, H⟩ := H
    refine ea_iast (pc := 69) dX12_putsBack_69 f78 g79 z82 ?_
    obtain ⟨h83, E84⟩ : ∃ z, z = ea_wi h67 a80 (Int32.toNatClampNeg x1) (ea_i h67 a75 (Int32.toNatClampNeg x1)) := ⟨_, rfl⟩
    have H := H h83 E84
    refine ea_nm E84 ?_
    refine ea_aload_n (pc := 70) dX12_putsBack_70 rfl 0 rfl ?_
    obtain ⟨f85, g86, H⟩ := H
    refine ea_deref0 e4 ?_
    refine ea_getR (pc := 71) dX12_putsBack_71 ec_12 (k := 76) (Nat.le_of_ble_eq_true rfl) rfl (Or.inl ew_1421) f85 g86 rfl ?_
    refine ea_iload_n (pc := 74) dX12_putsBack_74 rfl 1 rfl ?_
    refine ea_aload_n (pc := 75) dX12_putsBack_75 rfl 0 rfl ?_
    obtain ⟨f87, g88, H⟩ := H
    refine ea_deref0 e4 ?_
    refine ea_getR (pc := 76) dX12_putsBack_76 ec_12 (k := 114) (Nat.le_of_ble_eq_true rfl) rfl (Or.inl ew_1459) f87 g88 rfl ?_
    refine ea_iload_n (pc := 79) dX12_putsBack_79 rfl 1 rfl ?_
    obtain ⟨a91, e92, f89, g90, H⟩ := H
    refine ea_deref1 e92 ?_
    obtain ⟨z93, H⟩ := H
    refine ea_iald (pc := 80) dX12_putsBack_80 f89 g90 z93 ?_
    obtain ⟨a96, e97, f94, g95, H⟩ := H
    refine ea_deref2 e97 ?_
    obtain ⟨z98, H⟩ := H
    refine ea_iast (pc := 81) dX12_putsBack_81 f94 g95 z98 ?_
    obtain ⟨h99, E100⟩ : ∃ z, z = ea_wi h83 a96 (Int32.toNatClampNeg x1) (ea_i h83 a91 (Int32.toNatClampNeg x1)) := ⟨_, rfl⟩
    have H := H h99 E100
    refine ea_nm E100 ?_
    refine ea_aload_n (pc := 82) dX12_putsBack_82 rfl 0 rfl ?_
    obtain ⟨f101, g102, H⟩ := H
    refine ea_deref0 e4 ?_
    refine ea_getR (pc := 83) dX12_putsBack_83 ec_12 (k := 77) (Nat.le_of_ble_eq_true rfl) rfl (Or.inl ew_1422) f101 g102 rfl ?_
    refine ea_iload_n (pc := 86) dX12_putsBack_86 rfl 1 rfl ?_
    refine ea_aload_n (pc := 87) dX12_putsBack_87 rfl 0 rfl ?_
    obtain ⟨f103, g104, H⟩ := H
    refine ea_deref0 e4 ?_
    refine ea_getR (pc := 88) dX12_putsBack_88 ec_12 (k := 115) (Nat.le_of_ble_eq_true rfl) rfl (Or.inl ew_1460) f103 g104 rfl ?_
    refine ea_iload_n (pc := 91) dX12_putsBack_91 rfl 1 rfl ?_
    obtain ⟨a107, e108, f105, g106, H⟩ := H
    refine ea_deref1 e108 ?_
    obtain ⟨z109, H⟩ := H
    refine ea_iald (pc := 92) dX12_putsBack_92 f105 g106 z109 ?_
    obtain ⟨a112, e113, f110, g111, H⟩ := H
    refine ea_deref2 e113 ?_
    obtain ⟨z114, H⟩ := H
    refine ea_iast (pc := 93) dX12_putsBack_93 f110 g111 z114 ?_
    obtain ⟨h115, E116⟩ : ∃ z, z = ea_wi h99 a112 (Int32.toNatClampNeg x1) (ea_i h99 a107 (Int32.toNatClampNeg x1)) := ⟨_, rfl⟩
    have H := H h115 E116
    refine ea_nm E116 ?_
    refine ea_aload_n (pc := 94) dX12_putsBack_94 rfl 0 rfl ?_
    obtain ⟨f117, g118, H⟩ := H
    refine ea_deref0 e4 ?_
    refine ea_getR (pc := 95) dX12_putsBack_95 ec_12 (k := 87) (Nat.le_of_ble_eq_true rfl) rfl (Or.inl ew_1432) f117 g118 rfl ?_
    refine ea_iload_n (pc := 98) dX12_putsBack_98 rfl 1 rfl ?_
    refine ea_aload_n (pc := 99) dX12_putsBack_99 rfl 0 rfl ?_
    obtain ⟨f119, g120, H⟩ := H
    refine ea_deref0 e4 ?_
    refine ea_getR (pc := 100) dX12_putsBack_100 ec_12 (k := 117) (Nat.le_of_ble_eq_true rfl) rfl (Or.inl ew_1462) f119 g120 rfl ?_
    refine ea_iload_n (pc := 103) dX12_putsBack_103 rfl 1 rfl ?_
    obtain ⟨a123, e124, f121, g122, H⟩ := H
    refine ea_deref1 e124 ?_
    obtain ⟨z125, H⟩ := H
    refine ea_zald (pc := 104) dX12_putsBack_104 f121 g122 z125 ?_
    obtain ⟨a128, e129, f126, g127, H⟩ := H
    refine ea_deref2 e129 ?_
    obtain ⟨z130, H⟩ := H
    obtain ⟨z133, H⟩ := H
    refine ea_zast (pc := 105) dX12_putsBack_105 (y := (ea_i h115 a123 (Int32.toNatClampNeg x1))) (ea_bn z133) f126 g127 z130 ?_
    obtain ⟨h131, E132⟩ : ∃ z, z = ea_wi h115 a128 (Int32.toNatClampNeg x1) (ea_i h115 a123 (Int32.toNatClampNeg x1)) := ⟨_, rfl⟩
    have H := H h131 E132
    refine ea_nm E132 ?_
    refine ea_iinc (pc := 106) (v := 1) (lv' := [(0, vR r0), (1, vI (x1 + 1))]) dX12_putsBack_106 1 rfl rfl (Nat.le_of_ble_eq_true rfl) [1, 0] rfl ?_
    refine ea_goto (pc := 109) (tgt := 2) dX12_putsBack_109 rfl ?_
    exact H
theorem bX12_putsBack_114 {d : Nat} {h0 hE h : ea_H} {rv : Option ea_V} {r0 : Option Nat} {x1 : Int32} (H : ((70 : Int32) ≤ x1 → rv = none ∧ hE = h) ∧ (¬ (70 : Int32) ≤ x1 → ∃ a3, r0 = some a3 ∧ a3 < ea_n h ∧ ea_c h a3 = 12 ∧ a3 < ea_n h ∧ ea_c h a3 = 12 ∧ ∃ a9, (ea_r h a3 116) = some a9 ∧ a9 < ea_n h ∧ ea_c h a9 = 20 ∧ vp_in x1 (ea_l h a9) ∧ ∃ a14, (ea_r h a3 86) = some a14 ∧ a14 < ea_n h ∧ ea_c h a14 = 20 ∧ vp_in x1 (ea_l h a14) ∧ ∀ h17, h17 = ea_wi h a14 (Int32.toNatClampNeg x1) (ea_i h a9 (Int32.toNatClampNeg x1)) → ea_W mX12_putsBack d h0 rv hE 114 [(0, vR r0), (1, vI (x1 + 1))] [] h17)) : ea_W mX12_putsBack d h0 rv hE 114 [(0, vR r0), (1, vI x1)] [] h := by
  refine ea_iload_n (pc := 114) dX12_putsBack_114 rfl 1 rfl ?_
  refine ea_bipush (pc := 115) dX12_putsBack_115 (v := 70) rfl ?_
  refine ea_icmp_ge (pc := 117) (tgt := 138) dX12_putsBack_117 rfl (fun c19 => ?_) (fun c19 => ?_)
  · have H := H.1 c19
    obtain ⟨rfl, rfl⟩ := H
    exact ea_return (pc := 138) dX12_putsBack_138 rfl
  · have H := H.2 c19
    refine ea_aload_n (pc := 120) dX12_putsBack_120 rfl 0 rfl ?_
    obtain ⟨a3, e4, f1, g2, H⟩ := H
    refine ea_deref0 e4 ?_
    refine ea_getR (pc := 121) dX12_putsBack_121 ec_12 (k := 86) (Nat.le_of_ble_eq_true rfl) rfl (Or.inl ew_1431) f1 g2 rfl ?_
    refine ea_iload_n (pc := 124) dX12_putsBack_124 rfl 1 rfl ?_
    refine ea_aload_n (pc := 125) dX12_putsBack_125 rfl 0 rfl ?_
    obtain ⟨f5, g6, H⟩ := H
    refine ea_deref0 e4 ?_
    refine ea_getR (pc := 126) dX12_putsBack_126 ec_12 (k := 116) (Nat.le_of_ble_eq_true rfl) rfl (Or.inl ew_1461) f5 g6 rfl ?_
    refine ea_iload_n (pc := 129) dX12_putsBack_129 rfl 1 rfl ?_
    obtain ⟨a9, e10, f7, g8, H⟩ := H
    refine ea_deref1 e10 ?_
    obtain ⟨z11, H⟩ := H
    refine ea_iald (pc := 130) dX12_putsBack_130 f7 g8 z11 ?_
    obtain ⟨a14, e15, f12, g13, H⟩ := H
    refine ea_deref2 e15 ?_
    obtain ⟨z16, H⟩ := H
    refine ea_iast (pc := 131) dX12_putsBack_131 f12 g13 z16 ?_
    obtain ⟨h17, E18⟩ : ∃ z, z = ea_wi h a14 (Int32.toNatClampNeg x1) (ea_i h a9 (Int32.toNatClampNeg x1)) := ⟨_, rfl⟩
    have H := H h17 E18
    refine ea_nm E18 ?_
    refine ea_iinc (pc := 132) (v := 1) (lv' := [(0, vR r0), (1, vI (x1 + 1))]) dX12_putsBack_132 1 rfl rfl (Nat.le_of_ble_eq_true rfl) [1, 0] rfl ?_
    refine ea_goto (pc := 135) (tgt := 114) dX12_putsBack_135 rfl ?_
    exact H
theorem dX12_sums_0 : decode cX12_sums 0 = .ok (.aload_n 0, 1) := by decide +kernel
theorem dX12_sums_1 : decode cX12_sums 1 = .ok (.invokevirtual 628, 3) := by decide +kernel
theorem dX12_sums_4 : decode cX12_sums 4 = .ok (.aload_n 0, 1) := by decide +kernel
theorem dX12_sums_5 : decode cX12_sums 5 = .ok (.aload_n 0, 1) := by decide +kernel
theorem dX12_sums_6 : decode cX12_sums 6 = .ok (.getfield 313, 3) := by decide +kernel
theorem dX12_sums_9 : decode cX12_sums 9 = .ok (.sipush 10079, 3) := by decide +kernel
theorem dX12_sums_12 : decode cX12_sums 12 = .ok (.invokevirtual 594, 3) := by decide +kernel
theorem dX12_sums_15 : decode cX12_sums 15 = .ok (.iconst 0, 1) := by decide +kernel
theorem dX12_sums_16 : decode cX12_sums 16 = .ok (.istore_n 1, 1) := by decide +kernel
theorem dX12_sums_17 : decode cX12_sums 17 = .ok (.iconst 0, 1) := by decide +kernel
theorem dX12_sums_18 : decode cX12_sums 18 = .ok (.istore_n 2, 1) := by decide +kernel
theorem dX12_sums_19 : decode cX12_sums 19 = .ok (.iload_n 2, 1) := by decide +kernel
theorem dX12_sums_20 : decode cX12_sums 20 = .ok (.aload_n 0, 1) := by decide +kernel
theorem dX12_sums_21 : decode cX12_sums 21 = .ok (.getfield 531, 3) := by decide +kernel
theorem dX12_sums_24 : decode cX12_sums 24 = .ok (.if_icmp .ge 48, 3) := by decide +kernel
theorem dX12_sums_27 : decode cX12_sums 27 = .ok (.iload_n 1, 1) := by decide +kernel
theorem dX12_sums_28 : decode cX12_sums 28 = .ok (.aload_n 0, 1) := by decide +kernel
theorem dX12_sums_29 : decode cX12_sums 29 = .ok (.getfield 177, 3) := by decide +kernel
theorem dX12_sums_32 : decode cX12_sums 32 = .ok (.iload_n 2, 1) := by decide +kernel
theorem dX12_sums_33 : decode cX12_sums 33 = .ok (.iaload, 1) := by decide +kernel
theorem dX12_sums_34 : decode cX12_sums 34 = .ok (.iconst 2, 1) := by decide +kernel
theorem dX12_sums_35 : decode cX12_sums 35 = .ok (.if_icmp .ne 12, 3) := by decide +kernel
theorem dX12_sums_38 : decode cX12_sums 38 = .ok (.aload_n 0, 1) := by decide +kernel
theorem dX12_sums_39 : decode cX12_sums 39 = .ok (.getfield 189, 3) := by decide +kernel
theorem dX12_sums_42 : decode cX12_sums 42 = .ok (.iload_n 2, 1) := by decide +kernel
theorem dX12_sums_43 : decode cX12_sums 43 = .ok (.iaload, 1) := by decide +kernel
theorem dX12_sums_44 : decode cX12_sums 44 = .ok (.goto 20, 3) := by decide +kernel
theorem dX12_sums_47 : decode cX12_sums 47 = .ok (.aload_n 0, 1) := by decide +kernel
theorem dX12_sums_48 : decode cX12_sums 48 = .ok (.getfield 177, 3) := by decide +kernel
theorem dX12_sums_51 : decode cX12_sums 51 = .ok (.iload_n 2, 1) := by decide +kernel
theorem dX12_sums_52 : decode cX12_sums 52 = .ok (.iaload, 1) := by decide +kernel
theorem dX12_sums_53 : decode cX12_sums 53 = .ok (.iconst 2, 1) := by decide +kernel
theorem dX12_sums_54 : decode cX12_sums 54 = .ok (.if_icmp .ge 9, 3) := by decide +kernel
theorem dX12_sums_57 : decode cX12_sums 57 = .ok (.sipush 10080, 3) := by decide +kernel
theorem dX12_sums_60 : decode cX12_sums 60 = .ok (.goto 4, 3) := by decide +kernel
theorem dX12_sums_63 : decode cX12_sums 63 = .ok (.iconst 0, 1) := by decide +kernel
theorem dX12_sums_64 : decode cX12_sums 64 = .ok (.iadd, 1) := by decide +kernel
theorem dX12_sums_65 : decode cX12_sums 65 = .ok (.istore_n 1, 1) := by decide +kernel
theorem dX12_sums_66 : decode cX12_sums 66 = .ok (.iinc 2 1, 3) := by decide +kernel
theorem dX12_sums_69 : decode cX12_sums 69 = .ok (.goto (-50), 3) := by decide +kernel
theorem dX12_sums_72 : decode cX12_sums 72 = .ok (.aload_n 0, 1) := by decide +kernel
theorem dX12_sums_73 : decode cX12_sums 73 = .ok (.invokevirtual 631, 3) := by decide +kernel
theorem dX12_sums_76 : decode cX12_sums 76 = .ok (.iload_n 1, 1) := by decide +kernel
theorem dX12_sums_77 : decode cX12_sums 77 = .ok (.ireturn, 1) := by decide +kernel
theorem bX12_sums_0 {d : Nat} {h0 hE h : ea_H} {rv : Option ea_V} {r0 : Option Nat} (H : ∃ a7, r0 = some a7 ∧ a7 < ea_n h ∧ ea_c h a7 = 12 ∧ ∃ (d1 : Nat) (h2 : ea_H), ea_Met mX12_keeps d1 [vR (some a7)] h none h2 ∧ d1 + 1 ≤ d ∧ a7 < ea_n h2 ∧ ea_c h2 a7 = 12 ∧ a7 < ea_n h2 ∧ ea_c h2 a7 = 12 ∧ ∃ (d11 : Nat) (h12 : ea_H), ea_Met mX12_leadsOn d11 [vR (some a7), vI (ea_i h2 a7 0), vI 10079] h2 none h12 ∧ d11 + 1 ≤ d ∧ ea_W mX12_sums d h0 rv hE 19 [(0, vR r0), (1, vI 0), (2, vI 0)] [] h12) : ea_W mX12_sums d h0 rv hE 0 [(0, vR r0)] [] h := by
  refine ea_aload_n (pc := 0) dX12_sums_0 rfl 0 rfl ?_
  obtain ⟨a7, e8, f5, g6, H⟩ := H
  refine ea_deref0 e8 ?_
  obtain ⟨d1, h2, m3, q4, H⟩ := H
  refine ea_callV (pc := 1) (As := []) (st := []) dX12_sums_1 kX12_keeps m3 q4 rfl (Nat.le_of_ble_eq_true rfl) ew_2179 ew_2181 ew_105 (ci := 12) rfl (by decide) f5 g6 ?_
  refine ea_aload_n (pc := 4) dX12_sums_4 rfl 0 rfl ?_
  refine ea_aload_n (pc := 5) dX12_sums_5 rfl 0 rfl ?_
  obtain ⟨f9, g10, H⟩ := H
  refine ea_deref0 e8 ?_
  refine ea_getI (pc := 6) dX12_sums_6 ec_12 (k := 0) (Nat.le_of_ble_eq_true rfl) rfl (Or.inl ew_1345) f9 g10 ?_
  refine ea_sipush (pc := 9) dX12_sums_9 (v := 10079) rfl ?_
  obtain ⟨f15, g16, H⟩ := H
  refine ea_deref2 e8 ?_
  obtain ⟨d11, h12, m13, q14, H⟩ := H
  refine ea_callV (pc := 12) (As := [vI (ea_i h2 a7 0), vI 10079]) (st := []) dX12_sums_12 kX12_leadsOn m13 q14 rfl (Nat.le_of_ble_eq_true rfl) ew_2055 ew_2057 ew_92 (ci := 12) rfl (by decide) f15 g16 ?_
  refine ea_iconst (pc := 15) dX12_sums_15 (v := 0) rfl ?_
  refine ea_istore_n (pc := 16) (lv' := [(0, vR r0), (1, vI 0)]) dX12_sums_16 rfl (Nat.le_of_ble_eq_true rfl) [1, 0] rfl ?_
  refine ea_iconst (pc := 17) dX12_sums_17 (v := 0) rfl ?_
  refine ea_istore_n (pc := 18) (lv' := [(0, vR r0), (1, vI 0), (2, vI 0)]) dX12_sums_18 rfl (Nat.le_of_ble_eq_true rfl) [1, 2, 0] rfl ?_
  exact H
theorem bX12_sums_19 {d : Nat} {h0 hE h : ea_H} {rv : Option ea_V} {r0 : Option Nat} {x1 : Int32} {x2 : Int32} (H : ∃ a3, r0 = some a3 ∧ a3 < ea_n h ∧ ea_c h a3 = 12 ∧ ((ea_i h a3 63) ≤ x2 → a3 < ea_n h ∧ ea_c h a3 = 12 ∧ ∃ (d5 : Nat) (h6 : ea_H), ea_Met mX12_putsBack d5 [vR (some a3)] h none h6 ∧ d5 + 1 ≤ d ∧ rv = some (vI x1) ∧ hE = h6) ∧ (¬ (ea_i h a3 63) ≤ x2 → a3 < ea_n h ∧ ea_c h a3 = 12 ∧ ∃ a15, (ea_r h a3 81) = some a15 ∧ a15 < ea_n h ∧ ea_c h a15 = 20 ∧ vp_in x2 (ea_l h a15) ∧ (¬ (ea_i h a15 (Int32.toNatClampNeg x2)) = (2 : Int32) → a3 < ea_n h ∧ ea_c h a3 = 12 ∧ a15 < ea_n h ∧ ea_c h a15 = 20 ∧ vp_in x2 (ea_l h a15) ∧ ((2 : Int32) ≤ (ea_i h a15 (Int32.toNatClampNeg x2)) → ea_W mX12_sums d h0 rv hE 19 [(0, vR r0), (1, vI (x1 + (0 : Int32))), (2, vI (x2 + 1))] [] h) ∧ (¬ (2 : Int32) ≤ (ea_i h a15 (Int32.toNatClampNeg x2)) → ea_W mX12_sums d h0 rv hE 19 [(0, vR r0), (1, vI (x1 + (10080 : Int32))), (2, vI (x2 + 1))] [] h)) ∧ ((ea_i h a15 (Int32.toNatClampNeg x2)) = (2 : Int32) → a3 < ea_n h ∧ ea_c h a3 = 12 ∧ ∃ a28, (ea_r h a3 85) = some a28 ∧ a28 < ea_n h ∧ ea_c h a28 = 20 ∧ vp_in x2 (ea_l h a28) ∧ ea_W mX12_sums d h0 rv hE 19 [(0, vR r0), (1, vI (x1 + (ea_i h a28 (Int32.toNatClampNeg x2)))), (2, vI (x2 + 1))] [] h))) : ea_W mX12_sums d h0 rv hE 19 [(0, vR r0), (1, vI x1), (2, vI x2)] [] h := by
  refine ea_iload_n (pc := 19) dX12_sums_19 rfl 2 rfl ?_
  refine ea_aload_n (pc := 20) dX12_sums_20 rfl 0 rfl ?_
  obtain ⟨a3, e4, f1, g2, H⟩ := H
  refine ea_deref0 e4 ?_
  refine ea_getI (pc := 21) dX12_sums_21 ec_12 (k := 63) (Nat.le_of_ble_eq_true rfl) rfl (Or.inl ew_1408) f1 g2 ?_
  refine ea_icmp_ge (pc := 24) (tgt := 72) dX12_sums_24 rfl (fun c32 => ?_) (fun c32 => ?_)
  · have H := H.1 c32
    refine ea_aload_n (pc := 72) dX12_sums_72 rfl 0 rfl ?_
    obtain ⟨f9, g10, H⟩ := H
    refine ea_deref0 e4 ?_
    obtain ⟨d5, h6, m7, q8, H⟩ := H
    refine ea_callV (pc := 73) (As := []) (st := []) dX12_sums_73 kX12_putsBack m7 q8 rfl (Nat.le_of_ble_eq_true rfl) ew_2183 ew_2185 ew_106 (ci := 12) rfl (by decide) f9 g10 ?_
    refine ea_iload_n (pc := 76) dX12_sums_76 rfl 1 rfl ?_
    obtain ⟨rfl, rfl⟩ := H
    exact ea_ireturn (pc := 77) dX12_sums_77 rfl rfl
  · have H := H.2 c32
    refine ea_iload_n (pc := 27) dX12_sums_27 rfl 1 rfl ?_
    refine ea_aload_n (pc := 28) dX12_sums_28 rfl 0 rfl ?_
    obtain ⟨f11, g12, H⟩ := H
    refine ea_deref0 e4 ?_
    refine ea_getR (pc := 29) dX12_sums_29 ec_12 (k := 81) (Nat.le_of_ble_eq_true rfl) rfl (Or.inl ew_1426) f11 g12 rfl ?_
    refine ea_iload_n (pc := 32) dX12_sums_32 rfl 2 rfl ?_
    obtain ⟨a15, e16, f13, g14, H⟩ := H
    refine ea_deref1 e16 ?_
    obtain ⟨z17, H⟩ := H
    refine ea_iald (pc := 33) dX12_sums_33 f13 g14 z17 ?_
    refine ea_iconst (pc := 34) dX12_sums_34 (v := 2) rfl ?_
    refine ea_icmp_ne (pc := 35) (tgt := 47) dX12_sums_35 rfl (fun c31 => ?_) (fun c31 => ?_)
    · have H := H.1 c31
      refine ea_aload_n (pc := 47) dX12_sums_47 rfl 0 rfl ?_
      obtain ⟨f18, g19, H⟩ := H
      refine ea_deref0 e4 ?_
      refine ea_getR (pc := 48) dX12_sums_48 ec_12 (k := 81) (Nat.le_of_ble_eq_true rfl) rfl (Or.inl ew_1426) f18 g19 rfl ?_
      refine ea_iload_n (pc := 51) dX12_sums_51 rfl 2 rfl ?_
      obtain ⟨f20, g21, H⟩ := H
      refine ea_deref1 e16 ?_
      obtain ⟨z22, H⟩ := H
      refine ea_iald (pc := 52) dX12_sums_52 f20 g21 z22 ?_
      refine ea_iconst (pc := 53) dX12_sums_53 (v := 2) rfl ?_
      refine ea_icmp_ge (pc := 54) (tgt := 63) dX12_sums_54 rfl (fun c23 => ?_) (fun c23 => ?_)
      · have H := H.1 c23
        refine ea_iconst (pc := 63) dX12_sums_63 (v := 0) rfl ?_
        refine ea_iadd (pc := 64) dX12_sums_64 ?_
        refine ea_istore_n (pc := 65) (lv' := [(0, vR r0), (1, vI (x1 + (0 : Int32))), (2, vI x2)]) dX12_sums_65 rfl (Nat.le_of_ble_eq_true rfl) [1, 0, 2] rfl ?_
        refine ea_iinc (pc := 66) (v := 1) (lv' := [(0, vR r0), (1, vI (x1 + (0 : Int32))), (2, vI (x2 + 1))]) dX12_sums_66 2 rfl rfl (Nat.le_of_ble_eq_true rfl) [1, 2, 0] rfl ?_
        refine ea_goto (pc := 69) (tgt := 19) dX12_sums_69 rfl ?_
        exact H
      · have H := H.2 c23
        refine ea_sipush (pc := 57) dX12_sums_57 (v := 10080) rfl ?_
        refine ea_goto (pc := 60) (tgt := 64) dX12_sums_60 rfl ?_
        refine ea_iadd (pc := 64) dX12_sums_64 ?_
        refine ea_istore_n (pc := 65) (lv' := [(0, vR r0), (1, vI (x1 + (10080 : Int32))), (2, vI x2)]) dX12_sums_65 rfl (Nat.le_of_ble_eq_true rfl) [1, 0, 2] rfl ?_
        refine ea_iinc (pc := 66) (v := 1) (lv' := [(0, vR r0), (1, vI (x1 + (10080 : Int32))), (2, vI (x2 + 1))]) dX12_sums_66 2 rfl rfl (Nat.le_of_ble_eq_true rfl) [1, 2, 0] rfl ?_
        refine ea_goto (pc := 69) (tgt := 19) dX12_sums_69 rfl ?_
        exact H
    · have H := H.2 c31
      refine ea_aload_n (pc := 38) dX12_sums_38 rfl 0 rfl ?_
      obtain ⟨f24, g25, H⟩ := H
      refine ea_deref0 e4 ?_
      refine ea_getR (pc := 39) dX12_sums_39 ec_12 (k := 85) (Nat.le_of_ble_eq_true rfl) rfl (Or.inl ew_1430) f24 g25 rfl ?_
      refine ea_iload_n (pc := 42) dX12_sums_42 rfl 2 rfl ?_
      obtain ⟨a28, e29, f26, g27, H⟩ := H
      refine ea_deref1 e29 ?_
      obtain ⟨z30, H⟩ := H
      refine ea_iald (pc := 43) dX12_sums_43 f26 g27 z30 ?_
      refine ea_goto (pc := 44) (tgt := 64) dX12_sums_44 rfl ?_
      refine ea_iadd (pc := 64) dX12_sums_64 ?_
      refine ea_istore_n (pc := 65) (lv' := [(0, vR r0), (1, vI (x1 + (ea_i h a28 (Int32.toNatClampNeg x2)))), (2, vI x2)]) dX12_sums_65 rfl (Nat.le_of_ble_eq_true rfl) [1, 0, 2] rfl ?_
      refine ea_iinc (pc := 66) (v := 1) (lv' := [(0, vR r0), (1, vI (x1 + (ea_i h a28 (Int32.toNatClampNeg x2)))), (2, vI (x2 + 1))]) dX12_sums_66 2 rfl rfl (Nat.le_of_ble_eq_true rfl) [1, 2, 0] rfl ?_
      refine ea_goto (pc := 69) (tgt := 19) dX12_sums_69 rfl ?_
      exact H
theorem dX12_whatIf_0 : decode cX12_whatIf 0 = .ok (.iload_n 1, 1) := by decide +kernel
theorem dX12_whatIf_1 : decode cX12_whatIf 1 = .ok (.iconst (-1), 1) := by decide +kernel
theorem dX12_whatIf_2 : decode cX12_whatIf 2 = .ok (.if_icmp .ne 8, 3) := by decide +kernel
theorem dX12_whatIf_5 : decode cX12_whatIf 5 = .ok (.aload_n 0, 1) := by decide +kernel
theorem dX12_whatIf_6 : decode cX12_whatIf 6 = .ok (.invokevirtual 634, 3) := by decide +kernel
theorem dX12_whatIf_9 : decode cX12_whatIf 9 = .ok (.ireturn, 1) := by decide +kernel
theorem dX12_whatIf_10 : decode cX12_whatIf 10 = .ok (.aload_n 0, 1) := by decide +kernel
theorem dX12_whatIf_11 : decode cX12_whatIf 11 = .ok (.iload_n 1, 1) := by decide +kernel
theorem dX12_whatIf_12 : decode cX12_whatIf 12 = .ok (.iload_n 2, 1) := by decide +kernel
theorem dX12_whatIf_13 : decode cX12_whatIf 13 = .ok (.iload_n 3, 1) := by decide +kernel
theorem dX12_whatIf_14 : decode cX12_whatIf 14 = .ok (.invokevirtual 319, 3) := by decide +kernel
theorem dX12_whatIf_17 : decode cX12_whatIf 17 = .ok (.ifCond .ne 5, 3) := by decide +kernel
theorem dX12_whatIf_20 : decode cX12_whatIf 20 = .ok (.iconst (-1), 1) := by decide +kernel
theorem dX12_whatIf_21 : decode cX12_whatIf 21 = .ok (.ireturn, 1) := by decide +kernel
theorem dX12_whatIf_22 : decode cX12_whatIf 22 = .ok (.aload_n 0, 1) := by decide +kernel
theorem dX12_whatIf_23 : decode cX12_whatIf 23 = .ok (.getfield 25, 3) := by decide +kernel
theorem dX12_whatIf_26 : decode cX12_whatIf 26 = .ok (.iload_n 1, 1) := by decide +kernel
theorem dX12_whatIf_27 : decode cX12_whatIf 27 = .ok (.iload_n 2, 1) := by decide +kernel
theorem dX12_whatIf_28 : decode cX12_whatIf 28 = .ok (.invokestatic 322, 3) := by decide +kernel
theorem dX12_whatIf_31 : decode cX12_whatIf 31 = .ok (.iaload, 1) := by decide +kernel
theorem dX12_whatIf_32 : decode cX12_whatIf 32 = .ok (.istore 4, 2) := by decide +kernel
theorem dX12_whatIf_34 : decode cX12_whatIf 34 = .ok (.aload_n 0, 1) := by decide +kernel
theorem dX12_whatIf_35 : decode cX12_whatIf 35 = .ok (.getfield 25, 3) := by decide +kernel
theorem dX12_whatIf_38 : decode cX12_whatIf 38 = .ok (.iload_n 1, 1) := by decide +kernel
theorem dX12_whatIf_39 : decode cX12_whatIf 39 = .ok (.iload_n 2, 1) := by decide +kernel
theorem dX12_whatIf_40 : decode cX12_whatIf 40 = .ok (.invokestatic 322, 3) := by decide +kernel
theorem dX12_whatIf_43 : decode cX12_whatIf 43 = .ok (.iload_n 3, 1) := by decide +kernel
theorem dX12_whatIf_44 : decode cX12_whatIf 44 = .ok (.iastore, 1) := by decide +kernel
theorem dX12_whatIf_45 : decode cX12_whatIf 45 = .ok (.aload_n 0, 1) := by decide +kernel
theorem dX12_whatIf_46 : decode cX12_whatIf 46 = .ok (.iconst 0, 1) := by decide +kernel
theorem dX12_whatIf_47 : decode cX12_whatIf 47 = .ok (.putfield 293, 3) := by decide +kernel
theorem dX12_whatIf_50 : decode cX12_whatIf 50 = .ok (.aload_n 0, 1) := by decide +kernel
theorem dX12_whatIf_51 : decode cX12_whatIf 51 = .ok (.invokevirtual 634, 3) := by decide +kernel
theorem dX12_whatIf_54 : decode cX12_whatIf 54 = .ok (.istore 5, 2) := by decide +kernel
theorem dX12_whatIf_56 : decode cX12_whatIf 56 = .ok (.aload_n 0, 1) := by decide +kernel
theorem dX12_whatIf_57 : decode cX12_whatIf 57 = .ok (.getfield 25, 3) := by decide +kernel
theorem dX12_whatIf_60 : decode cX12_whatIf 60 = .ok (.iload_n 1, 1) := by decide +kernel
theorem dX12_whatIf_61 : decode cX12_whatIf 61 = .ok (.iload_n 2, 1) := by decide +kernel
theorem dX12_whatIf_62 : decode cX12_whatIf 62 = .ok (.invokestatic 322, 3) := by decide +kernel
theorem dX12_whatIf_65 : decode cX12_whatIf 65 = .ok (.iload 4, 2) := by decide +kernel
theorem dX12_whatIf_67 : decode cX12_whatIf 67 = .ok (.iastore, 1) := by decide +kernel
theorem dX12_whatIf_68 : decode cX12_whatIf 68 = .ok (.aload_n 0, 1) := by decide +kernel
theorem dX12_whatIf_69 : decode cX12_whatIf 69 = .ok (.iconst 0, 1) := by decide +kernel
theorem dX12_whatIf_70 : decode cX12_whatIf 70 = .ok (.putfield 293, 3) := by decide +kernel
theorem dX12_whatIf_73 : decode cX12_whatIf 73 = .ok (.iload 5, 2) := by decide +kernel
theorem dX12_whatIf_75 : decode cX12_whatIf 75 = .ok (.ireturn, 1) := by decide +kernel
theorem bX12_whatIf_0 {d : Nat} {h0 hE h : ea_H} {rv : Option ea_V} {r0 : Option Nat} {x1 : Int32} {x2 : Int32} {x3 : Int32} (H : (¬ x1 = ((-1) : Int32) → ∃ a7, r0 = some a7 ∧ a7 < ea_n h ∧ ea_c h a7 = 12 ∧ ∃ (d1 : Nat) (xc9 : Int32) (h2 : ea_H), ea_Met mX12_canBeLate d1 [vR (some a7), vI x1, vI x2, vI x3] h (some (vI xc9)) h2 ∧ d1 + 1 ≤ d ∧ (¬ xc9 = (0 : Int32) → a7 < ea_n h2 ∧ ea_c h2 a7 = 12 ∧ ∃ (d12 : Nat) (xc16 : Int32) (h13 : ea_H), ea_Met mX12_run d12 [vI x1, vI x2] h2 (some (vI xc16)) h13 ∧ d12 + 1 ≤ d ∧ ∃ a19, (ea_r h2 a7 8) = some a19 ∧ a19 < ea_n h13 ∧ ea_c h13 a19 = 20 ∧ vp_in xc16 (ea_l h13 a19) ∧ a7 < ea_n h13 ∧ ea_c h13 a7 = 12 ∧ ∃ (d24 : Nat) (xc28 : Int32) (h25 : ea_H), ea_Met mX12_run d24 [vI x1, vI x2] h13 (some (vI xc28)) h25 ∧ d24 + 1 ≤ d ∧ ∃ a31, (ea_r h13 a7 8) = some a31 ∧ a31 < ea_n h25 ∧ ea_c h25 a31 = 20 ∧ vp_in xc28 (ea_l h25 a31) ∧ ∀ h34, h34 = ea_wi h25 a31 (Int32.toNatClampNeg xc28) x3 → a7 < ea_n h34 ∧ ea_c h34 a7 = 12 ∧ ∀ h38, h38 = ea_wi h34 a7 12 0 → a7 < ea_n h38 ∧ ea_c h38 a7 = 12 ∧ ∃ (d40 : Nat) (xc46 : Int32) (h41 : ea_H), ea_Met mX12_sums d40 [vR (some a7)] h38 (some (vI xc46)) h41 ∧ d40 + 1 ≤ d ∧ a7 < ea_n h41 ∧ ea_c h41 a7 = 12 ∧ ∃ (d49 : Nat) (xc53 : Int32) (h50 : ea_H), ea_Met mX12_run d49 [vI x1, vI x2] h41 (some (vI xc53)) h50 ∧ d49 + 1 ≤ d ∧ ∃ a56, (ea_r h41 a7 8) = some a56 ∧ a56 < ea_n h50 ∧ ea_c h50 a56 = 20 ∧ vp_in xc53 (ea_l h50 a56) ∧ ∀ h59, h59 = ea_wi h50 a56 (Int32.toNatClampNeg xc53) (ea_i h13 a19 (Int32.toNatClampNeg xc16)) → a7 < ea_n h59 ∧ ea_c h59 a7 = 12 ∧ ∀ h63, h63 = ea_wi h59 a7 12 0 → rv = some (vI xc46) ∧ hE = h63) ∧ (xc9 = (0 : Int32) → rv = some (vI (-1)) ∧ hE = h2)) ∧ (x1 = ((-1) : Int32) → ∃ a72, r0 = some a72 ∧ a72 < ea_n h ∧ ea_c h a72 = 12 ∧ ∃ (d66 : Nat) (xc74 : Int32) (h67 : ea_H), ea_Met mX12_sums d66 [vR (some a72)] h (some (vI xc74)) h67 ∧ d66 + 1 ≤ d ∧ rv = some (vI xc74) ∧ hE = h67)) : ea_W mX12_whatIf d h0 rv hE 0 [(0, vR r0), (1, vI x1), (2, vI x2), (3, vI x3)] [] h := by
  refine ea_iload_n (pc := 0) dX12_whatIf_0 rfl 1 rfl ?_
  refine ea_iconst (pc := 1) dX12_whatIf_1 (v := (-1)) rfl ?_
  refine ea_icmp_ne (pc := 2) (tgt := 10) dX12_whatIf_2 rfl (fun c75 => ?_) (fun c75 => ?_)
  · have H := H.1 c75
    refine ea_aload_n (pc := 10) dX12_whatIf_10 rfl 0 rfl ?_
    refine ea_iload_n (pc := 11) dX12_whatIf_11 rfl 1 rfl ?_
    refine ea_iload_n (pc := 12) dX12_whatIf_12 rfl 2 rfl ?_
    refine ea_iload_n (pc := 13) dX12_whatIf_13 rfl 3 rfl ?_
    obtain ⟨a7, e8, f5, g6, H⟩ := H
    refine ea_deref3 e8 ?_
    obtain ⟨d1, xc9, h2, m3, q4, H⟩ := H
    refine ea_callV (pc := 14) (As := [vI x1, vI x2, vI x3]) (st := []) dX12_whatIf_14 kX12_canBeLate m3 q4 rfl (Nat.le_of_ble_eq_true rfl) ew_1748 ew_1750 ew_51 (ci := 12) rfl (by decide) f5 g6 ?_
    refine ea_if_ne (pc := 17) (tgt := 22) dX12_whatIf_17 rfl (fun c65 => ?_) (fun c65 => ?_)
    · have H := H.1 c65
      refine ea_aload_n (pc := 22) dX12_whatIf_22 rfl 0 rfl ?_
      obtain ⟨f10, g11, H⟩ := H
      refine ea_deref0 e8 ?_
      refine ea_getR (pc := 23) dX12_whatIf_23 ec_12 (k := 8) (Nat.le_of_ble_eq_true rfl) rfl (Or.inl ew_1353) f10 g11 rfl ?_
      refine ea_iload_n (pc := 26) dX12_whatIf_26 rfl 1 rfl ?_
      refine ea_iload_n (pc := 27) dX12_whatIf_27 rfl 2 rfl ?_
      obtain ⟨d12, xc16, h13, m14, q15, H⟩ := H
      refine ea_callS (pc := 28) (As := [vI x1, vI x2]) (st := [vR (ea_r h2 a7 8)]) dX12_whatIf_28 kX12_run m14 q15 rfl (Nat.le_of_ble_eq_true rfl) ew_1755 ew_1756 ?_
      obtain ⟨a19, e20, f17, g18, H⟩ := H
      refine ea_deref1 e20 ?_
      obtain ⟨z21, H⟩ := H
      refine ea_iald (pc := 31) dX12_whatIf_31 f17 g18 z21 ?_
      refine ea_istore (pc := 32) (lv' := [(0, vR r0), (1, vI x1), (2, vI x2), (3, vI x3), (4, vI (ea_i h13 a19 (Int32.toNatClampNeg xc16)))]) dX12_whatIf_32 (Nat.le_of_ble_eq_true rfl) [1, 2, 3, 4, 0] rfl ?_
      refine ea_aload_n (pc := 34) dX12_whatIf_34 rfl 0 rfl ?_
      obtain ⟨f22, g23, H⟩ := H
      refine ea_deref0 e8 ?_
      refine ea_getR (pc := 35) dX12_whatIf_35 ec_12 (k := 8) (Nat.le_of_ble_eq_true rfl) rfl (Or.inl ew_1353) f22 g23 rfl ?_
      refine ea_iload_n (pc := 38) dX12_whatIf_38 rfl 1 rfl ?_
      refine ea_iload_n (pc := 39) dX12_whatIf_39 rfl 2 rfl ?_
      obtain ⟨d24, xc28, h25, m26, q27, H⟩ := H
      refine ea_callS (pc := 40) (As := [vI x1, vI x2]) (st := [vR (ea_r h13 a7 8)]) dX12_whatIf_40 kX12_run m26 q27 rfl (Nat.le_of_ble_eq_true rfl) ew_1755 ew_1756 ?_
      refine ea_iload_n (pc := 43) dX12_whatIf_43 rfl 3 rfl ?_
      obtain ⟨a31, e32, f29, g30, H⟩ := H
      refine ea_deref2 e32 ?_
      obtain ⟨z33, H⟩ := H
      refine ea_iast (pc := 44) dX12_whatIf_44 f29 g30 z33 ?_
      obtain ⟨h34, E35⟩ : ∃ z, z = ea_wi h25 a31 (Int32.toNatClampNeg xc28) x3 := ⟨_, rfl⟩
      have H := H h34 E35
      refine ea_nm E35 ?_
      refine ea_aload_n (pc := 45) dX12_whatIf_45 rfl 0 rfl ?_
      refine ea_iconst (pc := 46) dX12_whatIf_46 (v := 0) rfl ?_
      obtain ⟨f36, g37, H⟩ := H
      refine ea_deref1 e8 ?_
      refine ea_putI (pc := 47) dX12_whatIf_47 ec_12 (k := 12) (Nat.le_of_ble_eq_true rfl) rfl (Or.inl ⟨rfl, Or.inl ew_1357⟩) (ea_bn (Or.inl rfl)) (ea_bf (Or.inl rfl)) f36 g37 ?_
      obtain ⟨h38, E39⟩ : ∃ z, z = ea_wi h34 a7 12 0 := ⟨_, rfl⟩
      have H := H h38 E39
      refine ea_nm E39 ?_
      refine ea_aload_n (pc := 50) dX12_whatIf_50 rfl 0 rfl ?_
      obtain ⟨f44, g45, H⟩ := H
      refine ea_deref0 e8 ?_
      obtain ⟨d40, xc46, h41, m42, q43, H⟩ := H
      refine ea_callV (pc := 51) (As := []) (st := []) dX12_whatIf_51 kX12_sums m42 q43 rfl (Nat.le_of_ble_eq_true rfl) ew_2175 ew_2177 ew_104 (ci := 12) rfl (by decide) f44 g45 ?_
      refine ea_istore (pc := 54) (lv' := [(0, vR r0), (1, vI x1), (2, vI x2), (4, vI (ea_i h13 a19 (Int32.toNatClampNeg xc16))), (5, vI xc46)]) dX12_whatIf_54 (Nat.le_of_ble_eq_true rfl) [1, 2, 3, 5, 0] rfl ?_
      refine ea_aload_n (pc := 56) dX12_whatIf_56 rfl 0 rfl ?_
      obtain ⟨f47, g48, H⟩ := H
      refine ea_deref0 e8 ?_
      refine ea_getR (pc := 57) dX12_whatIf_57 ec_12 (k := 8) (Nat.le_of_ble_eq_true rfl) rfl (Or.inl ew_1353) f47 g48 rfl ?_
      refine ea_iload_n (pc := 60) dX12_whatIf_60 rfl 1 rfl ?_
      refine ea_iload_n (pc := 61) dX12_whatIf_61 rfl 2 rfl ?_
      obtain ⟨d49, xc53, h50, m51, q52, H⟩ := H
      refine ea_callS (pc := 62) (As := [vI x1, vI x2]) (st := [vR (ea_r h41 a7 8)]) dX12_whatIf_62 kX12_run m51 q52 rfl (Nat.le_of_ble_eq_true rfl) ew_1755 ew_1756 ?_
      refine ea_iload (pc := 65) dX12_whatIf_65 3 rfl ?_
      obtain ⟨a56, e57, f54, g55, H⟩ := H
      refine ea_deref2 e57 ?_
      obtain ⟨z58, H⟩ := H
      refine ea_iast (pc := 67) dX12_whatIf_67 f54 g55 z58 ?_
      obtain ⟨h59, E60⟩ : ∃ z, z = ea_wi h50 a56 (Int32.toNatClampNeg xc53) (ea_i h13 a19 (Int32.toNatClampNeg xc16)) := ⟨_, rfl⟩
      have H := H h59 E60
      refine ea_nm E60 ?_
      refine ea_aload_n (pc := 68) dX12_whatIf_68 rfl 0 rfl ?_
      refine ea_iconst (pc := 69) dX12_whatIf_69 (v := 0) rfl ?_
      obtain ⟨f61, g62, H⟩ := H
      refine ea_deref1 e8 ?_
      refine ea_putI (pc := 70) dX12_whatIf_70 ec_12 (k := 12) (Nat.le_of_ble_eq_true rfl) rfl (Or.inl ⟨rfl, Or.inl ew_1357⟩) (ea_bn (Or.inl rfl)) (ea_bf (Or.inl rfl)) f61 g62 ?_
      obtain ⟨h63, E64⟩ : ∃ z, z = ea_wi h59 a7 12 0 := ⟨_, rfl⟩
      have H := H h63 E64
      refine ea_nm E64 ?_
      refine ea_iload (pc := 73) dX12_whatIf_73 4 rfl ?_
      obtain ⟨rfl, rfl⟩ := H
      exact ea_ireturn (pc := 75) dX12_whatIf_75 rfl rfl
    · have H := H.2 c65
      refine ea_iconst (pc := 20) dX12_whatIf_20 (v := (-1)) rfl ?_
      obtain ⟨rfl, rfl⟩ := H
      exact ea_ireturn (pc := 21) dX12_whatIf_21 rfl rfl
  · have H := H.2 c75
    refine ea_aload_n (pc := 5) dX12_whatIf_5 rfl 0 rfl ?_
    obtain ⟨a72, e73, f70, g71, H⟩ := H
    refine ea_deref0 e73 ?_
    obtain ⟨d66, xc74, h67, m68, q69, H⟩ := H
    refine ea_callV (pc := 6) (As := []) (st := []) dX12_whatIf_6 kX12_sums m68 q69 rfl (Nat.le_of_ble_eq_true rfl) ew_2175 ew_2177 ew_104 (ci := 12) rfl (by decide) f70 g71 ?_
    obtain ⟨rfl, rfl⟩ := H
    exact ea_ireturn (pc := 9) dX12_whatIf_9 rfl rfl
theorem dX12_seats_0 : decode cX12_seats 0 = .ok (.aload_n 0, 1) := by decide +kernel
theorem dX12_seats_1 : decode cX12_seats 1 = .ok (.getfield 290, 3) := by decide +kernel
theorem dX12_seats_4 : decode cX12_seats 4 = .ok (.ifCond .eq 38, 3) := by decide +kernel
theorem dX12_seats_7 : decode cX12_seats 7 = .ok (.aload_n 0, 1) := by decide +kernel
theorem dX12_seats_8 : decode cX12_seats 8 = .ok (.getfield 569, 3) := by decide +kernel
theorem dX12_seats_11 : decode cX12_seats 11 = .ok (.ifCond .eq 31, 3) := by decide +kernel
theorem dX12_seats_14 : decode cX12_seats 14 = .ok (.iload_n 1, 1) := by decide +kernel
theorem dX12_seats_15 : decode cX12_seats 15 = .ok (.ifCond .eq 29, 3) := by decide +kernel
theorem dX12_seats_18 : decode cX12_seats 18 = .ok (.iload_n 1, 1) := by decide +kernel
theorem dX12_seats_19 : decode cX12_seats 19 = .ok (.bipush 10, 2) := by decide +kernel
theorem dX12_seats_21 : decode cX12_seats 21 = .ok (.aload_n 0, 1) := by decide +kernel
theorem dX12_seats_22 : decode cX12_seats 22 = .ok (.getfield 569, 3) := by decide +kernel
theorem dX12_seats_25 : decode cX12_seats 25 = .ok (.iconst 1, 1) := by decide +kernel
theorem dX12_seats_26 : decode cX12_seats 26 = .ok (.if_icmp .le 8, 3) := by decide +kernel
theorem dX12_seats_29 : decode cX12_seats 29 = .ok (.bipush 11, 2) := by decide +kernel
theorem dX12_seats_31 : decode cX12_seats 31 = .ok (.goto 5, 3) := by decide +kernel
theorem dX12_seats_34 : decode cX12_seats 34 = .ok (.bipush 10, 2) := by decide +kernel
theorem dX12_seats_36 : decode cX12_seats 36 = .ok (.invokestatic 286, 3) := by decide +kernel
theorem dX12_seats_39 : decode cX12_seats 39 = .ok (.ifCond .ne 5, 3) := by decide +kernel
theorem dX12_seats_42 : decode cX12_seats 42 = .ok (.iconst (-1), 1) := by decide +kernel
theorem dX12_seats_43 : decode cX12_seats 43 = .ok (.ireturn, 1) := by decide +kernel
theorem dX12_seats_44 : decode cX12_seats 44 = .ok (.aload_n 0, 1) := by decide +kernel
theorem dX12_seats_45 : decode cX12_seats 45 = .ok (.getfield 217, 3) := by decide +kernel
theorem dX12_seats_48 : decode cX12_seats 48 = .ok (.iconst 0, 1) := by decide +kernel
theorem dX12_seats_49 : decode cX12_seats 49 = .ok (.iaload, 1) := by decide +kernel
theorem dX12_seats_50 : decode cX12_seats 50 = .ok (.istore_n 2, 1) := by decide +kernel
theorem dX12_seats_51 : decode cX12_seats 51 = .ok (.aload_n 0, 1) := by decide +kernel
theorem dX12_seats_52 : decode cX12_seats 52 = .ok (.getfield 217, 3) := by decide +kernel
theorem dX12_seats_55 : decode cX12_seats 55 = .ok (.iconst 1, 1) := by decide +kernel
theorem dX12_seats_56 : decode cX12_seats 56 = .ok (.iaload, 1) := by decide +kernel
theorem dX12_seats_57 : decode cX12_seats 57 = .ok (.istore_n 3, 1) := by decide +kernel
theorem dX12_seats_58 : decode cX12_seats 58 = .ok (.iconst (-1), 1) := by decide +kernel
theorem dX12_seats_59 : decode cX12_seats 59 = .ok (.istore 4, 2) := by decide +kernel
theorem dX12_seats_61 : decode cX12_seats 61 = .ok (.iconst 0, 1) := by decide +kernel
theorem dX12_seats_62 : decode cX12_seats 62 = .ok (.istore 5, 2) := by decide +kernel
theorem dX12_seats_64 : decode cX12_seats 64 = .ok (.iconst 0, 1) := by decide +kernel
theorem dX12_seats_65 : decode cX12_seats 65 = .ok (.istore 6, 2) := by decide +kernel
theorem dX12_seats_67 : decode cX12_seats 67 = .ok (.iconst 0, 1) := by decide +kernel
theorem dX12_seats_68 : decode cX12_seats 68 = .ok (.istore 7, 2) := by decide +kernel
theorem dX12_seats_70 : decode cX12_seats 70 = .ok (.iload 7, 2) := by decide +kernel
theorem dX12_seats_72 : decode cX12_seats 72 = .ok (.aload_n 0, 1) := by decide +kernel
theorem dX12_seats_73 : decode cX12_seats 73 = .ok (.getfield 290, 3) := by decide +kernel
theorem dX12_seats_76 : decode cX12_seats 76 = .ok (.if_icmp .ge 97, 3) := by decide +kernel
theorem dX12_seats_79 : decode cX12_seats 79 = .ok (.iconst 0, 1) := by decide +kernel
theorem dX12_seats_80 : decode cX12_seats 80 = .ok (.istore 8, 2) := by decide +kernel
theorem dX12_seats_82 : decode cX12_seats 82 = .ok (.iload 8, 2) := by decide +kernel
theorem dX12_seats_84 : decode cX12_seats 84 = .ok (.aload_n 0, 1) := by decide +kernel
theorem dX12_seats_85 : decode cX12_seats 85 = .ok (.getfield 569, 3) := by decide +kernel
theorem dX12_seats_88 : decode cX12_seats 88 = .ok (.iconst 1, 1) := by decide +kernel
theorem dX12_seats_89 : decode cX12_seats 89 = .ok (.if_icmp .le 10, 3) := by decide +kernel
theorem dX12_seats_92 : decode cX12_seats 92 = .ok (.aload_n 0, 1) := by decide +kernel
theorem dX12_seats_93 : decode cX12_seats 93 = .ok (.getfield 290, 3) := by decide +kernel
theorem dX12_seats_96 : decode cX12_seats 96 = .ok (.goto 4, 3) := by decide +kernel
theorem dX12_seats_99 : decode cX12_seats 99 = .ok (.iconst 1, 1) := by decide +kernel
theorem dX12_seats_100 : decode cX12_seats 100 = .ok (.if_icmp .ge 67, 3) := by decide +kernel
theorem dX12_seats_103 : decode cX12_seats 103 = .ok (.aload_n 0, 1) := by decide +kernel
theorem dX12_seats_104 : decode cX12_seats 104 = .ok (.getfield 217, 3) := by decide +kernel
theorem dX12_seats_107 : decode cX12_seats 107 = .ok (.iconst 0, 1) := by decide +kernel
theorem dX12_seats_108 : decode cX12_seats 108 = .ok (.iload 7, 2) := by decide +kernel
theorem dX12_seats_110 : decode cX12_seats 110 = .ok (.iastore, 1) := by decide +kernel
theorem dX12_seats_111 : decode cX12_seats 111 = .ok (.aload_n 0, 1) := by decide +kernel
theorem dX12_seats_112 : decode cX12_seats 112 = .ok (.getfield 569, 3) := by decide +kernel
theorem dX12_seats_115 : decode cX12_seats 115 = .ok (.iconst 1, 1) := by decide +kernel
theorem dX12_seats_116 : decode cX12_seats 116 = .ok (.if_icmp .le 11, 3) := by decide +kernel
theorem dX12_seats_119 : decode cX12_seats 119 = .ok (.aload_n 0, 1) := by decide +kernel
theorem dX12_seats_120 : decode cX12_seats 120 = .ok (.getfield 217, 3) := by decide +kernel
theorem dX12_seats_123 : decode cX12_seats 123 = .ok (.iconst 1, 1) := by decide +kernel
theorem dX12_seats_124 : decode cX12_seats 124 = .ok (.iload 8, 2) := by decide +kernel
theorem dX12_seats_126 : decode cX12_seats 126 = .ok (.iastore, 1) := by decide +kernel
theorem dX12_seats_127 : decode cX12_seats 127 = .ok (.aload_n 0, 1) := by decide +kernel
theorem dX12_seats_128 : decode cX12_seats 128 = .ok (.invokevirtual 634, 3) := by decide +kernel
theorem dX12_seats_131 : decode cX12_seats 131 = .ok (.istore 9, 2) := by decide +kernel
theorem dX12_seats_133 : decode cX12_seats 133 = .ok (.iload 4, 2) := by decide +kernel
theorem dX12_seats_135 : decode cX12_seats 135 = .ok (.iconst (-1), 1) := by decide +kernel
theorem dX12_seats_136 : decode cX12_seats 136 = .ok (.if_icmp .eq 13, 3) := by decide +kernel
theorem dX12_seats_139 : decode cX12_seats 139 = .ok (.iload 9, 2) := by decide +kernel
theorem dX12_seats_141 : decode cX12_seats 141 = .ok (.iload 4, 2) := by decide +kernel
theorem dX12_seats_143 : decode cX12_seats 143 = .ok (.if_icmp .lt 6, 3) := by decide +kernel
theorem dX12_seats_146 : decode cX12_seats 146 = .ok (.goto 15, 3) := by decide +kernel
theorem dX12_seats_149 : decode cX12_seats 149 = .ok (.iload 9, 2) := by decide +kernel
theorem dX12_seats_151 : decode cX12_seats 151 = .ok (.istore 4, 2) := by decide +kernel
theorem dX12_seats_153 : decode cX12_seats 153 = .ok (.iload 7, 2) := by decide +kernel
theorem dX12_seats_155 : decode cX12_seats 155 = .ok (.istore 5, 2) := by decide +kernel
theorem dX12_seats_157 : decode cX12_seats 157 = .ok (.iload 8, 2) := by decide +kernel
theorem dX12_seats_159 : decode cX12_seats 159 = .ok (.istore 6, 2) := by decide +kernel
theorem dX12_seats_161 : decode cX12_seats 161 = .ok (.iinc 8 1, 3) := by decide +kernel
theorem dX12_seats_164 : decode cX12_seats 164 = .ok (.goto (-82), 3) := by decide +kernel
theorem dX12_seats_167 : decode cX12_seats 167 = .ok (.iinc 7 1, 3) := by decide +kernel
theorem dX12_seats_170 : decode cX12_seats 170 = .ok (.goto (-100), 3) := by decide +kernel
theorem dX12_seats_173 : decode cX12_seats 173 = .ok (.aload_n 0, 1) := by decide +kernel
theorem dX12_seats_174 : decode cX12_seats 174 = .ok (.getfield 217, 3) := by decide +kernel
theorem dX12_seats_177 : decode cX12_seats 177 = .ok (.iconst 0, 1) := by decide +kernel
theorem dX12_seats_178 : decode cX12_seats 178 = .ok (.iload_n 2, 1) := by decide +kernel
theorem dX12_seats_179 : decode cX12_seats 179 = .ok (.iastore, 1) := by decide +kernel
theorem dX12_seats_180 : decode cX12_seats 180 = .ok (.aload_n 0, 1) := by decide +kernel
theorem dX12_seats_181 : decode cX12_seats 181 = .ok (.getfield 217, 3) := by decide +kernel
theorem dX12_seats_184 : decode cX12_seats 184 = .ok (.iconst 1, 1) := by decide +kernel
theorem dX12_seats_185 : decode cX12_seats 185 = .ok (.iload_n 3, 1) := by decide +kernel
theorem dX12_seats_186 : decode cX12_seats 186 = .ok (.iastore, 1) := by decide +kernel
theorem dX12_seats_187 : decode cX12_seats 187 = .ok (.iload_n 1, 1) := by decide +kernel
theorem dX12_seats_188 : decode cX12_seats 188 = .ok (.ifCond .ne 8, 3) := by decide +kernel
theorem dX12_seats_191 : decode cX12_seats 191 = .ok (.iload 4, 2) := by decide +kernel
theorem dX12_seats_193 : decode cX12_seats 193 = .ok (.goto 16, 3) := by decide +kernel
theorem dX12_seats_196 : decode cX12_seats 196 = .ok (.iload_n 1, 1) := by decide +kernel
theorem dX12_seats_197 : decode cX12_seats 197 = .ok (.bipush 10, 2) := by decide +kernel
theorem dX12_seats_199 : decode cX12_seats 199 = .ok (.if_icmp .ne 8, 3) := by decide +kernel
theorem dX12_seats_202 : decode cX12_seats 202 = .ok (.iload 5, 2) := by decide +kernel
theorem dX12_seats_204 : decode cX12_seats 204 = .ok (.goto 5, 3) := by decide +kernel
theorem dX12_seats_207 : decode cX12_seats 207 = .ok (.iload 6, 2) := by decide +kernel
theorem dX12_seats_209 : decode cX12_seats 209 = .ok (.ireturn, 1) := by decide +kernel
theorem bX12_seats_0 {d : Nat} {h0 hE h : ea_H} {rv : Option ea_V} {r0 : Option Nat} {x1 : Int32} (H : ∃ a3, r0 = some a3 ∧ a3 < ea_n h ∧ ea_c h a3 = 12 ∧ ((ea_i h a3 2) = (0 : Int32) → rv = some (vI (-1)) ∧ hE = h) ∧ (¬ (ea_i h a3 2) = (0 : Int32) → a3 < ea_n h ∧ ea_c h a3 = 12 ∧ ((ea_i h a3 92) = (0 : Int32) → rv = some (vI (-1)) ∧ hE = h) ∧ (¬ (ea_i h a3 92) = (0 : Int32) → (x1 = (0 : Int32) → ea_W mX12_seats d h0 rv hE 44 [(0, vR r0), (1, vI x1)] [] h) ∧ (¬ x1 = (0 : Int32) → a3 < ea_n h ∧ ea_c h a3 = 12 ∧ ((ea_i h a3 92) ≤ (1 : Int32) → ea_W mX12_seats d h0 rv hE 36 [(0, vR r0), (1, vI x1)] [vI 10, vI 10, vI x1] h) ∧ (¬ (ea_i h a3 92) ≤ (1 : Int32) → ea_W mX12_seats d h0 rv hE 36 [(0, vR r0), (1, vI x1)] [vI 11, vI 10, vI x1] h))))) : ea_W mX12_seats d h0 rv hE 0 [(0, vR r0), (1, vI x1)] [] h := by
  refine ea_aload_n (pc := 0) dX12_seats_0 rfl 0 rfl ?_
  obtain ⟨a3, e4, f1, g2, H⟩ := H
  refine ea_deref0 e4 ?_
  refine ea_getI (pc := 1) dX12_seats_1 ec_12 (k := 2) (Nat.le_of_ble_eq_true rfl) rfl (Or.inl ew_1347) f1 g2 ?_
  refine ea_if_eq (pc := 4) (tgt := 42) dX12_seats_4 rfl (fun c12 => ?_) (fun c12 => ?_)
  · have H := H.1 c12
    refine ea_iconst (pc := 42) dX12_seats_42 (v := (-1)) rfl ?_
    obtain ⟨rfl, rfl⟩ := H
    exact ea_ireturn (pc := 43) dX12_seats_43 rfl rfl
  · have H := H.2 c12
    refine ea_aload_n (pc := 7) dX12_seats_7 rfl 0 rfl ?_
    obtain ⟨f5, g6, H⟩ := H
    refine ea_deref0 e4 ?_
    refine ea_getI (pc := 8) dX12_seats_8 ec_12 (k := 92) (Nat.le_of_ble_eq_true rfl) rfl (Or.inl ew_1437) f5 g6 ?_
    refine ea_if_eq (pc := 11) (tgt := 42) dX12_seats_11 rfl (fun c11 => ?_) (fun c11 => ?_)
    · have H := H.1 c11
      refine ea_iconst (pc := 42) dX12_seats_42 (v := (-1)) rfl ?_
      obtain ⟨rfl, rfl⟩ := H
      exact ea_ireturn (pc := 43) dX12_seats_43 rfl rfl
    · have H := H.2 c11
      refine ea_iload_n (pc := 14) dX12_seats_14 rfl 1 rfl ?_
      refine ea_if_eq (pc := 15) (tgt := 44) dX12_seats_15 rfl (fun c10 => ?_) (fun c10 => ?_)
      · have H := H.1 c10
        exact H
      · have H := H.2 c10
        refine ea_iload_n (pc := 18) dX12_seats_18 rfl 1 rfl ?_
        refine ea_bipush (pc := 19) dX12_seats_19 (v := 10) rfl ?_
        refine ea_aload_n (pc := 21) dX12_seats_21 rfl 0 rfl ?_
        obtain ⟨f7, g8, H⟩ := H
        refine ea_deref0 e4 ?_
        refine ea_getI (pc := 22) dX12_seats_22 ec_12 (k := 92) (Nat.le_of_ble_eq_true rfl) rfl (Or.inl ew_1437) f7 g8 ?_
        refine ea_iconst (pc := 25) dX12_seats_25 (v := 1) rfl ?_
        refine ea_icmp_le (pc := 26) (tgt := 34) dX12_seats_26 rfl (fun c9 => ?_) (fun c9 => ?_)
        · have H := H.1 c9
          refine ea_bipush (pc := 34) dX12_seats_34 (v := 10) rfl ?_
          exact H
        · have H := H.2 c9
          refine ea_bipush (pc := 29) dX12_seats_29 (v := 11) rfl ?_
          refine ea_goto (pc := 31) (tgt := 36) dX12_seats_31 rfl ?_
          exact H
theorem bX12_seats_36 {d : Nat} {h0 hE h : ea_H} {rv : Option ea_V} {r0 : Option Nat} {x1 : Int32} {sx0 : Int32} {sx1 : Int32} {sx2 : Int32} (H : ∃ (d1 : Nat) (xc5 : Int32) (h2 : ea_H), ea_Met mX12_isIn d1 [vI sx2, vI sx1, vI sx0] h (some (vI xc5)) h2 ∧ d1 + 1 ≤ d ∧ (¬ xc5 = (0 : Int32) → ea_W mX12_seats d h0 rv hE 44 [(0, vR r0), (1, vI x1)] [] h2) ∧ (xc5 = (0 : Int32) → rv = some (vI (-1)) ∧ hE = h2)) : ea_W mX12_seats d h0 rv hE 36 [(0, vR r0), (1, vI x1)] [vI sx0, vI sx1, vI sx2] h := by
  obtain ⟨d1, xc5, h2, m3, q4, H⟩ := H
  refine ea_callS (pc := 36) (As := [vI sx2, vI sx1, vI sx0]) (st := []) dX12_seats_36 kX12_isIn m3 q4 rfl (Nat.le_of_ble_eq_true rfl) ew_1712 ew_1713 ?_
  refine ea_if_ne (pc := 39) (tgt := 44) dX12_seats_39 rfl (fun c6 => ?_) (fun c6 => ?_)
  · have H := H.1 c6
    exact H
  · have H := H.2 c6
    refine ea_iconst (pc := 42) dX12_seats_42 (v := (-1)) rfl ?_
    obtain ⟨rfl, rfl⟩ := H
    exact ea_ireturn (pc := 43) dX12_seats_43 rfl rfl
theorem bX12_seats_44 {d : Nat} {h0 hE h : ea_H} {rv : Option ea_V} {r0 : Option Nat} {x1 : Int32} (H : ∃ a3, r0 = some a3 ∧ a3 < ea_n h ∧ ea_c h a3 = 12 ∧ ∃ a7, (ea_r h a3 95) = some a7 ∧ a7 < ea_n h ∧ ea_c h a7 = 20 ∧ vp_in 0 (ea_l h a7) ∧ a3 < ea_n h ∧ ea_c h a3 = 12 ∧ a7 < ea_n h ∧ ea_c h a7 = 20 ∧ vp_in 1 (ea_l h a7) ∧ ea_W mX12_seats d h0 rv hE 70 [(0, vR r0), (1, vI x1), (2, vI (ea_i h a7 (Int32.toNatClampNeg 0))), (3, vI (ea_i h a7 (Int32.toNatClampNeg 1))), (4, vI (-1)), (5, vI 0), (6, vI 0), (7, vI 0)] [] h) : ea_W mX12_seats d h0 rv hE 44 [(0, vR r0), (1, vI x1)] [] h := by
  refine ea_aload_n (pc := 44) dX12_seats_44 rfl 0 rfl ?_
  obtain ⟨a3, e4, f1, g2, H⟩ := H
  refine ea_deref0 e4 ?_
  refine ea_getR (pc := 45) dX12_seats_45 ec_12 (k := 95) (Nat.le_of_ble_eq_true rfl) rfl (Or.inl ew_1440) f1 g2 rfl ?_
  refine ea_iconst (pc := 48) dX12_seats_48 (v := 0) rfl ?_
  obtain ⟨a7, e8, f5, g6, H⟩ := H
  refine ea_deref1 e8 ?_
  obtain ⟨z9, H⟩ := H
  refine ea_iald (pc := 49) dX12_seats_49 f5 g6 z9 ?_
  refine ea_istore_n (pc := 50) (lv' := [(0, vR r0), (1, vI x1), (2, vI (ea_i h a7 (Int32.toNatClampNeg 0)))]) dX12_seats_50 rfl (Nat.le_of_ble_eq_true rfl) [1, 2, 0] rfl ?_
  refine ea_aload_n (pc := 51) dX12_seats_51 rfl 0 rfl ?_
  obtain ⟨f10, g11, H⟩ := H
  refine ea_deref0 e4 ?_
  refine ea_getR (pc := 52) dX12_seats_52 ec_12 (k := 95) (Nat.le_of_ble_eq_true rfl) rfl (Or.inl ew_1440) f10 g11 rfl ?_
  refine ea_iconst (pc := 55) dX12_seats_55 (v := 1) rfl ?_
  obtain ⟨f12, g13, H⟩ := H
  refine ea_deref1 e8 ?_
  obtain ⟨z14, H⟩ := H
  refine ea_iald (pc := 56) dX12_seats_56 f12 g13 z14 ?_
  refine ea_istore_n (pc := 57) (lv' := [(0, vR r0), (1, vI x1), (2, vI (ea_i h a7 (Int32.toNatClampNeg 0))), (3, vI (ea_i h a7 (Int32.toNatClampNeg 1)))]) dX12_seats_57 rfl (Nat.le_of_ble_eq_true rfl) [1, 2, 3, 0] rfl ?_
  refine ea_iconst (pc := 58) dX12_seats_58 (v := (-1)) rfl ?_
  refine ea_istore (pc := 59) (lv' := [(0, vR r0), (1, vI x1), (2, vI (ea_i h a7 (Int32.toNatClampNeg 0))), (3, vI (ea_i h a7 (Int32.toNatClampNeg 1))), (4, vI (-1))]) dX12_seats_59 (Nat.le_of_ble_eq_true rfl) [1, 2, 3, 4, 0] rfl ?_
  refine ea_iconst (pc := 61) dX12_seats_61 (v := 0) rfl ?_
  refine ea_istore (pc := 62) (lv' := [(0, vR r0), (1, vI x1), (2, vI (ea_i h a7 (Int32.toNatClampNeg 0))), (3, vI (ea_i h a7 (Int32.toNatClampNeg 1))), (4, vI (-1)), (5, vI 0)]) dX12_seats_62 (Nat.le_of_ble_eq_true rfl) [1, 2, 3, 4, 5, 0] rfl ?_
  refine ea_iconst (pc := 64) dX12_seats_64 (v := 0) rfl ?_
  refine ea_istore (pc := 65) (lv' := [(0, vR r0), (1, vI x1), (2, vI (ea_i h a7 (Int32.toNatClampNeg 0))), (3, vI (ea_i h a7 (Int32.toNatClampNeg 1))), (4, vI (-1)), (5, vI 0), (6, vI 0)]) dX12_seats_65 (Nat.le_of_ble_eq_true rfl) [1, 2, 3, 4, 5, 6, 0] rfl ?_
  refine ea_iconst (pc := 67) dX12_seats_67 (v := 0) rfl ?_
  refine ea_istore (pc := 68) (lv' := [(0, vR r0), (1, vI x1), (2, vI (ea_i h a7 (Int32.toNatClampNeg 0))), (3, vI (ea_i h a7 (Int32.toNatClampNeg 1))), (4, vI (-1)), (5, vI 0), (6, vI 0), (7, vI 0)]) dX12_seats_68 (Nat.le_of_ble_eq_true rfl) [1, 2, 3, 4, 5, 6, 7, 0] rfl ?_
  exact H
theorem bX12_seats_70 {d : Nat} {h0 hE h : ea_H} {rv : Option ea_V} {r0 : Option Nat} {x1 : Int32} {x2 : Int32} {x3 : Int32} {x4 : Int32} {x5 : Int32} {x6 : Int32} {x7 : Int32} (H : ∃ a3, r0 = some a3 ∧ a3 < ea_n h ∧ ea_c h a3 = 12 ∧ ((ea_i h a3 2) ≤ x7 → a3 < ea_n h ∧ ea_c h a3 = 12 ∧ ∃ a9, (ea_r h a3 95) = some a9 ∧ a9 < ea_n h ∧ ea_c h a9 = 20 ∧ vp_in 0 (ea_l h a9) ∧ ∀ h12, h12 = ea_wi h a9 (Int32.toNatClampNeg 0) x2 → a3 < ea_n h12 ∧ ea_c h12 a3 = 12 ∧ ∃ a18, (ea_r h12 a3 95) = some a18 ∧ a18 < ea_n h12 ∧ ea_c h12 a18 = 20 ∧ vp_in 1 (ea_l h12 a18) ∧ ∀ h21, h21 = ea_wi h12 a18 (Int32.toNatClampNeg 1) x3 → (¬ x1 = (0 : Int32) → (¬ x1 = (10 : Int32) → rv = some (vI x6) ∧ hE = h21) ∧ (x1 = (10 : Int32) → rv = some (vI x5) ∧ hE = h21)) ∧ (x1 = (0 : Int32) → rv = some (vI x4) ∧ hE = h21)) ∧ (¬ (ea_i h a3 2) ≤ x7 → ea_W mX12_seats d h0 rv hE 82 [(0, vR r0), (1, vI x1), (2, vI x2), (3, vI x3), (4, vI x4), (5, vI x5), (6, vI x6), (7, vI x7), (8, vI 0)] [] h)) : ea_W mX12_seats d h0 rv hE 70 [(0, vR r0), (1, vI x1), (2, vI x2), (3, vI x3), (4, vI x4), (5, vI x5), (6, vI x6), (7, vI x7)] [] h := by
  refine ea_iload (pc := 70) dX12_seats_70 7 rfl ?_
  refine ea_aload_n (pc := 72) dX12_seats_72 rfl 0 rfl ?_
  obtain ⟨a3, e4, f1, g2, H⟩ := H
  refine ea_deref0 e4 ?_
  refine ea_getI (pc := 73) dX12_seats_73 ec_12 (k := 2) (Nat.le_of_ble_eq_true rfl) rfl (Or.inl ew_1347) f1 g2 ?_
  refine ea_icmp_ge (pc := 76) (tgt := 173) dX12_seats_76 rfl (fun c25 => ?_) (fun c25 => ?_)
  · have H := H.1 c25
    refine ea_aload_n (pc := 173) dX12_seats_173 rfl 0 rfl ?_
    obtain ⟨f5, g6, H⟩ := H
    refine ea_deref0 e4 ?_
    refine ea_getR (pc := 174) dX12_seats_174 ec_12 (k := 95) (Nat.le_of_ble_eq_true rfl) rfl (Or.inl ew_1440) f5 g6 rfl ?_
    refine ea_iconst (pc := 177) dX12_seats_177 (v := 0) rfl ?_
    refine ea_iload_n (pc := 178) dX12_seats_178 rfl 2 rfl ?_
    obtain ⟨a9, e10, f7, g8, H⟩ := H
    refine ea_deref2 e10 ?_
    obtain ⟨z11, H⟩ := H
    refine ea_iast (pc := 179) dX12_seats_179 f7 g8 z11 ?_
    obtain ⟨h12, E13⟩ : ∃ z, z = ea_wi h a9 (Int32.toNatClampNeg 0) x2 := ⟨_, rfl⟩
    have H := H h12 E13
    refine ea_nm E13 ?_
    refine ea_aload_n (pc := 180) dX12_seats_180 rfl 0 rfl ?_
    obtain ⟨f14, g15, H⟩ := H
    refine ea_deref0 e4 ?_
    refine ea_getR (pc := 181) dX12_seats_181 ec_12 (k := 95) (Nat.le_of_ble_eq_true rfl) rfl (Or.inl ew_1440) f14 g15 rfl ?_
    refine ea_iconst (pc := 184) dX12_seats_184 (v := 1) rfl ?_
    refine ea_iload_n (pc := 185) dX12_seats_185 rfl 3 rfl ?_
    obtain ⟨a18, e19, f16, g17, H⟩ := H
    refine ea_deref2 e19 ?_
    obtain ⟨z20, H⟩ := H
    refine ea_iast (pc := 186) dX12_seats_186 f16 g17 z20 ?_
    obtain ⟨h21, E22⟩ : ∃ z, z = ea_wi h12 a18 (Int32.toNatClampNeg 1) x3 := ⟨_, rfl⟩
    have H := H h21 E22
    refine ea_nm E22 ?_
    refine ea_iload_n (pc := 187) dX12_seats_187 rfl 1 rfl ?_
    refine ea_if_ne (pc := 188) (tgt := 196) dX12_seats_188 rfl (fun c24 => ?_) (fun c24 => ?_)
    · have H := H.1 c24
      refine ea_iload_n (pc := 196) dX12_seats_196 rfl 1 rfl ?_
      refine ea_bipush (pc := 197) dX12_seats_197 (v := 10) rfl ?_
      refine ea_icmp_ne (pc := 199) (tgt := 207) dX12_seats_199 rfl (fun c23 => ?_) (fun c23 => ?_)
      · have H := H.1 c23
        refine ea_iload (pc := 207) dX12_seats_207 6 rfl ?_
        obtain ⟨rfl, rfl⟩ := H
        exact ea_ireturn (pc := 209) dX12_seats_209 rfl rfl
      · have H := H.2 c23
        refine ea_iload (pc := 202) dX12_seats_202 5 rfl ?_
        refine ea_goto (pc := 204) (tgt := 209) dX12_seats_204 rfl ?_
        obtain ⟨rfl, rfl⟩ := H
        exact ea_ireturn (pc := 209) dX12_seats_209 rfl rfl
    · have H := H.2 c24
      refine ea_iload (pc := 191) dX12_seats_191 4 rfl ?_
      refine ea_goto (pc := 193) (tgt := 209) dX12_seats_193 rfl ?_
      obtain ⟨rfl, rfl⟩ := H
      exact ea_ireturn (pc := 209) dX12_seats_209 rfl rfl
  · have H := H.2 c25
    refine ea_iconst (pc := 79) dX12_seats_79 (v := 0) rfl ?_
    refine ea_istore (pc := 80) (lv' := [(0, vR r0), (1, vI x1), (2, vI x2), (3, vI x3), (4, vI x4), (5, vI x5), (6, vI x6), (7, vI x7), (8, vI 0)]) dX12_seats_80 (Nat.le_of_ble_eq_true rfl) [1, 2, 3, 4, 5, 6, 7, 8, 0] rfl ?_
    exact H
theorem bX12_seats_82 {d : Nat} {h0 hE h : ea_H} {rv : Option ea_V} {r0 : Option Nat} {x1 : Int32} {x2 : Int32} {x3 : Int32} {x4 : Int32} {x5 : Int32} {x6 : Int32} {x7 : Int32} {x8 : Int32} (H : ∃ a3, r0 = some a3 ∧ a3 < ea_n h ∧ ea_c h a3 = 12 ∧ ((ea_i h a3 92) ≤ (1 : Int32) → ea_W mX12_seats d h0 rv hE 100 [(0, vR r0), (1, vI x1), (2, vI x2), (3, vI x3), (4, vI x4), (5, vI x5), (6, vI x6), (7, vI x7), (8, vI x8)] [vI 1, vI x8] h) ∧ (¬ (ea_i h a3 92) ≤ (1 : Int32) → a3 < ea_n h ∧ ea_c h a3 = 12 ∧ ea_W mX12_seats d h0 rv hE 100 [(0, vR r0), (1, vI x1), (2, vI x2), (3, vI x3), (4, vI x4), (5, vI x5), (6, vI x6), (7, vI x7), (8, vI x8)] [vI (ea_i h a3 2), vI x8] h)) : ea_W mX12_seats d h0 rv hE 82 [(0, vR r0), (1, vI x1), (2, vI x2), (3, vI x3), (4, vI x4), (5, vI x5), (6, vI x6), (7, vI x7), (8, vI x8)] [] h := by
  refine ea_iload (pc := 82) dX12_seats_82 8 rfl ?_
  refine ea_aload_n (pc := 84) dX12_seats_84 rfl 0 rfl ?_
  obtain ⟨a3, e4, f1, g2, H⟩ := H
  refine ea_deref0 e4 ?_
  refine ea_getI (pc := 85) dX12_seats_85 ec_12 (k := 92) (Nat.le_of_ble_eq_true rfl) rfl (Or.inl ew_1437) f1 g2 ?_
  refine ea_iconst (pc := 88) dX12_seats_88 (v := 1) rfl ?_
  refine ea_icmp_le (pc := 89) (tgt := 99) dX12_seats_89 rfl (fun c7 => ?_) (fun c7 => ?_)
  · have H := H.1 c7
    refine ea_iconst (pc := 99) dX12_seats_99 (v := 1) rfl ?_
    exact H
  · have H := H.2 c7
    refine ea_aload_n (pc := 92) dX12_seats_92 rfl 0 rfl ?_
    obtain ⟨f5, g6, H⟩ := H
    refine ea_deref0 e4 ?_
    refine ea_getI (pc := 93) dX12_seats_93 ec_12 (k := 2) (Nat.le_of_ble_eq_true rfl) rfl (Or.inl ew_1347) f5 g6 ?_
    refine ea_goto (pc := 96) (tgt := 100) dX12_seats_96 rfl ?_
    exact H
theorem bX12_seats_100 {d : Nat} {h0 hE h : ea_H} {rv : Option ea_V} {r0 : Option Nat} {x1 : Int32} {x2 : Int32} {x3 : Int32} {x4 : Int32} {x5 : Int32} {x6 : Int32} {x7 : Int32} {x8 : Int32} {sx0 : Int32} {sx1 : Int32} (H : (sx0 ≤ sx1 → ea_W mX12_seats d h0 rv hE 70 [(0, vR r0), (1, vI x1), (2, vI x2), (3, vI x3), (4, vI x4), (5, vI x5), (6, vI x6), (7, vI (x7 + 1))] [] h) ∧ (¬ sx0 ≤ sx1 → ∃ a3, r0 = some a3 ∧ a3 < ea_n h ∧ ea_c h a3 = 12 ∧ ∃ a7, (ea_r h a3 95) = some a7 ∧ a7 < ea_n h ∧ ea_c h a7 = 20 ∧ vp_in 0 (ea_l h a7) ∧ ∀ h10, h10 = ea_wi h a7 (Int32.toNatClampNeg 0) x7 → a3 < ea_n h10 ∧ ea_c h10 a3 = 12 ∧ ((ea_i h10 a3 92) ≤ (1 : Int32) → ea_W mX12_seats d h0 rv hE 127 [(0, vR r0), (1, vI x1), (2, vI x2), (3, vI x3), (4, vI x4), (5, vI x5), (6, vI x6), (7, vI x7), (8, vI x8)] [] h10) ∧ (¬ (ea_i h10 a3 92) ≤ (1 : Int32) → a3 < ea_n h10 ∧ ea_c h10 a3 = 12 ∧ ∃ a18, (ea_r h10 a3 95) = some a18 ∧ a18 < ea_n h10 ∧ ea_c h10 a18 = 20 ∧ vp_in 1 (ea_l h10 a18) ∧ ∀ h21, h21 = ea_wi h10 a18 (Int32.toNatClampNeg 1) x8 → ea_W mX12_seats d h0 rv hE 127 [(0, vR r0), (1, vI x1), (2, vI x2), (3, vI x3), (4, vI x4), (5, vI x5), (6, vI x6), (7, vI x7), (8, vI x8)] [] h21))) : ea_W mX12_seats d h0 rv hE 100 [(0, vR r0), (1, vI x1), (2, vI x2), (3, vI x3), (4, vI x4), (5, vI x5), (6, vI x6), (7, vI x7), (8, vI x8)] [vI sx0, vI sx1] h := by
  refine ea_icmp_ge (pc := 100) (tgt := 167) dX12_seats_100 rfl (fun c24 => ?_) (fun c24 => ?_)
  · have H := H.1 c24
    refine ea_iinc (pc := 167) (v := 1) (lv' := [(0, vR r0), (1, vI x1), (2, vI x2), (3, vI x3), (4, vI x4), (5, vI x5), (6, vI x6), (7, vI (x7 + 1))]) dX12_seats_167 7 rfl rfl (Nat.le_of_ble_eq_true rfl) [1, 2, 3, 4, 5, 6, 7, 0] rfl ?_
    refine ea_goto (pc := 170) (tgt := 70) dX12_seats_170 rfl ?_
    exact H
  · have H := H.2 c24
    refine ea_aload_n (pc := 103) dX12_seats_103 rfl 0 rfl ?_
    obtain ⟨a3, e4, f1, g2, H⟩ := H
    refine ea_deref0 e4 ?_
    refine ea_getR (pc := 104) dX12_seats_104 ec_12 (k := 95) (Nat.le_of_ble_eq_true rfl) rfl (Or.inl ew_1440) f1 g2 rfl ?_
    refine ea_iconst (pc := 107) dX12_seats_107 (v := 0) rfl ?_
    refine ea_iload (pc := 108) dX12_seats_108 7 rfl ?_
    obtain ⟨a7, e8, f5, g6, H⟩ := H
    refine ea_deref2 e8 ?_
    obtain ⟨z9, H⟩ := H
    refine ea_iast (pc := 110) dX12_seats_110 f5 g6 z9 ?_
    obtain ⟨h10, E11⟩ : ∃ z, z = ea_wi h a7 (Int32.toNatClampNeg 0) x7 := ⟨_, rfl⟩
    have H := H h10 E11
    refine ea_nm E11 ?_
    refine ea_aload_n (pc := 111) dX12_seats_111 rfl 0 rfl ?_
    obtain ⟨f12, g13, H⟩ := H
    refine ea_deref0 e4 ?_
    refine ea_getI (pc := 112) dX12_seats_112 ec_12 (k := 92) (Nat.le_of_ble_eq_true rfl) rfl (Or.inl ew_1437) f12 g13 ?_
    refine ea_iconst (pc := 115) dX12_seats_115 (v := 1) rfl ?_
    refine ea_icmp_le (pc := 116) (tgt := 127) dX12_seats_116 rfl (fun c23 => ?_) (fun c23 => ?_)
    · have H := H.1 c23
      exact H
    · have H := H.2 c23
      refine ea_aload_n (pc := 119) dX12_seats_119 rfl 0 rfl ?_
      obtain ⟨f14, g15, H⟩ := H
      refine ea_deref0 e4 ?_
      refine ea_getR (pc := 120) dX12_seats_120 ec_12 (k := 95) (Nat.le_of_ble_eq_true rfl) rfl (Or.inl ew_1440) f14 g15 rfl ?_
      refine ea_iconst (pc := 123) dX12_seats_123 (v := 1) rfl ?_
      refine ea_iload (pc := 124) dX12_seats_124 8 rfl ?_
      obtain ⟨a18, e19, f16, g17, H⟩ := H
      refine ea_deref2 e19 ?_
      obtain ⟨z20, H⟩ := H
      refine ea_iast (pc := 126) dX12_seats_126 f16 g17 z20 ?_
      obtain ⟨h21, E22⟩ : ∃ z, z = ea_wi h10 a18 (Int32.toNatClampNeg 1) x8 := ⟨_, rfl⟩
      have H := H h21 E22
      refine ea_nm E22 ?_
      exact H
theorem bX12_seats_127 {d : Nat} {h0 hE h : ea_H} {rv : Option ea_V} {r0 : Option Nat} {x1 : Int32} {x2 : Int32} {x3 : Int32} {x4 : Int32} {x5 : Int32} {x6 : Int32} {x7 : Int32} {x8 : Int32} (H : ∃ a7, r0 = some a7 ∧ a7 < ea_n h ∧ ea_c h a7 = 12 ∧ ∃ (d1 : Nat) (xc9 : Int32) (h2 : ea_H), ea_Met mX12_sums d1 [vR (some a7)] h (some (vI xc9)) h2 ∧ d1 + 1 ≤ d ∧ (x4 = ((-1) : Int32) → ea_W mX12_seats d h0 rv hE 82 [(0, vR r0), (1, vI x1), (2, vI x2), (3, vI x3), (4, vI xc9), (5, vI x7), (6, vI x8), (7, vI x7), (8, vI (x8 + 1))] [] h2) ∧ (¬ x4 = ((-1) : Int32) → (xc9 < x4 → ea_W mX12_seats d h0 rv hE 82 [(0, vR r0), (1, vI x1), (2, vI x2), (3, vI x3), (4, vI xc9), (5, vI x7), (6, vI x8), (7, vI x7), (8, vI (x8 + 1))] [] h2) ∧ (¬ xc9 < x4 → ea_W mX12_seats d h0 rv hE 82 [(0, vR r0), (1, vI x1), (2, vI x2), (3, vI x3), (4, vI x4), (5, vI x5), (6, vI x6), (7, vI x7), (8, vI (x8 + 1))] [] h2))) : ea_W mX12_seats d h0 rv hE 127 [(0, vR r0), (1, vI x1), (2, vI x2), (3, vI x3), (4, vI x4), (5, vI x5), (6, vI x6), (7, vI x7), (8, vI x8)] [] h := by
  refine ea_aload_n (pc := 127) dX12_seats_127 rfl 0 rfl ?_
  obtain ⟨a7, e8, f5, g6, H⟩ := H
  refine ea_deref0 e8 ?_
  obtain ⟨d1, xc9, h2, m3, q4, H⟩ := H
  refine ea_callV (pc := 128) (As := []) (st := []) dX12_seats_128 kX12_sums m3 q4 rfl (Nat.le_of_ble_eq_true rfl) ew_2175 ew_2177 ew_104 (ci := 12) rfl (by decide) f5 g6 ?_
  refine ea_istore (pc := 131) (lv' := [(0, vR r0), (1, vI x1), (2, vI x2), (3, vI x3), (4, vI x4), (5, vI x5), (6, vI x6), (7, vI x7), (8, vI x8), (9, vI xc9)]) dX12_seats_131 (Nat.le_of_ble_eq_true rfl) [1, 2, 3, 4, 5, 6, 7, 8, 9, 0] rfl ?_
  refine ea_iload (pc := 133) dX12_seats_133 4 rfl ?_
  refine ea_iconst (pc := 135) dX12_seats_135 (v := (-1)) rfl ?_
  refine ea_icmp_eq (pc := 136) (tgt := 149) dX12_seats_136 rfl (fun c11 => ?_) (fun c11 => ?_)
  · have H := H.1 c11
    refine ea_iload (pc := 149) dX12_seats_149 9 rfl ?_
    refine ea_istore (pc := 151) (lv' := [(0, vR r0), (1, vI x1), (2, vI x2), (3, vI x3), (4, vI xc9), (7, vI x7), (8, vI x8)]) dX12_seats_151 (Nat.le_of_ble_eq_true rfl) [1, 2, 3, 4, 0, 7, 8] rfl ?_
    refine ea_iload (pc := 153) dX12_seats_153 5 rfl ?_
    refine ea_istore (pc := 155) (lv' := [(0, vR r0), (1, vI x1), (2, vI x2), (3, vI x3), (4, vI xc9), (5, vI x7), (7, vI x7), (8, vI x8)]) dX12_seats_155 (Nat.le_of_ble_eq_true rfl) [1, 2, 3, 4, 5, 0, 6, 7] rfl ?_
    refine ea_iload (pc := 157) dX12_seats_157 7 rfl ?_
    refine ea_istore (pc := 159) (lv' := [(0, vR r0), (1, vI x1), (2, vI x2), (3, vI x3), (4, vI xc9), (5, vI x7), (6, vI x8), (7, vI x7), (8, vI x8)]) dX12_seats_159 (Nat.le_of_ble_eq_true rfl) [1, 2, 3, 4, 5, 6, 0, 7, 8] rfl ?_
    refine ea_iinc (pc := 161) (v := 1) (lv' := [(0, vR r0), (1, vI x1), (2, vI x2), (3, vI x3), (4, vI xc9), (5, vI x7), (6, vI x8), (7, vI x7), (8, vI (x8 + 1))]) dX12_seats_161 8 rfl rfl (Nat.le_of_ble_eq_true rfl) [1, 2, 3, 4, 5, 6, 7, 8, 0] rfl ?_
    refine ea_goto (pc := 164) (tgt := 82) dX12_seats_164 rfl ?_
    exact H
  · have H := H.2 c11
    refine ea_iload (pc := 139) dX12_seats_139 9 rfl ?_
    refine ea_iload (pc := 141) dX12_seats_141 4 rfl ?_
    refine ea_icmp_lt (pc := 143) (tgt := 149) dX12_seats_143 rfl (fun c10 => ?_) (fun c10 => ?_)
    · have H := H.1 c10
      refine ea_iload (pc := 149) dX12_seats_149 9 rfl ?_
      refine ea_istore (pc := 151) (lv' := [(0, vR r0), (1, vI x1), (2, vI x2), (3, vI x3), (4, vI xc9), (7, vI x7), (8, vI x8)]) dX12_seats_151 (Nat.le_of_ble_eq_true rfl) [1, 2, 3, 4, 0, 7, 8] rfl ?_
      refine ea_iload (pc := 153) dX12_seats_153 5 rfl ?_
      refine ea_istore (pc := 155) (lv' := [(0, vR r0), (1, vI x1), (2, vI x2), (3, vI x3), (4, vI xc9), (5, vI x7), (7, vI x7), (8, vI x8)]) dX12_seats_155 (Nat.le_of_ble_eq_true rfl) [1, 2, 3, 4, 5, 0, 6, 7] rfl ?_
      refine ea_iload (pc := 157) dX12_seats_157 7 rfl ?_
      refine ea_istore (pc := 159) (lv' := [(0, vR r0), (1, vI x1), (2, vI x2), (3, vI x3), (4, vI xc9), (5, vI x7), (6, vI x8), (7, vI x7), (8, vI x8)]) dX12_seats_159 (Nat.le_of_ble_eq_true rfl) [1, 2, 3, 4, 5, 6, 0, 7, 8] rfl ?_
      refine ea_iinc (pc := 161) (v := 1) (lv' := [(0, vR r0), (1, vI x1), (2, vI x2), (3, vI x3), (4, vI xc9), (5, vI x7), (6, vI x8), (7, vI x7), (8, vI (x8 + 1))]) dX12_seats_161 8 rfl rfl (Nat.le_of_ble_eq_true rfl) [1, 2, 3, 4, 5, 6, 7, 8, 0] rfl ?_
      refine ea_goto (pc := 164) (tgt := 82) dX12_seats_164 rfl ?_
      exact H
    · have H := H.2 c10
      refine ea_goto (pc := 146) (tgt := 161) dX12_seats_146 rfl ?_
      refine ea_iinc (pc := 161) (v := 1) (lv' := [(0, vR r0), (1, vI x1), (2, vI x2), (3, vI x3), (4, vI x4), (5, vI x5), (6, vI x6), (7, vI x7), (8, vI (x8 + 1))]) dX12_seats_161 8 rfl rfl (Nat.le_of_ble_eq_true rfl) [1, 2, 3, 4, 5, 6, 7, 8, 0] rfl ?_
      refine ea_goto (pc := 164) (tgt := 82) dX12_seats_164 rfl ?_
      exact H
