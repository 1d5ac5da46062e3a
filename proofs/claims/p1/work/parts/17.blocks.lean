/-! blocks -/
theorem dX12_isAboard_0 : decode cX12_isAboard 0 = .ok (.aload_n 0, 1) := by decide +kernel
theorem dX12_isAboard_1 : decode cX12_isAboard 1 = .ok (.getfield 177, 3) := by decide +kernel
theorem dX12_isAboard_4 : decode cX12_isAboard 4 = .ok (.iload_n 1, 1) := by decide +kernel
theorem dX12_isAboard_5 : decode cX12_isAboard 5 = .ok (.iaload, 1) := by decide +kernel
theorem dX12_isAboard_6 : decode cX12_isAboard 6 = .ok (.iconst 1, 1) := by decide +kernel
theorem dX12_isAboard_7 : decode cX12_isAboard 7 = .ok (.if_icmp .ne 20, 3) := by decide +kernel
theorem dX12_isAboard_10 : decode cX12_isAboard 10 = .ok (.aload_n 0, 1) := by decide +kernel
theorem dX12_isAboard_11 : decode cX12_isAboard 11 = .ok (.getfield 180, 3) := by decide +kernel
theorem dX12_isAboard_14 : decode cX12_isAboard 14 = .ok (.iload_n 1, 1) := by decide +kernel
theorem dX12_isAboard_15 : decode cX12_isAboard 15 = .ok (.iaload, 1) := by decide +kernel
theorem dX12_isAboard_16 : decode cX12_isAboard 16 = .ok (.iload_n 2, 1) := by decide +kernel
theorem dX12_isAboard_17 : decode cX12_isAboard 17 = .ok (.invokestatic 572, 3) := by decide +kernel
theorem dX12_isAboard_20 : decode cX12_isAboard 20 = .ok (.if_icmp .ne 7, 3) := by decide +kernel
theorem dX12_isAboard_23 : decode cX12_isAboard 23 = .ok (.iconst 1, 1) := by decide +kernel
theorem dX12_isAboard_24 : decode cX12_isAboard 24 = .ok (.goto 4, 3) := by decide +kernel
theorem dX12_isAboard_27 : decode cX12_isAboard 27 = .ok (.iconst 0, 1) := by decide +kernel
theorem dX12_isAboard_28 : decode cX12_isAboard 28 = .ok (.ireturn, 1) := by decide +kernel
theorem bX12_isAboard_0 {d : Nat} {h0 hE h : ea_H} {rv : Option ea_V} {r0 : Option Nat} {x1 : Int32} {x2 : Int32} (H : ∃ a3, r0 = some a3 ∧ a3 < ea_n h ∧ ea_c h a3 = 12 ∧ ∃ a7, (ea_r h a3 81) = some a7 ∧ a7 < ea_n h ∧ ea_c h a7 = 20 ∧ vp_in x1 (ea_l h a7) ∧ (¬ (ea_i h a7 (Int32.toNatClampNeg x1)) = (1 : Int32) → rv = some (vI 0) ∧ hE = h) ∧ ((ea_i h a7 (Int32.toNatClampNeg x1)) = (1 : Int32) → a3 < ea_n h ∧ ea_c h a3 = 12 ∧ ∃ a14, (ea_r h a3 82) = some a14 ∧ a14 < ea_n h ∧ ea_c h a14 = 20 ∧ vp_in x1 (ea_l h a14) ∧ ∃ (d17 : Nat) (xc21 : Int32) (h18 : ea_H), ea_Met mX12_code d17 [vI x2] h (some (vI xc21)) h18 ∧ d17 + 1 ≤ d ∧ (¬ (ea_i h a14 (Int32.toNatClampNeg x1)) = xc21 → rv = some (vI 0) ∧ hE = h18) ∧ ((ea_i h a14 (Int32.toNatClampNeg x1)) = xc21 → rv = some (vI 1) ∧ hE = h18))) : ea_W mX12_isAboard d h0 rv hE 0 [(0, vR r0), (1, vI x1), (2, vI x2)] [] h := by
  refine ea_aload_n (pc := 0) dX12_isAboard_0 rfl 0 rfl ?_
  obtain ⟨a3, e4, f1, g2, H⟩ := H
  refine ea_deref0 e4 ?_
  refine ea_getR (pc := 1) dX12_isAboard_1 ec_12 (k := 81) (Nat.le_of_ble_eq_true rfl) rfl (Or.inl ew_1426) f1 g2 rfl ?_
  refine ea_iload_n (pc := 4) dX12_isAboard_4 rfl 1 rfl ?_
  obtain ⟨a7, e8, f5, g6, H⟩ := H
  refine ea_deref1 e8 ?_
  obtain ⟨z9, H⟩ := H
  refine ea_iald (pc := 5) dX12_isAboard_5 f5 g6 z9 ?_
  refine ea_iconst (pc := 6) dX12_isAboard_6 (v := 1) rfl ?_
  refine ea_icmp_ne (pc := 7) (tgt := 27) dX12_isAboard_7 rfl (fun c23 => ?_) (fun c23 => ?_)
  · have H := H.1 c23
    refine ea_iconst (pc := 27) dX12_isAboard_27 (v := 0) rfl ?_
    obtain ⟨rfl, rfl⟩ := H
    exact ea_ireturn (pc := 28) dX12_isAboard_28 rfl (ea_bn (Or.inl rfl))
  · have H := H.2 c23
    refine ea_aload_n (pc := 10) dX12_isAboard_10 rfl 0 rfl ?_
    obtain ⟨f10, g11, H⟩ := H
    refine ea_deref0 e4 ?_
    refine ea_getR (pc := 11) dX12_isAboard_11 ec_12 (k := 82) (Nat.le_of_ble_eq_true rfl) rfl (Or.inl ew_1427) f10 g11 rfl ?_
    refine ea_iload_n (pc := 14) dX12_isAboard_14 rfl 1 rfl ?_
    obtain ⟨a14, e15, f12, g13, H⟩ := H
    refine ea_deref1 e15 ?_
    obtain ⟨z16, H⟩ := H
    refine ea_iald (pc := 15) dX12_isAboard_15 f12 g13 z16 ?_
    refine ea_iload_n (pc := 16) dX12_isAboard_16 rfl 2 rfl ?_
    obtain ⟨d17, xc21, h18, m19, q20, H⟩ := H
    refine ea_callS (pc := 17) (As := [vI x2]) (st := [vI (ea_i h a14 (Int32.toNatClampNeg x1))]) dX12_isAboard_17 kX12_code m19 q20 rfl (Nat.le_of_ble_eq_true rfl) ew_2071 ew_2072 ?_
    refine ea_icmp_ne (pc := 20) (tgt := 27) dX12_isAboard_20 rfl (fun c22 => ?_) (fun c22 => ?_)
    · have H := H.1 c22
      refine ea_iconst (pc := 27) dX12_isAboard_27 (v := 0) rfl ?_
      obtain ⟨rfl, rfl⟩ := H
      exact ea_ireturn (pc := 28) dX12_isAboard_28 rfl (ea_bn (Or.inl rfl))
    · have H := H.2 c22
      refine ea_iconst (pc := 23) dX12_isAboard_23 (v := 1) rfl ?_
      refine ea_goto (pc := 24) (tgt := 28) dX12_isAboard_24 rfl ?_
      obtain ⟨rfl, rfl⟩ := H
      exact ea_ireturn (pc := 28) dX12_isAboard_28 rfl (ea_bn (Or.inr rfl))
theorem dX12_putsDown_0 : decode cX12_putsDown 0 = .ok (.aload_n 0, 1) := by decide +kernel
theorem dX12_putsDown_1 : decode cX12_putsDown 1 = .ok (.getfield 195, 3) := by decide +kernel
theorem dX12_putsDown_4 : decode cX12_putsDown 4 = .ok (.iload_n 1, 1) := by decide +kernel
theorem dX12_putsDown_5 : decode cX12_putsDown 5 = .ok (.iconst 0, 1) := by decide +kernel
theorem dX12_putsDown_6 : decode cX12_putsDown 6 = .ok (.bastore, 1) := by decide +kernel
theorem dX12_putsDown_7 : decode cX12_putsDown 7 = .ok (.aload_n 0, 1) := by decide +kernel
theorem dX12_putsDown_8 : decode cX12_putsDown 8 = .ok (.getfield 183, 3) := by decide +kernel
theorem dX12_putsDown_11 : decode cX12_putsDown 11 = .ok (.iload_n 1, 1) := by decide +kernel
theorem dX12_putsDown_12 : decode cX12_putsDown 12 = .ok (.iconst (-1), 1) := by decide +kernel
theorem dX12_putsDown_13 : decode cX12_putsDown 13 = .ok (.iastore, 1) := by decide +kernel
theorem dX12_putsDown_14 : decode cX12_putsDown 14 = .ok (.aload_n 0, 1) := by decide +kernel
theorem dX12_putsDown_15 : decode cX12_putsDown 15 = .ok (.iload_n 1, 1) := by decide +kernel
theorem dX12_putsDown_16 : decode cX12_putsDown 16 = .ok (.iload_n 2, 1) := by decide +kernel
theorem dX12_putsDown_17 : decode cX12_putsDown 17 = .ok (.aload_n 0, 1) := by decide +kernel
theorem dX12_putsDown_18 : decode cX12_putsDown 18 = .ok (.getfield 132, 3) := by decide +kernel
theorem dX12_putsDown_21 : decode cX12_putsDown 21 = .ok (.iload_n 1, 1) := by decide +kernel
theorem dX12_putsDown_22 : decode cX12_putsDown 22 = .ok (.iaload, 1) := by decide +kernel
theorem dX12_putsDown_23 : decode cX12_putsDown 23 = .ok (.iload_n 3, 1) := by decide +kernel
theorem dX12_putsDown_24 : decode cX12_putsDown 24 = .ok (.if_icmp .eq 7, 3) := by decide +kernel
theorem dX12_putsDown_27 : decode cX12_putsDown 27 = .ok (.iconst 0, 1) := by decide +kernel
theorem dX12_putsDown_28 : decode cX12_putsDown 28 = .ok (.goto 17, 3) := by decide +kernel
theorem dX12_putsDown_31 : decode cX12_putsDown 31 = .ok (.aload_n 0, 1) := by decide +kernel
theorem dX12_putsDown_32 : decode cX12_putsDown 32 = .ok (.getfield 174, 3) := by decide +kernel
theorem dX12_putsDown_35 : decode cX12_putsDown 35 = .ok (.iload_n 1, 1) := by decide +kernel
theorem dX12_putsDown_36 : decode cX12_putsDown 36 = .ok (.baload, 1) := by decide +kernel
theorem dX12_putsDown_37 : decode cX12_putsDown 37 = .ok (.ifCond .eq 7, 3) := by decide +kernel
theorem dX12_putsDown_40 : decode cX12_putsDown 40 = .ok (.iconst 3, 1) := by decide +kernel
theorem dX12_putsDown_41 : decode cX12_putsDown 41 = .ok (.goto 4, 3) := by decide +kernel
theorem dX12_putsDown_44 : decode cX12_putsDown 44 = .ok (.iconst 2, 1) := by decide +kernel
theorem dX12_putsDown_45 : decode cX12_putsDown 45 = .ok (.iload_n 3, 1) := by decide +kernel
theorem dX12_putsDown_46 : decode cX12_putsDown 46 = .ok (.invokevirtual 556, 3) := by decide +kernel
theorem dX12_putsDown_49 : decode cX12_putsDown 49 = .ok (.aload_n 0, 1) := by decide +kernel
theorem dX12_putsDown_50 : decode cX12_putsDown 50 = .ok (.getfield 177, 3) := by decide +kernel
theorem dX12_putsDown_53 : decode cX12_putsDown 53 = .ok (.iload_n 1, 1) := by decide +kernel
theorem dX12_putsDown_54 : decode cX12_putsDown 54 = .ok (.iaload, 1) := by decide +kernel
theorem dX12_putsDown_55 : decode cX12_putsDown 55 = .ok (.iconst 3, 1) := by decide +kernel
theorem dX12_putsDown_56 : decode cX12_putsDown 56 = .ok (.if_icmp .ne 10, 3) := by decide +kernel
theorem dX12_putsDown_59 : decode cX12_putsDown 59 = .ok (.aload_n 0, 1) := by decide +kernel
theorem dX12_putsDown_60 : decode cX12_putsDown 60 = .ok (.getfield 165, 3) := by decide +kernel
theorem dX12_putsDown_63 : decode cX12_putsDown 63 = .ok (.iload_n 1, 1) := by decide +kernel
theorem dX12_putsDown_64 : decode cX12_putsDown 64 = .ok (.iconst 0, 1) := by decide +kernel
theorem dX12_putsDown_65 : decode cX12_putsDown 65 = .ok (.iastore, 1) := by decide +kernel
theorem dX12_putsDown_66 : decode cX12_putsDown 66 = .ok (.return_, 1) := by decide +kernel
theorem bX12_putsDown_0 {d : Nat} {h0 hE h : ea_H} {rv : Option ea_V} {r0 : Option Nat} {x1 : Int32} {x2 : Int32} {x3 : Int32} (H : ∃ a3, r0 = some a3 ∧ a3 < ea_n h ∧ ea_c h a3 = 12 ∧ ∃ a7, (ea_r h a3 87) = some a7 ∧ a7 < ea_n h ∧ ea_c h a7 = 21 ∧ vp_in x1 (ea_l h a7) ∧ ∀ h10, h10 = ea_wi h a7 (Int32.toNatClampNeg x1) 0 → a3 < ea_n h10 ∧ ea_c h10 a3 = 12 ∧ ∃ a16, (ea_r h10 a3 83) = some a16 ∧ a16 < ea_n h10 ∧ ea_c h10 a16 = 20 ∧ vp_in x1 (ea_l h10 a16) ∧ ∀ h19, h19 = ea_wi h10 a16 (Int32.toNatClampNeg x1) (-1) → a3 < ea_n h19 ∧ ea_c h19 a3 = 12 ∧ ∃ a25, (ea_r h19 a3 66) = some a25 ∧ a25 < ea_n h19 ∧ ea_c h19 a25 = 20 ∧ vp_in x1 (ea_l h19 a25) ∧ ((ea_i h19 a25 (Int32.toNatClampNeg x1)) = x3 → a3 < ea_n h19 ∧ ea_c h19 a3 = 12 ∧ ∃ a32, (ea_r h19 a3 80) = some a32 ∧ a32 < ea_n h19 ∧ ea_c h19 a32 = 21 ∧ vp_in x1 (ea_l h19 a32) ∧ ((ea_i h19 a32 (Int32.toNatClampNeg x1)) = (0 : Int32) → ea_W mX12_putsDown d h0 rv hE 45 [(0, vR r0), (1, vI x1), (3, vI x3)] [vI 2, vI x2, vI x1, vR r0] h19) ∧ (¬ (ea_i h19 a32 (Int32.toNatClampNeg x1)) = (0 : Int32) → ea_W mX12_putsDown d h0 rv hE 45 [(0, vR r0), (1, vI x1), (3, vI x3)] [vI 3, vI x2, vI x1, vR r0] h19)) ∧ (¬ (ea_i h19 a25 (Int32.toNatClampNeg x1)) = x3 → ea_W mX12_putsDown d h0 rv hE 45 [(0, vR r0), (1, vI x1), (3, vI x3)] [vI 0, vI x2, vI x1, vR r0] h19)) : ea_W mX12_putsDown d h0 rv hE 0 [(0, vR r0), (1, vI x1), (2, vI x2), (3, vI x3)] [] h := by
  refine ea_aload_n (pc := 0) dX12_putsDown_0 rfl 0 rfl ?_
  obtain ⟨a3, e4, f1, g2, H⟩ := H
  refine ea_deref0 e4 ?_
  refine ea_getR (pc := 1) dX12_putsDown_1 ec_12 (k := 87) (Nat.le_of_ble_eq_true rfl) rfl (Or.inl ew_1432) f1 g2 rfl ?_
  refine ea_iload_n (pc := 4) dX12_putsDown_4 rfl 1 rfl ?_
  refine ea_iconst (pc := 5) dX12_putsDown_5 (v := 0) rfl ?_
  obtain ⟨a7, e8, f5, g6, H⟩ := H
  refine ea_deref2 e8 ?_
  obtain ⟨z9, H⟩ := H
  refine ea_zast (pc := 6) dX12_putsDown_6 (y := 0) (ea_bn (Or.inl rfl)) f5 g6 z9 ?_
  obtain ⟨h10, E11⟩ : ∃ z, z = ea_wi h a7 (Int32.toNatClampNeg x1) 0 := ⟨_, rfl⟩
  have H := H h10 E11
  refine ea_nm E11 ?_
  refine ea_aload_n (pc := 7) dX12_putsDown_7 rfl 0 rfl ?_
  obtain ⟨f12, g13, H⟩ := H
  refine ea_deref0 e4 ?_
  refine ea_getR (pc := 8) dX12_putsDown_8 ec_12 (k := 83) (Nat.le_of_ble_eq_true rfl) rfl (Or.inl ew_1428) f12 g13 rfl ?_
  refine ea_iload_n (pc := 11) dX12_putsDown_11 rfl 1 rfl ?_
  refine ea_iconst (pc := 12) dX12_putsDown_12 (v := (-1)) rfl ?_
  obtain ⟨a16, e17, f14, g15, H⟩ := H
  refine ea_deref2 e17 ?_
  obtain ⟨z18, H⟩ := H
  refine ea_iast (pc := 13) dX12_putsDown_13 f14 g15 z18 ?_
  obtain ⟨h19, E20⟩ : ∃ z, z = ea_wi h10 a16 (Int32.toNatClampNeg x1) (-1) := ⟨_, rfl⟩
  have H := H h19 E20
  refine ea_nm E20 ?_
  refine ea_aload_n (pc := 14) dX12_putsDown_14 rfl 0 rfl ?_
  refine ea_iload_n (pc := 15) dX12_putsDown_15 rfl 1 rfl ?_
  refine ea_iload_n (pc := 16) dX12_putsDown_16 rfl 2 rfl ?_
  refine ea_aload_n (pc := 17) dX12_putsDown_17 rfl 0 rfl ?_
  obtain ⟨f21, g22, H⟩ := H
  refine ea_deref0 e4 ?_
  refine ea_getR (pc := 18) dX12_putsDown_18 ec_12 (k := 66) (Nat.le_of_ble_eq_true rfl) rfl (Or.inl ew_1411) f21 g22 rfl ?_
  refine ea_iload_n (pc := 21) dX12_putsDown_21 rfl 1 rfl ?_
  obtain ⟨a25, e26, f23, g24, H⟩ := H
  refine ea_deref1 e26 ?_
  obtain ⟨z27, H⟩ := H
  refine ea_iald (pc := 22) dX12_putsDown_22 f23 g24 z27 ?_
  refine ea_iload_n (pc := 23) dX12_putsDown_23 rfl 3 rfl ?_
  refine ea_icmp_eq (pc := 24) (tgt := 31) dX12_putsDown_24 rfl (fun c36 => ?_) (fun c36 => ?_)
  · have H := H.1 c36
    refine ea_aload_n (pc := 31) dX12_putsDown_31 rfl 0 rfl ?_
    obtain ⟨f28, g29, H⟩ := H
    refine ea_deref0 e4 ?_
    refine ea_getR (pc := 32) dX12_putsDown_32 ec_12 (k := 80) (Nat.le_of_ble_eq_true rfl) rfl (Or.inl ew_1425) f28 g29 rfl ?_
    refine ea_iload_n (pc := 35) dX12_putsDown_35 rfl 1 rfl ?_
    obtain ⟨a32, e33, f30, g31, H⟩ := H
    refine ea_deref1 e33 ?_
    obtain ⟨z34, H⟩ := H
    refine ea_zald (pc := 36) dX12_putsDown_36 f30 g31 z34 ?_
    refine ea_if_eq (pc := 37) (tgt := 44) dX12_putsDown_37 rfl (fun c35 => ?_) (fun c35 => ?_)
    · have H := H.1 c35
      refine ea_iconst (pc := 44) dX12_putsDown_44 (v := 2) rfl ?_
      exact ea_fewer [0, 1, 3] rfl H
    · have H := H.2 c35
      refine ea_iconst (pc := 40) dX12_putsDown_40 (v := 3) rfl ?_
      refine ea_goto (pc := 41) (tgt := 45) dX12_putsDown_41 rfl ?_
      exact ea_fewer [0, 1, 3] rfl H
  · have H := H.2 c36
    refine ea_iconst (pc := 27) dX12_putsDown_27 (v := 0) rfl ?_
    refine ea_goto (pc := 28) (tgt := 45) dX12_putsDown_28 rfl ?_
    exact ea_fewer [0, 1, 3] rfl H
theorem bX12_putsDown_45 {d : Nat} {h0 hE h : ea_H} {rv : Option ea_V} {r0 : Option Nat} {x1 : Int32} {x3 : Int32} {sx0 : Int32} {sx1 : Int32} {sx2 : Int32} {sr3 : Option Nat} (H : ∃ a7, sr3 = some a7 ∧ a7 < ea_n h ∧ ea_c h a7 = 12 ∧ ∃ (d1 : Nat) (h2 : ea_H), ea_Met mX12_turns d1 [vR (some a7), vI sx2, vI sx1, vI sx0, vI x3] h none h2 ∧ d1 + 1 ≤ d ∧ ∃ a11, r0 = some a11 ∧ a11 < ea_n h2 ∧ ea_c h2 a11 = 12 ∧ ∃ a15, (ea_r h2 a11 81) = some a15 ∧ a15 < ea_n h2 ∧ ea_c h2 a15 = 20 ∧ vp_in x1 (ea_l h2 a15) ∧ (¬ (ea_i h2 a15 (Int32.toNatClampNeg x1)) = (3 : Int32) → rv = none ∧ hE = h2) ∧ ((ea_i h2 a15 (Int32.toNatClampNeg x1)) = (3 : Int32) → a11 < ea_n h2 ∧ ea_c h2 a11 = 12 ∧ ∃ a22, (ea_r h2 a11 77) = some a22 ∧ a22 < ea_n h2 ∧ ea_c h2 a22 = 20 ∧ vp_in x1 (ea_l h2 a22) ∧ ∀ h25, h25 = ea_wi h2 a22 (Int32.toNatClampNeg x1) 0 → rv = none ∧ hE = h25)) : ea_W mX12_putsDown d h0 rv hE 45 [(0, vR r0), (1, vI x1), (3, vI x3)] [vI sx0, vI sx1, vI sx2, vR sr3] h := by
  refine ea_iload_n (pc := 45) dX12_putsDown_45 rfl 2 rfl ?_
  obtain ⟨a7, e8, f5, g6, H⟩ := H
  refine ea_deref4 e8 ?_
  obtain ⟨d1, h2, m3, q4, H⟩ := H
  refine ea_callV (pc := 46) (As := [vI sx2, vI sx1, vI sx0, vI x3]) (st := []) dX12_putsDown_46 kX12_turns m3 q4 rfl (Nat.le_of_ble_eq_true rfl) ew_2011 ew_2013 ew_88 (ci := 12) rfl (by decide) f5 g6 ?_
  refine ea_aload_n (pc := 49) dX12_putsDown_49 rfl 0 rfl ?_
  obtain ⟨a11, e12, f9, g10, H⟩ := H
  refine ea_deref0 e12 ?_
  refine ea_getR (pc := 50) dX12_putsDown_50 ec_12 (k := 81) (Nat.le_of_ble_eq_true rfl) rfl (Or.inl ew_1426) f9 g10 rfl ?_
  refine ea_iload_n (pc := 53) dX12_putsDown_53 rfl 1 rfl ?_
  obtain ⟨a15, e16, f13, g14, H⟩ := H
  refine ea_deref1 e16 ?_
  obtain ⟨z17, H⟩ := H
  refine ea_iald (pc := 54) dX12_putsDown_54 f13 g14 z17 ?_
  refine ea_iconst (pc := 55) dX12_putsDown_55 (v := 3) rfl ?_
  refine ea_icmp_ne (pc := 56) (tgt := 66) dX12_putsDown_56 rfl (fun c27 => ?_) (fun c27 => ?_)
  · have H := H.1 c27
    obtain ⟨rfl, rfl⟩ := H
    exact ea_return (pc := 66) dX12_putsDown_66 rfl
  · have H := H.2 c27
    refine ea_aload_n (pc := 59) dX12_putsDown_59 rfl 0 rfl ?_
    obtain ⟨f18, g19, H⟩ := H
    refine ea_deref0 e12 ?_
    refine ea_getR (pc := 60) dX12_putsDown_60 ec_12 (k := 77) (Nat.le_of_ble_eq_true rfl) rfl (Or.inl ew_1422) f18 g19 rfl ?_
    refine ea_iload_n (pc := 63) dX12_putsDown_63 rfl 1 rfl ?_
    refine ea_iconst (pc := 64) dX12_putsDown_64 (v := 0) rfl ?_
    obtain ⟨a22, e23, f20, g21, H⟩ := H
    refine ea_deref2 e23 ?_
    obtain ⟨z24, H⟩ := H
    refine ea_iast (pc := 65) dX12_putsDown_65 f20 g21 z24 ?_
    obtain ⟨h25, E26⟩ : ∃ z, z = ea_wi h2 a22 (Int32.toNatClampNeg x1) 0 := ⟨_, rfl⟩
    have H := H h25 E26
    refine ea_nm E26 ?_
    obtain ⟨rfl, rfl⟩ := H
    exact ea_return (pc := 66) dX12_putsDown_66 rfl
theorem dX12_coming_0 : decode cX12_coming 0 = .ok (.aload_n 0, 1) := by decide +kernel
theorem dX12_coming_1 : decode cX12_coming 1 = .ok (.getfield 44, 3) := by decide +kernel
theorem dX12_coming_4 : decode cX12_coming 4 = .ok (.iload_n 1, 1) := by decide +kernel
theorem dX12_coming_5 : decode cX12_coming 5 = .ok (.iaload, 1) := by decide +kernel
theorem dX12_coming_6 : decode cX12_coming 6 = .ok (.istore_n 2, 1) := by decide +kernel
theorem dX12_coming_7 : decode cX12_coming 7 = .ok (.aload_n 0, 1) := by decide +kernel
theorem dX12_coming_8 : decode cX12_coming 8 = .ok (.getfield 47, 3) := by decide +kernel
theorem dX12_coming_11 : decode cX12_coming 11 = .ok (.iload_n 1, 1) := by decide +kernel
theorem dX12_coming_12 : decode cX12_coming 12 = .ok (.iaload, 1) := by decide +kernel
theorem dX12_coming_13 : decode cX12_coming 13 = .ok (.istore_n 3, 1) := by decide +kernel
theorem dX12_coming_14 : decode cX12_coming 14 = .ok (.iload_n 3, 1) := by decide +kernel
theorem dX12_coming_15 : decode cX12_coming 15 = .ok (.aload_n 0, 1) := by decide +kernel
theorem dX12_coming_16 : decode cX12_coming 16 = .ok (.getfield 13, 3) := by decide +kernel
theorem dX12_coming_19 : decode cX12_coming 19 = .ok (.iload_n 2, 1) := by decide +kernel
theorem dX12_coming_20 : decode cX12_coming 20 = .ok (.bipush 7, 2) := by decide +kernel
theorem dX12_coming_22 : decode cX12_coming 22 = .ok (.idiv, 1) := by decide +kernel
theorem dX12_coming_23 : decode cX12_coming 23 = .ok (.iaload, 1) := by decide +kernel
theorem dX12_coming_24 : decode cX12_coming 24 = .ok (.iconst 1, 1) := by decide +kernel
theorem dX12_coming_25 : decode cX12_coming 25 = .ok (.isub, 1) := by decide +kernel
theorem dX12_coming_26 : decode cX12_coming 26 = .ok (.if_icmp .ne 7, 3) := by decide +kernel
theorem dX12_coming_29 : decode cX12_coming 29 = .ok (.iconst 1, 1) := by decide +kernel
theorem dX12_coming_30 : decode cX12_coming 30 = .ok (.goto 4, 3) := by decide +kernel
theorem dX12_coming_33 : decode cX12_coming 33 = .ok (.iconst 0, 1) := by decide +kernel
theorem dX12_coming_34 : decode cX12_coming 34 = .ok (.istore 4, 2) := by decide +kernel
theorem dX12_coming_36 : decode cX12_coming 36 = .ok (.aload_n 0, 1) := by decide +kernel
theorem dX12_coming_37 : decode cX12_coming 37 = .ok (.getfield 32, 3) := by decide +kernel
theorem dX12_coming_40 : decode cX12_coming 40 = .ok (.bipush 8, 2) := by decide +kernel
theorem dX12_coming_42 : decode cX12_coming 42 = .ok (.iload_n 2, 1) := by decide +kernel
theorem dX12_coming_43 : decode cX12_coming 43 = .ok (.imul, 1) := by decide +kernel
theorem dX12_coming_44 : decode cX12_coming 44 = .ok (.iload_n 3, 1) := by decide +kernel
theorem dX12_coming_45 : decode cX12_coming 45 = .ok (.iadd, 1) := by decide +kernel
theorem dX12_coming_46 : decode cX12_coming 46 = .ok (.baload, 1) := by decide +kernel
theorem dX12_coming_47 : decode cX12_coming 47 = .ok (.ifCond .eq 4, 3) := by decide +kernel
theorem dX12_coming_50 : decode cX12_coming 50 = .ok (.return_, 1) := by decide +kernel
theorem dX12_coming_51 : decode cX12_coming 51 = .ok (.iconst 0, 1) := by decide +kernel
theorem dX12_coming_52 : decode cX12_coming 52 = .ok (.istore 5, 2) := by decide +kernel
theorem dX12_coming_54 : decode cX12_coming 54 = .ok (.iload 5, 2) := by decide +kernel
theorem dX12_coming_56 : decode cX12_coming 56 = .ok (.aload_n 0, 1) := by decide +kernel
theorem dX12_coming_57 : decode cX12_coming 57 = .ok (.getfield 531, 3) := by decide +kernel
theorem dX12_coming_60 : decode cX12_coming 60 = .ok (.if_icmp .ge 118, 3) := by decide +kernel
theorem dX12_coming_63 : decode cX12_coming 63 = .ok (.aload_n 0, 1) := by decide +kernel
theorem dX12_coming_64 : decode cX12_coming 64 = .ok (.iload 5, 2) := by decide +kernel
theorem dX12_coming_66 : decode cX12_coming 66 = .ok (.iload_n 2, 1) := by decide +kernel
theorem dX12_coming_67 : decode cX12_coming 67 = .ok (.invokevirtual 575, 3) := by decide +kernel
theorem dX12_coming_70 : decode cX12_coming 70 = .ok (.ifCond .ne 6, 3) := by decide +kernel
theorem dX12_coming_73 : decode cX12_coming 73 = .ok (.goto 99, 3) := by decide +kernel
theorem dX12_coming_76 : decode cX12_coming 76 = .ok (.aload_n 0, 1) := by decide +kernel
theorem dX12_coming_77 : decode cX12_coming 77 = .ok (.getfield 195, 3) := by decide +kernel
theorem dX12_coming_80 : decode cX12_coming 80 = .ok (.iload 5, 2) := by decide +kernel
theorem dX12_coming_82 : decode cX12_coming 82 = .ok (.baload, 1) := by decide +kernel
theorem dX12_coming_83 : decode cX12_coming 83 = .ok (.ifCond .eq 35, 3) := by decide +kernel
theorem dX12_coming_86 : decode cX12_coming 86 = .ok (.aload_n 0, 1) := by decide +kernel
theorem dX12_coming_87 : decode cX12_coming 87 = .ok (.getfield 183, 3) := by decide +kernel
theorem dX12_coming_90 : decode cX12_coming 90 = .ok (.iload 5, 2) := by decide +kernel
theorem dX12_coming_92 : decode cX12_coming 92 = .ok (.iaload, 1) := by decide +kernel
theorem dX12_coming_93 : decode cX12_coming 93 = .ok (.iload_n 3, 1) := by decide +kernel
theorem dX12_coming_94 : decode cX12_coming 94 = .ok (.if_icmp .gt 24, 3) := by decide +kernel
theorem dX12_coming_97 : decode cX12_coming 97 = .ok (.aload_n 0, 1) := by decide +kernel
theorem dX12_coming_98 : decode cX12_coming 98 = .ok (.iload 5, 2) := by decide +kernel
theorem dX12_coming_100 : decode cX12_coming 100 = .ok (.aload_n 0, 1) := by decide +kernel
theorem dX12_coming_101 : decode cX12_coming 101 = .ok (.getfield 38, 3) := by decide +kernel
theorem dX12_coming_104 : decode cX12_coming 104 = .ok (.iload_n 1, 1) := by decide +kernel
theorem dX12_coming_105 : decode cX12_coming 105 = .ok (.iaload, 1) := by decide +kernel
theorem dX12_coming_106 : decode cX12_coming 106 = .ok (.aload_n 0, 1) := by decide +kernel
theorem dX12_coming_107 : decode cX12_coming 107 = .ok (.iload_n 2, 1) := by decide +kernel
theorem dX12_coming_108 : decode cX12_coming 108 = .ok (.iload_n 3, 1) := by decide +kernel
theorem dX12_coming_109 : decode cX12_coming 109 = .ok (.invokevirtual 349, 3) := by decide +kernel
theorem dX12_coming_112 : decode cX12_coming 112 = .ok (.invokevirtual 578, 3) := by decide +kernel
theorem dX12_coming_115 : decode cX12_coming 115 = .ok (.goto 57, 3) := by decide +kernel
theorem dX12_coming_118 : decode cX12_coming 118 = .ok (.iload 4, 2) := by decide +kernel
theorem dX12_coming_120 : decode cX12_coming 120 = .ok (.ifCond .eq 52, 3) := by decide +kernel
theorem dX12_coming_123 : decode cX12_coming 123 = .ok (.aload_n 0, 1) := by decide +kernel
theorem dX12_coming_124 : decode cX12_coming 124 = .ok (.getfield 195, 3) := by decide +kernel
theorem dX12_coming_127 : decode cX12_coming 127 = .ok (.iload 5, 2) := by decide +kernel
theorem dX12_coming_129 : decode cX12_coming 129 = .ok (.baload, 1) := by decide +kernel
theorem dX12_coming_130 : decode cX12_coming 130 = .ok (.ifCond .ne 24, 3) := by decide +kernel
theorem dX12_coming_133 : decode cX12_coming 133 = .ok (.aload_n 0, 1) := by decide +kernel
theorem dX12_coming_134 : decode cX12_coming 134 = .ok (.getfield 186, 3) := by decide +kernel
theorem dX12_coming_137 : decode cX12_coming 137 = .ok (.iload 5, 2) := by decide +kernel
theorem dX12_coming_139 : decode cX12_coming 139 = .ok (.dup2, 1) := by decide +kernel
theorem dX12_coming_140 : decode cX12_coming 140 = .ok (.iaload, 1) := by decide +kernel
theorem dX12_coming_141 : decode cX12_coming 141 = .ok (.iconst 1, 1) := by decide +kernel
theorem dX12_coming_142 : decode cX12_coming 142 = .ok (.iadd, 1) := by decide +kernel
theorem dX12_coming_143 : decode cX12_coming 143 = .ok (.iastore, 1) := by decide +kernel
theorem dX12_coming_144 : decode cX12_coming 144 = .ok (.aload_n 0, 1) := by decide +kernel
theorem dX12_coming_145 : decode cX12_coming 145 = .ok (.getfield 192, 3) := by decide +kernel
theorem dX12_coming_148 : decode cX12_coming 148 = .ok (.iload_n 2, 1) := by decide +kernel
theorem dX12_coming_149 : decode cX12_coming 149 = .ok (.dup2, 1) := by decide +kernel
theorem dX12_coming_150 : decode cX12_coming 150 = .ok (.iaload, 1) := by decide +kernel
theorem dX12_coming_151 : decode cX12_coming 151 = .ok (.iconst 1, 1) := by decide +kernel
theorem dX12_coming_152 : decode cX12_coming 152 = .ok (.iadd, 1) := by decide +kernel
theorem dX12_coming_153 : decode cX12_coming 153 = .ok (.iastore, 1) := by decide +kernel
theorem dX12_coming_154 : decode cX12_coming 154 = .ok (.aload_n 0, 1) := by decide +kernel
theorem dX12_coming_155 : decode cX12_coming 155 = .ok (.iload 5, 2) := by decide +kernel
theorem dX12_coming_157 : decode cX12_coming 157 = .ok (.aload_n 0, 1) := by decide +kernel
theorem dX12_coming_158 : decode cX12_coming 158 = .ok (.getfield 38, 3) := by decide +kernel
theorem dX12_coming_161 : decode cX12_coming 161 = .ok (.iload_n 1, 1) := by decide +kernel
theorem dX12_coming_162 : decode cX12_coming 162 = .ok (.iaload, 1) := by decide +kernel
theorem dX12_coming_163 : decode cX12_coming 163 = .ok (.aload_n 0, 1) := by decide +kernel
theorem dX12_coming_164 : decode cX12_coming 164 = .ok (.iload_n 2, 1) := by decide +kernel
theorem dX12_coming_165 : decode cX12_coming 165 = .ok (.iload_n 3, 1) := by decide +kernel
theorem dX12_coming_166 : decode cX12_coming 166 = .ok (.invokevirtual 349, 3) := by decide +kernel
theorem dX12_coming_169 : decode cX12_coming 169 = .ok (.invokevirtual 578, 3) := by decide +kernel
theorem dX12_coming_172 : decode cX12_coming 172 = .ok (.iinc 5 1, 3) := by decide +kernel
theorem dX12_coming_175 : decode cX12_coming 175 = .ok (.goto (-121), 3) := by decide +kernel
theorem dX12_coming_178 : decode cX12_coming 178 = .ok (.return_, 1) := by decide +kernel
theorem bX12_coming_0 {d : Nat} {h0 hE h : ea_H} {rv : Option ea_V} {r0 : Option Nat} {x1 : Int32} (H : ∃ a3, r0 = some a3 ∧ a3 < ea_n h ∧ ea_c h a3 = 12 ∧ ∃ a7, (ea_r h a3 16) = some a7 ∧ a7 < ea_n h ∧ ea_c h a7 = 20 ∧ vp_in x1 (ea_l h a7) ∧ a3 < ea_n h ∧ ea_c h a3 = 12 ∧ ∃ a14, (ea_r h a3 17) = some a14 ∧ a14 < ea_n h ∧ ea_c h a14 = 20 ∧ vp_in x1 (ea_l h a14) ∧ a3 < ea_n h ∧ ea_c h a3 = 12 ∧ ∃ a21, (ea_r h a3 4) = some a21 ∧ a21 < ea_n h ∧ ea_c h a21 = 20 ∧ vp_in ((ea_i h a7 (Int32.toNatClampNeg x1)) / (7 : Int32)) (ea_l h a21) ∧ (¬ (ea_i h a14 (Int32.toNatClampNeg x1)) = ((ea_i h a21 (Int32.toNatClampNeg ((ea_i h a7 (Int32.toNatClampNeg x1)) / (7 : Int32)))) - (1 : Int32)) → ea_W mX12_coming d h0 rv hE 34 [(0, vR r0), (1, vI x1), (2, vI (ea_i h a7 (Int32.toNatClampNeg x1))), (3, vI (ea_i h a14 (Int32.toNatClampNeg x1)))] [vI 0] h) ∧ ((ea_i h a14 (Int32.toNatClampNeg x1)) = ((ea_i h a21 (Int32.toNatClampNeg ((ea_i h a7 (Int32.toNatClampNeg x1)) / (7 : Int32)))) - (1 : Int32)) → ea_W mX12_coming d h0 rv hE 34 [(0, vR r0), (1, vI x1), (2, vI (ea_i h a7 (Int32.toNatClampNeg x1))), (3, vI (ea_i h a14 (Int32.toNatClampNeg x1)))] [vI 1] h)) : ea_W mX12_coming d h0 rv hE 0 [(0, vR r0), (1, vI x1)] [] h := by
  refine ea_aload_n (pc := 0) dX12_coming_0 rfl 0 rfl ?_
  obtain ⟨a3, e4, f1, g2, H⟩ := H
  refine ea_deref0 e4 ?_
  refine ea_getR (pc := 1) dX12_coming_1 ec_12 (k := 16) (Nat.le_of_ble_eq_true rfl) rfl (Or.inl ew_1361) f1 g2 rfl ?_
  refine ea_iload_n (pc := 4) dX12_coming_4 rfl 1 rfl ?_
  obtain ⟨a7, e8, f5, g6, H⟩ := H
  refine ea_deref1 e8 ?_
  obtain ⟨z9, H⟩ := H
  refine ea_iald (pc := 5) dX12_coming_5 f5 g6 z9 ?_
  refine ea_istore_n (pc := 6) (lv' := [(0, vR r0), (1, vI x1), (2, vI (ea_i h a7 (Int32.toNatClampNeg x1)))]) dX12_coming_6 rfl (Nat.le_of_ble_eq_true rfl) [1, 2, 0] rfl ?_
  refine ea_aload_n (pc := 7) dX12_coming_7 rfl 0 rfl ?_
  obtain ⟨f10, g11, H⟩ := H
  refine ea_deref0 e4 ?_
  refine ea_getR (pc := 8) dX12_coming_8 ec_12 (k := 17) (Nat.le_of_ble_eq_true rfl) rfl (Or.inl ew_1362) f10 g11 rfl ?_
  refine ea_iload_n (pc := 11) dX12_coming_11 rfl 1 rfl ?_
  obtain ⟨a14, e15, f12, g13, H⟩ := H
  refine ea_deref1 e15 ?_
  obtain ⟨z16, H⟩ := H
  refine ea_iald (pc := 12) dX12_coming_12 f12 g13 z16 ?_
  refine ea_istore_n (pc := 13) (lv' := [(0, vR r0), (1, vI x1), (2, vI (ea_i h a7 (Int32.toNatClampNeg x1))), (3, vI (ea_i h a14 (Int32.toNatClampNeg x1)))]) dX12_coming_13 rfl (Nat.le_of_ble_eq_true rfl) [1, 2, 3, 0] rfl ?_
  refine ea_iload_n (pc := 14) dX12_coming_14 rfl 3 rfl ?_
  refine ea_aload_n (pc := 15) dX12_coming_15 rfl 0 rfl ?_
  obtain ⟨f17, g18, H⟩ := H
  refine ea_deref0 e4 ?_
  refine ea_getR (pc := 16) dX12_coming_16 ec_12 (k := 4) (Nat.le_of_ble_eq_true rfl) rfl (Or.inl ew_1349) f17 g18 rfl ?_
  refine ea_iload_n (pc := 19) dX12_coming_19 rfl 2 rfl ?_
  refine ea_bipush (pc := 20) dX12_coming_20 (v := 7) rfl ?_
  refine ea_idiv (pc := 22) dX12_coming_22 (by decide) ?_
  obtain ⟨a21, e22, f19, g20, H⟩ := H
  refine ea_deref1 e22 ?_
  obtain ⟨z23, H⟩ := H
  refine ea_iald (pc := 23) dX12_coming_23 f19 g20 z23 ?_
  refine ea_iconst (pc := 24) dX12_coming_24 (v := 1) rfl ?_
  refine ea_isub (pc := 25) dX12_coming_25 ?_
  refine ea_icmp_ne (pc := 26) (tgt := 33) dX12_coming_26 rfl (fun c24 => ?_) (fun c24 => ?_)
  · have H := H.1 c24
    refine ea_iconst (pc := 33) dX12_coming_33 (v := 0) rfl ?_
    exact H
  · have H := H.2 c24
    refine ea_iconst (pc := 29) dX12_coming_29 (v := 1) rfl ?_
    refine ea_goto (pc := 30) (tgt := 34) dX12_coming_30 rfl ?_
    exact H
theorem bX12_coming_34 {d : Nat} {h0 hE h : ea_H} {rv : Option ea_V} {r0 : Option Nat} {x1 : Int32} {x2 : Int32} {x3 : Int32} {sx0 : Int32} (H : ∃ a3, r0 = some a3 ∧ a3 < ea_n h ∧ ea_c h a3 = 12 ∧ ∃ a7, (ea_r h a3 10) = some a7 ∧ a7 < ea_n h ∧ ea_c h a7 = 21 ∧ vp_in (((8 : Int32) * x2) + x3) (ea_l h a7) ∧ ((ea_i h a7 (Int32.toNatClampNeg (((8 : Int32) * x2) + x3))) = (0 : Int32) → ea_W mX12_coming d h0 rv hE 54 [(0, vR r0), (1, vI x1), (2, vI x2), (3, vI x3), (4, vI sx0), (5, vI 0)] [] h) ∧ (¬ (ea_i h a7 (Int32.toNatClampNeg (((8 : Int32) * x2) + x3))) = (0 : Int32) → rv = none ∧ hE = h)) : ea_W mX12_coming d h0 rv hE 34 [(0, vR r0), (1, vI x1), (2, vI x2), (3, vI x3)] [vI sx0] h := by
  refine ea_istore (pc := 34) (lv' := [(0, vR r0), (1, vI x1), (2, vI x2), (3, vI x3), (4, vI sx0)]) dX12_coming_34 (Nat.le_of_ble_eq_true rfl) [1, 2, 3, 4, 0] rfl ?_
  refine ea_aload_n (pc := 36) dX12_coming_36 rfl 0 rfl ?_
  obtain ⟨a3, e4, f1, g2, H⟩ := H
  refine ea_deref0 e4 ?_
  refine ea_getR (pc := 37) dX12_coming_37 ec_12 (k := 10) (Nat.le_of_ble_eq_true rfl) rfl (Or.inl ew_1355) f1 g2 rfl ?_
  refine ea_bipush (pc := 40) dX12_coming_40 (v := 8) rfl ?_
  refine ea_iload_n (pc := 42) dX12_coming_42 rfl 2 rfl ?_
  refine ea_imul (pc := 43) dX12_coming_43 ?_
  refine ea_iload_n (pc := 44) dX12_coming_44 rfl 3 rfl ?_
  refine ea_iadd (pc := 45) dX12_coming_45 ?_
  obtain ⟨a7, e8, f5, g6, H⟩ := H
  refine ea_deref1 e8 ?_
  obtain ⟨z9, H⟩ := H
  refine ea_zald (pc := 46) dX12_coming_46 f5 g6 z9 ?_
  refine ea_if_eq (pc := 47) (tgt := 51) dX12_coming_47 rfl (fun c10 => ?_) (fun c10 => ?_)
  · have H := H.1 c10
    refine ea_iconst (pc := 51) dX12_coming_51 (v := 0) rfl ?_
    refine ea_istore (pc := 52) (lv' := [(0, vR r0), (1, vI x1), (2, vI x2), (3, vI x3), (4, vI sx0), (5, vI 0)]) dX12_coming_52 (Nat.le_of_ble_eq_true rfl) [1, 2, 3, 4, 5, 0] rfl ?_
    exact H
  · have H := H.2 c10
    obtain ⟨rfl, rfl⟩ := H
    exact ea_return (pc := 50) dX12_coming_50 rfl
theorem bX12_coming_54 {d : Nat} {h0 hE h : ea_H} {rv : Option ea_V} {r0 : Option Nat} {x1 : Int32} {x2 : Int32} {x3 : Int32} {x4 : Int32} {x5 : Int32} (H : ∃ a3, r0 = some a3 ∧ a3 < ea_n h ∧ ea_c h a3 = 12 ∧ ((ea_i h a3 63) ≤ x5 → rv = none ∧ hE = h) ∧ (¬ (ea_i h a3 63) ≤ x5 → a3 < ea_n h ∧ ea_c h a3 = 12 ∧ ∃ (d5 : Nat) (xc11 : Int32) (h6 : ea_H), ea_Met mX12_isAboard d5 [vR (some a3), vI x5, vI x2] h (some (vI xc11)) h6 ∧ d5 + 1 ≤ d ∧ (¬ xc11 = (0 : Int32) → a3 < ea_n h6 ∧ ea_c h6 a3 = 12 ∧ ∃ a16, (ea_r h6 a3 87) = some a16 ∧ a16 < ea_n h6 ∧ ea_c h6 a16 = 21 ∧ vp_in x5 (ea_l h6 a16) ∧ ((ea_i h6 a16 (Int32.toNatClampNeg x5)) = (0 : Int32) → ea_W mX12_coming d h0 rv hE 118 [(0, vR r0), (1, vI x1), (2, vI x2), (3, vI x3), (4, vI x4), (5, vI x5)] [] h6) ∧ (¬ (ea_i h6 a16 (Int32.toNatClampNeg x5)) = (0 : Int32) → a3 < ea_n h6 ∧ ea_c h6 a3 = 12 ∧ ∃ a23, (ea_r h6 a3 83) = some a23 ∧ a23 < ea_n h6 ∧ ea_c h6 a23 = 20 ∧ vp_in x5 (ea_l h6 a23) ∧ (x3 < (ea_i h6 a23 (Int32.toNatClampNeg x5)) → ea_W mX12_coming d h0 rv hE 118 [(0, vR r0), (1, vI x1), (2, vI x2), (3, vI x3), (4, vI x4), (5, vI x5)] [] h6) ∧ (¬ x3 < (ea_i h6 a23 (Int32.toNatClampNeg x5)) → a3 < ea_n h6 ∧ ea_c h6 a3 = 12 ∧ ∃ a30, (ea_r h6 a3 14) = some a30 ∧ a30 < ea_n h6 ∧ ea_c h6 a30 = 20 ∧ vp_in x1 (ea_l h6 a30) ∧ a3 < ea_n h6 ∧ ea_c h6 a3 = 12 ∧ ∃ (d33 : Nat) (xc39 : Int32) (h34 : ea_H), ea_Met mX12_townOf d33 [vR (some a3), vI x2, vI x3] h6 (some (vI xc39)) h34 ∧ d33 + 1 ≤ d ∧ a3 < ea_n h34 ∧ ea_c h34 a3 = 12 ∧ ∃ (d40 : Nat) (h41 : ea_H), ea_Met mX12_putsDown d40 [vR (some a3), vI x5, vI (ea_i h6 a30 (Int32.toNatClampNeg x1)), vI xc39] h34 none h41 ∧ d40 + 1 ≤ d ∧ ea_W mX12_coming d h0 rv hE 54 [(0, vR r0), (1, vI x1), (2, vI x2), (3, vI x3), (4, vI x4), (5, vI (x5 + 1))] [] h41))) ∧ (xc11 = (0 : Int32) → ea_W mX12_coming d h0 rv hE 54 [(0, vR r0), (1, vI x1), (2, vI x2), (3, vI x3), (4, vI x4), (5, vI (x5 + 1))] [] h6))) : ea_W mX12_coming d h0 rv hE 54 [(0, vR r0), (1, vI x1), (2, vI x2), (3, vI x3), (4, vI x4), (5, vI x5)] [] h := by
  refine ea_iload (pc := 54) dX12_coming_54 5 rfl ?_
  refine ea_aload_n (pc := 56) dX12_coming_56 rfl 0 rfl ?_
  obtain ⟨a3, e4, f1, g2, H⟩ := H
  refine ea_deref0 e4 ?_
  refine ea_getI (pc := 57) dX12_coming_57 ec_12 (k := 63) (Nat.le_of_ble_eq_true rfl) rfl (Or.inl ew_1408) f1 g2 ?_
  refine ea_icmp_ge (pc := 60) (tgt := 178) dX12_coming_60 rfl (fun c49 => ?_) (fun c49 => ?_)
  · have H := H.1 c49
    obtain ⟨rfl, rfl⟩ := H
    exact ea_return (pc := 178) dX12_coming_178 rfl
  · have H := H.2 c49
    refine ea_aload_n (pc := 63) dX12_coming_63 rfl 0 rfl ?_
    refine ea_iload (pc := 64) dX12_coming_64 5 rfl ?_
    refine ea_iload_n (pc := 66) dX12_coming_66 rfl 2 rfl ?_
    obtain ⟨f9, g10, H⟩ := H
    refine ea_deref2 e4 ?_
    obtain ⟨d5, xc11, h6, m7, q8, H⟩ := H
    refine ea_callV (pc := 67) (As := [vI x5, vI x2]) (st := []) dX12_coming_67 kX12_isAboard m7 q8 rfl (Nat.le_of_ble_eq_true rfl) ew_2067 ew_2069 ew_95 (ci := 12) rfl (by decide) f9 g10 ?_
    refine ea_if_ne (pc := 70) (tgt := 76) dX12_coming_70 rfl (fun c48 => ?_) (fun c48 => ?_)
    · have H := H.1 c48
      refine ea_aload_n (pc := 76) dX12_coming_76 rfl 0 rfl ?_
      obtain ⟨f12, g13, H⟩ := H
      refine ea_deref0 e4 ?_
      refine ea_getR (pc := 77) dX12_coming_77 ec_12 (k := 87) (Nat.le_of_ble_eq_true rfl) rfl (Or.inl ew_1432) f12 g13 rfl ?_
      refine ea_iload (pc := 80) dX12_coming_80 5 rfl ?_
      obtain ⟨a16, e17, f14, g15, H⟩ := H
      refine ea_deref1 e17 ?_
      obtain ⟨z18, H⟩ := H
      refine ea_zald (pc := 82) dX12_coming_82 f14 g15 z18 ?_
      refine ea_if_eq (pc := 83) (tgt := 118) dX12_coming_83 rfl (fun c47 => ?_) (fun c47 => ?_)
      · have H := H.1 c47
        exact H
      · have H := H.2 c47
        refine ea_aload_n (pc := 86) dX12_coming_86 rfl 0 rfl ?_
        obtain ⟨f19, g20, H⟩ := H
        refine ea_deref0 e4 ?_
        refine ea_getR (pc := 87) dX12_coming_87 ec_12 (k := 83) (Nat.le_of_ble_eq_true rfl) rfl (Or.inl ew_1428) f19 g20 rfl ?_
        refine ea_iload (pc := 90) dX12_coming_90 5 rfl ?_
        obtain ⟨a23, e24, f21, g22, H⟩ := H
        refine ea_deref1 e24 ?_
        obtain ⟨z25, H⟩ := H
        refine ea_iald (pc := 92) dX12_coming_92 f21 g22 z25 ?_
        refine ea_iload_n (pc := 93) dX12_coming_93 rfl 3 rfl ?_
        refine ea_icmp_gt (pc := 94) (tgt := 118) dX12_coming_94 rfl (fun c46 => ?_) (fun c46 => ?_)
        · have H := H.1 c46
          exact H
        · have H := H.2 c46
          refine ea_aload_n (pc := 97) dX12_coming_97 rfl 0 rfl ?_
          refine ea_iload (pc := 98) dX12_coming_98 5 rfl ?_
          refine ea_aload_n (pc := 100) dX12_coming_100 rfl 0 rfl ?_
          obtain ⟨f26, g27, H⟩ := H
          refine ea_deref0 e4 ?_
          refine ea_getR (pc := 101) dX12_coming_101 ec_12 (k := 14) (Nat.le_of_ble_eq_true rfl) rfl (Or.inl ew_1359) f26 g27 rfl ?_
          refine ea_iload_n (pc := 104) dX12_coming_104 rfl 1 rfl ?_
          obtain ⟨a30, e31, f28, g29, H⟩ := H
          refine ea_deref1 e31 ?_
          obtain ⟨z32, H⟩ := H
          refine ea_iald (pc := 105) dX12_coming_105 f28 g29 z32 ?_
          refine ea_aload_n (pc := 106) dX12_coming_106 rfl 0 rfl ?_
          refine ea_iload_n (pc := 107) dX12_coming_107 rfl 2 rfl ?_
          refine ea_iload_n (pc := 108) dX12_coming_108 rfl 3 rfl ?_
          obtain ⟨f37, g38, H⟩ := H
          refine ea_deref2 e4 ?_
          obtain ⟨d33, xc39, h34, m35, q36, H⟩ := H
          refine ea_callV (pc := 109) (As := [vI x2, vI x3]) (st := [vI (ea_i h6 a30 (Int32.toNatClampNeg x1)), vI x5, vR r0]) dX12_coming_109 kX12_townOf m35 q36 rfl (Nat.le_of_ble_eq_true rfl) ew_1798 ew_1800 ew_60 (ci := 12) rfl (by decide) f37 g38 ?_
          obtain ⟨f44, g45, H⟩ := H
          refine ea_deref3 e4 ?_
          obtain ⟨d40, h41, m42, q43, H⟩ := H
          refine ea_callV (pc := 112) (As := [vI x5, vI (ea_i h6 a30 (Int32.toNatClampNeg x1)), vI xc39]) (st := []) dX12_coming_112 kX12_putsDown m42 q43 rfl (Nat.le_of_ble_eq_true rfl) ew_2074 ew_2076 ew_96 (ci := 12) rfl (by decide) f44 g45 ?_
          refine ea_goto (pc := 115) (tgt := 172) dX12_coming_115 rfl ?_
          refine ea_iinc (pc := 172) (v := 1) (lv' := [(0, vR r0), (1, vI x1), (2, vI x2), (3, vI x3), (4, vI x4), (5, vI (x5 + 1))]) dX12_coming_172 5 rfl rfl (Nat.le_of_ble_eq_true rfl) [1, 2, 3, 4, 5, 0] rfl ?_
          refine ea_goto (pc := 175) (tgt := 54) dX12_coming_175 rfl ?_
          exact H
    · have H := H.2 c48
      refine ea_goto (pc := 73) (tgt := 172) dX12_coming_73 rfl ?_
      refine ea_iinc (pc := 172) (v := 1) (lv' := [(0, vR r0), (1, vI x1), (2, vI x2), (3, vI x3), (4, vI x4), (5, vI (x5 + 1))]) dX12_coming_172 5 rfl rfl (Nat.le_of_ble_eq_true rfl) [1, 2, 3, 4, 5, 0] rfl ?_
      refine ea_goto (pc := 175) (tgt := 54) dX12_coming_175 rfl ?_
      exact H
theorem bX12_coming_118 {d : Nat} {h0 hE h : ea_H} {rv : Option ea_V} {r0 : Option Nat} {x1 : Int32} {x2 : Int32} {x3 : Int32} {x4 : Int32} {x5 : Int32} (H : (x4 = (0 : Int32) → ea_W mX12_coming d h0 rv hE 54 [(0, vR r0), (1, vI x1), (2, vI x2), (3, vI x3), (4, vI x4), (5, vI (x5 + 1))] [] h) ∧ (¬ x4 = (0 : Int32) → ∃ a3, r0 = some a3 ∧ a3 < ea_n h ∧ ea_c h a3 = 12 ∧ ∃ a7, (ea_r h a3 87) = some a7 ∧ a7 < ea_n h ∧ ea_c h a7 = 21 ∧ vp_in x5 (ea_l h a7) ∧ (¬ (ea_i h a7 (Int32.toNatClampNeg x5)) = (0 : Int32) → ea_W mX12_coming d h0 rv hE 154 [(0, vR r0), (1, vI x1), (2, vI x2), (3, vI x3), (4, vI x4), (5, vI x5)] [] h) ∧ ((ea_i h a7 (Int32.toNatClampNeg x5)) = (0 : Int32) → a3 < ea_n h ∧ ea_c h a3 = 12 ∧ ∃ a14, (ea_r h a3 84) = some a14 ∧ a14 < ea_n h ∧ ea_c h a14 = 20 ∧ vp_in x5 (ea_l h a14) ∧ a14 < ea_n h ∧ ea_c h a14 = 20 ∧ vp_in x5 (ea_l h a14) ∧ ∀ h20, h20 = ea_wi h a14 (Int32.toNatClampNeg x5) ((ea_i h a14 (Int32.toNatClampNeg x5)) + (1 : Int32)) → a3 < ea_n h20 ∧ ea_c h20 a3 = 12 ∧ ∃ a26, (ea_r h20 a3 86) = some a26 ∧ a26 < ea_n h20 ∧ ea_c h20 a26 = 20 ∧ vp_in x2 (ea_l h20 a26) ∧ a26 < ea_n h20 ∧ ea_c h20 a26 = 20 ∧ vp_in x2 (ea_l h20 a26) ∧ ∀ h32, h32 = ea_wi h20 a26 (Int32.toNatClampNeg x2) ((ea_i h20 a26 (Int32.toNatClampNeg x2)) + (1 : Int32)) → ea_W mX12_coming d h0 rv hE 154 [(0, vR r0), (1, vI x1), (2, vI x2), (3, vI x3), (4, vI x4), (5, vI x5)] [] h32))) : ea_W mX12_coming d h0 rv hE 118 [(0, vR r0), (1, vI x1), (2, vI x2), (3, vI x3), (4, vI x4), (5, vI x5)] [] h := by
  refine ea_iload (pc := 118) dX12_coming_118 4 rfl ?_
  refine ea_if_eq (pc := 120) (tgt := 172) dX12_coming_120 rfl (fun c35 => ?_) (fun c35 => ?_)
  · have H := H.1 c35
    refine ea_iinc (pc := 172) (v := 1) (lv' := [(0, vR r0), (1, vI x1), (2, vI x2), (3, vI x3), (4, vI x4), (5, vI (x5 + 1))]) dX12_coming_172 5 rfl rfl (Nat.le_of_ble_eq_true rfl) [1, 2, 3, 4, 5, 0] rfl ?_
    refine ea_goto (pc := 175) (tgt := 54) dX12_coming_175 rfl ?_
    exact H
  · have H := H.2 c35
    refine ea_aload_n (pc := 123) dX12_coming_123 rfl 0 rfl ?_
    obtain ⟨a3, e4, f1, g2, H⟩ := H
    refine ea_deref0 e4 ?_
    refine ea_getR (pc := 124) dX12_coming_124 ec_12 (k := 87) (Nat.le_of_ble_eq_true rfl) rfl (Or.inl ew_1432) f1 g2 rfl ?_
    refine ea_iload (pc := 127) dX12_coming_127 5 rfl ?_
    obtain ⟨a7, e8, f5, g6, H⟩ := H
    refine ea_deref1 e8 ?_
    obtain ⟨z9, H⟩ := H
    refine ea_zald (pc := 129) dX12_coming_129 f5 g6 z9 ?_
    refine ea_if_ne (pc := 130) (tgt := 154) dX12_coming_130 rfl (fun c34 => ?_) (fun c34 => ?_)
    · have H := H.1 c34
      exact H
    · have H := H.2 c34
      refine ea_aload_n (pc := 133) dX12_coming_133 rfl 0 rfl ?_
      obtain ⟨f10, g11, H⟩ := H
      refine ea_deref0 e4 ?_
      refine ea_getR (pc := 134) dX12_coming_134 ec_12 (k := 84) (Nat.le_of_ble_eq_true rfl) rfl (Or.inl ew_1429) f10 g11 rfl ?_
      refine ea_iload (pc := 137) dX12_coming_137 5 rfl ?_
      refine ea_dup2 (pc := 139) dX12_coming_139 rfl rfl ?_
      obtain ⟨a14, e15, f12, g13, H⟩ := H
      refine ea_deref1 e15 ?_
      obtain ⟨z16, H⟩ := H
      refine ea_iald (pc := 140) dX12_coming_140 f12 g13 z16 ?_
      refine ea_iconst (pc := 141) dX12_coming_141 (v := 1) rfl ?_
      refine ea_iadd (pc := 142) dX12_coming_142 ?_
      obtain ⟨f17, g18, H⟩ := H
      refine ea_deref2 e15 ?_
      obtain ⟨z19, H⟩ := H
      refine ea_iast (pc := 143) dX12_coming_143 f17 g18 z19 ?_
      obtain ⟨h20, E21⟩ : ∃ z, z = ea_wi h a14 (Int32.toNatClampNeg x5) ((ea_i h a14 (Int32.toNatClampNeg x5)) + (1 : Int32)) := ⟨_, rfl⟩
      have H := H h20 E21
      refine ea_nm E21 ?_
      refine ea_aload_n (pc := 144) dX12_coming_144 rfl 0 rfl ?_
      obtain ⟨f22, g23, H⟩ := H
      refine ea_deref0 e4 ?_
      refine ea_getR (pc := 145) dX12_coming_145 ec_12 (k := 86) (Nat.le_of_ble_eq_true rfl) rfl (Or.inl ew_1431) f22 g23 rfl ?_
      refine ea_iload_n (pc := 148) dX12_coming_148 rfl 2 rfl ?_
      refine ea_dup2 (pc := 149) dX12_coming_149 rfl rfl ?_
      obtain ⟨a26, e27, f24, g25, H⟩ := H
      refine ea_deref1 e27 ?_
      obtain ⟨z28, H⟩ := H
      refine ea_iald (pc := 150) dX12_coming_150 f24 g25 z28 ?_
      refine ea_iconst (pc := 151) dX12_coming_151 (v := 1) rfl ?_
      refine ea_iadd (pc := 152) dX12_coming_152 ?_
      obtain ⟨f29, g30, H⟩ := H
      refine ea_deref2 e27 ?_
      obtain ⟨z31, H⟩ := H
      refine ea_iast (pc := 153) dX12_coming_153 f29 g30 z31 ?_
      obtain ⟨h32, E33⟩ : ∃ z, z = ea_wi h20 a26 (Int32.toNatClampNeg x2) ((ea_i h20 a26 (Int32.toNatClampNeg x2)) + (1 : Int32)) := ⟨_, rfl⟩
      have H := H h32 E33
      refine ea_nm E33 ?_
      exact H
theorem bX12_coming_154 {d : Nat} {h0 hE h : ea_H} {rv : Option ea_V} {r0 : Option Nat} {x1 : Int32} {x2 : Int32} {x3 : Int32} {x4 : Int32} {x5 : Int32} (H : ∃ a3, r0 = some a3 ∧ a3 < ea_n h ∧ ea_c h a3 = 12 ∧ ∃ a7, (ea_r h a3 14) = some a7 ∧ a7 < ea_n h ∧ ea_c h a7 = 20 ∧ vp_in x1 (ea_l h a7) ∧ a3 < ea_n h ∧ ea_c h a3 = 12 ∧ ∃ (d10 : Nat) (xc16 : Int32) (h11 : ea_H), ea_Met mX12_townOf d10 [vR (some a3), vI x2, vI x3] h (some (vI xc16)) h11 ∧ d10 + 1 ≤ d ∧ a3 < ea_n h11 ∧ ea_c h11 a3 = 12 ∧ ∃ (d17 : Nat) (h18 : ea_H), ea_Met mX12_putsDown d17 [vR (some a3), vI x5, vI (ea_i h a7 (Int32.toNatClampNeg x1)), vI xc16] h11 none h18 ∧ d17 + 1 ≤ d ∧ ea_W mX12_coming d h0 rv hE 54 [(0, vR r0), (1, vI x1), (2, vI x2), (3, vI x3), (4, vI x4), (5, vI (x5 + 1))] [] h18) : ea_W mX12_coming d h0 rv hE 154 [(0, vR r0), (1, vI x1), (2, vI x2), (3, vI x3), (4, vI x4), (5, vI x5)] [] h := by
  refine ea_aload_n (pc := 154) dX12_coming_154 rfl 0 rfl ?_
  refine ea_iload (pc := 155) dX12_coming_155 5 rfl ?_
  refine ea_aload_n (pc := 157) dX12_coming_157 rfl 0 rfl ?_
  obtain ⟨a3, e4, f1, g2, H⟩ := H
  refine ea_deref0 e4 ?_
  refine ea_getR (pc := 158) dX12_coming_158 ec_12 (k := 14) (Nat.le_of_ble_eq_true rfl) rfl (Or.inl ew_1359) f1 g2 rfl ?_
  refine ea_iload_n (pc := 161) dX12_coming_161 rfl 1 rfl ?_
  obtain ⟨a7, e8, f5, g6, H⟩ := H
  refine ea_deref1 e8 ?_
  obtain ⟨z9, H⟩ := H
  refine ea_iald (pc := 162) dX12_coming_162 f5 g6 z9 ?_
  refine ea_aload_n (pc := 163) dX12_coming_163 rfl 0 rfl ?_
  refine ea_iload_n (pc := 164) dX12_coming_164 rfl 2 rfl ?_
  refine ea_iload_n (pc := 165) dX12_coming_165 rfl 3 rfl ?_
  obtain ⟨f14, g15, H⟩ := H
  refine ea_deref2 e4 ?_
  obtain ⟨d10, xc16, h11, m12, q13, H⟩ := H
  refine ea_callV (pc := 166) (As := [vI x2, vI x3]) (st := [vI (ea_i h a7 (Int32.toNatClampNeg x1)), vI x5, vR r0]) dX12_coming_166 kX12_townOf m12 q13 rfl (Nat.le_of_ble_eq_true rfl) ew_1798 ew_1800 ew_60 (ci := 12) rfl (by decide) f14 g15 ?_
  obtain ⟨f21, g22, H⟩ := H
  refine ea_deref3 e4 ?_
  obtain ⟨d17, h18, m19, q20, H⟩ := H
  refine ea_callV (pc := 169) (As := [vI x5, vI (ea_i h a7 (Int32.toNatClampNeg x1)), vI xc16]) (st := []) dX12_coming_169 kX12_putsDown m19 q20 rfl (Nat.le_of_ble_eq_true rfl) ew_2074 ew_2076 ew_96 (ci := 12) rfl (by decide) f21 g22 ?_
  refine ea_iinc (pc := 172) (v := 1) (lv' := [(0, vR r0), (1, vI x1), (2, vI x2), (3, vI x3), (4, vI x4), (5, vI (x5 + 1))]) dX12_coming_172 5 rfl rfl (Nat.le_of_ble_eq_true rfl) [1, 2, 3, 4, 5, 0] rfl ?_
  refine ea_goto (pc := 175) (tgt := 54) dX12_coming_175 rfl ?_
  exact H
theorem dX12_leaves_0 : decode cX12_leaves 0 = .ok (.aload_n 0, 1) := by decide +kernel
theorem dX12_leaves_1 : decode cX12_leaves 1 = .ok (.getfield 44, 3) := by decide +kernel
theorem dX12_leaves_4 : decode cX12_leaves 4 = .ok (.iload_n 1, 1) := by decide +kernel
theorem dX12_leaves_5 : decode cX12_leaves 5 = .ok (.iaload, 1) := by decide +kernel
theorem dX12_leaves_6 : decode cX12_leaves 6 = .ok (.istore_n 2, 1) := by decide +kernel
theorem dX12_leaves_7 : decode cX12_leaves 7 = .ok (.aload_n 0, 1) := by decide +kernel
theorem dX12_leaves_8 : decode cX12_leaves 8 = .ok (.getfield 47, 3) := by decide +kernel
theorem dX12_leaves_11 : decode cX12_leaves 11 = .ok (.iload_n 1, 1) := by decide +kernel
theorem dX12_leaves_12 : decode cX12_leaves 12 = .ok (.iaload, 1) := by decide +kernel
theorem dX12_leaves_13 : decode cX12_leaves 13 = .ok (.istore_n 3, 1) := by decide +kernel
theorem dX12_leaves_14 : decode cX12_leaves 14 = .ok (.aload_n 0, 1) := by decide +kernel
theorem dX12_leaves_15 : decode cX12_leaves 15 = .ok (.iload_n 2, 1) := by decide +kernel
theorem dX12_leaves_16 : decode cX12_leaves 16 = .ok (.iload_n 3, 1) := by decide +kernel
theorem dX12_leaves_17 : decode cX12_leaves 17 = .ok (.invokevirtual 349, 3) := by decide +kernel
theorem dX12_leaves_20 : decode cX12_leaves 20 = .ok (.istore 4, 2) := by decide +kernel
theorem dX12_leaves_22 : decode cX12_leaves 22 = .ok (.iconst 0, 1) := by decide +kernel
theorem dX12_leaves_23 : decode cX12_leaves 23 = .ok (.istore 5, 2) := by decide +kernel
theorem dX12_leaves_25 : decode cX12_leaves 25 = .ok (.iload 5, 2) := by decide +kernel
theorem dX12_leaves_27 : decode cX12_leaves 27 = .ok (.aload_n 0, 1) := by decide +kernel
theorem dX12_leaves_28 : decode cX12_leaves 28 = .ok (.getfield 531, 3) := by decide +kernel
theorem dX12_leaves_31 : decode cX12_leaves 31 = .ok (.if_icmp .ge 120, 3) := by decide +kernel
theorem dX12_leaves_34 : decode cX12_leaves 34 = .ok (.aload_n 0, 1) := by decide +kernel
theorem dX12_leaves_35 : decode cX12_leaves 35 = .ok (.getfield 32, 3) := by decide +kernel
theorem dX12_leaves_38 : decode cX12_leaves 38 = .ok (.bipush 8, 2) := by decide +kernel
theorem dX12_leaves_40 : decode cX12_leaves 40 = .ok (.iload_n 2, 1) := by decide +kernel
theorem dX12_leaves_41 : decode cX12_leaves 41 = .ok (.imul, 1) := by decide +kernel
theorem dX12_leaves_42 : decode cX12_leaves 42 = .ok (.iload_n 3, 1) := by decide +kernel
theorem dX12_leaves_43 : decode cX12_leaves 43 = .ok (.iadd, 1) := by decide +kernel
theorem dX12_leaves_44 : decode cX12_leaves 44 = .ok (.baload, 1) := by decide +kernel
theorem dX12_leaves_45 : decode cX12_leaves 45 = .ok (.ifCond .ne 106, 3) := by decide +kernel
theorem dX12_leaves_48 : decode cX12_leaves 48 = .ok (.aload_n 0, 1) := by decide +kernel
theorem dX12_leaves_49 : decode cX12_leaves 49 = .ok (.getfield 177, 3) := by decide +kernel
theorem dX12_leaves_52 : decode cX12_leaves 52 = .ok (.iload 5, 2) := by decide +kernel
theorem dX12_leaves_54 : decode cX12_leaves 54 = .ok (.iaload, 1) := by decide +kernel
theorem dX12_leaves_55 : decode cX12_leaves 55 = .ok (.ifCond .ne 90, 3) := by decide +kernel
theorem dX12_leaves_58 : decode cX12_leaves 58 = .ok (.aload_n 0, 1) := by decide +kernel
theorem dX12_leaves_59 : decode cX12_leaves 59 = .ok (.getfield 180, 3) := by decide +kernel
theorem dX12_leaves_62 : decode cX12_leaves 62 = .ok (.iload 5, 2) := by decide +kernel
theorem dX12_leaves_64 : decode cX12_leaves 64 = .ok (.iaload, 1) := by decide +kernel
theorem dX12_leaves_65 : decode cX12_leaves 65 = .ok (.iload 4, 2) := by decide +kernel
theorem dX12_leaves_67 : decode cX12_leaves 67 = .ok (.if_icmp .ne 78, 3) := by decide +kernel
theorem dX12_leaves_70 : decode cX12_leaves 70 = .ok (.aload_n 0, 1) := by decide +kernel
theorem dX12_leaves_71 : decode cX12_leaves 71 = .ok (.iload 4, 2) := by decide +kernel
theorem dX12_leaves_73 : decode cX12_leaves 73 = .ok (.aload_n 0, 1) := by decide +kernel
theorem dX12_leaves_74 : decode cX12_leaves 74 = .ok (.getfield 38, 3) := by decide +kernel
theorem dX12_leaves_77 : decode cX12_leaves 77 = .ok (.iload_n 1, 1) := by decide +kernel
theorem dX12_leaves_78 : decode cX12_leaves 78 = .ok (.iaload, 1) := by decide +kernel
theorem dX12_leaves_79 : decode cX12_leaves 79 = .ok (.aload_n 0, 1) := by decide +kernel
theorem dX12_leaves_80 : decode cX12_leaves 80 = .ok (.getfield 132, 3) := by decide +kernel
theorem dX12_leaves_83 : decode cX12_leaves 83 = .ok (.iload 5, 2) := by decide +kernel
theorem dX12_leaves_85 : decode cX12_leaves 85 = .ok (.iaload, 1) := by decide +kernel
theorem dX12_leaves_86 : decode cX12_leaves 86 = .ok (.invokevirtual 361, 3) := by decide +kernel
theorem dX12_leaves_89 : decode cX12_leaves 89 = .ok (.iload_n 1, 1) := by decide +kernel
theorem dX12_leaves_90 : decode cX12_leaves 90 = .ok (.if_icmp .eq 6, 3) := by decide +kernel
theorem dX12_leaves_93 : decode cX12_leaves 93 = .ok (.goto 52, 3) := by decide +kernel
theorem dX12_leaves_96 : decode cX12_leaves 96 = .ok (.aload_n 0, 1) := by decide +kernel
theorem dX12_leaves_97 : decode cX12_leaves 97 = .ok (.getfield 183, 3) := by decide +kernel
theorem dX12_leaves_100 : decode cX12_leaves 100 = .ok (.iload 5, 2) := by decide +kernel
theorem dX12_leaves_102 : decode cX12_leaves 102 = .ok (.aload_n 0, 1) := by decide +kernel
theorem dX12_leaves_103 : decode cX12_leaves 103 = .ok (.getfield 59, 3) := by decide +kernel
theorem dX12_leaves_106 : decode cX12_leaves 106 = .ok (.bipush 12, 2) := by decide +kernel
theorem dX12_leaves_108 : decode cX12_leaves 108 = .ok (.iload_n 1, 1) := by decide +kernel
theorem dX12_leaves_109 : decode cX12_leaves 109 = .ok (.imul, 1) := by decide +kernel
theorem dX12_leaves_110 : decode cX12_leaves 110 = .ok (.aload_n 0, 1) := by decide +kernel
theorem dX12_leaves_111 : decode cX12_leaves 111 = .ok (.getfield 132, 3) := by decide +kernel
theorem dX12_leaves_114 : decode cX12_leaves 114 = .ok (.iload 5, 2) := by decide +kernel
theorem dX12_leaves_116 : decode cX12_leaves 116 = .ok (.iaload, 1) := by decide +kernel
theorem dX12_leaves_117 : decode cX12_leaves 117 = .ok (.iadd, 1) := by decide +kernel
theorem dX12_leaves_118 : decode cX12_leaves 118 = .ok (.iaload, 1) := by decide +kernel
theorem dX12_leaves_119 : decode cX12_leaves 119 = .ok (.iastore, 1) := by decide +kernel
theorem dX12_leaves_120 : decode cX12_leaves 120 = .ok (.aload_n 0, 1) := by decide +kernel
theorem dX12_leaves_121 : decode cX12_leaves 121 = .ok (.getfield 195, 3) := by decide +kernel
theorem dX12_leaves_124 : decode cX12_leaves 124 = .ok (.iload 5, 2) := by decide +kernel
theorem dX12_leaves_126 : decode cX12_leaves 126 = .ok (.iconst 0, 1) := by decide +kernel
theorem dX12_leaves_127 : decode cX12_leaves 127 = .ok (.bastore, 1) := by decide +kernel
theorem dX12_leaves_128 : decode cX12_leaves 128 = .ok (.aload_n 0, 1) := by decide +kernel
theorem dX12_leaves_129 : decode cX12_leaves 129 = .ok (.iload 5, 2) := by decide +kernel
theorem dX12_leaves_131 : decode cX12_leaves 131 = .ok (.aload_n 0, 1) := by decide +kernel
theorem dX12_leaves_132 : decode cX12_leaves 132 = .ok (.getfield 38, 3) := by decide +kernel
theorem dX12_leaves_135 : decode cX12_leaves 135 = .ok (.iload_n 1, 1) := by decide +kernel
theorem dX12_leaves_136 : decode cX12_leaves 136 = .ok (.iaload, 1) := by decide +kernel
theorem dX12_leaves_137 : decode cX12_leaves 137 = .ok (.iconst 1, 1) := by decide +kernel
theorem dX12_leaves_138 : decode cX12_leaves 138 = .ok (.iload_n 2, 1) := by decide +kernel
theorem dX12_leaves_139 : decode cX12_leaves 139 = .ok (.invokestatic 572, 3) := by decide +kernel
theorem dX12_leaves_142 : decode cX12_leaves 142 = .ok (.invokevirtual 556, 3) := by decide +kernel
theorem dX12_leaves_145 : decode cX12_leaves 145 = .ok (.iinc 5 1, 3) := by decide +kernel
theorem dX12_leaves_148 : decode cX12_leaves 148 = .ok (.goto (-123), 3) := by decide +kernel
theorem dX12_leaves_151 : decode cX12_leaves 151 = .ok (.aload_n 0, 1) := by decide +kernel
theorem dX12_leaves_152 : decode cX12_leaves 152 = .ok (.iload_n 2, 1) := by decide +kernel
theorem dX12_leaves_153 : decode cX12_leaves 153 = .ok (.iload_n 3, 1) := by decide +kernel
theorem dX12_leaves_154 : decode cX12_leaves 154 = .ok (.iconst 1, 1) := by decide +kernel
theorem dX12_leaves_155 : decode cX12_leaves 155 = .ok (.iadd, 1) := by decide +kernel
theorem dX12_leaves_156 : decode cX12_leaves 156 = .ok (.invokevirtual 326, 3) := by decide +kernel
theorem dX12_leaves_159 : decode cX12_leaves 159 = .ok (.aload_n 0, 1) := by decide +kernel
theorem dX12_leaves_160 : decode cX12_leaves 160 = .ok (.iload_n 2, 1) := by decide +kernel
theorem dX12_leaves_161 : decode cX12_leaves 161 = .ok (.iload_n 3, 1) := by decide +kernel
theorem dX12_leaves_162 : decode cX12_leaves 162 = .ok (.invokevirtual 329, 3) := by decide +kernel
theorem dX12_leaves_165 : decode cX12_leaves 165 = .ok (.isub, 1) := by decide +kernel
theorem dX12_leaves_166 : decode cX12_leaves 166 = .ok (.istore 5, 2) := by decide +kernel
theorem dX12_leaves_168 : decode cX12_leaves 168 = .ok (.iconst 0, 1) := by decide +kernel
theorem dX12_leaves_169 : decode cX12_leaves 169 = .ok (.istore 6, 2) := by decide +kernel
theorem dX12_leaves_171 : decode cX12_leaves 171 = .ok (.iload 6, 2) := by decide +kernel
theorem dX12_leaves_173 : decode cX12_leaves 173 = .ok (.aload_n 0, 1) := by decide +kernel
theorem dX12_leaves_174 : decode cX12_leaves 174 = .ok (.getfield 569, 3) := by decide +kernel
theorem dX12_leaves_177 : decode cX12_leaves 177 = .ok (.if_icmp .ge 44, 3) := by decide +kernel
theorem dX12_leaves_180 : decode cX12_leaves 180 = .ok (.aload_n 0, 1) := by decide +kernel
theorem dX12_leaves_181 : decode cX12_leaves 181 = .ok (.getfield 220, 3) := by decide +kernel
theorem dX12_leaves_184 : decode cX12_leaves 184 = .ok (.iload 6, 2) := by decide +kernel
theorem dX12_leaves_186 : decode cX12_leaves 186 = .ok (.aload_n 0, 1) := by decide +kernel
theorem dX12_leaves_187 : decode cX12_leaves 187 = .ok (.getfield 217, 3) := by decide +kernel
theorem dX12_leaves_190 : decode cX12_leaves 190 = .ok (.iload 6, 2) := by decide +kernel
theorem dX12_leaves_192 : decode cX12_leaves 192 = .ok (.iaload, 1) := by decide +kernel
theorem dX12_leaves_193 : decode cX12_leaves 193 = .ok (.iload_n 2, 1) := by decide +kernel
theorem dX12_leaves_194 : decode cX12_leaves 194 = .ok (.bipush 7, 2) := by decide +kernel
theorem dX12_leaves_196 : decode cX12_leaves 196 = .ok (.idiv, 1) := by decide +kernel
theorem dX12_leaves_197 : decode cX12_leaves 197 = .ok (.if_icmp .ne 16, 3) := by decide +kernel
theorem dX12_leaves_200 : decode cX12_leaves 200 = .ok (.aload_n 0, 1) := by decide +kernel
theorem dX12_leaves_201 : decode cX12_leaves 201 = .ok (.getfield 211, 3) := by decide +kernel
theorem dX12_leaves_204 : decode cX12_leaves 204 = .ok (.iload 6, 2) := by decide +kernel
theorem dX12_leaves_206 : decode cX12_leaves 206 = .ok (.iaload, 1) := by decide +kernel
theorem dX12_leaves_207 : decode cX12_leaves 207 = .ok (.iload 5, 2) := by decide +kernel
theorem dX12_leaves_209 : decode cX12_leaves 209 = .ok (.imul, 1) := by decide +kernel
theorem dX12_leaves_210 : decode cX12_leaves 210 = .ok (.goto 4, 3) := by decide +kernel
theorem dX12_leaves_213 : decode cX12_leaves 213 = .ok (.iconst 0, 1) := by decide +kernel
theorem dX12_leaves_214 : decode cX12_leaves 214 = .ok (.iastore, 1) := by decide +kernel
theorem dX12_leaves_215 : decode cX12_leaves 215 = .ok (.iinc 6 1, 3) := by decide +kernel
theorem dX12_leaves_218 : decode cX12_leaves 218 = .ok (.goto (-47), 3) := by decide +kernel
theorem dX12_leaves_221 : decode cX12_leaves 221 = .ok (.iconst 0, 1) := by decide +kernel
theorem dX12_leaves_222 : decode cX12_leaves 222 = .ok (.istore 6, 2) := by decide +kernel
theorem dX12_leaves_224 : decode cX12_leaves 224 = .ok (.iload 6, 2) := by decide +kernel
theorem dX12_leaves_226 : decode cX12_leaves 226 = .ok (.bipush 8, 2) := by decide +kernel
theorem dX12_leaves_228 : decode cX12_leaves 228 = .ok (.if_icmp .ge 72, 3) := by decide +kernel
theorem dX12_leaves_231 : decode cX12_leaves 231 = .ok (.iconst 0, 1) := by decide +kernel
theorem dX12_leaves_232 : decode cX12_leaves 232 = .ok (.istore 7, 2) := by decide +kernel
theorem dX12_leaves_234 : decode cX12_leaves 234 = .ok (.iload 7, 2) := by decide +kernel
theorem dX12_leaves_236 : decode cX12_leaves 236 = .ok (.aload_n 0, 1) := by decide +kernel
theorem dX12_leaves_237 : decode cX12_leaves 237 = .ok (.getfield 531, 3) := by decide +kernel
theorem dX12_leaves_240 : decode cX12_leaves 240 = .ok (.if_icmp .ge 54, 3) := by decide +kernel
theorem dX12_leaves_243 : decode cX12_leaves 243 = .ok (.aload_n 0, 1) := by decide +kernel
theorem dX12_leaves_244 : decode cX12_leaves 244 = .ok (.iload 7, 2) := by decide +kernel
theorem dX12_leaves_246 : decode cX12_leaves 246 = .ok (.iload_n 2, 1) := by decide +kernel
theorem dX12_leaves_247 : decode cX12_leaves 247 = .ok (.invokevirtual 575, 3) := by decide +kernel
theorem dX12_leaves_250 : decode cX12_leaves 250 = .ok (.ifCond .eq 38, 3) := by decide +kernel
theorem dX12_leaves_253 : decode cX12_leaves 253 = .ok (.aload_n 0, 1) := by decide +kernel
theorem dX12_leaves_254 : decode cX12_leaves 254 = .ok (.getfield 195, 3) := by decide +kernel
theorem dX12_leaves_257 : decode cX12_leaves 257 = .ok (.iload 7, 2) := by decide +kernel
theorem dX12_leaves_259 : decode cX12_leaves 259 = .ok (.baload, 1) := by decide +kernel
theorem dX12_leaves_260 : decode cX12_leaves 260 = .ok (.ifCond .ne 28, 3) := by decide +kernel
theorem dX12_leaves_263 : decode cX12_leaves 263 = .ok (.aload_n 0, 1) := by decide +kernel
theorem dX12_leaves_264 : decode cX12_leaves 264 = .ok (.getfield 183, 3) := by decide +kernel
theorem dX12_leaves_267 : decode cX12_leaves 267 = .ok (.iload 7, 2) := by decide +kernel
theorem dX12_leaves_269 : decode cX12_leaves 269 = .ok (.iaload, 1) := by decide +kernel
theorem dX12_leaves_270 : decode cX12_leaves 270 = .ok (.iload 6, 2) := by decide +kernel
theorem dX12_leaves_272 : decode cX12_leaves 272 = .ok (.if_icmp .ne 16, 3) := by decide +kernel
theorem dX12_leaves_275 : decode cX12_leaves 275 = .ok (.aload_n 0, 1) := by decide +kernel
theorem dX12_leaves_276 : decode cX12_leaves 276 = .ok (.iload 7, 2) := by decide +kernel
theorem dX12_leaves_278 : decode cX12_leaves 278 = .ok (.aload_n 0, 1) := by decide +kernel
theorem dX12_leaves_279 : decode cX12_leaves 279 = .ok (.iload_n 2, 1) := by decide +kernel
theorem dX12_leaves_280 : decode cX12_leaves 280 = .ok (.iload 6, 2) := by decide +kernel
theorem dX12_leaves_282 : decode cX12_leaves 282 = .ok (.invokevirtual 349, 3) := by decide +kernel
theorem dX12_leaves_285 : decode cX12_leaves 285 = .ok (.invokevirtual 582, 3) := by decide +kernel
theorem dX12_leaves_288 : decode cX12_leaves 288 = .ok (.iinc 7 1, 3) := by decide +kernel
theorem dX12_leaves_291 : decode cX12_leaves 291 = .ok (.goto (-57), 3) := by decide +kernel
theorem dX12_leaves_294 : decode cX12_leaves 294 = .ok (.iinc 6 1, 3) := by decide +kernel
theorem dX12_leaves_297 : decode cX12_leaves 297 = .ok (.goto (-73), 3) := by decide +kernel
theorem dX12_leaves_300 : decode cX12_leaves 300 = .ok (.return_, 1) := by decide +kernel
theorem bX12_leaves_0 {d : Nat} {h0 hE h : ea_H} {rv : Option ea_V} {r0 : Option Nat} {x1 : Int32} (H : ∃ a3, r0 = some a3 ∧ a3 < ea_n h ∧ ea_c h a3 = 12 ∧ ∃ a7, (ea_r h a3 16) = some a7 ∧ a7 < ea_n h ∧ ea_c h a7 = 20 ∧ vp_in x1 (ea_l h a7) ∧ a3 < ea_n h ∧ ea_c h a3 = 12 ∧ ∃ a14, (ea_r h a3 17) = some a14 ∧ a14 < ea_n h ∧ ea_c h a14 = 20 ∧ vp_in x1 (ea_l h a14) ∧ a3 < ea_n h ∧ ea_c h a3 = 12 ∧ ∃ (d17 : Nat) (xc23 : Int32) (h18 : ea_H), ea_Met mX12_townOf d17 [vR (some a3), vI (ea_i h a7 (Int32.toNatClampNeg x1)), vI (ea_i h a14 (Int32.toNatClampNeg x1))] h (some (vI xc23)) h18 ∧ d17 + 1 ≤ d ∧ ea_W mX12_leaves d h0 rv hE 25 [(0, vR r0), (1, vI x1), (2, vI (ea_i h a7 (Int32.toNatClampNeg x1))), (3, vI (ea_i h a14 (Int32.toNatClampNeg x1))), (4, vI xc23), (5, vI 0)] [] h18) : ea_W mX12_leaves d h0 rv hE 0 [(0, vR r0), (1, vI x1)] [] h := by
  refine ea_aload_n (pc := 0) dX12_leaves_0 rfl 0 rfl ?_
  obtain ⟨a3, e4, f1, g2, H⟩ := H
  refine ea_deref0 e4 ?_
  refine ea_getR (pc := 1) dX12_leaves_1 ec_12 (k := 16) (Nat.le_of_ble_eq_true rfl) rfl (Or.inl ew_1361) f1 g2 rfl ?_
  refine ea_iload_n (pc := 4) dX12_leaves_4 rfl 1 rfl ?_
  obtain ⟨a7, e8, f5, g6, H⟩ := H
  refine ea_deref1 e8 ?_
  obtain ⟨z9, H⟩ := H
  refine ea_iald (pc := 5) dX12_leaves_5 f5 g6 z9 ?_
  refine ea_istore_n (pc := 6) (lv' := [(0, vR r0), (1, vI x1), (2, vI (ea_i h a7 (Int32.toNatClampNeg x1)))]) dX12_leaves_6 rfl (Nat.le_of_ble_eq_true rfl) [1, 2, 0] rfl ?_
  refine ea_aload_n (pc := 7) dX12_leaves_7 rfl 0 rfl ?_
  obtain ⟨f10, g11, H⟩ := H
  refine ea_deref0 e4 ?_
  refine ea_getR (pc := 8) dX12_leaves_8 ec_12 (k := 17) (Nat.le_of_ble_eq_true rfl) rfl (Or.inl ew_1362) f10 g11 rfl ?_
  refine ea_iload_n (pc := 11) dX12_leaves_11 rfl 1 rfl ?_
  obtain ⟨a14, e15, f12, g13, H⟩ := H
  refine ea_deref1 e15 ?_
  obtain ⟨z16, H⟩ := H
  refine ea_iald (pc := 12) dX12_leaves_12 f12 g13 z16 ?_
  refine ea_istore_n (pc := 13) (lv' := [(0, vR r0), (1, vI x1), (2, vI (ea_i h a7 (Int32.toNatClampNeg x1))), (3, vI (ea_i h a14 (Int32.toNatClampNeg x1)))]) dX12_leaves_13 rfl (Nat.le_of_ble_eq_true rfl) [1, 2, 3, 0] rfl ?_
  refine ea_aload_n (pc := 14) dX12_leaves_14 rfl 0 rfl ?_
  refine ea_iload_n (pc := 15) dX12_leaves_15 rfl 2 rfl ?_
  refine ea_iload_n (pc := 16) dX12_leaves_16 rfl 3 rfl ?_
  obtain ⟨f21, g22, H⟩ := H
  refine ea_deref2 e4 ?_
  obtain ⟨d17, xc23, h18, m19, q20, H⟩ := H
  refine ea_callV (pc := 17) (As := [vI (ea_i h a7 (Int32.toNatClampNeg x1)), vI (ea_i h a14 (Int32.toNatClampNeg x1))]) (st := []) dX12_leaves_17 kX12_townOf m19 q20 rfl (Nat.le_of_ble_eq_true rfl) ew_1798 ew_1800 ew_60 (ci := 12) rfl (by decide) f21 g22 ?_
  refine ea_istore (pc := 20) (lv' := [(0, vR r0), (1, vI x1), (2, vI (ea_i h a7 (Int32.toNatClampNeg x1))), (3, vI (ea_i h a14 (Int32.toNatClampNeg x1))), (4, vI xc23)]) dX12_leaves_20 (Nat.le_of_ble_eq_true rfl) [1, 2, 3, 4, 0] rfl ?_
  refine ea_iconst (pc := 22) dX12_leaves_22 (v := 0) rfl ?_
  refine ea_istore (pc := 23) (lv' := [(0, vR r0), (1, vI x1), (2, vI (ea_i h a7 (Int32.toNatClampNeg x1))), (3, vI (ea_i h a14 (Int32.toNatClampNeg x1))), (4, vI xc23), (5, vI 0)]) dX12_leaves_23 (Nat.le_of_ble_eq_true rfl) [1, 2, 3, 4, 5, 0] rfl ?_
  exact H
theorem bX12_leaves_25 {d : Nat} {h0 hE h : ea_H} {rv : Option ea_V} {r0 : Option Nat} {x1 : Int32} {x2 : Int32} {x3 : Int32} {x4 : Int32} {x5 : Int32} (H : ∃ a3, r0 = some a3 ∧ a3 < ea_n h ∧ ea_c h a3 = 12 ∧ ((ea_i h a3 63) ≤ x5 → ea_W mX12_leaves d h0 rv hE 151 [(0, vR r0), (2, vI x2), (3, vI x3)] [] h) ∧ (¬ (ea_i h a3 63) ≤ x5 → a3 < ea_n h ∧ ea_c h a3 = 12 ∧ ∃ a9, (ea_r h a3 10) = some a9 ∧ a9 < ea_n h ∧ ea_c h a9 = 21 ∧ vp_in (((8 : Int32) * x2) + x3) (ea_l h a9) ∧ (¬ (ea_i h a9 (Int32.toNatClampNeg (((8 : Int32) * x2) + x3))) = (0 : Int32) → ea_W mX12_leaves d h0 rv hE 151 [(0, vR r0), (2, vI x2), (3, vI x3)] [] h) ∧ ((ea_i h a9 (Int32.toNatClampNeg (((8 : Int32) * x2) + x3))) = (0 : Int32) → a3 < ea_n h ∧ ea_c h a3 = 12 ∧ ∃ a16, (ea_r h a3 81) = some a16 ∧ a16 < ea_n h ∧ ea_c h a16 = 20 ∧ vp_in x5 (ea_l h a16) ∧ (¬ (ea_i h a16 (Int32.toNatClampNeg x5)) = (0 : Int32) → ea_W mX12_leaves d h0 rv hE 25 [(0, vR r0), (1, vI x1), (2, vI x2), (3, vI x3), (4, vI x4), (5, vI (x5 + 1))] [] h) ∧ ((ea_i h a16 (Int32.toNatClampNeg x5)) = (0 : Int32) → a3 < ea_n h ∧ ea_c h a3 = 12 ∧ ∃ a23, (ea_r h a3 82) = some a23 ∧ a23 < ea_n h ∧ ea_c h a23 = 20 ∧ vp_in x5 (ea_l h a23) ∧ (¬ (ea_i h a23 (Int32.toNatClampNeg x5)) = x4 → ea_W mX12_leaves d h0 rv hE 25 [(0, vR r0), (1, vI x1), (2, vI x2), (3, vI x3), (4, vI x4), (5, vI (x5 + 1))] [] h) ∧ ((ea_i h a23 (Int32.toNatClampNeg x5)) = x4 → a3 < ea_n h ∧ ea_c h a3 = 12 ∧ ∃ a30, (ea_r h a3 14) = some a30 ∧ a30 < ea_n h ∧ ea_c h a30 = 20 ∧ vp_in x1 (ea_l h a30) ∧ a3 < ea_n h ∧ ea_c h a3 = 12 ∧ ∃ a37, (ea_r h a3 66) = some a37 ∧ a37 < ea_n h ∧ ea_c h a37 = 20 ∧ vp_in x5 (ea_l h a37) ∧ a3 < ea_n h ∧ ea_c h a3 = 12 ∧ ∃ (d40 : Nat) (xc46 : Int32) (h41 : ea_H), ea_Met mX12_bestFrom d40 [vR (some a3), vI x4, vI (ea_i h a30 (Int32.toNatClampNeg x1)), vI (ea_i h a37 (Int32.toNatClampNeg x5))] h (some (vI xc46)) h41 ∧ d40 + 1 ≤ d ∧ (xc46 = x1 → a3 < ea_n h41 ∧ ea_c h41 a3 = 12 ∧ a3 < ea_n h41 ∧ ea_c h41 a3 = 12 ∧ a3 < ea_n h41 ∧ ea_c h41 a3 = 12 ∧ ∃ a55, (ea_r h41 a3 66) = some a55 ∧ a55 < ea_n h41 ∧ ea_c h41 a55 = 20 ∧ vp_in x5 (ea_l h41 a55) ∧ ∃ a60, (ea_r h41 a3 21) = some a60 ∧ a60 < ea_n h41 ∧ ea_c h41 a60 = 20 ∧ vp_in (((12 : Int32) * x1) + (ea_i h41 a55 (Int32.toNatClampNeg x5))) (ea_l h41 a60) ∧ ∃ a65, (ea_r h41 a3 83) = some a65 ∧ a65 < ea_n h41 ∧ ea_c h41 a65 = 20 ∧ vp_in x5 (ea_l h41 a65) ∧ ∀ h68, h68 = ea_wi h41 a65 (Int32.toNatClampNeg x5) (ea_i h41 a60 (Int32.toNatClampNeg (((12 : Int32) * x1) + (ea_i h41 a55 (Int32.toNatClampNeg x5))))) → a3 < ea_n h68 ∧ ea_c h68 a3 = 12 ∧ ∃ a74, (ea_r h68 a3 87) = some a74 ∧ a74 < ea_n h68 ∧ ea_c h68 a74 = 21 ∧ vp_in x5 (ea_l h68 a74) ∧ ∀ h77, h77 = ea_wi h68 a74 (Int32.toNatClampNeg x5) 0 → a3 < ea_n h77 ∧ ea_c h77 a3 = 12 ∧ ∃ a83, (ea_r h77 a3 14) = some a83 ∧ a83 < ea_n h77 ∧ ea_c h77 a83 = 20 ∧ vp_in x1 (ea_l h77 a83) ∧ ∃ (d86 : Nat) (xc90 : Int32) (h87 : ea_H), ea_Met mX12_code d86 [vI x2] h77 (some (vI xc90)) h87 ∧ d86 + 1 ≤ d ∧ a3 < ea_n h87 ∧ ea_c h87 a3 = 12 ∧ ∃ (d91 : Nat) (h92 : ea_H), ea_Met mX12_turns d91 [vR (some a3), vI x5, vI (ea_i h77 a83 (Int32.toNatClampNeg x1)), vI 1, vI xc90] h87 none h92 ∧ d91 + 1 ≤ d ∧ ea_W mX12_leaves d h0 rv hE 25 [(0, vR r0), (1, vI x1), (2, vI x2), (3, vI x3), (4, vI x4), (5, vI (x5 + 1))] [] h92) ∧ (¬ xc46 = x1 → ea_W mX12_leaves d h0 rv hE 25 [(0, vR r0), (1, vI x1), (2, vI x2), (3, vI x3), (4, vI x4), (5, vI (x5 + 1))] [] h41)))))) : ea_W mX12_leaves d h0 rv hE 25 [(0, vR r0), (1, vI x1), (2, vI x2), (3, vI x3), (4, vI x4), (5, vI x5)] [] h := by
  refine ea_iload (pc := 25) dX12_leaves_25 5 rfl ?_
  refine ea_aload_n (pc := 27) dX12_leaves_27 rfl 0 rfl ?_
  obtain ⟨a3, e4, f1, g2, H⟩ := H
  refine ea_deref0 e4 ?_
  refine ea_getI (pc := 28) dX12_leaves_28 ec_12 (k := 63) (Nat.le_of_ble_eq_true rfl) rfl (Or.inl ew_1408) f1 g2 ?_
  refine ea_icmp_ge (pc := 31) (tgt := 151) dX12_leaves_31 rfl (fun c101 => ?_) (fun c101 => ?_)
  · have H := H.1 c101
    exact ea_fewer [0, 2, 3] rfl H
  · have H := H.2 c101
    refine ea_aload_n (pc := 34) dX12_leaves_34 rfl 0 rfl ?_
    obtain ⟨f5, g6, H⟩ := H
    refine ea_deref0 e4 ?_
    refine ea_getR (pc := 35) dX12_leaves_35 ec_12 (k := 10) (Nat.le_of_ble_eq_true rfl) rfl (Or.inl ew_1355) f5 g6 rfl ?_
    refine ea_bipush (pc := 38) dX12_leaves_38 (v := 8) rfl ?_
    refine ea_iload_n (pc := 40) dX12_leaves_40 rfl 2 rfl ?_
    refine ea_imul (pc := 41) dX12_leaves_41 ?_
    refine ea_iload_n (pc := 42) dX12_leaves_42 rfl 3 rfl ?_
    refine ea_iadd (pc := 43) dX12_leaves_43 ?_
    obtain ⟨a9, e10, f7, g8, H⟩ := H
    refine ea_deref1 e10 ?_
    obtain ⟨z11, H⟩ := H
    refine ea_zald (pc := 44) dX12_leaves_44 f7 g8 z11 ?_
    refine ea_if_ne (pc := 45) (tgt := 151) dX12_leaves_45 rfl (fun c100 => ?_) (fun c100 => ?_)
    · have H := H.1 c100
      exact ea_fewer [0, 2, 3] rfl H
    · have H := H.2 c100
      refine ea_aload_n (pc := 48) dX12_leaves_48 rfl 0 rfl ?_
      obtain ⟨f12, g13, H⟩ := H
      refine ea_deref0 e4 ?_
      refine ea_getR (pc := 49) dX12_leaves_49 ec_12 (k := 81) (Nat.le_of_ble_eq_true rfl) rfl (Or.inl ew_1426) f12 g13 rfl ?_
      refine ea_iload (pc := 52) dX12_leaves_52 5 rfl ?_
      obtain ⟨a16, e17, f14, g15, H⟩ := H
      refine ea_deref1 e17 ?_
      obtain ⟨z18, H⟩ := H
      refine ea_iald (pc := 54) dX12_leaves_54 f14 g15 z18 ?_
      refine ea_if_ne (pc := 55) (tgt := 145) dX12_leaves_55 rfl (fun c99 => ?_) (fun c99 => ?_)
      · have H := H.1 c99
        refine ea_iinc (pc := 145) (v := 1) (lv' := [(0, vR r0), (1, vI x1), (2, vI x2), (3, vI x3), (4, vI x4), (5, vI (x5 + 1))]) dX12_leaves_145 5 rfl rfl (Nat.le_of_ble_eq_true rfl) [1, 2, 3, 4, 5, 0] rfl ?_
        refine ea_goto (pc := 148) (tgt := 25) dX12_leaves_148 rfl ?_
        exact H
      · have H := H.2 c99
        refine ea_aload_n (pc := 58) dX12_leaves_58 rfl 0 rfl ?_
        obtain ⟨f19, g20, H⟩ := H
        refine ea_deref0 e4 ?_
        refine ea_getR (pc := 59) dX12_leaves_59 ec_12 (k := 82) (Nat.le_of_ble_eq_true rfl) rfl (Or.inl ew_1427) f19 g20 rfl ?_
        refine ea_iload (pc := 62) dX12_leaves_62 5 rfl ?_
        obtain ⟨a23, e24, f21, g22, H⟩ := H
        refine ea_deref1 e24 ?_
        obtain ⟨z25, H⟩ := H
        refine ea_iald (pc := 64) dX12_leaves_64 f21 g22 z25 ?_
        refine ea_iload (pc := 65) dX12_leaves_65 4 rfl ?_
        refine ea_icmp_ne (pc := 67) (tgt := 145) dX12_leaves_67 rfl (fun c98 => ?_) (fun c98 => ?_)
        · have H := H.1 c98
          refine ea_iinc (pc := 145) (v := 1) (lv' := [(0, vR r0), (1, vI x1), (2, vI x2), (3, vI x3), (4, vI x4), (5, vI (x5 + 1))]) dX12_leaves_145 5 rfl rfl (Nat.le_of_ble_eq_true rfl) [1, 2, 3, 4, 5, 0] rfl ?_
          refine ea_goto (pc := 148) (tgt := 25) dX12_leaves_148 rfl ?_
          exact H
        · have H := H.2 c98
          refine ea_aload_n (pc := 70) dX12_leaves_70 rfl 0 rfl ?_
          refine ea_iload (pc := 71) dX12_leaves_71 4 rfl ?_
          refine ea_aload_n (pc := 73) dX12_leaves_73 rfl 0 rfl ?_
          obtain ⟨f26, g27, H⟩ := H
          refine ea_deref0 e4 ?_
          refine ea_getR (pc := 74) dX12_leaves_74 ec_12 (k := 14) (Nat.le_of_ble_eq_true rfl) rfl (Or.inl ew_1359) f26 g27 rfl ?_
          refine ea_iload_n (pc := 77) dX12_leaves_77 rfl 1 rfl ?_
          obtain ⟨a30, e31, f28, g29, H⟩ := H
          refine ea_deref1 e31 ?_
          obtain ⟨z32, H⟩ := H
          refine ea_iald (pc := 78) dX12_leaves_78 f28 g29 z32 ?_
          refine ea_aload_n (pc := 79) dX12_leaves_79 rfl 0 rfl ?_
          obtain ⟨f33, g34, H⟩ := H
          refine ea_deref0 e4 ?_
          refine ea_getR (pc := 80) dX12_leaves_80 ec_12 (k := 66) (Nat.le_of_ble_eq_true rfl) rfl (Or.inl ew_1411) f33 g34 rfl ?_
          refine ea_iload (pc := 83) dX12_leaves_83 5 rfl ?_
          obtain ⟨a37, e38, f35, g36, H⟩ := H
          refine ea_deref1 e38 ?_
          obtain ⟨z39, H⟩ := H
          refine ea_iald (pc := 85) dX12_leaves_85 f35 g36 z39 ?_
          obtain ⟨f44, g45, H⟩ := H
          refine ea_deref3 e4 ?_
          obtain ⟨d40, xc46, h41, m42, q43, H⟩ := H
          refine ea_callV (pc := 86) (As := [vI x4, vI (ea_i h a30 (Int32.toNatClampNeg x1)), vI (ea_i h a37 (Int32.toNatClampNeg x5))]) (st := []) dX12_leaves_86 kX12_bestFrom m42 q43 rfl (Nat.le_of_ble_eq_true rfl) ew_1770 ew_1772 ew_53 (ci := 12) rfl (by decide) f44 g45 ?_
          refine ea_iload_n (pc := 89) dX12_leaves_89 rfl 1 rfl ?_
          refine ea_icmp_eq (pc := 90) (tgt := 96) dX12_leaves_90 rfl (fun c97 => ?_) (fun c97 => ?_)
          · have H := H.1 c97
            refine ea_aload_n (pc := 96) dX12_leaves_96 rfl 0 rfl ?_
            obtain ⟨f47, g48, H⟩ := H
            refine ea_deref0 e4 ?_
            refine ea_getR (pc := 97) dX12_leaves_97 ec_12 (k := 83) (Nat.le_of_ble_eq_true rfl) rfl (Or.inl ew_1428) f47 g48 rfl ?_
            refine ea_iload (pc := 100) dX12_leaves_100 5 rfl ?_
            refine ea_aload_n (pc := 102) dX12_leaves_102 rfl 0 rfl ?_
            obtain ⟨f49, g50, H⟩ := H
            refine ea_deref0 e4 ?_
            refine ea_getR (pc := 103) dX12_leaves_103 ec_12 (k := 21) (Nat.le_of_ble_eq_true rfl) rfl (Or.inl ew_1366) f49 g50 rfl ?_
            refine ea_bipush (pc := 106) dX12_leaves_106 (v := 12) rfl ?_
            refine ea_iload_n (pc := 108) dX12_leaves_108 rfl 1 rfl ?_
            refine ea_imul (pc := 109) dX12_leaves_109 ?_
            refine ea_aload_n (pc := 110) dX12_leaves_110 rfl 0 rfl ?_
            obtain ⟨f51, g52, H⟩ := H
            refine ea_deref0 e4 ?_
            refine ea_getR (pc := 111) dX12_leaves_111 ec_12 (k := 66) (Nat.le_of_ble_eq_true rfl) rfl (Or.inl ew_1411) f51 g52 rfl ?_
            refine ea_iload (pc := 114) dX12_leaves_114 5 rfl ?_
            obtain ⟨a55, e56, f53, g54, H⟩ := H
            refine ea_deref1 e56 ?_
            obtain ⟨z57, H⟩ := H
            refine ea_iald (pc := 116) dX12_leaves_116 f53 g54 z57 ?_
            refine ea_iadd (pc := 117) dX12_leaves_117 ?_
            obtain ⟨a60, e61, f58, g59, H⟩ := H
            refine ea_deref1 e61 ?_
            obtain ⟨z62, H⟩ := H
            refine ea_iald (pc := 118) dX12_leaves_118 f58 g59 z62 ?_
            obtain ⟨a65, e66, f63, g64, H⟩ := H
            refine ea_deref2 e66 ?_
            obtain ⟨z67, H⟩ := H
            refine ea_iast (pc := 119) dX12_leaves_119 f63 g64 z67 ?_
            obtain ⟨h68, E69⟩ : ∃ z, z = ea_wi h41 a65 (Int32.toNatClampNeg x5) (ea_i h41 a60 (Int32.toNatClampNeg (((12 : Int32) * x1) + (ea_i h41 a55 (Int32.toNatClampNeg x5))))) := ⟨_, rfl⟩
            have H := H h68 E69
            refine ea_nm E69 ?_
            refine ea_aload_n (pc := 120) dX12_leaves_120 rfl 0 rfl ?_
            obtain ⟨f70, g71, H⟩ := H
            refine ea_deref0 e4 ?_
            refine ea_getR (pc := 121) dX12_leaves_121 ec_12 (k := 87) (Nat.le_of_ble_eq_true rfl) rfl (Or.inl ew_1432) f70 g71 rfl ?_
            refine ea_iload (pc := 124) dX12_leaves_124 5 rfl ?_
            refine ea_iconst (pc := 126) dX12_leaves_126 (v := 0) rfl ?_
            obtain ⟨a74, e75, f72, g73, H⟩ := H
            refine ea_deref2 e75 ?_
            obtain ⟨z76, H⟩ := H
            refine ea_zast (pc := 127) dX12_leaves_127 (y := 0) (ea_bn (Or.inl rfl)) f72 g73 z76 ?_
            obtain ⟨h77, E78⟩ : ∃ z, z = ea_wi h68 a74 (Int32.toNatClampNeg x5) 0 := ⟨_, rfl⟩
            have H := H h77 E78
            refine ea_nm E78 ?_
            refine ea_aload_n (pc := 128) dX12_leaves_128 rfl 0 rfl ?_
            refine ea_iload (pc := 129) dX12_leaves_129 5 rfl ?_
            refine ea_aload_n (pc := 131) dX12_leaves_131 rfl 0 rfl ?_
            obtain ⟨f79, g80, H⟩ := H
            refine ea_deref0 e4 ?_
            refine ea_getR (pc := 132) dX12_leaves_132 ec_12 (k := 14) (Nat.le_of_ble_eq_true rfl) rfl (Or.inl ew_1359) f79 g80 rfl ?_
            refine ea_iload_n (pc := 135) dX12_leaves_135 rfl 1 rfl ?_
            obtain ⟨a83, e84, f81, g82, H⟩ := H
            refine ea_deref1 e84 ?_
            obtain ⟨z85, H⟩ := H
            refine ea_iald (pc := 136) dX12_leaves_136 f81 g82 z85 ?_
            refine ea_iconst (pc := 137) dX12_leaves_137 (v := 1) rfl ?_
            refine ea_iload_n (pc := 138) dX12_leaves_138 rfl 2 rfl ?_
            obtain ⟨d86, xc90, h87, m88, q89, H⟩ := H
            refine ea_callS (pc := 139) (As := [vI x2]) (st := [vI 1, vI (ea_i h77 a83 (Int32.toNatClampNeg x1)), vI x5, vR r0]) dX12_leaves_139 kX12_code m88 q89 rfl (Nat.le_of_ble_eq_true rfl) ew_2071 ew_2072 ?_
            obtain ⟨f95, g96, H⟩ := H
            refine ea_deref4 e4 ?_
            obtain ⟨d91, h92, m93, q94, H⟩ := H
            refine ea_callV (pc := 142) (As := [vI x5, vI (ea_i h77 a83 (Int32.toNatClampNeg x1)), vI 1, vI xc90]) (st := []) dX12_leaves_142 kX12_turns m93 q94 rfl (Nat.le_of_ble_eq_true rfl) ew_2011 ew_2013 ew_88 (ci := 12) rfl (by decide) f95 g96 ?_
            refine ea_iinc (pc := 145) (v := 1) (lv' := [(0, vR r0), (1, vI x1), (2, vI x2), (3, vI x3), (4, vI x4), (5, vI (x5 + 1))]) dX12_leaves_145 5 rfl rfl (Nat.le_of_ble_eq_true rfl) [1, 2, 3, 4, 5, 0] rfl ?_
            refine ea_goto (pc := 148) (tgt := 25) dX12_leaves_148 rfl ?_
            exact H
          · have H := H.2 c97
            refine ea_goto (pc := 93) (tgt := 145) dX12_leaves_93 rfl ?_
            refine ea_iinc (pc := 145) (v := 1) (lv' := [(0, vR r0), (1, vI x1), (2, vI x2), (3, vI x3), (4, vI x4), (5, vI (x5 + 1))]) dX12_leaves_145 5 rfl rfl (Nat.le_of_ble_eq_true rfl) [1, 2, 3, 4, 5, 0] rfl ?_
            refine ea_goto (pc := 148) (tgt := 25) dX12_leaves_148 rfl ?_
            exact H
theorem bX12_leaves_151 {d : Nat} {h0 hE h : ea_H} {rv : Option ea_V} {r0 : Option Nat} {x2 : Int32} {x3 : Int32} (H : ∃ a7, r0 = some a7 ∧ a7 < ea_n h ∧ ea_c h a7 = 12 ∧ ∃ (d1 : Nat) (xc9 : Int32) (h2 : ea_H), ea_Met mX12_comesAt d1 [vR (some a7), vI x2, vI (x3 + (1 : Int32))] h (some (vI xc9)) h2 ∧ d1 + 1 ≤ d ∧ a7 < ea_n h2 ∧ ea_c h2 a7 = 12 ∧ ∃ (d10 : Nat) (xc16 : Int32) (h11 : ea_H), ea_Met mX12_goesAt d10 [vR (some a7), vI x2, vI x3] h2 (some (vI xc16)) h11 ∧ d10 + 1 ≤ d ∧ ea_W mX12_leaves d h0 rv hE 171 [(0, vR r0), (2, vI x2), (5, vI (xc9 - xc16)), (6, vI 0)] [] h11) : ea_W mX12_leaves d h0 rv hE 151 [(0, vR r0), (2, vI x2), (3, vI x3)] [] h := by
  refine ea_aload_n (pc := 151) dX12_leaves_151 rfl 0 rfl ?_
  refine ea_iload_n (pc := 152) dX12_leaves_152 rfl 1 rfl ?_
  refine ea_iload_n (pc := 153) dX12_leaves_153 rfl 2 rfl ?_
  refine ea_iconst (pc := 154) dX12_leaves_154 (v := 1) rfl ?_
  refine ea_iadd (pc := 155) dX12_leaves_155 ?_
  obtain ⟨a7, e8, f5, g6, H⟩ := H
  refine ea_deref2 e8 ?_
  obtain ⟨d1, xc9, h2, m3, q4, H⟩ := H
  refine ea_callV (pc := 156) (As := [vI x2, vI (x3 + (1 : Int32))]) (st := []) dX12_leaves_156 kX12_comesAt m3 q4 rfl (Nat.le_of_ble_eq_true rfl) ew_1762 ew_1764 ew_52 (ci := 12) rfl (by decide) f5 g6 ?_
  refine ea_aload_n (pc := 159) dX12_leaves_159 rfl 0 rfl ?_
  refine ea_iload_n (pc := 160) dX12_leaves_160 rfl 1 rfl ?_
  refine ea_iload_n (pc := 161) dX12_leaves_161 rfl 2 rfl ?_
  obtain ⟨f14, g15, H⟩ := H
  refine ea_deref2 e8 ?_
  obtain ⟨d10, xc16, h11, m12, q13, H⟩ := H
  refine ea_callV (pc := 162) (As := [vI x2, vI x3]) (st := [vI xc9]) dX12_leaves_162 kX12_goesAt m12 q13 rfl (Nat.le_of_ble_eq_true rfl) ew_1786 ew_1788 ew_57 (ci := 12) rfl (by decide) f14 g15 ?_
  refine ea_isub (pc := 165) dX12_leaves_165 ?_
  refine ea_istore (pc := 166) (lv' := [(0, vR r0), (2, vI x2), (5, vI (xc9 - xc16))]) dX12_leaves_166 (Nat.le_of_ble_eq_true rfl) [1, 2, 0] rfl ?_
  refine ea_iconst (pc := 168) dX12_leaves_168 (v := 0) rfl ?_
  refine ea_istore (pc := 169) (lv' := [(0, vR r0), (2, vI x2), (5, vI (xc9 - xc16)), (6, vI 0)]) dX12_leaves_169 (Nat.le_of_ble_eq_true rfl) [1, 2, 3, 0] rfl ?_
  exact H
theorem bX12_leaves_171 {d : Nat} {h0 hE h : ea_H} {rv : Option ea_V} {r0 : Option Nat} {x2 : Int32} {x5 : Int32} {x6 : Int32} (H : ∃ a3, r0 = some a3 ∧ a3 < ea_n h ∧ ea_c h a3 = 12 ∧ ((ea_i h a3 92) ≤ x6 → ea_W mX12_leaves d h0 rv hE 224 [(0, vR r0), (2, vI x2), (6, vI 0)] [] h) ∧ (¬ (ea_i h a3 92) ≤ x6 → a3 < ea_n h ∧ ea_c h a3 = 12 ∧ a3 < ea_n h ∧ ea_c h a3 = 12 ∧ ∃ a11, (ea_r h a3 95) = some a11 ∧ a11 < ea_n h ∧ ea_c h a11 = 20 ∧ vp_in x6 (ea_l h a11) ∧ (¬ (ea_i h a11 (Int32.toNatClampNeg x6)) = (x2 / (7 : Int32)) → ∃ a16, (ea_r h a3 96) = some a16 ∧ a16 < ea_n h ∧ ea_c h a16 = 20 ∧ vp_in x6 (ea_l h a16) ∧ ∀ h19, h19 = ea_wi h a16 (Int32.toNatClampNeg x6) 0 → ea_W mX12_leaves d h0 rv hE 171 [(0, vR r0), (2, vI x2), (5, vI x5), (6, vI (x6 + 1))] [] h19) ∧ ((ea_i h a11 (Int32.toNatClampNeg x6)) = (x2 / (7 : Int32)) → a3 < ea_n h ∧ ea_c h a3 = 12 ∧ ∃ a25, (ea_r h a3 93) = some a25 ∧ a25 < ea_n h ∧ ea_c h a25 = 20 ∧ vp_in x6 (ea_l h a25) ∧ ∃ a30, (ea_r h a3 96) = some a30 ∧ a30 < ea_n h ∧ ea_c h a30 = 20 ∧ vp_in x6 (ea_l h a30) ∧ ∀ h33, h33 = ea_wi h a30 (Int32.toNatClampNeg x6) ((ea_i h a25 (Int32.toNatClampNeg x6)) * x5) → ea_W mX12_leaves d h0 rv hE 171 [(0, vR r0), (2, vI x2), (5, vI x5), (6, vI (x6 + 1))] [] h33))) : ea_W mX12_leaves d h0 rv hE 171 [(0, vR r0), (2, vI x2), (5, vI x5), (6, vI x6)] [] h := by
  refine ea_iload (pc := 171) dX12_leaves_171 3 rfl ?_
  refine ea_aload_n (pc := 173) dX12_leaves_173 rfl 0 rfl ?_
  obtain ⟨a3, e4, f1, g2, H⟩ := H
  refine ea_deref0 e4 ?_
  refine ea_getI (pc := 174) dX12_leaves_174 ec_12 (k := 92) (Nat.le_of_ble_eq_true rfl) rfl (Or.inl ew_1437) f1 g2 ?_
  refine ea_icmp_ge (pc := 177) (tgt := 221) dX12_leaves_177 rfl (fun c36 => ?_) (fun c36 => ?_)
  · have H := H.1 c36
    refine ea_iconst (pc := 221) dX12_leaves_221 (v := 0) rfl ?_
    refine ea_istore (pc := 222) (lv' := [(0, vR r0), (2, vI x2), (6, vI 0)]) dX12_leaves_222 (Nat.le_of_ble_eq_true rfl) [1, 2, 0] rfl ?_
    exact H
  · have H := H.2 c36
    refine ea_aload_n (pc := 180) dX12_leaves_180 rfl 0 rfl ?_
    obtain ⟨f5, g6, H⟩ := H
    refine ea_deref0 e4 ?_
    refine ea_getR (pc := 181) dX12_leaves_181 ec_12 (k := 96) (Nat.le_of_ble_eq_true rfl) rfl (Or.inl ew_1441) f5 g6 rfl ?_
    refine ea_iload (pc := 184) dX12_leaves_184 3 rfl ?_
    refine ea_aload_n (pc := 186) dX12_leaves_186 rfl 0 rfl ?_
    obtain ⟨f7, g8, H⟩ := H
    refine ea_deref0 e4 ?_
    refine ea_getR (pc := 187) dX12_leaves_187 ec_12 (k := 95) (Nat.le_of_ble_eq_true rfl) rfl (Or.inl ew_1440) f7 g8 rfl ?_
    refine ea_iload (pc := 190) dX12_leaves_190 3 rfl ?_
    obtain ⟨a11, e12, f9, g10, H⟩ := H
    refine ea_deref1 e12 ?_
    obtain ⟨z13, H⟩ := H
    refine ea_iald (pc := 192) dX12_leaves_192 f9 g10 z13 ?_
    refine ea_iload_n (pc := 193) dX12_leaves_193 rfl 1 rfl ?_
    refine ea_bipush (pc := 194) dX12_leaves_194 (v := 7) rfl ?_
    refine ea_idiv (pc := 196) dX12_leaves_196 (by decide) ?_
    refine ea_icmp_ne (pc := 197) (tgt := 213) dX12_leaves_197 rfl (fun c35 => ?_) (fun c35 => ?_)
    · have H := H.1 c35
      refine ea_iconst (pc := 213) dX12_leaves_213 (v := 0) rfl ?_
      obtain ⟨a16, e17, f14, g15, H⟩ := H
      refine ea_deref2 e17 ?_
      obtain ⟨z18, H⟩ := H
      refine ea_iast (pc := 214) dX12_leaves_214 f14 g15 z18 ?_
      obtain ⟨h19, E20⟩ : ∃ z, z = ea_wi h a16 (Int32.toNatClampNeg x6) 0 := ⟨_, rfl⟩
      have H := H h19 E20
      refine ea_nm E20 ?_
      refine ea_iinc (pc := 215) (v := 1) (lv' := [(0, vR r0), (2, vI x2), (5, vI x5), (6, vI (x6 + 1))]) dX12_leaves_215 3 rfl rfl (Nat.le_of_ble_eq_true rfl) [1, 2, 3, 0] rfl ?_
      refine ea_goto (pc := 218) (tgt := 171) dX12_leaves_218 rfl ?_
      exact H
    · have H := H.2 c35
      refine ea_aload_n (pc := 200) dX12_leaves_200 rfl 0 rfl ?_
      obtain ⟨f21, g22, H⟩ := H
      refine ea_deref0 e4 ?_
      refine ea_getR (pc := 201) dX12_leaves_201 ec_12 (k := 93) (Nat.le_of_ble_eq_true rfl) rfl (Or.inl ew_1438) f21 g22 rfl ?_
      refine ea_iload (pc := 204) dX12_leaves_204 3 rfl ?_
      obtain ⟨a25, e26, f23, g24, H⟩ := H
      refine ea_deref1 e26 ?_
      obtain ⟨z27, H⟩ := H
      refine ea_iald (pc := 206) dX12_leaves_206 f23 g24 z27 ?_
      refine ea_iload (pc := 207) dX12_leaves_207 2 rfl ?_
      refine ea_imul (pc := 209) dX12_leaves_209 ?_
      refine ea_goto (pc := 210) (tgt := 214) dX12_leaves_210 rfl ?_
      obtain ⟨a30, e31, f28, g29, H⟩ := H
      refine ea_deref2 e31 ?_
      obtain ⟨z32, H⟩ := H
      refine ea_iast (pc := 214) dX12_leaves_214 f28 g29 z32 ?_
      obtain ⟨h33, E34⟩ : ∃ z, z = ea_wi h a30 (Int32.toNatClampNeg x6) ((ea_i h a25 (Int32.toNatClampNeg x6)) * x5) := ⟨_, rfl⟩
      have H := H h33 E34
      refine ea_nm E34 ?_
      refine ea_iinc (pc := 215) (v := 1) (lv' := [(0, vR r0), (2, vI x2), (5, vI x5), (6, vI (x6 + 1))]) dX12_leaves_215 3 rfl rfl (Nat.le_of_ble_eq_true rfl) [1, 2, 3, 0] rfl ?_
      refine ea_goto (pc := 218) (tgt := 171) dX12_leaves_218 rfl ?_
      exact H
theorem bX12_leaves_224 {d : Nat} {h0 hE h : ea_H} {rv : Option ea_V} {r0 : Option Nat} {x2 : Int32} {x6 : Int32} (H : ((8 : Int32) ≤ x6 → rv = none ∧ hE = h) ∧ (¬ (8 : Int32) ≤ x6 → ea_W mX12_leaves d h0 rv hE 234 [(0, vR r0), (2, vI x2), (6, vI x6), (7, vI 0)] [] h)) : ea_W mX12_leaves d h0 rv hE 224 [(0, vR r0), (2, vI x2), (6, vI x6)] [] h := by
  refine ea_iload (pc := 224) dX12_leaves_224 2 rfl ?_
  refine ea_bipush (pc := 226) dX12_leaves_226 (v := 8) rfl ?_
  refine ea_icmp_ge (pc := 228) (tgt := 300) dX12_leaves_228 rfl (fun c1 => ?_) (fun c1 => ?_)
  · have H := H.1 c1
    obtain ⟨rfl, rfl⟩ := H
    exact ea_return (pc := 300) dX12_leaves_300 rfl
  · have H := H.2 c1
    refine ea_iconst (pc := 231) dX12_leaves_231 (v := 0) rfl ?_
    refine ea_istore (pc := 232) (lv' := [(0, vR r0), (2, vI x2), (6, vI x6), (7, vI 0)]) dX12_leaves_232 (Nat.le_of_ble_eq_true rfl) [1, 2, 3, 0] rfl ?_
    exact H
theorem bX12_leaves_234 {d : Nat} {h0 hE h : ea_H} {rv : Option ea_V} {r0 : Option Nat} {x2 : Int32} {x6 : Int32} {x7 : Int32} (H : ∃ a3, r0 = some a3 ∧ a3 < ea_n h ∧ ea_c h a3 = 12 ∧ ((ea_i h a3 63) ≤ x7 → ea_W mX12_leaves d h0 rv hE 224 [(0, vR r0), (2, vI x2), (6, vI (x6 + 1))] [] h) ∧ (¬ (ea_i h a3 63) ≤ x7 → a3 < ea_n h ∧ ea_c h a3 = 12 ∧ ∃ (d5 : Nat) (xc11 : Int32) (h6 : ea_H), ea_Met mX12_isAboard d5 [vR (some a3), vI x7, vI x2] h (some (vI xc11)) h6 ∧ d5 + 1 ≤ d ∧ (xc11 = (0 : Int32) → ea_W mX12_leaves d h0 rv hE 234 [(0, vR r0), (2, vI x2), (6, vI x6), (7, vI (x7 + 1))] [] h6) ∧ (¬ xc11 = (0 : Int32) → a3 < ea_n h6 ∧ ea_c h6 a3 = 12 ∧ ∃ a16, (ea_r h6 a3 87) = some a16 ∧ a16 < ea_n h6 ∧ ea_c h6 a16 = 21 ∧ vp_in x7 (ea_l h6 a16) ∧ (¬ (ea_i h6 a16 (Int32.toNatClampNeg x7)) = (0 : Int32) → ea_W mX12_leaves d h0 rv hE 234 [(0, vR r0), (2, vI x2), (6, vI x6), (7, vI (x7 + 1))] [] h6) ∧ ((ea_i h6 a16 (Int32.toNatClampNeg x7)) = (0 : Int32) → a3 < ea_n h6 ∧ ea_c h6 a3 = 12 ∧ ∃ a23, (ea_r h6 a3 83) = some a23 ∧ a23 < ea_n h6 ∧ ea_c h6 a23 = 20 ∧ vp_in x7 (ea_l h6 a23) ∧ (¬ (ea_i h6 a23 (Int32.toNatClampNeg x7)) = x6 → ea_W mX12_leaves d h0 rv hE 234 [(0, vR r0), (2, vI x2), (6, vI x6), (7, vI (x7 + 1))] [] h6) ∧ ((ea_i h6 a23 (Int32.toNatClampNeg x7)) = x6 → a3 < ea_n h6 ∧ ea_c h6 a3 = 12 ∧ ∃ (d26 : Nat) (xc32 : Int32) (h27 : ea_H), ea_Met mX12_townOf d26 [vR (some a3), vI x2, vI x6] h6 (some (vI xc32)) h27 ∧ d26 + 1 ≤ d ∧ a3 < ea_n h27 ∧ ea_c h27 a3 = 12 ∧ ∃ (d33 : Nat) (h34 : ea_H), ea_Met mX12_sorts d33 [vR (some a3), vI x7, vI xc32] h27 none h34 ∧ d33 + 1 ≤ d ∧ ea_W mX12_leaves d h0 rv hE 234 [(0, vR r0), (2, vI x2), (6, vI x6), (7, vI (x7 + 1))] [] h34))))) : ea_W mX12_leaves d h0 rv hE 234 [(0, vR r0), (2, vI x2), (6, vI x6), (7, vI x7)] [] h := by
  refine ea_iload (pc := 234) dX12_leaves_234 3 rfl ?_
  refine ea_aload_n (pc := 236) dX12_leaves_236 rfl 0 rfl ?_
  obtain ⟨a3, e4, f1, g2, H⟩ := H
  refine ea_deref0 e4 ?_
  refine ea_getI (pc := 237) dX12_leaves_237 ec_12 (k := 63) (Nat.le_of_ble_eq_true rfl) rfl (Or.inl ew_1408) f1 g2 ?_
  refine ea_icmp_ge (pc := 240) (tgt := 294) dX12_leaves_240 rfl (fun c42 => ?_) (fun c42 => ?_)
  · have H := H.1 c42
    refine ea_iinc (pc := 294) (v := 1) (lv' := [(0, vR r0), (2, vI x2), (6, vI (x6 + 1))]) dX12_leaves_294 2 rfl rfl (Nat.le_of_ble_eq_true rfl) [1, 2, 0] rfl ?_
    refine ea_goto (pc := 297) (tgt := 224) dX12_leaves_297 rfl ?_
    exact H
  · have H := H.2 c42
    refine ea_aload_n (pc := 243) dX12_leaves_243 rfl 0 rfl ?_
    refine ea_iload (pc := 244) dX12_leaves_244 3 rfl ?_
    refine ea_iload_n (pc := 246) dX12_leaves_246 rfl 1 rfl ?_
    obtain ⟨f9, g10, H⟩ := H
    refine ea_deref2 e4 ?_
    obtain ⟨d5, xc11, h6, m7, q8, H⟩ := H
    refine ea_callV (pc := 247) (As := [vI x7, vI x2]) (st := []) dX12_leaves_247 kX12_isAboard m7 q8 rfl (Nat.le_of_ble_eq_true rfl) ew_2067 ew_2069 ew_95 (ci := 12) rfl (by decide) f9 g10 ?_
    refine ea_if_eq (pc := 250) (tgt := 288) dX12_leaves_250 rfl (fun c41 => ?_) (fun c41 => ?_)
    · have H := H.1 c41
      refine ea_iinc (pc := 288) (v := 1) (lv' := [(0, vR r0), (2, vI x2), (6, vI x6), (7, vI (x7 + 1))]) dX12_leaves_288 3 rfl rfl (Nat.le_of_ble_eq_true rfl) [1, 2, 3, 0] rfl ?_
      refine ea_goto (pc := 291) (tgt := 234) dX12_leaves_291 rfl ?_
      exact H
    · have H := H.2 c41
      refine ea_aload_n (pc := 253) dX12_leaves_253 rfl 0 rfl ?_
      obtain ⟨f12, g13, H⟩ := H
      refine ea_deref0 e4 ?_
      refine ea_getR (pc := 254) dX12_leaves_254 ec_12 (k := 87) (Nat.le_of_ble_eq_true rfl) rfl (Or.inl ew_1432) f12 g13 rfl ?_
      refine ea_iload (pc := 257) dX12_leaves_257 3 rfl ?_
      obtain ⟨a16, e17, f14, g15, H⟩ := H
      refine ea_deref1 e17 ?_
      obtain ⟨z18, H⟩ := H
      refine ea_zald (pc := 259) dX12_leaves_259 f14 g15 z18 ?_
      refine ea_if_ne (pc := 260) (tgt := 288) dX12_leaves_260 rfl (fun c40 => ?_) (fun c40 => ?_)
      · have H := H.1 c40
        refine ea_iinc (pc := 288) (v := 1) (lv' := [(0, vR r0), (2, vI x2), (6, vI x6), (7, vI (x7 + 1))]) dX12_leaves_288 3 rfl rfl (Nat.le_of_ble_eq_true rfl) [1, 2, 3, 0] rfl ?_
        refine ea_goto (pc := 291) (tgt := 234) dX12_leaves_291 rfl ?_
        exact H
      · have H := H.2 c40
        refine ea_aload_n (pc := 263) dX12_leaves_263 rfl 0 rfl ?_
        obtain ⟨f19, g20, H⟩ := H
        refine ea_deref0 e4 ?_
        refine ea_getR (pc := 264) dX12_leaves_264 ec_12 (k := 83) (Nat.le_of_ble_eq_true rfl) rfl (Or.inl ew_1428) f19 g20 rfl ?_
        refine ea_iload (pc := 267) dX12_leaves_267 3 rfl ?_
        obtain ⟨a23, e24, f21, g22, H⟩ := H
        refine ea_deref1 e24 ?_
        obtain ⟨z25, H⟩ := H
        refine ea_iald (pc := 269) dX12_leaves_269 f21 g22 z25 ?_
        refine ea_iload (pc := 270) dX12_leaves_270 2 rfl ?_
        refine ea_icmp_ne (pc := 272) (tgt := 288) dX12_leaves_272 rfl (fun c39 => ?_) (fun c39 => ?_)
        · have H := H.1 c39
          refine ea_iinc (pc := 288) (v := 1) (lv' := [(0, vR r0), (2, vI x2), (6, vI x6), (7, vI (x7 + 1))]) dX12_leaves_288 3 rfl rfl (Nat.le_of_ble_eq_true rfl) [1, 2, 3, 0] rfl ?_
          refine ea_goto (pc := 291) (tgt := 234) dX12_leaves_291 rfl ?_
          exact H
        · have H := H.2 c39
          refine ea_aload_n (pc := 275) dX12_leaves_275 rfl 0 rfl ?_
          refine ea_iload (pc := 276) dX12_leaves_276 3 rfl ?_
          refine ea_aload_n (pc := 278) dX12_leaves_278 rfl 0 rfl ?_
          refine ea_iload_n (pc := 279) dX12_leaves_279 rfl 1 rfl ?_
          refine ea_iload (pc := 280) dX12_leaves_280 2 rfl ?_
          obtain ⟨f30, g31, H⟩ := H
          refine ea_deref2 e4 ?_
          obtain ⟨d26, xc32, h27, m28, q29, H⟩ := H
          refine ea_callV (pc := 282) (As := [vI x2, vI x6]) (st := [vI x7, vR r0]) dX12_leaves_282 kX12_townOf m28 q29 rfl (Nat.le_of_ble_eq_true rfl) ew_1798 ew_1800 ew_60 (ci := 12) rfl (by decide) f30 g31 ?_
          obtain ⟨f37, g38, H⟩ := H
          refine ea_deref2 e4 ?_
          obtain ⟨d33, h34, m35, q36, H⟩ := H
          refine ea_callV (pc := 285) (As := [vI x7, vI xc32]) (st := []) dX12_leaves_285 kX12_sorts m35 q36 rfl (Nat.le_of_ble_eq_true rfl) ew_2082 ew_2084 ew_98 (ci := 12) rfl (by decide) f37 g38 ?_
          refine ea_iinc (pc := 288) (v := 1) (lv' := [(0, vR r0), (2, vI x2), (6, vI x6), (7, vI (x7 + 1))]) dX12_leaves_288 3 rfl rfl (Nat.le_of_ble_eq_true rfl) [1, 2, 3, 0] rfl ?_
          refine ea_goto (pc := 291) (tgt := 234) dX12_leaves_291 rfl ?_
          exact H
theorem dX12_sorts_0 : decode cX12_sorts 0 = .ok (.iconst 0, 1) := by decide +kernel
theorem dX12_sorts_1 : decode cX12_sorts 1 = .ok (.istore_n 3, 1) := by decide +kernel
theorem dX12_sorts_2 : decode cX12_sorts 2 = .ok (.iload_n 3, 1) := by decide +kernel
theorem dX12_sorts_3 : decode cX12_sorts 3 = .ok (.aload_n 0, 1) := by decide +kernel
theorem dX12_sorts_4 : decode cX12_sorts 4 = .ok (.getfield 569, 3) := by decide +kernel
theorem dX12_sorts_7 : decode cX12_sorts 7 = .ok (.if_icmp .ge 52, 3) := by decide +kernel
theorem dX12_sorts_10 : decode cX12_sorts 10 = .ok (.aload_n 0, 1) := by decide +kernel
theorem dX12_sorts_11 : decode cX12_sorts 11 = .ok (.getfield 220, 3) := by decide +kernel
theorem dX12_sorts_14 : decode cX12_sorts 14 = .ok (.iload_n 3, 1) := by decide +kernel
theorem dX12_sorts_15 : decode cX12_sorts 15 = .ok (.iaload, 1) := by decide +kernel
theorem dX12_sorts_16 : decode cX12_sorts 16 = .ok (.ifCond .eq 37, 3) := by decide +kernel
theorem dX12_sorts_19 : decode cX12_sorts 19 = .ok (.aload_n 0, 1) := by decide +kernel
theorem dX12_sorts_20 : decode cX12_sorts 20 = .ok (.getfield 214, 3) := by decide +kernel
theorem dX12_sorts_23 : decode cX12_sorts 23 = .ok (.iload_n 3, 1) := by decide +kernel
theorem dX12_sorts_24 : decode cX12_sorts 24 = .ok (.iaload, 1) := by decide +kernel
theorem dX12_sorts_25 : decode cX12_sorts 25 = .ok (.iload_n 2, 1) := by decide +kernel
theorem dX12_sorts_26 : decode cX12_sorts 26 = .ok (.ishr, 1) := by decide +kernel
theorem dX12_sorts_27 : decode cX12_sorts 27 = .ok (.iconst 1, 1) := by decide +kernel
theorem dX12_sorts_28 : decode cX12_sorts 28 = .ok (.iand, 1) := by decide +kernel
theorem dX12_sorts_29 : decode cX12_sorts 29 = .ok (.ifCond .ne 6, 3) := by decide +kernel
theorem dX12_sorts_32 : decode cX12_sorts 32 = .ok (.goto 21, 3) := by decide +kernel
theorem dX12_sorts_35 : decode cX12_sorts 35 = .ok (.aload_n 0, 1) := by decide +kernel
theorem dX12_sorts_36 : decode cX12_sorts 36 = .ok (.getfield 220, 3) := by decide +kernel
theorem dX12_sorts_39 : decode cX12_sorts 39 = .ok (.iload_n 3, 1) := by decide +kernel
theorem dX12_sorts_40 : decode cX12_sorts 40 = .ok (.dup2, 1) := by decide +kernel
theorem dX12_sorts_41 : decode cX12_sorts 41 = .ok (.iaload, 1) := by decide +kernel
theorem dX12_sorts_42 : decode cX12_sorts 42 = .ok (.iconst 1, 1) := by decide +kernel
theorem dX12_sorts_43 : decode cX12_sorts 43 = .ok (.isub, 1) := by decide +kernel
theorem dX12_sorts_44 : decode cX12_sorts 44 = .ok (.iastore, 1) := by decide +kernel
theorem dX12_sorts_45 : decode cX12_sorts 45 = .ok (.aload_n 0, 1) := by decide +kernel
theorem dX12_sorts_46 : decode cX12_sorts 46 = .ok (.getfield 195, 3) := by decide +kernel
theorem dX12_sorts_49 : decode cX12_sorts 49 = .ok (.iload_n 1, 1) := by decide +kernel
theorem dX12_sorts_50 : decode cX12_sorts 50 = .ok (.iconst 1, 1) := by decide +kernel
theorem dX12_sorts_51 : decode cX12_sorts 51 = .ok (.bastore, 1) := by decide +kernel
theorem dX12_sorts_52 : decode cX12_sorts 52 = .ok (.return_, 1) := by decide +kernel
theorem dX12_sorts_53 : decode cX12_sorts 53 = .ok (.iinc 3 1, 3) := by decide +kernel
theorem dX12_sorts_56 : decode cX12_sorts 56 = .ok (.goto (-54), 3) := by decide +kernel
theorem dX12_sorts_59 : decode cX12_sorts 59 = .ok (.return_, 1) := by decide +kernel
theorem bX12_sorts_0 {d : Nat} {h0 hE h : ea_H} {rv : Option ea_V} {r0 : Option Nat} {x1 : Int32} {x2 : Int32} (H : ea_W mX12_sorts d h0 rv hE 2 [(0, vR r0), (1, vI x1), (2, vI x2), (3, vI 0)] [] h) : ea_W mX12_sorts d h0 rv hE 0 [(0, vR r0), (1, vI x1), (2, vI x2)] [] h := by
  refine ea_iconst (pc := 0) dX12_sorts_0 (v := 0) rfl ?_
  refine ea_istore_n (pc := 1) (lv' := [(0, vR r0), (1, vI x1), (2, vI x2), (3, vI 0)]) dX12_sorts_1 rfl (Nat.le_of_ble_eq_true rfl) [1, 2, 3, 0] rfl ?_
  exact H
theorem bX12_sorts_2 {d : Nat} {h0 hE h : ea_H} {rv : Option ea_V} {r0 : Option Nat} {x1 : Int32} {x2 : Int32} {x3 : Int32} (H : ∃ a3, r0 = some a3 ∧ a3 < ea_n h ∧ ea_c h a3 = 12 ∧ ((ea_i h a3 92) ≤ x3 → rv = none ∧ hE = h) ∧ (¬ (ea_i h a3 92) ≤ x3 → a3 < ea_n h ∧ ea_c h a3 = 12 ∧ ∃ a9, (ea_r h a3 96) = some a9 ∧ a9 < ea_n h ∧ ea_c h a9 = 20 ∧ vp_in x3 (ea_l h a9) ∧ ((ea_i h a9 (Int32.toNatClampNeg x3)) = (0 : Int32) → ea_W mX12_sorts d h0 rv hE 2 [(0, vR r0), (1, vI x1), (2, vI x2), (3, vI (x3 + 1))] [] h) ∧ (¬ (ea_i h a9 (Int32.toNatClampNeg x3)) = (0 : Int32) → a3 < ea_n h ∧ ea_c h a3 = 12 ∧ ∃ a16, (ea_r h a3 94) = some a16 ∧ a16 < ea_n h ∧ ea_c h a16 = 20 ∧ vp_in x3 (ea_l h a16) ∧ (¬ (((ea_i h a16 (Int32.toNatClampNeg x3)) >>> (x2 &&& 31)) &&& (1 : Int32)) = (0 : Int32) → a3 < ea_n h ∧ ea_c h a3 = 12 ∧ a9 < ea_n h ∧ ea_c h a9 = 20 ∧ vp_in x3 (ea_l h a9) ∧ a9 < ea_n h ∧ ea_c h a9 = 20 ∧ vp_in x3 (ea_l h a9) ∧ ∀ h27, h27 = ea_wi h a9 (Int32.toNatClampNeg x3) ((ea_i h a9 (Int32.toNatClampNeg x3)) - (1 : Int32)) → a3 < ea_n h27 ∧ ea_c h27 a3 = 12 ∧ ∃ a33, (ea_r h27 a3 87) = some a33 ∧ a33 < ea_n h27 ∧ ea_c h27 a33 = 21 ∧ vp_in x1 (ea_l h27 a33) ∧ ∀ h36, h36 = ea_wi h27 a33 (Int32.toNatClampNeg x1) 1 → rv = none ∧ hE = h36) ∧ ((((ea_i h a16 (Int32.toNatClampNeg x3)) >>> (x2 &&& 31)) &&& (1 : Int32)) = (0 : Int32) → ea_W mX12_sorts d h0 rv hE 2 [(0, vR r0), (1, vI x1), (2, vI x2), (3, vI (x3 + 1))] [] h)))) : ea_W mX12_sorts d h0 rv hE 2 [(0, vR r0), (1, vI x1), (2, vI x2), (3, vI x3)] [] h := by
  refine ea_iload_n (pc := 2) dX12_sorts_2 rfl 3 rfl ?_
  refine ea_aload_n (pc := 3) dX12_sorts_3 rfl 0 rfl ?_
  obtain ⟨a3, e4, f1, g2, H⟩ := H
  refine ea_deref0 e4 ?_
  refine ea_getI (pc := 4) dX12_sorts_4 ec_12 (k := 92) (Nat.le_of_ble_eq_true rfl) rfl (Or.inl ew_1437) f1 g2 ?_
  refine ea_icmp_ge (pc := 7) (tgt := 59) dX12_sorts_7 rfl (fun c40 => ?_) (fun c40 => ?_)
  · have H := H.1 c40
    obtain ⟨rfl, rfl⟩ := H
    exact ea_return (pc := 59) dX12_sorts_59 rfl
  · have H := H.2 c40
    refine ea_aload_n (pc := 10) dX12_sorts_10 rfl 0 rfl ?_
    obtain ⟨f5, g6, H⟩ := H
    refine ea_deref0 e4 ?_
    refine ea_getR (pc := 11) dX12_sorts_11 ec_12 (k := 96) (Nat.le_of_ble_eq_true rfl) rfl (Or.inl ew_1441) f5 g6 rfl ?_
    refine ea_iload_n (pc := 14) dX12_sorts_14 rfl 3 rfl ?_
    obtain ⟨a9, e10, f7, g8, H⟩ := H
    refine ea_deref1 e10 ?_
    obtain ⟨z11, H⟩ := H
    refine ea_iald (pc := 15) dX12_sorts_15 f7 g8 z11 ?_
    refine ea_if_eq (pc := 16) (tgt := 53) dX12_sorts_16 rfl (fun c39 => ?_) (fun c39 => ?_)
    · have H := H.1 c39
      refine ea_iinc (pc := 53) (v := 1) (lv' := [(0, vR r0), (1, vI x1), (2, vI x2), (3, vI (x3 + 1))]) dX12_sorts_53 3 rfl rfl (Nat.le_of_ble_eq_true rfl) [1, 2, 3, 0] rfl ?_
      refine ea_goto (pc := 56) (tgt := 2) dX12_sorts_56 rfl ?_
      exact H
    · have H := H.2 c39
      refine ea_aload_n (pc := 19) dX12_sorts_19 rfl 0 rfl ?_
      obtain ⟨f12, g13, H⟩ := H
      refine ea_deref0 e4 ?_
      refine ea_getR (pc := 20) dX12_sorts_20 ec_12 (k := 94) (Nat.le_of_ble_eq_true rfl) rfl (Or.inl ew_1439) f12 g13 rfl ?_
      refine ea_iload_n (pc := 23) dX12_sorts_23 rfl 3 rfl ?_
      obtain ⟨a16, e17, f14, g15, H⟩ := H
      refine ea_deref1 e17 ?_
      obtain ⟨z18, H⟩ := H
      refine ea_iald (pc := 24) dX12_sorts_24 f14 g15 z18 ?_
      refine ea_iload_n (pc := 25) dX12_sorts_25 rfl 2 rfl ?_
      refine ea_ishr (pc := 26) dX12_sorts_26 ?_
      refine ea_iconst (pc := 27) dX12_sorts_27 (v := 1) rfl ?_
      refine ea_iand (pc := 28) dX12_sorts_28 ?_
      refine ea_if_ne (pc := 29) (tgt := 35) dX12_sorts_29 rfl (fun c38 => ?_) (fun c38 => ?_)
      · have H := H.1 c38
        refine ea_aload_n (pc := 35) dX12_sorts_35 rfl 0 rfl ?_
        obtain ⟨f19, g20, H⟩ := H
        refine ea_deref0 e4 ?_
        refine ea_getR (pc := 36) dX12_sorts_36 ec_12 (k := 96) (Nat.le_of_ble_eq_true rfl) rfl (Or.inl ew_1441) f19 g20 rfl ?_
        refine ea_iload_n (pc := 39) dX12_sorts_39 rfl 3 rfl ?_
        refine ea_dup2 (pc := 40) dX12_sorts_40 rfl rfl ?_
        obtain ⟨f21, g22, H⟩ := H
        refine ea_deref1 e10 ?_
        obtain ⟨z23, H⟩ := H
        refine ea_iald (pc := 41) dX12_sorts_41 f21 g22 z23 ?_
        refine ea_iconst (pc := 42) dX12_sorts_42 (v := 1) rfl ?_
        refine ea_isub (pc := 43) dX12_sorts_43 ?_
        obtain ⟨f24, g25, H⟩ := H
        refine ea_deref2 e10 ?_
        obtain ⟨z26, H⟩ := H
        refine ea_iast (pc := 44) dX12_sorts_44 f24 g25 z26 ?_
        obtain ⟨h27, E28⟩ : ∃ z, z = ea_wi h a9 (Int32.toNatClampNeg x3) ((ea_i h a9 (Int32.toNatClampNeg x3)) - (1 : Int32)) := ⟨_, rfl⟩
        have H := H h27 E28
        refine ea_nm E28 ?_
        refine ea_aload_n (pc := 45) dX12_sorts_45 rfl 0 rfl ?_
        obtain ⟨f29, g30, H⟩ := H
        refine ea_deref0 e4 ?_
        refine ea_getR (pc := 46) dX12_sorts_46 ec_12 (k := 87) (Nat.le_of_ble_eq_true rfl) rfl (Or.inl ew_1432) f29 g30 rfl ?_
        refine ea_iload_n (pc := 49) dX12_sorts_49 rfl 1 rfl ?_
        refine ea_iconst (pc := 50) dX12_sorts_50 (v := 1) rfl ?_
        obtain ⟨a33, e34, f31, g32, H⟩ := H
        refine ea_deref2 e34 ?_
        obtain ⟨z35, H⟩ := H
        refine ea_zast (pc := 51) dX12_sorts_51 (y := 1) (ea_bn (Or.inr rfl)) f31 g32 z35 ?_
        obtain ⟨h36, E37⟩ : ∃ z, z = ea_wi h27 a33 (Int32.toNatClampNeg x1) 1 := ⟨_, rfl⟩
        have H := H h36 E37
        refine ea_nm E37 ?_
        obtain ⟨rfl, rfl⟩ := H
        exact ea_return (pc := 52) dX12_sorts_52 rfl
      · have H := H.2 c38
        refine ea_goto (pc := 32) (tgt := 53) dX12_sorts_32 rfl ?_
        refine ea_iinc (pc := 53) (v := 1) (lv' := [(0, vR r0), (1, vI x1), (2, vI x2), (3, vI (x3 + 1))]) dX12_sorts_53 3 rfl rfl (Nat.le_of_ble_eq_true rfl) [1, 2, 3, 0] rfl ?_
        refine ea_goto (pc := 56) (tgt := 2) dX12_sorts_56 rfl ?_
        exact H
theorem dX12_begins_0 : decode cX12_begins 0 = .ok (.iconst 0, 1) := by decide +kernel
theorem dX12_begins_1 : decode cX12_begins 1 = .ok (.istore_n 2, 1) := by decide +kernel
theorem dX12_begins_2 : decode cX12_begins 2 = .ok (.iload_n 2, 1) := by decide +kernel
theorem dX12_begins_3 : decode cX12_begins 3 = .ok (.aload_n 0, 1) := by decide +kernel
theorem dX12_begins_4 : decode cX12_begins 4 = .ok (.getfield 531, 3) := by decide +kernel
theorem dX12_begins_7 : decode cX12_begins 7 = .ok (.if_icmp .ge 80, 3) := by decide +kernel
theorem dX12_begins_10 : decode cX12_begins 10 = .ok (.aload_n 0, 1) := by decide +kernel
theorem dX12_begins_11 : decode cX12_begins 11 = .ok (.getfield 177, 3) := by decide +kernel
theorem dX12_begins_14 : decode cX12_begins 14 = .ok (.iload_n 2, 1) := by decide +kernel
theorem dX12_begins_15 : decode cX12_begins 15 = .ok (.iaload, 1) := by decide +kernel
theorem dX12_begins_16 : decode cX12_begins 16 = .ok (.iconst 3, 1) := by decide +kernel
theorem dX12_begins_17 : decode cX12_begins 17 = .ok (.if_icmp .eq 6, 3) := by decide +kernel
theorem dX12_begins_20 : decode cX12_begins 20 = .ok (.goto 61, 3) := by decide +kernel
theorem dX12_begins_23 : decode cX12_begins 23 = .ok (.aload_n 0, 1) := by decide +kernel
theorem dX12_begins_24 : decode cX12_begins 24 = .ok (.getfield 165, 3) := by decide +kernel
theorem dX12_begins_27 : decode cX12_begins 27 = .ok (.iload_n 2, 1) := by decide +kernel
theorem dX12_begins_28 : decode cX12_begins 28 = .ok (.dup2, 1) := by decide +kernel
theorem dX12_begins_29 : decode cX12_begins 29 = .ok (.iaload, 1) := by decide +kernel
theorem dX12_begins_30 : decode cX12_begins 30 = .ok (.iconst 1, 1) := by decide +kernel
theorem dX12_begins_31 : decode cX12_begins 31 = .ok (.iadd, 1) := by decide +kernel
theorem dX12_begins_32 : decode cX12_begins 32 = .ok (.iastore, 1) := by decide +kernel
theorem dX12_begins_33 : decode cX12_begins 33 = .ok (.aload_n 0, 1) := by decide +kernel
theorem dX12_begins_34 : decode cX12_begins 34 = .ok (.getfield 165, 3) := by decide +kernel
theorem dX12_begins_37 : decode cX12_begins 37 = .ok (.iload_n 2, 1) := by decide +kernel
theorem dX12_begins_38 : decode cX12_begins 38 = .ok (.iaload, 1) := by decide +kernel
theorem dX12_begins_39 : decode cX12_begins 39 = .ok (.aload_n 0, 1) := by decide +kernel
theorem dX12_begins_40 : decode cX12_begins 40 = .ok (.getfield 153, 3) := by decide +kernel
theorem dX12_begins_43 : decode cX12_begins 43 = .ok (.iload_n 2, 1) := by decide +kernel
theorem dX12_begins_44 : decode cX12_begins 44 = .ok (.iaload, 1) := by decide +kernel
theorem dX12_begins_45 : decode cX12_begins 45 = .ok (.iconst (-1), 1) := by decide +kernel
theorem dX12_begins_46 : decode cX12_begins 46 = .ok (.if_icmp .ne 7, 3) := by decide +kernel
theorem dX12_begins_49 : decode cX12_begins 49 = .ok (.iconst 3, 1) := by decide +kernel
theorem dX12_begins_50 : decode cX12_begins 50 = .ok (.goto 14, 3) := by decide +kernel
theorem dX12_begins_53 : decode cX12_begins 53 = .ok (.aload_n 0, 1) := by decide +kernel
theorem dX12_begins_54 : decode cX12_begins 54 = .ok (.getfield 92, 3) := by decide +kernel
theorem dX12_begins_57 : decode cX12_begins 57 = .ok (.aload_n 0, 1) := by decide +kernel
theorem dX12_begins_58 : decode cX12_begins 58 = .ok (.getfield 153, 3) := by decide +kernel
theorem dX12_begins_61 : decode cX12_begins 61 = .ok (.iload_n 2, 1) := by decide +kernel
theorem dX12_begins_62 : decode cX12_begins 62 = .ok (.iaload, 1) := by decide +kernel
theorem dX12_begins_63 : decode cX12_begins 63 = .ok (.iaload, 1) := by decide +kernel
theorem dX12_begins_64 : decode cX12_begins 64 = .ok (.if_icmp .lt 17, 3) := by decide +kernel
theorem dX12_begins_67 : decode cX12_begins 67 = .ok (.aload_n 0, 1) := by decide +kernel
theorem dX12_begins_68 : decode cX12_begins 68 = .ok (.iload_n 2, 1) := by decide +kernel
theorem dX12_begins_69 : decode cX12_begins 69 = .ok (.iload_n 1, 1) := by decide +kernel
theorem dX12_begins_70 : decode cX12_begins 70 = .ok (.bipush 6, 2) := by decide +kernel
theorem dX12_begins_72 : decode cX12_begins 72 = .ok (.aload_n 0, 1) := by decide +kernel
theorem dX12_begins_73 : decode cX12_begins 73 = .ok (.getfield 180, 3) := by decide +kernel
theorem dX12_begins_76 : decode cX12_begins 76 = .ok (.iload_n 2, 1) := by decide +kernel
theorem dX12_begins_77 : decode cX12_begins 77 = .ok (.iaload, 1) := by decide +kernel
theorem dX12_begins_78 : decode cX12_begins 78 = .ok (.invokevirtual 556, 3) := by decide +kernel
theorem dX12_begins_81 : decode cX12_begins 81 = .ok (.iinc 2 1, 3) := by decide +kernel
theorem dX12_begins_84 : decode cX12_begins 84 = .ok (.goto (-82), 3) := by decide +kernel
theorem dX12_begins_87 : decode cX12_begins 87 = .ok (.return_, 1) := by decide +kernel
theorem bX12_begins_0 {d : Nat} {h0 hE h : ea_H} {rv : Option ea_V} {r0 : Option Nat} {x1 : Int32} (H : ea_W mX12_begins d h0 rv hE 2 [(0, vR r0), (1, vI x1), (2, vI 0)] [] h) : ea_W mX12_begins d h0 rv hE 0 [(0, vR r0), (1, vI x1)] [] h := by
  refine ea_iconst (pc := 0) dX12_begins_0 (v := 0) rfl ?_
  refine ea_istore_n (pc := 1) (lv' := [(0, vR r0), (1, vI x1), (2, vI 0)]) dX12_begins_1 rfl (Nat.le_of_ble_eq_true rfl) [1, 2, 0] rfl ?_
  exact H
theorem bX12_begins_2 {d : Nat} {h0 hE h : ea_H} {rv : Option ea_V} {r0 : Option Nat} {x1 : Int32} {x2 : Int32} (H : ∃ a3, r0 = some a3 ∧ a3 < ea_n h ∧ ea_c h a3 = 12 ∧ ((ea_i h a3 63) ≤ x2 → rv = none ∧ hE = h) ∧ (¬ (ea_i h a3 63) ≤ x2 → a3 < ea_n h ∧ ea_c h a3 = 12 ∧ ∃ a9, (ea_r h a3 81) = some a9 ∧ a9 < ea_n h ∧ ea_c h a9 = 20 ∧ vp_in x2 (ea_l h a9) ∧ ((ea_i h a9 (Int32.toNatClampNeg x2)) = (3 : Int32) → a3 < ea_n h ∧ ea_c h a3 = 12 ∧ ∃ a16, (ea_r h a3 77) = some a16 ∧ a16 < ea_n h ∧ ea_c h a16 = 20 ∧ vp_in x2 (ea_l h a16) ∧ a16 < ea_n h ∧ ea_c h a16 = 20 ∧ vp_in x2 (ea_l h a16) ∧ ∀ h22, h22 = ea_wi h a16 (Int32.toNatClampNeg x2) ((ea_i h a16 (Int32.toNatClampNeg x2)) + (1 : Int32)) → a3 < ea_n h22 ∧ ea_c h22 a3 = 12 ∧ ∃ a28, (ea_r h22 a3 77) = some a28 ∧ a28 < ea_n h22 ∧ ea_c h22 a28 = 20 ∧ vp_in x2 (ea_l h22 a28) ∧ a3 < ea_n h22 ∧ ea_c h22 a3 = 12 ∧ ∃ a35, (ea_r h22 a3 73) = some a35 ∧ a35 < ea_n h22 ∧ ea_c h22 a35 = 20 ∧ vp_in x2 (ea_l h22 a35) ∧ (¬ (ea_i h22 a35 (Int32.toNatClampNeg x2)) = ((-1) : Int32) → a3 < ea_n h22 ∧ ea_c h22 a3 = 12 ∧ a3 < ea_n h22 ∧ ea_c h22 a3 = 12 ∧ a35 < ea_n h22 ∧ ea_c h22 a35 = 20 ∧ vp_in x2 (ea_l h22 a35) ∧ ∃ a47, (ea_r h22 a3 33) = some a47 ∧ a47 < ea_n h22 ∧ ea_c h22 a47 = 20 ∧ vp_in (ea_i h22 a35 (Int32.toNatClampNeg x2)) (ea_l h22 a47) ∧ ea_W mX12_begins d h0 rv hE 64 [(0, vR r0), (1, vI x1), (2, vI x2)] [vI (ea_i h22 a47 (Int32.toNatClampNeg (ea_i h22 a35 (Int32.toNatClampNeg x2)))), vI (ea_i h22 a28 (Int32.toNatClampNeg x2))] h22) ∧ ((ea_i h22 a35 (Int32.toNatClampNeg x2)) = ((-1) : Int32) → ea_W mX12_begins d h0 rv hE 64 [(0, vR r0), (1, vI x1), (2, vI x2)] [vI 3, vI (ea_i h22 a28 (Int32.toNatClampNeg x2))] h22)) ∧ (¬ (ea_i h a9 (Int32.toNatClampNeg x2)) = (3 : Int32) → ea_W mX12_begins d h0 rv hE 2 [(0, vR r0), (1, vI x1), (2, vI (x2 + 1))] [] h))) : ea_W mX12_begins d h0 rv hE 2 [(0, vR r0), (1, vI x1), (2, vI x2)] [] h := by
  refine ea_iload_n (pc := 2) dX12_begins_2 rfl 2 rfl ?_
  refine ea_aload_n (pc := 3) dX12_begins_3 rfl 0 rfl ?_
  obtain ⟨a3, e4, f1, g2, H⟩ := H
  refine ea_deref0 e4 ?_
  refine ea_getI (pc := 4) dX12_begins_4 ec_12 (k := 63) (Nat.le_of_ble_eq_true rfl) rfl (Or.inl ew_1408) f1 g2 ?_
  refine ea_icmp_ge (pc := 7) (tgt := 87) dX12_begins_7 rfl (fun c52 => ?_) (fun c52 => ?_)
  · have H := H.1 c52
    obtain ⟨rfl, rfl⟩ := H
    exact ea_return (pc := 87) dX12_begins_87 rfl
  · have H := H.2 c52
    refine ea_aload_n (pc := 10) dX12_begins_10 rfl 0 rfl ?_
    obtain ⟨f5, g6, H⟩ := H
    refine ea_deref0 e4 ?_
    refine ea_getR (pc := 11) dX12_begins_11 ec_12 (k := 81) (Nat.le_of_ble_eq_true rfl) rfl (Or.inl ew_1426) f5 g6 rfl ?_
    refine ea_iload_n (pc := 14) dX12_begins_14 rfl 2 rfl ?_
    obtain ⟨a9, e10, f7, g8, H⟩ := H
    refine ea_deref1 e10 ?_
    obtain ⟨z11, H⟩ := H
    refine ea_iald (pc := 15) dX12_begins_15 f7 g8 z11 ?_
    refine ea_iconst (pc := 16) dX12_begins_16 (v := 3) rfl ?_
    refine ea_icmp_eq (pc := 17) (tgt := 23) dX12_begins_17 rfl (fun c51 => ?_) (fun c51 => ?_)
    · have H := H.1 c51
      refine ea_aload_n (pc := 23) dX12_begins_23 rfl 0 rfl ?_
      obtain ⟨f12, g13, H⟩ := H
      refine ea_deref0 e4 ?_
      refine ea_getR (pc := 24) dX12_begins_24 ec_12 (k := 77) (Nat.le_of_ble_eq_true rfl) rfl (Or.inl ew_1422) f12 g13 rfl ?_
      refine ea_iload_n (pc := 27) dX12_begins_27 rfl 2 rfl ?_
      refine ea_dup2 (pc := 28) dX12_begins_28 rfl rfl ?_
      obtain ⟨a16, e17, f14, g15, H⟩ := H
      refine ea_deref1 e17 ?_
      obtain ⟨z18, H⟩ := H
      refine ea_iald (pc := 29) dX12_begins_29 f14 g15 z18 ?_
      refine ea_iconst (pc := 30) dX12_begins_30 (v := 1) rfl ?_
      refine ea_iadd (pc := 31) dX12_begins_31 ?_
      obtain ⟨f19, g20, H⟩ := H
      refine ea_deref2 e17 ?_
      obtain ⟨z21, H⟩ := H
      refine ea_iast (pc := 32) dX12_begins_32 f19 g20 z21 ?_
      obtain ⟨h22, E23⟩ : ∃ z, z = ea_wi h a16 (Int32.toNatClampNeg x2) ((ea_i h a16 (Int32.toNatClampNeg x2)) + (1 : Int32)) := ⟨_, rfl⟩
      have H := H h22 E23
      refine ea_nm E23 ?_
      refine ea_aload_n (pc := 33) dX12_begins_33 rfl 0 rfl ?_
      obtain ⟨f24, g25, H⟩ := H
      refine ea_deref0 e4 ?_
      refine ea_getR (pc := 34) dX12_begins_34 ec_12 (k := 77) (Nat.le_of_ble_eq_true rfl) rfl (Or.inl ew_1422) f24 g25 rfl ?_
      refine ea_iload_n (pc := 37) dX12_begins_37 rfl 2 rfl ?_
      obtain ⟨a28, e29, f26, g27, H⟩ := H
      refine ea_deref1 e29 ?_
      obtain ⟨z30, H⟩ := H
      refine ea_iald (pc := 38) dX12_begins_38 f26 g27 z30 ?_
      refine ea_aload_n (pc := 39) dX12_begins_39 rfl 0 rfl ?_
      obtain ⟨f31, g32, H⟩ := H
      refine ea_deref0 e4 ?_
      refine ea_getR (pc := 40) dX12_begins_40 ec_12 (k := 73) (Nat.le_of_ble_eq_true rfl) rfl (Or.inl ew_1418) f31 g32 rfl ?_
      refine ea_iload_n (pc := 43) dX12_begins_43 rfl 2 rfl ?_
      obtain ⟨a35, e36, f33, g34, H⟩ := H
      refine ea_deref1 e36 ?_
      obtain ⟨z37, H⟩ := H
      refine ea_iald (pc := 44) dX12_begins_44 f33 g34 z37 ?_
      refine ea_iconst (pc := 45) dX12_begins_45 (v := (-1)) rfl ?_
      refine ea_icmp_ne (pc := 46) (tgt := 53) dX12_begins_46 rfl (fun c50 => ?_) (fun c50 => ?_)
      · have H := H.1 c50
        refine ea_aload_n (pc := 53) dX12_begins_53 rfl 0 rfl ?_
        obtain ⟨f38, g39, H⟩ := H
        refine ea_deref0 e4 ?_
        refine ea_getR (pc := 54) dX12_begins_54 ec_12 (k := 33) (Nat.le_of_ble_eq_true rfl) rfl (Or.inl ew_1378) f38 g39 rfl ?_
        refine ea_aload_n (pc := 57) dX12_begins_57 rfl 0 rfl ?_
        obtain ⟨f40, g41, H⟩ := H
        refine ea_deref0 e4 ?_
        refine ea_getR (pc := 58) dX12_begins_58 ec_12 (k := 73) (Nat.le_of_ble_eq_true rfl) rfl (Or.inl ew_1418) f40 g41 rfl ?_
        refine ea_iload_n (pc := 61) dX12_begins_61 rfl 2 rfl ?_
        obtain ⟨f42, g43, H⟩ := H
        refine ea_deref1 e36 ?_
        obtain ⟨z44, H⟩ := H
        refine ea_iald (pc := 62) dX12_begins_62 f42 g43 z44 ?_
        obtain ⟨a47, e48, f45, g46, H⟩ := H
        refine ea_deref1 e48 ?_
        obtain ⟨z49, H⟩ := H
        refine ea_iald (pc := 63) dX12_begins_63 f45 g46 z49 ?_
        exact H
      · have H := H.2 c50
        refine ea_iconst (pc := 49) dX12_begins_49 (v := 3) rfl ?_
        refine ea_goto (pc := 50) (tgt := 64) dX12_begins_50 rfl ?_
        exact H
    · have H := H.2 c51
      refine ea_goto (pc := 20) (tgt := 81) dX12_begins_20 rfl ?_
      refine ea_iinc (pc := 81) (v := 1) (lv' := [(0, vR r0), (1, vI x1), (2, vI (x2 + 1))]) dX12_begins_81 2 rfl rfl (Nat.le_of_ble_eq_true rfl) [1, 2, 0] rfl ?_
      refine ea_goto (pc := 84) (tgt := 2) dX12_begins_84 rfl ?_
      exact H
theorem bX12_begins_64 {d : Nat} {h0 hE h : ea_H} {rv : Option ea_V} {r0 : Option Nat} {x1 : Int32} {x2 : Int32} {sx0 : Int32} {sx1 : Int32} (H : (sx1 < sx0 → ea_W mX12_begins d h0 rv hE 2 [(0, vR r0), (1, vI x1), (2, vI (x2 + 1))] [] h) ∧ (¬ sx1 < sx0 → ∃ a3, r0 = some a3 ∧ a3 < ea_n h ∧ ea_c h a3 = 12 ∧ ∃ a7, (ea_r h a3 82) = some a7 ∧ a7 < ea_n h ∧ ea_c h a7 = 20 ∧ vp_in x2 (ea_l h a7) ∧ a3 < ea_n h ∧ ea_c h a3 = 12 ∧ ∃ (d10 : Nat) (h11 : ea_H), ea_Met mX12_turns d10 [vR (some a3), vI x2, vI x1, vI 6, vI (ea_i h a7 (Int32.toNatClampNeg x2))] h none h11 ∧ d10 + 1 ≤ d ∧ ea_W mX12_begins d h0 rv hE 2 [(0, vR r0), (1, vI x1), (2, vI (x2 + 1))] [] h11)) : ea_W mX12_begins d h0 rv hE 64 [(0, vR r0), (1, vI x1), (2, vI x2)] [vI sx0, vI sx1] h := by
  refine ea_icmp_lt (pc := 64) (tgt := 81) dX12_begins_64 rfl (fun c16 => ?_) (fun c16 => ?_)
  · have H := H.1 c16
    refine ea_iinc (pc := 81) (v := 1) (lv' := [(0, vR r0), (1, vI x1), (2, vI (x2 + 1))]) dX12_begins_81 2 rfl rfl (Nat.le_of_ble_eq_true rfl) [1, 2, 0] rfl ?_
    refine ea_goto (pc := 84) (tgt := 2) dX12_begins_84 rfl ?_
    exact H
  · have H := H.2 c16
    refine ea_aload_n (pc := 67) dX12_begins_67 rfl 0 rfl ?_
    refine ea_iload_n (pc := 68) dX12_begins_68 rfl 2 rfl ?_
    refine ea_iload_n (pc := 69) dX12_begins_69 rfl 1 rfl ?_
    refine ea_bipush (pc := 70) dX12_begins_70 (v := 6) rfl ?_
    refine ea_aload_n (pc := 72) dX12_begins_72 rfl 0 rfl ?_
    obtain ⟨a3, e4, f1, g2, H⟩ := H
    refine ea_deref0 e4 ?_
    refine ea_getR (pc := 73) dX12_begins_73 ec_12 (k := 82) (Nat.le_of_ble_eq_true rfl) rfl (Or.inl ew_1427) f1 g2 rfl ?_
    refine ea_iload_n (pc := 76) dX12_begins_76 rfl 2 rfl ?_
    obtain ⟨a7, e8, f5, g6, H⟩ := H
    refine ea_deref1 e8 ?_
    obtain ⟨z9, H⟩ := H
    refine ea_iald (pc := 77) dX12_begins_77 f5 g6 z9 ?_
    obtain ⟨f14, g15, H⟩ := H
    refine ea_deref4 e4 ?_
    obtain ⟨d10, h11, m12, q13, H⟩ := H
    refine ea_callV (pc := 78) (As := [vI x2, vI x1, vI 6, vI (ea_i h a7 (Int32.toNatClampNeg x2))]) (st := []) dX12_begins_78 kX12_turns m12 q13 rfl (Nat.le_of_ble_eq_true rfl) ew_2011 ew_2013 ew_88 (ci := 12) rfl (by decide) f14 g15 ?_
    refine ea_iinc (pc := 81) (v := 1) (lv' := [(0, vR r0), (1, vI x1), (2, vI (x2 + 1))]) dX12_begins_81 2 rfl rfl (Nat.le_of_ble_eq_true rfl) [1, 2, 0] rfl ?_
    refine ea_goto (pc := 84) (tgt := 2) dX12_begins_84 rfl ?_
    exact H
theorem dX12_leadsOn_0 : decode cX12_leadsOn 0 = .ok (.aload_n 0, 1) := by decide +kernel
theorem dX12_leadsOn_1 : decode cX12_leadsOn 1 = .ok (.invokevirtual 358, 3) := by decide +kernel
theorem dX12_leadsOn_4 : decode cX12_leadsOn 4 = .ok (.iload_n 1, 1) := by decide +kernel
theorem dX12_leadsOn_5 : decode cX12_leadsOn 5 = .ok (.sipush 1440, 3) := by decide +kernel
theorem dX12_leadsOn_8 : decode cX12_leadsOn 8 = .ok (.idiv, 1) := by decide +kernel
theorem dX12_leadsOn_9 : decode cX12_leadsOn 9 = .ok (.iconst 1, 1) := by decide +kernel
theorem dX12_leadsOn_10 : decode cX12_leadsOn 10 = .ok (.iadd, 1) := by decide +kernel
theorem dX12_leadsOn_11 : decode cX12_leadsOn 11 = .ok (.istore_n 3, 1) := by decide +kernel
theorem dX12_leadsOn_12 : decode cX12_leadsOn 12 = .ok (.iconst 0, 1) := by decide +kernel
theorem dX12_leadsOn_13 : decode cX12_leadsOn 13 = .ok (.istore 4, 2) := by decide +kernel
theorem dX12_leadsOn_15 : decode cX12_leadsOn 15 = .ok (.iload 4, 2) := by decide +kernel
theorem dX12_leadsOn_17 : decode cX12_leadsOn 17 = .ok (.aload_n 0, 1) := by decide +kernel
theorem dX12_leadsOn_18 : decode cX12_leadsOn 18 = .ok (.getfield 335, 3) := by decide +kernel
theorem dX12_leadsOn_21 : decode cX12_leadsOn 21 = .ok (.if_icmp .ge 89, 3) := by decide +kernel
theorem dX12_leadsOn_24 : decode cX12_leadsOn 24 = .ok (.aload_n 0, 1) := by decide +kernel
theorem dX12_leadsOn_25 : decode cX12_leadsOn 25 = .ok (.getfield 38, 3) := by decide +kernel
theorem dX12_leadsOn_28 : decode cX12_leadsOn 28 = .ok (.iload 4, 2) := by decide +kernel
theorem dX12_leadsOn_30 : decode cX12_leadsOn 30 = .ok (.iaload, 1) := by decide +kernel
theorem dX12_leadsOn_31 : decode cX12_leadsOn 31 = .ok (.iload_n 2, 1) := by decide +kernel
theorem dX12_leadsOn_32 : decode cX12_leadsOn 32 = .ok (.if_icmp .gt 78, 3) := by decide +kernel
theorem dX12_leadsOn_35 : decode cX12_leadsOn 35 = .ok (.aload_n 0, 1) := by decide +kernel
theorem dX12_leadsOn_36 : decode cX12_leadsOn 36 = .ok (.getfield 38, 3) := by decide +kernel
theorem dX12_leadsOn_39 : decode cX12_leadsOn 39 = .ok (.iload 4, 2) := by decide +kernel
theorem dX12_leadsOn_41 : decode cX12_leadsOn 41 = .ok (.iaload, 1) := by decide +kernel
theorem dX12_leadsOn_42 : decode cX12_leadsOn 42 = .ok (.iload_n 1, 1) := by decide +kernel
theorem dX12_leadsOn_43 : decode cX12_leadsOn 43 = .ok (.if_icmp .gt 6, 3) := by decide +kernel
theorem dX12_leadsOn_46 : decode cX12_leadsOn 46 = .ok (.goto 58, 3) := by decide +kernel
theorem dX12_leadsOn_49 : decode cX12_leadsOn 49 = .ok (.sipush 1440, 3) := by decide +kernel
theorem dX12_leadsOn_52 : decode cX12_leadsOn 52 = .ok (.iload_n 3, 1) := by decide +kernel
theorem dX12_leadsOn_53 : decode cX12_leadsOn 53 = .ok (.imul, 1) := by decide +kernel
theorem dX12_leadsOn_54 : decode cX12_leadsOn 54 = .ok (.aload_n 0, 1) := by decide +kernel
theorem dX12_leadsOn_55 : decode cX12_leadsOn 55 = .ok (.getfield 38, 3) := by decide +kernel
theorem dX12_leadsOn_58 : decode cX12_leadsOn 58 = .ok (.iload 4, 2) := by decide +kernel
theorem dX12_leadsOn_60 : decode cX12_leadsOn 60 = .ok (.iaload, 1) := by decide +kernel
theorem dX12_leadsOn_61 : decode cX12_leadsOn 61 = .ok (.if_icmp .gt 18, 3) := by decide +kernel
theorem dX12_leadsOn_64 : decode cX12_leadsOn 64 = .ok (.aload_n 0, 1) := by decide +kernel
theorem dX12_leadsOn_65 : decode cX12_leadsOn 65 = .ok (.sipush 1440, 3) := by decide +kernel
theorem dX12_leadsOn_68 : decode cX12_leadsOn 68 = .ok (.iload_n 3, 1) := by decide +kernel
theorem dX12_leadsOn_69 : decode cX12_leadsOn 69 = .ok (.imul, 1) := by decide +kernel
theorem dX12_leadsOn_70 : decode cX12_leadsOn 70 = .ok (.invokevirtual 585, 3) := by decide +kernel
theorem dX12_leadsOn_73 : decode cX12_leadsOn 73 = .ok (.iinc 3 1, 3) := by decide +kernel
theorem dX12_leadsOn_76 : decode cX12_leadsOn 76 = .ok (.goto (-27), 3) := by decide +kernel
theorem dX12_leadsOn_79 : decode cX12_leadsOn 79 = .ok (.aload_n 0, 1) := by decide +kernel
theorem dX12_leadsOn_80 : decode cX12_leadsOn 80 = .ok (.getfield 41, 3) := by decide +kernel
theorem dX12_leadsOn_83 : decode cX12_leadsOn 83 = .ok (.iload 4, 2) := by decide +kernel
theorem dX12_leadsOn_85 : decode cX12_leadsOn 85 = .ok (.iaload, 1) := by decide +kernel
theorem dX12_leadsOn_86 : decode cX12_leadsOn 86 = .ok (.ifCond .ne 12, 3) := by decide +kernel
theorem dX12_leadsOn_89 : decode cX12_leadsOn 89 = .ok (.aload_n 0, 1) := by decide +kernel
theorem dX12_leadsOn_90 : decode cX12_leadsOn 90 = .ok (.iload 4, 2) := by decide +kernel
theorem dX12_leadsOn_92 : decode cX12_leadsOn 92 = .ok (.invokevirtual 588, 3) := by decide +kernel
theorem dX12_leadsOn_95 : decode cX12_leadsOn 95 = .ok (.goto 9, 3) := by decide +kernel
theorem dX12_leadsOn_98 : decode cX12_leadsOn 98 = .ok (.aload_n 0, 1) := by decide +kernel
theorem dX12_leadsOn_99 : decode cX12_leadsOn 99 = .ok (.iload 4, 2) := by decide +kernel
theorem dX12_leadsOn_101 : decode cX12_leadsOn 101 = .ok (.invokevirtual 591, 3) := by decide +kernel
theorem dX12_leadsOn_104 : decode cX12_leadsOn 104 = .ok (.iinc 4 1, 3) := by decide +kernel
theorem dX12_leadsOn_107 : decode cX12_leadsOn 107 = .ok (.goto (-92), 3) := by decide +kernel
theorem dX12_leadsOn_110 : decode cX12_leadsOn 110 = .ok (.sipush 1440, 3) := by decide +kernel
theorem dX12_leadsOn_113 : decode cX12_leadsOn 113 = .ok (.iload_n 3, 1) := by decide +kernel
theorem dX12_leadsOn_114 : decode cX12_leadsOn 114 = .ok (.imul, 1) := by decide +kernel
theorem dX12_leadsOn_115 : decode cX12_leadsOn 115 = .ok (.iload_n 2, 1) := by decide +kernel
theorem dX12_leadsOn_116 : decode cX12_leadsOn 116 = .ok (.if_icmp .gt 18, 3) := by decide +kernel
theorem dX12_leadsOn_119 : decode cX12_leadsOn 119 = .ok (.aload_n 0, 1) := by decide +kernel
theorem dX12_leadsOn_120 : decode cX12_leadsOn 120 = .ok (.sipush 1440, 3) := by decide +kernel
theorem dX12_leadsOn_123 : decode cX12_leadsOn 123 = .ok (.iload_n 3, 1) := by decide +kernel
theorem dX12_leadsOn_124 : decode cX12_leadsOn 124 = .ok (.imul, 1) := by decide +kernel
theorem dX12_leadsOn_125 : decode cX12_leadsOn 125 = .ok (.invokevirtual 585, 3) := by decide +kernel
theorem dX12_leadsOn_128 : decode cX12_leadsOn 128 = .ok (.iinc 3 1, 3) := by decide +kernel
theorem dX12_leadsOn_131 : decode cX12_leadsOn 131 = .ok (.goto (-21), 3) := by decide +kernel
theorem dX12_leadsOn_134 : decode cX12_leadsOn 134 = .ok (.return_, 1) := by decide +kernel
theorem bX12_leadsOn_0 {d : Nat} {h0 hE h : ea_H} {rv : Option ea_V} {r0 : Option Nat} {x1 : Int32} {x2 : Int32} (H : ∃ a7, r0 = some a7 ∧ a7 < ea_n h ∧ ea_c h a7 = 12 ∧ ∃ (d1 : Nat) (h2 : ea_H), ea_Met mX12_table d1 [vR (some a7)] h none h2 ∧ d1 + 1 ≤ d ∧ ea_W mX12_leadsOn d h0 rv hE 15 [(0, vR r0), (1, vI x1), (2, vI x2), (3, vI ((x1 / (1440 : Int32)) + (1 : Int32))), (4, vI 0)] [] h2) : ea_W mX12_leadsOn d h0 rv hE 0 [(0, vR r0), (1, vI x1), (2, vI x2)] [] h := by
  refine ea_aload_n (pc := 0) dX12_leadsOn_0 rfl 0 rfl ?_
  obtain ⟨a7, e8, f5, g6, H⟩ := H
  refine ea_deref0 e8 ?_
  obtain ⟨d1, h2, m3, q4, H⟩ := H
  refine ea_callV (pc := 1) (As := []) (st := []) dX12_leadsOn_1 kX12_table m3 q4 rfl (Nat.le_of_ble_eq_true rfl) ew_1774 ew_1776 ew_54 (ci := 12) rfl (by decide) f5 g6 ?_
  refine ea_iload_n (pc := 4) dX12_leadsOn_4 rfl 1 rfl ?_
  refine ea_sipush (pc := 5) dX12_leadsOn_5 (v := 1440) rfl ?_
  refine ea_idiv (pc := 8) dX12_leadsOn_8 (by decide) ?_
  refine ea_iconst (pc := 9) dX12_leadsOn_9 (v := 1) rfl ?_
  refine ea_iadd (pc := 10) dX12_leadsOn_10 ?_
  refine ea_istore_n (pc := 11) (lv' := [(0, vR r0), (1, vI x1), (2, vI x2), (3, vI ((x1 / (1440 : Int32)) + (1 : Int32)))]) dX12_leadsOn_11 rfl (Nat.le_of_ble_eq_true rfl) [1, 2, 3, 0] rfl ?_
  refine ea_iconst (pc := 12) dX12_leadsOn_12 (v := 0) rfl ?_
  refine ea_istore (pc := 13) (lv' := [(0, vR r0), (1, vI x1), (2, vI x2), (3, vI ((x1 / (1440 : Int32)) + (1 : Int32))), (4, vI 0)]) dX12_leadsOn_13 (Nat.le_of_ble_eq_true rfl) [1, 2, 3, 4, 0] rfl ?_
  exact H
theorem bX12_leadsOn_15 {d : Nat} {h0 hE h : ea_H} {rv : Option ea_V} {r0 : Option Nat} {x1 : Int32} {x2 : Int32} {x3 : Int32} {x4 : Int32} (H : ∃ a3, r0 = some a3 ∧ a3 < ea_n h ∧ ea_c h a3 = 12 ∧ ((ea_i h a3 13) ≤ x4 → ea_W mX12_leadsOn d h0 rv hE 110 [(0, vR r0), (2, vI x2), (3, vI x3)] [] h) ∧ (¬ (ea_i h a3 13) ≤ x4 → a3 < ea_n h ∧ ea_c h a3 = 12 ∧ ∃ a9, (ea_r h a3 14) = some a9 ∧ a9 < ea_n h ∧ ea_c h a9 = 20 ∧ vp_in x4 (ea_l h a9) ∧ (x2 < (ea_i h a9 (Int32.toNatClampNeg x4)) → ea_W mX12_leadsOn d h0 rv hE 110 [(0, vR r0), (2, vI x2), (3, vI x3)] [] h) ∧ (¬ x2 < (ea_i h a9 (Int32.toNatClampNeg x4)) → a3 < ea_n h ∧ ea_c h a3 = 12 ∧ a9 < ea_n h ∧ ea_c h a9 = 20 ∧ vp_in x4 (ea_l h a9) ∧ (x1 < (ea_i h a9 (Int32.toNatClampNeg x4)) → ea_W mX12_leadsOn d h0 rv hE 49 [(0, vR r0), (1, vI x1), (2, vI x2), (3, vI x3), (4, vI x4)] [] h) ∧ (¬ x1 < (ea_i h a9 (Int32.toNatClampNeg x4)) → ea_W mX12_leadsOn d h0 rv hE 15 [(0, vR r0), (1, vI x1), (2, vI x2), (3, vI x3), (4, vI (x4 + 1))] [] h)))) : ea_W mX12_leadsOn d h0 rv hE 15 [(0, vR r0), (1, vI x1), (2, vI x2), (3, vI x3), (4, vI x4)] [] h := by
  refine ea_iload (pc := 15) dX12_leadsOn_15 4 rfl ?_
  refine ea_aload_n (pc := 17) dX12_leadsOn_17 rfl 0 rfl ?_
  obtain ⟨a3, e4, f1, g2, H⟩ := H
  refine ea_deref0 e4 ?_
  refine ea_getI (pc := 18) dX12_leadsOn_18 ec_12 (k := 13) (Nat.le_of_ble_eq_true rfl) rfl (Or.inl ew_1358) f1 g2 ?_
  refine ea_icmp_ge (pc := 21) (tgt := 110) dX12_leadsOn_21 rfl (fun c19 => ?_) (fun c19 => ?_)
  · have H := H.1 c19
    exact ea_fewer [0, 2, 3] rfl H
  · have H := H.2 c19
    refine ea_aload_n (pc := 24) dX12_leadsOn_24 rfl 0 rfl ?_
    obtain ⟨f5, g6, H⟩ := H
    refine ea_deref0 e4 ?_
    refine ea_getR (pc := 25) dX12_leadsOn_25 ec_12 (k := 14) (Nat.le_of_ble_eq_true rfl) rfl (Or.inl ew_1359) f5 g6 rfl ?_
    refine ea_iload (pc := 28) dX12_leadsOn_28 4 rfl ?_
    obtain ⟨a9, e10, f7, g8, H⟩ := H
    refine ea_deref1 e10 ?_
    obtain ⟨z11, H⟩ := H
    refine ea_iald (pc := 30) dX12_leadsOn_30 f7 g8 z11 ?_
    refine ea_iload_n (pc := 31) dX12_leadsOn_31 rfl 2 rfl ?_
    refine ea_icmp_gt (pc := 32) (tgt := 110) dX12_leadsOn_32 rfl (fun c18 => ?_) (fun c18 => ?_)
    · have H := H.1 c18
      exact ea_fewer [0, 2, 3] rfl H
    · have H := H.2 c18
      refine ea_aload_n (pc := 35) dX12_leadsOn_35 rfl 0 rfl ?_
      obtain ⟨f12, g13, H⟩ := H
      refine ea_deref0 e4 ?_
      refine ea_getR (pc := 36) dX12_leadsOn_36 ec_12 (k := 14) (Nat.le_of_ble_eq_true rfl) rfl (Or.inl ew_1359) f12 g13 rfl ?_
      refine ea_iload (pc := 39) dX12_leadsOn_39 4 rfl ?_
      obtain ⟨f14, g15, H⟩ := H
      refine ea_deref1 e10 ?_
      obtain ⟨z16, H⟩ := H
      refine ea_iald (pc := 41) dX12_leadsOn_41 f14 g15 z16 ?_
      refine ea_iload_n (pc := 42) dX12_leadsOn_42 rfl 1 rfl ?_
      refine ea_icmp_gt (pc := 43) (tgt := 49) dX12_leadsOn_43 rfl (fun c17 => ?_) (fun c17 => ?_)
      · have H := H.1 c17
        exact H
      · have H := H.2 c17
        refine ea_goto (pc := 46) (tgt := 104) dX12_leadsOn_46 rfl ?_
        refine ea_iinc (pc := 104) (v := 1) (lv' := [(0, vR r0), (1, vI x1), (2, vI x2), (3, vI x3), (4, vI (x4 + 1))]) dX12_leadsOn_104 4 rfl rfl (Nat.le_of_ble_eq_true rfl) [1, 2, 3, 4, 0] rfl ?_
        refine ea_goto (pc := 107) (tgt := 15) dX12_leadsOn_107 rfl ?_
        exact H
theorem bX12_leadsOn_49 {d : Nat} {h0 hE h : ea_H} {rv : Option ea_V} {r0 : Option Nat} {x1 : Int32} {x2 : Int32} {x3 : Int32} {x4 : Int32} (H : ∃ a3, r0 = some a3 ∧ a3 < ea_n h ∧ ea_c h a3 = 12 ∧ ∃ a7, (ea_r h a3 14) = some a7 ∧ a7 < ea_n h ∧ ea_c h a7 = 20 ∧ vp_in x4 (ea_l h a7) ∧ ((ea_i h a7 (Int32.toNatClampNeg x4)) < ((1440 : Int32) * x3) → a3 < ea_n h ∧ ea_c h a3 = 12 ∧ ∃ a14, (ea_r h a3 15) = some a14 ∧ a14 < ea_n h ∧ ea_c h a14 = 20 ∧ vp_in x4 (ea_l h a14) ∧ (¬ (ea_i h a14 (Int32.toNatClampNeg x4)) = (0 : Int32) → a3 < ea_n h ∧ ea_c h a3 = 12 ∧ ∃ (d17 : Nat) (h18 : ea_H), ea_Met mX12_leaves d17 [vR (some a3), vI x4] h none h18 ∧ d17 + 1 ≤ d ∧ ea_W mX12_leadsOn d h0 rv hE 15 [(0, vR r0), (1, vI x1), (2, vI x2), (3, vI x3), (4, vI (x4 + 1))] [] h18) ∧ ((ea_i h a14 (Int32.toNatClampNeg x4)) = (0 : Int32) → a3 < ea_n h ∧ ea_c h a3 = 12 ∧ ∃ (d23 : Nat) (h24 : ea_H), ea_Met mX12_coming d23 [vR (some a3), vI x4] h none h24 ∧ d23 + 1 ≤ d ∧ ea_W mX12_leadsOn d h0 rv hE 15 [(0, vR r0), (1, vI x1), (2, vI x2), (3, vI x3), (4, vI (x4 + 1))] [] h24)) ∧ (¬ (ea_i h a7 (Int32.toNatClampNeg x4)) < ((1440 : Int32) * x3) → a3 < ea_n h ∧ ea_c h a3 = 12 ∧ ∃ (d30 : Nat) (h31 : ea_H), ea_Met mX12_begins d30 [vR (some a3), vI ((1440 : Int32) * x3)] h none h31 ∧ d30 + 1 ≤ d ∧ ea_W mX12_leadsOn d h0 rv hE 49 [(0, vR r0), (1, vI x1), (2, vI x2), (3, vI (x3 + 1)), (4, vI x4)] [] h31)) : ea_W mX12_leadsOn d h0 rv hE 49 [(0, vR r0), (1, vI x1), (2, vI x2), (3, vI x3), (4, vI x4)] [] h := by
  refine ea_sipush (pc := 49) dX12_leadsOn_49 (v := 1440) rfl ?_
  refine ea_iload_n (pc := 52) dX12_leadsOn_52 rfl 3 rfl ?_
  refine ea_imul (pc := 53) dX12_leadsOn_53 ?_
  refine ea_aload_n (pc := 54) dX12_leadsOn_54 rfl 0 rfl ?_
  obtain ⟨a3, e4, f1, g2, H⟩ := H
  refine ea_deref0 e4 ?_
  refine ea_getR (pc := 55) dX12_leadsOn_55 ec_12 (k := 14) (Nat.le_of_ble_eq_true rfl) rfl (Or.inl ew_1359) f1 g2 rfl ?_
  refine ea_iload (pc := 58) dX12_leadsOn_58 4 rfl ?_
  obtain ⟨a7, e8, f5, g6, H⟩ := H
  refine ea_deref1 e8 ?_
  obtain ⟨z9, H⟩ := H
  refine ea_iald (pc := 60) dX12_leadsOn_60 f5 g6 z9 ?_
  refine ea_icmp_gt (pc := 61) (tgt := 79) dX12_leadsOn_61 rfl (fun c36 => ?_) (fun c36 => ?_)
  · have H := H.1 c36
    refine ea_aload_n (pc := 79) dX12_leadsOn_79 rfl 0 rfl ?_
    obtain ⟨f10, g11, H⟩ := H
    refine ea_deref0 e4 ?_
    refine ea_getR (pc := 80) dX12_leadsOn_80 ec_12 (k := 15) (Nat.le_of_ble_eq_true rfl) rfl (Or.inl ew_1360) f10 g11 rfl ?_
    refine ea_iload (pc := 83) dX12_leadsOn_83 4 rfl ?_
    obtain ⟨a14, e15, f12, g13, H⟩ := H
    refine ea_deref1 e15 ?_
    obtain ⟨z16, H⟩ := H
    refine ea_iald (pc := 85) dX12_leadsOn_85 f12 g13 z16 ?_
    refine ea_if_ne (pc := 86) (tgt := 98) dX12_leadsOn_86 rfl (fun c29 => ?_) (fun c29 => ?_)
    · have H := H.1 c29
      refine ea_aload_n (pc := 98) dX12_leadsOn_98 rfl 0 rfl ?_
      refine ea_iload (pc := 99) dX12_leadsOn_99 4 rfl ?_
      obtain ⟨f21, g22, H⟩ := H
      refine ea_deref1 e4 ?_
      obtain ⟨d17, h18, m19, q20, H⟩ := H
      refine ea_callV (pc := 101) (As := [vI x4]) (st := []) dX12_leadsOn_101 kX12_leaves m19 q20 rfl (Nat.le_of_ble_eq_true rfl) ew_2078 ew_2080 ew_97 (ci := 12) rfl (by decide) f21 g22 ?_
      refine ea_iinc (pc := 104) (v := 1) (lv' := [(0, vR r0), (1, vI x1), (2, vI x2), (3, vI x3), (4, vI (x4 + 1))]) dX12_leadsOn_104 4 rfl rfl (Nat.le_of_ble_eq_true rfl) [1, 2, 3, 4, 0] rfl ?_
      refine ea_goto (pc := 107) (tgt := 15) dX12_leadsOn_107 rfl ?_
      exact H
    · have H := H.2 c29
      refine ea_aload_n (pc := 89) dX12_leadsOn_89 rfl 0 rfl ?_
      refine ea_iload (pc := 90) dX12_leadsOn_90 4 rfl ?_
      obtain ⟨f27, g28, H⟩ := H
      refine ea_deref1 e4 ?_
      obtain ⟨d23, h24, m25, q26, H⟩ := H
      refine ea_callV (pc := 92) (As := [vI x4]) (st := []) dX12_leadsOn_92 kX12_coming m25 q26 rfl (Nat.le_of_ble_eq_true rfl) ew_2063 ew_2065 ew_94 (ci := 12) rfl (by decide) f27 g28 ?_
      refine ea_goto (pc := 95) (tgt := 104) dX12_leadsOn_95 rfl ?_
      refine ea_iinc (pc := 104) (v := 1) (lv' := [(0, vR r0), (1, vI x1), (2, vI x2), (3, vI x3), (4, vI (x4 + 1))]) dX12_leadsOn_104 4 rfl rfl (Nat.le_of_ble_eq_true rfl) [1, 2, 3, 4, 0] rfl ?_
      refine ea_goto (pc := 107) (tgt := 15) dX12_leadsOn_107 rfl ?_
      exact H
  · have H := H.2 c36
    refine ea_aload_n (pc := 64) dX12_leadsOn_64 rfl 0 rfl ?_
    refine ea_sipush (pc := 65) dX12_leadsOn_65 (v := 1440) rfl ?_
    refine ea_iload_n (pc := 68) dX12_leadsOn_68 rfl 3 rfl ?_
    refine ea_imul (pc := 69) dX12_leadsOn_69 ?_
    obtain ⟨f34, g35, H⟩ := H
    refine ea_deref1 e4 ?_
    obtain ⟨d30, h31, m32, q33, H⟩ := H
    refine ea_callV (pc := 70) (As := [vI ((1440 : Int32) * x3)]) (st := []) dX12_leadsOn_70 kX12_begins m32 q33 rfl (Nat.le_of_ble_eq_true rfl) ew_2059 ew_2061 ew_93 (ci := 12) rfl (by decide) f34 g35 ?_
    refine ea_iinc (pc := 73) (v := 1) (lv' := [(0, vR r0), (1, vI x1), (2, vI x2), (3, vI (x3 + 1)), (4, vI x4)]) dX12_leadsOn_73 3 rfl rfl (Nat.le_of_ble_eq_true rfl) [1, 2, 3, 0, 4] rfl ?_
    refine ea_goto (pc := 76) (tgt := 49) dX12_leadsOn_76 rfl ?_
    exact H
theorem bX12_leadsOn_110 {d : Nat} {h0 hE h : ea_H} {rv : Option ea_V} {r0 : Option Nat} {x2 : Int32} {x3 : Int32} (H : (x2 < ((1440 : Int32) * x3) → rv = none ∧ hE = h) ∧ (¬ x2 < ((1440 : Int32) * x3) → ∃ a7, r0 = some a7 ∧ a7 < ea_n h ∧ ea_c h a7 = 12 ∧ ∃ (d1 : Nat) (h2 : ea_H), ea_Met mX12_begins d1 [vR (some a7), vI ((1440 : Int32) * x3)] h none h2 ∧ d1 + 1 ≤ d ∧ ea_W mX12_leadsOn d h0 rv hE 110 [(0, vR r0), (2, vI x2), (3, vI (x3 + 1))] [] h2)) : ea_W mX12_leadsOn d h0 rv hE 110 [(0, vR r0), (2, vI x2), (3, vI x3)] [] h := by
  refine ea_sipush (pc := 110) dX12_leadsOn_110 (v := 1440) rfl ?_
  refine ea_iload_n (pc := 113) dX12_leadsOn_113 rfl 2 rfl ?_
  refine ea_imul (pc := 114) dX12_leadsOn_114 ?_
  refine ea_iload_n (pc := 115) dX12_leadsOn_115 rfl 1 rfl ?_
  refine ea_icmp_gt (pc := 116) (tgt := 134) dX12_leadsOn_116 rfl (fun c9 => ?_) (fun c9 => ?_)
  · have H := H.1 c9
    obtain ⟨rfl, rfl⟩ := H
    exact ea_return (pc := 134) dX12_leadsOn_134 rfl
  · have H := H.2 c9
    refine ea_aload_n (pc := 119) dX12_leadsOn_119 rfl 0 rfl ?_
    refine ea_sipush (pc := 120) dX12_leadsOn_120 (v := 1440) rfl ?_
    refine ea_iload_n (pc := 123) dX12_leadsOn_123 rfl 2 rfl ?_
    refine ea_imul (pc := 124) dX12_leadsOn_124 ?_
    obtain ⟨a7, e8, f5, g6, H⟩ := H
    refine ea_deref1 e8 ?_
    obtain ⟨d1, h2, m3, q4, H⟩ := H
    refine ea_callV (pc := 125) (As := [vI ((1440 : Int32) * x3)]) (st := []) dX12_leadsOn_125 kX12_begins m3 q4 rfl (Nat.le_of_ble_eq_true rfl) ew_2059 ew_2061 ew_93 (ci := 12) rfl (by decide) f5 g6 ?_
    refine ea_iinc (pc := 128) (v := 1) (lv' := [(0, vR r0), (2, vI x2), (3, vI (x3 + 1))]) dX12_leadsOn_128 2 rfl rfl (Nat.le_of_ble_eq_true rfl) [1, 2, 0] rfl ?_
    refine ea_goto (pc := 131) (tgt := 110) dX12_leadsOn_131 rfl ?_
    exact H
theorem dX12_minutes_0 : decode cX12_minutes 0 = .ok (.iload_n 1, 1) := by decide +kernel
theorem dX12_minutes_1 : decode cX12_minutes 1 = .ok (.iconst 1, 1) := by decide +kernel
theorem dX12_minutes_2 : decode cX12_minutes 2 = .ok (.sipush 3000, 3) := by decide +kernel
theorem dX12_minutes_5 : decode cX12_minutes 5 = .ok (.invokestatic 286, 3) := by decide +kernel
theorem dX12_minutes_8 : decode cX12_minutes 8 = .ok (.ifCond .eq 15, 3) := by decide +kernel
theorem dX12_minutes_11 : decode cX12_minutes 11 = .ok (.aload_n 0, 1) := by decide +kernel
theorem dX12_minutes_12 : decode cX12_minutes 12 = .ok (.getfield 313, 3) := by decide +kernel
theorem dX12_minutes_15 : decode cX12_minutes 15 = .ok (.sipush 10079, 3) := by decide +kernel
theorem dX12_minutes_18 : decode cX12_minutes 18 = .ok (.iload_n 1, 1) := by decide +kernel
theorem dX12_minutes_19 : decode cX12_minutes 19 = .ok (.isub, 1) := by decide +kernel
theorem dX12_minutes_20 : decode cX12_minutes 20 = .ok (.if_icmp .le 5, 3) := by decide +kernel
theorem dX12_minutes_23 : decode cX12_minutes 23 = .ok (.iconst (-1), 1) := by decide +kernel
theorem dX12_minutes_24 : decode cX12_minutes 24 = .ok (.ireturn, 1) := by decide +kernel
theorem dX12_minutes_25 : decode cX12_minutes 25 = .ok (.aload_n 0, 1) := by decide +kernel
theorem dX12_minutes_26 : decode cX12_minutes 26 = .ok (.aload_n 0, 1) := by decide +kernel
theorem dX12_minutes_27 : decode cX12_minutes 27 = .ok (.getfield 313, 3) := by decide +kernel
theorem dX12_minutes_30 : decode cX12_minutes 30 = .ok (.aload_n 0, 1) := by decide +kernel
theorem dX12_minutes_31 : decode cX12_minutes 31 = .ok (.getfield 313, 3) := by decide +kernel
theorem dX12_minutes_34 : decode cX12_minutes 34 = .ok (.iload_n 1, 1) := by decide +kernel
theorem dX12_minutes_35 : decode cX12_minutes 35 = .ok (.iadd, 1) := by decide +kernel
theorem dX12_minutes_36 : decode cX12_minutes 36 = .ok (.invokevirtual 594, 3) := by decide +kernel
theorem dX12_minutes_39 : decode cX12_minutes 39 = .ok (.aload_n 0, 1) := by decide +kernel
theorem dX12_minutes_40 : decode cX12_minutes 40 = .ok (.dup, 1) := by decide +kernel
theorem dX12_minutes_41 : decode cX12_minutes 41 = .ok (.getfield 313, 3) := by decide +kernel
theorem dX12_minutes_44 : decode cX12_minutes 44 = .ok (.iload_n 1, 1) := by decide +kernel
theorem dX12_minutes_45 : decode cX12_minutes 45 = .ok (.iadd, 1) := by decide +kernel
theorem dX12_minutes_46 : decode cX12_minutes 46 = .ok (.putfield 313, 3) := by decide +kernel
theorem dX12_minutes_49 : decode cX12_minutes 49 = .ok (.aload_n 0, 1) := by decide +kernel
theorem dX12_minutes_50 : decode cX12_minutes 50 = .ok (.getfield 313, 3) := by decide +kernel
theorem dX12_minutes_53 : decode cX12_minutes 53 = .ok (.ireturn, 1) := by decide +kernel
theorem bX12_minutes_0 {d : Nat} {h0 hE h : ea_H} {rv : Option ea_V} {r0 : Option Nat} {x1 : Int32} (H : ∃ (d1 : Nat) (xc5 : Int32) (h2 : ea_H), ea_Met mX12_isIn d1 [vI x1, vI 1, vI 3000] h (some (vI xc5)) h2 ∧ d1 + 1 ≤ d ∧ (xc5 = (0 : Int32) → rv = some (vI (-1)) ∧ hE = h2) ∧ (¬ xc5 = (0 : Int32) → ∃ a8, r0 = some a8 ∧ a8 < ea_n h2 ∧ ea_c h2 a8 = 12 ∧ ((ea_i h2 a8 0) ≤ ((10079 : Int32) - x1) → a8 < ea_n h2 ∧ ea_c h2 a8 = 12 ∧ a8 < ea_n h2 ∧ ea_c h2 a8 = 12 ∧ a8 < ea_n h2 ∧ ea_c h2 a8 = 12 ∧ ∃ (d14 : Nat) (h15 : ea_H), ea_Met mX12_leadsOn d14 [vR (some a8), vI (ea_i h2 a8 0), vI ((ea_i h2 a8 0) + x1)] h2 none h15 ∧ d14 + 1 ≤ d ∧ a8 < ea_n h15 ∧ ea_c h15 a8 = 12 ∧ a8 < ea_n h15 ∧ ea_c h15 a8 = 12 ∧ ∀ h24, h24 = ea_wi h15 a8 0 ((ea_i h15 a8 0) + x1) → a8 < ea_n h24 ∧ ea_c h24 a8 = 12 ∧ rv = some (vI (ea_i h24 a8 0)) ∧ hE = h24) ∧ (¬ (ea_i h2 a8 0) ≤ ((10079 : Int32) - x1) → rv = some (vI (-1)) ∧ hE = h2))) : ea_W mX12_minutes d h0 rv hE 0 [(0, vR r0), (1, vI x1)] [] h := by
  refine ea_iload_n (pc := 0) dX12_minutes_0 rfl 1 rfl ?_
  refine ea_iconst (pc := 1) dX12_minutes_1 (v := 1) rfl ?_
  refine ea_sipush (pc := 2) dX12_minutes_2 (v := 3000) rfl ?_
  obtain ⟨d1, xc5, h2, m3, q4, H⟩ := H
  refine ea_callS (pc := 5) (As := [vI x1, vI 1, vI 3000]) (st := []) dX12_minutes_5 kX12_isIn m3 q4 rfl (Nat.le_of_ble_eq_true rfl) ew_1712 ew_1713 ?_
  refine ea_if_eq (pc := 8) (tgt := 23) dX12_minutes_8 rfl (fun c29 => ?_) (fun c29 => ?_)
  · have H := H.1 c29
    refine ea_iconst (pc := 23) dX12_minutes_23 (v := (-1)) rfl ?_
    obtain ⟨rfl, rfl⟩ := H
    exact ea_ireturn (pc := 24) dX12_minutes_24 rfl rfl
  · have H := H.2 c29
    refine ea_aload_n (pc := 11) dX12_minutes_11 rfl 0 rfl ?_
    obtain ⟨a8, e9, f6, g7, H⟩ := H
    refine ea_deref0 e9 ?_
    refine ea_getI (pc := 12) dX12_minutes_12 ec_12 (k := 0) (Nat.le_of_ble_eq_true rfl) rfl (Or.inl ew_1345) f6 g7 ?_
    refine ea_sipush (pc := 15) dX12_minutes_15 (v := 10079) rfl ?_
    refine ea_iload_n (pc := 18) dX12_minutes_18 rfl 1 rfl ?_
    refine ea_isub (pc := 19) dX12_minutes_19 ?_
    refine ea_icmp_le (pc := 20) (tgt := 25) dX12_minutes_20 rfl (fun c28 => ?_) (fun c28 => ?_)
    · have H := H.1 c28
      refine ea_aload_n (pc := 25) dX12_minutes_25 rfl 0 rfl ?_
      refine ea_aload_n (pc := 26) dX12_minutes_26 rfl 0 rfl ?_
      obtain ⟨f10, g11, H⟩ := H
      refine ea_deref0 e9 ?_
      refine ea_getI (pc := 27) dX12_minutes_27 ec_12 (k := 0) (Nat.le_of_ble_eq_true rfl) rfl (Or.inl ew_1345) f10 g11 ?_
      refine ea_aload_n (pc := 30) dX12_minutes_30 rfl 0 rfl ?_
      obtain ⟨f12, g13, H⟩ := H
      refine ea_deref0 e9 ?_
      refine ea_getI (pc := 31) dX12_minutes_31 ec_12 (k := 0) (Nat.le_of_ble_eq_true rfl) rfl (Or.inl ew_1345) f12 g13 ?_
      refine ea_iload_n (pc := 34) dX12_minutes_34 rfl 1 rfl ?_
      refine ea_iadd (pc := 35) dX12_minutes_35 ?_
      obtain ⟨f18, g19, H⟩ := H
      refine ea_deref2 e9 ?_
      obtain ⟨d14, h15, m16, q17, H⟩ := H
      refine ea_callV (pc := 36) (As := [vI (ea_i h2 a8 0), vI ((ea_i h2 a8 0) + x1)]) (st := []) dX12_minutes_36 kX12_leadsOn m16 q17 rfl (Nat.le_of_ble_eq_true rfl) ew_2055 ew_2057 ew_92 (ci := 12) rfl (by decide) f18 g19 ?_
      refine ea_aload_n (pc := 39) dX12_minutes_39 rfl 0 rfl ?_
      refine ea_dup (pc := 40) dX12_minutes_40 rfl ?_
      obtain ⟨f20, g21, H⟩ := H
      refine ea_deref0 e9 ?_
      refine ea_getI (pc := 41) dX12_minutes_41 ec_12 (k := 0) (Nat.le_of_ble_eq_true rfl) rfl (Or.inl ew_1345) f20 g21 ?_
      refine ea_iload_n (pc := 44) dX12_minutes_44 rfl 1 rfl ?_
      refine ea_iadd (pc := 45) dX12_minutes_45 ?_
      obtain ⟨f22, g23, H⟩ := H
      refine ea_deref1 e9 ?_
      refine ea_putI (pc := 46) dX12_minutes_46 ec_12 (k := 0) (Nat.le_of_ble_eq_true rfl) rfl (Or.inl ⟨rfl, Or.inl ew_1345⟩) rfl rfl f22 g23 ?_
      obtain ⟨h24, E25⟩ : ∃ z, z = ea_wi h15 a8 0 ((ea_i h15 a8 0) + x1) := ⟨_, rfl⟩
      have H := H h24 E25
      refine ea_nm E25 ?_
      refine ea_aload_n (pc := 49) dX12_minutes_49 rfl 0 rfl ?_
      obtain ⟨f26, g27, H⟩ := H
      refine ea_deref0 e9 ?_
      refine ea_getI (pc := 50) dX12_minutes_50 ec_12 (k := 0) (Nat.le_of_ble_eq_true rfl) rfl (Or.inl ew_1345) f26 g27 ?_
      obtain ⟨rfl, rfl⟩ := H
      exact ea_ireturn (pc := 53) dX12_minutes_53 rfl rfl
    · have H := H.2 c28
      refine ea_iconst (pc := 23) dX12_minutes_23 (v := (-1)) rfl ?_
      obtain ⟨rfl, rfl⟩ := H
      exact ea_ireturn (pc := 24) dX12_minutes_24 rfl rfl
theorem dX12_look_0 : decode cX12_look 0 = .ok (.iconst 0, 1) := by decide +kernel
theorem dX12_look_1 : decode cX12_look 1 = .ok (.istore_n 2, 1) := by decide +kernel
theorem dX12_look_2 : decode cX12_look 2 = .ok (.iload_n 1, 1) := by decide +kernel
theorem dX12_look_3 : decode cX12_look 3 = .ok (.tableswitch 67 0 5 #[37, 42, 47, 52, 57, 62], 37) := by decide +kernel
theorem dX12_look_40 : decode cX12_look 40 = .ok (.aload_n 0, 1) := by decide +kernel
theorem dX12_look_41 : decode cX12_look 41 = .ok (.getfield 313, 3) := by decide +kernel
theorem dX12_look_44 : decode cX12_look 44 = .ok (.ireturn, 1) := by decide +kernel
theorem dX12_look_45 : decode cX12_look 45 = .ok (.aload_n 0, 1) := by decide +kernel
theorem dX12_look_46 : decode cX12_look 46 = .ok (.getfield 283, 3) := by decide +kernel
theorem dX12_look_49 : decode cX12_look 49 = .ok (.ireturn, 1) := by decide +kernel
theorem dX12_look_50 : decode cX12_look 50 = .ok (.aload_n 0, 1) := by decide +kernel
theorem dX12_look_51 : decode cX12_look 51 = .ok (.getfield 290, 3) := by decide +kernel
theorem dX12_look_54 : decode cX12_look 54 = .ok (.ireturn, 1) := by decide +kernel
theorem dX12_look_55 : decode cX12_look 55 = .ok (.aload_n 0, 1) := by decide +kernel
theorem dX12_look_56 : decode cX12_look 56 = .ok (.getfield 531, 3) := by decide +kernel
theorem dX12_look_59 : decode cX12_look 59 = .ok (.ireturn, 1) := by decide +kernel
theorem dX12_look_60 : decode cX12_look 60 = .ok (.aload_n 0, 1) := by decide +kernel
theorem dX12_look_61 : decode cX12_look 61 = .ok (.getfield 569, 3) := by decide +kernel
theorem dX12_look_64 : decode cX12_look 64 = .ok (.ireturn, 1) := by decide +kernel
theorem dX12_look_65 : decode cX12_look 65 = .ok (.aload_n 0, 1) := by decide +kernel
theorem dX12_look_66 : decode cX12_look 66 = .ok (.getfield 522, 3) := by decide +kernel
theorem dX12_look_69 : decode cX12_look 69 = .ok (.ireturn, 1) := by decide +kernel
theorem dX12_look_70 : decode cX12_look 70 = .ok (.iload_n 1, 1) := by decide +kernel
theorem dX12_look_71 : decode cX12_look 71 = .ok (.bipush 10, 2) := by decide +kernel
theorem dX12_look_73 : decode cX12_look 73 = .ok (.bipush 16, 2) := by decide +kernel
theorem dX12_look_75 : decode cX12_look 75 = .ok (.invokestatic 286, 3) := by decide +kernel
theorem dX12_look_78 : decode cX12_look 78 = .ok (.ifCond .ne 5, 3) := by decide +kernel
theorem dX12_look_81 : decode cX12_look 81 = .ok (.iconst (-1), 1) := by decide +kernel
theorem dX12_look_82 : decode cX12_look 82 = .ok (.ireturn, 1) := by decide +kernel
theorem dX12_look_83 : decode cX12_look 83 = .ok (.iconst 0, 1) := by decide +kernel
theorem dX12_look_84 : decode cX12_look 84 = .ok (.istore_n 3, 1) := by decide +kernel
theorem dX12_look_85 : decode cX12_look 85 = .ok (.iload_n 3, 1) := by decide +kernel
theorem dX12_look_86 : decode cX12_look 86 = .ok (.aload_n 0, 1) := by decide +kernel
theorem dX12_look_87 : decode cX12_look 87 = .ok (.getfield 531, 3) := by decide +kernel
theorem dX12_look_90 : decode cX12_look 90 = .ok (.if_icmp .ge 30, 3) := by decide +kernel
theorem dX12_look_93 : decode cX12_look 93 = .ok (.iload_n 2, 1) := by decide +kernel
theorem dX12_look_94 : decode cX12_look 94 = .ok (.aload_n 0, 1) := by decide +kernel
theorem dX12_look_95 : decode cX12_look 95 = .ok (.getfield 177, 3) := by decide +kernel
theorem dX12_look_98 : decode cX12_look 98 = .ok (.iload_n 3, 1) := by decide +kernel
theorem dX12_look_99 : decode cX12_look 99 = .ok (.iaload, 1) := by decide +kernel
theorem dX12_look_100 : decode cX12_look 100 = .ok (.iload_n 1, 1) := by decide +kernel
theorem dX12_look_101 : decode cX12_look 101 = .ok (.bipush 10, 2) := by decide +kernel
theorem dX12_look_103 : decode cX12_look 103 = .ok (.isub, 1) := by decide +kernel
theorem dX12_look_104 : decode cX12_look 104 = .ok (.if_icmp .ne 7, 3) := by decide +kernel
theorem dX12_look_107 : decode cX12_look 107 = .ok (.iconst 1, 1) := by decide +kernel
theorem dX12_look_108 : decode cX12_look 108 = .ok (.goto 4, 3) := by decide +kernel
theorem dX12_look_111 : decode cX12_look 111 = .ok (.iconst 0, 1) := by decide +kernel
theorem dX12_look_112 : decode cX12_look 112 = .ok (.iadd, 1) := by decide +kernel
theorem dX12_look_113 : decode cX12_look 113 = .ok (.istore_n 2, 1) := by decide +kernel
theorem dX12_look_114 : decode cX12_look 114 = .ok (.iinc 3 1, 3) := by decide +kernel
theorem dX12_look_117 : decode cX12_look 117 = .ok (.goto (-32), 3) := by decide +kernel
theorem dX12_look_120 : decode cX12_look 120 = .ok (.iload_n 2, 1) := by decide +kernel
theorem dX12_look_121 : decode cX12_look 121 = .ok (.ireturn, 1) := by decide +kernel
theorem bX12_look_0 {d : Nat} {h0 hE h : ea_H} {rv : Option ea_V} {r0 : Option Nat} {x1 : Int32} (H : (Int32.toInt x1 = 0 → ∃ a3, r0 = some a3 ∧ a3 < ea_n h ∧ ea_c h a3 = 12 ∧ rv = some (vI (ea_i h a3 0)) ∧ hE = h) ∧ (Int32.toInt x1 = 1 → ∃ a7, r0 = some a7 ∧ a7 < ea_n h ∧ ea_c h a7 = 12 ∧ rv = some (vI (ea_i h a7 1)) ∧ hE = h) ∧ (Int32.toInt x1 = 2 → ∃ a11, r0 = some a11 ∧ a11 < ea_n h ∧ ea_c h a11 = 12 ∧ rv = some (vI (ea_i h a11 2)) ∧ hE = h) ∧ (Int32.toInt x1 = 3 → ∃ a15, r0 = some a15 ∧ a15 < ea_n h ∧ ea_c h a15 = 12 ∧ rv = some (vI (ea_i h a15 63)) ∧ hE = h) ∧ (Int32.toInt x1 = 4 → ∃ a19, r0 = some a19 ∧ a19 < ea_n h ∧ ea_c h a19 = 12 ∧ rv = some (vI (ea_i h a19 92)) ∧ hE = h) ∧ (Int32.toInt x1 = 5 → ∃ a23, r0 = some a23 ∧ a23 < ea_n h ∧ ea_c h a23 = 12 ∧ rv = some (vI (ea_i h a23 25)) ∧ hE = h) ∧ (Int32.toInt x1 < 0 ∨ 5 < Int32.toInt x1 → ∃ (d25 : Nat) (xc29 : Int32) (h26 : ea_H), ea_Met mX12_isIn d25 [vI x1, vI 10, vI 16] h (some (vI xc29)) h26 ∧ d25 + 1 ≤ d ∧ (¬ xc29 = (0 : Int32) → ea_W mX12_look d h0 rv hE 85 [(0, vR r0), (1, vI x1), (2, vI 0), (3, vI 0)] [] h26) ∧ (xc29 = (0 : Int32) → rv = some (vI (-1)) ∧ hE = h26))) : ea_W mX12_look d h0 rv hE 0 [(0, vR r0), (1, vI x1)] [] h := by
  refine ea_iconst (pc := 0) dX12_look_0 (v := 0) rfl ?_
  refine ea_istore_n (pc := 1) (lv' := [(0, vR r0), (1, vI x1), (2, vI 0)]) dX12_look_1 rfl (Nat.le_of_ble_eq_true rfl) [1, 2, 0] rfl ?_
  refine ea_iload_n (pc := 2) dX12_look_2 rfl 1 rfl ?_
  by_cases qc1 : Int32.toInt x1 = 0
  · have H := H.1 qc1
    refine ea_tswIn (pc := 3) (tgt := 40) dX12_look_3 (by omega) (by omega) (by rw [qc1]; rfl) rfl ?_
    refine ea_aload_n (pc := 40) dX12_look_40 rfl 0 rfl ?_
    obtain ⟨a3, e4, f1, g2, H⟩ := H
    refine ea_deref0 e4 ?_
    refine ea_getI (pc := 41) dX12_look_41 ec_12 (k := 0) (Nat.le_of_ble_eq_true rfl) rfl (Or.inl ew_1345) f1 g2 ?_
    obtain ⟨rfl, rfl⟩ := H
    exact ea_ireturn (pc := 44) dX12_look_44 rfl rfl
  by_cases qc2 : Int32.toInt x1 = 1
  · have H := H.2.1 qc2
    refine ea_tswIn (pc := 3) (tgt := 45) dX12_look_3 (by omega) (by omega) (by rw [qc2]; rfl) rfl ?_
    refine ea_aload_n (pc := 45) dX12_look_45 rfl 0 rfl ?_
    obtain ⟨a7, e8, f5, g6, H⟩ := H
    refine ea_deref0 e8 ?_
    refine ea_getI (pc := 46) dX12_look_46 ec_12 (k := 1) (Nat.le_of_ble_eq_true rfl) rfl (Or.inl ew_1346) f5 g6 ?_
    obtain ⟨rfl, rfl⟩ := H
    exact ea_ireturn (pc := 49) dX12_look_49 rfl rfl
  by_cases qc3 : Int32.toInt x1 = 2
  · have H := H.2.2.1 qc3
    refine ea_tswIn (pc := 3) (tgt := 50) dX12_look_3 (by omega) (by omega) (by rw [qc3]; rfl) rfl ?_
    refine ea_aload_n (pc := 50) dX12_look_50 rfl 0 rfl ?_
    obtain ⟨a11, e12, f9, g10, H⟩ := H
    refine ea_deref0 e12 ?_
    refine ea_getI (pc := 51) dX12_look_51 ec_12 (k := 2) (Nat.le_of_ble_eq_true rfl) rfl (Or.inl ew_1347) f9 g10 ?_
    obtain ⟨rfl, rfl⟩ := H
    exact ea_ireturn (pc := 54) dX12_look_54 rfl rfl
  by_cases qc4 : Int32.toInt x1 = 3
  · have H := H.2.2.2.1 qc4
    refine ea_tswIn (pc := 3) (tgt := 55) dX12_look_3 (by omega) (by omega) (by rw [qc4]; rfl) rfl ?_
    refine ea_aload_n (pc := 55) dX12_look_55 rfl 0 rfl ?_
    obtain ⟨a15, e16, f13, g14, H⟩ := H
    refine ea_deref0 e16 ?_
    refine ea_getI (pc := 56) dX12_look_56 ec_12 (k := 63) (Nat.le_of_ble_eq_true rfl) rfl (Or.inl ew_1408) f13 g14 ?_
    obtain ⟨rfl, rfl⟩ := H
    exact ea_ireturn (pc := 59) dX12_look_59 rfl rfl
  by_cases qc5 : Int32.toInt x1 = 4
  · have H := H.2.2.2.2.1 qc5
    refine ea_tswIn (pc := 3) (tgt := 60) dX12_look_3 (by omega) (by omega) (by rw [qc5]; rfl) rfl ?_
    refine ea_aload_n (pc := 60) dX12_look_60 rfl 0 rfl ?_
    obtain ⟨a19, e20, f17, g18, H⟩ := H
    refine ea_deref0 e20 ?_
    refine ea_getI (pc := 61) dX12_look_61 ec_12 (k := 92) (Nat.le_of_ble_eq_true rfl) rfl (Or.inl ew_1437) f17 g18 ?_
    obtain ⟨rfl, rfl⟩ := H
    exact ea_ireturn (pc := 64) dX12_look_64 rfl rfl
  by_cases qc6 : Int32.toInt x1 = 5
  · have H := H.2.2.2.2.2.1 qc6
    refine ea_tswIn (pc := 3) (tgt := 65) dX12_look_3 (by omega) (by omega) (by rw [qc6]; rfl) rfl ?_
    refine ea_aload_n (pc := 65) dX12_look_65 rfl 0 rfl ?_
    obtain ⟨a23, e24, f21, g22, H⟩ := H
    refine ea_deref0 e24 ?_
    refine ea_getI (pc := 66) dX12_look_66 ec_12 (k := 25) (Nat.le_of_ble_eq_true rfl) rfl (Or.inl ew_1370) f21 g22 ?_
    obtain ⟨rfl, rfl⟩ := H
    exact ea_ireturn (pc := 69) dX12_look_69 rfl rfl
  have qd : Int32.toInt x1 < 0 ∨ 5 < Int32.toInt x1 := by omega
  have H := H.2.2.2.2.2.2 qd
  refine ea_tswOut (pc := 3) (tgt := 70) dX12_look_3 qd rfl ?_
  refine ea_iload_n (pc := 70) dX12_look_70 rfl 1 rfl ?_
  refine ea_bipush (pc := 71) dX12_look_71 (v := 10) rfl ?_
  refine ea_bipush (pc := 73) dX12_look_73 (v := 16) rfl ?_
  obtain ⟨d25, xc29, h26, m27, q28, H⟩ := H
  refine ea_callS (pc := 75) (As := [vI x1, vI 10, vI 16]) (st := []) dX12_look_75 kX12_isIn m27 q28 rfl (Nat.le_of_ble_eq_true rfl) ew_1712 ew_1713 ?_
  refine ea_if_ne (pc := 78) (tgt := 83) dX12_look_78 rfl (fun c30 => ?_) (fun c30 => ?_)
  · have H := H.1 c30
    refine ea_iconst (pc := 83) dX12_look_83 (v := 0) rfl ?_
    refine ea_istore_n (pc := 84) (lv' := [(0, vR r0), (1, vI x1), (2, vI 0), (3, vI 0)]) dX12_look_84 rfl (Nat.le_of_ble_eq_true rfl) [1, 2, 3, 0] rfl ?_
    exact H
  · have H := H.2 c30
    refine ea_iconst (pc := 81) dX12_look_81 (v := (-1)) rfl ?_
    obtain ⟨rfl, rfl⟩ := H
    exact ea_ireturn (pc := 82) dX12_look_82 rfl rfl
theorem bX12_look_85 {d : Nat} {h0 hE h : ea_H} {rv : Option ea_V} {r0 : Option Nat} {x1 : Int32} {x2 : Int32} {x3 : Int32} (H : ∃ a3, r0 = some a3 ∧ a3 < ea_n h ∧ ea_c h a3 = 12 ∧ ((ea_i h a3 63) ≤ x3 → rv = some (vI x2) ∧ hE = h) ∧ (¬ (ea_i h a3 63) ≤ x3 → a3 < ea_n h ∧ ea_c h a3 = 12 ∧ ∃ a9, (ea_r h a3 81) = some a9 ∧ a9 < ea_n h ∧ ea_c h a9 = 20 ∧ vp_in x3 (ea_l h a9) ∧ (¬ (ea_i h a9 (Int32.toNatClampNeg x3)) = (x1 - (10 : Int32)) → ea_W mX12_look d h0 rv hE 85 [(0, vR r0), (1, vI x1), (2, vI (x2 + (0 : Int32))), (3, vI (x3 + 1))] [] h) ∧ ((ea_i h a9 (Int32.toNatClampNeg x3)) = (x1 - (10 : Int32)) → ea_W mX12_look d h0 rv hE 85 [(0, vR r0), (1, vI x1), (2, vI (x2 + (1 : Int32))), (3, vI (x3 + 1))] [] h))) : ea_W mX12_look d h0 rv hE 85 [(0, vR r0), (1, vI x1), (2, vI x2), (3, vI x3)] [] h := by
  refine ea_iload_n (pc := 85) dX12_look_85 rfl 3 rfl ?_
  refine ea_aload_n (pc := 86) dX12_look_86 rfl 0 rfl ?_
  obtain ⟨a3, e4, f1, g2, H⟩ := H
  refine ea_deref0 e4 ?_
  refine ea_getI (pc := 87) dX12_look_87 ec_12 (k := 63) (Nat.le_of_ble_eq_true rfl) rfl (Or.inl ew_1408) f1 g2 ?_
  refine ea_icmp_ge (pc := 90) (tgt := 120) dX12_look_90 rfl (fun c13 => ?_) (fun c13 => ?_)
  · have H := H.1 c13
    refine ea_iload_n (pc := 120) dX12_look_120 rfl 2 rfl ?_
    obtain ⟨rfl, rfl⟩ := H
    exact ea_ireturn (pc := 121) dX12_look_121 rfl rfl
  · have H := H.2 c13
    refine ea_iload_n (pc := 93) dX12_look_93 rfl 2 rfl ?_
    refine ea_aload_n (pc := 94) dX12_look_94 rfl 0 rfl ?_
    obtain ⟨f5, g6, H⟩ := H
    refine ea_deref0 e4 ?_
    refine ea_getR (pc := 95) dX12_look_95 ec_12 (k := 81) (Nat.le_of_ble_eq_true rfl) rfl (Or.inl ew_1426) f5 g6 rfl ?_
    refine ea_iload_n (pc := 98) dX12_look_98 rfl 3 rfl ?_
    obtain ⟨a9, e10, f7, g8, H⟩ := H
    refine ea_deref1 e10 ?_
    obtain ⟨z11, H⟩ := H
    refine ea_iald (pc := 99) dX12_look_99 f7 g8 z11 ?_
    refine ea_iload_n (pc := 100) dX12_look_100 rfl 1 rfl ?_
    refine ea_bipush (pc := 101) dX12_look_101 (v := 10) rfl ?_
    refine ea_isub (pc := 103) dX12_look_103 ?_
    refine ea_icmp_ne (pc := 104) (tgt := 111) dX12_look_104 rfl (fun c12 => ?_) (fun c12 => ?_)
    · have H := H.1 c12
      refine ea_iconst (pc := 111) dX12_look_111 (v := 0) rfl ?_
      refine ea_iadd (pc := 112) dX12_look_112 ?_
      refine ea_istore_n (pc := 113) (lv' := [(0, vR r0), (1, vI x1), (2, vI (x2 + (0 : Int32))), (3, vI x3)]) dX12_look_113 rfl (Nat.le_of_ble_eq_true rfl) [1, 2, 0, 3] rfl ?_
      refine ea_iinc (pc := 114) (v := 1) (lv' := [(0, vR r0), (1, vI x1), (2, vI (x2 + (0 : Int32))), (3, vI (x3 + 1))]) dX12_look_114 3 rfl rfl (Nat.le_of_ble_eq_true rfl) [1, 2, 3, 0] rfl ?_
      refine ea_goto (pc := 117) (tgt := 85) dX12_look_117 rfl ?_
      exact H
    · have H := H.2 c12
      refine ea_iconst (pc := 107) dX12_look_107 (v := 1) rfl ?_
      refine ea_goto (pc := 108) (tgt := 112) dX12_look_108 rfl ?_
      refine ea_iadd (pc := 112) dX12_look_112 ?_
      refine ea_istore_n (pc := 113) (lv' := [(0, vR r0), (1, vI x1), (2, vI (x2 + (1 : Int32))), (3, vI x3)]) dX12_look_113 rfl (Nat.le_of_ble_eq_true rfl) [1, 2, 0, 3] rfl ?_
      refine ea_iinc (pc := 114) (v := 1) (lv' := [(0, vR r0), (1, vI x1), (2, vI (x2 + (1 : Int32))), (3, vI (x3 + 1))]) dX12_look_114 3 rfl rfl (Nat.le_of_ble_eq_true rfl) [1, 2, 3, 0] rfl ?_
      refine ea_goto (pc := 117) (tgt := 85) dX12_look_117 rfl ?_
      exact H
theorem dX12_run__0 : decode cX12_run_ 0 = .ok (.aload_n 0, 1) := by decide +kernel
theorem dX12_run__1 : decode cX12_run_ 1 = .ok (.iload_n 1, 1) := by decide +kernel
theorem dX12_run__2 : decode cX12_run_ 2 = .ok (.invokevirtual 310, 3) := by decide +kernel
theorem dX12_run__5 : decode cX12_run_ 5 = .ok (.ifCond .eq 10, 3) := by decide +kernel
theorem dX12_run__8 : decode cX12_run_ 8 = .ok (.iload_n 2, 1) := by decide +kernel
theorem dX12_run__9 : decode cX12_run_ 9 = .ok (.invokestatic 316, 3) := by decide +kernel
theorem dX12_run__12 : decode cX12_run_ 12 = .ok (.ifCond .ne 5, 3) := by decide +kernel
theorem dX12_run__15 : decode cX12_run_ 15 = .ok (.iconst (-1), 1) := by decide +kernel
theorem dX12_run__16 : decode cX12_run_ 16 = .ok (.ireturn, 1) := by decide +kernel
theorem dX12_run__17 : decode cX12_run_ 17 = .ok (.iload_n 1, 1) := by decide +kernel
theorem dX12_run__18 : decode cX12_run_ 18 = .ok (.iload_n 2, 1) := by decide +kernel
theorem dX12_run__19 : decode cX12_run_ 19 = .ok (.invokestatic 322, 3) := by decide +kernel
theorem dX12_run__22 : decode cX12_run_ 22 = .ok (.istore 4, 2) := by decide +kernel
theorem dX12_run__24 : decode cX12_run_ 24 = .ok (.iconst 0, 1) := by decide +kernel
theorem dX12_run__25 : decode cX12_run_ 25 = .ok (.istore 5, 2) := by decide +kernel
theorem dX12_run__27 : decode cX12_run_ 27 = .ok (.iload_n 3, 1) := by decide +kernel
theorem dX12_run__28 : decode cX12_run_ 28 = .ok (.tableswitch 121 0 4 #[36, 36, 98, 105, 113], 36) := by decide +kernel
theorem dX12_run__64 : decode cX12_run_ 64 = .ok (.iconst 0, 1) := by decide +kernel
theorem dX12_run__65 : decode cX12_run_ 65 = .ok (.istore 6, 2) := by decide +kernel
theorem dX12_run__67 : decode cX12_run_ 67 = .ok (.iload 6, 2) := by decide +kernel
theorem dX12_run__69 : decode cX12_run_ 69 = .ok (.aload_n 0, 1) := by decide +kernel
theorem dX12_run__70 : decode cX12_run_ 70 = .ok (.getfield 531, 3) := by decide +kernel
theorem dX12_run__73 : decode cX12_run_ 73 = .ok (.if_icmp .ge 50, 3) := by decide +kernel
theorem dX12_run__76 : decode cX12_run_ 76 = .ok (.iload 5, 2) := by decide +kernel
theorem dX12_run__78 : decode cX12_run_ 78 = .ok (.aload_n 0, 1) := by decide +kernel
theorem dX12_run__79 : decode cX12_run_ 79 = .ok (.iload 6, 2) := by decide +kernel
theorem dX12_run__81 : decode cX12_run_ 81 = .ok (.iload 4, 2) := by decide +kernel
theorem dX12_run__83 : decode cX12_run_ 83 = .ok (.invokevirtual 575, 3) := by decide +kernel
theorem dX12_run__86 : decode cX12_run_ 86 = .ok (.ifCond .eq 27, 3) := by decide +kernel
theorem dX12_run__89 : decode cX12_run_ 89 = .ok (.aload_n 0, 1) := by decide +kernel
theorem dX12_run__90 : decode cX12_run_ 90 = .ok (.getfield 195, 3) := by decide +kernel
theorem dX12_run__93 : decode cX12_run_ 93 = .ok (.iload 6, 2) := by decide +kernel
theorem dX12_run__95 : decode cX12_run_ 95 = .ok (.baload, 1) := by decide +kernel
theorem dX12_run__96 : decode cX12_run_ 96 = .ok (.iload_n 3, 1) := by decide +kernel
theorem dX12_run__97 : decode cX12_run_ 97 = .ok (.iconst 1, 1) := by decide +kernel
theorem dX12_run__98 : decode cX12_run_ 98 = .ok (.if_icmp .ne 7, 3) := by decide +kernel
theorem dX12_run__101 : decode cX12_run_ 101 = .ok (.iconst 1, 1) := by decide +kernel
theorem dX12_run__102 : decode cX12_run_ 102 = .ok (.goto 4, 3) := by decide +kernel
theorem dX12_run__105 : decode cX12_run_ 105 = .ok (.iconst 0, 1) := by decide +kernel
theorem dX12_run__106 : decode cX12_run_ 106 = .ok (.if_icmp .ne 7, 3) := by decide +kernel
theorem dX12_run__109 : decode cX12_run_ 109 = .ok (.iconst 1, 1) := by decide +kernel
theorem dX12_run__110 : decode cX12_run_ 110 = .ok (.goto 4, 3) := by decide +kernel
theorem dX12_run__113 : decode cX12_run_ 113 = .ok (.iconst 0, 1) := by decide +kernel
theorem dX12_run__114 : decode cX12_run_ 114 = .ok (.iadd, 1) := by decide +kernel
theorem dX12_run__115 : decode cX12_run_ 115 = .ok (.istore 5, 2) := by decide +kernel
theorem dX12_run__117 : decode cX12_run_ 117 = .ok (.iinc 6 1, 3) := by decide +kernel
theorem dX12_run__120 : decode cX12_run_ 120 = .ok (.goto (-53), 3) := by decide +kernel
theorem dX12_run__123 : decode cX12_run_ 123 = .ok (.iload 5, 2) := by decide +kernel
theorem dX12_run__125 : decode cX12_run_ 125 = .ok (.ireturn, 1) := by decide +kernel
theorem dX12_run__126 : decode cX12_run_ 126 = .ok (.aload_n 0, 1) := by decide +kernel
theorem dX12_run__127 : decode cX12_run_ 127 = .ok (.iload 4, 2) := by decide +kernel
theorem dX12_run__129 : decode cX12_run_ 129 = .ok (.invokevirtual 597, 3) := by decide +kernel
theorem dX12_run__132 : decode cX12_run_ 132 = .ok (.ireturn, 1) := by decide +kernel
theorem dX12_run__133 : decode cX12_run_ 133 = .ok (.aload_n 0, 1) := by decide +kernel
theorem dX12_run__134 : decode cX12_run_ 134 = .ok (.getfield 192, 3) := by decide +kernel
theorem dX12_run__137 : decode cX12_run_ 137 = .ok (.iload 4, 2) := by decide +kernel
theorem dX12_run__139 : decode cX12_run_ 139 = .ok (.iaload, 1) := by decide +kernel
theorem dX12_run__140 : decode cX12_run_ 140 = .ok (.ireturn, 1) := by decide +kernel
theorem dX12_run__141 : decode cX12_run_ 141 = .ok (.aload_n 0, 1) := by decide +kernel
theorem dX12_run__142 : decode cX12_run_ 142 = .ok (.getfield 25, 3) := by decide +kernel
theorem dX12_run__145 : decode cX12_run_ 145 = .ok (.iload 4, 2) := by decide +kernel
theorem dX12_run__147 : decode cX12_run_ 147 = .ok (.iaload, 1) := by decide +kernel
theorem dX12_run__148 : decode cX12_run_ 148 = .ok (.ireturn, 1) := by decide +kernel
theorem dX12_run__149 : decode cX12_run_ 149 = .ok (.iconst (-1), 1) := by decide +kernel
theorem dX12_run__150 : decode cX12_run_ 150 = .ok (.ireturn, 1) := by decide +kernel
theorem bX12_run__0 {d : Nat} {h0 hE h : ea_H} {rv : Option ea_V} {r0 : Option Nat} {x1 : Int32} {x2 : Int32} {x3 : Int32} (H : ∃ a7, r0 = some a7 ∧ a7 < ea_n h ∧ ea_c h a7 = 12 ∧ ∃ (d1 : Nat) (xc9 : Int32) (h2 : ea_H), ea_Met mX12_isTrain d1 [vR (some a7), vI x1] h (some (vI xc9)) h2 ∧ d1 + 1 ≤ d ∧ (xc9 = (0 : Int32) → rv = some (vI (-1)) ∧ hE = h2) ∧ (¬ xc9 = (0 : Int32) → ∃ (d10 : Nat) (xc14 : Int32) (h11 : ea_H), ea_Met mX12_isDay d10 [vI x2] h2 (some (vI xc14)) h11 ∧ d10 + 1 ≤ d ∧ (¬ xc14 = (0 : Int32) → ∃ (d15 : Nat) (xc19 : Int32) (h16 : ea_H), ea_Met mX12_run d15 [vI x1, vI x2] h11 (some (vI xc19)) h16 ∧ d15 + 1 ≤ d ∧ (Int32.toInt x3 = 0 → ea_W mX12_run_ d h0 rv hE 67 [(0, vR r0), (3, vI x3), (4, vI xc19), (5, vI 0), (6, vI 0)] [] h16) ∧ (Int32.toInt x3 = 1 → ea_W mX12_run_ d h0 rv hE 67 [(0, vR r0), (3, vI x3), (4, vI xc19), (5, vI 0), (6, vI 0)] [] h16) ∧ (Int32.toInt x3 = 2 → a7 < ea_n h16 ∧ ea_c h16 a7 = 12 ∧ ∃ (d20 : Nat) (xc26 : Int32) (h21 : ea_H), ea_Met mX12_gone d20 [vR (some a7), vI xc19] h16 (some (vI xc26)) h21 ∧ d20 + 1 ≤ d ∧ rv = some (vI xc26) ∧ hE = h21) ∧ (Int32.toInt x3 = 3 → a7 < ea_n h16 ∧ ea_c h16 a7 = 12 ∧ ∃ a31, (ea_r h16 a7 86) = some a31 ∧ a31 < ea_n h16 ∧ ea_c h16 a31 = 20 ∧ vp_in xc19 (ea_l h16 a31) ∧ rv = some (vI (ea_i h16 a31 (Int32.toNatClampNeg xc19))) ∧ hE = h16) ∧ (Int32.toInt x3 = 4 → a7 < ea_n h16 ∧ ea_c h16 a7 = 12 ∧ ∃ a38, (ea_r h16 a7 8) = some a38 ∧ a38 < ea_n h16 ∧ ea_c h16 a38 = 20 ∧ vp_in xc19 (ea_l h16 a38) ∧ rv = some (vI (ea_i h16 a38 (Int32.toNatClampNeg xc19))) ∧ hE = h16) ∧ (Int32.toInt x3 < 0 ∨ 4 < Int32.toInt x3 → rv = some (vI (-1)) ∧ hE = h16)) ∧ (xc14 = (0 : Int32) → rv = some (vI (-1)) ∧ hE = h11))) : ea_W mX12_run_ d h0 rv hE 0 [(0, vR r0), (1, vI x1), (2, vI x2), (3, vI x3)] [] h := by
  refine ea_aload_n (pc := 0) dX12_run__0 rfl 0 rfl ?_
  refine ea_iload_n (pc := 1) dX12_run__1 rfl 1 rfl ?_
  obtain ⟨a7, e8, f5, g6, H⟩ := H
  refine ea_deref1 e8 ?_
  obtain ⟨d1, xc9, h2, m3, q4, H⟩ := H
  refine ea_callV (pc := 2) (As := [vI x1]) (st := []) dX12_run__2 kX12_isTrain m3 q4 rfl (Nat.le_of_ble_eq_true rfl) ew_1736 ew_1738 ew_50 (ci := 12) rfl (by decide) f5 g6 ?_
  refine ea_if_eq (pc := 5) (tgt := 15) dX12_run__5 rfl (fun c42 => ?_) (fun c42 => ?_)
  · have H := H.1 c42
    refine ea_iconst (pc := 15) dX12_run__15 (v := (-1)) rfl ?_
    obtain ⟨rfl, rfl⟩ := H
    exact ea_ireturn (pc := 16) dX12_run__16 rfl rfl
  · have H := H.2 c42
    refine ea_iload_n (pc := 8) dX12_run__8 rfl 2 rfl ?_
    obtain ⟨d10, xc14, h11, m12, q13, H⟩ := H
    refine ea_callS (pc := 9) (As := [vI x2]) (st := []) dX12_run__9 kX12_isDay m12 q13 rfl (Nat.le_of_ble_eq_true rfl) ew_1752 ew_1753 ?_
    refine ea_if_ne (pc := 12) (tgt := 17) dX12_run__12 rfl (fun c41 => ?_) (fun c41 => ?_)
    · have H := H.1 c41
      refine ea_iload_n (pc := 17) dX12_run__17 rfl 1 rfl ?_
      refine ea_iload_n (pc := 18) dX12_run__18 rfl 2 rfl ?_
      obtain ⟨d15, xc19, h16, m17, q18, H⟩ := H
      refine ea_callS (pc := 19) (As := [vI x1, vI x2]) (st := []) dX12_run__19 kX12_run m17 q18 rfl (Nat.le_of_ble_eq_true rfl) ew_1755 ew_1756 ?_
      refine ea_istore (pc := 22) (lv' := [(0, vR r0), (3, vI x3), (4, vI xc19)]) dX12_run__22 (Nat.le_of_ble_eq_true rfl) [1, 4, 0] rfl ?_
      refine ea_iconst (pc := 24) dX12_run__24 (v := 0) rfl ?_
      refine ea_istore (pc := 25) (lv' := [(0, vR r0), (3, vI x3), (4, vI xc19), (5, vI 0)]) dX12_run__25 (Nat.le_of_ble_eq_true rfl) [1, 2, 3, 0] rfl ?_
      refine ea_iload_n (pc := 27) dX12_run__27 rfl 1 rfl ?_
      by_cases qc1 : Int32.toInt x3 = 0
      · have H := H.1 qc1
        refine ea_tswIn (pc := 28) (tgt := 64) dX12_run__28 (by omega) (by omega) (by rw [qc1]; rfl) rfl ?_
        refine ea_iconst (pc := 64) dX12_run__64 (v := 0) rfl ?_
        refine ea_istore (pc := 65) (lv' := [(0, vR r0), (3, vI x3), (4, vI xc19), (5, vI 0), (6, vI 0)]) dX12_run__65 (Nat.le_of_ble_eq_true rfl) [1, 2, 3, 4, 0] rfl ?_
        exact H
      by_cases qc2 : Int32.toInt x3 = 1
      · have H := H.2.1 qc2
        refine ea_tswIn (pc := 28) (tgt := 64) dX12_run__28 (by omega) (by omega) (by rw [qc2]; rfl) rfl ?_
        refine ea_iconst (pc := 64) dX12_run__64 (v := 0) rfl ?_
        refine ea_istore (pc := 65) (lv' := [(0, vR r0), (3, vI x3), (4, vI xc19), (5, vI 0), (6, vI 0)]) dX12_run__65 (Nat.le_of_ble_eq_true rfl) [1, 2, 3, 4, 0] rfl ?_
        exact H
      by_cases qc3 : Int32.toInt x3 = 2
      · have H := H.2.2.1 qc3
        refine ea_tswIn (pc := 28) (tgt := 126) dX12_run__28 (by omega) (by omega) (by rw [qc3]; rfl) rfl ?_
        refine ea_aload_n (pc := 126) dX12_run__126 rfl 0 rfl ?_
        refine ea_iload (pc := 127) dX12_run__127 2 rfl ?_
        obtain ⟨f24, g25, H⟩ := H
        refine ea_deref1 e8 ?_
        obtain ⟨d20, xc26, h21, m22, q23, H⟩ := H
        refine ea_callV (pc := 129) (As := [vI xc19]) (st := []) dX12_run__129 kX12_gone m22 q23 rfl (Nat.le_of_ble_eq_true rfl) ew_2094 ew_2096 ew_99 (ci := 12) rfl (by decide) f24 g25 ?_
        obtain ⟨rfl, rfl⟩ := H
        exact ea_ireturn (pc := 132) dX12_run__132 rfl rfl
      by_cases qc4 : Int32.toInt x3 = 3
      · have H := H.2.2.2.1 qc4
        refine ea_tswIn (pc := 28) (tgt := 133) dX12_run__28 (by omega) (by omega) (by rw [qc4]; rfl) rfl ?_
        refine ea_aload_n (pc := 133) dX12_run__133 rfl 0 rfl ?_
        obtain ⟨f27, g28, H⟩ := H
        refine ea_deref0 e8 ?_
        refine ea_getR (pc := 134) dX12_run__134 ec_12 (k := 86) (Nat.le_of_ble_eq_true rfl) rfl (Or.inl ew_1431) f27 g28 rfl ?_
        refine ea_iload (pc := 137) dX12_run__137 2 rfl ?_
        obtain ⟨a31, e32, f29, g30, H⟩ := H
        refine ea_deref1 e32 ?_
        obtain ⟨z33, H⟩ := H
        refine ea_iald (pc := 139) dX12_run__139 f29 g30 z33 ?_
        obtain ⟨rfl, rfl⟩ := H
        exact ea_ireturn (pc := 140) dX12_run__140 rfl rfl
      by_cases qc5 : Int32.toInt x3 = 4
      · have H := H.2.2.2.2.1 qc5
        refine ea_tswIn (pc := 28) (tgt := 141) dX12_run__28 (by omega) (by omega) (by rw [qc5]; rfl) rfl ?_
        refine ea_aload_n (pc := 141) dX12_run__141 rfl 0 rfl ?_
        obtain ⟨f34, g35, H⟩ := H
        refine ea_deref0 e8 ?_
        refine ea_getR (pc := 142) dX12_run__142 ec_12 (k := 8) (Nat.le_of_ble_eq_true rfl) rfl (Or.inl ew_1353) f34 g35 rfl ?_
        refine ea_iload (pc := 145) dX12_run__145 2 rfl ?_
        obtain ⟨a38, e39, f36, g37, H⟩ := H
        refine ea_deref1 e39 ?_
        obtain ⟨z40, H⟩ := H
        refine ea_iald (pc := 147) dX12_run__147 f36 g37 z40 ?_
        obtain ⟨rfl, rfl⟩ := H
        exact ea_ireturn (pc := 148) dX12_run__148 rfl rfl
      have qd : Int32.toInt x3 < 0 ∨ 4 < Int32.toInt x3 := by omega
      have H := H.2.2.2.2.2 qd
      refine ea_tswOut (pc := 28) (tgt := 149) dX12_run__28 qd rfl ?_
      refine ea_iconst (pc := 149) dX12_run__149 (v := (-1)) rfl ?_
      obtain ⟨rfl, rfl⟩ := H
      exact ea_ireturn (pc := 150) dX12_run__150 rfl rfl
    · have H := H.2 c41
      refine ea_iconst (pc := 15) dX12_run__15 (v := (-1)) rfl ?_
      obtain ⟨rfl, rfl⟩ := H
      exact ea_ireturn (pc := 16) dX12_run__16 rfl rfl
theorem bX12_run__67 {d : Nat} {h0 hE h : ea_H} {rv : Option ea_V} {r0 : Option Nat} {x3 : Int32} {x4 : Int32} {x5 : Int32} {x6 : Int32} (H : ∃ a3, r0 = some a3 ∧ a3 < ea_n h ∧ ea_c h a3 = 12 ∧ ((ea_i h a3 63) ≤ x6 → rv = some (vI x5) ∧ hE = h) ∧ (¬ (ea_i h a3 63) ≤ x6 → a3 < ea_n h ∧ ea_c h a3 = 12 ∧ ∃ (d5 : Nat) (xc11 : Int32) (h6 : ea_H), ea_Met mX12_isAboard d5 [vR (some a3), vI x6, vI x4] h (some (vI xc11)) h6 ∧ d5 + 1 ≤ d ∧ (xc11 = (0 : Int32) → ea_W mX12_run_ d h0 rv hE 67 [(0, vR r0), (3, vI x3), (4, vI x4), (5, vI (x5 + (0 : Int32))), (6, vI (x6 + 1))] [] h6) ∧ (¬ xc11 = (0 : Int32) → a3 < ea_n h6 ∧ ea_c h6 a3 = 12 ∧ ∃ a16, (ea_r h6 a3 87) = some a16 ∧ a16 < ea_n h6 ∧ ea_c h6 a16 = 21 ∧ vp_in x6 (ea_l h6 a16) ∧ (¬ x3 = (1 : Int32) → ea_W mX12_run_ d h0 rv hE 106 [(0, vR r0), (3, vI x3), (4, vI x4), (6, vI x6)] [vI 0, vI (ea_i h6 a16 (Int32.toNatClampNeg x6)), vI x5] h6) ∧ (x3 = (1 : Int32) → ea_W mX12_run_ d h0 rv hE 106 [(0, vR r0), (3, vI x3), (4, vI x4), (6, vI x6)] [vI 1, vI (ea_i h6 a16 (Int32.toNatClampNeg x6)), vI x5] h6)))) : ea_W mX12_run_ d h0 rv hE 67 [(0, vR r0), (3, vI x3), (4, vI x4), (5, vI x5), (6, vI x6)] [] h := by
  refine ea_iload (pc := 67) dX12_run__67 4 rfl ?_
  refine ea_aload_n (pc := 69) dX12_run__69 rfl 0 rfl ?_
  obtain ⟨a3, e4, f1, g2, H⟩ := H
  refine ea_deref0 e4 ?_
  refine ea_getI (pc := 70) dX12_run__70 ec_12 (k := 63) (Nat.le_of_ble_eq_true rfl) rfl (Or.inl ew_1408) f1 g2 ?_
  refine ea_icmp_ge (pc := 73) (tgt := 123) dX12_run__73 rfl (fun c21 => ?_) (fun c21 => ?_)
  · have H := H.1 c21
    refine ea_iload (pc := 123) dX12_run__123 3 rfl ?_
    obtain ⟨rfl, rfl⟩ := H
    exact ea_ireturn (pc := 125) dX12_run__125 rfl rfl
  · have H := H.2 c21
    refine ea_iload (pc := 76) dX12_run__76 3 rfl ?_
    refine ea_aload_n (pc := 78) dX12_run__78 rfl 0 rfl ?_
    refine ea_iload (pc := 79) dX12_run__79 4 rfl ?_
    refine ea_iload (pc := 81) dX12_run__81 2 rfl ?_
    obtain ⟨f9, g10, H⟩ := H
    refine ea_deref2 e4 ?_
    obtain ⟨d5, xc11, h6, m7, q8, H⟩ := H
    refine ea_callV (pc := 83) (As := [vI x6, vI x4]) (st := [vI x5]) dX12_run__83 kX12_isAboard m7 q8 rfl (Nat.le_of_ble_eq_true rfl) ew_2067 ew_2069 ew_95 (ci := 12) rfl (by decide) f9 g10 ?_
    refine ea_if_eq (pc := 86) (tgt := 113) dX12_run__86 rfl (fun c20 => ?_) (fun c20 => ?_)
    · have H := H.1 c20
      refine ea_iconst (pc := 113) dX12_run__113 (v := 0) rfl ?_
      refine ea_iadd (pc := 114) dX12_run__114 ?_
      refine ea_istore (pc := 115) (lv' := [(0, vR r0), (3, vI x3), (4, vI x4), (5, vI (x5 + (0 : Int32))), (6, vI x6)]) dX12_run__115 (Nat.le_of_ble_eq_true rfl) [1, 2, 3, 0, 4] rfl ?_
      refine ea_iinc (pc := 117) (v := 1) (lv' := [(0, vR r0), (3, vI x3), (4, vI x4), (5, vI (x5 + (0 : Int32))), (6, vI (x6 + 1))]) dX12_run__117 4 rfl rfl (Nat.le_of_ble_eq_true rfl) [1, 2, 3, 4, 0] rfl ?_
      refine ea_goto (pc := 120) (tgt := 67) dX12_run__120 rfl ?_
      exact H
    · have H := H.2 c20
      refine ea_aload_n (pc := 89) dX12_run__89 rfl 0 rfl ?_
      obtain ⟨f12, g13, H⟩ := H
      refine ea_deref0 e4 ?_
      refine ea_getR (pc := 90) dX12_run__90 ec_12 (k := 87) (Nat.le_of_ble_eq_true rfl) rfl (Or.inl ew_1432) f12 g13 rfl ?_
      refine ea_iload (pc := 93) dX12_run__93 4 rfl ?_
      obtain ⟨a16, e17, f14, g15, H⟩ := H
      refine ea_deref1 e17 ?_
      obtain ⟨z18, H⟩ := H
      refine ea_zald (pc := 95) dX12_run__95 f14 g15 z18 ?_
      refine ea_iload_n (pc := 96) dX12_run__96 rfl 1 rfl ?_
      refine ea_iconst (pc := 97) dX12_run__97 (v := 1) rfl ?_
      refine ea_icmp_ne (pc := 98) (tgt := 105) dX12_run__98 rfl (fun c19 => ?_) (fun c19 => ?_)
      · have H := H.1 c19
        refine ea_iconst (pc := 105) dX12_run__105 (v := 0) rfl ?_
        exact ea_fewer [0, 1, 2, 4] rfl H
      · have H := H.2 c19
        refine ea_iconst (pc := 101) dX12_run__101 (v := 1) rfl ?_
        refine ea_goto (pc := 102) (tgt := 106) dX12_run__102 rfl ?_
        exact ea_fewer [0, 1, 2, 4] rfl H
theorem bX12_run__106 {d : Nat} {h0 hE h : ea_H} {rv : Option ea_V} {r0 : Option Nat} {x3 : Int32} {x4 : Int32} {x6 : Int32} {sx0 : Int32} {sx1 : Int32} {sx2 : Int32} (H : (¬ sx1 = sx0 → ea_W mX12_run_ d h0 rv hE 67 [(0, vR r0), (3, vI x3), (4, vI x4), (5, vI (sx2 + (0 : Int32))), (6, vI (x6 + 1))] [] h) ∧ (sx1 = sx0 → ea_W mX12_run_ d h0 rv hE 67 [(0, vR r0), (3, vI x3), (4, vI x4), (5, vI (sx2 + (1 : Int32))), (6, vI (x6 + 1))] [] h)) : ea_W mX12_run_ d h0 rv hE 106 [(0, vR r0), (3, vI x3), (4, vI x4), (6, vI x6)] [vI sx0, vI sx1, vI sx2] h := by
  refine ea_icmp_ne (pc := 106) (tgt := 113) dX12_run__106 rfl (fun c1 => ?_) (fun c1 => ?_)
  · have H := H.1 c1
    refine ea_iconst (pc := 113) dX12_run__113 (v := 0) rfl ?_
    refine ea_iadd (pc := 114) dX12_run__114 ?_
    refine ea_istore (pc := 115) (lv' := [(0, vR r0), (3, vI x3), (4, vI x4), (5, vI (sx2 + (0 : Int32))), (6, vI x6)]) dX12_run__115 (Nat.le_of_ble_eq_true rfl) [1, 2, 3, 0, 4] rfl ?_
    refine ea_iinc (pc := 117) (v := 1) (lv' := [(0, vR r0), (3, vI x3), (4, vI x4), (5, vI (sx2 + (0 : Int32))), (6, vI (x6 + 1))]) dX12_run__117 4 rfl rfl (Nat.le_of_ble_eq_true rfl) [1, 2, 3, 4, 0] rfl ?_
    refine ea_goto (pc := 120) (tgt := 67) dX12_run__120 rfl ?_
    exact H
  · have H := H.2 c1
    refine ea_iconst (pc := 109) dX12_run__109 (v := 1) rfl ?_
    refine ea_goto (pc := 110) (tgt := 114) dX12_run__110 rfl ?_
    refine ea_iadd (pc := 114) dX12_run__114 ?_
    refine ea_istore (pc := 115) (lv' := [(0, vR r0), (3, vI x3), (4, vI x4), (5, vI (sx2 + (1 : Int32))), (6, vI x6)]) dX12_run__115 (Nat.le_of_ble_eq_true rfl) [1, 2, 3, 0, 4] rfl ?_
    refine ea_iinc (pc := 117) (v := 1) (lv' := [(0, vR r0), (3, vI x3), (4, vI x4), (5, vI (sx2 + (1 : Int32))), (6, vI (x6 + 1))]) dX12_run__117 4 rfl rfl (Nat.le_of_ble_eq_true rfl) [1, 2, 3, 4, 0] rfl ?_
    refine ea_goto (pc := 120) (tgt := 67) dX12_run__120 rfl ?_
    exact H
theorem dX12_gone_0 : decode cX12_gone 0 = .ok (.iconst (-1), 1) := by decide +kernel
theorem dX12_gone_1 : decode cX12_gone 1 = .ok (.istore_n 2, 1) := by decide +kernel
theorem dX12_gone_2 : decode cX12_gone 2 = .ok (.iload_n 2, 1) := by decide +kernel
theorem dX12_gone_3 : decode cX12_gone 3 = .ok (.iconst 2, 1) := by decide +kernel
theorem dX12_gone_4 : decode cX12_gone 4 = .ok (.iadd, 1) := by decide +kernel
theorem dX12_gone_5 : decode cX12_gone 5 = .ok (.aload_n 0, 1) := by decide +kernel
theorem dX12_gone_6 : decode cX12_gone 6 = .ok (.getfield 13, 3) := by decide +kernel
theorem dX12_gone_9 : decode cX12_gone 9 = .ok (.iload_n 1, 1) := by decide +kernel
theorem dX12_gone_10 : decode cX12_gone 10 = .ok (.bipush 7, 2) := by decide +kernel
theorem dX12_gone_12 : decode cX12_gone 12 = .ok (.idiv, 1) := by decide +kernel
theorem dX12_gone_13 : decode cX12_gone 13 = .ok (.iaload, 1) := by decide +kernel
theorem dX12_gone_14 : decode cX12_gone 14 = .ok (.if_icmp .ge 24, 3) := by decide +kernel
theorem dX12_gone_17 : decode cX12_gone 17 = .ok (.aload_n 0, 1) := by decide +kernel
theorem dX12_gone_18 : decode cX12_gone 18 = .ok (.iload_n 1, 1) := by decide +kernel
theorem dX12_gone_19 : decode cX12_gone 19 = .ok (.iload_n 2, 1) := by decide +kernel
theorem dX12_gone_20 : decode cX12_gone 20 = .ok (.iconst 1, 1) := by decide +kernel
theorem dX12_gone_21 : decode cX12_gone 21 = .ok (.iadd, 1) := by decide +kernel
theorem dX12_gone_22 : decode cX12_gone 22 = .ok (.invokevirtual 329, 3) := by decide +kernel
theorem dX12_gone_25 : decode cX12_gone 25 = .ok (.aload_n 0, 1) := by decide +kernel
theorem dX12_gone_26 : decode cX12_gone 26 = .ok (.getfield 313, 3) := by decide +kernel
theorem dX12_gone_29 : decode cX12_gone 29 = .ok (.if_icmp .gt 9, 3) := by decide +kernel
theorem dX12_gone_32 : decode cX12_gone 32 = .ok (.iinc 2 1, 3) := by decide +kernel
theorem dX12_gone_35 : decode cX12_gone 35 = .ok (.goto (-33), 3) := by decide +kernel
theorem dX12_gone_38 : decode cX12_gone 38 = .ok (.iload_n 2, 1) := by decide +kernel
theorem dX12_gone_39 : decode cX12_gone 39 = .ok (.ireturn, 1) := by decide +kernel
theorem bX12_gone_0 {d : Nat} {h0 hE h : ea_H} {rv : Option ea_V} {r0 : Option Nat} {x1 : Int32} (H : ea_W mX12_gone d h0 rv hE 2 [(0, vR r0), (1, vI x1), (2, vI (-1))] [] h) : ea_W mX12_gone d h0 rv hE 0 [(0, vR r0), (1, vI x1)] [] h := by
  refine ea_iconst (pc := 0) dX12_gone_0 (v := (-1)) rfl ?_
  refine ea_istore_n (pc := 1) (lv' := [(0, vR r0), (1, vI x1), (2, vI (-1))]) dX12_gone_1 rfl (Nat.le_of_ble_eq_true rfl) [1, 2, 0] rfl ?_
  exact H
theorem bX12_gone_2 {d : Nat} {h0 hE h : ea_H} {rv : Option ea_V} {r0 : Option Nat} {x1 : Int32} {x2 : Int32} (H : ∃ a3, r0 = some a3 ∧ a3 < ea_n h ∧ ea_c h a3 = 12 ∧ ∃ a7, (ea_r h a3 4) = some a7 ∧ a7 < ea_n h ∧ ea_c h a7 = 20 ∧ vp_in (x1 / (7 : Int32)) (ea_l h a7) ∧ ((ea_i h a7 (Int32.toNatClampNeg (x1 / (7 : Int32)))) ≤ (x2 + (2 : Int32)) → rv = some (vI x2) ∧ hE = h) ∧ (¬ (ea_i h a7 (Int32.toNatClampNeg (x1 / (7 : Int32)))) ≤ (x2 + (2 : Int32)) → a3 < ea_n h ∧ ea_c h a3 = 12 ∧ ∃ (d10 : Nat) (xc16 : Int32) (h11 : ea_H), ea_Met mX12_goesAt d10 [vR (some a3), vI x1, vI (x2 + (1 : Int32))] h (some (vI xc16)) h11 ∧ d10 + 1 ≤ d ∧ a3 < ea_n h11 ∧ ea_c h11 a3 = 12 ∧ ((ea_i h11 a3 0) < xc16 → rv = some (vI x2) ∧ hE = h11) ∧ (¬ (ea_i h11 a3 0) < xc16 → ea_W mX12_gone d h0 rv hE 2 [(0, vR r0), (1, vI x1), (2, vI (x2 + 1))] [] h11))) : ea_W mX12_gone d h0 rv hE 2 [(0, vR r0), (1, vI x1), (2, vI x2)] [] h := by
  refine ea_iload_n (pc := 2) dX12_gone_2 rfl 2 rfl ?_
  refine ea_iconst (pc := 3) dX12_gone_3 (v := 2) rfl ?_
  refine ea_iadd (pc := 4) dX12_gone_4 ?_
  refine ea_aload_n (pc := 5) dX12_gone_5 rfl 0 rfl ?_
  obtain ⟨a3, e4, f1, g2, H⟩ := H
  refine ea_deref0 e4 ?_
  refine ea_getR (pc := 6) dX12_gone_6 ec_12 (k := 4) (Nat.le_of_ble_eq_true rfl) rfl (Or.inl ew_1349) f1 g2 rfl ?_
  refine ea_iload_n (pc := 9) dX12_gone_9 rfl 1 rfl ?_
  refine ea_bipush (pc := 10) dX12_gone_10 (v := 7) rfl ?_
  refine ea_idiv (pc := 12) dX12_gone_12 (by decide) ?_
  obtain ⟨a7, e8, f5, g6, H⟩ := H
  refine ea_deref1 e8 ?_
  obtain ⟨z9, H⟩ := H
  refine ea_iald (pc := 13) dX12_gone_13 f5 g6 z9 ?_
  refine ea_icmp_ge (pc := 14) (tgt := 38) dX12_gone_14 rfl (fun c20 => ?_) (fun c20 => ?_)
  · have H := H.1 c20
    refine ea_iload_n (pc := 38) dX12_gone_38 rfl 2 rfl ?_
    obtain ⟨rfl, rfl⟩ := H
    exact ea_ireturn (pc := 39) dX12_gone_39 rfl rfl
  · have H := H.2 c20
    refine ea_aload_n (pc := 17) dX12_gone_17 rfl 0 rfl ?_
    refine ea_iload_n (pc := 18) dX12_gone_18 rfl 1 rfl ?_
    refine ea_iload_n (pc := 19) dX12_gone_19 rfl 2 rfl ?_
    refine ea_iconst (pc := 20) dX12_gone_20 (v := 1) rfl ?_
    refine ea_iadd (pc := 21) dX12_gone_21 ?_
    obtain ⟨f14, g15, H⟩ := H
    refine ea_deref2 e4 ?_
    obtain ⟨d10, xc16, h11, m12, q13, H⟩ := H
    refine ea_callV (pc := 22) (As := [vI x1, vI (x2 + (1 : Int32))]) (st := []) dX12_gone_22 kX12_goesAt m12 q13 rfl (Nat.le_of_ble_eq_true rfl) ew_1786 ew_1788 ew_57 (ci := 12) rfl (by decide) f14 g15 ?_
    refine ea_aload_n (pc := 25) dX12_gone_25 rfl 0 rfl ?_
    obtain ⟨f17, g18, H⟩ := H
    refine ea_deref0 e4 ?_
    refine ea_getI (pc := 26) dX12_gone_26 ec_12 (k := 0) (Nat.le_of_ble_eq_true rfl) rfl (Or.inl ew_1345) f17 g18 ?_
    refine ea_icmp_gt (pc := 29) (tgt := 38) dX12_gone_29 rfl (fun c19 => ?_) (fun c19 => ?_)
    · have H := H.1 c19
      refine ea_iload_n (pc := 38) dX12_gone_38 rfl 2 rfl ?_
      obtain ⟨rfl, rfl⟩ := H
      exact ea_ireturn (pc := 39) dX12_gone_39 rfl rfl
    · have H := H.2 c19
      refine ea_iinc (pc := 32) (v := 1) (lv' := [(0, vR r0), (1, vI x1), (2, vI (x2 + 1))]) dX12_gone_32 2 rfl rfl (Nat.le_of_ble_eq_true rfl) [1, 2, 0] rfl ?_
      refine ea_goto (pc := 35) (tgt := 2) dX12_gone_35 rfl ?_
      exact H
theorem dX12_isOf_0 : decode cX12_isOf 0 = .ok (.aload_n 0, 1) := by decide +kernel
theorem dX12_isOf_1 : decode cX12_isOf 1 = .ok (.getfield 129, 3) := by decide +kernel
theorem dX12_isOf_4 : decode cX12_isOf 4 = .ok (.iload_n 1, 1) := by decide +kernel
theorem dX12_isOf_5 : decode cX12_isOf 5 = .ok (.iaload, 1) := by decide +kernel
theorem dX12_isOf_6 : decode cX12_isOf 6 = .ok (.iload_n 2, 1) := by decide +kernel
theorem dX12_isOf_7 : decode cX12_isOf 7 = .ok (.if_icmp .ne 17, 3) := by decide +kernel
theorem dX12_isOf_10 : decode cX12_isOf 10 = .ok (.aload_n 0, 1) := by decide +kernel
theorem dX12_isOf_11 : decode cX12_isOf 11 = .ok (.getfield 132, 3) := by decide +kernel
theorem dX12_isOf_14 : decode cX12_isOf 14 = .ok (.iload_n 1, 1) := by decide +kernel
theorem dX12_isOf_15 : decode cX12_isOf 15 = .ok (.iaload, 1) := by decide +kernel
theorem dX12_isOf_16 : decode cX12_isOf 16 = .ok (.iload_n 3, 1) := by decide +kernel
theorem dX12_isOf_17 : decode cX12_isOf 17 = .ok (.if_icmp .ne 7, 3) := by decide +kernel
theorem dX12_isOf_20 : decode cX12_isOf 20 = .ok (.iconst 1, 1) := by decide +kernel
theorem dX12_isOf_21 : decode cX12_isOf 21 = .ok (.goto 4, 3) := by decide +kernel
theorem dX12_isOf_24 : decode cX12_isOf 24 = .ok (.iconst 0, 1) := by decide +kernel
theorem dX12_isOf_25 : decode cX12_isOf 25 = .ok (.ireturn, 1) := by decide +kernel
theorem bX12_isOf_0 {d : Nat} {h0 hE h : ea_H} {rv : Option ea_V} {r0 : Option Nat} {x1 : Int32} {x2 : Int32} {x3 : Int32} (H : ∃ a3, r0 = some a3 ∧ a3 < ea_n h ∧ ea_c h a3 = 12 ∧ ∃ a7, (ea_r h a3 65) = some a7 ∧ a7 < ea_n h ∧ ea_c h a7 = 20 ∧ vp_in x1 (ea_l h a7) ∧ (¬ (ea_i h a7 (Int32.toNatClampNeg x1)) = x2 → rv = some (vI 0) ∧ hE = h) ∧ ((ea_i h a7 (Int32.toNatClampNeg x1)) = x2 → a3 < ea_n h ∧ ea_c h a3 = 12 ∧ ∃ a14, (ea_r h a3 66) = some a14 ∧ a14 < ea_n h ∧ ea_c h a14 = 20 ∧ vp_in x1 (ea_l h a14) ∧ (¬ (ea_i h a14 (Int32.toNatClampNeg x1)) = x3 → rv = some (vI 0) ∧ hE = h) ∧ ((ea_i h a14 (Int32.toNatClampNeg x1)) = x3 → rv = some (vI 1) ∧ hE = h))) : ea_W mX12_isOf d h0 rv hE 0 [(0, vR r0), (1, vI x1), (2, vI x2), (3, vI x3)] [] h := by
  refine ea_aload_n (pc := 0) dX12_isOf_0 rfl 0 rfl ?_
  obtain ⟨a3, e4, f1, g2, H⟩ := H
  refine ea_deref0 e4 ?_
  refine ea_getR (pc := 1) dX12_isOf_1 ec_12 (k := 65) (Nat.le_of_ble_eq_true rfl) rfl (Or.inl ew_1410) f1 g2 rfl ?_
  refine ea_iload_n (pc := 4) dX12_isOf_4 rfl 1 rfl ?_
  obtain ⟨a7, e8, f5, g6, H⟩ := H
  refine ea_deref1 e8 ?_
  obtain ⟨z9, H⟩ := H
  refine ea_iald (pc := 5) dX12_isOf_5 f5 g6 z9 ?_
  refine ea_iload_n (pc := 6) dX12_isOf_6 rfl 2 rfl ?_
  refine ea_icmp_ne (pc := 7) (tgt := 24) dX12_isOf_7 rfl (fun c18 => ?_) (fun c18 => ?_)
  · have H := H.1 c18
    refine ea_iconst (pc := 24) dX12_isOf_24 (v := 0) rfl ?_
    obtain ⟨rfl, rfl⟩ := H
    exact ea_ireturn (pc := 25) dX12_isOf_25 rfl (ea_bn (Or.inl rfl))
  · have H := H.2 c18
    refine ea_aload_n (pc := 10) dX12_isOf_10 rfl 0 rfl ?_
    obtain ⟨f10, g11, H⟩ := H
    refine ea_deref0 e4 ?_
    refine ea_getR (pc := 11) dX12_isOf_11 ec_12 (k := 66) (Nat.le_of_ble_eq_true rfl) rfl (Or.inl ew_1411) f10 g11 rfl ?_
    refine ea_iload_n (pc := 14) dX12_isOf_14 rfl 1 rfl ?_
    obtain ⟨a14, e15, f12, g13, H⟩ := H
    refine ea_deref1 e15 ?_
    obtain ⟨z16, H⟩ := H
    refine ea_iald (pc := 15) dX12_isOf_15 f12 g13 z16 ?_
    refine ea_iload_n (pc := 16) dX12_isOf_16 rfl 3 rfl ?_
    refine ea_icmp_ne (pc := 17) (tgt := 24) dX12_isOf_17 rfl (fun c17 => ?_) (fun c17 => ?_)
    · have H := H.1 c17
      refine ea_iconst (pc := 24) dX12_isOf_24 (v := 0) rfl ?_
      obtain ⟨rfl, rfl⟩ := H
      exact ea_ireturn (pc := 25) dX12_isOf_25 rfl (ea_bn (Or.inl rfl))
    · have H := H.2 c17
      refine ea_iconst (pc := 20) dX12_isOf_20 (v := 1) rfl ?_
      refine ea_goto (pc := 21) (tgt := 25) dX12_isOf_21 rfl ?_
      obtain ⟨rfl, rfl⟩ := H
      exact ea_ireturn (pc := 25) dX12_isOf_25 rfl (ea_bn (Or.inr rfl))
theorem dX12_account_0 : decode cX12_account 0 = .ok (.aload_n 0, 1) := by decide +kernel
theorem dX12_account_1 : decode cX12_account 1 = .ok (.iload_n 1, 1) := by decide +kernel
theorem dX12_account_2 : decode cX12_account 2 = .ok (.invokevirtual 297, 3) := by decide +kernel
theorem dX12_account_5 : decode cX12_account 5 = .ok (.ifCond .eq 16, 3) := by decide +kernel
theorem dX12_account_8 : decode cX12_account 8 = .ok (.aload_n 0, 1) := by decide +kernel
theorem dX12_account_9 : decode cX12_account 9 = .ok (.iload_n 2, 1) := by decide +kernel
theorem dX12_account_10 : decode cX12_account 10 = .ok (.invokevirtual 297, 3) := by decide +kernel
theorem dX12_account_13 : decode cX12_account 13 = .ok (.ifCond .eq 8, 3) := by decide +kernel
theorem dX12_account_16 : decode cX12_account 16 = .ok (.iload_n 1, 1) := by decide +kernel
theorem dX12_account_17 : decode cX12_account 17 = .ok (.iload_n 2, 1) := by decide +kernel
theorem dX12_account_18 : decode cX12_account 18 = .ok (.if_icmp .ne 5, 3) := by decide +kernel
theorem dX12_account_21 : decode cX12_account 21 = .ok (.iconst (-1), 1) := by decide +kernel
theorem dX12_account_22 : decode cX12_account 22 = .ok (.ireturn, 1) := by decide +kernel
theorem dX12_account_23 : decode cX12_account 23 = .ok (.iconst 0, 1) := by decide +kernel
theorem dX12_account_24 : decode cX12_account 24 = .ok (.istore 4, 2) := by decide +kernel
theorem dX12_account_26 : decode cX12_account 26 = .ok (.iconst 0, 1) := by decide +kernel
theorem dX12_account_27 : decode cX12_account 27 = .ok (.istore 5, 2) := by decide +kernel
theorem dX12_account_29 : decode cX12_account 29 = .ok (.iconst 0, 1) := by decide +kernel
theorem dX12_account_30 : decode cX12_account 30 = .ok (.istore 6, 2) := by decide +kernel
theorem dX12_account_32 : decode cX12_account 32 = .ok (.iconst (-1), 1) := by decide +kernel
theorem dX12_account_33 : decode cX12_account 33 = .ok (.istore 7, 2) := by decide +kernel
theorem dX12_account_35 : decode cX12_account 35 = .ok (.iconst 0, 1) := by decide +kernel
theorem dX12_account_36 : decode cX12_account 36 = .ok (.istore 8, 2) := by decide +kernel
theorem dX12_account_38 : decode cX12_account 38 = .ok (.iload 8, 2) := by decide +kernel
theorem dX12_account_40 : decode cX12_account 40 = .ok (.aload_n 0, 1) := by decide +kernel
theorem dX12_account_41 : decode cX12_account 41 = .ok (.getfield 531, 3) := by decide +kernel
theorem dX12_account_44 : decode cX12_account 44 = .ok (.if_icmp .ge 84, 3) := by decide +kernel
theorem dX12_account_47 : decode cX12_account 47 = .ok (.aload_n 0, 1) := by decide +kernel
theorem dX12_account_48 : decode cX12_account 48 = .ok (.iload 8, 2) := by decide +kernel
theorem dX12_account_50 : decode cX12_account 50 = .ok (.iload_n 1, 1) := by decide +kernel
theorem dX12_account_51 : decode cX12_account 51 = .ok (.iload_n 2, 1) := by decide +kernel
theorem dX12_account_52 : decode cX12_account 52 = .ok (.invokevirtual 600, 3) := by decide +kernel
theorem dX12_account_55 : decode cX12_account 55 = .ok (.ifCond .ne 6, 3) := by decide +kernel
theorem dX12_account_58 : decode cX12_account 58 = .ok (.goto 64, 3) := by decide +kernel
theorem dX12_account_61 : decode cX12_account 61 = .ok (.iload 4, 2) := by decide +kernel
theorem dX12_account_63 : decode cX12_account 63 = .ok (.aload_n 0, 1) := by decide +kernel
theorem dX12_account_64 : decode cX12_account 64 = .ok (.iload 8, 2) := by decide +kernel
theorem dX12_account_66 : decode cX12_account 66 = .ok (.invokevirtual 566, 3) := by decide +kernel
theorem dX12_account_69 : decode cX12_account 69 = .ok (.iadd, 1) := by decide +kernel
theorem dX12_account_70 : decode cX12_account 70 = .ok (.istore 4, 2) := by decide +kernel
theorem dX12_account_72 : decode cX12_account 72 = .ok (.aload_n 0, 1) := by decide +kernel
theorem dX12_account_73 : decode cX12_account 73 = .ok (.getfield 177, 3) := by decide +kernel
theorem dX12_account_76 : decode cX12_account 76 = .ok (.iload 8, 2) := by decide +kernel
theorem dX12_account_78 : decode cX12_account 78 = .ok (.iaload, 1) := by decide +kernel
theorem dX12_account_79 : decode cX12_account 79 = .ok (.iconst 2, 1) := by decide +kernel
theorem dX12_account_80 : decode cX12_account 80 = .ok (.if_icmp .ne 17, 3) := by decide +kernel
theorem dX12_account_83 : decode cX12_account 83 = .ok (.iload 5, 2) := by decide +kernel
theorem dX12_account_85 : decode cX12_account 85 = .ok (.aload_n 0, 1) := by decide +kernel
theorem dX12_account_86 : decode cX12_account 86 = .ok (.iload 8, 2) := by decide +kernel
theorem dX12_account_88 : decode cX12_account 88 = .ok (.invokevirtual 566, 3) := by decide +kernel
theorem dX12_account_91 : decode cX12_account 91 = .ok (.iadd, 1) := by decide +kernel
theorem dX12_account_92 : decode cX12_account 92 = .ok (.istore 5, 2) := by decide +kernel
theorem dX12_account_94 : decode cX12_account 94 = .ok (.goto 28, 3) := by decide +kernel
theorem dX12_account_97 : decode cX12_account 97 = .ok (.aload_n 0, 1) := by decide +kernel
theorem dX12_account_98 : decode cX12_account 98 = .ok (.iload 8, 2) := by decide +kernel
theorem dX12_account_100 : decode cX12_account 100 = .ok (.invokevirtual 566, 3) := by decide +kernel
theorem dX12_account_103 : decode cX12_account 103 = .ok (.ifCond .le 19, 3) := by decide +kernel
theorem dX12_account_106 : decode cX12_account 106 = .ok (.iload 6, 2) := by decide +kernel
theorem dX12_account_108 : decode cX12_account 108 = .ok (.iload_n 3, 1) := by decide +kernel
theorem dX12_account_109 : decode cX12_account 109 = .ok (.bipush 10, 2) := by decide +kernel
theorem dX12_account_111 : decode cX12_account 111 = .ok (.isub, 1) := by decide +kernel
theorem dX12_account_112 : decode cX12_account 112 = .ok (.if_icmp .ne 7, 3) := by decide +kernel
theorem dX12_account_115 : decode cX12_account 115 = .ok (.iload 8, 2) := by decide +kernel
theorem dX12_account_117 : decode cX12_account 117 = .ok (.istore 7, 2) := by decide +kernel
theorem dX12_account_119 : decode cX12_account 119 = .ok (.iinc 6 1, 3) := by decide +kernel
theorem dX12_account_122 : decode cX12_account 122 = .ok (.iinc 8 1, 3) := by decide +kernel
theorem dX12_account_125 : decode cX12_account 125 = .ok (.goto (-87), 3) := by decide +kernel
theorem dX12_account_128 : decode cX12_account 128 = .ok (.iload_n 3, 1) := by decide +kernel
theorem dX12_account_129 : decode cX12_account 129 = .ok (.ifCond .ne 8, 3) := by decide +kernel
theorem dX12_account_132 : decode cX12_account 132 = .ok (.iload 4, 2) := by decide +kernel
theorem dX12_account_134 : decode cX12_account 134 = .ok (.goto 25, 3) := by decide +kernel
theorem dX12_account_137 : decode cX12_account 137 = .ok (.iload_n 3, 1) := by decide +kernel
theorem dX12_account_138 : decode cX12_account 138 = .ok (.iconst 1, 1) := by decide +kernel
theorem dX12_account_139 : decode cX12_account 139 = .ok (.if_icmp .ne 8, 3) := by decide +kernel
theorem dX12_account_142 : decode cX12_account 142 = .ok (.iload 5, 2) := by decide +kernel
theorem dX12_account_144 : decode cX12_account 144 = .ok (.goto 15, 3) := by decide +kernel
theorem dX12_account_147 : decode cX12_account 147 = .ok (.iload_n 3, 1) := by decide +kernel
theorem dX12_account_148 : decode cX12_account 148 = .ok (.iconst 2, 1) := by decide +kernel
theorem dX12_account_149 : decode cX12_account 149 = .ok (.if_icmp .ne 8, 3) := by decide +kernel
theorem dX12_account_152 : decode cX12_account 152 = .ok (.iload 6, 2) := by decide +kernel
theorem dX12_account_154 : decode cX12_account 154 = .ok (.goto 5, 3) := by decide +kernel
theorem dX12_account_157 : decode cX12_account 157 = .ok (.iload 7, 2) := by decide +kernel
theorem dX12_account_159 : decode cX12_account 159 = .ok (.ireturn, 1) := by decide +kernel
theorem bX12_account_0 {d : Nat} {h0 hE h : ea_H} {rv : Option ea_V} {r0 : Option Nat} {x1 : Int32} {x2 : Int32} {x3 : Int32} (H : ∃ a7, r0 = some a7 ∧ a7 < ea_n h ∧ ea_c h a7 = 12 ∧ ∃ (d1 : Nat) (xc9 : Int32) (h2 : ea_H), ea_Met mX12_isTown d1 [vR (some a7), vI x1] h (some (vI xc9)) h2 ∧ d1 + 1 ≤ d ∧ (xc9 = (0 : Int32) → rv = some (vI (-1)) ∧ hE = h2) ∧ (¬ xc9 = (0 : Int32) → a7 < ea_n h2 ∧ ea_c h2 a7 = 12 ∧ ∃ (d10 : Nat) (xc16 : Int32) (h11 : ea_H), ea_Met mX12_isTown d10 [vR (some a7), vI x2] h2 (some (vI xc16)) h11 ∧ d10 + 1 ≤ d ∧ (xc16 = (0 : Int32) → rv = some (vI (-1)) ∧ hE = h11) ∧ (¬ xc16 = (0 : Int32) → (¬ x1 = x2 → ea_W mX12_account d h0 rv hE 38 [(0, vR r0), (1, vI x1), (2, vI x2), (3, vI x3), (4, vI 0), (5, vI 0), (6, vI 0), (7, vI (-1)), (8, vI 0)] [] h11) ∧ (x1 = x2 → rv = some (vI (-1)) ∧ hE = h11)))) : ea_W mX12_account d h0 rv hE 0 [(0, vR r0), (1, vI x1), (2, vI x2), (3, vI x3)] [] h := by
  refine ea_aload_n (pc := 0) dX12_account_0 rfl 0 rfl ?_
  refine ea_iload_n (pc := 1) dX12_account_1 rfl 1 rfl ?_
  obtain ⟨a7, e8, f5, g6, H⟩ := H
  refine ea_deref1 e8 ?_
  obtain ⟨d1, xc9, h2, m3, q4, H⟩ := H
  refine ea_callV (pc := 2) (As := [vI x1]) (st := []) dX12_account_2 kX12_isTown m3 q4 rfl (Nat.le_of_ble_eq_true rfl) ew_1708 ew_1710 ew_47 (ci := 12) rfl (by decide) f5 g6 ?_
  refine ea_if_eq (pc := 5) (tgt := 21) dX12_account_5 rfl (fun c19 => ?_) (fun c19 => ?_)
  · have H := H.1 c19
    refine ea_iconst (pc := 21) dX12_account_21 (v := (-1)) rfl ?_
    obtain ⟨rfl, rfl⟩ := H
    exact ea_ireturn (pc := 22) dX12_account_22 rfl rfl
  · have H := H.2 c19
    refine ea_aload_n (pc := 8) dX12_account_8 rfl 0 rfl ?_
    refine ea_iload_n (pc := 9) dX12_account_9 rfl 2 rfl ?_
    obtain ⟨f14, g15, H⟩ := H
    refine ea_deref1 e8 ?_
    obtain ⟨d10, xc16, h11, m12, q13, H⟩ := H
    refine ea_callV (pc := 10) (As := [vI x2]) (st := []) dX12_account_10 kX12_isTown m12 q13 rfl (Nat.le_of_ble_eq_true rfl) ew_1708 ew_1710 ew_47 (ci := 12) rfl (by decide) f14 g15 ?_
    refine ea_if_eq (pc := 13) (tgt := 21) dX12_account_13 rfl (fun c18 => ?_) (fun c18 => ?_)
    · have H := H.1 c18
      refine ea_iconst (pc := 21) dX12_account_21 (v := (-1)) rfl ?_
      obtain ⟨rfl, rfl⟩ := H
      exact ea_ireturn (pc := 22) dX12_account_22 rfl rfl
    · have H := H.2 c18
      refine ea_iload_n (pc := 16) dX12_account_16 rfl 1 rfl ?_
      refine ea_iload_n (pc := 17) dX12_account_17 rfl 2 rfl ?_
      refine ea_icmp_ne (pc := 18) (tgt := 23) dX12_account_18 rfl (fun c17 => ?_) (fun c17 => ?_)
      · have H := H.1 c17
        refine ea_iconst (pc := 23) dX12_account_23 (v := 0) rfl ?_
        refine ea_istore (pc := 24) (lv' := [(0, vR r0), (1, vI x1), (2, vI x2), (3, vI x3), (4, vI 0)]) dX12_account_24 (Nat.le_of_ble_eq_true rfl) [1, 2, 3, 4, 0] rfl ?_
        refine ea_iconst (pc := 26) dX12_account_26 (v := 0) rfl ?_
        refine ea_istore (pc := 27) (lv' := [(0, vR r0), (1, vI x1), (2, vI x2), (3, vI x3), (4, vI 0), (5, vI 0)]) dX12_account_27 (Nat.le_of_ble_eq_true rfl) [1, 2, 3, 4, 5, 0] rfl ?_
        refine ea_iconst (pc := 29) dX12_account_29 (v := 0) rfl ?_
        refine ea_istore (pc := 30) (lv' := [(0, vR r0), (1, vI x1), (2, vI x2), (3, vI x3), (4, vI 0), (5, vI 0), (6, vI 0)]) dX12_account_30 (Nat.le_of_ble_eq_true rfl) [1, 2, 3, 4, 5, 6, 0] rfl ?_
        refine ea_iconst (pc := 32) dX12_account_32 (v := (-1)) rfl ?_
        refine ea_istore (pc := 33) (lv' := [(0, vR r0), (1, vI x1), (2, vI x2), (3, vI x3), (4, vI 0), (5, vI 0), (6, vI 0), (7, vI (-1))]) dX12_account_33 (Nat.le_of_ble_eq_true rfl) [1, 2, 3, 4, 5, 6, 7, 0] rfl ?_
        refine ea_iconst (pc := 35) dX12_account_35 (v := 0) rfl ?_
        refine ea_istore (pc := 36) (lv' := [(0, vR r0), (1, vI x1), (2, vI x2), (3, vI x3), (4, vI 0), (5, vI 0), (6, vI 0), (7, vI (-1)), (8, vI 0)]) dX12_account_36 (Nat.le_of_ble_eq_true rfl) [1, 2, 3, 4, 5, 6, 7, 8, 0] rfl ?_
        exact H
      · have H := H.2 c17
        refine ea_iconst (pc := 21) dX12_account_21 (v := (-1)) rfl ?_
        obtain ⟨rfl, rfl⟩ := H
        exact ea_ireturn (pc := 22) dX12_account_22 rfl rfl
theorem bX12_account_38 {d : Nat} {h0 hE h : ea_H} {rv : Option ea_V} {r0 : Option Nat} {x1 : Int32} {x2 : Int32} {x3 : Int32} {x4 : Int32} {x5 : Int32} {x6 : Int32} {x7 : Int32} {x8 : Int32} (H : ∃ a3, r0 = some a3 ∧ a3 < ea_n h ∧ ea_c h a3 = 12 ∧ ((ea_i h a3 63) ≤ x8 → (¬ x3 = (0 : Int32) → (¬ x3 = (1 : Int32) → (¬ x3 = (2 : Int32) → rv = some (vI x7) ∧ hE = h) ∧ (x3 = (2 : Int32) → rv = some (vI x6) ∧ hE = h)) ∧ (x3 = (1 : Int32) → rv = some (vI x5) ∧ hE = h)) ∧ (x3 = (0 : Int32) → rv = some (vI x4) ∧ hE = h)) ∧ (¬ (ea_i h a3 63) ≤ x8 → a3 < ea_n h ∧ ea_c h a3 = 12 ∧ ∃ (d8 : Nat) (xc14 : Int32) (h9 : ea_H), ea_Met mX12_isOf d8 [vR (some a3), vI x8, vI x1, vI x2] h (some (vI xc14)) h9 ∧ d8 + 1 ≤ d ∧ (¬ xc14 = (0 : Int32) → a3 < ea_n h9 ∧ ea_c h9 a3 = 12 ∧ ∃ (d15 : Nat) (xc21 : Int32) (h16 : ea_H), ea_Met mX12_owed d15 [vR (some a3), vI x8] h9 (some (vI xc21)) h16 ∧ d15 + 1 ≤ d ∧ a3 < ea_n h16 ∧ ea_c h16 a3 = 12 ∧ ∃ a26, (ea_r h16 a3 81) = some a26 ∧ a26 < ea_n h16 ∧ ea_c h16 a26 = 20 ∧ vp_in x8 (ea_l h16 a26) ∧ (¬ (ea_i h16 a26 (Int32.toNatClampNeg x8)) = (2 : Int32) → a3 < ea_n h16 ∧ ea_c h16 a3 = 12 ∧ ∃ (d29 : Nat) (xc35 : Int32) (h30 : ea_H), ea_Met mX12_owed d29 [vR (some a3), vI x8] h16 (some (vI xc35)) h30 ∧ d29 + 1 ≤ d ∧ (xc35 ≤ (0 : Int32) → ea_W mX12_account d h0 rv hE 38 [(0, vR r0), (1, vI x1), (2, vI x2), (3, vI x3), (4, vI (x4 + xc21)), (5, vI x5), (6, vI x6), (7, vI x7), (8, vI (x8 + 1))] [] h30) ∧ (¬ xc35 ≤ (0 : Int32) → (¬ x6 = (x3 - (10 : Int32)) → ea_W mX12_account d h0 rv hE 38 [(0, vR r0), (1, vI x1), (2, vI x2), (3, vI x3), (4, vI (x4 + xc21)), (5, vI x5), (6, vI (x6 + 1)), (7, vI x7), (8, vI (x8 + 1))] [] h30) ∧ (x6 = (x3 - (10 : Int32)) → ea_W mX12_account d h0 rv hE 38 [(0, vR r0), (1, vI x1), (2, vI x2), (3, vI x3), (4, vI (x4 + xc21)), (5, vI x5), (6, vI (x6 + 1)), (7, vI x8), (8, vI (x8 + 1))] [] h30))) ∧ ((ea_i h16 a26 (Int32.toNatClampNeg x8)) = (2 : Int32) → a3 < ea_n h16 ∧ ea_c h16 a3 = 12 ∧ ∃ (d38 : Nat) (xc44 : Int32) (h39 : ea_H), ea_Met mX12_owed d38 [vR (some a3), vI x8] h16 (some (vI xc44)) h39 ∧ d38 + 1 ≤ d ∧ ea_W mX12_account d h0 rv hE 38 [(0, vR r0), (1, vI x1), (2, vI x2), (3, vI x3), (4, vI (x4 + xc21)), (5, vI (x5 + xc44)), (6, vI x6), (7, vI x7), (8, vI (x8 + 1))] [] h39)) ∧ (xc14 = (0 : Int32) → ea_W mX12_account d h0 rv hE 38 [(0, vR r0), (1, vI x1), (2, vI x2), (3, vI x3), (4, vI x4), (5, vI x5), (6, vI x6), (7, vI x7), (8, vI (x8 + 1))] [] h9))) : ea_W mX12_account d h0 rv hE 38 [(0, vR r0), (1, vI x1), (2, vI x2), (3, vI x3), (4, vI x4), (5, vI x5), (6, vI x6), (7, vI x7), (8, vI x8)] [] h := by
  refine ea_iload (pc := 38) dX12_account_38 8 rfl ?_
  refine ea_aload_n (pc := 40) dX12_account_40 rfl 0 rfl ?_
  obtain ⟨a3, e4, f1, g2, H⟩ := H
  refine ea_deref0 e4 ?_
  refine ea_getI (pc := 41) dX12_account_41 ec_12 (k := 63) (Nat.le_of_ble_eq_true rfl) rfl (Or.inl ew_1408) f1 g2 ?_
  refine ea_icmp_ge (pc := 44) (tgt := 128) dX12_account_44 rfl (fun c47 => ?_) (fun c47 => ?_)
  · have H := H.1 c47
    refine ea_iload_n (pc := 128) dX12_account_128 rfl 3 rfl ?_
    refine ea_if_ne (pc := 129) (tgt := 137) dX12_account_129 rfl (fun c7 => ?_) (fun c7 => ?_)
    · have H := H.1 c7
      refine ea_iload_n (pc := 137) dX12_account_137 rfl 3 rfl ?_
      refine ea_iconst (pc := 138) dX12_account_138 (v := 1) rfl ?_
      refine ea_icmp_ne (pc := 139) (tgt := 147) dX12_account_139 rfl (fun c6 => ?_) (fun c6 => ?_)
      · have H := H.1 c6
        refine ea_iload_n (pc := 147) dX12_account_147 rfl 3 rfl ?_
        refine ea_iconst (pc := 148) dX12_account_148 (v := 2) rfl ?_
        refine ea_icmp_ne (pc := 149) (tgt := 157) dX12_account_149 rfl (fun c5 => ?_) (fun c5 => ?_)
        · have H := H.1 c5
          refine ea_iload (pc := 157) dX12_account_157 7 rfl ?_
          obtain ⟨rfl, rfl⟩ := H
          exact ea_ireturn (pc := 159) dX12_account_159 rfl rfl
        · have H := H.2 c5
          refine ea_iload (pc := 152) dX12_account_152 6 rfl ?_
          refine ea_goto (pc := 154) (tgt := 159) dX12_account_154 rfl ?_
          obtain ⟨rfl, rfl⟩ := H
          exact ea_ireturn (pc := 159) dX12_account_159 rfl rfl
      · have H := H.2 c6
        refine ea_iload (pc := 142) dX12_account_142 5 rfl ?_
        refine ea_goto (pc := 144) (tgt := 159) dX12_account_144 rfl ?_
        obtain ⟨rfl, rfl⟩ := H
        exact ea_ireturn (pc := 159) dX12_account_159 rfl rfl
    · have H := H.2 c7
      refine ea_iload (pc := 132) dX12_account_132 4 rfl ?_
      refine ea_goto (pc := 134) (tgt := 159) dX12_account_134 rfl ?_
      obtain ⟨rfl, rfl⟩ := H
      exact ea_ireturn (pc := 159) dX12_account_159 rfl rfl
  · have H := H.2 c47
    refine ea_aload_n (pc := 47) dX12_account_47 rfl 0 rfl ?_
    refine ea_iload (pc := 48) dX12_account_48 8 rfl ?_
    refine ea_iload_n (pc := 50) dX12_account_50 rfl 1 rfl ?_
    refine ea_iload_n (pc := 51) dX12_account_51 rfl 2 rfl ?_
    obtain ⟨f12, g13, H⟩ := H
    refine ea_deref3 e4 ?_
    obtain ⟨d8, xc14, h9, m10, q11, H⟩ := H
    refine ea_callV (pc := 52) (As := [vI x8, vI x1, vI x2]) (st := []) dX12_account_52 kX12_isOf m10 q11 rfl (Nat.le_of_ble_eq_true rfl) ew_2102 ew_2104 ew_100 (ci := 12) rfl (by decide) f12 g13 ?_
    refine ea_if_ne (pc := 55) (tgt := 61) dX12_account_55 rfl (fun c46 => ?_) (fun c46 => ?_)
    · have H := H.1 c46
      refine ea_iload (pc := 61) dX12_account_61 4 rfl ?_
      refine ea_aload_n (pc := 63) dX12_account_63 rfl 0 rfl ?_
      refine ea_iload (pc := 64) dX12_account_64 8 rfl ?_
      obtain ⟨f19, g20, H⟩ := H
      refine ea_deref1 e4 ?_
      obtain ⟨d15, xc21, h16, m17, q18, H⟩ := H
      refine ea_callV (pc := 66) (As := [vI x8]) (st := [vI x4]) dX12_account_66 kX12_owed m17 q18 rfl (Nat.le_of_ble_eq_true rfl) ew_2027 ew_2029 ew_90 (ci := 12) rfl (by decide) f19 g20 ?_
      refine ea_iadd (pc := 69) dX12_account_69 ?_
      refine ea_istore (pc := 70) (lv' := [(0, vR r0), (1, vI x1), (2, vI x2), (3, vI x3), (4, vI (x4 + xc21)), (5, vI x5), (6, vI x6), (7, vI x7), (8, vI x8)]) dX12_account_70 (Nat.le_of_ble_eq_true rfl) [1, 2, 3, 4, 0, 5, 6, 7, 8] rfl ?_
      refine ea_aload_n (pc := 72) dX12_account_72 rfl 0 rfl ?_
      obtain ⟨f22, g23, H⟩ := H
      refine ea_deref0 e4 ?_
      refine ea_getR (pc := 73) dX12_account_73 ec_12 (k := 81) (Nat.le_of_ble_eq_true rfl) rfl (Or.inl ew_1426) f22 g23 rfl ?_
      refine ea_iload (pc := 76) dX12_account_76 8 rfl ?_
      obtain ⟨a26, e27, f24, g25, H⟩ := H
      refine ea_deref1 e27 ?_
      obtain ⟨z28, H⟩ := H
      refine ea_iald (pc := 78) dX12_account_78 f24 g25 z28 ?_
      refine ea_iconst (pc := 79) dX12_account_79 (v := 2) rfl ?_
      refine ea_icmp_ne (pc := 80) (tgt := 97) dX12_account_80 rfl (fun c45 => ?_) (fun c45 => ?_)
      · have H := H.1 c45
        refine ea_aload_n (pc := 97) dX12_account_97 rfl 0 rfl ?_
        refine ea_iload (pc := 98) dX12_account_98 8 rfl ?_
        obtain ⟨f33, g34, H⟩ := H
        refine ea_deref1 e4 ?_
        obtain ⟨d29, xc35, h30, m31, q32, H⟩ := H
        refine ea_callV (pc := 100) (As := [vI x8]) (st := []) dX12_account_100 kX12_owed m31 q32 rfl (Nat.le_of_ble_eq_true rfl) ew_2027 ew_2029 ew_90 (ci := 12) rfl (by decide) f33 g34 ?_
        refine ea_if_le (pc := 103) (tgt := 122) dX12_account_103 rfl (fun c37 => ?_) (fun c37 => ?_)
        · have H := H.1 c37
          refine ea_iinc (pc := 122) (v := 1) (lv' := [(0, vR r0), (1, vI x1), (2, vI x2), (3, vI x3), (4, vI (x4 + xc21)), (5, vI x5), (6, vI x6), (7, vI x7), (8, vI (x8 + 1))]) dX12_account_122 8 rfl rfl (Nat.le_of_ble_eq_true rfl) [1, 2, 3, 4, 5, 6, 7, 8, 0] rfl ?_
          refine ea_goto (pc := 125) (tgt := 38) dX12_account_125 rfl ?_
          exact H
        · have H := H.2 c37
          refine ea_iload (pc := 106) dX12_account_106 6 rfl ?_
          refine ea_iload_n (pc := 108) dX12_account_108 rfl 3 rfl ?_
          refine ea_bipush (pc := 109) dX12_account_109 (v := 10) rfl ?_
          refine ea_isub (pc := 111) dX12_account_111 ?_
          refine ea_icmp_ne (pc := 112) (tgt := 119) dX12_account_112 rfl (fun c36 => ?_) (fun c36 => ?_)
          · have H := H.1 c36
            refine ea_iinc (pc := 119) (v := 1) (lv' := [(0, vR r0), (1, vI x1), (2, vI x2), (3, vI x3), (4, vI (x4 + xc21)), (5, vI x5), (6, vI (x6 + 1)), (7, vI x7), (8, vI x8)]) dX12_account_119 6 rfl rfl (Nat.le_of_ble_eq_true rfl) [1, 2, 3, 4, 5, 6, 0, 7, 8] rfl ?_
            refine ea_iinc (pc := 122) (v := 1) (lv' := [(0, vR r0), (1, vI x1), (2, vI x2), (3, vI x3), (4, vI (x4 + xc21)), (5, vI x5), (6, vI (x6 + 1)), (7, vI x7), (8, vI (x8 + 1))]) dX12_account_122 8 rfl rfl (Nat.le_of_ble_eq_true rfl) [1, 2, 3, 4, 5, 6, 7, 8, 0] rfl ?_
            refine ea_goto (pc := 125) (tgt := 38) dX12_account_125 rfl ?_
            exact H
          · have H := H.2 c36
            refine ea_iload (pc := 115) dX12_account_115 8 rfl ?_
            refine ea_istore (pc := 117) (lv' := [(0, vR r0), (1, vI x1), (2, vI x2), (3, vI x3), (4, vI (x4 + xc21)), (5, vI x5), (6, vI x6), (7, vI x8), (8, vI x8)]) dX12_account_117 (Nat.le_of_ble_eq_true rfl) [1, 2, 3, 4, 5, 6, 7, 0, 8] rfl ?_
            refine ea_iinc (pc := 119) (v := 1) (lv' := [(0, vR r0), (1, vI x1), (2, vI x2), (3, vI x3), (4, vI (x4 + xc21)), (5, vI x5), (6, vI (x6 + 1)), (7, vI x8), (8, vI x8)]) dX12_account_119 6 rfl rfl (Nat.le_of_ble_eq_true rfl) [1, 2, 3, 4, 5, 6, 0, 7, 8] rfl ?_
            refine ea_iinc (pc := 122) (v := 1) (lv' := [(0, vR r0), (1, vI x1), (2, vI x2), (3, vI x3), (4, vI (x4 + xc21)), (5, vI x5), (6, vI (x6 + 1)), (7, vI x8), (8, vI (x8 + 1))]) dX12_account_122 8 rfl rfl (Nat.le_of_ble_eq_true rfl) [1, 2, 3, 4, 5, 6, 7, 8, 0] rfl ?_
            refine ea_goto (pc := 125) (tgt := 38) dX12_account_125 rfl ?_
            exact H
      · have H := H.2 c45
        refine ea_iload (pc := 83) dX12_account_83 5 rfl ?_
        refine ea_aload_n (pc := 85) dX12_account_85 rfl 0 rfl ?_
        refine ea_iload (pc := 86) dX12_account_86 8 rfl ?_
        obtain ⟨f42, g43, H⟩ := H
        refine ea_deref1 e4 ?_
        obtain ⟨d38, xc44, h39, m40, q41, H⟩ := H
        refine ea_callV (pc := 88) (As := [vI x8]) (st := [vI x5]) dX12_account_88 kX12_owed m40 q41 rfl (Nat.le_of_ble_eq_true rfl) ew_2027 ew_2029 ew_90 (ci := 12) rfl (by decide) f42 g43 ?_
        refine ea_iadd (pc := 91) dX12_account_91 ?_
        refine ea_istore (pc := 92) (lv' := [(0, vR r0), (1, vI x1), (2, vI x2), (3, vI x3), (4, vI (x4 + xc21)), (5, vI (x5 + xc44)), (6, vI x6), (7, vI x7), (8, vI x8)]) dX12_account_92 (Nat.le_of_ble_eq_true rfl) [1, 2, 3, 4, 5, 0, 6, 7, 8] rfl ?_
        refine ea_goto (pc := 94) (tgt := 122) dX12_account_94 rfl ?_
        refine ea_iinc (pc := 122) (v := 1) (lv' := [(0, vR r0), (1, vI x1), (2, vI x2), (3, vI x3), (4, vI (x4 + xc21)), (5, vI (x5 + xc44)), (6, vI x6), (7, vI x7), (8, vI (x8 + 1))]) dX12_account_122 8 rfl rfl (Nat.le_of_ble_eq_true rfl) [1, 2, 3, 4, 5, 6, 7, 8, 0] rfl ?_
        refine ea_goto (pc := 125) (tgt := 38) dX12_account_125 rfl ?_
        exact H
    · have H := H.2 c46
      refine ea_goto (pc := 58) (tgt := 122) dX12_account_58 rfl ?_
      refine ea_iinc (pc := 122) (v := 1) (lv' := [(0, vR r0), (1, vI x1), (2, vI x2), (3, vI x3), (4, vI x4), (5, vI x5), (6, vI x6), (7, vI x7), (8, vI (x8 + 1))]) dX12_account_122 8 rfl rfl (Nat.le_of_ble_eq_true rfl) [1, 2, 3, 4, 5, 6, 7, 8, 0] rfl ?_
      refine ea_goto (pc := 125) (tgt := 38) dX12_account_125 rfl ?_
      exact H
theorem dX12_nobody_0 : decode cX12_nobody 0 = .ok (.aload_n 0, 1) := by decide +kernel
theorem dX12_nobody_1 : decode cX12_nobody 1 = .ok (.iload_n 1, 1) := by decide +kernel
theorem dX12_nobody_2 : decode cX12_nobody 2 = .ok (.invokevirtual 563, 3) := by decide +kernel
theorem dX12_nobody_5 : decode cX12_nobody 5 = .ok (.ifCond .eq 22, 3) := by decide +kernel
theorem dX12_nobody_8 : decode cX12_nobody 8 = .ok (.aload_n 0, 1) := by decide +kernel
theorem dX12_nobody_9 : decode cX12_nobody 9 = .ok (.getfield 174, 3) := by decide +kernel
theorem dX12_nobody_12 : decode cX12_nobody 12 = .ok (.iload_n 1, 1) := by decide +kernel
theorem dX12_nobody_13 : decode cX12_nobody 13 = .ok (.baload, 1) := by decide +kernel
theorem dX12_nobody_14 : decode cX12_nobody 14 = .ok (.ifCond .ne 13, 3) := by decide +kernel
theorem dX12_nobody_17 : decode cX12_nobody 17 = .ok (.aload_n 0, 1) := by decide +kernel
theorem dX12_nobody_18 : decode cX12_nobody 18 = .ok (.getfield 177, 3) := by decide +kernel
theorem dX12_nobody_21 : decode cX12_nobody 21 = .ok (.iload_n 1, 1) := by decide +kernel
theorem dX12_nobody_22 : decode cX12_nobody 22 = .ok (.iaload, 1) := by decide +kernel
theorem dX12_nobody_23 : decode cX12_nobody 23 = .ok (.iconst 1, 1) := by decide +kernel
theorem dX12_nobody_24 : decode cX12_nobody 24 = .ok (.if_icmp .le 5, 3) := by decide +kernel
theorem dX12_nobody_27 : decode cX12_nobody 27 = .ok (.iconst 0, 1) := by decide +kernel
theorem dX12_nobody_28 : decode cX12_nobody 28 = .ok (.ireturn, 1) := by decide +kernel
theorem dX12_nobody_29 : decode cX12_nobody 29 = .ok (.aload_n 0, 1) := by decide +kernel
theorem dX12_nobody_30 : decode cX12_nobody 30 = .ok (.getfield 174, 3) := by decide +kernel
theorem dX12_nobody_33 : decode cX12_nobody 33 = .ok (.iload_n 1, 1) := by decide +kernel
theorem dX12_nobody_34 : decode cX12_nobody 34 = .ok (.iconst 1, 1) := by decide +kernel
theorem dX12_nobody_35 : decode cX12_nobody 35 = .ok (.bastore, 1) := by decide +kernel
theorem dX12_nobody_36 : decode cX12_nobody 36 = .ok (.iconst 1, 1) := by decide +kernel
theorem dX12_nobody_37 : decode cX12_nobody 37 = .ok (.ireturn, 1) := by decide +kernel
theorem bX12_nobody_0 {d : Nat} {h0 hE h : ea_H} {rv : Option ea_V} {r0 : Option Nat} {x1 : Int32} (H : ∃ a7, r0 = some a7 ∧ a7 < ea_n h ∧ ea_c h a7 = 12 ∧ ∃ (d1 : Nat) (xc9 : Int32) (h2 : ea_H), ea_Met mX12_isLetterOf d1 [vR (some a7), vI x1] h (some (vI xc9)) h2 ∧ d1 + 1 ≤ d ∧ (xc9 = (0 : Int32) → rv = some (vI 0) ∧ hE = h2) ∧ (¬ xc9 = (0 : Int32) → a7 < ea_n h2 ∧ ea_c h2 a7 = 12 ∧ ∃ a14, (ea_r h2 a7 80) = some a14 ∧ a14 < ea_n h2 ∧ ea_c h2 a14 = 21 ∧ vp_in x1 (ea_l h2 a14) ∧ (¬ (ea_i h2 a14 (Int32.toNatClampNeg x1)) = (0 : Int32) → rv = some (vI 0) ∧ hE = h2) ∧ ((ea_i h2 a14 (Int32.toNatClampNeg x1)) = (0 : Int32) → a7 < ea_n h2 ∧ ea_c h2 a7 = 12 ∧ ∃ a21, (ea_r h2 a7 81) = some a21 ∧ a21 < ea_n h2 ∧ ea_c h2 a21 = 20 ∧ vp_in x1 (ea_l h2 a21) ∧ ((ea_i h2 a21 (Int32.toNatClampNeg x1)) ≤ (1 : Int32) → a7 < ea_n h2 ∧ ea_c h2 a7 = 12 ∧ a14 < ea_n h2 ∧ ea_c h2 a14 = 21 ∧ vp_in x1 (ea_l h2 a14) ∧ ∀ h29, h29 = ea_wi h2 a14 (Int32.toNatClampNeg x1) 1 → rv = some (vI 1) ∧ hE = h29) ∧ (¬ (ea_i h2 a21 (Int32.toNatClampNeg x1)) ≤ (1 : Int32) → rv = some (vI 0) ∧ hE = h2)))) : ea_W mX12_nobody d h0 rv hE 0 [(0, vR r0), (1, vI x1)] [] h := by
  refine ea_aload_n (pc := 0) dX12_nobody_0 rfl 0 rfl ?_
  refine ea_iload_n (pc := 1) dX12_nobody_1 rfl 1 rfl ?_
  obtain ⟨a7, e8, f5, g6, H⟩ := H
  refine ea_deref1 e8 ?_
  obtain ⟨d1, xc9, h2, m3, q4, H⟩ := H
  refine ea_callV (pc := 2) (As := [vI x1]) (st := []) dX12_nobody_2 kX12_isLetterOf m3 q4 rfl (Nat.le_of_ble_eq_true rfl) ew_2019 ew_2021 ew_89 (ci := 12) rfl (by decide) f5 g6 ?_
  refine ea_if_eq (pc := 5) (tgt := 27) dX12_nobody_5 rfl (fun c33 => ?_) (fun c33 => ?_)
  · have H := H.1 c33
    refine ea_iconst (pc := 27) dX12_nobody_27 (v := 0) rfl ?_
    obtain ⟨rfl, rfl⟩ := H
    exact ea_ireturn (pc := 28) dX12_nobody_28 rfl (ea_bn (Or.inl rfl))
  · have H := H.2 c33
    refine ea_aload_n (pc := 8) dX12_nobody_8 rfl 0 rfl ?_
    obtain ⟨f10, g11, H⟩ := H
    refine ea_deref0 e8 ?_
    refine ea_getR (pc := 9) dX12_nobody_9 ec_12 (k := 80) (Nat.le_of_ble_eq_true rfl) rfl (Or.inl ew_1425) f10 g11 rfl ?_
    refine ea_iload_n (pc := 12) dX12_nobody_12 rfl 1 rfl ?_
    obtain ⟨a14, e15, f12, g13, H⟩ := H
    refine ea_deref1 e15 ?_
    obtain ⟨z16, H⟩ := H
    refine ea_zald (pc := 13) dX12_nobody_13 f12 g13 z16 ?_
    refine ea_if_ne (pc := 14) (tgt := 27) dX12_nobody_14 rfl (fun c32 => ?_) (fun c32 => ?_)
    · have H := H.1 c32
      refine ea_iconst (pc := 27) dX12_nobody_27 (v := 0) rfl ?_
      obtain ⟨rfl, rfl⟩ := H
      exact ea_ireturn (pc := 28) dX12_nobody_28 rfl (ea_bn (Or.inl rfl))
    · have H := H.2 c32
      refine ea_aload_n (pc := 17) dX12_nobody_17 rfl 0 rfl ?_
      obtain ⟨f17, g18, H⟩ := H
      refine ea_deref0 e8 ?_
      refine ea_getR (pc := 18) dX12_nobody_18 ec_12 (k := 81) (Nat.le_of_ble_eq_true rfl) rfl (Or.inl ew_1426) f17 g18 rfl ?_
      refine ea_iload_n (pc := 21) dX12_nobody_21 rfl 1 rfl ?_
      obtain ⟨a21, e22, f19, g20, H⟩ := H
      refine ea_deref1 e22 ?_
      obtain ⟨z23, H⟩ := H
      refine ea_iald (pc := 22) dX12_nobody_22 f19 g20 z23 ?_
      refine ea_iconst (pc := 23) dX12_nobody_23 (v := 1) rfl ?_
      refine ea_icmp_le (pc := 24) (tgt := 29) dX12_nobody_24 rfl (fun c31 => ?_) (fun c31 => ?_)
      · have H := H.1 c31
        refine ea_aload_n (pc := 29) dX12_nobody_29 rfl 0 rfl ?_
        obtain ⟨f24, g25, H⟩ := H
        refine ea_deref0 e8 ?_
        refine ea_getR (pc := 30) dX12_nobody_30 ec_12 (k := 80) (Nat.le_of_ble_eq_true rfl) rfl (Or.inl ew_1425) f24 g25 rfl ?_
        refine ea_iload_n (pc := 33) dX12_nobody_33 rfl 1 rfl ?_
        refine ea_iconst (pc := 34) dX12_nobody_34 (v := 1) rfl ?_
        obtain ⟨f26, g27, H⟩ := H
        refine ea_deref2 e15 ?_
        obtain ⟨z28, H⟩ := H
        refine ea_zast (pc := 35) dX12_nobody_35 (y := 1) (ea_bn (Or.inr rfl)) f26 g27 z28 ?_
        obtain ⟨h29, E30⟩ : ∃ z, z = ea_wi h2 a14 (Int32.toNatClampNeg x1) 1 := ⟨_, rfl⟩
        have H := H h29 E30
        refine ea_nm E30 ?_
        refine ea_iconst (pc := 36) dX12_nobody_36 (v := 1) rfl ?_
        obtain ⟨rfl, rfl⟩ := H
        exact ea_ireturn (pc := 37) dX12_nobody_37 rfl (ea_bn (Or.inr rfl))
      · have H := H.2 c31
        refine ea_iconst (pc := 27) dX12_nobody_27 (v := 0) rfl ?_
        obtain ⟨rfl, rfl⟩ := H
        exact ea_ireturn (pc := 28) dX12_nobody_28 rfl (ea_bn (Or.inl rfl))
theorem dX12_place_0 : decode cX12_place 0 = .ok (.aload_n 0, 1) := by decide +kernel
theorem dX12_place_1 : decode cX12_place 1 = .ok (.iload_n 1, 1) := by decide +kernel
theorem dX12_place_2 : decode cX12_place 2 = .ok (.invokevirtual 563, 3) := by decide +kernel
theorem dX12_place_5 : decode cX12_place 5 = .ok (.ifCond .eq 41, 3) := by decide +kernel
theorem dX12_place_8 : decode cX12_place 8 = .ok (.aload_n 0, 1) := by decide +kernel
theorem dX12_place_9 : decode cX12_place 9 = .ok (.getfield 177, 3) := by decide +kernel
theorem dX12_place_12 : decode cX12_place 12 = .ok (.iload_n 1, 1) := by decide +kernel
theorem dX12_place_13 : decode cX12_place 13 = .ok (.iaload, 1) := by decide +kernel
theorem dX12_place_14 : decode cX12_place 14 = .ok (.iconst 3, 1) := by decide +kernel
theorem dX12_place_15 : decode cX12_place 15 = .ok (.if_icmp .ne 31, 3) := by decide +kernel
theorem dX12_place_18 : decode cX12_place 18 = .ok (.aload_n 0, 1) := by decide +kernel
theorem dX12_place_19 : decode cX12_place 19 = .ok (.iload_n 2, 1) := by decide +kernel
theorem dX12_place_20 : decode cX12_place 20 = .ok (.invokevirtual 297, 3) := by decide +kernel
theorem dX12_place_23 : decode cX12_place 23 = .ok (.ifCond .eq 23, 3) := by decide +kernel
theorem dX12_place_26 : decode cX12_place 26 = .ok (.iload_n 2, 1) := by decide +kernel
theorem dX12_place_27 : decode cX12_place 27 = .ok (.aload_n 0, 1) := by decide +kernel
theorem dX12_place_28 : decode cX12_place 28 = .ok (.getfield 132, 3) := by decide +kernel
theorem dX12_place_31 : decode cX12_place 31 = .ok (.iload_n 1, 1) := by decide +kernel
theorem dX12_place_32 : decode cX12_place 32 = .ok (.iaload, 1) := by decide +kernel
theorem dX12_place_33 : decode cX12_place 33 = .ok (.if_icmp .eq 13, 3) := by decide +kernel
theorem dX12_place_36 : decode cX12_place 36 = .ok (.iload_n 3, 1) := by decide +kernel
theorem dX12_place_37 : decode cX12_place 37 = .ok (.iconst 1, 1) := by decide +kernel
theorem dX12_place_38 : decode cX12_place 38 = .ok (.bipush 99, 2) := by decide +kernel
theorem dX12_place_40 : decode cX12_place 40 = .ok (.invokestatic 286, 3) := by decide +kernel
theorem dX12_place_43 : decode cX12_place 43 = .ok (.ifCond .ne 5, 3) := by decide +kernel
theorem dX12_place_46 : decode cX12_place 46 = .ok (.iconst 0, 1) := by decide +kernel
theorem dX12_place_47 : decode cX12_place 47 = .ok (.ireturn, 1) := by decide +kernel
theorem dX12_place_48 : decode cX12_place 48 = .ok (.iconst 0, 1) := by decide +kernel
theorem dX12_place_49 : decode cX12_place 49 = .ok (.istore 4, 2) := by decide +kernel
theorem dX12_place_51 : decode cX12_place 51 = .ok (.iload 4, 2) := by decide +kernel
theorem dX12_place_53 : decode cX12_place 53 = .ok (.aload_n 0, 1) := by decide +kernel
theorem dX12_place_54 : decode cX12_place 54 = .ok (.getfield 223, 3) := by decide +kernel
theorem dX12_place_57 : decode cX12_place 57 = .ok (.iload_n 1, 1) := by decide +kernel
theorem dX12_place_58 : decode cX12_place 58 = .ok (.iaload, 1) := by decide +kernel
theorem dX12_place_59 : decode cX12_place 59 = .ok (.if_icmp .ge 24, 3) := by decide +kernel
theorem dX12_place_62 : decode cX12_place 62 = .ok (.aload_n 0, 1) := by decide +kernel
theorem dX12_place_63 : decode cX12_place 63 = .ok (.getfield 226, 3) := by decide +kernel
theorem dX12_place_66 : decode cX12_place 66 = .ok (.iconst 4, 1) := by decide +kernel
theorem dX12_place_67 : decode cX12_place 67 = .ok (.iload_n 1, 1) := by decide +kernel
theorem dX12_place_68 : decode cX12_place 68 = .ok (.imul, 1) := by decide +kernel
theorem dX12_place_69 : decode cX12_place 69 = .ok (.iload 4, 2) := by decide +kernel
theorem dX12_place_71 : decode cX12_place 71 = .ok (.iadd, 1) := by decide +kernel
theorem dX12_place_72 : decode cX12_place 72 = .ok (.iaload, 1) := by decide +kernel
theorem dX12_place_73 : decode cX12_place 73 = .ok (.iload_n 2, 1) := by decide +kernel
theorem dX12_place_74 : decode cX12_place 74 = .ok (.if_icmp .eq 9, 3) := by decide +kernel
theorem dX12_place_77 : decode cX12_place 77 = .ok (.iinc 4 1, 3) := by decide +kernel
theorem dX12_place_80 : decode cX12_place 80 = .ok (.goto (-29), 3) := by decide +kernel
theorem dX12_place_83 : decode cX12_place 83 = .ok (.iload 4, 2) := by decide +kernel
theorem dX12_place_85 : decode cX12_place 85 = .ok (.iconst 4, 1) := by decide +kernel
theorem dX12_place_86 : decode cX12_place 86 = .ok (.if_icmp .ne 5, 3) := by decide +kernel
theorem dX12_place_89 : decode cX12_place 89 = .ok (.iconst 0, 1) := by decide +kernel
theorem dX12_place_90 : decode cX12_place 90 = .ok (.ireturn, 1) := by decide +kernel
theorem dX12_place_91 : decode cX12_place 91 = .ok (.aload_n 0, 1) := by decide +kernel
theorem dX12_place_92 : decode cX12_place 92 = .ok (.getfield 226, 3) := by decide +kernel
theorem dX12_place_95 : decode cX12_place 95 = .ok (.iconst 4, 1) := by decide +kernel
theorem dX12_place_96 : decode cX12_place 96 = .ok (.iload_n 1, 1) := by decide +kernel
theorem dX12_place_97 : decode cX12_place 97 = .ok (.imul, 1) := by decide +kernel
theorem dX12_place_98 : decode cX12_place 98 = .ok (.iload 4, 2) := by decide +kernel
theorem dX12_place_100 : decode cX12_place 100 = .ok (.iadd, 1) := by decide +kernel
theorem dX12_place_101 : decode cX12_place 101 = .ok (.iload_n 2, 1) := by decide +kernel
theorem dX12_place_102 : decode cX12_place 102 = .ok (.iastore, 1) := by decide +kernel
theorem dX12_place_103 : decode cX12_place 103 = .ok (.aload_n 0, 1) := by decide +kernel
theorem dX12_place_104 : decode cX12_place 104 = .ok (.getfield 229, 3) := by decide +kernel
theorem dX12_place_107 : decode cX12_place 107 = .ok (.iconst 4, 1) := by decide +kernel
theorem dX12_place_108 : decode cX12_place 108 = .ok (.iload_n 1, 1) := by decide +kernel
theorem dX12_place_109 : decode cX12_place 109 = .ok (.imul, 1) := by decide +kernel
theorem dX12_place_110 : decode cX12_place 110 = .ok (.iload 4, 2) := by decide +kernel
theorem dX12_place_112 : decode cX12_place 112 = .ok (.iadd, 1) := by decide +kernel
theorem dX12_place_113 : decode cX12_place 113 = .ok (.iload_n 3, 1) := by decide +kernel
theorem dX12_place_114 : decode cX12_place 114 = .ok (.iastore, 1) := by decide +kernel
theorem dX12_place_115 : decode cX12_place 115 = .ok (.iload 4, 2) := by decide +kernel
theorem dX12_place_117 : decode cX12_place 117 = .ok (.aload_n 0, 1) := by decide +kernel
theorem dX12_place_118 : decode cX12_place 118 = .ok (.getfield 223, 3) := by decide +kernel
theorem dX12_place_121 : decode cX12_place 121 = .ok (.iload_n 1, 1) := by decide +kernel
theorem dX12_place_122 : decode cX12_place 122 = .ok (.iaload, 1) := by decide +kernel
theorem dX12_place_123 : decode cX12_place 123 = .ok (.if_icmp .ne 13, 3) := by decide +kernel
theorem dX12_place_126 : decode cX12_place 126 = .ok (.aload_n 0, 1) := by decide +kernel
theorem dX12_place_127 : decode cX12_place 127 = .ok (.getfield 223, 3) := by decide +kernel
theorem dX12_place_130 : decode cX12_place 130 = .ok (.iload_n 1, 1) := by decide +kernel
theorem dX12_place_131 : decode cX12_place 131 = .ok (.dup2, 1) := by decide +kernel
theorem dX12_place_132 : decode cX12_place 132 = .ok (.iaload, 1) := by decide +kernel
theorem dX12_place_133 : decode cX12_place 133 = .ok (.iconst 1, 1) := by decide +kernel
theorem dX12_place_134 : decode cX12_place 134 = .ok (.iadd, 1) := by decide +kernel
theorem dX12_place_135 : decode cX12_place 135 = .ok (.iastore, 1) := by decide +kernel
theorem dX12_place_136 : decode cX12_place 136 = .ok (.iconst 1, 1) := by decide +kernel
theorem dX12_place_137 : decode cX12_place 137 = .ok (.ireturn, 1) := by decide +kernel
theorem bX12_place_0 {d : Nat} {h0 hE h : ea_H} {rv : Option ea_V} {r0 : Option Nat} {x1 : Int32} {x2 : Int32} {x3 : Int32} (H : ∃ a7, r0 = some a7 ∧ a7 < ea_n h ∧ ea_c h a7 = 12 ∧ ∃ (d1 : Nat) (xc9 : Int32) (h2 : ea_H), ea_Met mX12_isLetterOf d1 [vR (some a7), vI x1] h (some (vI xc9)) h2 ∧ d1 + 1 ≤ d ∧ (xc9 = (0 : Int32) → rv = some (vI 0) ∧ hE = h2) ∧ (¬ xc9 = (0 : Int32) → a7 < ea_n h2 ∧ ea_c h2 a7 = 12 ∧ ∃ a14, (ea_r h2 a7 81) = some a14 ∧ a14 < ea_n h2 ∧ ea_c h2 a14 = 20 ∧ vp_in x1 (ea_l h2 a14) ∧ (¬ (ea_i h2 a14 (Int32.toNatClampNeg x1)) = (3 : Int32) → rv = some (vI 0) ∧ hE = h2) ∧ ((ea_i h2 a14 (Int32.toNatClampNeg x1)) = (3 : Int32) → a7 < ea_n h2 ∧ ea_c h2 a7 = 12 ∧ ∃ (d17 : Nat) (xc23 : Int32) (h18 : ea_H), ea_Met mX12_isTown d17 [vR (some a7), vI x2] h2 (some (vI xc23)) h18 ∧ d17 + 1 ≤ d ∧ (xc23 = (0 : Int32) → rv = some (vI 0) ∧ hE = h18) ∧ (¬ xc23 = (0 : Int32) → a7 < ea_n h18 ∧ ea_c h18 a7 = 12 ∧ ∃ a28, (ea_r h18 a7 66) = some a28 ∧ a28 < ea_n h18 ∧ ea_c h18 a28 = 20 ∧ vp_in x1 (ea_l h18 a28) ∧ (x2 = (ea_i h18 a28 (Int32.toNatClampNeg x1)) → rv = some (vI 0) ∧ hE = h18) ∧ (¬ x2 = (ea_i h18 a28 (Int32.toNatClampNeg x1)) → ∃ (d31 : Nat) (xc35 : Int32) (h32 : ea_H), ea_Met mX12_isIn d31 [vI x3, vI 1, vI 99] h18 (some (vI xc35)) h32 ∧ d31 + 1 ≤ d ∧ (¬ xc35 = (0 : Int32) → ea_W mX12_place d h0 rv hE 51 [(0, vR r0), (1, vI x1), (2, vI x2), (3, vI x3), (4, vI 0)] [] h32) ∧ (xc35 = (0 : Int32) → rv = some (vI 0) ∧ hE = h32)))))) : ea_W mX12_place d h0 rv hE 0 [(0, vR r0), (1, vI x1), (2, vI x2), (3, vI x3)] [] h := by
  refine ea_aload_n (pc := 0) dX12_place_0 rfl 0 rfl ?_
  refine ea_iload_n (pc := 1) dX12_place_1 rfl 1 rfl ?_
  obtain ⟨a7, e8, f5, g6, H⟩ := H
  refine ea_deref1 e8 ?_
  obtain ⟨d1, xc9, h2, m3, q4, H⟩ := H
  refine ea_callV (pc := 2) (As := [vI x1]) (st := []) dX12_place_2 kX12_isLetterOf m3 q4 rfl (Nat.le_of_ble_eq_true rfl) ew_2019 ew_2021 ew_89 (ci := 12) rfl (by decide) f5 g6 ?_
  refine ea_if_eq (pc := 5) (tgt := 46) dX12_place_5 rfl (fun c40 => ?_) (fun c40 => ?_)
  · have H := H.1 c40
    refine ea_iconst (pc := 46) dX12_place_46 (v := 0) rfl ?_
    obtain ⟨rfl, rfl⟩ := H
    exact ea_ireturn (pc := 47) dX12_place_47 rfl (ea_bn (Or.inl rfl))
  · have H := H.2 c40
    refine ea_aload_n (pc := 8) dX12_place_8 rfl 0 rfl ?_
    obtain ⟨f10, g11, H⟩ := H
    refine ea_deref0 e8 ?_
    refine ea_getR (pc := 9) dX12_place_9 ec_12 (k := 81) (Nat.le_of_ble_eq_true rfl) rfl (Or.inl ew_1426) f10 g11 rfl ?_
    refine ea_iload_n (pc := 12) dX12_place_12 rfl 1 rfl ?_
    obtain ⟨a14, e15, f12, g13, H⟩ := H
    refine ea_deref1 e15 ?_
    obtain ⟨z16, H⟩ := H
    refine ea_iald (pc := 13) dX12_place_13 f12 g13 z16 ?_
    refine ea_iconst (pc := 14) dX12_place_14 (v := 3) rfl ?_
    refine ea_icmp_ne (pc := 15) (tgt := 46) dX12_place_15 rfl (fun c39 => ?_) (fun c39 => ?_)
    · have H := H.1 c39
      refine ea_iconst (pc := 46) dX12_place_46 (v := 0) rfl ?_
      obtain ⟨rfl, rfl⟩ := H
      exact ea_ireturn (pc := 47) dX12_place_47 rfl (ea_bn (Or.inl rfl))
    · have H := H.2 c39
      refine ea_aload_n (pc := 18) dX12_place_18 rfl 0 rfl ?_
      refine ea_iload_n (pc := 19) dX12_place_19 rfl 2 rfl ?_
      obtain ⟨f21, g22, H⟩ := H
      refine ea_deref1 e8 ?_
      obtain ⟨d17, xc23, h18, m19, q20, H⟩ := H
      refine ea_callV (pc := 20) (As := [vI x2]) (st := []) dX12_place_20 kX12_isTown m19 q20 rfl (Nat.le_of_ble_eq_true rfl) ew_1708 ew_1710 ew_47 (ci := 12) rfl (by decide) f21 g22 ?_
      refine ea_if_eq (pc := 23) (tgt := 46) dX12_place_23 rfl (fun c38 => ?_) (fun c38 => ?_)
      · have H := H.1 c38
        refine ea_iconst (pc := 46) dX12_place_46 (v := 0) rfl ?_
        obtain ⟨rfl, rfl⟩ := H
        exact ea_ireturn (pc := 47) dX12_place_47 rfl (ea_bn (Or.inl rfl))
      · have H := H.2 c38
        refine ea_iload_n (pc := 26) dX12_place_26 rfl 2 rfl ?_
        refine ea_aload_n (pc := 27) dX12_place_27 rfl 0 rfl ?_
        obtain ⟨f24, g25, H⟩ := H
        refine ea_deref0 e8 ?_
        refine ea_getR (pc := 28) dX12_place_28 ec_12 (k := 66) (Nat.le_of_ble_eq_true rfl) rfl (Or.inl ew_1411) f24 g25 rfl ?_
        refine ea_iload_n (pc := 31) dX12_place_31 rfl 1 rfl ?_
        obtain ⟨a28, e29, f26, g27, H⟩ := H
        refine ea_deref1 e29 ?_
        obtain ⟨z30, H⟩ := H
        refine ea_iald (pc := 32) dX12_place_32 f26 g27 z30 ?_
        refine ea_icmp_eq (pc := 33) (tgt := 46) dX12_place_33 rfl (fun c37 => ?_) (fun c37 => ?_)
        · have H := H.1 c37
          refine ea_iconst (pc := 46) dX12_place_46 (v := 0) rfl ?_
          obtain ⟨rfl, rfl⟩ := H
          exact ea_ireturn (pc := 47) dX12_place_47 rfl (ea_bn (Or.inl rfl))
        · have H := H.2 c37
          refine ea_iload_n (pc := 36) dX12_place_36 rfl 3 rfl ?_
          refine ea_iconst (pc := 37) dX12_place_37 (v := 1) rfl ?_
          refine ea_bipush (pc := 38) dX12_place_38 (v := 99) rfl ?_
          obtain ⟨d31, xc35, h32, m33, q34, H⟩ := H
          refine ea_callS (pc := 40) (As := [vI x3, vI 1, vI 99]) (st := []) dX12_place_40 kX12_isIn m33 q34 rfl (Nat.le_of_ble_eq_true rfl) ew_1712 ew_1713 ?_
          refine ea_if_ne (pc := 43) (tgt := 48) dX12_place_43 rfl (fun c36 => ?_) (fun c36 => ?_)
          · have H := H.1 c36
            refine ea_iconst (pc := 48) dX12_place_48 (v := 0) rfl ?_
            refine ea_istore (pc := 49) (lv' := [(0, vR r0), (1, vI x1), (2, vI x2), (3, vI x3), (4, vI 0)]) dX12_place_49 (Nat.le_of_ble_eq_true rfl) [1, 2, 3, 4, 0] rfl ?_
            exact H
          · have H := H.2 c36
            refine ea_iconst (pc := 46) dX12_place_46 (v := 0) rfl ?_
            obtain ⟨rfl, rfl⟩ := H
            exact ea_ireturn (pc := 47) dX12_place_47 rfl (ea_bn (Or.inl rfl))
theorem bX12_place_51 {d : Nat} {h0 hE h : ea_H} {rv : Option ea_V} {r0 : Option Nat} {x1 : Int32} {x2 : Int32} {x3 : Int32} {x4 : Int32} (H : ∃ a3, r0 = some a3 ∧ a3 < ea_n h ∧ ea_c h a3 = 12 ∧ ∃ a7, (ea_r h a3 97) = some a7 ∧ a7 < ea_n h ∧ ea_c h a7 = 20 ∧ vp_in x1 (ea_l h a7) ∧ ((ea_i h a7 (Int32.toNatClampNeg x1)) ≤ x4 → ea_W mX12_place d h0 rv hE 83 [(0, vR r0), (1, vI x1), (2, vI x2), (3, vI x3), (4, vI x4)] [] h) ∧ (¬ (ea_i h a7 (Int32.toNatClampNeg x1)) ≤ x4 → a3 < ea_n h ∧ ea_c h a3 = 12 ∧ ∃ a14, (ea_r h a3 98) = some a14 ∧ a14 < ea_n h ∧ ea_c h a14 = 20 ∧ vp_in (((4 : Int32) * x1) + x4) (ea_l h a14) ∧ ((ea_i h a14 (Int32.toNatClampNeg (((4 : Int32) * x1) + x4))) = x2 → ea_W mX12_place d h0 rv hE 83 [(0, vR r0), (1, vI x1), (2, vI x2), (3, vI x3), (4, vI x4)] [] h) ∧ (¬ (ea_i h a14 (Int32.toNatClampNeg (((4 : Int32) * x1) + x4))) = x2 → ea_W mX12_place d h0 rv hE 51 [(0, vR r0), (1, vI x1), (2, vI x2), (3, vI x3), (4, vI (x4 + 1))] [] h))) : ea_W mX12_place d h0 rv hE 51 [(0, vR r0), (1, vI x1), (2, vI x2), (3, vI x3), (4, vI x4)] [] h := by
  refine ea_iload (pc := 51) dX12_place_51 4 rfl ?_
  refine ea_aload_n (pc := 53) dX12_place_53 rfl 0 rfl ?_
  obtain ⟨a3, e4, f1, g2, H⟩ := H
  refine ea_deref0 e4 ?_
  refine ea_getR (pc := 54) dX12_place_54 ec_12 (k := 97) (Nat.le_of_ble_eq_true rfl) rfl (Or.inl ew_1442) f1 g2 rfl ?_
  refine ea_iload_n (pc := 57) dX12_place_57 rfl 1 rfl ?_
  obtain ⟨a7, e8, f5, g6, H⟩ := H
  refine ea_deref1 e8 ?_
  obtain ⟨z9, H⟩ := H
  refine ea_iald (pc := 58) dX12_place_58 f5 g6 z9 ?_
  refine ea_icmp_ge (pc := 59) (tgt := 83) dX12_place_59 rfl (fun c18 => ?_) (fun c18 => ?_)
  · have H := H.1 c18
    exact H
  · have H := H.2 c18
    refine ea_aload_n (pc := 62) dX12_place_62 rfl 0 rfl ?_
    obtain ⟨f10, g11, H⟩ := H
    refine ea_deref0 e4 ?_
    refine ea_getR (pc := 63) dX12_place_63 ec_12 (k := 98) (Nat.le_of_ble_eq_true rfl) rfl (Or.inl ew_1443) f10 g11 rfl ?_
    refine ea_iconst (pc := 66) dX12_place_66 (v := 4) rfl ?_
    refine ea_iload_n (pc := 67) dX12_place_67 rfl 1 rfl ?_
    refine ea_imul (pc := 68) dX12_place_68 ?_
    refine ea_iload (pc := 69) dX12_place_69 4 rfl ?_
    refine ea_iadd (pc := 71) dX12_place_71 ?_
    obtain ⟨a14, e15, f12, g13, H⟩ := H
    refine ea_deref1 e15 ?_
    obtain ⟨z16, H⟩ := H
    refine ea_iald (pc := 72) dX12_place_72 f12 g13 z16 ?_
    refine ea_iload_n (pc := 73) dX12_place_73 rfl 2 rfl ?_
    refine ea_icmp_eq (pc := 74) (tgt := 83) dX12_place_74 rfl (fun c17 => ?_) (fun c17 => ?_)
    · have H := H.1 c17
      exact H
    · have H := H.2 c17
      refine ea_iinc (pc := 77) (v := 1) (lv' := [(0, vR r0), (1, vI x1), (2, vI x2), (3, vI x3), (4, vI (x4 + 1))]) dX12_place_77 4 rfl rfl (Nat.le_of_ble_eq_true rfl) [1, 2, 3, 4, 0] rfl ?_
      refine ea_goto (pc := 80) (tgt := 51) dX12_place_80 rfl ?_
      exact H
theorem bX12_place_83 {d : Nat} {h0 hE h : ea_H} {rv : Option ea_V} {r0 : Option Nat} {x1 : Int32} {x2 : Int32} {x3 : Int32} {x4 : Int32} (H : (¬ x4 = (4 : Int32) → ∃ a3, r0 = some a3 ∧ a3 < ea_n h ∧ ea_c h a3 = 12 ∧ ∃ a7, (ea_r h a3 98) = some a7 ∧ a7 < ea_n h ∧ ea_c h a7 = 20 ∧ vp_in (((4 : Int32) * x1) + x4) (ea_l h a7) ∧ ∀ h10, h10 = ea_wi h a7 (Int32.toNatClampNeg (((4 : Int32) * x1) + x4)) x2 → a3 < ea_n h10 ∧ ea_c h10 a3 = 12 ∧ ∃ a16, (ea_r h10 a3 99) = some a16 ∧ a16 < ea_n h10 ∧ ea_c h10 a16 = 20 ∧ vp_in (((4 : Int32) * x1) + x4) (ea_l h10 a16) ∧ ∀ h19, h19 = ea_wi h10 a16 (Int32.toNatClampNeg (((4 : Int32) * x1) + x4)) x3 → a3 < ea_n h19 ∧ ea_c h19 a3 = 12 ∧ ∃ a25, (ea_r h19 a3 97) = some a25 ∧ a25 < ea_n h19 ∧ ea_c h19 a25 = 20 ∧ vp_in x1 (ea_l h19 a25) ∧ (¬ x4 = (ea_i h19 a25 (Int32.toNatClampNeg x1)) → rv = some (vI 1) ∧ hE = h19) ∧ (x4 = (ea_i h19 a25 (Int32.toNatClampNeg x1)) → a3 < ea_n h19 ∧ ea_c h19 a3 = 12 ∧ a25 < ea_n h19 ∧ ea_c h19 a25 = 20 ∧ vp_in x1 (ea_l h19 a25) ∧ a25 < ea_n h19 ∧ ea_c h19 a25 = 20 ∧ vp_in x1 (ea_l h19 a25) ∧ ∀ h36, h36 = ea_wi h19 a25 (Int32.toNatClampNeg x1) ((ea_i h19 a25 (Int32.toNatClampNeg x1)) + (1 : Int32)) → rv = some (vI 1) ∧ hE = h36)) ∧ (x4 = (4 : Int32) → rv = some (vI 0) ∧ hE = h)) : ea_W mX12_place d h0 rv hE 83 [(0, vR r0), (1, vI x1), (2, vI x2), (3, vI x3), (4, vI x4)] [] h := by
  refine ea_iload (pc := 83) dX12_place_83 4 rfl ?_
  refine ea_iconst (pc := 85) dX12_place_85 (v := 4) rfl ?_
  refine ea_icmp_ne (pc := 86) (tgt := 91) dX12_place_86 rfl (fun c39 => ?_) (fun c39 => ?_)
  · have H := H.1 c39
    refine ea_aload_n (pc := 91) dX12_place_91 rfl 0 rfl ?_
    obtain ⟨a3, e4, f1, g2, H⟩ := H
    refine ea_deref0 e4 ?_
    refine ea_getR (pc := 92) dX12_place_92 ec_12 (k := 98) (Nat.le_of_ble_eq_true rfl) rfl (Or.inl ew_1443) f1 g2 rfl ?_
    refine ea_iconst (pc := 95) dX12_place_95 (v := 4) rfl ?_
    refine ea_iload_n (pc := 96) dX12_place_96 rfl 1 rfl ?_
    refine ea_imul (pc := 97) dX12_place_97 ?_
    refine ea_iload (pc := 98) dX12_place_98 4 rfl ?_
    refine ea_iadd (pc := 100) dX12_place_100 ?_
    refine ea_iload_n (pc := 101) dX12_place_101 rfl 2 rfl ?_
    obtain ⟨a7, e8, f5, g6, H⟩ := H
    refine ea_deref2 e8 ?_
    obtain ⟨z9, H⟩ := H
    refine ea_iast (pc := 102) dX12_place_102 f5 g6 z9 ?_
    obtain ⟨h10, E11⟩ : ∃ z, z = ea_wi h a7 (Int32.toNatClampNeg (((4 : Int32) * x1) + x4)) x2 := ⟨_, rfl⟩
    have H := H h10 E11
    refine ea_nm E11 ?_
    refine ea_aload_n (pc := 103) dX12_place_103 rfl 0 rfl ?_
    obtain ⟨f12, g13, H⟩ := H
    refine ea_deref0 e4 ?_
    refine ea_getR (pc := 104) dX12_place_104 ec_12 (k := 99) (Nat.le_of_ble_eq_true rfl) rfl (Or.inl ew_1444) f12 g13 rfl ?_
    refine ea_iconst (pc := 107) dX12_place_107 (v := 4) rfl ?_
    refine ea_iload_n (pc := 108) dX12_place_108 rfl 1 rfl ?_
    refine ea_imul (pc := 109) dX12_place_109 ?_
    refine ea_iload (pc := 110) dX12_place_110 4 rfl ?_
    refine ea_iadd (pc := 112) dX12_place_112 ?_
    refine ea_iload_n (pc := 113) dX12_place_113 rfl 3 rfl ?_
    obtain ⟨a16, e17, f14, g15, H⟩ := H
    refine ea_deref2 e17 ?_
    obtain ⟨z18, H⟩ := H
    refine ea_iast (pc := 114) dX12_place_114 f14 g15 z18 ?_
    obtain ⟨h19, E20⟩ : ∃ z, z = ea_wi h10 a16 (Int32.toNatClampNeg (((4 : Int32) * x1) + x4)) x3 := ⟨_, rfl⟩
    have H := H h19 E20
    refine ea_nm E20 ?_
    refine ea_iload (pc := 115) dX12_place_115 4 rfl ?_
    refine ea_aload_n (pc := 117) dX12_place_117 rfl 0 rfl ?_
    obtain ⟨f21, g22, H⟩ := H
    refine ea_deref0 e4 ?_
    refine ea_getR (pc := 118) dX12_place_118 ec_12 (k := 97) (Nat.le_of_ble_eq_true rfl) rfl (Or.inl ew_1442) f21 g22 rfl ?_
    refine ea_iload_n (pc := 121) dX12_place_121 rfl 1 rfl ?_
    obtain ⟨a25, e26, f23, g24, H⟩ := H
    refine ea_deref1 e26 ?_
    obtain ⟨z27, H⟩ := H
    refine ea_iald (pc := 122) dX12_place_122 f23 g24 z27 ?_
    refine ea_icmp_ne (pc := 123) (tgt := 136) dX12_place_123 rfl (fun c38 => ?_) (fun c38 => ?_)
    · have H := H.1 c38
      refine ea_iconst (pc := 136) dX12_place_136 (v := 1) rfl ?_
      obtain ⟨rfl, rfl⟩ := H
      exact ea_ireturn (pc := 137) dX12_place_137 rfl (ea_bn (Or.inr rfl))
    · have H := H.2 c38
      refine ea_aload_n (pc := 126) dX12_place_126 rfl 0 rfl ?_
      obtain ⟨f28, g29, H⟩ := H
      refine ea_deref0 e4 ?_
      refine ea_getR (pc := 127) dX12_place_127 ec_12 (k := 97) (Nat.le_of_ble_eq_true rfl) rfl (Or.inl ew_1442) f28 g29 rfl ?_
      refine ea_iload_n (pc := 130) dX12_place_130 rfl 1 rfl ?_
      refine ea_dup2 (pc := 131) dX12_place_131 rfl rfl ?_
      obtain ⟨f30, g31, H⟩ := H
      refine ea_deref1 e26 ?_
      obtain ⟨z32, H⟩ := H
      refine ea_iald (pc := 132) dX12_place_132 f30 g31 z32 ?_
      refine ea_iconst (pc := 133) dX12_place_133 (v := 1) rfl ?_
      refine ea_iadd (pc := 134) dX12_place_134 ?_
      obtain ⟨f33, g34, H⟩ := H
      refine ea_deref2 e26 ?_
      obtain ⟨z35, H⟩ := H
      refine ea_iast (pc := 135) dX12_place_135 f33 g34 z35 ?_
      obtain ⟨h36, E37⟩ : ∃ z, z = ea_wi h19 a25 (Int32.toNatClampNeg x1) ((ea_i h19 a25 (Int32.toNatClampNeg x1)) + (1 : Int32)) := ⟨_, rfl⟩
      have H := H h36 E37
      refine ea_nm E37 ?_
      refine ea_iconst (pc := 136) dX12_place_136 (v := 1) rfl ?_
      obtain ⟨rfl, rfl⟩ := H
      exact ea_ireturn (pc := 137) dX12_place_137 rfl (ea_bn (Or.inr rfl))
  · have H := H.2 c39
    refine ea_iconst (pc := 89) dX12_place_89 (v := 0) rfl ?_
    obtain ⟨rfl, rfl⟩ := H
    exact ea_ireturn (pc := 90) dX12_place_90 rfl (ea_bn (Or.inl rfl))
theorem dX12_ordered_0 : decode cX12_ordered 0 = .ok (.iconst 0, 1) := by decide +kernel
theorem dX12_ordered_1 : decode cX12_ordered 1 = .ok (.istore_n 3, 1) := by decide +kernel
theorem dX12_ordered_2 : decode cX12_ordered 2 = .ok (.iload_n 3, 1) := by decide +kernel
theorem dX12_ordered_3 : decode cX12_ordered 3 = .ok (.aload_n 0, 1) := by decide +kernel
theorem dX12_ordered_4 : decode cX12_ordered 4 = .ok (.getfield 223, 3) := by decide +kernel
theorem dX12_ordered_7 : decode cX12_ordered 7 = .ok (.iload_n 1, 1) := by decide +kernel
theorem dX12_ordered_8 : decode cX12_ordered 8 = .ok (.iaload, 1) := by decide +kernel
theorem dX12_ordered_9 : decode cX12_ordered 9 = .ok (.if_icmp .ge 117, 3) := by decide +kernel
theorem dX12_ordered_12 : decode cX12_ordered 12 = .ok (.iconst 0, 1) := by decide +kernel
theorem dX12_ordered_13 : decode cX12_ordered 13 = .ok (.istore 4, 2) := by decide +kernel
theorem dX12_ordered_15 : decode cX12_ordered 15 = .ok (.iconst 0, 1) := by decide +kernel
theorem dX12_ordered_16 : decode cX12_ordered 16 = .ok (.istore 5, 2) := by decide +kernel
theorem dX12_ordered_18 : decode cX12_ordered 18 = .ok (.iload 5, 2) := by decide +kernel
theorem dX12_ordered_20 : decode cX12_ordered 20 = .ok (.aload_n 0, 1) := by decide +kernel
theorem dX12_ordered_21 : decode cX12_ordered 21 = .ok (.getfield 223, 3) := by decide +kernel
theorem dX12_ordered_24 : decode cX12_ordered 24 = .ok (.iload_n 1, 1) := by decide +kernel
theorem dX12_ordered_25 : decode cX12_ordered 25 = .ok (.iaload, 1) := by decide +kernel
theorem dX12_ordered_26 : decode cX12_ordered 26 = .ok (.if_icmp .ge 82, 3) := by decide +kernel
theorem dX12_ordered_29 : decode cX12_ordered 29 = .ok (.aload_n 0, 1) := by decide +kernel
theorem dX12_ordered_30 : decode cX12_ordered 30 = .ok (.getfield 229, 3) := by decide +kernel
theorem dX12_ordered_33 : decode cX12_ordered 33 = .ok (.iconst 4, 1) := by decide +kernel
theorem dX12_ordered_34 : decode cX12_ordered 34 = .ok (.iload_n 1, 1) := by decide +kernel
theorem dX12_ordered_35 : decode cX12_ordered 35 = .ok (.imul, 1) := by decide +kernel
theorem dX12_ordered_36 : decode cX12_ordered 36 = .ok (.iload 5, 2) := by decide +kernel
theorem dX12_ordered_38 : decode cX12_ordered 38 = .ok (.iadd, 1) := by decide +kernel
theorem dX12_ordered_39 : decode cX12_ordered 39 = .ok (.iaload, 1) := by decide +kernel
theorem dX12_ordered_40 : decode cX12_ordered 40 = .ok (.istore 6, 2) := by decide +kernel
theorem dX12_ordered_42 : decode cX12_ordered 42 = .ok (.aload_n 0, 1) := by decide +kernel
theorem dX12_ordered_43 : decode cX12_ordered 43 = .ok (.getfield 229, 3) := by decide +kernel
theorem dX12_ordered_46 : decode cX12_ordered 46 = .ok (.iconst 4, 1) := by decide +kernel
theorem dX12_ordered_47 : decode cX12_ordered 47 = .ok (.iload_n 1, 1) := by decide +kernel
theorem dX12_ordered_48 : decode cX12_ordered 48 = .ok (.imul, 1) := by decide +kernel
theorem dX12_ordered_49 : decode cX12_ordered 49 = .ok (.iload_n 3, 1) := by decide +kernel
theorem dX12_ordered_50 : decode cX12_ordered 50 = .ok (.iadd, 1) := by decide +kernel
theorem dX12_ordered_51 : decode cX12_ordered 51 = .ok (.iaload, 1) := by decide +kernel
theorem dX12_ordered_52 : decode cX12_ordered 52 = .ok (.istore 7, 2) := by decide +kernel
theorem dX12_ordered_54 : decode cX12_ordered 54 = .ok (.iload 4, 2) := by decide +kernel
theorem dX12_ordered_56 : decode cX12_ordered 56 = .ok (.iload 6, 2) := by decide +kernel
theorem dX12_ordered_58 : decode cX12_ordered 58 = .ok (.iload 7, 2) := by decide +kernel
theorem dX12_ordered_60 : decode cX12_ordered 60 = .ok (.if_icmp .gt 34, 3) := by decide +kernel
theorem dX12_ordered_63 : decode cX12_ordered 63 = .ok (.iload 6, 2) := by decide +kernel
theorem dX12_ordered_65 : decode cX12_ordered 65 = .ok (.iload 7, 2) := by decide +kernel
theorem dX12_ordered_67 : decode cX12_ordered 67 = .ok (.if_icmp .ne 31, 3) := by decide +kernel
theorem dX12_ordered_70 : decode cX12_ordered 70 = .ok (.aload_n 0, 1) := by decide +kernel
theorem dX12_ordered_71 : decode cX12_ordered 71 = .ok (.getfield 226, 3) := by decide +kernel
theorem dX12_ordered_74 : decode cX12_ordered 74 = .ok (.iconst 4, 1) := by decide +kernel
theorem dX12_ordered_75 : decode cX12_ordered 75 = .ok (.iload_n 1, 1) := by decide +kernel
theorem dX12_ordered_76 : decode cX12_ordered 76 = .ok (.imul, 1) := by decide +kernel
theorem dX12_ordered_77 : decode cX12_ordered 77 = .ok (.iload 5, 2) := by decide +kernel
theorem dX12_ordered_79 : decode cX12_ordered 79 = .ok (.iadd, 1) := by decide +kernel
theorem dX12_ordered_80 : decode cX12_ordered 80 = .ok (.iaload, 1) := by decide +kernel
theorem dX12_ordered_81 : decode cX12_ordered 81 = .ok (.aload_n 0, 1) := by decide +kernel
theorem dX12_ordered_82 : decode cX12_ordered 82 = .ok (.getfield 226, 3) := by decide +kernel
theorem dX12_ordered_85 : decode cX12_ordered 85 = .ok (.iconst 4, 1) := by decide +kernel
theorem dX12_ordered_86 : decode cX12_ordered 86 = .ok (.iload_n 1, 1) := by decide +kernel
theorem dX12_ordered_87 : decode cX12_ordered 87 = .ok (.imul, 1) := by decide +kernel
theorem dX12_ordered_88 : decode cX12_ordered 88 = .ok (.iload_n 3, 1) := by decide +kernel
theorem dX12_ordered_89 : decode cX12_ordered 89 = .ok (.iadd, 1) := by decide +kernel
theorem dX12_ordered_90 : decode cX12_ordered 90 = .ok (.iaload, 1) := by decide +kernel
theorem dX12_ordered_91 : decode cX12_ordered 91 = .ok (.if_icmp .ge 7, 3) := by decide +kernel
theorem dX12_ordered_94 : decode cX12_ordered 94 = .ok (.iconst 1, 1) := by decide +kernel
theorem dX12_ordered_95 : decode cX12_ordered 95 = .ok (.goto 4, 3) := by decide +kernel
theorem dX12_ordered_98 : decode cX12_ordered 98 = .ok (.iconst 0, 1) := by decide +kernel
theorem dX12_ordered_99 : decode cX12_ordered 99 = .ok (.iadd, 1) := by decide +kernel
theorem dX12_ordered_100 : decode cX12_ordered 100 = .ok (.istore 4, 2) := by decide +kernel
theorem dX12_ordered_102 : decode cX12_ordered 102 = .ok (.iinc 5 1, 3) := by decide +kernel
theorem dX12_ordered_105 : decode cX12_ordered 105 = .ok (.goto (-87), 3) := by decide +kernel
theorem dX12_ordered_108 : decode cX12_ordered 108 = .ok (.iload 4, 2) := by decide +kernel
theorem dX12_ordered_110 : decode cX12_ordered 110 = .ok (.iload_n 2, 1) := by decide +kernel
theorem dX12_ordered_111 : decode cX12_ordered 111 = .ok (.if_icmp .ne 9, 3) := by decide +kernel
theorem dX12_ordered_114 : decode cX12_ordered 114 = .ok (.iconst 4, 1) := by decide +kernel
theorem dX12_ordered_115 : decode cX12_ordered 115 = .ok (.iload_n 1, 1) := by decide +kernel
theorem dX12_ordered_116 : decode cX12_ordered 116 = .ok (.imul, 1) := by decide +kernel
theorem dX12_ordered_117 : decode cX12_ordered 117 = .ok (.iload_n 3, 1) := by decide +kernel
theorem dX12_ordered_118 : decode cX12_ordered 118 = .ok (.iadd, 1) := by decide +kernel
theorem dX12_ordered_119 : decode cX12_ordered 119 = .ok (.ireturn, 1) := by decide +kernel
theorem dX12_ordered_120 : decode cX12_ordered 120 = .ok (.iinc 3 1, 3) := by decide +kernel
theorem dX12_ordered_123 : decode cX12_ordered 123 = .ok (.goto (-121), 3) := by decide +kernel
theorem dX12_ordered_126 : decode cX12_ordered 126 = .ok (.iconst (-1), 1) := by decide +kernel
theorem dX12_ordered_127 : decode cX12_ordered 127 = .ok (.ireturn, 1) := by decide +kernel
theorem bX12_ordered_0 {d : Nat} {h0 hE h : ea_H} {rv : Option ea_V} {r0 : Option Nat} {x1 : Int32} {x2 : Int32} (H : ea_W mX12_ordered d h0 rv hE 2 [(0, vR r0), (1, vI x1), (2, vI x2), (3, vI 0)] [] h) : ea_W mX12_ordered d h0 rv hE 0 [(0, vR r0), (1, vI x1), (2, vI x2)] [] h := by
  refine ea_iconst (pc := 0) dX12_ordered_0 (v := 0) rfl ?_
  refine ea_istore_n (pc := 1) (lv' := [(0, vR r0), (1, vI x1), (2, vI x2), (3, vI 0)]) dX12_ordered_1 rfl (Nat.le_of_ble_eq_true rfl) [1, 2, 3, 0] rfl ?_
  exact H
theorem bX12_ordered_2 {d : Nat} {h0 hE h : ea_H} {rv : Option ea_V} {r0 : Option Nat} {x1 : Int32} {x2 : Int32} {x3 : Int32} (H : ∃ a3, r0 = some a3 ∧ a3 < ea_n h ∧ ea_c h a3 = 12 ∧ ∃ a7, (ea_r h a3 97) = some a7 ∧ a7 < ea_n h ∧ ea_c h a7 = 20 ∧ vp_in x1 (ea_l h a7) ∧ ((ea_i h a7 (Int32.toNatClampNeg x1)) ≤ x3 → rv = some (vI (-1)) ∧ hE = h) ∧ (¬ (ea_i h a7 (Int32.toNatClampNeg x1)) ≤ x3 → ea_W mX12_ordered d h0 rv hE 18 [(0, vR r0), (1, vI x1), (2, vI x2), (3, vI x3), (4, vI 0), (5, vI 0)] [] h)) : ea_W mX12_ordered d h0 rv hE 2 [(0, vR r0), (1, vI x1), (2, vI x2), (3, vI x3)] [] h := by
  refine ea_iload_n (pc := 2) dX12_ordered_2 rfl 3 rfl ?_
  refine ea_aload_n (pc := 3) dX12_ordered_3 rfl 0 rfl ?_
  obtain ⟨a3, e4, f1, g2, H⟩ := H
  refine ea_deref0 e4 ?_
  refine ea_getR (pc := 4) dX12_ordered_4 ec_12 (k := 97) (Nat.le_of_ble_eq_true rfl) rfl (Or.inl ew_1442) f1 g2 rfl ?_
  refine ea_iload_n (pc := 7) dX12_ordered_7 rfl 1 rfl ?_
  obtain ⟨a7, e8, f5, g6, H⟩ := H
  refine ea_deref1 e8 ?_
  obtain ⟨z9, H⟩ := H
  refine ea_iald (pc := 8) dX12_ordered_8 f5 g6 z9 ?_
  refine ea_icmp_ge (pc := 9) (tgt := 126) dX12_ordered_9 rfl (fun c10 => ?_) (fun c10 => ?_)
  · have H := H.1 c10
    refine ea_iconst (pc := 126) dX12_ordered_126 (v := (-1)) rfl ?_
    obtain ⟨rfl, rfl⟩ := H
    exact ea_ireturn (pc := 127) dX12_ordered_127 rfl rfl
  · have H := H.2 c10
    refine ea_iconst (pc := 12) dX12_ordered_12 (v := 0) rfl ?_
    refine ea_istore (pc := 13) (lv' := [(0, vR r0), (1, vI x1), (2, vI x2), (3, vI x3), (4, vI 0)]) dX12_ordered_13 (Nat.le_of_ble_eq_true rfl) [1, 2, 3, 4, 0] rfl ?_
    refine ea_iconst (pc := 15) dX12_ordered_15 (v := 0) rfl ?_
    refine ea_istore (pc := 16) (lv' := [(0, vR r0), (1, vI x1), (2, vI x2), (3, vI x3), (4, vI 0), (5, vI 0)]) dX12_ordered_16 (Nat.le_of_ble_eq_true rfl) [1, 2, 3, 4, 5, 0] rfl ?_
    exact H
theorem bX12_ordered_18 {d : Nat} {h0 hE h : ea_H} {rv : Option ea_V} {r0 : Option Nat} {x1 : Int32} {x2 : Int32} {x3 : Int32} {x4 : Int32} {x5 : Int32} (H : ∃ a3, r0 = some a3 ∧ a3 < ea_n h ∧ ea_c h a3 = 12 ∧ ∃ a7, (ea_r h a3 97) = some a7 ∧ a7 < ea_n h ∧ ea_c h a7 = 20 ∧ vp_in x1 (ea_l h a7) ∧ ((ea_i h a7 (Int32.toNatClampNeg x1)) ≤ x5 → (¬ x4 = x2 → ea_W mX12_ordered d h0 rv hE 2 [(0, vR r0), (1, vI x1), (2, vI x2), (3, vI (x3 + 1))] [] h) ∧ (x4 = x2 → rv = some (vI (((4 : Int32) * x1) + x3)) ∧ hE = h)) ∧ (¬ (ea_i h a7 (Int32.toNatClampNeg x1)) ≤ x5 → a3 < ea_n h ∧ ea_c h a3 = 12 ∧ ∃ a15, (ea_r h a3 99) = some a15 ∧ a15 < ea_n h ∧ ea_c h a15 = 20 ∧ vp_in (((4 : Int32) * x1) + x5) (ea_l h a15) ∧ a3 < ea_n h ∧ ea_c h a3 = 12 ∧ a15 < ea_n h ∧ ea_c h a15 = 20 ∧ vp_in (((4 : Int32) * x1) + x3) (ea_l h a15) ∧ ((ea_i h a15 (Int32.toNatClampNeg (((4 : Int32) * x1) + x3))) < (ea_i h a15 (Int32.toNatClampNeg (((4 : Int32) * x1) + x5))) → ea_W mX12_ordered d h0 rv hE 18 [(0, vR r0), (1, vI x1), (2, vI x2), (3, vI x3), (4, vI (x4 + (1 : Int32))), (5, vI (x5 + 1))] [] h) ∧ (¬ (ea_i h a15 (Int32.toNatClampNeg (((4 : Int32) * x1) + x3))) < (ea_i h a15 (Int32.toNatClampNeg (((4 : Int32) * x1) + x5))) → (¬ (ea_i h a15 (Int32.toNatClampNeg (((4 : Int32) * x1) + x5))) = (ea_i h a15 (Int32.toNatClampNeg (((4 : Int32) * x1) + x3))) → ea_W mX12_ordered d h0 rv hE 18 [(0, vR r0), (1, vI x1), (2, vI x2), (3, vI x3), (4, vI (x4 + (0 : Int32))), (5, vI (x5 + 1))] [] h) ∧ ((ea_i h a15 (Int32.toNatClampNeg (((4 : Int32) * x1) + x5))) = (ea_i h a15 (Int32.toNatClampNeg (((4 : Int32) * x1) + x3))) → a3 < ea_n h ∧ ea_c h a3 = 12 ∧ ∃ a27, (ea_r h a3 98) = some a27 ∧ a27 < ea_n h ∧ ea_c h a27 = 20 ∧ vp_in (((4 : Int32) * x1) + x5) (ea_l h a27) ∧ a3 < ea_n h ∧ ea_c h a3 = 12 ∧ a27 < ea_n h ∧ ea_c h a27 = 20 ∧ vp_in (((4 : Int32) * x1) + x3) (ea_l h a27) ∧ ((ea_i h a27 (Int32.toNatClampNeg (((4 : Int32) * x1) + x3))) ≤ (ea_i h a27 (Int32.toNatClampNeg (((4 : Int32) * x1) + x5))) → ea_W mX12_ordered d h0 rv hE 18 [(0, vR r0), (1, vI x1), (2, vI x2), (3, vI x3), (4, vI (x4 + (0 : Int32))), (5, vI (x5 + 1))] [] h) ∧ (¬ (ea_i h a27 (Int32.toNatClampNeg (((4 : Int32) * x1) + x3))) ≤ (ea_i h a27 (Int32.toNatClampNeg (((4 : Int32) * x1) + x5))) → ea_W mX12_ordered d h0 rv hE 18 [(0, vR r0), (1, vI x1), (2, vI x2), (3, vI x3), (4, vI (x4 + (1 : Int32))), (5, vI (x5 + 1))] [] h))))) : ea_W mX12_ordered d h0 rv hE 18 [(0, vR r0), (1, vI x1), (2, vI x2), (3, vI x3), (4, vI x4), (5, vI x5)] [] h := by
  refine ea_iload (pc := 18) dX12_ordered_18 5 rfl ?_
  refine ea_aload_n (pc := 20) dX12_ordered_20 rfl 0 rfl ?_
  obtain ⟨a3, e4, f1, g2, H⟩ := H
  refine ea_deref0 e4 ?_
  refine ea_getR (pc := 21) dX12_ordered_21 ec_12 (k := 97) (Nat.le_of_ble_eq_true rfl) rfl (Or.inl ew_1442) f1 g2 rfl ?_
  refine ea_iload_n (pc := 24) dX12_ordered_24 rfl 1 rfl ?_
  obtain ⟨a7, e8, f5, g6, H⟩ := H
  refine ea_deref1 e8 ?_
  obtain ⟨z9, H⟩ := H
  refine ea_iald (pc := 25) dX12_ordered_25 f5 g6 z9 ?_
  refine ea_icmp_ge (pc := 26) (tgt := 108) dX12_ordered_26 rfl (fun c38 => ?_) (fun c38 => ?_)
  · have H := H.1 c38
    refine ea_iload (pc := 108) dX12_ordered_108 4 rfl ?_
    refine ea_iload_n (pc := 110) dX12_ordered_110 rfl 2 rfl ?_
    refine ea_icmp_ne (pc := 111) (tgt := 120) dX12_ordered_111 rfl (fun c10 => ?_) (fun c10 => ?_)
    · have H := H.1 c10
      refine ea_iinc (pc := 120) (v := 1) (lv' := [(0, vR r0), (1, vI x1), (2, vI x2), (3, vI (x3 + 1))]) dX12_ordered_120 3 rfl rfl (Nat.le_of_ble_eq_true rfl) [1, 2, 3, 0] rfl ?_
      refine ea_goto (pc := 123) (tgt := 2) dX12_ordered_123 rfl ?_
      exact H
    · have H := H.2 c10
      refine ea_iconst (pc := 114) dX12_ordered_114 (v := 4) rfl ?_
      refine ea_iload_n (pc := 115) dX12_ordered_115 rfl 1 rfl ?_
      refine ea_imul (pc := 116) dX12_ordered_116 ?_
      refine ea_iload_n (pc := 117) dX12_ordered_117 rfl 3 rfl ?_
      refine ea_iadd (pc := 118) dX12_ordered_118 ?_
      obtain ⟨rfl, rfl⟩ := H
      exact ea_ireturn (pc := 119) dX12_ordered_119 rfl rfl
  · have H := H.2 c38
    refine ea_aload_n (pc := 29) dX12_ordered_29 rfl 0 rfl ?_
    obtain ⟨f11, g12, H⟩ := H
    refine ea_deref0 e4 ?_
    refine ea_getR (pc := 30) dX12_ordered_30 ec_12 (k := 99) (Nat.le_of_ble_eq_true rfl) rfl (Or.inl ew_1444) f11 g12 rfl ?_
    refine ea_iconst (pc := 33) dX12_ordered_33 (v := 4) rfl ?_
    refine ea_iload_n (pc := 34) dX12_ordered_34 rfl 1 rfl ?_
    refine ea_imul (pc := 35) dX12_ordered_35 ?_
    refine ea_iload (pc := 36) dX12_ordered_36 5 rfl ?_
    refine ea_iadd (pc := 38) dX12_ordered_38 ?_
    obtain ⟨a15, e16, f13, g14, H⟩ := H
    refine ea_deref1 e16 ?_
    obtain ⟨z17, H⟩ := H
    refine ea_iald (pc := 39) dX12_ordered_39 f13 g14 z17 ?_
    refine ea_istore (pc := 40) (lv' := [(0, vR r0), (1, vI x1), (2, vI x2), (3, vI x3), (4, vI x4), (5, vI x5), (6, vI (ea_i h a15 (Int32.toNatClampNeg (((4 : Int32) * x1) + x5))))]) dX12_ordered_40 (Nat.le_of_ble_eq_true rfl) [1, 2, 3, 4, 5, 6, 0] rfl ?_
    refine ea_aload_n (pc := 42) dX12_ordered_42 rfl 0 rfl ?_
    obtain ⟨f18, g19, H⟩ := H
    refine ea_deref0 e4 ?_
    refine ea_getR (pc := 43) dX12_ordered_43 ec_12 (k := 99) (Nat.le_of_ble_eq_true rfl) rfl (Or.inl ew_1444) f18 g19 rfl ?_
    refine ea_iconst (pc := 46) dX12_ordered_46 (v := 4) rfl ?_
    refine ea_iload_n (pc := 47) dX12_ordered_47 rfl 1 rfl ?_
    refine ea_imul (pc := 48) dX12_ordered_48 ?_
    refine ea_iload_n (pc := 49) dX12_ordered_49 rfl 3 rfl ?_
    refine ea_iadd (pc := 50) dX12_ordered_50 ?_
    obtain ⟨f20, g21, H⟩ := H
    refine ea_deref1 e16 ?_
    obtain ⟨z22, H⟩ := H
    refine ea_iald (pc := 51) dX12_ordered_51 f20 g21 z22 ?_
    refine ea_istore (pc := 52) (lv' := [(0, vR r0), (1, vI x1), (2, vI x2), (3, vI x3), (4, vI x4), (5, vI x5), (6, vI (ea_i h a15 (Int32.toNatClampNeg (((4 : Int32) * x1) + x5)))), (7, vI (ea_i h a15 (Int32.toNatClampNeg (((4 : Int32) * x1) + x3))))]) dX12_ordered_52 (Nat.le_of_ble_eq_true rfl) [1, 2, 3, 4, 5, 6, 7, 0] rfl ?_
    refine ea_iload (pc := 54) dX12_ordered_54 4 rfl ?_
    refine ea_iload (pc := 56) dX12_ordered_56 6 rfl ?_
    refine ea_iload (pc := 58) dX12_ordered_58 7 rfl ?_
    refine ea_icmp_gt (pc := 60) (tgt := 94) dX12_ordered_60 rfl (fun c37 => ?_) (fun c37 => ?_)
    · have H := H.1 c37
      refine ea_iconst (pc := 94) dX12_ordered_94 (v := 1) rfl ?_
      refine ea_goto (pc := 95) (tgt := 99) dX12_ordered_95 rfl ?_
      refine ea_iadd (pc := 99) dX12_ordered_99 ?_
      refine ea_istore (pc := 100) (lv' := [(0, vR r0), (1, vI x1), (2, vI x2), (3, vI x3), (4, vI (x4 + (1 : Int32))), (5, vI x5)]) dX12_ordered_100 (Nat.le_of_ble_eq_true rfl) [1, 2, 3, 4, 0, 5] rfl ?_
      refine ea_iinc (pc := 102) (v := 1) (lv' := [(0, vR r0), (1, vI x1), (2, vI x2), (3, vI x3), (4, vI (x4 + (1 : Int32))), (5, vI (x5 + 1))]) dX12_ordered_102 5 rfl rfl (Nat.le_of_ble_eq_true rfl) [1, 2, 3, 4, 5, 0] rfl ?_
      refine ea_goto (pc := 105) (tgt := 18) dX12_ordered_105 rfl ?_
      exact H
    · have H := H.2 c37
      refine ea_iload (pc := 63) dX12_ordered_63 6 rfl ?_
      refine ea_iload (pc := 65) dX12_ordered_65 7 rfl ?_
      refine ea_icmp_ne (pc := 67) (tgt := 98) dX12_ordered_67 rfl (fun c36 => ?_) (fun c36 => ?_)
      · have H := H.1 c36
        refine ea_iconst (pc := 98) dX12_ordered_98 (v := 0) rfl ?_
        refine ea_iadd (pc := 99) dX12_ordered_99 ?_
        refine ea_istore (pc := 100) (lv' := [(0, vR r0), (1, vI x1), (2, vI x2), (3, vI x3), (4, vI (x4 + (0 : Int32))), (5, vI x5)]) dX12_ordered_100 (Nat.le_of_ble_eq_true rfl) [1, 2, 3, 4, 0, 5] rfl ?_
        refine ea_iinc (pc := 102) (v := 1) (lv' := [(0, vR r0), (1, vI x1), (2, vI x2), (3, vI x3), (4, vI (x4 + (0 : Int32))), (5, vI (x5 + 1))]) dX12_ordered_102 5 rfl rfl (Nat.le_of_ble_eq_true rfl) [1, 2, 3, 4, 5, 0] rfl ?_
        refine ea_goto (pc := 105) (tgt := 18) dX12_ordered_105 rfl ?_
        exact H
      · have H := H.2 c36
        refine ea_aload_n (pc := 70) dX12_ordered_70 rfl 0 rfl ?_
        obtain ⟨f23, g24, H⟩ := H
        refine ea_deref0 e4 ?_
        refine ea_getR (pc := 71) dX12_ordered_71 ec_12 (k := 98) (Nat.le_of_ble_eq_true rfl) rfl (Or.inl ew_1443) f23 g24 rfl ?_
        refine ea_iconst (pc := 74) dX12_ordered_74 (v := 4) rfl ?_
        refine ea_iload_n (pc := 75) dX12_ordered_75 rfl 1 rfl ?_
        refine ea_imul (pc := 76) dX12_ordered_76 ?_
        refine ea_iload (pc := 77) dX12_ordered_77 5 rfl ?_
        refine ea_iadd (pc := 79) dX12_ordered_79 ?_
        obtain ⟨a27, e28, f25, g26, H⟩ := H
        refine ea_deref1 e28 ?_
        obtain ⟨z29, H⟩ := H
        refine ea_iald (pc := 80) dX12_ordered_80 f25 g26 z29 ?_
        refine ea_aload_n (pc := 81) dX12_ordered_81 rfl 0 rfl ?_
        obtain ⟨f30, g31, H⟩ := H
        refine ea_deref0 e4 ?_
        refine ea_getR (pc := 82) dX12_ordered_82 ec_12 (k := 98) (Nat.le_of_ble_eq_true rfl) rfl (Or.inl ew_1443) f30 g31 rfl ?_
        refine ea_iconst (pc := 85) dX12_ordered_85 (v := 4) rfl ?_
        refine ea_iload_n (pc := 86) dX12_ordered_86 rfl 1 rfl ?_
        refine ea_imul (pc := 87) dX12_ordered_87 ?_
        refine ea_iload_n (pc := 88) dX12_ordered_88 rfl 3 rfl ?_
        refine ea_iadd (pc := 89) dX12_ordered_89 ?_
        obtain ⟨f32, g33, H⟩ := H
        refine ea_deref1 e28 ?_
        obtain ⟨z34, H⟩ := H
        refine ea_iald (pc := 90) dX12_ordered_90 f32 g33 z34 ?_
        refine ea_icmp_ge (pc := 91) (tgt := 98) dX12_ordered_91 rfl (fun c35 => ?_) (fun c35 => ?_)
        · have H := H.1 c35
          refine ea_iconst (pc := 98) dX12_ordered_98 (v := 0) rfl ?_
          refine ea_iadd (pc := 99) dX12_ordered_99 ?_
          refine ea_istore (pc := 100) (lv' := [(0, vR r0), (1, vI x1), (2, vI x2), (3, vI x3), (4, vI (x4 + (0 : Int32))), (5, vI x5)]) dX12_ordered_100 (Nat.le_of_ble_eq_true rfl) [1, 2, 3, 4, 0, 5] rfl ?_
          refine ea_iinc (pc := 102) (v := 1) (lv' := [(0, vR r0), (1, vI x1), (2, vI x2), (3, vI x3), (4, vI (x4 + (0 : Int32))), (5, vI (x5 + 1))]) dX12_ordered_102 5 rfl rfl (Nat.le_of_ble_eq_true rfl) [1, 2, 3, 4, 5, 0] rfl ?_
          refine ea_goto (pc := 105) (tgt := 18) dX12_ordered_105 rfl ?_
          exact H
        · have H := H.2 c35
          refine ea_iconst (pc := 94) dX12_ordered_94 (v := 1) rfl ?_
          refine ea_goto (pc := 95) (tgt := 99) dX12_ordered_95 rfl ?_
          refine ea_iadd (pc := 99) dX12_ordered_99 ?_
          refine ea_istore (pc := 100) (lv' := [(0, vR r0), (1, vI x1), (2, vI x2), (3, vI x3), (4, vI (x4 + (1 : Int32))), (5, vI x5)]) dX12_ordered_100 (Nat.le_of_ble_eq_true rfl) [1, 2, 3, 4, 0, 5] rfl ?_
          refine ea_iinc (pc := 102) (v := 1) (lv' := [(0, vR r0), (1, vI x1), (2, vI x2), (3, vI x3), (4, vI (x4 + (1 : Int32))), (5, vI (x5 + 1))]) dX12_ordered_102 5 rfl rfl (Nat.le_of_ble_eq_true rfl) [1, 2, 3, 4, 5, 0] rfl ?_
          refine ea_goto (pc := 105) (tgt := 18) dX12_ordered_105 rfl ?_
          exact H
theorem dX12_common_0 : decode cX12_common 0 = .ok (.lload_n 0, 1) := by decide +kernel
theorem dX12_common_1 : decode cX12_common 1 = .ok (.lstore 4, 2) := by decide +kernel
theorem dX12_common_3 : decode cX12_common 3 = .ok (.lload_n 2, 1) := by decide +kernel
theorem dX12_common_4 : decode cX12_common 4 = .ok (.lstore 6, 2) := by decide +kernel
theorem dX12_common_6 : decode cX12_common 6 = .ok (.lload 6, 2) := by decide +kernel
theorem dX12_common_8 : decode cX12_common 8 = .ok (.lconst 0, 1) := by decide +kernel
theorem dX12_common_9 : decode cX12_common 9 = .ok (.lcmp, 1) := by decide +kernel
theorem dX12_common_10 : decode cX12_common 10 = .ok (.ifCond .eq 21, 3) := by decide +kernel
theorem dX12_common_13 : decode cX12_common 13 = .ok (.lload 4, 2) := by decide +kernel
theorem dX12_common_15 : decode cX12_common 15 = .ok (.lload 6, 2) := by decide +kernel
theorem dX12_common_17 : decode cX12_common 17 = .ok (.lrem, 1) := by decide +kernel
theorem dX12_common_18 : decode cX12_common 18 = .ok (.lstore 8, 2) := by decide +kernel
theorem dX12_common_20 : decode cX12_common 20 = .ok (.lload 6, 2) := by decide +kernel
theorem dX12_common_22 : decode cX12_common 22 = .ok (.lstore 4, 2) := by decide +kernel
theorem dX12_common_24 : decode cX12_common 24 = .ok (.lload 8, 2) := by decide +kernel
theorem dX12_common_26 : decode cX12_common 26 = .ok (.lstore 6, 2) := by decide +kernel
theorem dX12_common_28 : decode cX12_common 28 = .ok (.goto (-22), 3) := by decide +kernel
theorem dX12_common_31 : decode cX12_common 31 = .ok (.lload 4, 2) := by decide +kernel
theorem dX12_common_33 : decode cX12_common 33 = .ok (.lreturn, 1) := by decide +kernel
theorem bX12_common_0 {d : Nat} {h0 hE h : ea_H} {rv : Option ea_V} {y0 : Int64} {y2 : Int64} (H : ea_W mX12_common d h0 rv hE 6 [(4, vJ y0), (6, vJ y2)] [] h) : ea_W mX12_common d h0 rv hE 0 [(0, vJ y0), (2, vJ y2)] [] h := by
  refine ea_lload_n (pc := 0) dX12_common_0 rfl 0 rfl ?_
  refine ea_lstore (pc := 1) (lv' := [(2, vJ y2), (4, vJ y0)]) dX12_common_1 (Nat.le_of_ble_eq_true rfl) [2, 0] rfl ?_
  refine ea_lload_n (pc := 3) dX12_common_3 rfl 0 rfl ?_
  refine ea_lstore (pc := 4) (lv' := [(4, vJ y0), (6, vJ y2)]) dX12_common_4 (Nat.le_of_ble_eq_true rfl) [2, 0] rfl ?_
  exact H
theorem bX12_common_6 {d : Nat} {h0 hE h : ea_H} {rv : Option ea_V} {y4 : Int64} {y6 : Int64} (H : ((lg_cmp y6 0) = (0 : Int32) → rv = some (vJ y4) ∧ hE = h) ∧ (¬ (lg_cmp y6 0) = (0 : Int32) → (¬ y6 = 0) ∧ ea_W mX12_common d h0 rv hE 6 [(4, vJ y6), (6, vJ (y4 - y4 / y6 * y6))] [] h)) : ea_W mX12_common d h0 rv hE 6 [(4, vJ y4), (6, vJ y6)] [] h := by
  refine ea_lload (pc := 6) dX12_common_6 1 rfl ?_
  refine ea_lconst (pc := 8) dX12_common_8 (v := 0) rfl ?_
  refine ea_lcmp (pc := 9) dX12_common_9 ?_
  refine ea_if_eq (pc := 10) (tgt := 31) dX12_common_10 rfl (fun c2 => ?_) (fun c2 => ?_)
  · have H := H.1 c2
    refine ea_lload (pc := 31) dX12_common_31 0 rfl ?_
    obtain ⟨rfl, rfl⟩ := H
    exact ea_lreturn (pc := 33) dX12_common_33 rfl
  · have H := H.2 c2
    refine ea_lload (pc := 13) dX12_common_13 0 rfl ?_
    refine ea_lload (pc := 15) dX12_common_15 1 rfl ?_
    obtain ⟨z1, H⟩ := H
    refine ea_lrem (pc := 17) dX12_common_17 z1 ?_
    refine ea_lstore (pc := 18) (lv' := [(6, vJ y6), (8, vJ (y4 - y4 / y6 * y6))]) dX12_common_18 (Nat.le_of_ble_eq_true rfl) [2, 0] rfl ?_
    refine ea_lload (pc := 20) dX12_common_20 0 rfl ?_
    refine ea_lstore (pc := 22) (lv' := [(4, vJ y6), (8, vJ (y4 - y4 / y6 * y6))]) dX12_common_22 (Nat.le_of_ble_eq_true rfl) [0, 2] rfl ?_
    refine ea_lload (pc := 24) dX12_common_24 1 rfl ?_
    refine ea_lstore (pc := 26) (lv' := [(4, vJ y6), (6, vJ (y4 - y4 / y6 * y6))]) dX12_common_26 (Nat.le_of_ble_eq_true rfl) [1, 0] rfl ?_
    refine ea_goto (pc := 28) (tgt := 6) dX12_common_28 rfl ?_
    exact H
theorem dX12_order_0 : decode cX12_order 0 = .ok (.aload_n 0, 1) := by decide +kernel
theorem dX12_order_1 : decode cX12_order 1 = .ok (.iload_n 1, 1) := by decide +kernel
theorem dX12_order_2 : decode cX12_order 2 = .ok (.invokevirtual 563, 3) := by decide +kernel
theorem dX12_order_5 : decode cX12_order 5 = .ok (.ifCond .ne 7, 3) := by decide +kernel
theorem dX12_order_8 : decode cX12_order 8 = .ok (.ldc2_w 603, 3) := by decide +kernel
theorem dX12_order_11 : decode cX12_order 11 = .ok (.lreturn, 1) := by decide +kernel
theorem dX12_order_12 : decode cX12_order 12 = .ok (.iload_n 2, 1) := by decide +kernel
theorem dX12_order_13 : decode cX12_order 13 = .ok (.ifCond .ne 11, 3) := by decide +kernel
theorem dX12_order_16 : decode cX12_order 16 = .ok (.aload_n 0, 1) := by decide +kernel
theorem dX12_order_17 : decode cX12_order 17 = .ok (.getfield 223, 3) := by decide +kernel
theorem dX12_order_20 : decode cX12_order 20 = .ok (.iload_n 1, 1) := by decide +kernel
theorem dX12_order_21 : decode cX12_order 21 = .ok (.iaload, 1) := by decide +kernel
theorem dX12_order_22 : decode cX12_order 22 = .ok (.i2l, 1) := by decide +kernel
theorem dX12_order_23 : decode cX12_order 23 = .ok (.lreturn, 1) := by decide +kernel
theorem dX12_order_24 : decode cX12_order 24 = .ok (.iload_n 2, 1) := by decide +kernel
theorem dX12_order_25 : decode cX12_order 25 = .ok (.iconst 1, 1) := by decide +kernel
theorem dX12_order_26 : decode cX12_order 26 = .ok (.if_icmp .eq 8, 3) := by decide +kernel
theorem dX12_order_29 : decode cX12_order 29 = .ok (.iload_n 2, 1) := by decide +kernel
theorem dX12_order_30 : decode cX12_order 30 = .ok (.iconst 2, 1) := by decide +kernel
theorem dX12_order_31 : decode cX12_order 31 = .ok (.if_icmp .ne 97, 3) := by decide +kernel
theorem dX12_order_34 : decode cX12_order 34 = .ok (.aload_n 0, 1) := by decide +kernel
theorem dX12_order_35 : decode cX12_order 35 = .ok (.getfield 223, 3) := by decide +kernel
theorem dX12_order_38 : decode cX12_order 38 = .ok (.iload_n 1, 1) := by decide +kernel
theorem dX12_order_39 : decode cX12_order 39 = .ok (.iaload, 1) := by decide +kernel
theorem dX12_order_40 : decode cX12_order 40 = .ok (.ifCond .ne 7, 3) := by decide +kernel
theorem dX12_order_43 : decode cX12_order 43 = .ok (.ldc2_w 603, 3) := by decide +kernel
theorem dX12_order_46 : decode cX12_order 46 = .ok (.lreturn, 1) := by decide +kernel
theorem dX12_order_47 : decode cX12_order 47 = .ok (.lconst 1, 1) := by decide +kernel
theorem dX12_order_48 : decode cX12_order 48 = .ok (.lstore_n 3, 1) := by decide +kernel
theorem dX12_order_49 : decode cX12_order 49 = .ok (.lconst 1, 1) := by decide +kernel
theorem dX12_order_50 : decode cX12_order 50 = .ok (.lstore 5, 2) := by decide +kernel
theorem dX12_order_52 : decode cX12_order 52 = .ok (.iconst 0, 1) := by decide +kernel
theorem dX12_order_53 : decode cX12_order 53 = .ok (.istore 7, 2) := by decide +kernel
theorem dX12_order_55 : decode cX12_order 55 = .ok (.iload 7, 2) := by decide +kernel
theorem dX12_order_57 : decode cX12_order 57 = .ok (.aload_n 0, 1) := by decide +kernel
theorem dX12_order_58 : decode cX12_order 58 = .ok (.getfield 223, 3) := by decide +kernel
theorem dX12_order_61 : decode cX12_order 61 = .ok (.iload_n 1, 1) := by decide +kernel
theorem dX12_order_62 : decode cX12_order 62 = .ok (.iaload, 1) := by decide +kernel
theorem dX12_order_63 : decode cX12_order 63 = .ok (.if_icmp .ge 35, 3) := by decide +kernel
theorem dX12_order_66 : decode cX12_order 66 = .ok (.lload_n 3, 1) := by decide +kernel
theorem dX12_order_67 : decode cX12_order 67 = .ok (.ldc2_w 605, 3) := by decide +kernel
theorem dX12_order_70 : decode cX12_order 70 = .ok (.lmul, 1) := by decide +kernel
theorem dX12_order_71 : decode cX12_order 71 = .ok (.lstore_n 3, 1) := by decide +kernel
theorem dX12_order_72 : decode cX12_order 72 = .ok (.lload 5, 2) := by decide +kernel
theorem dX12_order_74 : decode cX12_order 74 = .ok (.bipush 100, 2) := by decide +kernel
theorem dX12_order_76 : decode cX12_order 76 = .ok (.aload_n 0, 1) := by decide +kernel
theorem dX12_order_77 : decode cX12_order 77 = .ok (.getfield 229, 3) := by decide +kernel
theorem dX12_order_80 : decode cX12_order 80 = .ok (.iconst 4, 1) := by decide +kernel
theorem dX12_order_81 : decode cX12_order 81 = .ok (.iload_n 1, 1) := by decide +kernel
theorem dX12_order_82 : decode cX12_order 82 = .ok (.imul, 1) := by decide +kernel
theorem dX12_order_83 : decode cX12_order 83 = .ok (.iload 7, 2) := by decide +kernel
theorem dX12_order_85 : decode cX12_order 85 = .ok (.iadd, 1) := by decide +kernel
theorem dX12_order_86 : decode cX12_order 86 = .ok (.iaload, 1) := by decide +kernel
theorem dX12_order_87 : decode cX12_order 87 = .ok (.isub, 1) := by decide +kernel
theorem dX12_order_88 : decode cX12_order 88 = .ok (.i2l, 1) := by decide +kernel
theorem dX12_order_89 : decode cX12_order 89 = .ok (.lmul, 1) := by decide +kernel
theorem dX12_order_90 : decode cX12_order 90 = .ok (.lstore 5, 2) := by decide +kernel
theorem dX12_order_92 : decode cX12_order 92 = .ok (.iinc 7 1, 3) := by decide +kernel
theorem dX12_order_95 : decode cX12_order 95 = .ok (.goto (-40), 3) := by decide +kernel
theorem dX12_order_98 : decode cX12_order 98 = .ok (.lload_n 3, 1) := by decide +kernel
theorem dX12_order_99 : decode cX12_order 99 = .ok (.lload 5, 2) := by decide +kernel
theorem dX12_order_101 : decode cX12_order 101 = .ok (.lsub, 1) := by decide +kernel
theorem dX12_order_102 : decode cX12_order 102 = .ok (.lload_n 3, 1) := by decide +kernel
theorem dX12_order_103 : decode cX12_order 103 = .ok (.invokestatic 607, 3) := by decide +kernel
theorem dX12_order_106 : decode cX12_order 106 = .ok (.lstore 7, 2) := by decide +kernel
theorem dX12_order_108 : decode cX12_order 108 = .ok (.iload_n 2, 1) := by decide +kernel
theorem dX12_order_109 : decode cX12_order 109 = .ok (.iconst 1, 1) := by decide +kernel
theorem dX12_order_110 : decode cX12_order 110 = .ok (.if_icmp .ne 13, 3) := by decide +kernel
theorem dX12_order_113 : decode cX12_order 113 = .ok (.lload_n 3, 1) := by decide +kernel
theorem dX12_order_114 : decode cX12_order 114 = .ok (.lload 5, 2) := by decide +kernel
theorem dX12_order_116 : decode cX12_order 116 = .ok (.lsub, 1) := by decide +kernel
theorem dX12_order_117 : decode cX12_order 117 = .ok (.lload 7, 2) := by decide +kernel
theorem dX12_order_119 : decode cX12_order 119 = .ok (.ldiv, 1) := by decide +kernel
theorem dX12_order_120 : decode cX12_order 120 = .ok (.goto 7, 3) := by decide +kernel
theorem dX12_order_123 : decode cX12_order 123 = .ok (.lload_n 3, 1) := by decide +kernel
theorem dX12_order_124 : decode cX12_order 124 = .ok (.lload 7, 2) := by decide +kernel
theorem dX12_order_126 : decode cX12_order 126 = .ok (.ldiv, 1) := by decide +kernel
theorem dX12_order_127 : decode cX12_order 127 = .ok (.lreturn, 1) := by decide +kernel
theorem dX12_order_128 : decode cX12_order 128 = .ok (.iload_n 2, 1) := by decide +kernel
theorem dX12_order_129 : decode cX12_order 129 = .ok (.bipush 10, 2) := by decide +kernel
theorem dX12_order_131 : decode cX12_order 131 = .ok (.bipush 9, 2) := by decide +kernel
theorem dX12_order_133 : decode cX12_order 133 = .ok (.aload_n 0, 1) := by decide +kernel
theorem dX12_order_134 : decode cX12_order 134 = .ok (.getfield 223, 3) := by decide +kernel
theorem dX12_order_137 : decode cX12_order 137 = .ok (.iload_n 1, 1) := by decide +kernel
theorem dX12_order_138 : decode cX12_order 138 = .ok (.iaload, 1) := by decide +kernel
theorem dX12_order_139 : decode cX12_order 139 = .ok (.iadd, 1) := by decide +kernel
theorem dX12_order_140 : decode cX12_order 140 = .ok (.invokestatic 286, 3) := by decide +kernel
theorem dX12_order_143 : decode cX12_order 143 = .ok (.ifCond .eq 19, 3) := by decide +kernel
theorem dX12_order_146 : decode cX12_order 146 = .ok (.aload_n 0, 1) := by decide +kernel
theorem dX12_order_147 : decode cX12_order 147 = .ok (.getfield 226, 3) := by decide +kernel
theorem dX12_order_150 : decode cX12_order 150 = .ok (.aload_n 0, 1) := by decide +kernel
theorem dX12_order_151 : decode cX12_order 151 = .ok (.iload_n 1, 1) := by decide +kernel
theorem dX12_order_152 : decode cX12_order 152 = .ok (.iload_n 2, 1) := by decide +kernel
theorem dX12_order_153 : decode cX12_order 153 = .ok (.bipush 10, 2) := by decide +kernel
theorem dX12_order_155 : decode cX12_order 155 = .ok (.isub, 1) := by decide +kernel
theorem dX12_order_156 : decode cX12_order 156 = .ok (.invokevirtual 611, 3) := by decide +kernel
theorem dX12_order_159 : decode cX12_order 159 = .ok (.iaload, 1) := by decide +kernel
theorem dX12_order_160 : decode cX12_order 160 = .ok (.i2l, 1) := by decide +kernel
theorem dX12_order_161 : decode cX12_order 161 = .ok (.lreturn, 1) := by decide +kernel
theorem dX12_order_162 : decode cX12_order 162 = .ok (.iload_n 2, 1) := by decide +kernel
theorem dX12_order_163 : decode cX12_order 163 = .ok (.bipush 20, 2) := by decide +kernel
theorem dX12_order_165 : decode cX12_order 165 = .ok (.bipush 19, 2) := by decide +kernel
theorem dX12_order_167 : decode cX12_order 167 = .ok (.aload_n 0, 1) := by decide +kernel
theorem dX12_order_168 : decode cX12_order 168 = .ok (.getfield 223, 3) := by decide +kernel
theorem dX12_order_171 : decode cX12_order 171 = .ok (.iload_n 1, 1) := by decide +kernel
theorem dX12_order_172 : decode cX12_order 172 = .ok (.iaload, 1) := by decide +kernel
theorem dX12_order_173 : decode cX12_order 173 = .ok (.iadd, 1) := by decide +kernel
theorem dX12_order_174 : decode cX12_order 174 = .ok (.invokestatic 286, 3) := by decide +kernel
theorem dX12_order_177 : decode cX12_order 177 = .ok (.ifCond .eq 21, 3) := by decide +kernel
theorem dX12_order_180 : decode cX12_order 180 = .ok (.aload_n 0, 1) := by decide +kernel
theorem dX12_order_181 : decode cX12_order 181 = .ok (.getfield 229, 3) := by decide +kernel
theorem dX12_order_184 : decode cX12_order 184 = .ok (.aload_n 0, 1) := by decide +kernel
theorem dX12_order_185 : decode cX12_order 185 = .ok (.iload_n 1, 1) := by decide +kernel
theorem dX12_order_186 : decode cX12_order 186 = .ok (.iload_n 2, 1) := by decide +kernel
theorem dX12_order_187 : decode cX12_order 187 = .ok (.bipush 20, 2) := by decide +kernel
theorem dX12_order_189 : decode cX12_order 189 = .ok (.isub, 1) := by decide +kernel
theorem dX12_order_190 : decode cX12_order 190 = .ok (.invokevirtual 611, 3) := by decide +kernel
theorem dX12_order_193 : decode cX12_order 193 = .ok (.iaload, 1) := by decide +kernel
theorem dX12_order_194 : decode cX12_order 194 = .ok (.i2l, 1) := by decide +kernel
theorem dX12_order_195 : decode cX12_order 195 = .ok (.goto 6, 3) := by decide +kernel
theorem dX12_order_198 : decode cX12_order 198 = .ok (.ldc2_w 603, 3) := by decide +kernel
theorem dX12_order_201 : decode cX12_order 201 = .ok (.lreturn, 1) := by decide +kernel
theorem bX12_order_0 {d : Nat} {h0 hE h : ea_H} {rv : Option ea_V} {r0 : Option Nat} {x1 : Int32} {x2 : Int32} (H : ∃ a7, r0 = some a7 ∧ a7 < ea_n h ∧ ea_c h a7 = 12 ∧ ∃ (d1 : Nat) (xc9 : Int32) (h2 : ea_H), ea_Met mX12_isLetterOf d1 [vR (some a7), vI x1] h (some (vI xc9)) h2 ∧ d1 + 1 ≤ d ∧ (¬ xc9 = (0 : Int32) → (¬ x2 = (0 : Int32) → (x2 = (1 : Int32) → ea_W mX12_order d h0 rv hE 34 [(0, vR r0), (1, vI x1), (2, vI x2)] [] h2) ∧ (¬ x2 = (1 : Int32) → (¬ x2 = (2 : Int32) → a7 < ea_n h2 ∧ ea_c h2 a7 = 12 ∧ ∃ a14, (ea_r h2 a7 97) = some a14 ∧ a14 < ea_n h2 ∧ ea_c h2 a14 = 20 ∧ vp_in x1 (ea_l h2 a14) ∧ ∃ (d17 : Nat) (xc21 : Int32) (h18 : ea_H), ea_Met mX12_isIn d17 [vI x2, vI 10, vI ((9 : Int32) + (ea_i h2 a14 (Int32.toNatClampNeg x1)))] h2 (some (vI xc21)) h18 ∧ d17 + 1 ≤ d ∧ (xc21 = (0 : Int32) → a7 < ea_n h18 ∧ ea_c h18 a7 = 12 ∧ ∃ a26, (ea_r h18 a7 97) = some a26 ∧ a26 < ea_n h18 ∧ ea_c h18 a26 = 20 ∧ vp_in x1 (ea_l h18 a26) ∧ ∃ (d29 : Nat) (xc33 : Int32) (h30 : ea_H), ea_Met mX12_isIn d29 [vI x2, vI 20, vI ((19 : Int32) + (ea_i h18 a26 (Int32.toNatClampNeg x1)))] h18 (some (vI xc33)) h30 ∧ d29 + 1 ≤ d ∧ (xc33 = (0 : Int32) → rv = some (vJ (-1)) ∧ hE = h30) ∧ (¬ xc33 = (0 : Int32) → a7 < ea_n h30 ∧ ea_c h30 a7 = 12 ∧ a7 < ea_n h30 ∧ ea_c h30 a7 = 12 ∧ ∃ (d36 : Nat) (xc42 : Int32) (h37 : ea_H), ea_Met mX12_ordered d36 [vR (some a7), vI x1, vI (x2 - (20 : Int32))] h30 (some (vI xc42)) h37 ∧ d36 + 1 ≤ d ∧ ∃ a45, (ea_r h30 a7 99) = some a45 ∧ a45 < ea_n h37 ∧ ea_c h37 a45 = 20 ∧ vp_in xc42 (ea_l h37 a45) ∧ rv = some (vJ (Int32.toInt64 (ea_i h37 a45 (Int32.toNatClampNeg xc42)))) ∧ hE = h37)) ∧ (¬ xc21 = (0 : Int32) → a7 < ea_n h18 ∧ ea_c h18 a7 = 12 ∧ a7 < ea_n h18 ∧ ea_c h18 a7 = 12 ∧ ∃ (d51 : Nat) (xc57 : Int32) (h52 : ea_H), ea_Met mX12_ordered d51 [vR (some a7), vI x1, vI (x2 - (10 : Int32))] h18 (some (vI xc57)) h52 ∧ d51 + 1 ≤ d ∧ ∃ a60, (ea_r h18 a7 98) = some a60 ∧ a60 < ea_n h52 ∧ ea_c h52 a60 = 20 ∧ vp_in xc57 (ea_l h52 a60) ∧ rv = some (vJ (Int32.toInt64 (ea_i h52 a60 (Int32.toNatClampNeg xc57)))) ∧ hE = h52)) ∧ (x2 = (2 : Int32) → ea_W mX12_order d h0 rv hE 34 [(0, vR r0), (1, vI x1), (2, vI x2)] [] h2))) ∧ (x2 = (0 : Int32) → a7 < ea_n h2 ∧ ea_c h2 a7 = 12 ∧ ∃ a70, (ea_r h2 a7 97) = some a70 ∧ a70 < ea_n h2 ∧ ea_c h2 a70 = 20 ∧ vp_in x1 (ea_l h2 a70) ∧ rv = some (vJ (Int32.toInt64 (ea_i h2 a70 (Int32.toNatClampNeg x1)))) ∧ hE = h2)) ∧ (xc9 = (0 : Int32) → rv = some (vJ (-1)) ∧ hE = h2)) : ea_W mX12_order d h0 rv hE 0 [(0, vR r0), (1, vI x1), (2, vI x2)] [] h := by
  refine ea_aload_n (pc := 0) dX12_order_0 rfl 0 rfl ?_
  refine ea_iload_n (pc := 1) dX12_order_1 rfl 1 rfl ?_
  obtain ⟨a7, e8, f5, g6, H⟩ := H
  refine ea_deref1 e8 ?_
  obtain ⟨d1, xc9, h2, m3, q4, H⟩ := H
  refine ea_callV (pc := 2) (As := [vI x1]) (st := []) dX12_order_2 kX12_isLetterOf m3 q4 rfl (Nat.le_of_ble_eq_true rfl) ew_2019 ew_2021 ew_89 (ci := 12) rfl (by decide) f5 g6 ?_
  refine ea_if_ne (pc := 5) (tgt := 12) dX12_order_5 rfl (fun c74 => ?_) (fun c74 => ?_)
  · have H := H.1 c74
    refine ea_iload_n (pc := 12) dX12_order_12 rfl 2 rfl ?_
    refine ea_if_ne (pc := 13) (tgt := 24) dX12_order_13 rfl (fun c73 => ?_) (fun c73 => ?_)
    · have H := H.1 c73
      refine ea_iload_n (pc := 24) dX12_order_24 rfl 2 rfl ?_
      refine ea_iconst (pc := 25) dX12_order_25 (v := 1) rfl ?_
      refine ea_icmp_eq (pc := 26) (tgt := 34) dX12_order_26 rfl (fun c65 => ?_) (fun c65 => ?_)
      · have H := H.1 c65
        exact H
      · have H := H.2 c65
        refine ea_iload_n (pc := 29) dX12_order_29 rfl 2 rfl ?_
        refine ea_iconst (pc := 30) dX12_order_30 (v := 2) rfl ?_
        refine ea_icmp_ne (pc := 31) (tgt := 128) dX12_order_31 rfl (fun c64 => ?_) (fun c64 => ?_)
        · have H := H.1 c64
          refine ea_iload_n (pc := 128) dX12_order_128 rfl 2 rfl ?_
          refine ea_bipush (pc := 129) dX12_order_129 (v := 10) rfl ?_
          refine ea_bipush (pc := 131) dX12_order_131 (v := 9) rfl ?_
          refine ea_aload_n (pc := 133) dX12_order_133 rfl 0 rfl ?_
          obtain ⟨f10, g11, H⟩ := H
          refine ea_deref0 e8 ?_
          refine ea_getR (pc := 134) dX12_order_134 ec_12 (k := 97) (Nat.le_of_ble_eq_true rfl) rfl (Or.inl ew_1442) f10 g11 rfl ?_
          refine ea_iload_n (pc := 137) dX12_order_137 rfl 1 rfl ?_
          obtain ⟨a14, e15, f12, g13, H⟩ := H
          refine ea_deref1 e15 ?_
          obtain ⟨z16, H⟩ := H
          refine ea_iald (pc := 138) dX12_order_138 f12 g13 z16 ?_
          refine ea_iadd (pc := 139) dX12_order_139 ?_
          obtain ⟨d17, xc21, h18, m19, q20, H⟩ := H
          refine ea_callS (pc := 140) (As := [vI x2, vI 10, vI ((9 : Int32) + (ea_i h2 a14 (Int32.toNatClampNeg x1)))]) (st := []) dX12_order_140 kX12_isIn m19 q20 rfl (Nat.le_of_ble_eq_true rfl) ew_1712 ew_1713 ?_
          refine ea_if_eq (pc := 143) (tgt := 162) dX12_order_143 rfl (fun c63 => ?_) (fun c63 => ?_)
          · have H := H.1 c63
            refine ea_iload_n (pc := 162) dX12_order_162 rfl 2 rfl ?_
            refine ea_bipush (pc := 163) dX12_order_163 (v := 20) rfl ?_
            refine ea_bipush (pc := 165) dX12_order_165 (v := 19) rfl ?_
            refine ea_aload_n (pc := 167) dX12_order_167 rfl 0 rfl ?_
            obtain ⟨f22, g23, H⟩ := H
            refine ea_deref0 e8 ?_
            refine ea_getR (pc := 168) dX12_order_168 ec_12 (k := 97) (Nat.le_of_ble_eq_true rfl) rfl (Or.inl ew_1442) f22 g23 rfl ?_
            refine ea_iload_n (pc := 171) dX12_order_171 rfl 1 rfl ?_
            obtain ⟨a26, e27, f24, g25, H⟩ := H
            refine ea_deref1 e27 ?_
            obtain ⟨z28, H⟩ := H
            refine ea_iald (pc := 172) dX12_order_172 f24 g25 z28 ?_
            refine ea_iadd (pc := 173) dX12_order_173 ?_
            obtain ⟨d29, xc33, h30, m31, q32, H⟩ := H
            refine ea_callS (pc := 174) (As := [vI x2, vI 20, vI ((19 : Int32) + (ea_i h18 a26 (Int32.toNatClampNeg x1)))]) (st := []) dX12_order_174 kX12_isIn m31 q32 rfl (Nat.le_of_ble_eq_true rfl) ew_1712 ew_1713 ?_
            refine ea_if_eq (pc := 177) (tgt := 198) dX12_order_177 rfl (fun c48 => ?_) (fun c48 => ?_)
            · have H := H.1 c48
              refine ea_ldc2 (pc := 198) dX12_order_198 ew_2118 ?_
              obtain ⟨rfl, rfl⟩ := H
              exact ea_lreturn (pc := 201) dX12_order_201 rfl
            · have H := H.2 c48
              refine ea_aload_n (pc := 180) dX12_order_180 rfl 0 rfl ?_
              obtain ⟨f34, g35, H⟩ := H
              refine ea_deref0 e8 ?_
              refine ea_getR (pc := 181) dX12_order_181 ec_12 (k := 99) (Nat.le_of_ble_eq_true rfl) rfl (Or.inl ew_1444) f34 g35 rfl ?_
              refine ea_aload_n (pc := 184) dX12_order_184 rfl 0 rfl ?_
              refine ea_iload_n (pc := 185) dX12_order_185 rfl 1 rfl ?_
              refine ea_iload_n (pc := 186) dX12_order_186 rfl 2 rfl ?_
              refine ea_bipush (pc := 187) dX12_order_187 (v := 20) rfl ?_
              refine ea_isub (pc := 189) dX12_order_189 ?_
              obtain ⟨f40, g41, H⟩ := H
              refine ea_deref2 e8 ?_
              obtain ⟨d36, xc42, h37, m38, q39, H⟩ := H
              refine ea_callV (pc := 190) (As := [vI x1, vI (x2 - (20 : Int32))]) (st := [vR (ea_r h30 a7 99)]) dX12_order_190 kX12_ordered m38 q39 rfl (Nat.le_of_ble_eq_true rfl) ew_2123 ew_2125 ew_101 (ci := 12) rfl (by decide) f40 g41 ?_
              obtain ⟨a45, e46, f43, g44, H⟩ := H
              refine ea_deref1 e46 ?_
              obtain ⟨z47, H⟩ := H
              refine ea_iald (pc := 193) dX12_order_193 f43 g44 z47 ?_
              refine ea_i2l (pc := 194) dX12_order_194 ?_
              refine ea_goto (pc := 195) (tgt := 201) dX12_order_195 rfl ?_
              obtain ⟨rfl, rfl⟩ := H
              exact ea_lreturn (pc := 201) dX12_order_201 rfl
          · have H := H.2 c63
            refine ea_aload_n (pc := 146) dX12_order_146 rfl 0 rfl ?_
            obtain ⟨f49, g50, H⟩ := H
            refine ea_deref0 e8 ?_
            refine ea_getR (pc := 147) dX12_order_147 ec_12 (k := 98) (Nat.le_of_ble_eq_true rfl) rfl (Or.inl ew_1443) f49 g50 rfl ?_
            refine ea_aload_n (pc := 150) dX12_order_150 rfl 0 rfl ?_
            refine ea_iload_n (pc := 151) dX12_order_151 rfl 1 rfl ?_
            refine ea_iload_n (pc := 152) dX12_order_152 rfl 2 rfl ?_
            refine ea_bipush (pc := 153) dX12_order_153 (v := 10) rfl ?_
            refine ea_isub (pc := 155) dX12_order_155 ?_
            obtain ⟨f55, g56, H⟩ := H
            refine ea_deref2 e8 ?_
            obtain ⟨d51, xc57, h52, m53, q54, H⟩ := H
            refine ea_callV (pc := 156) (As := [vI x1, vI (x2 - (10 : Int32))]) (st := [vR (ea_r h18 a7 98)]) dX12_order_156 kX12_ordered m53 q54 rfl (Nat.le_of_ble_eq_true rfl) ew_2123 ew_2125 ew_101 (ci := 12) rfl (by decide) f55 g56 ?_
            obtain ⟨a60, e61, f58, g59, H⟩ := H
            refine ea_deref1 e61 ?_
            obtain ⟨z62, H⟩ := H
            refine ea_iald (pc := 159) dX12_order_159 f58 g59 z62 ?_
            refine ea_i2l (pc := 160) dX12_order_160 ?_
            obtain ⟨rfl, rfl⟩ := H
            exact ea_lreturn (pc := 161) dX12_order_161 rfl
        · have H := H.2 c64
          exact H
    · have H := H.2 c73
      refine ea_aload_n (pc := 16) dX12_order_16 rfl 0 rfl ?_
      obtain ⟨f66, g67, H⟩ := H
      refine ea_deref0 e8 ?_
      refine ea_getR (pc := 17) dX12_order_17 ec_12 (k := 97) (Nat.le_of_ble_eq_true rfl) rfl (Or.inl ew_1442) f66 g67 rfl ?_
      refine ea_iload_n (pc := 20) dX12_order_20 rfl 1 rfl ?_
      obtain ⟨a70, e71, f68, g69, H⟩ := H
      refine ea_deref1 e71 ?_
      obtain ⟨z72, H⟩ := H
      refine ea_iald (pc := 21) dX12_order_21 f68 g69 z72 ?_
      refine ea_i2l (pc := 22) dX12_order_22 ?_
      obtain ⟨rfl, rfl⟩ := H
      exact ea_lreturn (pc := 23) dX12_order_23 rfl
  · have H := H.2 c74
    refine ea_ldc2 (pc := 8) dX12_order_8 ew_2118 ?_
    obtain ⟨rfl, rfl⟩ := H
    exact ea_lreturn (pc := 11) dX12_order_11 rfl
theorem bX12_order_34 {d : Nat} {h0 hE h : ea_H} {rv : Option ea_V} {r0 : Option Nat} {x1 : Int32} {x2 : Int32} (H : ∃ a3, r0 = some a3 ∧ a3 < ea_n h ∧ ea_c h a3 = 12 ∧ ∃ a7, (ea_r h a3 97) = some a7 ∧ a7 < ea_n h ∧ ea_c h a7 = 20 ∧ vp_in x1 (ea_l h a7) ∧ (¬ (ea_i h a7 (Int32.toNatClampNeg x1)) = (0 : Int32) → ea_W mX12_order d h0 rv hE 55 [(0, vR r0), (1, vI x1), (2, vI x2), (3, vJ 1), (5, vJ 1), (7, vI 0)] [] h) ∧ ((ea_i h a7 (Int32.toNatClampNeg x1)) = (0 : Int32) → rv = some (vJ (-1)) ∧ hE = h)) : ea_W mX12_order d h0 rv hE 34 [(0, vR r0), (1, vI x1), (2, vI x2)] [] h := by
  refine ea_aload_n (pc := 34) dX12_order_34 rfl 0 rfl ?_
  obtain ⟨a3, e4, f1, g2, H⟩ := H
  refine ea_deref0 e4 ?_
  refine ea_getR (pc := 35) dX12_order_35 ec_12 (k := 97) (Nat.le_of_ble_eq_true rfl) rfl (Or.inl ew_1442) f1 g2 rfl ?_
  refine ea_iload_n (pc := 38) dX12_order_38 rfl 1 rfl ?_
  obtain ⟨a7, e8, f5, g6, H⟩ := H
  refine ea_deref1 e8 ?_
  obtain ⟨z9, H⟩ := H
  refine ea_iald (pc := 39) dX12_order_39 f5 g6 z9 ?_
  refine ea_if_ne (pc := 40) (tgt := 47) dX12_order_40 rfl (fun c10 => ?_) (fun c10 => ?_)
  · have H := H.1 c10
    refine ea_lconst (pc := 47) dX12_order_47 (v := 1) rfl ?_
    refine ea_lstore_n (pc := 48) (lv' := [(0, vR r0), (1, vI x1), (2, vI x2), (3, vJ 1)]) dX12_order_48 rfl (Nat.le_of_ble_eq_true rfl) [1, 2, 3, 0] rfl ?_
    refine ea_lconst (pc := 49) dX12_order_49 (v := 1) rfl ?_
    refine ea_lstore (pc := 50) (lv' := [(0, vR r0), (1, vI x1), (2, vI x2), (3, vJ 1), (5, vJ 1)]) dX12_order_50 (Nat.le_of_ble_eq_true rfl) [1, 2, 3, 4, 0] rfl ?_
    refine ea_iconst (pc := 52) dX12_order_52 (v := 0) rfl ?_
    refine ea_istore (pc := 53) (lv' := [(0, vR r0), (1, vI x1), (2, vI x2), (3, vJ 1), (5, vJ 1), (7, vI 0)]) dX12_order_53 (Nat.le_of_ble_eq_true rfl) [1, 2, 3, 4, 5, 0] rfl ?_
    exact H
  · have H := H.2 c10
    refine ea_ldc2 (pc := 43) dX12_order_43 ew_2118 ?_
    obtain ⟨rfl, rfl⟩ := H
    exact ea_lreturn (pc := 46) dX12_order_46 rfl
theorem bX12_order_55 {d : Nat} {h0 hE h : ea_H} {rv : Option ea_V} {r0 : Option Nat} {x1 : Int32} {x2 : Int32} {y3 : Int64} {y5 : Int64} {x7 : Int32} (H : ∃ a3, r0 = some a3 ∧ a3 < ea_n h ∧ ea_c h a3 = 12 ∧ ∃ a7, (ea_r h a3 97) = some a7 ∧ a7 < ea_n h ∧ ea_c h a7 = 20 ∧ vp_in x1 (ea_l h a7) ∧ ((ea_i h a7 (Int32.toNatClampNeg x1)) ≤ x7 → ∃ (d10 : Nat) (yc14 : Int64) (h11 : ea_H), ea_Met mX12_common d10 [vJ (y3 - y5), vJ y3] h (some (vJ yc14)) h11 ∧ d10 + 1 ≤ d ∧ (¬ x2 = (1 : Int32) → (¬ yc14 = 0) ∧ rv = some (vJ (y3 / yc14)) ∧ hE = h11) ∧ (x2 = (1 : Int32) → (¬ yc14 = 0) ∧ rv = some (vJ ((y3 - y5) / yc14)) ∧ hE = h11)) ∧ (¬ (ea_i h a7 (Int32.toNatClampNeg x1)) ≤ x7 → a3 < ea_n h ∧ ea_c h a3 = 12 ∧ ∃ a22, (ea_r h a3 99) = some a22 ∧ a22 < ea_n h ∧ ea_c h a22 = 20 ∧ vp_in (((4 : Int32) * x1) + x7) (ea_l h a22) ∧ ea_W mX12_order d h0 rv hE 55 [(0, vR r0), (1, vI x1), (2, vI x2), (3, vJ (y3 * (100 : Int64))), (5, vJ (y5 * (Int32.toInt64 ((100 : Int32) - (ea_i h a22 (Int32.toNatClampNeg (((4 : Int32) * x1) + x7))))))), (7, vI (x7 + 1))] [] h)) : ea_W mX12_order d h0 rv hE 55 [(0, vR r0), (1, vI x1), (2, vI x2), (3, vJ y3), (5, vJ y5), (7, vI x7)] [] h := by
  refine ea_iload (pc := 55) dX12_order_55 5 rfl ?_
  refine ea_aload_n (pc := 57) dX12_order_57 rfl 0 rfl ?_
  obtain ⟨a3, e4, f1, g2, H⟩ := H
  refine ea_deref0 e4 ?_
  refine ea_getR (pc := 58) dX12_order_58 ec_12 (k := 97) (Nat.le_of_ble_eq_true rfl) rfl (Or.inl ew_1442) f1 g2 rfl ?_
  refine ea_iload_n (pc := 61) dX12_order_61 rfl 1 rfl ?_
  obtain ⟨a7, e8, f5, g6, H⟩ := H
  refine ea_deref1 e8 ?_
  obtain ⟨z9, H⟩ := H
  refine ea_iald (pc := 62) dX12_order_62 f5 g6 z9 ?_
  refine ea_icmp_ge (pc := 63) (tgt := 98) dX12_order_63 rfl (fun c25 => ?_) (fun c25 => ?_)
  · have H := H.1 c25
    refine ea_lload_n (pc := 98) dX12_order_98 rfl 3 rfl ?_
    refine ea_lload (pc := 99) dX12_order_99 4 rfl ?_
    refine ea_lsub (pc := 101) dX12_order_101 ?_
    refine ea_lload_n (pc := 102) dX12_order_102 rfl 3 rfl ?_
    obtain ⟨d10, yc14, h11, m12, q13, H⟩ := H
    refine ea_callS (pc := 103) (As := [vJ (y3 - y5), vJ y3]) (st := []) dX12_order_103 kX12_common m12 q13 rfl (Nat.le_of_ble_eq_true rfl) ew_2120 ew_2121 ?_
    refine ea_lstore (pc := 106) (lv' := [(2, vI x2), (3, vJ y3), (5, vJ y5), (7, vJ yc14)]) dX12_order_106 (Nat.le_of_ble_eq_true rfl) [3, 4, 5, 0] rfl ?_
    refine ea_iload_n (pc := 108) dX12_order_108 rfl 0 rfl ?_
    refine ea_iconst (pc := 109) dX12_order_109 (v := 1) rfl ?_
    refine ea_icmp_ne (pc := 110) (tgt := 123) dX12_order_110 rfl (fun c17 => ?_) (fun c17 => ?_)
    · have H := H.1 c17
      refine ea_lload_n (pc := 123) dX12_order_123 rfl 1 rfl ?_
      refine ea_lload (pc := 124) dX12_order_124 3 rfl ?_
      obtain ⟨z15, H⟩ := H
      refine ea_ldiv (pc := 126) dX12_order_126 z15 ?_
      obtain ⟨rfl, rfl⟩ := H
      exact ea_lreturn (pc := 127) dX12_order_127 rfl
    · have H := H.2 c17
      refine ea_lload_n (pc := 113) dX12_order_113 rfl 1 rfl ?_
      refine ea_lload (pc := 114) dX12_order_114 2 rfl ?_
      refine ea_lsub (pc := 116) dX12_order_116 ?_
      refine ea_lload (pc := 117) dX12_order_117 3 rfl ?_
      obtain ⟨z16, H⟩ := H
      refine ea_ldiv (pc := 119) dX12_order_119 z16 ?_
      refine ea_goto (pc := 120) (tgt := 127) dX12_order_120 rfl ?_
      obtain ⟨rfl, rfl⟩ := H
      exact ea_lreturn (pc := 127) dX12_order_127 rfl
  · have H := H.2 c25
    refine ea_lload_n (pc := 66) dX12_order_66 rfl 3 rfl ?_
    refine ea_ldc2 (pc := 67) dX12_order_67 ew_2119 ?_
    refine ea_lmul (pc := 70) dX12_order_70 ?_
    refine ea_lstore_n (pc := 71) (lv' := [(0, vR r0), (1, vI x1), (2, vI x2), (3, vJ (y3 * (100 : Int64))), (5, vJ y5), (7, vI x7)]) dX12_order_71 rfl (Nat.le_of_ble_eq_true rfl) [1, 2, 3, 0, 4, 5] rfl ?_
    refine ea_lload (pc := 72) dX12_order_72 4 rfl ?_
    refine ea_bipush (pc := 74) dX12_order_74 (v := 100) rfl ?_
    refine ea_aload_n (pc := 76) dX12_order_76 rfl 0 rfl ?_
    obtain ⟨f18, g19, H⟩ := H
    refine ea_deref0 e4 ?_
    refine ea_getR (pc := 77) dX12_order_77 ec_12 (k := 99) (Nat.le_of_ble_eq_true rfl) rfl (Or.inl ew_1444) f18 g19 rfl ?_
    refine ea_iconst (pc := 80) dX12_order_80 (v := 4) rfl ?_
    refine ea_iload_n (pc := 81) dX12_order_81 rfl 1 rfl ?_
    refine ea_imul (pc := 82) dX12_order_82 ?_
    refine ea_iload (pc := 83) dX12_order_83 5 rfl ?_
    refine ea_iadd (pc := 85) dX12_order_85 ?_
    obtain ⟨a22, e23, f20, g21, H⟩ := H
    refine ea_deref1 e23 ?_
    obtain ⟨z24, H⟩ := H
    refine ea_iald (pc := 86) dX12_order_86 f20 g21 z24 ?_
    refine ea_isub (pc := 87) dX12_order_87 ?_
    refine ea_i2l (pc := 88) dX12_order_88 ?_
    refine ea_lmul (pc := 89) dX12_order_89 ?_
    refine ea_lstore (pc := 90) (lv' := [(0, vR r0), (1, vI x1), (2, vI x2), (3, vJ (y3 * (100 : Int64))), (5, vJ (y5 * (Int32.toInt64 ((100 : Int32) - (ea_i h a22 (Int32.toNatClampNeg (((4 : Int32) * x1) + x7))))))), (7, vI x7)]) dX12_order_90 (Nat.le_of_ble_eq_true rfl) [1, 2, 3, 4, 0, 5] rfl ?_
    refine ea_iinc (pc := 92) (v := 1) (lv' := [(0, vR r0), (1, vI x1), (2, vI x2), (3, vJ (y3 * (100 : Int64))), (5, vJ (y5 * (Int32.toInt64 ((100 : Int32) - (ea_i h a22 (Int32.toNatClampNeg (((4 : Int32) * x1) + x7))))))), (7, vI (x7 + 1))]) dX12_order_92 5 rfl rfl (Nat.le_of_ble_eq_true rfl) [1, 2, 3, 4, 5, 0] rfl ?_
    refine ea_goto (pc := 95) (tgt := 55) dX12_order_95 rfl ?_
    exact H
theorem dX12_found_0 : decode cX12_found 0 = .ok (.aload_n 0, 1) := by decide +kernel
theorem dX12_found_1 : decode cX12_found 1 = .ok (.iload_n 1, 1) := by decide +kernel
theorem dX12_found_2 : decode cX12_found 2 = .ok (.invokevirtual 563, 3) := by decide +kernel
theorem dX12_found_5 : decode cX12_found 5 = .ok (.ifCond .eq 13, 3) := by decide +kernel
theorem dX12_found_8 : decode cX12_found 8 = .ok (.aload_n 0, 1) := by decide +kernel
theorem dX12_found_9 : decode cX12_found 9 = .ok (.getfield 177, 3) := by decide +kernel
theorem dX12_found_12 : decode cX12_found 12 = .ok (.iload_n 1, 1) := by decide +kernel
theorem dX12_found_13 : decode cX12_found 13 = .ok (.iaload, 1) := by decide +kernel
theorem dX12_found_14 : decode cX12_found 14 = .ok (.iconst 3, 1) := by decide +kernel
theorem dX12_found_15 : decode cX12_found 15 = .ok (.if_icmp .eq 5, 3) := by decide +kernel
theorem dX12_found_18 : decode cX12_found 18 = .ok (.iconst 0, 1) := by decide +kernel
theorem dX12_found_19 : decode cX12_found 19 = .ok (.ireturn, 1) := by decide +kernel
theorem dX12_found_20 : decode cX12_found 20 = .ok (.iconst 0, 1) := by decide +kernel
theorem dX12_found_21 : decode cX12_found 21 = .ok (.istore_n 3, 1) := by decide +kernel
theorem dX12_found_22 : decode cX12_found 22 = .ok (.iload_n 3, 1) := by decide +kernel
theorem dX12_found_23 : decode cX12_found 23 = .ok (.aload_n 0, 1) := by decide +kernel
theorem dX12_found_24 : decode cX12_found 24 = .ok (.getfield 223, 3) := by decide +kernel
theorem dX12_found_27 : decode cX12_found 27 = .ok (.iload_n 1, 1) := by decide +kernel
theorem dX12_found_28 : decode cX12_found 28 = .ok (.iaload, 1) := by decide +kernel
theorem dX12_found_29 : decode cX12_found 29 = .ok (.if_icmp .ge 39, 3) := by decide +kernel
theorem dX12_found_32 : decode cX12_found 32 = .ok (.aload_n 0, 1) := by decide +kernel
theorem dX12_found_33 : decode cX12_found 33 = .ok (.getfield 226, 3) := by decide +kernel
theorem dX12_found_36 : decode cX12_found 36 = .ok (.iconst 4, 1) := by decide +kernel
theorem dX12_found_37 : decode cX12_found 37 = .ok (.iload_n 1, 1) := by decide +kernel
theorem dX12_found_38 : decode cX12_found 38 = .ok (.imul, 1) := by decide +kernel
theorem dX12_found_39 : decode cX12_found 39 = .ok (.iload_n 3, 1) := by decide +kernel
theorem dX12_found_40 : decode cX12_found 40 = .ok (.iadd, 1) := by decide +kernel
theorem dX12_found_41 : decode cX12_found 41 = .ok (.iaload, 1) := by decide +kernel
theorem dX12_found_42 : decode cX12_found 42 = .ok (.iload_n 2, 1) := by decide +kernel
theorem dX12_found_43 : decode cX12_found 43 = .ok (.if_icmp .eq 6, 3) := by decide +kernel
theorem dX12_found_46 : decode cX12_found 46 = .ok (.goto 16, 3) := by decide +kernel
theorem dX12_found_49 : decode cX12_found 49 = .ok (.aload_n 0, 1) := by decide +kernel
theorem dX12_found_50 : decode cX12_found 50 = .ok (.iload_n 1, 1) := by decide +kernel
theorem dX12_found_51 : decode cX12_found 51 = .ok (.aload_n 0, 1) := by decide +kernel
theorem dX12_found_52 : decode cX12_found 52 = .ok (.getfield 313, 3) := by decide +kernel
theorem dX12_found_55 : decode cX12_found 55 = .ok (.iconst 5, 1) := by decide +kernel
theorem dX12_found_56 : decode cX12_found 56 = .ok (.iload_n 2, 1) := by decide +kernel
theorem dX12_found_57 : decode cX12_found 57 = .ok (.invokevirtual 556, 3) := by decide +kernel
theorem dX12_found_60 : decode cX12_found 60 = .ok (.iconst 1, 1) := by decide +kernel
theorem dX12_found_61 : decode cX12_found 61 = .ok (.ireturn, 1) := by decide +kernel
theorem dX12_found_62 : decode cX12_found 62 = .ok (.iinc 3 1, 3) := by decide +kernel
theorem dX12_found_65 : decode cX12_found 65 = .ok (.goto (-43), 3) := by decide +kernel
theorem dX12_found_68 : decode cX12_found 68 = .ok (.iconst 0, 1) := by decide +kernel
theorem dX12_found_69 : decode cX12_found 69 = .ok (.ireturn, 1) := by decide +kernel
theorem bX12_found_0 {d : Nat} {h0 hE h : ea_H} {rv : Option ea_V} {r0 : Option Nat} {x1 : Int32} {x2 : Int32} (H : ∃ a7, r0 = some a7 ∧ a7 < ea_n h ∧ ea_c h a7 = 12 ∧ ∃ (d1 : Nat) (xc9 : Int32) (h2 : ea_H), ea_Met mX12_isLetterOf d1 [vR (some a7), vI x1] h (some (vI xc9)) h2 ∧ d1 + 1 ≤ d ∧ (xc9 = (0 : Int32) → rv = some (vI 0) ∧ hE = h2) ∧ (¬ xc9 = (0 : Int32) → a7 < ea_n h2 ∧ ea_c h2 a7 = 12 ∧ ∃ a14, (ea_r h2 a7 81) = some a14 ∧ a14 < ea_n h2 ∧ ea_c h2 a14 = 20 ∧ vp_in x1 (ea_l h2 a14) ∧ ((ea_i h2 a14 (Int32.toNatClampNeg x1)) = (3 : Int32) → ea_W mX12_found d h0 rv hE 22 [(0, vR r0), (1, vI x1), (2, vI x2), (3, vI 0)] [] h2) ∧ (¬ (ea_i h2 a14 (Int32.toNatClampNeg x1)) = (3 : Int32) → rv = some (vI 0) ∧ hE = h2))) : ea_W mX12_found d h0 rv hE 0 [(0, vR r0), (1, vI x1), (2, vI x2)] [] h := by
  refine ea_aload_n (pc := 0) dX12_found_0 rfl 0 rfl ?_
  refine ea_iload_n (pc := 1) dX12_found_1 rfl 1 rfl ?_
  obtain ⟨a7, e8, f5, g6, H⟩ := H
  refine ea_deref1 e8 ?_
  obtain ⟨d1, xc9, h2, m3, q4, H⟩ := H
  refine ea_callV (pc := 2) (As := [vI x1]) (st := []) dX12_found_2 kX12_isLetterOf m3 q4 rfl (Nat.le_of_ble_eq_true rfl) ew_2019 ew_2021 ew_89 (ci := 12) rfl (by decide) f5 g6 ?_
  refine ea_if_eq (pc := 5) (tgt := 18) dX12_found_5 rfl (fun c18 => ?_) (fun c18 => ?_)
  · have H := H.1 c18
    refine ea_iconst (pc := 18) dX12_found_18 (v := 0) rfl ?_
    obtain ⟨rfl, rfl⟩ := H
    exact ea_ireturn (pc := 19) dX12_found_19 rfl (ea_bn (Or.inl rfl))
  · have H := H.2 c18
    refine ea_aload_n (pc := 8) dX12_found_8 rfl 0 rfl ?_
    obtain ⟨f10, g11, H⟩ := H
    refine ea_deref0 e8 ?_
    refine ea_getR (pc := 9) dX12_found_9 ec_12 (k := 81) (Nat.le_of_ble_eq_true rfl) rfl (Or.inl ew_1426) f10 g11 rfl ?_
    refine ea_iload_n (pc := 12) dX12_found_12 rfl 1 rfl ?_
    obtain ⟨a14, e15, f12, g13, H⟩ := H
    refine ea_deref1 e15 ?_
    obtain ⟨z16, H⟩ := H
    refine ea_iald (pc := 13) dX12_found_13 f12 g13 z16 ?_
    refine ea_iconst (pc := 14) dX12_found_14 (v := 3) rfl ?_
    refine ea_icmp_eq (pc := 15) (tgt := 20) dX12_found_15 rfl (fun c17 => ?_) (fun c17 => ?_)
    · have H := H.1 c17
      refine ea_iconst (pc := 20) dX12_found_20 (v := 0) rfl ?_
      refine ea_istore_n (pc := 21) (lv' := [(0, vR r0), (1, vI x1), (2, vI x2), (3, vI 0)]) dX12_found_21 rfl (Nat.le_of_ble_eq_true rfl) [1, 2, 3, 0] rfl ?_
      exact H
    · have H := H.2 c17
      refine ea_iconst (pc := 18) dX12_found_18 (v := 0) rfl ?_
      obtain ⟨rfl, rfl⟩ := H
      exact ea_ireturn (pc := 19) dX12_found_19 rfl (ea_bn (Or.inl rfl))
theorem bX12_found_22 {d : Nat} {h0 hE h : ea_H} {rv : Option ea_V} {r0 : Option Nat} {x1 : Int32} {x2 : Int32} {x3 : Int32} (H : ∃ a3, r0 = some a3 ∧ a3 < ea_n h ∧ ea_c h a3 = 12 ∧ ∃ a7, (ea_r h a3 97) = some a7 ∧ a7 < ea_n h ∧ ea_c h a7 = 20 ∧ vp_in x1 (ea_l h a7) ∧ ((ea_i h a7 (Int32.toNatClampNeg x1)) ≤ x3 → rv = some (vI 0) ∧ hE = h) ∧ (¬ (ea_i h a7 (Int32.toNatClampNeg x1)) ≤ x3 → a3 < ea_n h ∧ ea_c h a3 = 12 ∧ ∃ a14, (ea_r h a3 98) = some a14 ∧ a14 < ea_n h ∧ ea_c h a14 = 20 ∧ vp_in (((4 : Int32) * x1) + x3) (ea_l h a14) ∧ ((ea_i h a14 (Int32.toNatClampNeg (((4 : Int32) * x1) + x3))) = x2 → a3 < ea_n h ∧ ea_c h a3 = 12 ∧ a3 < ea_n h ∧ ea_c h a3 = 12 ∧ ∃ (d19 : Nat) (h20 : ea_H), ea_Met mX12_turns d19 [vR (some a3), vI x1, vI (ea_i h a3 0), vI 5, vI x2] h none h20 ∧ d19 + 1 ≤ d ∧ rv = some (vI 1) ∧ hE = h20) ∧ (¬ (ea_i h a14 (Int32.toNatClampNeg (((4 : Int32) * x1) + x3))) = x2 → ea_W mX12_found d h0 rv hE 22 [(0, vR r0), (1, vI x1), (2, vI x2), (3, vI (x3 + 1))] [] h))) : ea_W mX12_found d h0 rv hE 22 [(0, vR r0), (1, vI x1), (2, vI x2), (3, vI x3)] [] h := by
  refine ea_iload_n (pc := 22) dX12_found_22 rfl 3 rfl ?_
  refine ea_aload_n (pc := 23) dX12_found_23 rfl 0 rfl ?_
  obtain ⟨a3, e4, f1, g2, H⟩ := H
  refine ea_deref0 e4 ?_
  refine ea_getR (pc := 24) dX12_found_24 ec_12 (k := 97) (Nat.le_of_ble_eq_true rfl) rfl (Or.inl ew_1442) f1 g2 rfl ?_
  refine ea_iload_n (pc := 27) dX12_found_27 rfl 1 rfl ?_
  obtain ⟨a7, e8, f5, g6, H⟩ := H
  refine ea_deref1 e8 ?_
  obtain ⟨z9, H⟩ := H
  refine ea_iald (pc := 28) dX12_found_28 f5 g6 z9 ?_
  refine ea_icmp_ge (pc := 29) (tgt := 68) dX12_found_29 rfl (fun c26 => ?_) (fun c26 => ?_)
  · have H := H.1 c26
    refine ea_iconst (pc := 68) dX12_found_68 (v := 0) rfl ?_
    obtain ⟨rfl, rfl⟩ := H
    exact ea_ireturn (pc := 69) dX12_found_69 rfl (ea_bn (Or.inl rfl))
  · have H := H.2 c26
    refine ea_aload_n (pc := 32) dX12_found_32 rfl 0 rfl ?_
    obtain ⟨f10, g11, H⟩ := H
    refine ea_deref0 e4 ?_
    refine ea_getR (pc := 33) dX12_found_33 ec_12 (k := 98) (Nat.le_of_ble_eq_true rfl) rfl (Or.inl ew_1443) f10 g11 rfl ?_
    refine ea_iconst (pc := 36) dX12_found_36 (v := 4) rfl ?_
    refine ea_iload_n (pc := 37) dX12_found_37 rfl 1 rfl ?_
    refine ea_imul (pc := 38) dX12_found_38 ?_
    refine ea_iload_n (pc := 39) dX12_found_39 rfl 3 rfl ?_
    refine ea_iadd (pc := 40) dX12_found_40 ?_
    obtain ⟨a14, e15, f12, g13, H⟩ := H
    refine ea_deref1 e15 ?_
    obtain ⟨z16, H⟩ := H
    refine ea_iald (pc := 41) dX12_found_41 f12 g13 z16 ?_
    refine ea_iload_n (pc := 42) dX12_found_42 rfl 2 rfl ?_
    refine ea_icmp_eq (pc := 43) (tgt := 49) dX12_found_43 rfl (fun c25 => ?_) (fun c25 => ?_)
    · have H := H.1 c25
      refine ea_aload_n (pc := 49) dX12_found_49 rfl 0 rfl ?_
      refine ea_iload_n (pc := 50) dX12_found_50 rfl 1 rfl ?_
      refine ea_aload_n (pc := 51) dX12_found_51 rfl 0 rfl ?_
      obtain ⟨f17, g18, H⟩ := H
      refine ea_deref0 e4 ?_
      refine ea_getI (pc := 52) dX12_found_52 ec_12 (k := 0) (Nat.le_of_ble_eq_true rfl) rfl (Or.inl ew_1345) f17 g18 ?_
      refine ea_iconst (pc := 55) dX12_found_55 (v := 5) rfl ?_
      refine ea_iload_n (pc := 56) dX12_found_56 rfl 2 rfl ?_
      obtain ⟨f23, g24, H⟩ := H
      refine ea_deref4 e4 ?_
      obtain ⟨d19, h20, m21, q22, H⟩ := H
      refine ea_callV (pc := 57) (As := [vI x1, vI (ea_i h a3 0), vI 5, vI x2]) (st := []) dX12_found_57 kX12_turns m21 q22 rfl (Nat.le_of_ble_eq_true rfl) ew_2011 ew_2013 ew_88 (ci := 12) rfl (by decide) f23 g24 ?_
      refine ea_iconst (pc := 60) dX12_found_60 (v := 1) rfl ?_
      obtain ⟨rfl, rfl⟩ := H
      exact ea_ireturn (pc := 61) dX12_found_61 rfl (ea_bn (Or.inr rfl))
    · have H := H.2 c25
      refine ea_goto (pc := 46) (tgt := 62) dX12_found_46 rfl ?_
      refine ea_iinc (pc := 62) (v := 1) (lv' := [(0, vR r0), (1, vI x1), (2, vI x2), (3, vI (x3 + 1))]) dX12_found_62 3 rfl rfl (Nat.le_of_ble_eq_true rfl) [1, 2, 3, 0] rfl ?_
      refine ea_goto (pc := 65) (tgt := 22) dX12_found_65 rfl ?_
      exact H
theorem dX12_rob_0 : decode cX12_rob 0 = .ok (.aload_n 0, 1) := by decide +kernel
theorem dX12_rob_1 : decode cX12_rob 1 = .ok (.iload_n 1, 1) := by decide +kernel
theorem dX12_rob_2 : decode cX12_rob 2 = .ok (.invokevirtual 310, 3) := by decide +kernel
theorem dX12_rob_5 : decode cX12_rob 5 = .ok (.ifCond .eq 19, 3) := by decide +kernel
theorem dX12_rob_8 : decode cX12_rob 8 = .ok (.iload_n 2, 1) := by decide +kernel
theorem dX12_rob_9 : decode cX12_rob 9 = .ok (.invokestatic 316, 3) := by decide +kernel
theorem dX12_rob_12 : decode cX12_rob 12 = .ok (.ifCond .eq 12, 3) := by decide +kernel
theorem dX12_rob_15 : decode cX12_rob 15 = .ok (.aload_n 0, 1) := by decide +kernel
theorem dX12_rob_16 : decode cX12_rob 16 = .ok (.getfield 614, 3) := by decide +kernel
theorem dX12_rob_19 : decode cX12_rob 19 = .ok (.bipush 20, 2) := by decide +kernel
theorem dX12_rob_21 : decode cX12_rob 21 = .ok (.if_icmp .ne 5, 3) := by decide +kernel
theorem dX12_rob_24 : decode cX12_rob 24 = .ok (.iconst (-1), 1) := by decide +kernel
theorem dX12_rob_25 : decode cX12_rob 25 = .ok (.ireturn, 1) := by decide +kernel
theorem dX12_rob_26 : decode cX12_rob 26 = .ok (.iload_n 1, 1) := by decide +kernel
theorem dX12_rob_27 : decode cX12_rob 27 = .ok (.iload_n 2, 1) := by decide +kernel
theorem dX12_rob_28 : decode cX12_rob 28 = .ok (.invokestatic 322, 3) := by decide +kernel
theorem dX12_rob_31 : decode cX12_rob 31 = .ok (.istore_n 3, 1) := by decide +kernel
theorem dX12_rob_32 : decode cX12_rob 32 = .ok (.aload_n 0, 1) := by decide +kernel
theorem dX12_rob_33 : decode cX12_rob 33 = .ok (.iload_n 3, 1) := by decide +kernel
theorem dX12_rob_34 : decode cX12_rob 34 = .ok (.invokevirtual 597, 3) := by decide +kernel
theorem dX12_rob_37 : decode cX12_rob 37 = .ok (.istore 4, 2) := by decide +kernel
theorem dX12_rob_39 : decode cX12_rob 39 = .ok (.iload 4, 2) := by decide +kernel
theorem dX12_rob_41 : decode cX12_rob 41 = .ok (.iconst (-1), 1) := by decide +kernel
theorem dX12_rob_42 : decode cX12_rob 42 = .ok (.if_icmp .eq 19, 3) := by decide +kernel
theorem dX12_rob_45 : decode cX12_rob 45 = .ok (.aload_n 0, 1) := by decide +kernel
theorem dX12_rob_46 : decode cX12_rob 46 = .ok (.iload_n 3, 1) := by decide +kernel
theorem dX12_rob_47 : decode cX12_rob 47 = .ok (.iload 4, 2) := by decide +kernel
theorem dX12_rob_49 : decode cX12_rob 49 = .ok (.iconst 1, 1) := by decide +kernel
theorem dX12_rob_50 : decode cX12_rob 50 = .ok (.iadd, 1) := by decide +kernel
theorem dX12_rob_51 : decode cX12_rob 51 = .ok (.invokevirtual 326, 3) := by decide +kernel
theorem dX12_rob_54 : decode cX12_rob 54 = .ok (.aload_n 0, 1) := by decide +kernel
theorem dX12_rob_55 : decode cX12_rob 55 = .ok (.getfield 313, 3) := by decide +kernel
theorem dX12_rob_58 : decode cX12_rob 58 = .ok (.if_icmp .gt 5, 3) := by decide +kernel
theorem dX12_rob_61 : decode cX12_rob 61 = .ok (.iconst (-1), 1) := by decide +kernel
theorem dX12_rob_62 : decode cX12_rob 62 = .ok (.ireturn, 1) := by decide +kernel
theorem dX12_rob_63 : decode cX12_rob 63 = .ok (.aload_n 0, 1) := by decide +kernel
theorem dX12_rob_64 : decode cX12_rob 64 = .ok (.getfield 614, 3) := by decide +kernel
theorem dX12_rob_67 : decode cX12_rob 67 = .ok (.istore 5, 2) := by decide +kernel
theorem dX12_rob_69 : decode cX12_rob 69 = .ok (.aload_n 0, 1) := by decide +kernel
theorem dX12_rob_70 : decode cX12_rob 70 = .ok (.dup, 1) := by decide +kernel
theorem dX12_rob_71 : decode cX12_rob 71 = .ok (.getfield 614, 3) := by decide +kernel
theorem dX12_rob_74 : decode cX12_rob 74 = .ok (.iconst 1, 1) := by decide +kernel
theorem dX12_rob_75 : decode cX12_rob 75 = .ok (.iadd, 1) := by decide +kernel
theorem dX12_rob_76 : decode cX12_rob 76 = .ok (.putfield 614, 3) := by decide +kernel
theorem dX12_rob_79 : decode cX12_rob 79 = .ok (.aload_n 0, 1) := by decide +kernel
theorem dX12_rob_80 : decode cX12_rob 80 = .ok (.getfield 232, 3) := by decide +kernel
theorem dX12_rob_83 : decode cX12_rob 83 = .ok (.iload 5, 2) := by decide +kernel
theorem dX12_rob_85 : decode cX12_rob 85 = .ok (.iload_n 3, 1) := by decide +kernel
theorem dX12_rob_86 : decode cX12_rob 86 = .ok (.invokestatic 572, 3) := by decide +kernel
theorem dX12_rob_89 : decode cX12_rob 89 = .ok (.iastore, 1) := by decide +kernel
theorem dX12_rob_90 : decode cX12_rob 90 = .ok (.aload_n 0, 1) := by decide +kernel
theorem dX12_rob_91 : decode cX12_rob 91 = .ok (.getfield 235, 3) := by decide +kernel
theorem dX12_rob_94 : decode cX12_rob 94 = .ok (.iload 5, 2) := by decide +kernel
theorem dX12_rob_96 : decode cX12_rob 96 = .ok (.aload_n 0, 1) := by decide +kernel
theorem dX12_rob_97 : decode cX12_rob 97 = .ok (.getfield 313, 3) := by decide +kernel
theorem dX12_rob_100 : decode cX12_rob 100 = .ok (.iastore, 1) := by decide +kernel
theorem dX12_rob_101 : decode cX12_rob 101 = .ok (.iconst 0, 1) := by decide +kernel
theorem dX12_rob_102 : decode cX12_rob 102 = .ok (.istore 6, 2) := by decide +kernel
theorem dX12_rob_104 : decode cX12_rob 104 = .ok (.iload 6, 2) := by decide +kernel
theorem dX12_rob_106 : decode cX12_rob 106 = .ok (.aload_n 0, 1) := by decide +kernel
theorem dX12_rob_107 : decode cX12_rob 107 = .ok (.getfield 531, 3) := by decide +kernel
theorem dX12_rob_110 : decode cX12_rob 110 = .ok (.if_icmp .ge 94, 3) := by decide +kernel
theorem dX12_rob_113 : decode cX12_rob 113 = .ok (.aload_n 0, 1) := by decide +kernel
theorem dX12_rob_114 : decode cX12_rob 114 = .ok (.iload 6, 2) := by decide +kernel
theorem dX12_rob_116 : decode cX12_rob 116 = .ok (.iload_n 3, 1) := by decide +kernel
theorem dX12_rob_117 : decode cX12_rob 117 = .ok (.invokevirtual 575, 3) := by decide +kernel
theorem dX12_rob_120 : decode cX12_rob 120 = .ok (.ifCond .eq 78, 3) := by decide +kernel
theorem dX12_rob_123 : decode cX12_rob 123 = .ok (.aload_n 0, 1) := by decide +kernel
theorem dX12_rob_124 : decode cX12_rob 124 = .ok (.getfield 195, 3) := by decide +kernel
theorem dX12_rob_127 : decode cX12_rob 127 = .ok (.iload 6, 2) := by decide +kernel
theorem dX12_rob_129 : decode cX12_rob 129 = .ok (.baload, 1) := by decide +kernel
theorem dX12_rob_130 : decode cX12_rob 130 = .ok (.ifCond .ne 6, 3) := by decide +kernel
theorem dX12_rob_133 : decode cX12_rob 133 = .ok (.goto 65, 3) := by decide +kernel
theorem dX12_rob_136 : decode cX12_rob 136 = .ok (.aload_n 0, 1) := by decide +kernel
theorem dX12_rob_137 : decode cX12_rob 137 = .ok (.getfield 244, 3) := by decide +kernel
theorem dX12_rob_140 : decode cX12_rob 140 = .ok (.bipush 120, 2) := by decide +kernel
theorem dX12_rob_142 : decode cX12_rob 142 = .ok (.iload 5, 2) := by decide +kernel
theorem dX12_rob_144 : decode cX12_rob 144 = .ok (.imul, 1) := by decide +kernel
theorem dX12_rob_145 : decode cX12_rob 145 = .ok (.aload_n 0, 1) := by decide +kernel
theorem dX12_rob_146 : decode cX12_rob 146 = .ok (.getfield 238, 3) := by decide +kernel
theorem dX12_rob_149 : decode cX12_rob 149 = .ok (.iload 5, 2) := by decide +kernel
theorem dX12_rob_151 : decode cX12_rob 151 = .ok (.iaload, 1) := by decide +kernel
theorem dX12_rob_152 : decode cX12_rob 152 = .ok (.iadd, 1) := by decide +kernel
theorem dX12_rob_153 : decode cX12_rob 153 = .ok (.iload 6, 2) := by decide +kernel
theorem dX12_rob_155 : decode cX12_rob 155 = .ok (.iastore, 1) := by decide +kernel
theorem dX12_rob_156 : decode cX12_rob 156 = .ok (.aload_n 0, 1) := by decide +kernel
theorem dX12_rob_157 : decode cX12_rob 157 = .ok (.getfield 238, 3) := by decide +kernel
theorem dX12_rob_160 : decode cX12_rob 160 = .ok (.iload 5, 2) := by decide +kernel
theorem dX12_rob_162 : decode cX12_rob 162 = .ok (.dup2, 1) := by decide +kernel
theorem dX12_rob_163 : decode cX12_rob 163 = .ok (.iaload, 1) := by decide +kernel
theorem dX12_rob_164 : decode cX12_rob 164 = .ok (.iconst 1, 1) := by decide +kernel
theorem dX12_rob_165 : decode cX12_rob 165 = .ok (.iadd, 1) := by decide +kernel
theorem dX12_rob_166 : decode cX12_rob 166 = .ok (.iastore, 1) := by decide +kernel
theorem dX12_rob_167 : decode cX12_rob 167 = .ok (.aload_n 0, 1) := by decide +kernel
theorem dX12_rob_168 : decode cX12_rob 168 = .ok (.getfield 241, 3) := by decide +kernel
theorem dX12_rob_171 : decode cX12_rob 171 = .ok (.iload 5, 2) := by decide +kernel
theorem dX12_rob_173 : decode cX12_rob 173 = .ok (.dup2, 1) := by decide +kernel
theorem dX12_rob_174 : decode cX12_rob 174 = .ok (.iaload, 1) := by decide +kernel
theorem dX12_rob_175 : decode cX12_rob 175 = .ok (.aload_n 0, 1) := by decide +kernel
theorem dX12_rob_176 : decode cX12_rob 176 = .ok (.iload 6, 2) := by decide +kernel
theorem dX12_rob_178 : decode cX12_rob 178 = .ok (.invokevirtual 566, 3) := by decide +kernel
theorem dX12_rob_181 : decode cX12_rob 181 = .ok (.iadd, 1) := by decide +kernel
theorem dX12_rob_182 : decode cX12_rob 182 = .ok (.iastore, 1) := by decide +kernel
theorem dX12_rob_183 : decode cX12_rob 183 = .ok (.aload_n 0, 1) := by decide +kernel
theorem dX12_rob_184 : decode cX12_rob 184 = .ok (.iload 6, 2) := by decide +kernel
theorem dX12_rob_186 : decode cX12_rob 186 = .ok (.aload_n 0, 1) := by decide +kernel
theorem dX12_rob_187 : decode cX12_rob 187 = .ok (.getfield 313, 3) := by decide +kernel
theorem dX12_rob_190 : decode cX12_rob 190 = .ok (.iconst 4, 1) := by decide +kernel
theorem dX12_rob_191 : decode cX12_rob 191 = .ok (.iload_n 3, 1) := by decide +kernel
theorem dX12_rob_192 : decode cX12_rob 192 = .ok (.invokestatic 572, 3) := by decide +kernel
theorem dX12_rob_195 : decode cX12_rob 195 = .ok (.invokevirtual 556, 3) := by decide +kernel
theorem dX12_rob_198 : decode cX12_rob 198 = .ok (.iinc 6 1, 3) := by decide +kernel
theorem dX12_rob_201 : decode cX12_rob 201 = .ok (.goto (-97), 3) := by decide +kernel
theorem dX12_rob_204 : decode cX12_rob 204 = .ok (.iload 5, 2) := by decide +kernel
theorem dX12_rob_206 : decode cX12_rob 206 = .ok (.ireturn, 1) := by decide +kernel
theorem bX12_rob_0 {d : Nat} {h0 hE h : ea_H} {rv : Option ea_V} {r0 : Option Nat} {x1 : Int32} {x2 : Int32} (H : ∃ a7, r0 = some a7 ∧ a7 < ea_n h ∧ ea_c h a7 = 12 ∧ ∃ (d1 : Nat) (xc9 : Int32) (h2 : ea_H), ea_Met mX12_isTrain d1 [vR (some a7), vI x1] h (some (vI xc9)) h2 ∧ d1 + 1 ≤ d ∧ (xc9 = (0 : Int32) → rv = some (vI (-1)) ∧ hE = h2) ∧ (¬ xc9 = (0 : Int32) → ∃ (d10 : Nat) (xc14 : Int32) (h11 : ea_H), ea_Met mX12_isDay d10 [vI x2] h2 (some (vI xc14)) h11 ∧ d10 + 1 ≤ d ∧ (xc14 = (0 : Int32) → rv = some (vI (-1)) ∧ hE = h11) ∧ (¬ xc14 = (0 : Int32) → a7 < ea_n h11 ∧ ea_c h11 a7 = 12 ∧ (¬ (ea_i h11 a7 100) = (20 : Int32) → ∃ (d17 : Nat) (xc21 : Int32) (h18 : ea_H), ea_Met mX12_run d17 [vI x1, vI x2] h11 (some (vI xc21)) h18 ∧ d17 + 1 ≤ d ∧ a7 < ea_n h18 ∧ ea_c h18 a7 = 12 ∧ ∃ (d22 : Nat) (xc28 : Int32) (h23 : ea_H), ea_Met mX12_gone d22 [vR (some a7), vI xc21] h18 (some (vI xc28)) h23 ∧ d22 + 1 ≤ d ∧ (xc28 = ((-1) : Int32) → rv = some (vI (-1)) ∧ hE = h23) ∧ (¬ xc28 = ((-1) : Int32) → a7 < ea_n h23 ∧ ea_c h23 a7 = 12 ∧ ∃ (d29 : Nat) (xc35 : Int32) (h30 : ea_H), ea_Met mX12_comesAt d29 [vR (some a7), vI xc21, vI (xc28 + (1 : Int32))] h23 (some (vI xc35)) h30 ∧ d29 + 1 ≤ d ∧ a7 < ea_n h30 ∧ ea_c h30 a7 = 12 ∧ ((ea_i h30 a7 0) < xc35 → a7 < ea_n h30 ∧ ea_c h30 a7 = 12 ∧ a7 < ea_n h30 ∧ ea_c h30 a7 = 12 ∧ a7 < ea_n h30 ∧ ea_c h30 a7 = 12 ∧ ∀ h44, h44 = ea_wi h30 a7 100 ((ea_i h30 a7 100) + (1 : Int32)) → a7 < ea_n h44 ∧ ea_c h44 a7 = 12 ∧ ∃ (d48 : Nat) (xc52 : Int32) (h49 : ea_H), ea_Met mX12_code d48 [vI xc21] h44 (some (vI xc52)) h49 ∧ d48 + 1 ≤ d ∧ ∃ a55, (ea_r h44 a7 101) = some a55 ∧ a55 < ea_n h49 ∧ ea_c h49 a55 = 20 ∧ vp_in (ea_i h30 a7 100) (ea_l h49 a55) ∧ ∀ h58, h58 = ea_wi h49 a55 (Int32.toNatClampNeg (ea_i h30 a7 100)) xc52 → a7 < ea_n h58 ∧ ea_c h58 a7 = 12 ∧ a7 < ea_n h58 ∧ ea_c h58 a7 = 12 ∧ ∃ a66, (ea_r h58 a7 102) = some a66 ∧ a66 < ea_n h58 ∧ ea_c h58 a66 = 20 ∧ vp_in (ea_i h30 a7 100) (ea_l h58 a66) ∧ ∀ h69, h69 = ea_wi h58 a66 (Int32.toNatClampNeg (ea_i h30 a7 100)) (ea_i h58 a7 0) → ea_W mX12_rob d h0 rv hE 104 [(0, vR r0), (3, vI xc21), (5, vI (ea_i h30 a7 100)), (6, vI 0)] [] h69) ∧ (¬ (ea_i h30 a7 0) < xc35 → rv = some (vI (-1)) ∧ hE = h30))) ∧ ((ea_i h11 a7 100) = (20 : Int32) → rv = some (vI (-1)) ∧ hE = h11)))) : ea_W mX12_rob d h0 rv hE 0 [(0, vR r0), (1, vI x1), (2, vI x2)] [] h := by
  refine ea_aload_n (pc := 0) dX12_rob_0 rfl 0 rfl ?_
  refine ea_iload_n (pc := 1) dX12_rob_1 rfl 1 rfl ?_
  obtain ⟨a7, e8, f5, g6, H⟩ := H
  refine ea_deref1 e8 ?_
  obtain ⟨d1, xc9, h2, m3, q4, H⟩ := H
  refine ea_callV (pc := 2) (As := [vI x1]) (st := []) dX12_rob_2 kX12_isTrain m3 q4 rfl (Nat.le_of_ble_eq_true rfl) ew_1736 ew_1738 ew_50 (ci := 12) rfl (by decide) f5 g6 ?_
  refine ea_if_eq (pc := 5) (tgt := 24) dX12_rob_5 rfl (fun c75 => ?_) (fun c75 => ?_)
  · have H := H.1 c75
    refine ea_iconst (pc := 24) dX12_rob_24 (v := (-1)) rfl ?_
    obtain ⟨rfl, rfl⟩ := H
    exact ea_ireturn (pc := 25) dX12_rob_25 rfl rfl
  · have H := H.2 c75
    refine ea_iload_n (pc := 8) dX12_rob_8 rfl 2 rfl ?_
    obtain ⟨d10, xc14, h11, m12, q13, H⟩ := H
    refine ea_callS (pc := 9) (As := [vI x2]) (st := []) dX12_rob_9 kX12_isDay m12 q13 rfl (Nat.le_of_ble_eq_true rfl) ew_1752 ew_1753 ?_
    refine ea_if_eq (pc := 12) (tgt := 24) dX12_rob_12 rfl (fun c74 => ?_) (fun c74 => ?_)
    · have H := H.1 c74
      refine ea_iconst (pc := 24) dX12_rob_24 (v := (-1)) rfl ?_
      obtain ⟨rfl, rfl⟩ := H
      exact ea_ireturn (pc := 25) dX12_rob_25 rfl rfl
    · have H := H.2 c74
      refine ea_aload_n (pc := 15) dX12_rob_15 rfl 0 rfl ?_
      obtain ⟨f15, g16, H⟩ := H
      refine ea_deref0 e8 ?_
      refine ea_getI (pc := 16) dX12_rob_16 ec_12 (k := 100) (Nat.le_of_ble_eq_true rfl) rfl (Or.inl ew_1445) f15 g16 ?_
      refine ea_bipush (pc := 19) dX12_rob_19 (v := 20) rfl ?_
      refine ea_icmp_ne (pc := 21) (tgt := 26) dX12_rob_21 rfl (fun c73 => ?_) (fun c73 => ?_)
      · have H := H.1 c73
        refine ea_iload_n (pc := 26) dX12_rob_26 rfl 1 rfl ?_
        refine ea_iload_n (pc := 27) dX12_rob_27 rfl 2 rfl ?_
        obtain ⟨d17, xc21, h18, m19, q20, H⟩ := H
        refine ea_callS (pc := 28) (As := [vI x1, vI x2]) (st := []) dX12_rob_28 kX12_run m19 q20 rfl (Nat.le_of_ble_eq_true rfl) ew_1755 ew_1756 ?_
        refine ea_istore_n (pc := 31) (lv' := [(0, vR r0), (3, vI xc21)]) dX12_rob_31 rfl (Nat.le_of_ble_eq_true rfl) [1, 0] rfl ?_
        refine ea_aload_n (pc := 32) dX12_rob_32 rfl 0 rfl ?_
        refine ea_iload_n (pc := 33) dX12_rob_33 rfl 1 rfl ?_
        obtain ⟨f26, g27, H⟩ := H
        refine ea_deref1 e8 ?_
        obtain ⟨d22, xc28, h23, m24, q25, H⟩ := H
        refine ea_callV (pc := 34) (As := [vI xc21]) (st := []) dX12_rob_34 kX12_gone m24 q25 rfl (Nat.le_of_ble_eq_true rfl) ew_2094 ew_2096 ew_99 (ci := 12) rfl (by decide) f26 g27 ?_
        refine ea_istore (pc := 37) (lv' := [(0, vR r0), (3, vI xc21), (4, vI xc28)]) dX12_rob_37 (Nat.le_of_ble_eq_true rfl) [1, 2, 0] rfl ?_
        refine ea_iload (pc := 39) dX12_rob_39 2 rfl ?_
        refine ea_iconst (pc := 41) dX12_rob_41 (v := (-1)) rfl ?_
        refine ea_icmp_eq (pc := 42) (tgt := 61) dX12_rob_42 rfl (fun c72 => ?_) (fun c72 => ?_)
        · have H := H.1 c72
          refine ea_iconst (pc := 61) dX12_rob_61 (v := (-1)) rfl ?_
          obtain ⟨rfl, rfl⟩ := H
          exact ea_ireturn (pc := 62) dX12_rob_62 rfl rfl
        · have H := H.2 c72
          refine ea_aload_n (pc := 45) dX12_rob_45 rfl 0 rfl ?_
          refine ea_iload_n (pc := 46) dX12_rob_46 rfl 1 rfl ?_
          refine ea_iload (pc := 47) dX12_rob_47 2 rfl ?_
          refine ea_iconst (pc := 49) dX12_rob_49 (v := 1) rfl ?_
          refine ea_iadd (pc := 50) dX12_rob_50 ?_
          obtain ⟨f33, g34, H⟩ := H
          refine ea_deref2 e8 ?_
          obtain ⟨d29, xc35, h30, m31, q32, H⟩ := H
          refine ea_callV (pc := 51) (As := [vI xc21, vI (xc28 + (1 : Int32))]) (st := []) dX12_rob_51 kX12_comesAt m31 q32 rfl (Nat.le_of_ble_eq_true rfl) ew_1762 ew_1764 ew_52 (ci := 12) rfl (by decide) f33 g34 ?_
          refine ea_aload_n (pc := 54) dX12_rob_54 rfl 0 rfl ?_
          obtain ⟨f36, g37, H⟩ := H
          refine ea_deref0 e8 ?_
          refine ea_getI (pc := 55) dX12_rob_55 ec_12 (k := 0) (Nat.le_of_ble_eq_true rfl) rfl (Or.inl ew_1345) f36 g37 ?_
          refine ea_icmp_gt (pc := 58) (tgt := 63) dX12_rob_58 rfl (fun c71 => ?_) (fun c71 => ?_)
          · have H := H.1 c71
            refine ea_aload_n (pc := 63) dX12_rob_63 rfl 0 rfl ?_
            obtain ⟨f38, g39, H⟩ := H
            refine ea_deref0 e8 ?_
            refine ea_getI (pc := 64) dX12_rob_64 ec_12 (k := 100) (Nat.le_of_ble_eq_true rfl) rfl (Or.inl ew_1445) f38 g39 ?_
            refine ea_istore (pc := 67) (lv' := [(0, vR r0), (3, vI xc21), (5, vI (ea_i h30 a7 100))]) dX12_rob_67 (Nat.le_of_ble_eq_true rfl) [1, 2, 0] rfl ?_
            refine ea_aload_n (pc := 69) dX12_rob_69 rfl 0 rfl ?_
            refine ea_dup (pc := 70) dX12_rob_70 rfl ?_
            obtain ⟨f40, g41, H⟩ := H
            refine ea_deref0 e8 ?_
            refine ea_getI (pc := 71) dX12_rob_71 ec_12 (k := 100) (Nat.le_of_ble_eq_true rfl) rfl (Or.inl ew_1445) f40 g41 ?_
            refine ea_iconst (pc := 74) dX12_rob_74 (v := 1) rfl ?_
            refine ea_iadd (pc := 75) dX12_rob_75 ?_
            obtain ⟨f42, g43, H⟩ := H
            refine ea_deref1 e8 ?_
            refine ea_putI (pc := 76) dX12_rob_76 ec_12 (k := 100) (Nat.le_of_ble_eq_true rfl) rfl (Or.inl ⟨rfl, Or.inl ew_1445⟩) rfl rfl f42 g43 ?_
            obtain ⟨h44, E45⟩ : ∃ z, z = ea_wi h30 a7 100 ((ea_i h30 a7 100) + (1 : Int32)) := ⟨_, rfl⟩
            have H := H h44 E45
            refine ea_nm E45 ?_
            refine ea_aload_n (pc := 79) dX12_rob_79 rfl 0 rfl ?_
            obtain ⟨f46, g47, H⟩ := H
            refine ea_deref0 e8 ?_
            refine ea_getR (pc := 80) dX12_rob_80 ec_12 (k := 101) (Nat.le_of_ble_eq_true rfl) rfl (Or.inl ew_1446) f46 g47 rfl ?_
            refine ea_iload (pc := 83) dX12_rob_83 2 rfl ?_
            refine ea_iload_n (pc := 85) dX12_rob_85 rfl 1 rfl ?_
            obtain ⟨d48, xc52, h49, m50, q51, H⟩ := H
            refine ea_callS (pc := 86) (As := [vI xc21]) (st := [vI (ea_i h30 a7 100), vR (ea_r h44 a7 101)]) dX12_rob_86 kX12_code m50 q51 rfl (Nat.le_of_ble_eq_true rfl) ew_2071 ew_2072 ?_
            obtain ⟨a55, e56, f53, g54, H⟩ := H
            refine ea_deref2 e56 ?_
            obtain ⟨z57, H⟩ := H
            refine ea_iast (pc := 89) dX12_rob_89 f53 g54 z57 ?_
            obtain ⟨h58, E59⟩ : ∃ z, z = ea_wi h49 a55 (Int32.toNatClampNeg (ea_i h30 a7 100)) xc52 := ⟨_, rfl⟩
            have H := H h58 E59
            refine ea_nm E59 ?_
            refine ea_aload_n (pc := 90) dX12_rob_90 rfl 0 rfl ?_
            obtain ⟨f60, g61, H⟩ := H
            refine ea_deref0 e8 ?_
            refine ea_getR (pc := 91) dX12_rob_91 ec_12 (k := 102) (Nat.le_of_ble_eq_true rfl) rfl (Or.inl ew_1447) f60 g61 rfl ?_
            refine ea_iload (pc := 94) dX12_rob_94 2 rfl ?_
            refine ea_aload_n (pc := 96) dX12_rob_96 rfl 0 rfl ?_
            obtain ⟨f62, g63, H⟩ := H
            refine ea_deref0 e8 ?_
            refine ea_getI (pc := 97) dX12_rob_97 ec_12 (k := 0) (Nat.le_of_ble_eq_true rfl) rfl (Or.inl ew_1345) f62 g63 ?_
            obtain ⟨a66, e67, f64, g65, H⟩ := H
            refine ea_deref2 e67 ?_
            obtain ⟨z68, H⟩ := H
            refine ea_iast (pc := 100) dX12_rob_100 f64 g65 z68 ?_
            obtain ⟨h69, E70⟩ : ∃ z, z = ea_wi h58 a66 (Int32.toNatClampNeg (ea_i h30 a7 100)) (ea_i h58 a7 0) := ⟨_, rfl⟩
            have H := H h69 E70
            refine ea_nm E70 ?_
            refine ea_iconst (pc := 101) dX12_rob_101 (v := 0) rfl ?_
            refine ea_istore (pc := 102) (lv' := [(0, vR r0), (3, vI xc21), (5, vI (ea_i h30 a7 100)), (6, vI 0)]) dX12_rob_102 (Nat.le_of_ble_eq_true rfl) [1, 2, 3, 0] rfl ?_
            exact H
          · have H := H.2 c71
            refine ea_iconst (pc := 61) dX12_rob_61 (v := (-1)) rfl ?_
            obtain ⟨rfl, rfl⟩ := H
            exact ea_ireturn (pc := 62) dX12_rob_62 rfl rfl
      · have H := H.2 c73
        refine ea_iconst (pc := 24) dX12_rob_24 (v := (-1)) rfl ?_
        obtain ⟨rfl, rfl⟩ := H
        exact ea_ireturn (pc := 25) dX12_rob_25 rfl rfl
theorem bX12_rob_104 {d : Nat} {h0 hE h : ea_H} {rv : Option ea_V} {r0 : Option Nat} {x3 : Int32} {x5 : Int32} {x6 : Int32} (H : ∃ a3, r0 = some a3 ∧ a3 < ea_n h ∧ ea_c h a3 = 12 ∧ ((ea_i h a3 63) ≤ x6 → rv = some (vI x5) ∧ hE = h) ∧ (¬ (ea_i h a3 63) ≤ x6 → a3 < ea_n h ∧ ea_c h a3 = 12 ∧ ∃ (d5 : Nat) (xc11 : Int32) (h6 : ea_H), ea_Met mX12_isAboard d5 [vR (some a3), vI x6, vI x3] h (some (vI xc11)) h6 ∧ d5 + 1 ≤ d ∧ (xc11 = (0 : Int32) → ea_W mX12_rob d h0 rv hE 104 [(0, vR r0), (3, vI x3), (5, vI x5), (6, vI (x6 + 1))] [] h6) ∧ (¬ xc11 = (0 : Int32) → a3 < ea_n h6 ∧ ea_c h6 a3 = 12 ∧ ∃ a16, (ea_r h6 a3 87) = some a16 ∧ a16 < ea_n h6 ∧ ea_c h6 a16 = 21 ∧ vp_in x6 (ea_l h6 a16) ∧ (¬ (ea_i h6 a16 (Int32.toNatClampNeg x6)) = (0 : Int32) → a3 < ea_n h6 ∧ ea_c h6 a3 = 12 ∧ a3 < ea_n h6 ∧ ea_c h6 a3 = 12 ∧ ∃ a25, (ea_r h6 a3 103) = some a25 ∧ a25 < ea_n h6 ∧ ea_c h6 a25 = 20 ∧ vp_in x5 (ea_l h6 a25) ∧ ∃ a30, (ea_r h6 a3 105) = some a30 ∧ a30 < ea_n h6 ∧ ea_c h6 a30 = 20 ∧ vp_in (((120 : Int32) * x5) + (ea_i h6 a25 (Int32.toNatClampNeg x5))) (ea_l h6 a30) ∧ ∀ h33, h33 = ea_wi h6 a30 (Int32.toNatClampNeg (((120 : Int32) * x5) + (ea_i h6 a25 (Int32.toNatClampNeg x5)))) x6 → a3 < ea_n h33 ∧ ea_c h33 a3 = 12 ∧ ∃ a39, (ea_r h33 a3 103) = some a39 ∧ a39 < ea_n h33 ∧ ea_c h33 a39 = 20 ∧ vp_in x5 (ea_l h33 a39) ∧ a39 < ea_n h33 ∧ ea_c h33 a39 = 20 ∧ vp_in x5 (ea_l h33 a39) ∧ ∀ h45, h45 = ea_wi h33 a39 (Int32.toNatClampNeg x5) ((ea_i h33 a39 (Int32.toNatClampNeg x5)) + (1 : Int32)) → a3 < ea_n h45 ∧ ea_c h45 a3 = 12 ∧ ∃ a51, (ea_r h45 a3 104) = some a51 ∧ a51 < ea_n h45 ∧ ea_c h45 a51 = 20 ∧ vp_in x5 (ea_l h45 a51) ∧ a3 < ea_n h45 ∧ ea_c h45 a3 = 12 ∧ ∃ (d54 : Nat) (xc60 : Int32) (h55 : ea_H), ea_Met mX12_owed d54 [vR (some a3), vI x6] h45 (some (vI xc60)) h55 ∧ d54 + 1 ≤ d ∧ a51 < ea_n h55 ∧ ea_c h55 a51 = 20 ∧ vp_in x5 (ea_l h55 a51) ∧ ∀ h64, h64 = ea_wi h55 a51 (Int32.toNatClampNeg x5) ((ea_i h45 a51 (Int32.toNatClampNeg x5)) + xc60) → a3 < ea_n h64 ∧ ea_c h64 a3 = 12 ∧ ∃ (d68 : Nat) (xc72 : Int32) (h69 : ea_H), ea_Met mX12_code d68 [vI x3] h64 (some (vI xc72)) h69 ∧ d68 + 1 ≤ d ∧ a3 < ea_n h69 ∧ ea_c h69 a3 = 12 ∧ ∃ (d73 : Nat) (h74 : ea_H), ea_Met mX12_turns d73 [vR (some a3), vI x6, vI (ea_i h64 a3 0), vI 4, vI xc72] h69 none h74 ∧ d73 + 1 ≤ d ∧ ea_W mX12_rob d h0 rv hE 104 [(0, vR r0), (3, vI x3), (5, vI x5), (6, vI (x6 + 1))] [] h74) ∧ ((ea_i h6 a16 (Int32.toNatClampNeg x6)) = (0 : Int32) → ea_W mX12_rob d h0 rv hE 104 [(0, vR r0), (3, vI x3), (5, vI x5), (6, vI (x6 + 1))] [] h6)))) : ea_W mX12_rob d h0 rv hE 104 [(0, vR r0), (3, vI x3), (5, vI x5), (6, vI x6)] [] h := by
  refine ea_iload (pc := 104) dX12_rob_104 3 rfl ?_
  refine ea_aload_n (pc := 106) dX12_rob_106 rfl 0 rfl ?_
  obtain ⟨a3, e4, f1, g2, H⟩ := H
  refine ea_deref0 e4 ?_
  refine ea_getI (pc := 107) dX12_rob_107 ec_12 (k := 63) (Nat.le_of_ble_eq_true rfl) rfl (Or.inl ew_1408) f1 g2 ?_
  refine ea_icmp_ge (pc := 110) (tgt := 204) dX12_rob_110 rfl (fun c81 => ?_) (fun c81 => ?_)
  · have H := H.1 c81
    refine ea_iload (pc := 204) dX12_rob_204 2 rfl ?_
    obtain ⟨rfl, rfl⟩ := H
    exact ea_ireturn (pc := 206) dX12_rob_206 rfl rfl
  · have H := H.2 c81
    refine ea_aload_n (pc := 113) dX12_rob_113 rfl 0 rfl ?_
    refine ea_iload (pc := 114) dX12_rob_114 3 rfl ?_
    refine ea_iload_n (pc := 116) dX12_rob_116 rfl 1 rfl ?_
    obtain ⟨f9, g10, H⟩ := H
    refine ea_deref2 e4 ?_
    obtain ⟨d5, xc11, h6, m7, q8, H⟩ := H
    refine ea_callV (pc := 117) (As := [vI x6, vI x3]) (st := []) dX12_rob_117 kX12_isAboard m7 q8 rfl (Nat.le_of_ble_eq_true rfl) ew_2067 ew_2069 ew_95 (ci := 12) rfl (by decide) f9 g10 ?_
    refine ea_if_eq (pc := 120) (tgt := 198) dX12_rob_120 rfl (fun c80 => ?_) (fun c80 => ?_)
    · have H := H.1 c80
      refine ea_iinc (pc := 198) (v := 1) (lv' := [(0, vR r0), (3, vI x3), (5, vI x5), (6, vI (x6 + 1))]) dX12_rob_198 3 rfl rfl (Nat.le_of_ble_eq_true rfl) [1, 2, 3, 0] rfl ?_
      refine ea_goto (pc := 201) (tgt := 104) dX12_rob_201 rfl ?_
      exact H
    · have H := H.2 c80
      refine ea_aload_n (pc := 123) dX12_rob_123 rfl 0 rfl ?_
      obtain ⟨f12, g13, H⟩ := H
      refine ea_deref0 e4 ?_
      refine ea_getR (pc := 124) dX12_rob_124 ec_12 (k := 87) (Nat.le_of_ble_eq_true rfl) rfl (Or.inl ew_1432) f12 g13 rfl ?_
      refine ea_iload (pc := 127) dX12_rob_127 3 rfl ?_
      obtain ⟨a16, e17, f14, g15, H⟩ := H
      refine ea_deref1 e17 ?_
      obtain ⟨z18, H⟩ := H
      refine ea_zald (pc := 129) dX12_rob_129 f14 g15 z18 ?_
      refine ea_if_ne (pc := 130) (tgt := 136) dX12_rob_130 rfl (fun c79 => ?_) (fun c79 => ?_)
      · have H := H.1 c79
        refine ea_aload_n (pc := 136) dX12_rob_136 rfl 0 rfl ?_
        obtain ⟨f19, g20, H⟩ := H
        refine ea_deref0 e4 ?_
        refine ea_getR (pc := 137) dX12_rob_137 ec_12 (k := 105) (Nat.le_of_ble_eq_true rfl) rfl (Or.inl ew_1450) f19 g20 rfl ?_
        refine ea_bipush (pc := 140) dX12_rob_140 (v := 120) rfl ?_
        refine ea_iload (pc := 142) dX12_rob_142 2 rfl ?_
        refine ea_imul (pc := 144) dX12_rob_144 ?_
        refine ea_aload_n (pc := 145) dX12_rob_145 rfl 0 rfl ?_
        obtain ⟨f21, g22, H⟩ := H
        refine ea_deref0 e4 ?_
        refine ea_getR (pc := 146) dX12_rob_146 ec_12 (k := 103) (Nat.le_of_ble_eq_true rfl) rfl (Or.inl ew_1448) f21 g22 rfl ?_
        refine ea_iload (pc := 149) dX12_rob_149 2 rfl ?_
        obtain ⟨a25, e26, f23, g24, H⟩ := H
        refine ea_deref1 e26 ?_
        obtain ⟨z27, H⟩ := H
        refine ea_iald (pc := 151) dX12_rob_151 f23 g24 z27 ?_
        refine ea_iadd (pc := 152) dX12_rob_152 ?_
        refine ea_iload (pc := 153) dX12_rob_153 3 rfl ?_
        obtain ⟨a30, e31, f28, g29, H⟩ := H
        refine ea_deref2 e31 ?_
        obtain ⟨z32, H⟩ := H
        refine ea_iast (pc := 155) dX12_rob_155 f28 g29 z32 ?_
        obtain ⟨h33, E34⟩ : ∃ z, z = ea_wi h6 a30 (Int32.toNatClampNeg (((120 : Int32) * x5) + (ea_i h6 a25 (Int32.toNatClampNeg x5)))) x6 := ⟨_, rfl⟩
        have H := H h33 E34
        refine ea_nm E34 ?_
        refine ea_aload_n (pc := 156) dX12_rob_156 rfl 0 rfl ?_
        obtain ⟨f35, g36, H⟩ := H
        refine ea_deref0 e4 ?_
        refine ea_getR (pc := 157) dX12_rob_157 ec_12 (k := 103) (Nat.le_of_ble_eq_true rfl) rfl (Or.inl ew_1448) f35 g36 rfl ?_
        refine ea_iload (pc := 160) dX12_rob_160 2 rfl ?_
        refine ea_dup2 (pc := 162) dX12_rob_162 rfl rfl ?_
        obtain ⟨a39, e40, f37, g38, H⟩ := H
        refine ea_deref1 e40 ?_
        obtain ⟨z41, H⟩ := H
        refine ea_iald (pc := 163) dX12_rob_163 f37 g38 z41 ?_
        refine ea_iconst (pc := 164) dX12_rob_164 (v := 1) rfl ?_
        refine ea_iadd (pc := 165) dX12_rob_165 ?_
        obtain ⟨f42, g43, H⟩ := H
        refine ea_deref2 e40 ?_
        obtain ⟨z44, H⟩ := H
        refine ea_iast (pc := 166) dX12_rob_166 f42 g43 z44 ?_
        obtain ⟨h45, E46⟩ : ∃ z, z = ea_wi h33 a39 (Int32.toNatClampNeg x5) ((ea_i h33 a39 (Int32.toNatClampNeg x5)) + (1 : Int32)) := ⟨_, rfl⟩
        have H := H h45 E46
        refine ea_nm E46 ?_
        refine ea_aload_n (pc := 167) dX12_rob_167 rfl 0 rfl ?_
        obtain ⟨f47, g48, H⟩ := H
        refine ea_deref0 e4 ?_
        refine ea_getR (pc := 168) dX12_rob_168 ec_12 (k := 104) (Nat.le_of_ble_eq_true rfl) rfl (Or.inl ew_1449) f47 g48 rfl ?_
        refine ea_iload (pc := 171) dX12_rob_171 2 rfl ?_
        refine ea_dup2 (pc := 173) dX12_rob_173 rfl rfl ?_
        obtain ⟨a51, e52, f49, g50, H⟩ := H
        refine ea_deref1 e52 ?_
        obtain ⟨z53, H⟩ := H
        refine ea_iald (pc := 174) dX12_rob_174 f49 g50 z53 ?_
        refine ea_aload_n (pc := 175) dX12_rob_175 rfl 0 rfl ?_
        refine ea_iload (pc := 176) dX12_rob_176 3 rfl ?_
        obtain ⟨f58, g59, H⟩ := H
        refine ea_deref1 e4 ?_
        obtain ⟨d54, xc60, h55, m56, q57, H⟩ := H
        refine ea_callV (pc := 178) (As := [vI x6]) (st := [vI (ea_i h45 a51 (Int32.toNatClampNeg x5)), vI x5, vR (ea_r h45 a3 104)]) dX12_rob_178 kX12_owed m56 q57 rfl (Nat.le_of_ble_eq_true rfl) ew_2027 ew_2029 ew_90 (ci := 12) rfl (by decide) f58 g59 ?_
        refine ea_iadd (pc := 181) dX12_rob_181 ?_
        obtain ⟨f61, g62, H⟩ := H
        refine ea_deref2 e52 ?_
        obtain ⟨z63, H⟩ := H
        refine ea_iast (pc := 182) dX12_rob_182 f61 g62 z63 ?_
        obtain ⟨h64, E65⟩ : ∃ z, z = ea_wi h55 a51 (Int32.toNatClampNeg x5) ((ea_i h45 a51 (Int32.toNatClampNeg x5)) + xc60) := ⟨_, rfl⟩
        have H := H h64 E65
        refine ea_nm E65 ?_
        refine ea_aload_n (pc := 183) dX12_rob_183 rfl 0 rfl ?_
        refine ea_iload (pc := 184) dX12_rob_184 3 rfl ?_
        refine ea_aload_n (pc := 186) dX12_rob_186 rfl 0 rfl ?_
        obtain ⟨f66, g67, H⟩ := H
        refine ea_deref0 e4 ?_
        refine ea_getI (pc := 187) dX12_rob_187 ec_12 (k := 0) (Nat.le_of_ble_eq_true rfl) rfl (Or.inl ew_1345) f66 g67 ?_
        refine ea_iconst (pc := 190) dX12_rob_190 (v := 4) rfl ?_
        refine ea_iload_n (pc := 191) dX12_rob_191 rfl 1 rfl ?_
        obtain ⟨d68, xc72, h69, m70, q71, H⟩ := H
        refine ea_callS (pc := 192) (As := [vI x3]) (st := [vI 4, vI (ea_i h64 a3 0), vI x6, vR r0]) dX12_rob_192 kX12_code m70 q71 rfl (Nat.le_of_ble_eq_true rfl) ew_2071 ew_2072 ?_
        obtain ⟨f77, g78, H⟩ := H
        refine ea_deref4 e4 ?_
        obtain ⟨d73, h74, m75, q76, H⟩ := H
        refine ea_callV (pc := 195) (As := [vI x6, vI (ea_i h64 a3 0), vI 4, vI xc72]) (st := []) dX12_rob_195 kX12_turns m75 q76 rfl (Nat.le_of_ble_eq_true rfl) ew_2011 ew_2013 ew_88 (ci := 12) rfl (by decide) f77 g78 ?_
        refine ea_iinc (pc := 198) (v := 1) (lv' := [(0, vR r0), (3, vI x3), (5, vI x5), (6, vI (x6 + 1))]) dX12_rob_198 3 rfl rfl (Nat.le_of_ble_eq_true rfl) [1, 2, 3, 0] rfl ?_
        refine ea_goto (pc := 201) (tgt := 104) dX12_rob_201 rfl ?_
        exact H
      · have H := H.2 c79
        refine ea_goto (pc := 133) (tgt := 198) dX12_rob_133 rfl ?_
        refine ea_iinc (pc := 198) (v := 1) (lv' := [(0, vR r0), (3, vI x3), (5, vI x5), (6, vI (x6 + 1))]) dX12_rob_198 3 rfl rfl (Nat.le_of_ble_eq_true rfl) [1, 2, 3, 0] rfl ?_
        refine ea_goto (pc := 201) (tgt := 104) dX12_rob_201 rfl ?_
        exact H
theorem dX12_robbery_0 : decode cX12_robbery 0 = .ok (.iload_n 1, 1) := by decide +kernel
theorem dX12_robbery_1 : decode cX12_robbery 1 = .ok (.iconst 0, 1) := by decide +kernel
theorem dX12_robbery_2 : decode cX12_robbery 2 = .ok (.aload_n 0, 1) := by decide +kernel
theorem dX12_robbery_3 : decode cX12_robbery 3 = .ok (.getfield 614, 3) := by decide +kernel
theorem dX12_robbery_6 : decode cX12_robbery 6 = .ok (.iconst 1, 1) := by decide +kernel
theorem dX12_robbery_7 : decode cX12_robbery 7 = .ok (.isub, 1) := by decide +kernel
theorem dX12_robbery_8 : decode cX12_robbery 8 = .ok (.invokestatic 286, 3) := by decide +kernel
theorem dX12_robbery_11 : decode cX12_robbery 11 = .ok (.ifCond .ne 5, 3) := by decide +kernel
theorem dX12_robbery_14 : decode cX12_robbery 14 = .ok (.iconst (-1), 1) := by decide +kernel
theorem dX12_robbery_15 : decode cX12_robbery 15 = .ok (.ireturn, 1) := by decide +kernel
theorem dX12_robbery_16 : decode cX12_robbery 16 = .ok (.iload_n 2, 1) := by decide +kernel
theorem dX12_robbery_17 : decode cX12_robbery 17 = .ok (.tableswitch 59 0 3 #[31, 38, 45, 52], 31) := by decide +kernel
theorem dX12_robbery_48 : decode cX12_robbery 48 = .ok (.aload_n 0, 1) := by decide +kernel
theorem dX12_robbery_49 : decode cX12_robbery 49 = .ok (.getfield 232, 3) := by decide +kernel
theorem dX12_robbery_52 : decode cX12_robbery 52 = .ok (.iload_n 1, 1) := by decide +kernel
theorem dX12_robbery_53 : decode cX12_robbery 53 = .ok (.iaload, 1) := by decide +kernel
theorem dX12_robbery_54 : decode cX12_robbery 54 = .ok (.ireturn, 1) := by decide +kernel
theorem dX12_robbery_55 : decode cX12_robbery 55 = .ok (.aload_n 0, 1) := by decide +kernel
theorem dX12_robbery_56 : decode cX12_robbery 56 = .ok (.getfield 235, 3) := by decide +kernel
theorem dX12_robbery_59 : decode cX12_robbery 59 = .ok (.iload_n 1, 1) := by decide +kernel
theorem dX12_robbery_60 : decode cX12_robbery 60 = .ok (.iaload, 1) := by decide +kernel
theorem dX12_robbery_61 : decode cX12_robbery 61 = .ok (.ireturn, 1) := by decide +kernel
theorem dX12_robbery_62 : decode cX12_robbery 62 = .ok (.aload_n 0, 1) := by decide +kernel
theorem dX12_robbery_63 : decode cX12_robbery 63 = .ok (.getfield 238, 3) := by decide +kernel
theorem dX12_robbery_66 : decode cX12_robbery 66 = .ok (.iload_n 1, 1) := by decide +kernel
theorem dX12_robbery_67 : decode cX12_robbery 67 = .ok (.iaload, 1) := by decide +kernel
theorem dX12_robbery_68 : decode cX12_robbery 68 = .ok (.ireturn, 1) := by decide +kernel
theorem dX12_robbery_69 : decode cX12_robbery 69 = .ok (.aload_n 0, 1) := by decide +kernel
theorem dX12_robbery_70 : decode cX12_robbery 70 = .ok (.getfield 241, 3) := by decide +kernel
theorem dX12_robbery_73 : decode cX12_robbery 73 = .ok (.iload_n 1, 1) := by decide +kernel
theorem dX12_robbery_74 : decode cX12_robbery 74 = .ok (.iaload, 1) := by decide +kernel
theorem dX12_robbery_75 : decode cX12_robbery 75 = .ok (.ireturn, 1) := by decide +kernel
theorem dX12_robbery_76 : decode cX12_robbery 76 = .ok (.iload_n 2, 1) := by decide +kernel
theorem dX12_robbery_77 : decode cX12_robbery 77 = .ok (.bipush 10, 2) := by decide +kernel
theorem dX12_robbery_79 : decode cX12_robbery 79 = .ok (.bipush 9, 2) := by decide +kernel
theorem dX12_robbery_81 : decode cX12_robbery 81 = .ok (.aload_n 0, 1) := by decide +kernel
theorem dX12_robbery_82 : decode cX12_robbery 82 = .ok (.getfield 238, 3) := by decide +kernel
theorem dX12_robbery_85 : decode cX12_robbery 85 = .ok (.iload_n 1, 1) := by decide +kernel
theorem dX12_robbery_86 : decode cX12_robbery 86 = .ok (.iaload, 1) := by decide +kernel
theorem dX12_robbery_87 : decode cX12_robbery 87 = .ok (.iadd, 1) := by decide +kernel
theorem dX12_robbery_88 : decode cX12_robbery 88 = .ok (.invokestatic 286, 3) := by decide +kernel
theorem dX12_robbery_91 : decode cX12_robbery 91 = .ok (.ifCond .eq 20, 3) := by decide +kernel
theorem dX12_robbery_94 : decode cX12_robbery 94 = .ok (.aload_n 0, 1) := by decide +kernel
theorem dX12_robbery_95 : decode cX12_robbery 95 = .ok (.getfield 244, 3) := by decide +kernel
theorem dX12_robbery_98 : decode cX12_robbery 98 = .ok (.bipush 120, 2) := by decide +kernel
theorem dX12_robbery_100 : decode cX12_robbery 100 = .ok (.iload_n 1, 1) := by decide +kernel
theorem dX12_robbery_101 : decode cX12_robbery 101 = .ok (.imul, 1) := by decide +kernel
theorem dX12_robbery_102 : decode cX12_robbery 102 = .ok (.iload_n 2, 1) := by decide +kernel
theorem dX12_robbery_103 : decode cX12_robbery 103 = .ok (.iadd, 1) := by decide +kernel
theorem dX12_robbery_104 : decode cX12_robbery 104 = .ok (.bipush 10, 2) := by decide +kernel
theorem dX12_robbery_106 : decode cX12_robbery 106 = .ok (.isub, 1) := by decide +kernel
theorem dX12_robbery_107 : decode cX12_robbery 107 = .ok (.iaload, 1) := by decide +kernel
theorem dX12_robbery_108 : decode cX12_robbery 108 = .ok (.goto 4, 3) := by decide +kernel
theorem dX12_robbery_111 : decode cX12_robbery 111 = .ok (.iconst (-1), 1) := by decide +kernel
theorem dX12_robbery_112 : decode cX12_robbery 112 = .ok (.ireturn, 1) := by decide +kernel
theorem bX12_robbery_0 {d : Nat} {h0 hE h : ea_H} {rv : Option ea_V} {r0 : Option Nat} {x1 : Int32} {x2 : Int32} (H : ∃ a3, r0 = some a3 ∧ a3 < ea_n h ∧ ea_c h a3 = 12 ∧ ∃ (d5 : Nat) (xc9 : Int32) (h6 : ea_H), ea_Met mX12_isIn d5 [vI x1, vI 0, vI ((ea_i h a3 100) - (1 : Int32))] h (some (vI xc9)) h6 ∧ d5 + 1 ≤ d ∧ (¬ xc9 = (0 : Int32) → (Int32.toInt x2 = 0 → a3 < ea_n h6 ∧ ea_c h6 a3 = 12 ∧ ∃ a14, (ea_r h6 a3 101) = some a14 ∧ a14 < ea_n h6 ∧ ea_c h6 a14 = 20 ∧ vp_in x1 (ea_l h6 a14) ∧ rv = some (vI (ea_i h6 a14 (Int32.toNatClampNeg x1))) ∧ hE = h6) ∧ (Int32.toInt x2 = 1 → a3 < ea_n h6 ∧ ea_c h6 a3 = 12 ∧ ∃ a21, (ea_r h6 a3 102) = some a21 ∧ a21 < ea_n h6 ∧ ea_c h6 a21 = 20 ∧ vp_in x1 (ea_l h6 a21) ∧ rv = some (vI (ea_i h6 a21 (Int32.toNatClampNeg x1))) ∧ hE = h6) ∧ (Int32.toInt x2 = 2 → a3 < ea_n h6 ∧ ea_c h6 a3 = 12 ∧ ∃ a28, (ea_r h6 a3 103) = some a28 ∧ a28 < ea_n h6 ∧ ea_c h6 a28 = 20 ∧ vp_in x1 (ea_l h6 a28) ∧ rv = some (vI (ea_i h6 a28 (Int32.toNatClampNeg x1))) ∧ hE = h6) ∧ (Int32.toInt x2 = 3 → a3 < ea_n h6 ∧ ea_c h6 a3 = 12 ∧ ∃ a35, (ea_r h6 a3 104) = some a35 ∧ a35 < ea_n h6 ∧ ea_c h6 a35 = 20 ∧ vp_in x1 (ea_l h6 a35) ∧ rv = some (vI (ea_i h6 a35 (Int32.toNatClampNeg x1))) ∧ hE = h6) ∧ (Int32.toInt x2 < 0 ∨ 3 < Int32.toInt x2 → a3 < ea_n h6 ∧ ea_c h6 a3 = 12 ∧ ∃ a42, (ea_r h6 a3 103) = some a42 ∧ a42 < ea_n h6 ∧ ea_c h6 a42 = 20 ∧ vp_in x1 (ea_l h6 a42) ∧ ∃ (d45 : Nat) (xc49 : Int32) (h46 : ea_H), ea_Met mX12_isIn d45 [vI x2, vI 10, vI ((9 : Int32) + (ea_i h6 a42 (Int32.toNatClampNeg x1)))] h6 (some (vI xc49)) h46 ∧ d45 + 1 ≤ d ∧ (xc49 = (0 : Int32) → rv = some (vI (-1)) ∧ hE = h46) ∧ (¬ xc49 = (0 : Int32) → a3 < ea_n h46 ∧ ea_c h46 a3 = 12 ∧ ∃ a54, (ea_r h46 a3 105) = some a54 ∧ a54 < ea_n h46 ∧ ea_c h46 a54 = 20 ∧ vp_in ((((120 : Int32) * x1) + x2) - (10 : Int32)) (ea_l h46 a54) ∧ rv = some (vI (ea_i h46 a54 (Int32.toNatClampNeg ((((120 : Int32) * x1) + x2) - (10 : Int32))))) ∧ hE = h46))) ∧ (xc9 = (0 : Int32) → rv = some (vI (-1)) ∧ hE = h6)) : ea_W mX12_robbery d h0 rv hE 0 [(0, vR r0), (1, vI x1), (2, vI x2)] [] h := by
  refine ea_iload_n (pc := 0) dX12_robbery_0 rfl 1 rfl ?_
  refine ea_iconst (pc := 1) dX12_robbery_1 (v := 0) rfl ?_
  refine ea_aload_n (pc := 2) dX12_robbery_2 rfl 0 rfl ?_
  obtain ⟨a3, e4, f1, g2, H⟩ := H
  refine ea_deref0 e4 ?_
  refine ea_getI (pc := 3) dX12_robbery_3 ec_12 (k := 100) (Nat.le_of_ble_eq_true rfl) rfl (Or.inl ew_1445) f1 g2 ?_
  refine ea_iconst (pc := 6) dX12_robbery_6 (v := 1) rfl ?_
  refine ea_isub (pc := 7) dX12_robbery_7 ?_
  obtain ⟨d5, xc9, h6, m7, q8, H⟩ := H
  refine ea_callS (pc := 8) (As := [vI x1, vI 0, vI ((ea_i h a3 100) - (1 : Int32))]) (st := []) dX12_robbery_8 kX12_isIn m7 q8 rfl (Nat.le_of_ble_eq_true rfl) ew_1712 ew_1713 ?_
  refine ea_if_ne (pc := 11) (tgt := 16) dX12_robbery_11 rfl (fun c58 => ?_) (fun c58 => ?_)
  · have H := H.1 c58
    refine ea_iload_n (pc := 16) dX12_robbery_16 rfl 2 rfl ?_
    by_cases qc1 : Int32.toInt x2 = 0
    · have H := H.1 qc1
      refine ea_tswIn (pc := 17) (tgt := 48) dX12_robbery_17 (by omega) (by omega) (by rw [qc1]; rfl) rfl ?_
      refine ea_aload_n (pc := 48) dX12_robbery_48 rfl 0 rfl ?_
      obtain ⟨f10, g11, H⟩ := H
      refine ea_deref0 e4 ?_
      refine ea_getR (pc := 49) dX12_robbery_49 ec_12 (k := 101) (Nat.le_of_ble_eq_true rfl) rfl (Or.inl ew_1446) f10 g11 rfl ?_
      refine ea_iload_n (pc := 52) dX12_robbery_52 rfl 1 rfl ?_
      obtain ⟨a14, e15, f12, g13, H⟩ := H
      refine ea_deref1 e15 ?_
      obtain ⟨z16, H⟩ := H
      refine ea_iald (pc := 53) dX12_robbery_53 f12 g13 z16 ?_
      obtain ⟨rfl, rfl⟩ := H
      exact ea_ireturn (pc := 54) dX12_robbery_54 rfl rfl
    by_cases qc2 : Int32.toInt x2 = 1
    · have H := H.2.1 qc2
      refine ea_tswIn (pc := 17) (tgt := 55) dX12_robbery_17 (by omega) (by omega) (by rw [qc2]; rfl) rfl ?_
      refine ea_aload_n (pc := 55) dX12_robbery_55 rfl 0 rfl ?_
      obtain ⟨f17, g18, H⟩ := H
      refine ea_deref0 e4 ?_
      refine ea_getR (pc := 56) dX12_robbery_56 ec_12 (k := 102) (Nat.le_of_ble_eq_true rfl) rfl (Or.inl ew_1447) f17 g18 rfl ?_
      refine ea_iload_n (pc := 59) dX12_robbery_59 rfl 1 rfl ?_
      obtain ⟨a21, e22, f19, g20, H⟩ := H
      refine ea_deref1 e22 ?_
      obtain ⟨z23, H⟩ := H
      refine ea_iald (pc := 60) dX12_robbery_60 f19 g20 z23 ?_
      obtain ⟨rfl, rfl⟩ := H
      exact ea_ireturn (pc := 61) dX12_robbery_61 rfl rfl
    by_cases qc3 : Int32.toInt x2 = 2
    · have H := H.2.2.1 qc3
      refine ea_tswIn (pc := 17) (tgt := 62) dX12_robbery_17 (by omega) (by omega) (by rw [qc3]; rfl) rfl ?_
      refine ea_aload_n (pc := 62) dX12_robbery_62 rfl 0 rfl ?_
      obtain ⟨f24, g25, H⟩ := H
      refine ea_deref0 e4 ?_
      refine ea_getR (pc := 63) dX12_robbery_63 ec_12 (k := 103) (Nat.le_of_ble_eq_true rfl) rfl (Or.inl ew_1448) f24 g25 rfl ?_
      refine ea_iload_n (pc := 66) dX12_robbery_66 rfl 1 rfl ?_
      obtain ⟨a28, e29, f26, g27, H⟩ := H
      refine ea_deref1 e29 ?_
      obtain ⟨z30, H⟩ := H
      refine ea_iald (pc := 67) dX12_robbery_67 f26 g27 z30 ?_
      obtain ⟨rfl, rfl⟩ := H
      exact ea_ireturn (pc := 68) dX12_robbery_68 rfl rfl
    by_cases qc4 : Int32.toInt x2 = 3
    · have H := H.2.2.2.1 qc4
      refine ea_tswIn (pc := 17) (tgt := 69) dX12_robbery_17 (by omega) (by omega) (by rw [qc4]; rfl) rfl ?_
      refine ea_aload_n (pc := 69) dX12_robbery_69 rfl 0 rfl ?_
      obtain ⟨f31, g32, H⟩ := H
      refine ea_deref0 e4 ?_
      refine ea_getR (pc := 70) dX12_robbery_70 ec_12 (k := 104) (Nat.le_of_ble_eq_true rfl) rfl (Or.inl ew_1449) f31 g32 rfl ?_
      refine ea_iload_n (pc := 73) dX12_robbery_73 rfl 1 rfl ?_
      obtain ⟨a35, e36, f33, g34, H⟩ := H
      refine ea_deref1 e36 ?_
      obtain ⟨z37, H⟩ := H
      refine ea_iald (pc := 74) dX12_robbery_74 f33 g34 z37 ?_
      obtain ⟨rfl, rfl⟩ := H
      exact ea_ireturn (pc := 75) dX12_robbery_75 rfl rfl
    have qd : Int32.toInt x2 < 0 ∨ 3 < Int32.toInt x2 := by omega
    have H := H.2.2.2.2 qd
    refine ea_tswOut (pc := 17) (tgt := 76) dX12_robbery_17 qd rfl ?_
    refine ea_iload_n (pc := 76) dX12_robbery_76 rfl 2 rfl ?_
    refine ea_bipush (pc := 77) dX12_robbery_77 (v := 10) rfl ?_
    refine ea_bipush (pc := 79) dX12_robbery_79 (v := 9) rfl ?_
    refine ea_aload_n (pc := 81) dX12_robbery_81 rfl 0 rfl ?_
    obtain ⟨f38, g39, H⟩ := H
    refine ea_deref0 e4 ?_
    refine ea_getR (pc := 82) dX12_robbery_82 ec_12 (k := 103) (Nat.le_of_ble_eq_true rfl) rfl (Or.inl ew_1448) f38 g39 rfl ?_
    refine ea_iload_n (pc := 85) dX12_robbery_85 rfl 1 rfl ?_
    obtain ⟨a42, e43, f40, g41, H⟩ := H
    refine ea_deref1 e43 ?_
    obtain ⟨z44, H⟩ := H
    refine ea_iald (pc := 86) dX12_robbery_86 f40 g41 z44 ?_
    refine ea_iadd (pc := 87) dX12_robbery_87 ?_
    obtain ⟨d45, xc49, h46, m47, q48, H⟩ := H
    refine ea_callS (pc := 88) (As := [vI x2, vI 10, vI ((9 : Int32) + (ea_i h6 a42 (Int32.toNatClampNeg x1)))]) (st := []) dX12_robbery_88 kX12_isIn m47 q48 rfl (Nat.le_of_ble_eq_true rfl) ew_1712 ew_1713 ?_
    refine ea_if_eq (pc := 91) (tgt := 111) dX12_robbery_91 rfl (fun c57 => ?_) (fun c57 => ?_)
    · have H := H.1 c57
      refine ea_iconst (pc := 111) dX12_robbery_111 (v := (-1)) rfl ?_
      obtain ⟨rfl, rfl⟩ := H
      exact ea_ireturn (pc := 112) dX12_robbery_112 rfl rfl
    · have H := H.2 c57
      refine ea_aload_n (pc := 94) dX12_robbery_94 rfl 0 rfl ?_
      obtain ⟨f50, g51, H⟩ := H
      refine ea_deref0 e4 ?_
      refine ea_getR (pc := 95) dX12_robbery_95 ec_12 (k := 105) (Nat.le_of_ble_eq_true rfl) rfl (Or.inl ew_1450) f50 g51 rfl ?_
      refine ea_bipush (pc := 98) dX12_robbery_98 (v := 120) rfl ?_
      refine ea_iload_n (pc := 100) dX12_robbery_100 rfl 1 rfl ?_
      refine ea_imul (pc := 101) dX12_robbery_101 ?_
      refine ea_iload_n (pc := 102) dX12_robbery_102 rfl 2 rfl ?_
      refine ea_iadd (pc := 103) dX12_robbery_103 ?_
      refine ea_bipush (pc := 104) dX12_robbery_104 (v := 10) rfl ?_
      refine ea_isub (pc := 106) dX12_robbery_106 ?_
      obtain ⟨a54, e55, f52, g53, H⟩ := H
      refine ea_deref1 e55 ?_
      obtain ⟨z56, H⟩ := H
      refine ea_iald (pc := 107) dX12_robbery_107 f52 g53 z56 ?_
      refine ea_goto (pc := 108) (tgt := 112) dX12_robbery_108 rfl ?_
      obtain ⟨rfl, rfl⟩ := H
      exact ea_ireturn (pc := 112) dX12_robbery_112 rfl rfl
  · have H := H.2 c58
    refine ea_iconst (pc := 14) dX12_robbery_14 (v := (-1)) rfl ?_
    obtain ⟨rfl, rfl⟩ := H
    exact ea_ireturn (pc := 15) dX12_robbery_15 rfl rfl
theorem dX12_set_0 : decode cX12_set 0 = .ok (.aload_n 0, 1) := by decide +kernel
theorem dX12_set_1 : decode cX12_set 1 = .ok (.iload_n 1, 1) := by decide +kernel
theorem dX12_set_2 : decode cX12_set 2 = .ok (.invokevirtual 310, 3) := by decide +kernel
theorem dX12_set_5 : decode cX12_set 5 = .ok (.ifCond .ne 5, 3) := by decide +kernel
theorem dX12_set_8 : decode cX12_set 8 = .ok (.iconst 0, 1) := by decide +kernel
theorem dX12_set_9 : decode cX12_set 9 = .ok (.ireturn, 1) := by decide +kernel
theorem dX12_set_10 : decode cX12_set 10 = .ok (.aload_n 0, 1) := by decide +kernel
theorem dX12_set_11 : decode cX12_set 11 = .ok (.getfield 253, 3) := by decide +kernel
theorem dX12_set_14 : decode cX12_set 14 = .ok (.iload_n 1, 1) := by decide +kernel
theorem dX12_set_15 : decode cX12_set 15 = .ok (.aload_n 0, 1) := by decide +kernel
theorem dX12_set_16 : decode cX12_set 16 = .ok (.getfield 313, 3) := by decide +kernel
theorem dX12_set_19 : decode cX12_set 19 = .ok (.iastore, 1) := by decide +kernel
theorem dX12_set_20 : decode cX12_set 20 = .ok (.iconst 1, 1) := by decide +kernel
theorem dX12_set_21 : decode cX12_set 21 = .ok (.ireturn, 1) := by decide +kernel
theorem bX12_set_0 {d : Nat} {h0 hE h : ea_H} {rv : Option ea_V} {r0 : Option Nat} {x1 : Int32} (H : ∃ a7, r0 = some a7 ∧ a7 < ea_n h ∧ ea_c h a7 = 12 ∧ ∃ (d1 : Nat) (xc9 : Int32) (h2 : ea_H), ea_Met mX12_isTrain d1 [vR (some a7), vI x1] h (some (vI xc9)) h2 ∧ d1 + 1 ≤ d ∧ (¬ xc9 = (0 : Int32) → a7 < ea_n h2 ∧ ea_c h2 a7 = 12 ∧ a7 < ea_n h2 ∧ ea_c h2 a7 = 12 ∧ ∃ a16, (ea_r h2 a7 108) = some a16 ∧ a16 < ea_n h2 ∧ ea_c h2 a16 = 20 ∧ vp_in x1 (ea_l h2 a16) ∧ ∀ h19, h19 = ea_wi h2 a16 (Int32.toNatClampNeg x1) (ea_i h2 a7 0) → rv = some (vI 1) ∧ hE = h19) ∧ (xc9 = (0 : Int32) → rv = some (vI 0) ∧ hE = h2)) : ea_W mX12_set d h0 rv hE 0 [(0, vR r0), (1, vI x1)] [] h := by
  refine ea_aload_n (pc := 0) dX12_set_0 rfl 0 rfl ?_
  refine ea_iload_n (pc := 1) dX12_set_1 rfl 1 rfl ?_
  obtain ⟨a7, e8, f5, g6, H⟩ := H
  refine ea_deref1 e8 ?_
  obtain ⟨d1, xc9, h2, m3, q4, H⟩ := H
  refine ea_callV (pc := 2) (As := [vI x1]) (st := []) dX12_set_2 kX12_isTrain m3 q4 rfl (Nat.le_of_ble_eq_true rfl) ew_1736 ew_1738 ew_50 (ci := 12) rfl (by decide) f5 g6 ?_
  refine ea_if_ne (pc := 5) (tgt := 10) dX12_set_5 rfl (fun c21 => ?_) (fun c21 => ?_)
  · have H := H.1 c21
    refine ea_aload_n (pc := 10) dX12_set_10 rfl 0 rfl ?_
    obtain ⟨f10, g11, H⟩ := H
    refine ea_deref0 e8 ?_
    refine ea_getR (pc := 11) dX12_set_11 ec_12 (k := 108) (Nat.le_of_ble_eq_true rfl) rfl (Or.inl ew_1453) f10 g11 rfl ?_
    refine ea_iload_n (pc := 14) dX12_set_14 rfl 1 rfl ?_
    refine ea_aload_n (pc := 15) dX12_set_15 rfl 0 rfl ?_
    obtain ⟨f12, g13, H⟩ := H
    refine ea_deref0 e8 ?_
    refine ea_getI (pc := 16) dX12_set_16 ec_12 (k := 0) (Nat.le_of_ble_eq_true rfl) rfl (Or.inl ew_1345) f12 g13 ?_
    obtain ⟨a16, e17, f14, g15, H⟩ := H
    refine ea_deref2 e17 ?_
    obtain ⟨z18, H⟩ := H
    refine ea_iast (pc := 19) dX12_set_19 f14 g15 z18 ?_
    obtain ⟨h19, E20⟩ : ∃ z, z = ea_wi h2 a16 (Int32.toNatClampNeg x1) (ea_i h2 a7 0) := ⟨_, rfl⟩
    have H := H h19 E20
    refine ea_nm E20 ?_
    refine ea_iconst (pc := 20) dX12_set_20 (v := 1) rfl ?_
    obtain ⟨rfl, rfl⟩ := H
    exact ea_ireturn (pc := 21) dX12_set_21 rfl (ea_bn (Or.inr rfl))
  · have H := H.2 c21
    refine ea_iconst (pc := 8) dX12_set_8 (v := 0) rfl ?_
    obtain ⟨rfl, rfl⟩ := H
    exact ea_ireturn (pc := 9) dX12_set_9 rfl (ea_bn (Or.inl rfl))
theorem dX12_shows_0 : decode cX12_shows 0 = .ok (.aload_n 0, 1) := by decide +kernel
theorem dX12_shows_1 : decode cX12_shows 1 = .ok (.getfield 253, 3) := by decide +kernel
theorem dX12_shows_4 : decode cX12_shows 4 = .ok (.iload_n 1, 1) := by decide +kernel
theorem dX12_shows_5 : decode cX12_shows 5 = .ok (.iaload, 1) := by decide +kernel
theorem dX12_shows_6 : decode cX12_shows 6 = .ok (.iload_n 3, 1) := by decide +kernel
theorem dX12_shows_7 : decode cX12_shows 7 = .ok (.aload_n 0, 1) := by decide +kernel
theorem dX12_shows_8 : decode cX12_shows 8 = .ok (.getfield 253, 3) := by decide +kernel
theorem dX12_shows_11 : decode cX12_shows 11 = .ok (.iload_n 1, 1) := by decide +kernel
theorem dX12_shows_12 : decode cX12_shows 12 = .ok (.iaload, 1) := by decide +kernel
theorem dX12_shows_13 : decode cX12_shows 13 = .ok (.isub, 1) := by decide +kernel
theorem dX12_shows_14 : decode cX12_shows 14 = .ok (.i2l, 1) := by decide +kernel
theorem dX12_shows_15 : decode cX12_shows 15 = .ok (.ldc2_w 617, 3) := by decide +kernel
theorem dX12_shows_18 : decode cX12_shows 18 = .ok (.iload_n 2, 1) := by decide +kernel
theorem dX12_shows_19 : decode cX12_shows 19 = .ok (.i2l, 1) := by decide +kernel
theorem dX12_shows_20 : decode cX12_shows 20 = .ok (.ladd, 1) := by decide +kernel
theorem dX12_shows_21 : decode cX12_shows 21 = .ok (.lmul, 1) := by decide +kernel
theorem dX12_shows_22 : decode cX12_shows 22 = .ok (.ldc2_w 617, 3) := by decide +kernel
theorem dX12_shows_25 : decode cX12_shows 25 = .ok (.ldiv, 1) := by decide +kernel
theorem dX12_shows_26 : decode cX12_shows 26 = .ok (.l2i, 1) := by decide +kernel
theorem dX12_shows_27 : decode cX12_shows 27 = .ok (.iadd, 1) := by decide +kernel
theorem dX12_shows_28 : decode cX12_shows 28 = .ok (.ireturn, 1) := by decide +kernel
theorem bX12_shows_0 {d : Nat} {h0 hE h : ea_H} {rv : Option ea_V} {r0 : Option Nat} {x1 : Int32} {x2 : Int32} {x3 : Int32} (H : ∃ a3, r0 = some a3 ∧ a3 < ea_n h ∧ ea_c h a3 = 12 ∧ ∃ a7, (ea_r h a3 108) = some a7 ∧ a7 < ea_n h ∧ ea_c h a7 = 20 ∧ vp_in x1 (ea_l h a7) ∧ a3 < ea_n h ∧ ea_c h a3 = 12 ∧ a7 < ea_n h ∧ ea_c h a7 = 20 ∧ vp_in x1 (ea_l h a7) ∧ rv = some (vI ((ea_i h a7 (Int32.toNatClampNeg x1)) + (Int64.toInt32 (((Int32.toInt64 (x3 - (ea_i h a7 (Int32.toNatClampNeg x1)))) * ((3600 : Int64) + (Int32.toInt64 x2))) / (3600 : Int64))))) ∧ hE = h) : ea_W mX12_shows d h0 rv hE 0 [(0, vR r0), (1, vI x1), (2, vI x2), (3, vI x3)] [] h := by
  refine ea_aload_n (pc := 0) dX12_shows_0 rfl 0 rfl ?_
  obtain ⟨a3, e4, f1, g2, H⟩ := H
  refine ea_deref0 e4 ?_
  refine ea_getR (pc := 1) dX12_shows_1 ec_12 (k := 108) (Nat.le_of_ble_eq_true rfl) rfl (Or.inl ew_1453) f1 g2 rfl ?_
  refine ea_iload_n (pc := 4) dX12_shows_4 rfl 1 rfl ?_
  obtain ⟨a7, e8, f5, g6, H⟩ := H
  refine ea_deref1 e8 ?_
  obtain ⟨z9, H⟩ := H
  refine ea_iald (pc := 5) dX12_shows_5 f5 g6 z9 ?_
  refine ea_iload_n (pc := 6) dX12_shows_6 rfl 3 rfl ?_
  refine ea_aload_n (pc := 7) dX12_shows_7 rfl 0 rfl ?_
  obtain ⟨f10, g11, H⟩ := H
  refine ea_deref0 e4 ?_
  refine ea_getR (pc := 8) dX12_shows_8 ec_12 (k := 108) (Nat.le_of_ble_eq_true rfl) rfl (Or.inl ew_1453) f10 g11 rfl ?_
  refine ea_iload_n (pc := 11) dX12_shows_11 rfl 1 rfl ?_
  obtain ⟨f12, g13, H⟩ := H
  refine ea_deref1 e8 ?_
  obtain ⟨z14, H⟩ := H
  refine ea_iald (pc := 12) dX12_shows_12 f12 g13 z14 ?_
  refine ea_isub (pc := 13) dX12_shows_13 ?_
  refine ea_i2l (pc := 14) dX12_shows_14 ?_
  refine ea_ldc2 (pc := 15) dX12_shows_15 ew_2154 ?_
  refine ea_iload_n (pc := 18) dX12_shows_18 rfl 2 rfl ?_
  refine ea_i2l (pc := 19) dX12_shows_19 ?_
  refine ea_ladd (pc := 20) dX12_shows_20 ?_
  refine ea_lmul (pc := 21) dX12_shows_21 ?_
  refine ea_ldc2 (pc := 22) dX12_shows_22 ew_2154 ?_
  refine ea_ldiv (pc := 25) dX12_shows_25 (by decide) ?_
  refine ea_l2i (pc := 26) dX12_shows_26 ?_
  refine ea_iadd (pc := 27) dX12_shows_27 ?_
  obtain ⟨rfl, rfl⟩ := H
  exact ea_ireturn (pc := 28) dX12_shows_28 rfl rfl
theorem dX12_seen_0 : decode cX12_seen 0 = .ok (.aload_n 0, 1) := by decide +kernel
theorem dX12_seen_1 : decode cX12_seen 1 = .ok (.iload_n 1, 1) := by decide +kernel
theorem dX12_seen_2 : decode cX12_seen 2 = .ok (.invokevirtual 310, 3) := by decide +kernel
theorem dX12_seen_5 : decode cX12_seen 5 = .ok (.ifCond .eq 10, 3) := by decide +kernel
theorem dX12_seen_8 : decode cX12_seen 8 = .ok (.iload_n 2, 1) := by decide +kernel
theorem dX12_seen_9 : decode cX12_seen 9 = .ok (.invokestatic 619, 3) := by decide +kernel
theorem dX12_seen_12 : decode cX12_seen 12 = .ok (.ifCond .ne 5, 3) := by decide +kernel
theorem dX12_seen_15 : decode cX12_seen 15 = .ok (.iconst 0, 1) := by decide +kernel
theorem dX12_seen_16 : decode cX12_seen 16 = .ok (.ireturn, 1) := by decide +kernel
theorem dX12_seen_17 : decode cX12_seen 17 = .ok (.aload_n 0, 1) := by decide +kernel
theorem dX12_seen_18 : decode cX12_seen 18 = .ok (.getfield 250, 3) := by decide +kernel
theorem dX12_seen_21 : decode cX12_seen 21 = .ok (.iload_n 1, 1) := by decide +kernel
theorem dX12_seen_22 : decode cX12_seen 22 = .ok (.iaload, 1) := by decide +kernel
theorem dX12_seen_23 : decode cX12_seen 23 = .ok (.iconst 1, 1) := by decide +kernel
theorem dX12_seen_24 : decode cX12_seen 24 = .ok (.iadd, 1) := by decide +kernel
theorem dX12_seen_25 : decode cX12_seen 25 = .ok (.istore_n 3, 1) := by decide +kernel
theorem dX12_seen_26 : decode cX12_seen 26 = .ok (.aload_n 0, 1) := by decide +kernel
theorem dX12_seen_27 : decode cX12_seen 27 = .ok (.getfield 247, 3) := by decide +kernel
theorem dX12_seen_30 : decode cX12_seen 30 = .ok (.iload_n 1, 1) := by decide +kernel
theorem dX12_seen_31 : decode cX12_seen 31 = .ok (.iaload, 1) := by decide +kernel
theorem dX12_seen_32 : decode cX12_seen 32 = .ok (.iconst 1, 1) := by decide +kernel
theorem dX12_seen_33 : decode cX12_seen 33 = .ok (.isub, 1) := by decide +kernel
theorem dX12_seen_34 : decode cX12_seen 34 = .ok (.istore 4, 2) := by decide +kernel
theorem dX12_seen_36 : decode cX12_seen 36 = .ok (.aload_n 0, 1) := by decide +kernel
theorem dX12_seen_37 : decode cX12_seen 37 = .ok (.getfield 247, 3) := by decide +kernel
theorem dX12_seen_40 : decode cX12_seen 40 = .ok (.iload_n 1, 1) := by decide +kernel
theorem dX12_seen_41 : decode cX12_seen 41 = .ok (.iaload, 1) := by decide +kernel
theorem dX12_seen_42 : decode cX12_seen 42 = .ok (.istore 5, 2) := by decide +kernel
theorem dX12_seen_44 : decode cX12_seen 44 = .ok (.iload 5, 2) := by decide +kernel
theorem dX12_seen_46 : decode cX12_seen 46 = .ok (.aload_n 0, 1) := by decide +kernel
theorem dX12_seen_47 : decode cX12_seen 47 = .ok (.getfield 250, 3) := by decide +kernel
theorem dX12_seen_50 : decode cX12_seen 50 = .ok (.iload_n 1, 1) := by decide +kernel
theorem dX12_seen_51 : decode cX12_seen 51 = .ok (.iaload, 1) := by decide +kernel
theorem dX12_seen_52 : decode cX12_seen 52 = .ok (.if_icmp .gt 56, 3) := by decide +kernel
theorem dX12_seen_55 : decode cX12_seen 55 = .ok (.aload_n 0, 1) := by decide +kernel
theorem dX12_seen_56 : decode cX12_seen 56 = .ok (.iload_n 1, 1) := by decide +kernel
theorem dX12_seen_57 : decode cX12_seen 57 = .ok (.iload 5, 2) := by decide +kernel
theorem dX12_seen_59 : decode cX12_seen 59 = .ok (.aload_n 0, 1) := by decide +kernel
theorem dX12_seen_60 : decode cX12_seen 60 = .ok (.getfield 313, 3) := by decide +kernel
theorem dX12_seen_63 : decode cX12_seen 63 = .ok (.invokevirtual 622, 3) := by decide +kernel
theorem dX12_seen_66 : decode cX12_seen 66 = .ok (.iload_n 2, 1) := by decide +kernel
theorem dX12_seen_67 : decode cX12_seen 67 = .ok (.if_icmp .eq 6, 3) := by decide +kernel
theorem dX12_seen_70 : decode cX12_seen 70 = .ok (.goto 32, 3) := by decide +kernel
theorem dX12_seen_73 : decode cX12_seen 73 = .ok (.iload 5, 2) := by decide +kernel
theorem dX12_seen_75 : decode cX12_seen 75 = .ok (.iload_n 3, 1) := by decide +kernel
theorem dX12_seen_76 : decode cX12_seen 76 = .ok (.if_icmp .ge 8, 3) := by decide +kernel
theorem dX12_seen_79 : decode cX12_seen 79 = .ok (.iload 5, 2) := by decide +kernel
theorem dX12_seen_81 : decode cX12_seen 81 = .ok (.goto 4, 3) := by decide +kernel
theorem dX12_seen_84 : decode cX12_seen 84 = .ok (.iload_n 3, 1) := by decide +kernel
theorem dX12_seen_85 : decode cX12_seen 85 = .ok (.istore_n 3, 1) := by decide +kernel
theorem dX12_seen_86 : decode cX12_seen 86 = .ok (.iload 5, 2) := by decide +kernel
theorem dX12_seen_88 : decode cX12_seen 88 = .ok (.iload 4, 2) := by decide +kernel
theorem dX12_seen_90 : decode cX12_seen 90 = .ok (.if_icmp .le 8, 3) := by decide +kernel
theorem dX12_seen_93 : decode cX12_seen 93 = .ok (.iload 5, 2) := by decide +kernel
theorem dX12_seen_95 : decode cX12_seen 95 = .ok (.goto 5, 3) := by decide +kernel
theorem dX12_seen_98 : decode cX12_seen 98 = .ok (.iload 4, 2) := by decide +kernel
theorem dX12_seen_100 : decode cX12_seen 100 = .ok (.istore 4, 2) := by decide +kernel
theorem dX12_seen_102 : decode cX12_seen 102 = .ok (.iinc 5 1, 3) := by decide +kernel
theorem dX12_seen_105 : decode cX12_seen 105 = .ok (.goto (-61), 3) := by decide +kernel
theorem dX12_seen_108 : decode cX12_seen 108 = .ok (.iload_n 3, 1) := by decide +kernel
theorem dX12_seen_109 : decode cX12_seen 109 = .ok (.iload 4, 2) := by decide +kernel
theorem dX12_seen_111 : decode cX12_seen 111 = .ok (.if_icmp .le 5, 3) := by decide +kernel
theorem dX12_seen_114 : decode cX12_seen 114 = .ok (.iconst 0, 1) := by decide +kernel
theorem dX12_seen_115 : decode cX12_seen 115 = .ok (.ireturn, 1) := by decide +kernel
theorem dX12_seen_116 : decode cX12_seen 116 = .ok (.aload_n 0, 1) := by decide +kernel
theorem dX12_seen_117 : decode cX12_seen 117 = .ok (.getfield 247, 3) := by decide +kernel
theorem dX12_seen_120 : decode cX12_seen 120 = .ok (.iload_n 1, 1) := by decide +kernel
theorem dX12_seen_121 : decode cX12_seen 121 = .ok (.iload_n 3, 1) := by decide +kernel
theorem dX12_seen_122 : decode cX12_seen 122 = .ok (.iastore, 1) := by decide +kernel
theorem dX12_seen_123 : decode cX12_seen 123 = .ok (.aload_n 0, 1) := by decide +kernel
theorem dX12_seen_124 : decode cX12_seen 124 = .ok (.getfield 250, 3) := by decide +kernel
theorem dX12_seen_127 : decode cX12_seen 127 = .ok (.iload_n 1, 1) := by decide +kernel
theorem dX12_seen_128 : decode cX12_seen 128 = .ok (.iload 4, 2) := by decide +kernel
theorem dX12_seen_130 : decode cX12_seen 130 = .ok (.iastore, 1) := by decide +kernel
theorem dX12_seen_131 : decode cX12_seen 131 = .ok (.iconst 1, 1) := by decide +kernel
theorem dX12_seen_132 : decode cX12_seen 132 = .ok (.ireturn, 1) := by decide +kernel
theorem bX12_seen_0 {d : Nat} {h0 hE h : ea_H} {rv : Option ea_V} {r0 : Option Nat} {x1 : Int32} {x2 : Int32} (H : ∃ a7, r0 = some a7 ∧ a7 < ea_n h ∧ ea_c h a7 = 12 ∧ ∃ (d1 : Nat) (xc9 : Int32) (h2 : ea_H), ea_Met mX12_isTrain d1 [vR (some a7), vI x1] h (some (vI xc9)) h2 ∧ d1 + 1 ≤ d ∧ (xc9 = (0 : Int32) → rv = some (vI 0) ∧ hE = h2) ∧ (¬ xc9 = (0 : Int32) → ∃ (d10 : Nat) (xc14 : Int32) (h11 : ea_H), ea_Met mX12_isMinute d10 [vI x2] h2 (some (vI xc14)) h11 ∧ d10 + 1 ≤ d ∧ (¬ xc14 = (0 : Int32) → a7 < ea_n h11 ∧ ea_c h11 a7 = 12 ∧ ∃ a19, (ea_r h11 a7 107) = some a19 ∧ a19 < ea_n h11 ∧ ea_c h11 a19 = 20 ∧ vp_in x1 (ea_l h11 a19) ∧ a7 < ea_n h11 ∧ ea_c h11 a7 = 12 ∧ ∃ a26, (ea_r h11 a7 106) = some a26 ∧ a26 < ea_n h11 ∧ ea_c h11 a26 = 20 ∧ vp_in x1 (ea_l h11 a26) ∧ a7 < ea_n h11 ∧ ea_c h11 a7 = 12 ∧ a26 < ea_n h11 ∧ ea_c h11 a26 = 20 ∧ vp_in x1 (ea_l h11 a26) ∧ ea_W mX12_seen d h0 rv hE 44 [(0, vR r0), (1, vI x1), (2, vI x2), (3, vI ((ea_i h11 a19 (Int32.toNatClampNeg x1)) + (1 : Int32))), (4, vI ((ea_i h11 a26 (Int32.toNatClampNeg x1)) - (1 : Int32))), (5, vI (ea_i h11 a26 (Int32.toNatClampNeg x1)))] [] h11) ∧ (xc14 = (0 : Int32) → rv = some (vI 0) ∧ hE = h11))) : ea_W mX12_seen d h0 rv hE 0 [(0, vR r0), (1, vI x1), (2, vI x2)] [] h := by
  refine ea_aload_n (pc := 0) dX12_seen_0 rfl 0 rfl ?_
  refine ea_iload_n (pc := 1) dX12_seen_1 rfl 1 rfl ?_
  obtain ⟨a7, e8, f5, g6, H⟩ := H
  refine ea_deref1 e8 ?_
  obtain ⟨d1, xc9, h2, m3, q4, H⟩ := H
  refine ea_callV (pc := 2) (As := [vI x1]) (st := []) dX12_seen_2 kX12_isTrain m3 q4 rfl (Nat.le_of_ble_eq_true rfl) ew_1736 ew_1738 ew_50 (ci := 12) rfl (by decide) f5 g6 ?_
  refine ea_if_eq (pc := 5) (tgt := 15) dX12_seen_5 rfl (fun c35 => ?_) (fun c35 => ?_)
  · have H := H.1 c35
    refine ea_iconst (pc := 15) dX12_seen_15 (v := 0) rfl ?_
    obtain ⟨rfl, rfl⟩ := H
    exact ea_ireturn (pc := 16) dX12_seen_16 rfl (ea_bn (Or.inl rfl))
  · have H := H.2 c35
    refine ea_iload_n (pc := 8) dX12_seen_8 rfl 2 rfl ?_
    obtain ⟨d10, xc14, h11, m12, q13, H⟩ := H
    refine ea_callS (pc := 9) (As := [vI x2]) (st := []) dX12_seen_9 kX12_isMinute m12 q13 rfl (Nat.le_of_ble_eq_true rfl) ew_2147 ew_2148 ?_
    refine ea_if_ne (pc := 12) (tgt := 17) dX12_seen_12 rfl (fun c34 => ?_) (fun c34 => ?_)
    · have H := H.1 c34
      refine ea_aload_n (pc := 17) dX12_seen_17 rfl 0 rfl ?_
      obtain ⟨f15, g16, H⟩ := H
      refine ea_deref0 e8 ?_
      refine ea_getR (pc := 18) dX12_seen_18 ec_12 (k := 107) (Nat.le_of_ble_eq_true rfl) rfl (Or.inl ew_1452) f15 g16 rfl ?_
      refine ea_iload_n (pc := 21) dX12_seen_21 rfl 1 rfl ?_
      obtain ⟨a19, e20, f17, g18, H⟩ := H
      refine ea_deref1 e20 ?_
      obtain ⟨z21, H⟩ := H
      refine ea_iald (pc := 22) dX12_seen_22 f17 g18 z21 ?_
      refine ea_iconst (pc := 23) dX12_seen_23 (v := 1) rfl ?_
      refine ea_iadd (pc := 24) dX12_seen_24 ?_
      refine ea_istore_n (pc := 25) (lv' := [(0, vR r0), (1, vI x1), (2, vI x2), (3, vI ((ea_i h11 a19 (Int32.toNatClampNeg x1)) + (1 : Int32)))]) dX12_seen_25 rfl (Nat.le_of_ble_eq_true rfl) [1, 2, 3, 0] rfl ?_
      refine ea_aload_n (pc := 26) dX12_seen_26 rfl 0 rfl ?_
      obtain ⟨f22, g23, H⟩ := H
      refine ea_deref0 e8 ?_
      refine ea_getR (pc := 27) dX12_seen_27 ec_12 (k := 106) (Nat.le_of_ble_eq_true rfl) rfl (Or.inl ew_1451) f22 g23 rfl ?_
      refine ea_iload_n (pc := 30) dX12_seen_30 rfl 1 rfl ?_
      obtain ⟨a26, e27, f24, g25, H⟩ := H
      refine ea_deref1 e27 ?_
      obtain ⟨z28, H⟩ := H
      refine ea_iald (pc := 31) dX12_seen_31 f24 g25 z28 ?_
      refine ea_iconst (pc := 32) dX12_seen_32 (v := 1) rfl ?_
      refine ea_isub (pc := 33) dX12_seen_33 ?_
      refine ea_istore (pc := 34) (lv' := [(0, vR r0), (1, vI x1), (2, vI x2), (3, vI ((ea_i h11 a19 (Int32.toNatClampNeg x1)) + (1 : Int32))), (4, vI ((ea_i h11 a26 (Int32.toNatClampNeg x1)) - (1 : Int32)))]) dX12_seen_34 (Nat.le_of_ble_eq_true rfl) [1, 2, 3, 4, 0] rfl ?_
      refine ea_aload_n (pc := 36) dX12_seen_36 rfl 0 rfl ?_
      obtain ⟨f29, g30, H⟩ := H
      refine ea_deref0 e8 ?_
      refine ea_getR (pc := 37) dX12_seen_37 ec_12 (k := 106) (Nat.le_of_ble_eq_true rfl) rfl (Or.inl ew_1451) f29 g30 rfl ?_
      refine ea_iload_n (pc := 40) dX12_seen_40 rfl 1 rfl ?_
      obtain ⟨f31, g32, H⟩ := H
      refine ea_deref1 e27 ?_
      obtain ⟨z33, H⟩ := H
      refine ea_iald (pc := 41) dX12_seen_41 f31 g32 z33 ?_
      refine ea_istore (pc := 42) (lv' := [(0, vR r0), (1, vI x1), (2, vI x2), (3, vI ((ea_i h11 a19 (Int32.toNatClampNeg x1)) + (1 : Int32))), (4, vI ((ea_i h11 a26 (Int32.toNatClampNeg x1)) - (1 : Int32))), (5, vI (ea_i h11 a26 (Int32.toNatClampNeg x1)))]) dX12_seen_42 (Nat.le_of_ble_eq_true rfl) [1, 2, 3, 4, 5, 0] rfl ?_
      exact H
    · have H := H.2 c34
      refine ea_iconst (pc := 15) dX12_seen_15 (v := 0) rfl ?_
      obtain ⟨rfl, rfl⟩ := H
      exact ea_ireturn (pc := 16) dX12_seen_16 rfl (ea_bn (Or.inl rfl))
theorem bX12_seen_44 {d : Nat} {h0 hE h : ea_H} {rv : Option ea_V} {r0 : Option Nat} {x1 : Int32} {x2 : Int32} {x3 : Int32} {x4 : Int32} {x5 : Int32} (H : ∃ a3, r0 = some a3 ∧ a3 < ea_n h ∧ ea_c h a3 = 12 ∧ ∃ a7, (ea_r h a3 107) = some a7 ∧ a7 < ea_n h ∧ ea_c h a7 = 20 ∧ vp_in x1 (ea_l h a7) ∧ ((ea_i h a7 (Int32.toNatClampNeg x1)) < x5 → (x3 ≤ x4 → a3 < ea_n h ∧ ea_c h a3 = 12 ∧ ∃ a14, (ea_r h a3 106) = some a14 ∧ a14 < ea_n h ∧ ea_c h a14 = 20 ∧ vp_in x1 (ea_l h a14) ∧ ∀ h17, h17 = ea_wi h a14 (Int32.toNatClampNeg x1) x3 → a3 < ea_n h17 ∧ ea_c h17 a3 = 12 ∧ ∃ a23, (ea_r h17 a3 107) = some a23 ∧ a23 < ea_n h17 ∧ ea_c h17 a23 = 20 ∧ vp_in x1 (ea_l h17 a23) ∧ ∀ h26, h26 = ea_wi h17 a23 (Int32.toNatClampNeg x1) x4 → rv = some (vI 1) ∧ hE = h26) ∧ (¬ x3 ≤ x4 → rv = some (vI 0) ∧ hE = h)) ∧ (¬ (ea_i h a7 (Int32.toNatClampNeg x1)) < x5 → a3 < ea_n h ∧ ea_c h a3 = 12 ∧ a3 < ea_n h ∧ ea_c h a3 = 12 ∧ ∃ (d31 : Nat) (xc37 : Int32) (h32 : ea_H), ea_Met mX12_shows d31 [vR (some a3), vI x1, vI x5, vI (ea_i h a3 0)] h (some (vI xc37)) h32 ∧ d31 + 1 ≤ d ∧ (xc37 = x2 → (x3 ≤ x5 → ea_W mX12_seen d h0 rv hE 85 [(0, vR r0), (1, vI x1), (2, vI x2), (4, vI x4), (5, vI x5)] [vI x3] h32) ∧ (¬ x3 ≤ x5 → ea_W mX12_seen d h0 rv hE 85 [(0, vR r0), (1, vI x1), (2, vI x2), (4, vI x4), (5, vI x5)] [vI x5] h32)) ∧ (¬ xc37 = x2 → ea_W mX12_seen d h0 rv hE 44 [(0, vR r0), (1, vI x1), (2, vI x2), (3, vI x3), (4, vI x4), (5, vI (x5 + 1))] [] h32))) : ea_W mX12_seen d h0 rv hE 44 [(0, vR r0), (1, vI x1), (2, vI x2), (3, vI x3), (4, vI x4), (5, vI x5)] [] h := by
  refine ea_iload (pc := 44) dX12_seen_44 5 rfl ?_
  refine ea_aload_n (pc := 46) dX12_seen_46 rfl 0 rfl ?_
  obtain ⟨a3, e4, f1, g2, H⟩ := H
  refine ea_deref0 e4 ?_
  refine ea_getR (pc := 47) dX12_seen_47 ec_12 (k := 107) (Nat.le_of_ble_eq_true rfl) rfl (Or.inl ew_1452) f1 g2 rfl ?_
  refine ea_iload_n (pc := 50) dX12_seen_50 rfl 1 rfl ?_
  obtain ⟨a7, e8, f5, g6, H⟩ := H
  refine ea_deref1 e8 ?_
  obtain ⟨z9, H⟩ := H
  refine ea_iald (pc := 51) dX12_seen_51 f5 g6 z9 ?_
  refine ea_icmp_gt (pc := 52) (tgt := 108) dX12_seen_52 rfl (fun c40 => ?_) (fun c40 => ?_)
  · have H := H.1 c40
    refine ea_iload_n (pc := 108) dX12_seen_108 rfl 3 rfl ?_
    refine ea_iload (pc := 109) dX12_seen_109 4 rfl ?_
    refine ea_icmp_le (pc := 111) (tgt := 116) dX12_seen_111 rfl (fun c28 => ?_) (fun c28 => ?_)
    · have H := H.1 c28
      refine ea_aload_n (pc := 116) dX12_seen_116 rfl 0 rfl ?_
      obtain ⟨f10, g11, H⟩ := H
      refine ea_deref0 e4 ?_
      refine ea_getR (pc := 117) dX12_seen_117 ec_12 (k := 106) (Nat.le_of_ble_eq_true rfl) rfl (Or.inl ew_1451) f10 g11 rfl ?_
      refine ea_iload_n (pc := 120) dX12_seen_120 rfl 1 rfl ?_
      refine ea_iload_n (pc := 121) dX12_seen_121 rfl 3 rfl ?_
      obtain ⟨a14, e15, f12, g13, H⟩ := H
      refine ea_deref2 e15 ?_
      obtain ⟨z16, H⟩ := H
      refine ea_iast (pc := 122) dX12_seen_122 f12 g13 z16 ?_
      obtain ⟨h17, E18⟩ : ∃ z, z = ea_wi h a14 (Int32.toNatClampNeg x1) x3 := ⟨_, rfl⟩
      have H := H h17 E18
      refine ea_nm E18 ?_
      refine ea_aload_n (pc := 123) dX12_seen_123 rfl 0 rfl ?_
      obtain ⟨f19, g20, H⟩ := H
      refine ea_deref0 e4 ?_
      refine ea_getR (pc := 124) dX12_seen_124 ec_12 (k := 107) (Nat.le_of_ble_eq_true rfl) rfl (Or.inl ew_1452) f19 g20 rfl ?_
      refine ea_iload_n (pc := 127) dX12_seen_127 rfl 1 rfl ?_
      refine ea_iload (pc := 128) dX12_seen_128 4 rfl ?_
      obtain ⟨a23, e24, f21, g22, H⟩ := H
      refine ea_deref2 e24 ?_
      obtain ⟨z25, H⟩ := H
      refine ea_iast (pc := 130) dX12_seen_130 f21 g22 z25 ?_
      obtain ⟨h26, E27⟩ : ∃ z, z = ea_wi h17 a23 (Int32.toNatClampNeg x1) x4 := ⟨_, rfl⟩
      have H := H h26 E27
      refine ea_nm E27 ?_
      refine ea_iconst (pc := 131) dX12_seen_131 (v := 1) rfl ?_
      obtain ⟨rfl, rfl⟩ := H
      exact ea_ireturn (pc := 132) dX12_seen_132 rfl (ea_bn (Or.inr rfl))
    · have H := H.2 c28
      refine ea_iconst (pc := 114) dX12_seen_114 (v := 0) rfl ?_
      obtain ⟨rfl, rfl⟩ := H
      exact ea_ireturn (pc := 115) dX12_seen_115 rfl (ea_bn (Or.inl rfl))
  · have H := H.2 c40
    refine ea_aload_n (pc := 55) dX12_seen_55 rfl 0 rfl ?_
    refine ea_iload_n (pc := 56) dX12_seen_56 rfl 1 rfl ?_
    refine ea_iload (pc := 57) dX12_seen_57 5 rfl ?_
    refine ea_aload_n (pc := 59) dX12_seen_59 rfl 0 rfl ?_
    obtain ⟨f29, g30, H⟩ := H
    refine ea_deref0 e4 ?_
    refine ea_getI (pc := 60) dX12_seen_60 ec_12 (k := 0) (Nat.le_of_ble_eq_true rfl) rfl (Or.inl ew_1345) f29 g30 ?_
    obtain ⟨f35, g36, H⟩ := H
    refine ea_deref3 e4 ?_
    obtain ⟨d31, xc37, h32, m33, q34, H⟩ := H
    refine ea_callV (pc := 63) (As := [vI x1, vI x5, vI (ea_i h a3 0)]) (st := []) dX12_seen_63 kX12_shows m33 q34 rfl (Nat.le_of_ble_eq_true rfl) ew_2150 ew_2152 ew_102 (ci := 12) rfl (by decide) f35 g36 ?_
    refine ea_iload_n (pc := 66) dX12_seen_66 rfl 2 rfl ?_
    refine ea_icmp_eq (pc := 67) (tgt := 73) dX12_seen_67 rfl (fun c39 => ?_) (fun c39 => ?_)
    · have H := H.1 c39
      refine ea_iload (pc := 73) dX12_seen_73 5 rfl ?_
      refine ea_iload_n (pc := 75) dX12_seen_75 rfl 3 rfl ?_
      refine ea_icmp_ge (pc := 76) (tgt := 84) dX12_seen_76 rfl (fun c38 => ?_) (fun c38 => ?_)
      · have H := H.1 c38
        refine ea_iload_n (pc := 84) dX12_seen_84 rfl 3 rfl ?_
        exact ea_fewer [0, 1, 2, 4, 5] rfl H
      · have H := H.2 c38
        refine ea_iload (pc := 79) dX12_seen_79 5 rfl ?_
        refine ea_goto (pc := 81) (tgt := 85) dX12_seen_81 rfl ?_
        exact ea_fewer [0, 1, 2, 4, 5] rfl H
    · have H := H.2 c39
      refine ea_goto (pc := 70) (tgt := 102) dX12_seen_70 rfl ?_
      refine ea_iinc (pc := 102) (v := 1) (lv' := [(0, vR r0), (1, vI x1), (2, vI x2), (3, vI x3), (4, vI x4), (5, vI (x5 + 1))]) dX12_seen_102 5 rfl rfl (Nat.le_of_ble_eq_true rfl) [1, 2, 3, 4, 5, 0] rfl ?_
      refine ea_goto (pc := 105) (tgt := 44) dX12_seen_105 rfl ?_
      exact H
theorem bX12_seen_85 {d : Nat} {h0 hE h : ea_H} {rv : Option ea_V} {r0 : Option Nat} {x1 : Int32} {x2 : Int32} {x4 : Int32} {x5 : Int32} {sx0 : Int32} (H : (x5 ≤ x4 → ea_W mX12_seen d h0 rv hE 44 [(0, vR r0), (1, vI x1), (2, vI x2), (3, vI sx0), (4, vI x4), (5, vI (x5 + 1))] [] h) ∧ (¬ x5 ≤ x4 → ea_W mX12_seen d h0 rv hE 44 [(0, vR r0), (1, vI x1), (2, vI x2), (3, vI sx0), (4, vI x5), (5, vI (x5 + 1))] [] h)) : ea_W mX12_seen d h0 rv hE 85 [(0, vR r0), (1, vI x1), (2, vI x2), (4, vI x4), (5, vI x5)] [vI sx0] h := by
  refine ea_istore_n (pc := 85) (lv' := [(0, vR r0), (1, vI x1), (2, vI x2), (3, vI sx0), (4, vI x4), (5, vI x5)]) dX12_seen_85 rfl (Nat.le_of_ble_eq_true rfl) [1, 2, 3, 0, 4, 5] rfl ?_
  refine ea_iload (pc := 86) dX12_seen_86 5 rfl ?_
  refine ea_iload (pc := 88) dX12_seen_88 4 rfl ?_
  refine ea_icmp_le (pc := 90) (tgt := 98) dX12_seen_90 rfl (fun c1 => ?_) (fun c1 => ?_)
  · have H := H.1 c1
    refine ea_iload (pc := 98) dX12_seen_98 4 rfl ?_
    refine ea_istore (pc := 100) (lv' := [(0, vR r0), (1, vI x1), (2, vI x2), (3, vI sx0), (4, vI x4), (5, vI x5)]) dX12_seen_100 (Nat.le_of_ble_eq_true rfl) [1, 2, 3, 4, 0, 5] rfl ?_
    refine ea_iinc (pc := 102) (v := 1) (lv' := [(0, vR r0), (1, vI x1), (2, vI x2), (3, vI sx0), (4, vI x4), (5, vI (x5 + 1))]) dX12_seen_102 5 rfl rfl (Nat.le_of_ble_eq_true rfl) [1, 2, 3, 4, 5, 0] rfl ?_
    refine ea_goto (pc := 105) (tgt := 44) dX12_seen_105 rfl ?_
    exact H
  · have H := H.2 c1
    refine ea_iload (pc := 93) dX12_seen_93 5 rfl ?_
    refine ea_goto (pc := 95) (tgt := 100) dX12_seen_95 rfl ?_
    refine ea_istore (pc := 100) (lv' := [(0, vR r0), (1, vI x1), (2, vI x2), (3, vI sx0), (4, vI x5), (5, vI x5)]) dX12_seen_100 (Nat.le_of_ble_eq_true rfl) [1, 2, 3, 4, 0, 5] rfl ?_
    refine ea_iinc (pc := 102) (v := 1) (lv' := [(0, vR r0), (1, vI x1), (2, vI x2), (3, vI sx0), (4, vI x5), (5, vI (x5 + 1))]) dX12_seen_102 5 rfl rfl (Nat.le_of_ble_eq_true rfl) [1, 2, 3, 4, 5, 0] rfl ?_
    refine ea_goto (pc := 105) (tgt := 44) dX12_seen_105 rfl ?_
    exact H
theorem dX12_clock_0 : decode cX12_clock 0 = .ok (.aload_n 0, 1) := by decide +kernel
theorem dX12_clock_1 : decode cX12_clock 1 = .ok (.iload_n 1, 1) := by decide +kernel
theorem dX12_clock_2 : decode cX12_clock 2 = .ok (.invokevirtual 310, 3) := by decide +kernel
theorem dX12_clock_5 : decode cX12_clock 5 = .ok (.ifCond .ne 9, 3) := by decide +kernel
theorem dX12_clock_8 : decode cX12_clock 8 = .ok (.sipush (-1000), 3) := by decide +kernel
theorem dX12_clock_11 : decode cX12_clock 11 = .ok (.goto 47, 3) := by decide +kernel
theorem dX12_clock_14 : decode cX12_clock 14 = .ok (.iload_n 2, 1) := by decide +kernel
theorem dX12_clock_15 : decode cX12_clock 15 = .ok (.ifCond .ne 12, 3) := by decide +kernel
theorem dX12_clock_18 : decode cX12_clock 18 = .ok (.aload_n 0, 1) := by decide +kernel
theorem dX12_clock_19 : decode cX12_clock 19 = .ok (.getfield 247, 3) := by decide +kernel
theorem dX12_clock_22 : decode cX12_clock 22 = .ok (.iload_n 1, 1) := by decide +kernel
theorem dX12_clock_23 : decode cX12_clock 23 = .ok (.iaload, 1) := by decide +kernel
theorem dX12_clock_24 : decode cX12_clock 24 = .ok (.goto 34, 3) := by decide +kernel
theorem dX12_clock_27 : decode cX12_clock 27 = .ok (.iload_n 2, 1) := by decide +kernel
theorem dX12_clock_28 : decode cX12_clock 28 = .ok (.iconst 1, 1) := by decide +kernel
theorem dX12_clock_29 : decode cX12_clock 29 = .ok (.if_icmp .ne 12, 3) := by decide +kernel
theorem dX12_clock_32 : decode cX12_clock 32 = .ok (.aload_n 0, 1) := by decide +kernel
theorem dX12_clock_33 : decode cX12_clock 33 = .ok (.getfield 250, 3) := by decide +kernel
theorem dX12_clock_36 : decode cX12_clock 36 = .ok (.iload_n 1, 1) := by decide +kernel
theorem dX12_clock_37 : decode cX12_clock 37 = .ok (.iaload, 1) := by decide +kernel
theorem dX12_clock_38 : decode cX12_clock 38 = .ok (.goto 20, 3) := by decide +kernel
theorem dX12_clock_41 : decode cX12_clock 41 = .ok (.iload_n 2, 1) := by decide +kernel
theorem dX12_clock_42 : decode cX12_clock 42 = .ok (.iconst 2, 1) := by decide +kernel
theorem dX12_clock_43 : decode cX12_clock 43 = .ok (.if_icmp .ne 12, 3) := by decide +kernel
theorem dX12_clock_46 : decode cX12_clock 46 = .ok (.aload_n 0, 1) := by decide +kernel
theorem dX12_clock_47 : decode cX12_clock 47 = .ok (.getfield 253, 3) := by decide +kernel
theorem dX12_clock_50 : decode cX12_clock 50 = .ok (.iload_n 1, 1) := by decide +kernel
theorem dX12_clock_51 : decode cX12_clock 51 = .ok (.iaload, 1) := by decide +kernel
theorem dX12_clock_52 : decode cX12_clock 52 = .ok (.goto 6, 3) := by decide +kernel
theorem dX12_clock_55 : decode cX12_clock 55 = .ok (.sipush (-1000), 3) := by decide +kernel
theorem dX12_clock_58 : decode cX12_clock 58 = .ok (.ireturn, 1) := by decide +kernel
theorem bX12_clock_0 {d : Nat} {h0 hE h : ea_H} {rv : Option ea_V} {r0 : Option Nat} {x1 : Int32} {x2 : Int32} (H : ∃ a7, r0 = some a7 ∧ a7 < ea_n h ∧ ea_c h a7 = 12 ∧ ∃ (d1 : Nat) (xc9 : Int32) (h2 : ea_H), ea_Met mX12_isTrain d1 [vR (some a7), vI x1] h (some (vI xc9)) h2 ∧ d1 + 1 ≤ d ∧ (¬ xc9 = (0 : Int32) → (¬ x2 = (0 : Int32) → (¬ x2 = (1 : Int32) → (¬ x2 = (2 : Int32) → rv = some (vI (-1000)) ∧ hE = h2) ∧ (x2 = (2 : Int32) → a7 < ea_n h2 ∧ ea_c h2 a7 = 12 ∧ ∃ a14, (ea_r h2 a7 108) = some a14 ∧ a14 < ea_n h2 ∧ ea_c h2 a14 = 20 ∧ vp_in x1 (ea_l h2 a14) ∧ rv = some (vI (ea_i h2 a14 (Int32.toNatClampNeg x1))) ∧ hE = h2)) ∧ (x2 = (1 : Int32) → a7 < ea_n h2 ∧ ea_c h2 a7 = 12 ∧ ∃ a22, (ea_r h2 a7 107) = some a22 ∧ a22 < ea_n h2 ∧ ea_c h2 a22 = 20 ∧ vp_in x1 (ea_l h2 a22) ∧ rv = some (vI (ea_i h2 a22 (Int32.toNatClampNeg x1))) ∧ hE = h2)) ∧ (x2 = (0 : Int32) → a7 < ea_n h2 ∧ ea_c h2 a7 = 12 ∧ ∃ a30, (ea_r h2 a7 106) = some a30 ∧ a30 < ea_n h2 ∧ ea_c h2 a30 = 20 ∧ vp_in x1 (ea_l h2 a30) ∧ rv = some (vI (ea_i h2 a30 (Int32.toNatClampNeg x1))) ∧ hE = h2)) ∧ (xc9 = (0 : Int32) → rv = some (vI (-1000)) ∧ hE = h2)) : ea_W mX12_clock d h0 rv hE 0 [(0, vR r0), (1, vI x1), (2, vI x2)] [] h := by
  refine ea_aload_n (pc := 0) dX12_clock_0 rfl 0 rfl ?_
  refine ea_iload_n (pc := 1) dX12_clock_1 rfl 1 rfl ?_
  obtain ⟨a7, e8, f5, g6, H⟩ := H
  refine ea_deref1 e8 ?_
  obtain ⟨d1, xc9, h2, m3, q4, H⟩ := H
  refine ea_callV (pc := 2) (As := [vI x1]) (st := []) dX12_clock_2 kX12_isTrain m3 q4 rfl (Nat.le_of_ble_eq_true rfl) ew_1736 ew_1738 ew_50 (ci := 12) rfl (by decide) f5 g6 ?_
  refine ea_if_ne (pc := 5) (tgt := 14) dX12_clock_5 rfl (fun c34 => ?_) (fun c34 => ?_)
  · have H := H.1 c34
    refine ea_iload_n (pc := 14) dX12_clock_14 rfl 2 rfl ?_
    refine ea_if_ne (pc := 15) (tgt := 27) dX12_clock_15 rfl (fun c33 => ?_) (fun c33 => ?_)
    · have H := H.1 c33
      refine ea_iload_n (pc := 27) dX12_clock_27 rfl 2 rfl ?_
      refine ea_iconst (pc := 28) dX12_clock_28 (v := 1) rfl ?_
      refine ea_icmp_ne (pc := 29) (tgt := 41) dX12_clock_29 rfl (fun c25 => ?_) (fun c25 => ?_)
      · have H := H.1 c25
        refine ea_iload_n (pc := 41) dX12_clock_41 rfl 2 rfl ?_
        refine ea_iconst (pc := 42) dX12_clock_42 (v := 2) rfl ?_
        refine ea_icmp_ne (pc := 43) (tgt := 55) dX12_clock_43 rfl (fun c17 => ?_) (fun c17 => ?_)
        · have H := H.1 c17
          refine ea_sipush (pc := 55) dX12_clock_55 (v := (-1000)) rfl ?_
          obtain ⟨rfl, rfl⟩ := H
          exact ea_ireturn (pc := 58) dX12_clock_58 rfl rfl
        · have H := H.2 c17
          refine ea_aload_n (pc := 46) dX12_clock_46 rfl 0 rfl ?_
          obtain ⟨f10, g11, H⟩ := H
          refine ea_deref0 e8 ?_
          refine ea_getR (pc := 47) dX12_clock_47 ec_12 (k := 108) (Nat.le_of_ble_eq_true rfl) rfl (Or.inl ew_1453) f10 g11 rfl ?_
          refine ea_iload_n (pc := 50) dX12_clock_50 rfl 1 rfl ?_
          obtain ⟨a14, e15, f12, g13, H⟩ := H
          refine ea_deref1 e15 ?_
          obtain ⟨z16, H⟩ := H
          refine ea_iald (pc := 51) dX12_clock_51 f12 g13 z16 ?_
          refine ea_goto (pc := 52) (tgt := 58) dX12_clock_52 rfl ?_
          obtain ⟨rfl, rfl⟩ := H
          exact ea_ireturn (pc := 58) dX12_clock_58 rfl rfl
      · have H := H.2 c25
        refine ea_aload_n (pc := 32) dX12_clock_32 rfl 0 rfl ?_
        obtain ⟨f18, g19, H⟩ := H
        refine ea_deref0 e8 ?_
        refine ea_getR (pc := 33) dX12_clock_33 ec_12 (k := 107) (Nat.le_of_ble_eq_true rfl) rfl (Or.inl ew_1452) f18 g19 rfl ?_
        refine ea_iload_n (pc := 36) dX12_clock_36 rfl 1 rfl ?_
        obtain ⟨a22, e23, f20, g21, H⟩ := H
        refine ea_deref1 e23 ?_
        obtain ⟨z24, H⟩ := H
        refine ea_iald (pc := 37) dX12_clock_37 f20 g21 z24 ?_
        refine ea_goto (pc := 38) (tgt := 58) dX12_clock_38 rfl ?_
        obtain ⟨rfl, rfl⟩ := H
        exact ea_ireturn (pc := 58) dX12_clock_58 rfl rfl
    · have H := H.2 c33
      refine ea_aload_n (pc := 18) dX12_clock_18 rfl 0 rfl ?_
      obtain ⟨f26, g27, H⟩ := H
      refine ea_deref0 e8 ?_
      refine ea_getR (pc := 19) dX12_clock_19 ec_12 (k := 106) (Nat.le_of_ble_eq_true rfl) rfl (Or.inl ew_1451) f26 g27 rfl ?_
      refine ea_iload_n (pc := 22) dX12_clock_22 rfl 1 rfl ?_
      obtain ⟨a30, e31, f28, g29, H⟩ := H
      refine ea_deref1 e31 ?_
      obtain ⟨z32, H⟩ := H
      refine ea_iald (pc := 23) dX12_clock_23 f28 g29 z32 ?_
      refine ea_goto (pc := 24) (tgt := 58) dX12_clock_24 rfl ?_
      obtain ⟨rfl, rfl⟩ := H
      exact ea_ireturn (pc := 58) dX12_clock_58 rfl rfl
  · have H := H.2 c34
    refine ea_sipush (pc := 8) dX12_clock_8 (v := (-1000)) rfl ?_
    refine ea_goto (pc := 11) (tgt := 58) dX12_clock_11 rfl ?_
    obtain ⟨rfl, rfl⟩ := H
    exact ea_ireturn (pc := 58) dX12_clock_58 rfl rfl
theorem dX12_mayShow_0 : decode cX12_mayShow 0 = .ok (.iconst 0, 1) := by decide +kernel
theorem dX12_mayShow_1 : decode cX12_mayShow 1 = .ok (.istore 4, 2) := by decide +kernel
theorem dX12_mayShow_3 : decode cX12_mayShow 3 = .ok (.aload_n 0, 1) := by decide +kernel
theorem dX12_mayShow_4 : decode cX12_mayShow 4 = .ok (.getfield 247, 3) := by decide +kernel
theorem dX12_mayShow_7 : decode cX12_mayShow 7 = .ok (.iload_n 1, 1) := by decide +kernel
theorem dX12_mayShow_8 : decode cX12_mayShow 8 = .ok (.iaload, 1) := by decide +kernel
theorem dX12_mayShow_9 : decode cX12_mayShow 9 = .ok (.istore 5, 2) := by decide +kernel
theorem dX12_mayShow_11 : decode cX12_mayShow 11 = .ok (.iload 5, 2) := by decide +kernel
theorem dX12_mayShow_13 : decode cX12_mayShow 13 = .ok (.aload_n 0, 1) := by decide +kernel
theorem dX12_mayShow_14 : decode cX12_mayShow 14 = .ok (.getfield 250, 3) := by decide +kernel
theorem dX12_mayShow_17 : decode cX12_mayShow 17 = .ok (.iload_n 1, 1) := by decide +kernel
theorem dX12_mayShow_18 : decode cX12_mayShow 18 = .ok (.iaload, 1) := by decide +kernel
theorem dX12_mayShow_19 : decode cX12_mayShow 19 = .ok (.if_icmp .gt 33, 3) := by decide +kernel
theorem dX12_mayShow_22 : decode cX12_mayShow 22 = .ok (.iload 4, 2) := by decide +kernel
theorem dX12_mayShow_24 : decode cX12_mayShow 24 = .ok (.ifCond .ne 28, 3) := by decide +kernel
theorem dX12_mayShow_27 : decode cX12_mayShow 27 = .ok (.aload_n 0, 1) := by decide +kernel
theorem dX12_mayShow_28 : decode cX12_mayShow 28 = .ok (.iload_n 1, 1) := by decide +kernel
theorem dX12_mayShow_29 : decode cX12_mayShow 29 = .ok (.iload 5, 2) := by decide +kernel
theorem dX12_mayShow_31 : decode cX12_mayShow 31 = .ok (.iload_n 3, 1) := by decide +kernel
theorem dX12_mayShow_32 : decode cX12_mayShow 32 = .ok (.invokevirtual 622, 3) := by decide +kernel
theorem dX12_mayShow_35 : decode cX12_mayShow 35 = .ok (.iload_n 2, 1) := by decide +kernel
theorem dX12_mayShow_36 : decode cX12_mayShow 36 = .ok (.if_icmp .ne 7, 3) := by decide +kernel
theorem dX12_mayShow_39 : decode cX12_mayShow 39 = .ok (.iconst 1, 1) := by decide +kernel
theorem dX12_mayShow_40 : decode cX12_mayShow 40 = .ok (.goto 4, 3) := by decide +kernel
theorem dX12_mayShow_43 : decode cX12_mayShow 43 = .ok (.iconst 0, 1) := by decide +kernel
theorem dX12_mayShow_44 : decode cX12_mayShow 44 = .ok (.istore 4, 2) := by decide +kernel
theorem dX12_mayShow_46 : decode cX12_mayShow 46 = .ok (.iinc 5 1, 3) := by decide +kernel
theorem dX12_mayShow_49 : decode cX12_mayShow 49 = .ok (.goto (-38), 3) := by decide +kernel
theorem dX12_mayShow_52 : decode cX12_mayShow 52 = .ok (.iload 4, 2) := by decide +kernel
theorem dX12_mayShow_54 : decode cX12_mayShow 54 = .ok (.ireturn, 1) := by decide +kernel
theorem bX12_mayShow_0 {d : Nat} {h0 hE h : ea_H} {rv : Option ea_V} {r0 : Option Nat} {x1 : Int32} {x2 : Int32} {x3 : Int32} (H : ∃ a3, r0 = some a3 ∧ a3 < ea_n h ∧ ea_c h a3 = 12 ∧ ∃ a7, (ea_r h a3 106) = some a7 ∧ a7 < ea_n h ∧ ea_c h a7 = 20 ∧ vp_in x1 (ea_l h a7) ∧ ea_W mX12_mayShow d h0 rv hE 11 [(0, vR r0), (1, vI x1), (2, vI x2), (3, vI x3), (4, vI 0), (5, vI (ea_i h a7 (Int32.toNatClampNeg x1)))] [] h) : ea_W mX12_mayShow d h0 rv hE 0 [(0, vR r0), (1, vI x1), (2, vI x2), (3, vI x3)] [] h := by
  refine ea_iconst (pc := 0) dX12_mayShow_0 (v := 0) rfl ?_
  refine ea_istore (pc := 1) (lv' := [(0, vR r0), (1, vI x1), (2, vI x2), (3, vI x3), (4, vI 0)]) dX12_mayShow_1 (Nat.le_of_ble_eq_true rfl) [1, 2, 3, 4, 0] rfl ?_
  refine ea_aload_n (pc := 3) dX12_mayShow_3 rfl 0 rfl ?_
  obtain ⟨a3, e4, f1, g2, H⟩ := H
  refine ea_deref0 e4 ?_
  refine ea_getR (pc := 4) dX12_mayShow_4 ec_12 (k := 106) (Nat.le_of_ble_eq_true rfl) rfl (Or.inl ew_1451) f1 g2 rfl ?_
  refine ea_iload_n (pc := 7) dX12_mayShow_7 rfl 1 rfl ?_
  obtain ⟨a7, e8, f5, g6, H⟩ := H
  refine ea_deref1 e8 ?_
  obtain ⟨z9, H⟩ := H
  refine ea_iald (pc := 8) dX12_mayShow_8 f5 g6 z9 ?_
  refine ea_istore (pc := 9) (lv' := [(0, vR r0), (1, vI x1), (2, vI x2), (3, vI x3), (4, vI 0), (5, vI (ea_i h a7 (Int32.toNatClampNeg x1)))]) dX12_mayShow_9 (Nat.le_of_ble_eq_true rfl) [1, 2, 3, 4, 5, 0] rfl ?_
  exact H
theorem bX12_mayShow_11 {d : Nat} {h0 hE h : ea_H} {rv : Option ea_V} {r0 : Option Nat} {x1 : Int32} {x2 : Int32} {x3 : Int32} {x4 : Int32} {x5 : Int32} (H : ∃ a3, r0 = some a3 ∧ a3 < ea_n h ∧ ea_c h a3 = 12 ∧ ∃ a7, (ea_r h a3 107) = some a7 ∧ a7 < ea_n h ∧ ea_c h a7 = 20 ∧ vp_in x1 (ea_l h a7) ∧ ((ea_i h a7 (Int32.toNatClampNeg x1)) < x5 → (x4 = 0 ∨ x4 = 1) ∧ rv = some (vI x4) ∧ hE = h) ∧ (¬ (ea_i h a7 (Int32.toNatClampNeg x1)) < x5 → (¬ x4 = (0 : Int32) → (x4 = 0 ∨ x4 = 1) ∧ rv = some (vI x4) ∧ hE = h) ∧ (x4 = (0 : Int32) → a3 < ea_n h ∧ ea_c h a3 = 12 ∧ ∃ (d12 : Nat) (xc18 : Int32) (h13 : ea_H), ea_Met mX12_shows d12 [vR (some a3), vI x1, vI x5, vI x3] h (some (vI xc18)) h13 ∧ d12 + 1 ≤ d ∧ (¬ xc18 = x2 → ea_W mX12_mayShow d h0 rv hE 11 [(0, vR r0), (1, vI x1), (2, vI x2), (3, vI x3), (4, vI 0), (5, vI (x5 + 1))] [] h13) ∧ (xc18 = x2 → ea_W mX12_mayShow d h0 rv hE 11 [(0, vR r0), (1, vI x1), (2, vI x2), (3, vI x3), (4, vI 1), (5, vI (x5 + 1))] [] h13)))) : ea_W mX12_mayShow d h0 rv hE 11 [(0, vR r0), (1, vI x1), (2, vI x2), (3, vI x3), (4, vI x4), (5, vI x5)] [] h := by
  refine ea_iload (pc := 11) dX12_mayShow_11 5 rfl ?_
  refine ea_aload_n (pc := 13) dX12_mayShow_13 rfl 0 rfl ?_
  obtain ⟨a3, e4, f1, g2, H⟩ := H
  refine ea_deref0 e4 ?_
  refine ea_getR (pc := 14) dX12_mayShow_14 ec_12 (k := 107) (Nat.le_of_ble_eq_true rfl) rfl (Or.inl ew_1452) f1 g2 rfl ?_
  refine ea_iload_n (pc := 17) dX12_mayShow_17 rfl 1 rfl ?_
  obtain ⟨a7, e8, f5, g6, H⟩ := H
  refine ea_deref1 e8 ?_
  obtain ⟨z9, H⟩ := H
  refine ea_iald (pc := 18) dX12_mayShow_18 f5 g6 z9 ?_
  refine ea_icmp_gt (pc := 19) (tgt := 52) dX12_mayShow_19 rfl (fun c21 => ?_) (fun c21 => ?_)
  · have H := H.1 c21
    refine ea_iload (pc := 52) dX12_mayShow_52 4 rfl ?_
    obtain ⟨z10, rfl, rfl⟩ := H
    exact ea_ireturn (pc := 54) dX12_mayShow_54 rfl (ea_bn z10)
  · have H := H.2 c21
    refine ea_iload (pc := 22) dX12_mayShow_22 4 rfl ?_
    refine ea_if_ne (pc := 24) (tgt := 52) dX12_mayShow_24 rfl (fun c20 => ?_) (fun c20 => ?_)
    · have H := H.1 c20
      refine ea_iload (pc := 52) dX12_mayShow_52 4 rfl ?_
      obtain ⟨z11, rfl, rfl⟩ := H
      exact ea_ireturn (pc := 54) dX12_mayShow_54 rfl (ea_bn z11)
    · have H := H.2 c20
      refine ea_aload_n (pc := 27) dX12_mayShow_27 rfl 0 rfl ?_
      refine ea_iload_n (pc := 28) dX12_mayShow_28 rfl 1 rfl ?_
      refine ea_iload (pc := 29) dX12_mayShow_29 5 rfl ?_
      refine ea_iload_n (pc := 31) dX12_mayShow_31 rfl 3 rfl ?_
      obtain ⟨f16, g17, H⟩ := H
      refine ea_deref3 e4 ?_
      obtain ⟨d12, xc18, h13, m14, q15, H⟩ := H
      refine ea_callV (pc := 32) (As := [vI x1, vI x5, vI x3]) (st := []) dX12_mayShow_32 kX12_shows m14 q15 rfl (Nat.le_of_ble_eq_true rfl) ew_2150 ew_2152 ew_102 (ci := 12) rfl (by decide) f16 g17 ?_
      refine ea_iload_n (pc := 35) dX12_mayShow_35 rfl 2 rfl ?_
      refine ea_icmp_ne (pc := 36) (tgt := 43) dX12_mayShow_36 rfl (fun c19 => ?_) (fun c19 => ?_)
      · have H := H.1 c19
        refine ea_iconst (pc := 43) dX12_mayShow_43 (v := 0) rfl ?_
        refine ea_istore (pc := 44) (lv' := [(0, vR r0), (1, vI x1), (2, vI x2), (3, vI x3), (4, vI 0), (5, vI x5)]) dX12_mayShow_44 (Nat.le_of_ble_eq_true rfl) [1, 2, 3, 4, 0, 5] rfl ?_
        refine ea_iinc (pc := 46) (v := 1) (lv' := [(0, vR r0), (1, vI x1), (2, vI x2), (3, vI x3), (4, vI 0), (5, vI (x5 + 1))]) dX12_mayShow_46 5 rfl rfl (Nat.le_of_ble_eq_true rfl) [1, 2, 3, 4, 5, 0] rfl ?_
        refine ea_goto (pc := 49) (tgt := 11) dX12_mayShow_49 rfl ?_
        exact H
      · have H := H.2 c19
        refine ea_iconst (pc := 39) dX12_mayShow_39 (v := 1) rfl ?_
        refine ea_goto (pc := 40) (tgt := 44) dX12_mayShow_40 rfl ?_
        refine ea_istore (pc := 44) (lv' := [(0, vR r0), (1, vI x1), (2, vI x2), (3, vI x3), (4, vI 1), (5, vI x5)]) dX12_mayShow_44 (Nat.le_of_ble_eq_true rfl) [1, 2, 3, 4, 0, 5] rfl ?_
        refine ea_iinc (pc := 46) (v := 1) (lv' := [(0, vR r0), (1, vI x1), (2, vI x2), (3, vI x3), (4, vI 1), (5, vI (x5 + 1))]) dX12_mayShow_46 5 rfl rfl (Nat.le_of_ble_eq_true rfl) [1, 2, 3, 4, 5, 0] rfl ?_
        refine ea_goto (pc := 49) (tgt := 11) dX12_mayShow_49 rfl ?_
        exact H
theorem dX12_trueMinute_0 : decode cX12_trueMinute 0 = .ok (.aload_n 0, 1) := by decide +kernel
theorem dX12_trueMinute_1 : decode cX12_trueMinute 1 = .ok (.iload_n 1, 1) := by decide +kernel
theorem dX12_trueMinute_2 : decode cX12_trueMinute 2 = .ok (.invokevirtual 310, 3) := by decide +kernel
theorem dX12_trueMinute_5 : decode cX12_trueMinute 5 = .ok (.ifCond .eq 19, 3) := by decide +kernel
theorem dX12_trueMinute_8 : decode cX12_trueMinute 8 = .ok (.iload_n 2, 1) := by decide +kernel
theorem dX12_trueMinute_9 : decode cX12_trueMinute 9 = .ok (.invokestatic 619, 3) := by decide +kernel
theorem dX12_trueMinute_12 : decode cX12_trueMinute 12 = .ok (.ifCond .eq 12, 3) := by decide +kernel
theorem dX12_trueMinute_15 : decode cX12_trueMinute 15 = .ok (.iload_n 3, 1) := by decide +kernel
theorem dX12_trueMinute_16 : decode cX12_trueMinute 16 = .ok (.iconst 0, 1) := by decide +kernel
theorem dX12_trueMinute_17 : decode cX12_trueMinute 17 = .ok (.iconst 1, 1) := by decide +kernel
theorem dX12_trueMinute_18 : decode cX12_trueMinute 18 = .ok (.invokestatic 286, 3) := by decide +kernel
theorem dX12_trueMinute_21 : decode cX12_trueMinute 21 = .ok (.ifCond .ne 5, 3) := by decide +kernel
theorem dX12_trueMinute_24 : decode cX12_trueMinute 24 = .ok (.iconst (-1), 1) := by decide +kernel
theorem dX12_trueMinute_25 : decode cX12_trueMinute 25 = .ok (.ireturn, 1) := by decide +kernel
theorem dX12_trueMinute_26 : decode cX12_trueMinute 26 = .ok (.iconst (-1), 1) := by decide +kernel
theorem dX12_trueMinute_27 : decode cX12_trueMinute 27 = .ok (.istore 4, 2) := by decide +kernel
theorem dX12_trueMinute_29 : decode cX12_trueMinute 29 = .ok (.aload_n 0, 1) := by decide +kernel
theorem dX12_trueMinute_30 : decode cX12_trueMinute 30 = .ok (.getfield 253, 3) := by decide +kernel
theorem dX12_trueMinute_33 : decode cX12_trueMinute 33 = .ok (.iload_n 1, 1) := by decide +kernel
theorem dX12_trueMinute_34 : decode cX12_trueMinute 34 = .ok (.iaload, 1) := by decide +kernel
theorem dX12_trueMinute_35 : decode cX12_trueMinute 35 = .ok (.istore 5, 2) := by decide +kernel
theorem dX12_trueMinute_37 : decode cX12_trueMinute 37 = .ok (.iload 5, 2) := by decide +kernel
theorem dX12_trueMinute_39 : decode cX12_trueMinute 39 = .ok (.sipush 10079, 3) := by decide +kernel
theorem dX12_trueMinute_42 : decode cX12_trueMinute 42 = .ok (.if_icmp .gt 35, 3) := by decide +kernel
theorem dX12_trueMinute_45 : decode cX12_trueMinute 45 = .ok (.iload_n 3, 1) := by decide +kernel
theorem dX12_trueMinute_46 : decode cX12_trueMinute 46 = .ok (.iconst 1, 1) := by decide +kernel
theorem dX12_trueMinute_47 : decode cX12_trueMinute 47 = .ok (.if_icmp .eq 9, 3) := by decide +kernel
theorem dX12_trueMinute_50 : decode cX12_trueMinute 50 = .ok (.iload 4, 2) := by decide +kernel
theorem dX12_trueMinute_52 : decode cX12_trueMinute 52 = .ok (.iconst (-1), 1) := by decide +kernel
theorem dX12_trueMinute_53 : decode cX12_trueMinute 53 = .ok (.if_icmp .ne 24, 3) := by decide +kernel
theorem dX12_trueMinute_56 : decode cX12_trueMinute 56 = .ok (.aload_n 0, 1) := by decide +kernel
theorem dX12_trueMinute_57 : decode cX12_trueMinute 57 = .ok (.iload_n 1, 1) := by decide +kernel
theorem dX12_trueMinute_58 : decode cX12_trueMinute 58 = .ok (.iload_n 2, 1) := by decide +kernel
theorem dX12_trueMinute_59 : decode cX12_trueMinute 59 = .ok (.iload 5, 2) := by decide +kernel
theorem dX12_trueMinute_61 : decode cX12_trueMinute 61 = .ok (.invokevirtual 625, 3) := by decide +kernel
theorem dX12_trueMinute_64 : decode cX12_trueMinute 64 = .ok (.ifCond .eq 7, 3) := by decide +kernel
theorem dX12_trueMinute_67 : decode cX12_trueMinute 67 = .ok (.iload 5, 2) := by decide +kernel
theorem dX12_trueMinute_69 : decode cX12_trueMinute 69 = .ok (.istore 4, 2) := by decide +kernel
theorem dX12_trueMinute_71 : decode cX12_trueMinute 71 = .ok (.iinc 5 1, 3) := by decide +kernel
theorem dX12_trueMinute_74 : decode cX12_trueMinute 74 = .ok (.goto (-37), 3) := by decide +kernel
theorem dX12_trueMinute_77 : decode cX12_trueMinute 77 = .ok (.iload 4, 2) := by decide +kernel
theorem dX12_trueMinute_79 : decode cX12_trueMinute 79 = .ok (.ireturn, 1) := by decide +kernel
theorem bX12_trueMinute_0 {d : Nat} {h0 hE h : ea_H} {rv : Option ea_V} {r0 : Option Nat} {x1 : Int32} {x2 : Int32} {x3 : Int32} (H : ∃ a7, r0 = some a7 ∧ a7 < ea_n h ∧ ea_c h a7 = 12 ∧ ∃ (d1 : Nat) (xc9 : Int32) (h2 : ea_H), ea_Met mX12_isTrain d1 [vR (some a7), vI x1] h (some (vI xc9)) h2 ∧ d1 + 1 ≤ d ∧ (xc9 = (0 : Int32) → rv = some (vI (-1)) ∧ hE = h2) ∧ (¬ xc9 = (0 : Int32) → ∃ (d10 : Nat) (xc14 : Int32) (h11 : ea_H), ea_Met mX12_isMinute d10 [vI x2] h2 (some (vI xc14)) h11 ∧ d10 + 1 ≤ d ∧ (xc14 = (0 : Int32) → rv = some (vI (-1)) ∧ hE = h11) ∧ (¬ xc14 = (0 : Int32) → ∃ (d15 : Nat) (xc19 : Int32) (h16 : ea_H), ea_Met mX12_isIn d15 [vI x3, vI 0, vI 1] h11 (some (vI xc19)) h16 ∧ d15 + 1 ≤ d ∧ (¬ xc19 = (0 : Int32) → a7 < ea_n h16 ∧ ea_c h16 a7 = 12 ∧ ∃ a24, (ea_r h16 a7 108) = some a24 ∧ a24 < ea_n h16 ∧ ea_c h16 a24 = 20 ∧ vp_in x1 (ea_l h16 a24) ∧ ea_W mX12_trueMinute d h0 rv hE 37 [(0, vR r0), (1, vI x1), (2, vI x2), (3, vI x3), (4, vI (-1)), (5, vI (ea_i h16 a24 (Int32.toNatClampNeg x1)))] [] h16) ∧ (xc19 = (0 : Int32) → rv = some (vI (-1)) ∧ hE = h16)))) : ea_W mX12_trueMinute d h0 rv hE 0 [(0, vR r0), (1, vI x1), (2, vI x2), (3, vI x3)] [] h := by
  refine ea_aload_n (pc := 0) dX12_trueMinute_0 rfl 0 rfl ?_
  refine ea_iload_n (pc := 1) dX12_trueMinute_1 rfl 1 rfl ?_
  obtain ⟨a7, e8, f5, g6, H⟩ := H
  refine ea_deref1 e8 ?_
  obtain ⟨d1, xc9, h2, m3, q4, H⟩ := H
  refine ea_callV (pc := 2) (As := [vI x1]) (st := []) dX12_trueMinute_2 kX12_isTrain m3 q4 rfl (Nat.le_of_ble_eq_true rfl) ew_1736 ew_1738 ew_50 (ci := 12) rfl (by decide) f5 g6 ?_
  refine ea_if_eq (pc := 5) (tgt := 24) dX12_trueMinute_5 rfl (fun c29 => ?_) (fun c29 => ?_)
  · have H := H.1 c29
    refine ea_iconst (pc := 24) dX12_trueMinute_24 (v := (-1)) rfl ?_
    obtain ⟨rfl, rfl⟩ := H
    exact ea_ireturn (pc := 25) dX12_trueMinute_25 rfl rfl
  · have H := H.2 c29
    refine ea_iload_n (pc := 8) dX12_trueMinute_8 rfl 2 rfl ?_
    obtain ⟨d10, xc14, h11, m12, q13, H⟩ := H
    refine ea_callS (pc := 9) (As := [vI x2]) (st := []) dX12_trueMinute_9 kX12_isMinute m12 q13 rfl (Nat.le_of_ble_eq_true rfl) ew_2147 ew_2148 ?_
    refine ea_if_eq (pc := 12) (tgt := 24) dX12_trueMinute_12 rfl (fun c28 => ?_) (fun c28 => ?_)
    · have H := H.1 c28
      refine ea_iconst (pc := 24) dX12_trueMinute_24 (v := (-1)) rfl ?_
      obtain ⟨rfl, rfl⟩ := H
      exact ea_ireturn (pc := 25) dX12_trueMinute_25 rfl rfl
    · have H := H.2 c28
      refine ea_iload_n (pc := 15) dX12_trueMinute_15 rfl 3 rfl ?_
      refine ea_iconst (pc := 16) dX12_trueMinute_16 (v := 0) rfl ?_
      refine ea_iconst (pc := 17) dX12_trueMinute_17 (v := 1) rfl ?_
      obtain ⟨d15, xc19, h16, m17, q18, H⟩ := H
      refine ea_callS (pc := 18) (As := [vI x3, vI 0, vI 1]) (st := []) dX12_trueMinute_18 kX12_isIn m17 q18 rfl (Nat.le_of_ble_eq_true rfl) ew_1712 ew_1713 ?_
      refine ea_if_ne (pc := 21) (tgt := 26) dX12_trueMinute_21 rfl (fun c27 => ?_) (fun c27 => ?_)
      · have H := H.1 c27
        refine ea_iconst (pc := 26) dX12_trueMinute_26 (v := (-1)) rfl ?_
        refine ea_istore (pc := 27) (lv' := [(0, vR r0), (1, vI x1), (2, vI x2), (3, vI x3), (4, vI (-1))]) dX12_trueMinute_27 (Nat.le_of_ble_eq_true rfl) [1, 2, 3, 4, 0] rfl ?_
        refine ea_aload_n (pc := 29) dX12_trueMinute_29 rfl 0 rfl ?_
        obtain ⟨f20, g21, H⟩ := H
        refine ea_deref0 e8 ?_
        refine ea_getR (pc := 30) dX12_trueMinute_30 ec_12 (k := 108) (Nat.le_of_ble_eq_true rfl) rfl (Or.inl ew_1453) f20 g21 rfl ?_
        refine ea_iload_n (pc := 33) dX12_trueMinute_33 rfl 1 rfl ?_
        obtain ⟨a24, e25, f22, g23, H⟩ := H
        refine ea_deref1 e25 ?_
        obtain ⟨z26, H⟩ := H
        refine ea_iald (pc := 34) dX12_trueMinute_34 f22 g23 z26 ?_
        refine ea_istore (pc := 35) (lv' := [(0, vR r0), (1, vI x1), (2, vI x2), (3, vI x3), (4, vI (-1)), (5, vI (ea_i h16 a24 (Int32.toNatClampNeg x1)))]) dX12_trueMinute_35 (Nat.le_of_ble_eq_true rfl) [1, 2, 3, 4, 5, 0] rfl ?_
        exact H
      · have H := H.2 c27
        refine ea_iconst (pc := 24) dX12_trueMinute_24 (v := (-1)) rfl ?_
        obtain ⟨rfl, rfl⟩ := H
        exact ea_ireturn (pc := 25) dX12_trueMinute_25 rfl rfl
theorem bX12_trueMinute_37 {d : Nat} {h0 hE h : ea_H} {rv : Option ea_V} {r0 : Option Nat} {x1 : Int32} {x2 : Int32} {x3 : Int32} {x4 : Int32} {x5 : Int32} (H : ((10079 : Int32) < x5 → rv = some (vI x4) ∧ hE = h) ∧ (¬ (10079 : Int32) < x5 → (x3 = (1 : Int32) → ea_W mX12_trueMinute d h0 rv hE 56 [(0, vR r0), (1, vI x1), (2, vI x2), (3, vI x3), (4, vI x4), (5, vI x5)] [] h) ∧ (¬ x3 = (1 : Int32) → (¬ x4 = ((-1) : Int32) → rv = some (vI x4) ∧ hE = h) ∧ (x4 = ((-1) : Int32) → ea_W mX12_trueMinute d h0 rv hE 56 [(0, vR r0), (1, vI x1), (2, vI x2), (3, vI x3), (4, vI x4), (5, vI x5)] [] h)))) : ea_W mX12_trueMinute d h0 rv hE 37 [(0, vR r0), (1, vI x1), (2, vI x2), (3, vI x3), (4, vI x4), (5, vI x5)] [] h := by
  refine ea_iload (pc := 37) dX12_trueMinute_37 5 rfl ?_
  refine ea_sipush (pc := 39) dX12_trueMinute_39 (v := 10079) rfl ?_
  refine ea_icmp_gt (pc := 42) (tgt := 77) dX12_trueMinute_42 rfl (fun c3 => ?_) (fun c3 => ?_)
  · have H := H.1 c3
    refine ea_iload (pc := 77) dX12_trueMinute_77 4 rfl ?_
    obtain ⟨rfl, rfl⟩ := H
    exact ea_ireturn (pc := 79) dX12_trueMinute_79 rfl rfl
  · have H := H.2 c3
    refine ea_iload_n (pc := 45) dX12_trueMinute_45 rfl 3 rfl ?_
    refine ea_iconst (pc := 46) dX12_trueMinute_46 (v := 1) rfl ?_
    refine ea_icmp_eq (pc := 47) (tgt := 56) dX12_trueMinute_47 rfl (fun c2 => ?_) (fun c2 => ?_)
    · have H := H.1 c2
      exact H
    · have H := H.2 c2
      refine ea_iload (pc := 50) dX12_trueMinute_50 4 rfl ?_
      refine ea_iconst (pc := 52) dX12_trueMinute_52 (v := (-1)) rfl ?_
      refine ea_icmp_ne (pc := 53) (tgt := 77) dX12_trueMinute_53 rfl (fun c1 => ?_) (fun c1 => ?_)
      · have H := H.1 c1
        refine ea_iload (pc := 77) dX12_trueMinute_77 4 rfl ?_
        obtain ⟨rfl, rfl⟩ := H
        exact ea_ireturn (pc := 79) dX12_trueMinute_79 rfl rfl
      · have H := H.2 c1
        exact H
theorem bX12_trueMinute_56 {d : Nat} {h0 hE h : ea_H} {rv : Option ea_V} {r0 : Option Nat} {x1 : Int32} {x2 : Int32} {x3 : Int32} {x4 : Int32} {x5 : Int32} (H : ∃ a7, r0 = some a7 ∧ a7 < ea_n h ∧ ea_c h a7 = 12 ∧ ∃ (d1 : Nat) (xc9 : Int32) (h2 : ea_H), ea_Met mX12_mayShow d1 [vR (some a7), vI x1, vI x2, vI x5] h (some (vI xc9)) h2 ∧ d1 + 1 ≤ d ∧ (xc9 = (0 : Int32) → ea_W mX12_trueMinute d h0 rv hE 37 [(0, vR r0), (1, vI x1), (2, vI x2), (3, vI x3), (4, vI x4), (5, vI (x5 + 1))] [] h2) ∧ (¬ xc9 = (0 : Int32) → ea_W mX12_trueMinute d h0 rv hE 37 [(0, vR r0), (1, vI x1), (2, vI x2), (3, vI x3), (4, vI x5), (5, vI (x5 + 1))] [] h2)) : ea_W mX12_trueMinute d h0 rv hE 56 [(0, vR r0), (1, vI x1), (2, vI x2), (3, vI x3), (4, vI x4), (5, vI x5)] [] h := by
  refine ea_aload_n (pc := 56) dX12_trueMinute_56 rfl 0 rfl ?_
  refine ea_iload_n (pc := 57) dX12_trueMinute_57 rfl 1 rfl ?_
  refine ea_iload_n (pc := 58) dX12_trueMinute_58 rfl 2 rfl ?_
  refine ea_iload (pc := 59) dX12_trueMinute_59 5 rfl ?_
  obtain ⟨a7, e8, f5, g6, H⟩ := H
  refine ea_deref3 e8 ?_
  obtain ⟨d1, xc9, h2, m3, q4, H⟩ := H
  refine ea_callV (pc := 61) (As := [vI x1, vI x2, vI x5]) (st := []) dX12_trueMinute_61 kX12_mayShow m3 q4 rfl (Nat.le_of_ble_eq_true rfl) ew_2163 ew_2165 ew_103 (ci := 12) rfl (by decide) f5 g6 ?_
  refine ea_if_eq (pc := 64) (tgt := 71) dX12_trueMinute_64 rfl (fun c10 => ?_) (fun c10 => ?_)
  · have H := H.1 c10
    refine ea_iinc (pc := 71) (v := 1) (lv' := [(0, vR r0), (1, vI x1), (2, vI x2), (3, vI x3), (4, vI x4), (5, vI (x5 + 1))]) dX12_trueMinute_71 5 rfl rfl (Nat.le_of_ble_eq_true rfl) [1, 2, 3, 4, 5, 0] rfl ?_
    refine ea_goto (pc := 74) (tgt := 37) dX12_trueMinute_74 rfl ?_
    exact H
  · have H := H.2 c10
    refine ea_iload (pc := 67) dX12_trueMinute_67 5 rfl ?_
    refine ea_istore (pc := 69) (lv' := [(0, vR r0), (1, vI x1), (2, vI x2), (3, vI x3), (4, vI x5), (5, vI x5)]) dX12_trueMinute_69 (Nat.le_of_ble_eq_true rfl) [1, 2, 3, 4, 0, 5] rfl ?_
    refine ea_iinc (pc := 71) (v := 1) (lv' := [(0, vR r0), (1, vI x1), (2, vI x2), (3, vI x3), (4, vI x5), (5, vI (x5 + 1))]) dX12_trueMinute_71 5 rfl rfl (Nat.le_of_ble_eq_true rfl) [1, 2, 3, 4, 5, 0] rfl ?_
    refine ea_goto (pc := 74) (tgt := 37) dX12_trueMinute_74 rfl ?_
    exact H
theorem dX12_tried_0 : decode cX12_tried 0 = .ok (.iload_n 1, 1) := by decide +kernel
theorem dX12_tried_1 : decode cX12_tried 1 = .ok (.iconst 0, 1) := by decide +kernel
theorem dX12_tried_2 : decode cX12_tried 2 = .ok (.aload_n 0, 1) := by decide +kernel
theorem dX12_tried_3 : decode cX12_tried 3 = .ok (.getfield 522, 3) := by decide +kernel
theorem dX12_tried_6 : decode cX12_tried 6 = .ok (.iconst 1, 1) := by decide +kernel
theorem dX12_tried_7 : decode cX12_tried 7 = .ok (.isub, 1) := by decide +kernel
theorem dX12_tried_8 : decode cX12_tried 8 = .ok (.invokestatic 286, 3) := by decide +kernel
theorem dX12_tried_11 : decode cX12_tried 11 = .ok (.ifCond .ne 7, 3) := by decide +kernel
theorem dX12_tried_14 : decode cX12_tried 14 = .ok (.ldc2_w 603, 3) := by decide +kernel
theorem dX12_tried_17 : decode cX12_tried 17 = .ok (.lreturn, 1) := by decide +kernel
theorem dX12_tried_18 : decode cX12_tried 18 = .ok (.lconst 0, 1) := by decide +kernel
theorem dX12_tried_19 : decode cX12_tried 19 = .ok (.lstore_n 2, 1) := by decide +kernel
theorem dX12_tried_20 : decode cX12_tried 20 = .ok (.iconst 0, 1) := by decide +kernel
theorem dX12_tried_21 : decode cX12_tried 21 = .ok (.istore 4, 2) := by decide +kernel
theorem dX12_tried_23 : decode cX12_tried 23 = .ok (.iload 4, 2) := by decide +kernel
theorem dX12_tried_25 : decode cX12_tried 25 = .ok (.aload_n 0, 1) := by decide +kernel
theorem dX12_tried_26 : decode cX12_tried 26 = .ok (.getfield 531, 3) := by decide +kernel
theorem dX12_tried_29 : decode cX12_tried 29 = .ok (.if_icmp .ge 20, 3) := by decide +kernel
theorem dX12_tried_32 : decode cX12_tried 32 = .ok (.lload_n 2, 1) := by decide +kernel
theorem dX12_tried_33 : decode cX12_tried 33 = .ok (.aload_n 0, 1) := by decide +kernel
theorem dX12_tried_34 : decode cX12_tried 34 = .ok (.iload 4, 2) := by decide +kernel
theorem dX12_tried_36 : decode cX12_tried 36 = .ok (.iload_n 1, 1) := by decide +kernel
theorem dX12_tried_37 : decode cX12_tried 37 = .ok (.invokevirtual 553, 3) := by decide +kernel
theorem dX12_tried_40 : decode cX12_tried 40 = .ok (.i2l, 1) := by decide +kernel
theorem dX12_tried_41 : decode cX12_tried 41 = .ok (.ladd, 1) := by decide +kernel
theorem dX12_tried_42 : decode cX12_tried 42 = .ok (.lstore_n 2, 1) := by decide +kernel
theorem dX12_tried_43 : decode cX12_tried 43 = .ok (.iinc 4 1, 3) := by decide +kernel
theorem dX12_tried_46 : decode cX12_tried 46 = .ok (.goto (-23), 3) := by decide +kernel
theorem dX12_tried_49 : decode cX12_tried 49 = .ok (.lload_n 2, 1) := by decide +kernel
theorem dX12_tried_50 : decode cX12_tried 50 = .ok (.lreturn, 1) := by decide +kernel
theorem bX12_tried_0 {d : Nat} {h0 hE h : ea_H} {rv : Option ea_V} {r0 : Option Nat} {x1 : Int32} (H : ∃ a3, r0 = some a3 ∧ a3 < ea_n h ∧ ea_c h a3 = 12 ∧ ∃ (d5 : Nat) (xc9 : Int32) (h6 : ea_H), ea_Met mX12_isIn d5 [vI x1, vI 0, vI ((ea_i h a3 25) - (1 : Int32))] h (some (vI xc9)) h6 ∧ d5 + 1 ≤ d ∧ (¬ xc9 = (0 : Int32) → ea_W mX12_tried d h0 rv hE 23 [(0, vR r0), (1, vI x1), (2, vJ 0), (4, vI 0)] [] h6) ∧ (xc9 = (0 : Int32) → rv = some (vJ (-1)) ∧ hE = h6)) : ea_W mX12_tried d h0 rv hE 0 [(0, vR r0), (1, vI x1)] [] h := by
  refine ea_iload_n (pc := 0) dX12_tried_0 rfl 1 rfl ?_
  refine ea_iconst (pc := 1) dX12_tried_1 (v := 0) rfl ?_
  refine ea_aload_n (pc := 2) dX12_tried_2 rfl 0 rfl ?_
  obtain ⟨a3, e4, f1, g2, H⟩ := H
  refine ea_deref0 e4 ?_
  refine ea_getI (pc := 3) dX12_tried_3 ec_12 (k := 25) (Nat.le_of_ble_eq_true rfl) rfl (Or.inl ew_1370) f1 g2 ?_
  refine ea_iconst (pc := 6) dX12_tried_6 (v := 1) rfl ?_
  refine ea_isub (pc := 7) dX12_tried_7 ?_
  obtain ⟨d5, xc9, h6, m7, q8, H⟩ := H
  refine ea_callS (pc := 8) (As := [vI x1, vI 0, vI ((ea_i h a3 25) - (1 : Int32))]) (st := []) dX12_tried_8 kX12_isIn m7 q8 rfl (Nat.le_of_ble_eq_true rfl) ew_1712 ew_1713 ?_
  refine ea_if_ne (pc := 11) (tgt := 18) dX12_tried_11 rfl (fun c10 => ?_) (fun c10 => ?_)
  · have H := H.1 c10
    refine ea_lconst (pc := 18) dX12_tried_18 (v := 0) rfl ?_
    refine ea_lstore_n (pc := 19) (lv' := [(0, vR r0), (1, vI x1), (2, vJ 0)]) dX12_tried_19 rfl (Nat.le_of_ble_eq_true rfl) [1, 2, 0] rfl ?_
    refine ea_iconst (pc := 20) dX12_tried_20 (v := 0) rfl ?_
    refine ea_istore (pc := 21) (lv' := [(0, vR r0), (1, vI x1), (2, vJ 0), (4, vI 0)]) dX12_tried_21 (Nat.le_of_ble_eq_true rfl) [1, 2, 3, 0] rfl ?_
    exact H
  · have H := H.2 c10
    refine ea_ldc2 (pc := 14) dX12_tried_14 ew_2118 ?_
    obtain ⟨rfl, rfl⟩ := H
    exact ea_lreturn (pc := 17) dX12_tried_17 rfl
theorem bX12_tried_23 {d : Nat} {h0 hE h : ea_H} {rv : Option ea_V} {r0 : Option Nat} {x1 : Int32} {y2 : Int64} {x4 : Int32} (H : ∃ a3, r0 = some a3 ∧ a3 < ea_n h ∧ ea_c h a3 = 12 ∧ ((ea_i h a3 63) ≤ x4 → rv = some (vJ y2) ∧ hE = h) ∧ (¬ (ea_i h a3 63) ≤ x4 → a3 < ea_n h ∧ ea_c h a3 = 12 ∧ ∃ (d5 : Nat) (xc11 : Int32) (h6 : ea_H), ea_Met mX12_chargeBy d5 [vR (some a3), vI x4, vI x1] h (some (vI xc11)) h6 ∧ d5 + 1 ≤ d ∧ ea_W mX12_tried d h0 rv hE 23 [(0, vR r0), (1, vI x1), (2, vJ (y2 + (Int32.toInt64 xc11))), (4, vI (x4 + 1))] [] h6)) : ea_W mX12_tried d h0 rv hE 23 [(0, vR r0), (1, vI x1), (2, vJ y2), (4, vI x4)] [] h := by
  refine ea_iload (pc := 23) dX12_tried_23 3 rfl ?_
  refine ea_aload_n (pc := 25) dX12_tried_25 rfl 0 rfl ?_
  obtain ⟨a3, e4, f1, g2, H⟩ := H
  refine ea_deref0 e4 ?_
  refine ea_getI (pc := 26) dX12_tried_26 ec_12 (k := 63) (Nat.le_of_ble_eq_true rfl) rfl (Or.inl ew_1408) f1 g2 ?_
  refine ea_icmp_ge (pc := 29) (tgt := 49) dX12_tried_29 rfl (fun c12 => ?_) (fun c12 => ?_)
  · have H := H.1 c12
    refine ea_lload_n (pc := 49) dX12_tried_49 rfl 2 rfl ?_
    obtain ⟨rfl, rfl⟩ := H
    exact ea_lreturn (pc := 50) dX12_tried_50 rfl
  · have H := H.2 c12
    refine ea_lload_n (pc := 32) dX12_tried_32 rfl 2 rfl ?_
    refine ea_aload_n (pc := 33) dX12_tried_33 rfl 0 rfl ?_
    refine ea_iload (pc := 34) dX12_tried_34 3 rfl ?_
    refine ea_iload_n (pc := 36) dX12_tried_36 rfl 1 rfl ?_
    obtain ⟨f9, g10, H⟩ := H
    refine ea_deref2 e4 ?_
    obtain ⟨d5, xc11, h6, m7, q8, H⟩ := H
    refine ea_callV (pc := 37) (As := [vI x4, vI x1]) (st := [vJ y2]) dX12_tried_37 kX12_chargeBy m7 q8 rfl (Nat.le_of_ble_eq_true rfl) ew_1991 ew_1993 ew_84 (ci := 12) rfl (by decide) f9 g10 ?_
    refine ea_i2l (pc := 40) dX12_tried_40 ?_
    refine ea_ladd (pc := 41) dX12_tried_41 ?_
    refine ea_lstore_n (pc := 42) (lv' := [(0, vR r0), (1, vI x1), (2, vJ (y2 + (Int32.toInt64 xc11))), (4, vI x4)]) dX12_tried_42 rfl (Nat.le_of_ble_eq_true rfl) [1, 2, 0, 3] rfl ?_
    refine ea_iinc (pc := 43) (v := 1) (lv' := [(0, vR r0), (1, vI x1), (2, vJ (y2 + (Int32.toInt64 xc11))), (4, vI (x4 + 1))]) dX12_tried_43 3 rfl rfl (Nat.le_of_ble_eq_true rfl) [1, 2, 3, 0] rfl ?_
    refine ea_goto (pc := 46) (tgt := 23) dX12_tried_46 rfl ?_
    exact H
theorem dX12_keeps_0 : decode cX12_keeps 0 = .ok (.iconst 0, 1) := by decide +kernel
theorem dX12_keeps_1 : decode cX12_keeps 1 = .ok (.istore_n 1, 1) := by decide +kernel
theorem dX12_keeps_2 : decode cX12_keeps 2 = .ok (.iload_n 1, 1) := by decide +kernel
theorem dX12_keeps_3 : decode cX12_keeps 3 = .ok (.aload_n 0, 1) := by decide +kernel
theorem dX12_keeps_4 : decode cX12_keeps 4 = .ok (.getfield 531, 3) := by decide +kernel
theorem dX12_keeps_7 : decode cX12_keeps 7 = .ok (.if_icmp .ge 105, 3) := by decide +kernel
theorem dX12_keeps_10 : decode cX12_keeps 10 = .ok (.aload_n 0, 1) := by decide +kernel
theorem dX12_keeps_11 : decode cX12_keeps 11 = .ok (.getfield 256, 3) := by decide +kernel
theorem dX12_keeps_14 : decode cX12_keeps 14 = .ok (.iload_n 1, 1) := by decide +kernel
theorem dX12_keeps_15 : decode cX12_keeps 15 = .ok (.aload_n 0, 1) := by decide +kernel
theorem dX12_keeps_16 : decode cX12_keeps 16 = .ok (.getfield 177, 3) := by decide +kernel
theorem dX12_keeps_19 : decode cX12_keeps 19 = .ok (.iload_n 1, 1) := by decide +kernel
theorem dX12_keeps_20 : decode cX12_keeps 20 = .ok (.iaload, 1) := by decide +kernel
theorem dX12_keeps_21 : decode cX12_keeps 21 = .ok (.iastore, 1) := by decide +kernel
theorem dX12_keeps_22 : decode cX12_keeps 22 = .ok (.aload_n 0, 1) := by decide +kernel
theorem dX12_keeps_23 : decode cX12_keeps 23 = .ok (.getfield 259, 3) := by decide +kernel
theorem dX12_keeps_26 : decode cX12_keeps 26 = .ok (.iload_n 1, 1) := by decide +kernel
theorem dX12_keeps_27 : decode cX12_keeps 27 = .ok (.aload_n 0, 1) := by decide +kernel
theorem dX12_keeps_28 : decode cX12_keeps 28 = .ok (.getfield 180, 3) := by decide +kernel
theorem dX12_keeps_31 : decode cX12_keeps 31 = .ok (.iload_n 1, 1) := by decide +kernel
theorem dX12_keeps_32 : decode cX12_keeps 32 = .ok (.iaload, 1) := by decide +kernel
theorem dX12_keeps_33 : decode cX12_keeps 33 = .ok (.iastore, 1) := by decide +kernel
theorem dX12_keeps_34 : decode cX12_keeps 34 = .ok (.aload_n 0, 1) := by decide +kernel
theorem dX12_keeps_35 : decode cX12_keeps 35 = .ok (.getfield 262, 3) := by decide +kernel
theorem dX12_keeps_38 : decode cX12_keeps 38 = .ok (.iload_n 1, 1) := by decide +kernel
theorem dX12_keeps_39 : decode cX12_keeps 39 = .ok (.aload_n 0, 1) := by decide +kernel
theorem dX12_keeps_40 : decode cX12_keeps 40 = .ok (.getfield 183, 3) := by decide +kernel
theorem dX12_keeps_43 : decode cX12_keeps 43 = .ok (.iload_n 1, 1) := by decide +kernel
theorem dX12_keeps_44 : decode cX12_keeps 44 = .ok (.iaload, 1) := by decide +kernel
theorem dX12_keeps_45 : decode cX12_keeps 45 = .ok (.iastore, 1) := by decide +kernel
theorem dX12_keeps_46 : decode cX12_keeps 46 = .ok (.aload_n 0, 1) := by decide +kernel
theorem dX12_keeps_47 : decode cX12_keeps 47 = .ok (.getfield 265, 3) := by decide +kernel
theorem dX12_keeps_50 : decode cX12_keeps 50 = .ok (.iload_n 1, 1) := by decide +kernel
theorem dX12_keeps_51 : decode cX12_keeps 51 = .ok (.aload_n 0, 1) := by decide +kernel
theorem dX12_keeps_52 : decode cX12_keeps 52 = .ok (.getfield 186, 3) := by decide +kernel
theorem dX12_keeps_55 : decode cX12_keeps 55 = .ok (.iload_n 1, 1) := by decide +kernel
theorem dX12_keeps_56 : decode cX12_keeps 56 = .ok (.iaload, 1) := by decide +kernel
theorem dX12_keeps_57 : decode cX12_keeps 57 = .ok (.iastore, 1) := by decide +kernel
theorem dX12_keeps_58 : decode cX12_keeps 58 = .ok (.aload_n 0, 1) := by decide +kernel
theorem dX12_keeps_59 : decode cX12_keeps 59 = .ok (.getfield 268, 3) := by decide +kernel
theorem dX12_keeps_62 : decode cX12_keeps 62 = .ok (.iload_n 1, 1) := by decide +kernel
theorem dX12_keeps_63 : decode cX12_keeps 63 = .ok (.aload_n 0, 1) := by decide +kernel
theorem dX12_keeps_64 : decode cX12_keeps 64 = .ok (.getfield 189, 3) := by decide +kernel
theorem dX12_keeps_67 : decode cX12_keeps 67 = .ok (.iload_n 1, 1) := by decide +kernel
theorem dX12_keeps_68 : decode cX12_keeps 68 = .ok (.iaload, 1) := by decide +kernel
theorem dX12_keeps_69 : decode cX12_keeps 69 = .ok (.iastore, 1) := by decide +kernel
theorem dX12_keeps_70 : decode cX12_keeps 70 = .ok (.aload_n 0, 1) := by decide +kernel
theorem dX12_keeps_71 : decode cX12_keeps 71 = .ok (.getfield 271, 3) := by decide +kernel
theorem dX12_keeps_74 : decode cX12_keeps 74 = .ok (.iload_n 1, 1) := by decide +kernel
theorem dX12_keeps_75 : decode cX12_keeps 75 = .ok (.aload_n 0, 1) := by decide +kernel
theorem dX12_keeps_76 : decode cX12_keeps 76 = .ok (.getfield 162, 3) := by decide +kernel
theorem dX12_keeps_79 : decode cX12_keeps 79 = .ok (.iload_n 1, 1) := by decide +kernel
theorem dX12_keeps_80 : decode cX12_keeps 80 = .ok (.iaload, 1) := by decide +kernel
theorem dX12_keeps_81 : decode cX12_keeps 81 = .ok (.iastore, 1) := by decide +kernel
theorem dX12_keeps_82 : decode cX12_keeps 82 = .ok (.aload_n 0, 1) := by decide +kernel
theorem dX12_keeps_83 : decode cX12_keeps 83 = .ok (.getfield 274, 3) := by decide +kernel
theorem dX12_keeps_86 : decode cX12_keeps 86 = .ok (.iload_n 1, 1) := by decide +kernel
theorem dX12_keeps_87 : decode cX12_keeps 87 = .ok (.aload_n 0, 1) := by decide +kernel
theorem dX12_keeps_88 : decode cX12_keeps 88 = .ok (.getfield 165, 3) := by decide +kernel
theorem dX12_keeps_91 : decode cX12_keeps 91 = .ok (.iload_n 1, 1) := by decide +kernel
theorem dX12_keeps_92 : decode cX12_keeps 92 = .ok (.iaload, 1) := by decide +kernel
theorem dX12_keeps_93 : decode cX12_keeps 93 = .ok (.iastore, 1) := by decide +kernel
theorem dX12_keeps_94 : decode cX12_keeps 94 = .ok (.aload_n 0, 1) := by decide +kernel
theorem dX12_keeps_95 : decode cX12_keeps 95 = .ok (.getfield 280, 3) := by decide +kernel
theorem dX12_keeps_98 : decode cX12_keeps 98 = .ok (.iload_n 1, 1) := by decide +kernel
theorem dX12_keeps_99 : decode cX12_keeps 99 = .ok (.aload_n 0, 1) := by decide +kernel
theorem dX12_keeps_100 : decode cX12_keeps 100 = .ok (.getfield 195, 3) := by decide +kernel
theorem dX12_keeps_103 : decode cX12_keeps 103 = .ok (.iload_n 1, 1) := by decide +kernel
theorem dX12_keeps_104 : decode cX12_keeps 104 = .ok (.baload, 1) := by decide +kernel
theorem dX12_keeps_105 : decode cX12_keeps 105 = .ok (.bastore, 1) := by decide +kernel
theorem dX12_keeps_106 : decode cX12_keeps 106 = .ok (.iinc 1 1, 3) := by decide +kernel
theorem dX12_keeps_109 : decode cX12_keeps 109 = .ok (.goto (-107), 3) := by decide +kernel
theorem dX12_keeps_112 : decode cX12_keeps 112 = .ok (.iconst 0, 1) := by decide +kernel
theorem dX12_keeps_113 : decode cX12_keeps 113 = .ok (.istore_n 1, 1) := by decide +kernel
theorem dX12_keeps_114 : decode cX12_keeps 114 = .ok (.iload_n 1, 1) := by decide +kernel
theorem dX12_keeps_115 : decode cX12_keeps 115 = .ok (.bipush 70, 2) := by decide +kernel
theorem dX12_keeps_117 : decode cX12_keeps 117 = .ok (.if_icmp .ge 21, 3) := by decide +kernel
theorem dX12_keeps_120 : decode cX12_keeps 120 = .ok (.aload_n 0, 1) := by decide +kernel
theorem dX12_keeps_121 : decode cX12_keeps 121 = .ok (.getfield 277, 3) := by decide +kernel
theorem dX12_keeps_124 : decode cX12_keeps 124 = .ok (.iload_n 1, 1) := by decide +kernel
theorem dX12_keeps_125 : decode cX12_keeps 125 = .ok (.aload_n 0, 1) := by decide +kernel
theorem dX12_keeps_126 : decode cX12_keeps 126 = .ok (.getfield 192, 3) := by decide +kernel
theorem dX12_keeps_129 : decode cX12_keeps 129 = .ok (.iload_n 1, 1) := by decide +kernel
theorem dX12_keeps_130 : decode cX12_keeps 130 = .ok (.iaload, 1) := by decide +kernel
theorem dX12_keeps_131 : decode cX12_keeps 131 = .ok (.iastore, 1) := by decide +kernel
theorem dX12_keeps_132 : decode cX12_keeps 132 = .ok (.iinc 1 1, 3) := by decide +kernel
theorem dX12_keeps_135 : decode cX12_keeps 135 = .ok (.goto (-21), 3) := by decide +kernel
theorem dX12_keeps_138 : decode cX12_keeps 138 = .ok (.return_, 1) := by decide +kernel
theorem bX12_keeps_0 {d : Nat} {h0 hE h : ea_H} {rv : Option ea_V} {r0 : Option Nat} (H : ea_W mX12_keeps d h0 rv hE 2 [(0, vR r0), (1, vI 0)] [] h) : ea_W mX12_keeps d h0 rv hE 0 [(0, vR r0)] [] h := by
  refine ea_iconst (pc := 0) dX12_keeps_0 (v := 0) rfl ?_
  refine ea_istore_n (pc := 1) (lv' := [(0, vR r0), (1, vI 0)]) dX12_keeps_1 rfl (Nat.le_of_ble_eq_true rfl) [1, 0] rfl ?_
  exact H
theorem bX12_keeps_2 {d : Nat} {h0 hE h : ea_H} {rv : Option ea_V} {r0 : Option Nat} {x1 : Int32} (H : ∃ a3, r0 = some a3 ∧ a3 < ea_n h ∧ ea_c h a3 = 12 ∧ ((ea_i h a3 63) ≤ x1 → ea_W mX12_keeps d h0 rv hE 114 [(0, vR r0), (1, vI 0)] [] h) ∧ (¬ (ea_i h a3 63) ≤ x1 → a3 < ea_n h ∧ ea_c h a3 = 12 ∧ a3 < ea_n h ∧ ea_c h a3 = 12 ∧ ∃ a11, (ea_r h a3 81) = some a11 ∧ a11 < ea_n h ∧ ea_c h a11 = 20 ∧ vp_in x1 (ea_l h a11) ∧ ∃ a16, (ea_r h a3 109) = some a16 ∧ a16 < ea_n h ∧ ea_c h a16 = 20 ∧ vp_in x1 (ea_l h a16) ∧ ∀ h19, h19 = ea_wi h a16 (Int32.toNatClampNeg x1) (ea_i h a11 (Int32.toNatClampNeg x1)) → a3 < ea_n h19 ∧ ea_c h19 a3 = 12 ∧ a3 < ea_n h19 ∧ ea_c h19 a3 = 12 ∧ ∃ a27, (ea_r h19 a3 82) = some a27 ∧ a27 < ea_n h19 ∧ ea_c h19 a27 = 20 ∧ vp_in x1 (ea_l h19 a27) ∧ ∃ a32, (ea_r h19 a3 110) = some a32 ∧ a32 < ea_n h19 ∧ ea_c h19 a32 = 20 ∧ vp_in x1 (ea_l h19 a32) ∧ ∀ h35, h35 = ea_wi h19 a32 (Int32.toNatClampNeg x1) (ea_i h19 a27 (Int32.toNatClampNeg x1)) → a3 < ea_n h35 ∧ ea_c h35 a3 = 12 ∧ a3 < ea_n h35 ∧ ea_c h35 a3 = 12 ∧ ∃ a43, (ea_r h35 a3 83) = some a43 ∧ a43 < ea_n h35 ∧ ea_c h35 a43 = 20 ∧ vp_in x1 (ea_l h35 a43) ∧ ∃ a48, (ea_r h35 a3 111) = some a48 ∧ a48 < ea_n h35 ∧ ea_c h35 a48 = 20 ∧ vp_in x1 (ea_l h35 a48) ∧ ∀ h51, h51 = ea_wi h35 a48 (Int32.toNatClampNeg x1) (ea_i h35 a43 (Int32.toNatClampNeg x1)) → a3 < ea_n h51 ∧ ea_c h51 a3 = 12 ∧ a3 < ea_n h51 ∧ ea_c h51 a3 = 12 ∧ ∃ a59, (ea_r h51 a3 84) = some a59 ∧ a59 < ea_n h51 ∧ ea_c h51 a59 = 20 ∧ vp_in x1 (ea_l h51 a59) ∧ ∃ a64, (ea_r h51 a3 112) = some a64 ∧ a64 < ea_n h51 ∧ ea_c h51 a64 = 20 ∧ vp_in x1 (ea_l h51 a64) ∧ ∀ h67, h67 = ea_wi h51 a64 (Int32.toNatClampNeg x1) (ea_i h51 a59 (Int32.toNatClampNeg x1)) → a3 < ea_n h67 ∧ ea_c h67 a3 = 12 ∧ a3 < ea_n h67 ∧ ea_c h67 a3 = 12 ∧ ∃ a75, (ea_r h67 a3 85) = some a75 ∧ a75 < ea_n h67 ∧ ea_c h67 a75 = 20 ∧ vp_in x1 (ea_l h67 a75) ∧ ∃ a80, (ea_r h67 a3 113) = some a80 ∧ a80 < ea_n h67 ∧ ea_c h67 a80 = 20 ∧ vp_in x1 (ea_l h67 a80) ∧ ∀ h83, h83 = ea_wi h67 a80 (Int32.toNatClampNeg x1) (ea_i h67 a75 (Int32.toNatClampNeg x1)) → a3 < ea_n h83 ∧ ea_c h83 a3 = 12 ∧ a3 < ea_n h83 ∧ ea_c h83 a3 = 12 ∧ ∃ a91, (ea_r h83 a3 76) = some a91 ∧ a91 < ea_n h83 ∧ ea_c h83 a91 = 20 ∧ vp_in x1 (ea_l h83 a91) ∧ ∃ a96, (ea_r h83 a3 114) = some a96 ∧ a96 < ea_n h83 ∧ ea_c h83 a96 = 20 ∧ vp_in x1 (ea_l h83 a96) ∧ ∀ h99, h99 = ea_wi h83 a96 (Int32.toNatClampNeg x1) (ea_i h83 a91 (Int32.toNatClampNeg x1)) → a3 < ea_n h99 ∧ ea_c h99 a3 = 12 ∧ a3 < ea_n h99 ∧ ea_c h99 a3 = 12 ∧ ∃ a107, (ea_r h99 a3 77) = some a107 ∧ a107 < ea_n h99 ∧ ea_c h99 a107 = 20 ∧ vp_in x1 (ea_l h99 a107) ∧ ∃ a112, (ea_r h99 a3 115) = some a112 ∧ a112 < ea_n h99 ∧ ea_c h99 a112 = 20 ∧ vp_in x1 (ea_l h99 a112) ∧ ∀ h115, h115 = ea_wi h99 a112 (Int32.toNatClampNeg x1) (ea_i h99 a107 (Int32.toNatClampNeg x1)) → a3 < ea_n h115 ∧ ea_c h115 a3 = 12 ∧ a3 < ea_n h115 ∧ ea_c h115 a3 = 12 ∧ ∃ a123, (ea_r h115 a3 87) = some a123 ∧ a123 < ea_n h115 ∧ ea_c h115 a123 = 21 ∧ vp_in x1 (ea_l h115 a123) ∧ ∃ a128, (ea_r h115 a3 117) = some a128 ∧ a128 < ea_n h115 ∧ ea_c h115 a128 = 21 ∧ vp_in x1 (ea_l h115 a128) ∧ ((ea_i h115 a123 (Int32.toNatClampNeg x1)) = 0 ∨ (ea_i h115 a123 (Int32.toNatClampNeg x1)) = 1) ∧ ∀ h131, h131 = ea_wi h115 a128 (Int32.toNatClampNeg x1) (ea_i h115 a123 (Int32.toNatClampNeg x1)) → ea_W mX12_keeps d h0 rv hE 2 [(0, vR r0), (1, vI (x1 + 1))] [] h131)) : ea_W mX12_keeps d h0 rv hE 2 [(0, vR r0), (1, vI x1)] [] h := by
  refine ea_iload_n (pc := 2) dX12_keeps_2 rfl 1 rfl ?_
  refine ea_aload_n (pc := 3) dX12_keeps_3 rfl 0 rfl ?_
  obtain ⟨a3, e4, f1, g2, H⟩ := H
  refine ea_deref0 e4 ?_
  refine ea_getI (pc := 4) dX12_keeps_4 ec_12 (k := 63) (Nat.le_of_ble_eq_true rfl) rfl (Or.inl ew_1408) f1 g2 ?_
  refine ea_icmp_ge (pc := 7) (tgt := 112) dX12_keeps_7 rfl (fun c134 => ?_) (fun c134 => ?_)
  · have H := H.1 c134
    refine ea_iconst (pc := 112) dX12_keeps_112 (v := 0) rfl ?_
    refine ea_istore_n (pc := 113) (lv' := [(0, vR r0), (1, vI 0)]) dX12_keeps_113 rfl (Nat.le_of_ble_eq_true rfl) [1, 0] rfl ?_
    exact H
  · have H := H.2 c134
    refine ea_aload_n (pc := 10) dX12_keeps_10 rfl 0 rfl ?_
    obtain ⟨f5, g6, H⟩ := H
    refine ea_deref0 e4 ?_
    refine ea_getR (pc := 11) dX12_keeps_11 ec_12 (k := 109) (Nat.le_of_ble_eq_true rfl) rfl (Or.inl ew_1454) f5 g6 rfl ?_
    refine ea_iload_n (pc := 14) dX12_keeps_14 rfl 1 rfl ?_
    refine ea_aload_n (pc := 15) dX12_keeps_15 rfl 0 rfl ?_
    obtain ⟨f7, g8, H⟩ := H
    refine ea_deref0 e4 ?_
    refine ea_getR (pc := 16) dX12_keeps_16 ec_12 (k := 81) (Nat.le_of_ble_eq_true rfl) rfl (Or.inl ew_1426) f7 g8 rfl ?_
    refine ea_iload_n (pc := 19) dX12_keeps_19 rfl 1 rfl ?_
    obtain ⟨a11, e12, f9, g10, H⟩ := H
    refine ea_deref1 e12 ?_
    obtain ⟨z13, H⟩ := H
    refine ea_iald (pc := 20) dX12_keeps_20 f9 g10 z13 ?_
    obtain ⟨a16, e17, f14, g15, H⟩ := H
    refine ea_deref2 e17 ?_
    obtain ⟨z18, H⟩ := H
    refine ea_iast (pc := 21) dX12_keeps_21 f14 g15 z18 ?_
    obtain ⟨h19, E20⟩ : ∃ z, z = ea_wi h a16 (Int32.toNatClampNeg x1) (ea_i h a11 (Int32.toNatClampNeg x1)) := ⟨_, rfl⟩
    have H := H h19 E20
    refine ea_nm E20 ?_
    refine ea_aload_n (pc := 22) dX12_keeps_22 rfl 0 rfl ?_
    obtain ⟨f21, g22, H⟩ := H
    refine ea_deref0 e4 ?_
    refine ea_getR (pc := 23) dX12_keeps_23 ec_12 (k := 110) (Nat.le_of_ble_eq_true rfl) rfl (Or.inl ew_1455) f21 g22 rfl ?_
    refine ea_iload_n (pc := 26) dX12_keeps_26 rfl 1 rfl ?_
    refine ea_aload_n (pc := 27) dX12_keeps_27 rfl 0 rfl ?_
    obtain ⟨f23, g24, H⟩ := H
    refine ea_deref0 e4 ?_
    refine ea_getR (pc := 28) dX12_keeps_28 ec_12 (k := 82) (Nat.le_of_ble_eq_true rfl) rfl (Or.inl ew_1427) f23 g24 rfl ?_
    refine ea_iload_n (pc := 31) dX12_keeps_31 rfl 1 rfl ?_
    obtain ⟨a27, e28, f25, g26, H⟩ := H
    refine ea_deref1 e28 ?_
    obtain ⟨z29, H⟩ := H
    refine ea_iald (pc := 32) dX12_keeps_32 f25 g26 z29 ?_
    obtain ⟨a32, e33, f30, g31, H⟩ := H
    refine ea_deref2 e33 ?_
    obtain ⟨z34, H⟩ := H
    refine ea_iast (pc := 33) dX12_keeps_33 f30 g31 z34 ?_
    obtain ⟨h35, E36⟩ : ∃ z, z = ea_wi h19 a32 (Int32.toNatClampNeg x1) (ea_i h19 a27 (Int32.toNatClampNeg x1)) := ⟨_, rfl⟩
    have H := H h35 E36
    refine ea_nm E36 ?_
    refine ea_aload_n (pc := 34) dX12_keeps_34 rfl 0 rfl ?_
    obtain ⟨f37, g38, H⟩ := H
    refine ea_deref0 e4 ?_
    refine ea_getR (pc := 35) dX12_keeps_35 ec_12 (k := 111) (Nat.le_of_ble_eq_true rfl) rfl (Or.inl ew_1456) f37 g38 rfl ?_
    refine ea_iload_n (pc := 38) dX12_keeps_38 rfl 1 rfl ?_
    refine ea_aload_n (pc := 39) dX12_keeps_39 rfl 0 rfl ?_
    obtain ⟨f39, g40, H⟩ := H
    refine ea_deref0 e4 ?_
    refine ea_getR (pc := 40) dX12_keeps_40 ec_12 (k := 83) (Nat.le_of_ble_eq_true rfl) rfl (Or.inl ew_1428) f39 g40 rfl ?_
    refine ea_iload_n (pc := 43) dX12_keeps_43 rfl 1 rfl ?_
    obtain ⟨a43, e44, f41, g42, H⟩ := H
    refine ea_deref1 e44 ?_
    obtain ⟨z45, H⟩ := H
    refine ea_iald (pc := 44) dX12_keeps_44 f41 g42 z45 ?_
    obtain ⟨a48, e49, f46, g47, H⟩ := H
    refine ea_deref2 e49 ?_
    obtain ⟨z50, H⟩ := H
    refine ea_iast (pc := 45) dX12_keeps_45 f46 g47 z50 ?_
    obtain ⟨h51, E52⟩ : ∃ z, z = ea_wi h35 a48 (Int32.toNatClampNeg x1) (ea_i h35 a43 (Int32.toNatClampNeg x1)) := ⟨_, rfl⟩
    have H := H h51 E52
    refine ea_nm E52 ?_
    refine ea_aload_n (pc := 46) dX12_keeps_46 rfl 0 rfl ?_
    obtain ⟨f53, g54, H⟩ := H
    refine ea_deref0 e4 ?_
    refine ea_getR (pc := 47) dX12_keeps_47 ec_12 (k := 112) (Nat.le_of_ble_eq_true rfl) rfl (Or.inl ew_1457) f53 g54 rfl ?_
    refine ea_iload_n (pc := 50) dX12_keeps_50 rfl 1 rfl ?_
    refine ea_aload_n (pc := 51) dX12_keeps_51 rfl 0 rfl ?_
    obtain ⟨f55, g56, H⟩ := H
    refine ea_deref0 e4 ?_
    refine ea_getR (pc := 52) dX12_keeps_52 ec_12 (k := 84) (Nat.le_of_ble_eq_true rfl) rfl (Or.inl ew_1429) f55 g56 rfl ?_
    refine ea_iload_n (pc := 55) dX12_keeps_55 rfl 1 rfl ?_
    obtain ⟨a59, e60, f57, g58, H⟩ := H
    refine ea_deref1 e60 ?_
    obtain ⟨z61, H⟩ := H
    refine ea_iald (pc := 56) dX12_keeps_56 f57 g58 z61 ?_
    obtain ⟨a64, e65, f62, g63, H⟩ := H
    refine ea_deref2 e65 ?_
    obtain ⟨z66, H⟩ := H
    refine ea_iast (pc := 57) dX12_keeps_57 f62 g63 z66 ?_
    obtain ⟨h67, E68⟩ : ∃ z, z = ea_wi h51 a64 (Int32.toNatClampNeg x1) (ea_i h51 a59 (Int32.toNatClampNeg x1)) := ⟨_, rfl⟩
    have H := H h67 E68
    refine ea_nm E68 ?_
    refine ea_aload_n (pc := 58) dX12_keeps_58 rfl 0 rfl ?_
    obtain ⟨f69, g70, H⟩ := H
    refine ea_deref0 e4 ?_
    refine ea_getR (pc := 59) dX12_keeps_59 ec_12 (k := 113) (Nat.le_of_ble_eq_true rfl) rfl (Or.inl ew_1458) f69 g70 rfl ?_
    refine ea_iload_n (pc := 62) dX12_keeps_62 rfl 1 rfl ?_
    refine ea_aload_n (pc := 63) dX12_keeps_63 rfl 0 rfl ?_
    obtain ⟨f71, g72, H⟩ := H
    refine ea_deref0 e4 ?_
    refine ea_getR (pc := 64) dX12_keeps_64 ec_12 (k := 85) (Nat.le_of_ble_eq_true rfl) rfl (Or.inl ew_1430) f71 g72 rfl ?_
    refine ea_iload_n (pc := 67) dX12_keeps_67 rfl 1 rfl ?_
    obtain ⟨a75, e76, f73, g74, H⟩ := H
    refine ea_deref1 e76 ?_
    obtain ⟨z77, H⟩ := H
    refine ea_iald (pc := 68) dX12_keeps_68 f73 g74 z77 ?_
    obtain ⟨a80, e81, f78, g79, H⟩ := H
    refine ea_deref2 e81 ?_
    obtain ⟨z82, H⟩ := H
    refine ea_iast (pc := 69) dX12_keeps_69 f78 g79 z82 ?_
    obtain ⟨h83, E84⟩ : ∃ z, z = ea_wi h67 a80 (Int32.toNatClampNeg x1) (ea_i h67 a75 (Int32.toNatClampNeg x1)) := ⟨_, rfl⟩
    have H := H h83 E84
    refine ea_nm E84 ?_
    refine ea_aload_n (pc := 70) dX12_keeps_70 rfl 0 rfl ?_
    obtain ⟨f85, g86, H⟩ := H
    refine ea_deref0 e4 ?_
    refine ea_getR (pc := 71) dX12_keeps_71 ec_12 (k := 114) (Nat.le_of_ble_eq_true rfl) rfl (Or.inl ew_1459) f85 g86 rfl ?_
    refine ea_iload_n (pc := 74) dX12_keeps_74 rfl 1 rfl ?_
    refine ea_aload_n (pc := 75) dX12_keeps_75 rfl 0 rfl ?_
    obtain ⟨f87, g88, H⟩ := H
    refine ea_deref0 e4 ?_
    refine ea_getR (pc := 76) dX12_keeps_76 ec_12 (k := 76) (Nat.le_of_ble_eq_true rfl) rfl (Or.inl ew_1421) f87 g88 rfl ?_
    refine ea_iload_n (pc := 79) dX12_keeps_79 rfl 1 rfl ?_
    obtain ⟨a91, e92, f89, g90, H⟩ := H
    refine ea_deref1 e92 ?_
    obtain ⟨z93, H⟩ := H
    refine ea_iald (pc := 80) dX12_keeps_80 f89 g90 z93 ?_
    obtain ⟨a96, e97, f94, g95, H⟩ := H
    refine ea_deref2 e97 ?_
    obtain ⟨z98, H⟩ := H
    refine ea_iast (pc := 81) dX12_keeps_81 f94 g95 z98 ?_
    obtain ⟨h99, E100⟩ : ∃ z, z = ea_wi h83 a96 (Int32.toNatClampNeg x1) (ea_i h83 a91 (Int32.toNatClampNeg x1)) := ⟨_, rfl⟩
    have H := H h99 E100
    refine ea_nm E100 ?_
    refine ea_aload_n (pc := 82) dX12_keeps_82 rfl 0 rfl ?_
    obtain ⟨f101, g102, H⟩ := H
    refine ea_deref0 e4 ?_
    refine ea_getR (pc := 83) dX12_keeps_83 ec_12 (k := 115) (Nat.le_of_ble_eq_true rfl) rfl (Or.inl ew_1460) f101 g102 rfl ?_
    refine ea_iload_n (pc := 86) dX12_keeps_86 rfl 1 rfl ?_
    refine ea_aload_n (pc := 87) dX12_keeps_87 rfl 0 rfl ?_
    obtain ⟨f103, g104, H⟩ := H
    refine ea_deref0 e4 ?_
    refine ea_getR (pc := 88) dX12_keeps_88 ec_12 (k := 77) (Nat.le_of_ble_eq_true rfl) rfl (Or.inl ew_1422) f103 g104 rfl ?_
    refine ea_iload_n (pc := 91) dX12_keeps_91 rfl 1 rfl ?_
    obtain ⟨a107, e108, f105, g106, H⟩ := H
    refine ea_deref1 e108 ?_
    obtain ⟨z109, H⟩ := H
    refine ea_iald (pc := 92) dX12_keeps_92 f105 g106 z109 ?_
    obtain ⟨a112, e113, f110, g111, H⟩ := H
    refine ea_deref2 e113 ?_
    obtain ⟨z114, H⟩ := H
    refine ea_iast (pc := 93) dX12_keeps_93 f110 g111 z114 ?_
    obtain ⟨h115, E116⟩ : ∃ z, z = ea_wi h99 a112 (Int32.toNatClampNeg x1) (ea_i h99 a107 (Int32.toNatClampNeg x1)) := ⟨_, rfl⟩
    have H := H h115 E116
    refine ea_nm E116 ?_
    refine ea_aload_n (pc := 94) dX12_keeps_94 rfl 0 rfl ?_
    obtain ⟨f117, g118, H⟩ := H
    refine ea_deref0 e4 ?_
    refine ea_getR (pc := 95) dX12_keeps_95 ec_12 (k := 117) (Nat.le_of_ble_eq_true rfl) rfl (Or.inl ew_1462) f117 g118 rfl ?_
    refine ea_iload_n (pc := 98) dX12_keeps_98 rfl 1 rfl ?_
    refine ea_aload_n (pc := 99) dX12_keeps_99 rfl 0 rfl ?_
    obtain ⟨f119, g120, H⟩ := H
    refine ea_deref0 e4 ?_
    refine ea_getR (pc := 100) dX12_keeps_100 ec_12 (k := 87) (Nat.le_of_ble_eq_true rfl) rfl (Or.inl ew_1432) f119 g120 rfl ?_
    refine ea_iload_n (pc := 103) dX12_keeps_103 rfl 1 rfl ?_
    obtain ⟨a123, e124, f121, g122, H⟩ := H
    refine ea_deref1 e124 ?_
    obtain ⟨z125, H⟩ := H
    refine ea_zald (pc := 104) dX12_keeps_104 f121 g122 z125 ?_
    obtain ⟨a128, e129, f126, g127, H⟩ := H
    refine ea_deref2 e129 ?_
    obtain ⟨z130, H⟩ := H
    obtain ⟨z133, H⟩ := H
    refine ea_zast (pc := 105) dX12_keeps_105 (y := (ea_i h115 a123 (Int32.toNatClampNeg x1))) (ea_bn z133) f126 g127 z130 ?_
    obtain ⟨h131, E132⟩ : ∃ z, z = ea_wi h115 a128 (Int32.toNatClampNeg x1) (ea_i h115 a123 (Int32.toNatClampNeg x1)) := ⟨_, rfl⟩
    have H := H h131 E132
    refine ea_nm E132 ?_
    refine ea_iinc (pc := 106) (v := 1) (lv' := [(0, vR r0), (1, vI (x1 + 1))]) dX12_keeps_106 1 rfl rfl (Nat.le_of_ble_eq_true rfl) [1, 0] rfl ?_
    refine ea_goto (pc := 109) (tgt := 2) dX12_keeps_109 rfl ?_
    exact H
theorem bX12_keeps_114 {d : Nat} {h0 hE h : ea_H} {rv : Option ea_V} {r0 : Option Nat} {x1 : Int32} (H : ((70 : Int32) ≤ x1 → rv = none ∧ hE = h) ∧ (¬ (70 : Int32) ≤ x1 → ∃ a3, r0 = some a3 ∧ a3 < ea_n h ∧ ea_c h a3 = 12 ∧ a3 < ea_n h ∧ ea_c h a3 = 12 ∧ ∃ a9, (ea_r h a3 86) = some a9 ∧ a9 < ea_n h ∧ ea_c h a9 = 20 ∧ vp_in x1 (ea_l h a9) ∧ ∃ a14, (ea_r h a3 116) = some a14 ∧ a14 < ea_n h ∧ ea_c h a14 = 20 ∧ vp_in x1 (ea_l h a14) ∧ ∀ h17, h17 = ea_wi h a14 (Int32.toNatClampNeg x1) (ea_i h a9 (Int32.toNatClampNeg x1)) → ea_W mX12_keeps d h0 rv hE 114 [(0, vR r0), (1, vI (x1 + 1))] [] h17)) : ea_W mX12_keeps d h0 rv hE 114 [(0, vR r0), (1, vI x1)] [] h := by
  refine ea_iload_n (pc := 114) dX12_keeps_114 rfl 1 rfl ?_
  refine ea_bipush (pc := 115) dX12_keeps_115 (v := 70) rfl ?_
  refine ea_icmp_ge (pc := 117) (tgt := 138) dX12_keeps_117 rfl (fun c19 => ?_) (fun c19 => ?_)
  · have H := H.1 c19
    obtain ⟨rfl, rfl⟩ := H
    exact ea_return (pc := 138) dX12_keeps_138 rfl
  · have H := H.2 c19
    refine ea_aload_n (pc := 120) dX12_keeps_120 rfl 0 rfl ?_
    obtain ⟨a3, e4, f1, g2, H⟩ := H
    refine ea_deref0 e4 ?_
    refine ea_getR (pc := 121) dX12_keeps_121 ec_12 (k := 116) (Nat.le_of_ble_eq_true rfl) rfl (Or.inl ew_1461) f1 g2 rfl ?_
    refine ea_iload_n (pc := 124) dX12_keeps_124 rfl 1 rfl ?_
    refine ea_aload_n (pc := 125) dX12_keeps_125 rfl 0 rfl ?_
    obtain ⟨f5, g6, H⟩ := H
    refine ea_deref0 e4 ?_
    refine ea_getR (pc := 126) dX12_keeps_126 ec_12 (k := 86) (Nat.le_of_ble_eq_true rfl) rfl (Or.inl ew_1431) f5 g6 rfl ?_
    refine ea_iload_n (pc := 129) dX12_keeps_129 rfl 1 rfl ?_
    obtain ⟨a9, e10, f7, g8, H⟩ := H
    refine ea_deref1 e10 ?_
    obtain ⟨z11, H⟩ := H
    refine ea_iald (pc := 130) dX12_keeps_130 f7 g8 z11 ?_
    obtain ⟨a14, e15, f12, g13, H⟩ := H
    refine ea_deref2 e15 ?_
    obtain ⟨z16, H⟩ := H
    refine ea_iast (pc := 131) dX12_keeps_131 f12 g13 z16 ?_
    obtain ⟨h17, E18⟩ : ∃ z, z = ea_wi h a14 (Int32.toNatClampNeg x1) (ea_i h a9 (Int32.toNatClampNeg x1)) := ⟨_, rfl⟩
    have H := H h17 E18
    refine ea_nm E18 ?_
    refine ea_iinc (pc := 132) (v := 1) (lv' := [(0, vR r0), (1, vI (x1 + 1))]) dX12_keeps_132 1 rfl rfl (Nat.le_of_ble_eq_true rfl) [1, 0] rfl ?_
    refine ea_goto (pc := 135) (tgt := 114) dX12_keeps_135 rfl ?_
    exact H
