/-! blocks -/
theorem dX1_isAboard_0 : decode cX1_isAboard 0 = .ok (.aload_n 0, 1) := by decide +kernel
theorem dX1_isAboard_1 : decode cX1_isAboard 1 = .ok (.getfield 9, 3) := by decide +kernel
theorem dX1_isAboard_4 : decode cX1_isAboard 4 = .ok (.iload_n 1, 1) := by decide +kernel
theorem dX1_isAboard_5 : decode cX1_isAboard 5 = .ok (.iaload, 1) := by decide +kernel
theorem dX1_isAboard_6 : decode cX1_isAboard 6 = .ok (.iconst 1, 1) := by decide +kernel
theorem dX1_isAboard_7 : decode cX1_isAboard 7 = .ok (.if_icmp .ne 17, 3) := by decide +kernel
theorem dX1_isAboard_10 : decode cX1_isAboard 10 = .ok (.aload_n 0, 1) := by decide +kernel
theorem dX1_isAboard_11 : decode cX1_isAboard 11 = .ok (.getfield 15, 3) := by decide +kernel
theorem dX1_isAboard_14 : decode cX1_isAboard 14 = .ok (.iload_n 1, 1) := by decide +kernel
theorem dX1_isAboard_15 : decode cX1_isAboard 15 = .ok (.iaload, 1) := by decide +kernel
theorem dX1_isAboard_16 : decode cX1_isAboard 16 = .ok (.iload_n 2, 1) := by decide +kernel
theorem dX1_isAboard_17 : decode cX1_isAboard 17 = .ok (.if_icmp .ne 7, 3) := by decide +kernel
theorem dX1_isAboard_20 : decode cX1_isAboard 20 = .ok (.iconst 1, 1) := by decide +kernel
theorem dX1_isAboard_21 : decode cX1_isAboard 21 = .ok (.goto 4, 3) := by decide +kernel
theorem dX1_isAboard_24 : decode cX1_isAboard 24 = .ok (.iconst 0, 1) := by decide +kernel
theorem dX1_isAboard_25 : decode cX1_isAboard 25 = .ok (.ireturn, 1) := by decide +kernel
theorem bX1_isAboard_0 {d : Nat} {h0 hE h : ea_H} {rv : Option ea_V} {r0 : Option Nat} {x1 : Int32} {x2 : Int32} (H : ∃ a3, r0 = some a3 ∧ a3 < ea_n h ∧ ea_c h a3 = 1 ∧ ∃ a7, (ea_r h a3 1) = some a7 ∧ a7 < ea_n h ∧ ea_c h a7 = 20 ∧ vp_in x1 (ea_l h a7) ∧ (¬ (ea_i h a7 (Int32.toNatClampNeg x1)) = (1 : Int32) → rv = some (vI 0) ∧ hE = h) ∧ ((ea_i h a7 (Int32.toNatClampNeg x1)) = (1 : Int32) → a3 < ea_n h ∧ ea_c h a3 = 1 ∧ ∃ a14, (ea_r h a3 2) = some a14 ∧ a14 < ea_n h ∧ ea_c h a14 = 20 ∧ vp_in x1 (ea_l h a14) ∧ (¬ (ea_i h a14 (Int32.toNatClampNeg x1)) = x2 → rv = some (vI 0) ∧ hE = h) ∧ ((ea_i h a14 (Int32.toNatClampNeg x1)) = x2 → rv = some (vI 1) ∧ hE = h))) : ea_W mX1_isAboard d h0 rv hE 0 [(0, vR r0), (1, vI x1), (2, vI x2)] [] h := by
  refine ea_aload_n (pc := 0) dX1_isAboard_0 rfl 0 rfl ?_
  obtain ⟨a3, e4, f1, g2, H⟩ := H
  refine ea_deref0 e4 ?_
  refine ea_getR (pc := 1) dX1_isAboard_1 ec_1 (k := 1) (Nat.le_of_ble_eq_true rfl) rfl (Or.inl ew_361) f1 g2 rfl ?_
  refine ea_iload_n (pc := 4) dX1_isAboard_4 rfl 1 rfl ?_
  obtain ⟨a7, e8, f5, g6, H⟩ := H
  refine ea_deref1 e8 ?_
  obtain ⟨z9, H⟩ := H
  refine ea_iald (pc := 5) dX1_isAboard_5 f5 g6 z9 ?_
  refine ea_iconst (pc := 6) dX1_isAboard_6 (v := 1) rfl ?_
  refine ea_icmp_ne (pc := 7) (tgt := 24) dX1_isAboard_7 rfl (fun c18 => ?_) (fun c18 => ?_)
  · have H := H.1 c18
    refine ea_iconst (pc := 24) dX1_isAboard_24 (v := 0) rfl ?_
    obtain ⟨rfl, rfl⟩ := H
    exact ea_ireturn (pc := 25) dX1_isAboard_25 rfl (ea_bn (Or.inl rfl))
  · have H := H.2 c18
    refine ea_aload_n (pc := 10) dX1_isAboard_10 rfl 0 rfl ?_
    obtain ⟨f10, g11, H⟩ := H
    refine ea_deref0 e4 ?_
    refine ea_getR (pc := 11) dX1_isAboard_11 ec_1 (k := 2) (Nat.le_of_ble_eq_true rfl) rfl (Or.inl ew_363) f10 g11 rfl ?_
    refine ea_iload_n (pc := 14) dX1_isAboard_14 rfl 1 rfl ?_
    obtain ⟨a14, e15, f12, g13, H⟩ := H
    refine ea_deref1 e15 ?_
    obtain ⟨z16, H⟩ := H
    refine ea_iald (pc := 15) dX1_isAboard_15 f12 g13 z16 ?_
    refine ea_iload_n (pc := 16) dX1_isAboard_16 rfl 2 rfl ?_
    refine ea_icmp_ne (pc := 17) (tgt := 24) dX1_isAboard_17 rfl (fun c17 => ?_) (fun c17 => ?_)
    · have H := H.1 c17
      refine ea_iconst (pc := 24) dX1_isAboard_24 (v := 0) rfl ?_
      obtain ⟨rfl, rfl⟩ := H
      exact ea_ireturn (pc := 25) dX1_isAboard_25 rfl (ea_bn (Or.inl rfl))
    · have H := H.2 c17
      refine ea_iconst (pc := 20) dX1_isAboard_20 (v := 1) rfl ?_
      refine ea_goto (pc := 21) (tgt := 25) dX1_isAboard_21 rfl ?_
      obtain ⟨rfl, rfl⟩ := H
      exact ea_ireturn (pc := 25) dX1_isAboard_25 rfl (ea_bn (Or.inr rfl))
theorem dX1_inState_0 : decode cX1_inState 0 = .ok (.iconst 0, 1) := by decide +kernel
theorem dX1_inState_1 : decode cX1_inState 1 = .ok (.istore_n 2, 1) := by decide +kernel
theorem dX1_inState_2 : decode cX1_inState 2 = .ok (.iconst 0, 1) := by decide +kernel
theorem dX1_inState_3 : decode cX1_inState 3 = .ok (.istore_n 3, 1) := by decide +kernel
theorem dX1_inState_4 : decode cX1_inState 4 = .ok (.iload_n 3, 1) := by decide +kernel
theorem dX1_inState_5 : decode cX1_inState 5 = .ok (.aload_n 0, 1) := by decide +kernel
theorem dX1_inState_6 : decode cX1_inState 6 = .ok (.getfield 60, 3) := by decide +kernel
theorem dX1_inState_9 : decode cX1_inState 9 = .ok (.if_icmp .ge 22, 3) := by decide +kernel
theorem dX1_inState_12 : decode cX1_inState 12 = .ok (.aload_n 0, 1) := by decide +kernel
theorem dX1_inState_13 : decode cX1_inState 13 = .ok (.getfield 9, 3) := by decide +kernel
theorem dX1_inState_16 : decode cX1_inState 16 = .ok (.iload_n 3, 1) := by decide +kernel
theorem dX1_inState_17 : decode cX1_inState 17 = .ok (.iaload, 1) := by decide +kernel
theorem dX1_inState_18 : decode cX1_inState 18 = .ok (.iload_n 1, 1) := by decide +kernel
theorem dX1_inState_19 : decode cX1_inState 19 = .ok (.if_icmp .ne 6, 3) := by decide +kernel
theorem dX1_inState_22 : decode cX1_inState 22 = .ok (.iinc 2 1, 3) := by decide +kernel
theorem dX1_inState_25 : decode cX1_inState 25 = .ok (.iinc 3 1, 3) := by decide +kernel
theorem dX1_inState_28 : decode cX1_inState 28 = .ok (.goto (-24), 3) := by decide +kernel
theorem dX1_inState_31 : decode cX1_inState 31 = .ok (.iload_n 2, 1) := by decide +kernel
theorem dX1_inState_32 : decode cX1_inState 32 = .ok (.ireturn, 1) := by decide +kernel
theorem bX1_inState_0 {d : Nat} {h0 hE h : ea_H} {rv : Option ea_V} {r0 : Option Nat} {x1 : Int32} (H : ea_W mX1_inState d h0 rv hE 4 [(0, vR r0), (1, vI x1), (2, vI 0), (3, vI 0)] [] h) : ea_W mX1_inState d h0 rv hE 0 [(0, vR r0), (1, vI x1)] [] h := by
  refine ea_iconst (pc := 0) dX1_inState_0 (v := 0) rfl ?_
  refine ea_istore_n (pc := 1) (lv' := [(0, vR r0), (1, vI x1), (2, vI 0)]) dX1_inState_1 rfl (Nat.le_of_ble_eq_true rfl) [1, 2, 0] rfl ?_
  refine ea_iconst (pc := 2) dX1_inState_2 (v := 0) rfl ?_
  refine ea_istore_n (pc := 3) (lv' := [(0, vR r0), (1, vI x1), (2, vI 0), (3, vI 0)]) dX1_inState_3 rfl (Nat.le_of_ble_eq_true rfl) [1, 2, 3, 0] rfl ?_
  exact H
theorem bX1_inState_4 {d : Nat} {h0 hE h : ea_H} {rv : Option ea_V} {r0 : Option Nat} {x1 : Int32} {x2 : Int32} {x3 : Int32} (H : ∃ a3, r0 = some a3 ∧ a3 < ea_n h ∧ ea_c h a3 = 1 ∧ ((ea_i h a3 0) ≤ x3 → rv = some (vI x2) ∧ hE = h) ∧ (¬ (ea_i h a3 0) ≤ x3 → a3 < ea_n h ∧ ea_c h a3 = 1 ∧ ∃ a9, (ea_r h a3 1) = some a9 ∧ a9 < ea_n h ∧ ea_c h a9 = 20 ∧ vp_in x3 (ea_l h a9) ∧ (¬ (ea_i h a9 (Int32.toNatClampNeg x3)) = x1 → ea_W mX1_inState d h0 rv hE 4 [(0, vR r0), (1, vI x1), (2, vI x2), (3, vI (x3 + 1))] [] h) ∧ ((ea_i h a9 (Int32.toNatClampNeg x3)) = x1 → ea_W mX1_inState d h0 rv hE 4 [(0, vR r0), (1, vI x1), (2, vI (x2 + 1)), (3, vI (x3 + 1))] [] h))) : ea_W mX1_inState d h0 rv hE 4 [(0, vR r0), (1, vI x1), (2, vI x2), (3, vI x3)] [] h := by
  refine ea_iload_n (pc := 4) dX1_inState_4 rfl 3 rfl ?_
  refine ea_aload_n (pc := 5) dX1_inState_5 rfl 0 rfl ?_
  obtain ⟨a3, e4, f1, g2, H⟩ := H
  refine ea_deref0 e4 ?_
  refine ea_getI (pc := 6) dX1_inState_6 ec_1 (k := 0) (Nat.le_of_ble_eq_true rfl) rfl (Or.inl ew_359) f1 g2 ?_
  refine ea_icmp_ge (pc := 9) (tgt := 31) dX1_inState_9 rfl (fun c13 => ?_) (fun c13 => ?_)
  · have H := H.1 c13
    refine ea_iload_n (pc := 31) dX1_inState_31 rfl 2 rfl ?_
    obtain ⟨rfl, rfl⟩ := H
    exact ea_ireturn (pc := 32) dX1_inState_32 rfl rfl
  · have H := H.2 c13
    refine ea_aload_n (pc := 12) dX1_inState_12 rfl 0 rfl ?_
    obtain ⟨f5, g6, H⟩ := H
    refine ea_deref0 e4 ?_
    refine ea_getR (pc := 13) dX1_inState_13 ec_1 (k := 1) (Nat.le_of_ble_eq_true rfl) rfl (Or.inl ew_361) f5 g6 rfl ?_
    refine ea_iload_n (pc := 16) dX1_inState_16 rfl 3 rfl ?_
    obtain ⟨a9, e10, f7, g8, H⟩ := H
    refine ea_deref1 e10 ?_
    obtain ⟨z11, H⟩ := H
    refine ea_iald (pc := 17) dX1_inState_17 f7 g8 z11 ?_
    refine ea_iload_n (pc := 18) dX1_inState_18 rfl 1 rfl ?_
    refine ea_icmp_ne (pc := 19) (tgt := 25) dX1_inState_19 rfl (fun c12 => ?_) (fun c12 => ?_)
    · have H := H.1 c12
      refine ea_iinc (pc := 25) (v := 1) (lv' := [(0, vR r0), (1, vI x1), (2, vI x2), (3, vI (x3 + 1))]) dX1_inState_25 3 rfl rfl (Nat.le_of_ble_eq_true rfl) [1, 2, 3, 0] rfl ?_
      refine ea_goto (pc := 28) (tgt := 4) dX1_inState_28 rfl ?_
      exact H
    · have H := H.2 c12
      refine ea_iinc (pc := 22) (v := 1) (lv' := [(0, vR r0), (1, vI x1), (2, vI (x2 + 1)), (3, vI x3)]) dX1_inState_22 2 rfl rfl (Nat.le_of_ble_eq_true rfl) [1, 2, 0, 3] rfl ?_
      refine ea_iinc (pc := 25) (v := 1) (lv' := [(0, vR r0), (1, vI x1), (2, vI (x2 + 1)), (3, vI (x3 + 1))]) dX1_inState_25 3 rfl rfl (Nat.le_of_ble_eq_true rfl) [1, 2, 3, 0] rfl ?_
      refine ea_goto (pc := 28) (tgt := 4) dX1_inState_28 rfl ?_
      exact H
theorem dX1_aboardOf_0 : decode cX1_aboardOf 0 = .ok (.iconst 0, 1) := by decide +kernel
theorem dX1_aboardOf_1 : decode cX1_aboardOf 1 = .ok (.istore_n 3, 1) := by decide +kernel
theorem dX1_aboardOf_2 : decode cX1_aboardOf 2 = .ok (.iconst 0, 1) := by decide +kernel
theorem dX1_aboardOf_3 : decode cX1_aboardOf 3 = .ok (.istore 4, 2) := by decide +kernel
theorem dX1_aboardOf_5 : decode cX1_aboardOf 5 = .ok (.iload 4, 2) := by decide +kernel
theorem dX1_aboardOf_7 : decode cX1_aboardOf 7 = .ok (.aload_n 0, 1) := by decide +kernel
theorem dX1_aboardOf_8 : decode cX1_aboardOf 8 = .ok (.getfield 60, 3) := by decide +kernel
theorem dX1_aboardOf_11 : decode cX1_aboardOf 11 = .ok (.if_icmp .ge 33, 3) := by decide +kernel
theorem dX1_aboardOf_14 : decode cX1_aboardOf 14 = .ok (.aload_n 0, 1) := by decide +kernel
theorem dX1_aboardOf_15 : decode cX1_aboardOf 15 = .ok (.iload 4, 2) := by decide +kernel
theorem dX1_aboardOf_17 : decode cX1_aboardOf 17 = .ok (.iload_n 1, 1) := by decide +kernel
theorem dX1_aboardOf_18 : decode cX1_aboardOf 18 = .ok (.invokevirtual 73, 3) := by decide +kernel
theorem dX1_aboardOf_21 : decode cX1_aboardOf 21 = .ok (.ifCond .eq 17, 3) := by decide +kernel
theorem dX1_aboardOf_24 : decode cX1_aboardOf 24 = .ok (.aload_n 0, 1) := by decide +kernel
theorem dX1_aboardOf_25 : decode cX1_aboardOf 25 = .ok (.getfield 24, 3) := by decide +kernel
theorem dX1_aboardOf_28 : decode cX1_aboardOf 28 = .ok (.iload 4, 2) := by decide +kernel
theorem dX1_aboardOf_30 : decode cX1_aboardOf 30 = .ok (.baload, 1) := by decide +kernel
theorem dX1_aboardOf_31 : decode cX1_aboardOf 31 = .ok (.iload_n 2, 1) := by decide +kernel
theorem dX1_aboardOf_32 : decode cX1_aboardOf 32 = .ok (.if_icmp .ne 6, 3) := by decide +kernel
theorem dX1_aboardOf_35 : decode cX1_aboardOf 35 = .ok (.iinc 3 1, 3) := by decide +kernel
theorem dX1_aboardOf_38 : decode cX1_aboardOf 38 = .ok (.iinc 4 1, 3) := by decide +kernel
theorem dX1_aboardOf_41 : decode cX1_aboardOf 41 = .ok (.goto (-36), 3) := by decide +kernel
theorem dX1_aboardOf_44 : decode cX1_aboardOf 44 = .ok (.iload_n 3, 1) := by decide +kernel
theorem dX1_aboardOf_45 : decode cX1_aboardOf 45 = .ok (.ireturn, 1) := by decide +kernel
theorem bX1_aboardOf_0 {d : Nat} {h0 hE h : ea_H} {rv : Option ea_V} {r0 : Option Nat} {x1 : Int32} {x2 : Int32} (H : ea_W mX1_aboardOf d h0 rv hE 5 [(0, vR r0), (1, vI x1), (2, vI x2), (3, vI 0), (4, vI 0)] [] h) : ea_W mX1_aboardOf d h0 rv hE 0 [(0, vR r0), (1, vI x1), (2, vI x2)] [] h := by
  refine ea_iconst (pc := 0) dX1_aboardOf_0 (v := 0) rfl ?_
  refine ea_istore_n (pc := 1) (lv' := [(0, vR r0), (1, vI x1), (2, vI x2), (3, vI 0)]) dX1_aboardOf_1 rfl (Nat.le_of_ble_eq_true rfl) [1, 2, 3, 0] rfl ?_
  refine ea_iconst (pc := 2) dX1_aboardOf_2 (v := 0) rfl ?_
  refine ea_istore (pc := 3) (lv' := [(0, vR r0), (1, vI x1), (2, vI x2), (3, vI 0), (4, vI 0)]) dX1_aboardOf_3 (Nat.le_of_ble_eq_true rfl) [1, 2, 3, 4, 0] rfl ?_
  exact H
theorem bX1_aboardOf_5 {d : Nat} {h0 hE h : ea_H} {rv : Option ea_V} {r0 : Option Nat} {x1 : Int32} {x2 : Int32} {x3 : Int32} {x4 : Int32} (H : ∃ a3, r0 = some a3 ∧ a3 < ea_n h ∧ ea_c h a3 = 1 ∧ ((ea_i h a3 0) ≤ x4 → rv = some (vI x3) ∧ hE = h) ∧ (¬ (ea_i h a3 0) ≤ x4 → a3 < ea_n h ∧ ea_c h a3 = 1 ∧ ∃ (d5 : Nat) (xc11 : Int32) (h6 : ea_H), ea_Met mX1_isAboard d5 [vR (some a3), vI x4, vI x1] h (some (vI xc11)) h6 ∧ d5 + 1 ≤ d ∧ (xc11 = (0 : Int32) → ea_W mX1_aboardOf d h0 rv hE 5 [(0, vR r0), (1, vI x1), (2, vI x2), (3, vI x3), (4, vI (x4 + 1))] [] h6) ∧ (¬ xc11 = (0 : Int32) → a3 < ea_n h6 ∧ ea_c h6 a3 = 1 ∧ ∃ a16, (ea_r h6 a3 5) = some a16 ∧ a16 < ea_n h6 ∧ ea_c h6 a16 = 21 ∧ vp_in x4 (ea_l h6 a16) ∧ (¬ (ea_i h6 a16 (Int32.toNatClampNeg x4)) = x2 → ea_W mX1_aboardOf d h0 rv hE 5 [(0, vR r0), (1, vI x1), (2, vI x2), (3, vI x3), (4, vI (x4 + 1))] [] h6) ∧ ((ea_i h6 a16 (Int32.toNatClampNeg x4)) = x2 → ea_W mX1_aboardOf d h0 rv hE 5 [(0, vR r0), (1, vI x1), (2, vI x2), (3, vI (x3 + 1)), (4, vI (x4 + 1))] [] h6)))) : ea_W mX1_aboardOf d h0 rv hE 5 [(0, vR r0), (1, vI x1), (2, vI x2), (3, vI x3), (4, vI x4)] [] h := by
  refine ea_iload (pc := 5) dX1_aboardOf_5 4 rfl ?_
  refine ea_aload_n (pc := 7) dX1_aboardOf_7 rfl 0 rfl ?_
  obtain ⟨a3, e4, f1, g2, H⟩ := H
  refine ea_deref0 e4 ?_
  refine ea_getI (pc := 8) dX1_aboardOf_8 ec_1 (k := 0) (Nat.le_of_ble_eq_true rfl) rfl (Or.inl ew_359) f1 g2 ?_
  refine ea_icmp_ge (pc := 11) (tgt := 44) dX1_aboardOf_11 rfl (fun c21 => ?_) (fun c21 => ?_)
  · have H := H.1 c21
    refine ea_iload_n (pc := 44) dX1_aboardOf_44 rfl 3 rfl ?_
    obtain ⟨rfl, rfl⟩ := H
    exact ea_ireturn (pc := 45) dX1_aboardOf_45 rfl rfl
  · have H := H.2 c21
    refine ea_aload_n (pc := 14) dX1_aboardOf_14 rfl 0 rfl ?_
    refine ea_iload (pc := 15) dX1_aboardOf_15 4 rfl ?_
    refine ea_iload_n (pc := 17) dX1_aboardOf_17 rfl 1 rfl ?_
    obtain ⟨f9, g10, H⟩ := H
    refine ea_deref2 e4 ?_
    obtain ⟨d5, xc11, h6, m7, q8, H⟩ := H
    refine ea_callV (pc := 18) (As := [vI x4, vI x1]) (st := []) dX1_aboardOf_18 kX1_isAboard m7 q8 rfl (Nat.le_of_ble_eq_true rfl) ew_704 ew_705 ew_706 (ci := 1) rfl (by decide) f9 g10 ?_
    refine ea_if_eq (pc := 21) (tgt := 38) dX1_aboardOf_21 rfl (fun c20 => ?_) (fun c20 => ?_)
    · have H := H.1 c20
      refine ea_iinc (pc := 38) (v := 1) (lv' := [(0, vR r0), (1, vI x1), (2, vI x2), (3, vI x3), (4, vI (x4 + 1))]) dX1_aboardOf_38 4 rfl rfl (Nat.le_of_ble_eq_true rfl) [1, 2, 3, 4, 0] rfl ?_
      refine ea_goto (pc := 41) (tgt := 5) dX1_aboardOf_41 rfl ?_
      exact H
    · have H := H.2 c20
      refine ea_aload_n (pc := 24) dX1_aboardOf_24 rfl 0 rfl ?_
      obtain ⟨f12, g13, H⟩ := H
      refine ea_deref0 e4 ?_
      refine ea_getR (pc := 25) dX1_aboardOf_25 ec_1 (k := 5) (Nat.le_of_ble_eq_true rfl) rfl (Or.inl ew_369) f12 g13 rfl ?_
      refine ea_iload (pc := 28) dX1_aboardOf_28 4 rfl ?_
      obtain ⟨a16, e17, f14, g15, H⟩ := H
      refine ea_deref1 e17 ?_
      obtain ⟨z18, H⟩ := H
      refine ea_zald (pc := 30) dX1_aboardOf_30 f14 g15 z18 ?_
      refine ea_iload_n (pc := 31) dX1_aboardOf_31 rfl 2 rfl ?_
      refine ea_icmp_ne (pc := 32) (tgt := 38) dX1_aboardOf_32 rfl (fun c19 => ?_) (fun c19 => ?_)
      · have H := H.1 c19
        refine ea_iinc (pc := 38) (v := 1) (lv' := [(0, vR r0), (1, vI x1), (2, vI x2), (3, vI x3), (4, vI (x4 + 1))]) dX1_aboardOf_38 4 rfl rfl (Nat.le_of_ble_eq_true rfl) [1, 2, 3, 4, 0] rfl ?_
        refine ea_goto (pc := 41) (tgt := 5) dX1_aboardOf_41 rfl ?_
        exact H
      · have H := H.2 c19
        refine ea_iinc (pc := 35) (v := 1) (lv' := [(0, vR r0), (1, vI x1), (2, vI x2), (3, vI (x3 + 1)), (4, vI x4)]) dX1_aboardOf_35 3 rfl rfl (Nat.le_of_ble_eq_true rfl) [1, 2, 3, 0, 4] rfl ?_
        refine ea_iinc (pc := 38) (v := 1) (lv' := [(0, vR r0), (1, vI x1), (2, vI x2), (3, vI (x3 + 1)), (4, vI (x4 + 1))]) dX1_aboardOf_38 4 rfl rfl (Nat.le_of_ble_eq_true rfl) [1, 2, 3, 4, 0] rfl ?_
        refine ea_goto (pc := 41) (tgt := 5) dX1_aboardOf_41 rfl ?_
        exact H
theorem dX1_copy_0 : decode cX1_copy 0 = .ok (.aload_n 0, 1) := by decide +kernel
theorem dX1_copy_1 : decode cX1_copy 1 = .ok (.aload_n 1, 1) := by decide +kernel
theorem dX1_copy_2 : decode cX1_copy 2 = .ok (.getfield 60, 3) := by decide +kernel
theorem dX1_copy_5 : decode cX1_copy 5 = .ok (.putfield 60, 3) := by decide +kernel
theorem dX1_copy_8 : decode cX1_copy 8 = .ok (.aload_n 0, 1) := by decide +kernel
theorem dX1_copy_9 : decode cX1_copy 9 = .ok (.aload_n 1, 1) := by decide +kernel
theorem dX1_copy_10 : decode cX1_copy 10 = .ok (.getfield 64, 3) := by decide +kernel
theorem dX1_copy_13 : decode cX1_copy 13 = .ok (.putfield 64, 3) := by decide +kernel
theorem dX1_copy_16 : decode cX1_copy 16 = .ok (.aload_n 1, 1) := by decide +kernel
theorem dX1_copy_17 : decode cX1_copy 17 = .ok (.getfield 9, 3) := by decide +kernel
theorem dX1_copy_20 : decode cX1_copy 20 = .ok (.iconst 0, 1) := by decide +kernel
theorem dX1_copy_21 : decode cX1_copy 21 = .ok (.aload_n 0, 1) := by decide +kernel
theorem dX1_copy_22 : decode cX1_copy 22 = .ok (.getfield 9, 3) := by decide +kernel
theorem dX1_copy_25 : decode cX1_copy 25 = .ok (.iconst 0, 1) := by decide +kernel
theorem dX1_copy_26 : decode cX1_copy 26 = .ok (.bipush 120, 2) := by decide +kernel
theorem dX1_copy_28 : decode cX1_copy 28 = .ok (.invokestatic 77, 3) := by decide +kernel
theorem dX1_copy_31 : decode cX1_copy 31 = .ok (.aload_n 1, 1) := by decide +kernel
theorem dX1_copy_32 : decode cX1_copy 32 = .ok (.getfield 15, 3) := by decide +kernel
theorem dX1_copy_35 : decode cX1_copy 35 = .ok (.iconst 0, 1) := by decide +kernel
theorem dX1_copy_36 : decode cX1_copy 36 = .ok (.aload_n 0, 1) := by decide +kernel
theorem dX1_copy_37 : decode cX1_copy 37 = .ok (.getfield 15, 3) := by decide +kernel
theorem dX1_copy_40 : decode cX1_copy 40 = .ok (.iconst 0, 1) := by decide +kernel
theorem dX1_copy_41 : decode cX1_copy 41 = .ok (.bipush 120, 2) := by decide +kernel
theorem dX1_copy_43 : decode cX1_copy 43 = .ok (.invokestatic 77, 3) := by decide +kernel
theorem dX1_copy_46 : decode cX1_copy 46 = .ok (.aload_n 1, 1) := by decide +kernel
theorem dX1_copy_47 : decode cX1_copy 47 = .ok (.getfield 18, 3) := by decide +kernel
theorem dX1_copy_50 : decode cX1_copy 50 = .ok (.iconst 0, 1) := by decide +kernel
theorem dX1_copy_51 : decode cX1_copy 51 = .ok (.aload_n 0, 1) := by decide +kernel
theorem dX1_copy_52 : decode cX1_copy 52 = .ok (.getfield 18, 3) := by decide +kernel
theorem dX1_copy_55 : decode cX1_copy 55 = .ok (.iconst 0, 1) := by decide +kernel
theorem dX1_copy_56 : decode cX1_copy 56 = .ok (.bipush 120, 2) := by decide +kernel
theorem dX1_copy_58 : decode cX1_copy 58 = .ok (.invokestatic 77, 3) := by decide +kernel
theorem dX1_copy_61 : decode cX1_copy 61 = .ok (.aload_n 1, 1) := by decide +kernel
theorem dX1_copy_62 : decode cX1_copy 62 = .ok (.getfield 21, 3) := by decide +kernel
theorem dX1_copy_65 : decode cX1_copy 65 = .ok (.iconst 0, 1) := by decide +kernel
theorem dX1_copy_66 : decode cX1_copy 66 = .ok (.aload_n 0, 1) := by decide +kernel
theorem dX1_copy_67 : decode cX1_copy 67 = .ok (.getfield 21, 3) := by decide +kernel
theorem dX1_copy_70 : decode cX1_copy 70 = .ok (.iconst 0, 1) := by decide +kernel
theorem dX1_copy_71 : decode cX1_copy 71 = .ok (.bipush 120, 2) := by decide +kernel
theorem dX1_copy_73 : decode cX1_copy 73 = .ok (.invokestatic 77, 3) := by decide +kernel
theorem dX1_copy_76 : decode cX1_copy 76 = .ok (.aload_n 1, 1) := by decide +kernel
theorem dX1_copy_77 : decode cX1_copy 77 = .ok (.getfield 31, 3) := by decide +kernel
theorem dX1_copy_80 : decode cX1_copy 80 = .ok (.iconst 0, 1) := by decide +kernel
theorem dX1_copy_81 : decode cX1_copy 81 = .ok (.aload_n 0, 1) := by decide +kernel
theorem dX1_copy_82 : decode cX1_copy 82 = .ok (.getfield 31, 3) := by decide +kernel
theorem dX1_copy_85 : decode cX1_copy 85 = .ok (.iconst 0, 1) := by decide +kernel
theorem dX1_copy_86 : decode cX1_copy 86 = .ok (.bipush 120, 2) := by decide +kernel
theorem dX1_copy_88 : decode cX1_copy 88 = .ok (.invokestatic 77, 3) := by decide +kernel
theorem dX1_copy_91 : decode cX1_copy 91 = .ok (.aload_n 1, 1) := by decide +kernel
theorem dX1_copy_92 : decode cX1_copy 92 = .ok (.getfield 24, 3) := by decide +kernel
theorem dX1_copy_95 : decode cX1_copy 95 = .ok (.iconst 0, 1) := by decide +kernel
theorem dX1_copy_96 : decode cX1_copy 96 = .ok (.aload_n 0, 1) := by decide +kernel
theorem dX1_copy_97 : decode cX1_copy 97 = .ok (.getfield 24, 3) := by decide +kernel
theorem dX1_copy_100 : decode cX1_copy 100 = .ok (.iconst 0, 1) := by decide +kernel
theorem dX1_copy_101 : decode cX1_copy 101 = .ok (.bipush 120, 2) := by decide +kernel
theorem dX1_copy_103 : decode cX1_copy 103 = .ok (.invokestatic 77, 3) := by decide +kernel
theorem dX1_copy_106 : decode cX1_copy 106 = .ok (.aload_n 1, 1) := by decide +kernel
theorem dX1_copy_107 : decode cX1_copy 107 = .ok (.getfield 28, 3) := by decide +kernel
theorem dX1_copy_110 : decode cX1_copy 110 = .ok (.iconst 0, 1) := by decide +kernel
theorem dX1_copy_111 : decode cX1_copy 111 = .ok (.aload_n 0, 1) := by decide +kernel
theorem dX1_copy_112 : decode cX1_copy 112 = .ok (.getfield 28, 3) := by decide +kernel
theorem dX1_copy_115 : decode cX1_copy 115 = .ok (.iconst 0, 1) := by decide +kernel
theorem dX1_copy_116 : decode cX1_copy 116 = .ok (.bipush 70, 2) := by decide +kernel
theorem dX1_copy_118 : decode cX1_copy 118 = .ok (.invokestatic 77, 3) := by decide +kernel
theorem dX1_copy_121 : decode cX1_copy 121 = .ok (.aload_n 1, 1) := by decide +kernel
theorem dX1_copy_122 : decode cX1_copy 122 = .ok (.getfield 37, 3) := by decide +kernel
theorem dX1_copy_125 : decode cX1_copy 125 = .ok (.iconst 0, 1) := by decide +kernel
theorem dX1_copy_126 : decode cX1_copy 126 = .ok (.aload_n 0, 1) := by decide +kernel
theorem dX1_copy_127 : decode cX1_copy 127 = .ok (.getfield 37, 3) := by decide +kernel
theorem dX1_copy_130 : decode cX1_copy 130 = .ok (.iconst 0, 1) := by decide +kernel
theorem dX1_copy_131 : decode cX1_copy 131 = .ok (.bipush 70, 2) := by decide +kernel
theorem dX1_copy_133 : decode cX1_copy 133 = .ok (.invokestatic 77, 3) := by decide +kernel
theorem dX1_copy_136 : decode cX1_copy 136 = .ok (.aload_n 1, 1) := by decide +kernel
theorem dX1_copy_137 : decode cX1_copy 137 = .ok (.getfield 34, 3) := by decide +kernel
theorem dX1_copy_140 : decode cX1_copy 140 = .ok (.iconst 0, 1) := by decide +kernel
theorem dX1_copy_141 : decode cX1_copy 141 = .ok (.aload_n 0, 1) := by decide +kernel
theorem dX1_copy_142 : decode cX1_copy 142 = .ok (.getfield 34, 3) := by decide +kernel
theorem dX1_copy_145 : decode cX1_copy 145 = .ok (.iconst 0, 1) := by decide +kernel
theorem dX1_copy_146 : decode cX1_copy 146 = .ok (.bipush 12, 2) := by decide +kernel
theorem dX1_copy_148 : decode cX1_copy 148 = .ok (.invokestatic 77, 3) := by decide +kernel
theorem dX1_copy_151 : decode cX1_copy 151 = .ok (.return_, 1) := by decide +kernel
theorem bX1_copy_0 {d : Nat} {h0 hE h : ea_H} {rv : Option ea_V} {r0 : Option Nat} {r1 : Option Nat} (H : ∃ a3, r1 = some a3 ∧ a3 < ea_n h ∧ ea_c h a3 = 1 ∧ ∃ a7, r0 = some a7 ∧ a7 < ea_n h ∧ ea_c h a7 = 1 ∧ ∀ h9, h9 = ea_wi h a7 0 (ea_i h a3 0) → a3 < ea_n h9 ∧ ea_c h9 a3 = 1 ∧ a7 < ea_n h9 ∧ ea_c h9 a7 = 1 ∧ ∀ h15, h15 = ea_wi h9 a7 10 (ea_i h9 a3 10) → a3 < ea_n h15 ∧ ea_c h15 a3 = 1 ∧ a7 < ea_n h15 ∧ ea_c h15 a7 = 1 ∧ False) : ea_W mX1_copy d h0 rv hE 0 [(0, vR r0), (1, vR r1)] [] h := by
  refine ea_aload_n (pc := 0) dX1_copy_0 rfl 0 rfl ?_
  refine ea_aload_n (pc := 1) dX1_copy_1 rfl 1 rfl ?_
  obtain ⟨a3, e4, f1, g2, H⟩ := H
  refine ea_deref0 e4 ?_
  refine ea_getI (pc := 2) dX1_copy_2 ec_1 (k := 0) (Nat.le_of_ble_eq_true rfl) rfl (Or.inl ew_359) f1 g2 ?_
  obtain ⟨a7, e8, f5, g6, H⟩ := H
  refine ea_deref1 e8 ?_
  refine ea_putI (pc := 5) dX1_copy_5 ec_1 (k := 0) (Nat.le_of_ble_eq_true rfl) rfl (Or.inl ⟨rfl, Or.inl ew_359⟩) rfl rfl f5 g6 ?_
  obtain ⟨h9, E10⟩ : ∃ z, z = ea_wi h a7 0 (ea_i h a3 0) := ⟨_, rfl⟩
  have H := H h9 E10
  refine ea_nm E10 ?_
  refine ea_aload_n (pc := 8) dX1_copy_8 rfl 0 rfl ?_
  refine ea_aload_n (pc := 9) dX1_copy_9 rfl 1 rfl ?_
  obtain ⟨f11, g12, H⟩ := H
  refine ea_deref0 e4 ?_
  refine ea_getI (pc := 10) dX1_copy_10 ec_1 (k := 10) (Nat.le_of_ble_eq_true rfl) rfl (Or.inl ew_376) f11 g12 ?_
  obtain ⟨f13, g14, H⟩ := H
  refine ea_deref1 e8 ?_
  refine ea_putI (pc := 13) dX1_copy_13 ec_1 (k := 10) (Nat.le_of_ble_eq_true rfl) rfl (Or.inl ⟨rfl, Or.inl ew_376⟩) rfl rfl f13 g14 ?_
  obtain ⟨h15, E16⟩ : ∃ z, z = ea_wi h9 a7 10 (ea_i h9 a3 10) := ⟨_, rfl⟩
  have H := H h15 E16
  refine ea_nm E16 ?_
  refine ea_aload_n (pc := 16) dX1_copy_16 rfl 1 rfl ?_
  obtain ⟨f17, g18, H⟩ := H
  refine ea_deref0 e4 ?_
  refine ea_getR (pc := 17) dX1_copy_17 ec_1 (k := 1) (Nat.le_of_ble_eq_true rfl) rfl (Or.inl ew_361) f17 g18 rfl ?_
  refine ea_iconst (pc := 20) dX1_copy_20 (v := 0) rfl ?_
  refine ea_aload_n (pc := 21) dX1_copy_21 rfl 0 rfl ?_
  obtain ⟨f19, g20, H⟩ := H
  refine ea_deref0 e8 ?_
  refine ea_getR (pc := 22) dX1_copy_22 ec_1 (k := 1) (Nat.le_of_ble_eq_true rfl) rfl (Or.inl ew_361) f19 g20 rfl ?_
  refine ea_iconst (pc := 25) dX1_copy_25 (v := 0) rfl ?_
  refine ea_bipush (pc := 26) dX1_copy_26 (v := 120) rfl ?_
  exact H.elim
theorem dX1_sumOfMinutes_0 : decode cX1_sumOfMinutes 0 = .ok (.iconst 0, 1) := by decide +kernel
theorem dX1_sumOfMinutes_1 : decode cX1_sumOfMinutes 1 = .ok (.istore_n 1, 1) := by decide +kernel
theorem dX1_sumOfMinutes_2 : decode cX1_sumOfMinutes 2 = .ok (.iconst 0, 1) := by decide +kernel
theorem dX1_sumOfMinutes_3 : decode cX1_sumOfMinutes 3 = .ok (.istore_n 2, 1) := by decide +kernel
theorem dX1_sumOfMinutes_4 : decode cX1_sumOfMinutes 4 = .ok (.iload_n 2, 1) := by decide +kernel
theorem dX1_sumOfMinutes_5 : decode cX1_sumOfMinutes 5 = .ok (.aload_n 0, 1) := by decide +kernel
theorem dX1_sumOfMinutes_6 : decode cX1_sumOfMinutes 6 = .ok (.getfield 60, 3) := by decide +kernel
theorem dX1_sumOfMinutes_9 : decode cX1_sumOfMinutes 9 = .ok (.if_icmp .ge 56, 3) := by decide +kernel
theorem dX1_sumOfMinutes_12 : decode cX1_sumOfMinutes 12 = .ok (.aload_n 0, 1) := by decide +kernel
theorem dX1_sumOfMinutes_13 : decode cX1_sumOfMinutes 13 = .ok (.getfield 9, 3) := by decide +kernel
theorem dX1_sumOfMinutes_16 : decode cX1_sumOfMinutes 16 = .ok (.iload_n 2, 1) := by decide +kernel
theorem dX1_sumOfMinutes_17 : decode cX1_sumOfMinutes 17 = .ok (.iaload, 1) := by decide +kernel
theorem dX1_sumOfMinutes_18 : decode cX1_sumOfMinutes 18 = .ok (.iconst 2, 1) := by decide +kernel
theorem dX1_sumOfMinutes_19 : decode cX1_sumOfMinutes 19 = .ok (.if_icmp .ne 15, 3) := by decide +kernel
theorem dX1_sumOfMinutes_22 : decode cX1_sumOfMinutes 22 = .ok (.iload_n 1, 1) := by decide +kernel
theorem dX1_sumOfMinutes_23 : decode cX1_sumOfMinutes 23 = .ok (.aload_n 0, 1) := by decide +kernel
theorem dX1_sumOfMinutes_24 : decode cX1_sumOfMinutes 24 = .ok (.getfield 31, 3) := by decide +kernel
theorem dX1_sumOfMinutes_27 : decode cX1_sumOfMinutes 27 = .ok (.iload_n 2, 1) := by decide +kernel
theorem dX1_sumOfMinutes_28 : decode cX1_sumOfMinutes 28 = .ok (.iaload, 1) := by decide +kernel
theorem dX1_sumOfMinutes_29 : decode cX1_sumOfMinutes 29 = .ok (.iadd, 1) := by decide +kernel
theorem dX1_sumOfMinutes_30 : decode cX1_sumOfMinutes 30 = .ok (.istore_n 1, 1) := by decide +kernel
theorem dX1_sumOfMinutes_31 : decode cX1_sumOfMinutes 31 = .ok (.goto 28, 3) := by decide +kernel
theorem dX1_sumOfMinutes_34 : decode cX1_sumOfMinutes 34 = .ok (.aload_n 0, 1) := by decide +kernel
theorem dX1_sumOfMinutes_35 : decode cX1_sumOfMinutes 35 = .ok (.getfield 9, 3) := by decide +kernel
theorem dX1_sumOfMinutes_38 : decode cX1_sumOfMinutes 38 = .ok (.iload_n 2, 1) := by decide +kernel
theorem dX1_sumOfMinutes_39 : decode cX1_sumOfMinutes 39 = .ok (.iaload, 1) := by decide +kernel
theorem dX1_sumOfMinutes_40 : decode cX1_sumOfMinutes 40 = .ok (.ifCond .eq 13, 3) := by decide +kernel
theorem dX1_sumOfMinutes_43 : decode cX1_sumOfMinutes 43 = .ok (.aload_n 0, 1) := by decide +kernel
theorem dX1_sumOfMinutes_44 : decode cX1_sumOfMinutes 44 = .ok (.getfield 9, 3) := by decide +kernel
theorem dX1_sumOfMinutes_47 : decode cX1_sumOfMinutes 47 = .ok (.iload_n 2, 1) := by decide +kernel
theorem dX1_sumOfMinutes_48 : decode cX1_sumOfMinutes 48 = .ok (.iaload, 1) := by decide +kernel
theorem dX1_sumOfMinutes_49 : decode cX1_sumOfMinutes 49 = .ok (.iconst 1, 1) := by decide +kernel
theorem dX1_sumOfMinutes_50 : decode cX1_sumOfMinutes 50 = .ok (.if_icmp .ne 9, 3) := by decide +kernel
theorem dX1_sumOfMinutes_53 : decode cX1_sumOfMinutes 53 = .ok (.iinc 1 10080, 6) := by decide +kernel
theorem dX1_sumOfMinutes_59 : decode cX1_sumOfMinutes 59 = .ok (.iinc 2 1, 3) := by decide +kernel
theorem dX1_sumOfMinutes_62 : decode cX1_sumOfMinutes 62 = .ok (.goto (-58), 3) := by decide +kernel
theorem dX1_sumOfMinutes_65 : decode cX1_sumOfMinutes 65 = .ok (.iload_n 1, 1) := by decide +kernel
theorem dX1_sumOfMinutes_66 : decode cX1_sumOfMinutes 66 = .ok (.ireturn, 1) := by decide +kernel
theorem bX1_sumOfMinutes_0 {d : Nat} {h0 hE h : ea_H} {rv : Option ea_V} {r0 : Option Nat} (H : ea_W mX1_sumOfMinutes d h0 rv hE 4 [(0, vR r0), (1, vI 0), (2, vI 0)] [] h) : ea_W mX1_sumOfMinutes d h0 rv hE 0 [(0, vR r0)] [] h := by
  refine ea_iconst (pc := 0) dX1_sumOfMinutes_0 (v := 0) rfl ?_
  refine ea_istore_n (pc := 1) (lv' := [(0, vR r0), (1, vI 0)]) dX1_sumOfMinutes_1 rfl (Nat.le_of_ble_eq_true rfl) [1, 0] rfl ?_
  refine ea_iconst (pc := 2) dX1_sumOfMinutes_2 (v := 0) rfl ?_
  refine ea_istore_n (pc := 3) (lv' := [(0, vR r0), (1, vI 0), (2, vI 0)]) dX1_sumOfMinutes_3 rfl (Nat.le_of_ble_eq_true rfl) [1, 2, 0] rfl ?_
  exact H
theorem bX1_sumOfMinutes_4 {d : Nat} {h0 hE h : ea_H} {rv : Option ea_V} {r0 : Option Nat} {x1 : Int32} {x2 : Int32} (H : ∃ a3, r0 = some a3 ∧ a3 < ea_n h ∧ ea_c h a3 = 1 ∧ ((ea_i h a3 0) ≤ x2 → rv = some (vI x1) ∧ hE = h) ∧ (¬ (ea_i h a3 0) ≤ x2 → a3 < ea_n h ∧ ea_c h a3 = 1 ∧ ∃ a9, (ea_r h a3 1) = some a9 ∧ a9 < ea_n h ∧ ea_c h a9 = 20 ∧ vp_in x2 (ea_l h a9) ∧ (¬ (ea_i h a9 (Int32.toNatClampNeg x2)) = (2 : Int32) → a3 < ea_n h ∧ ea_c h a3 = 1 ∧ a9 < ea_n h ∧ ea_c h a9 = 20 ∧ vp_in x2 (ea_l h a9) ∧ ((ea_i h a9 (Int32.toNatClampNeg x2)) = (0 : Int32) → ea_W mX1_sumOfMinutes d h0 rv hE 4 [(0, vR r0), (1, vI (x1 + 10080)), (2, vI (x2 + 1))] [] h) ∧ (¬ (ea_i h a9 (Int32.toNatClampNeg x2)) = (0 : Int32) → a3 < ea_n h ∧ ea_c h a3 = 1 ∧ a9 < ea_n h ∧ ea_c h a9 = 20 ∧ vp_in x2 (ea_l h a9) ∧ (¬ (ea_i h a9 (Int32.toNatClampNeg x2)) = (1 : Int32) → ea_W mX1_sumOfMinutes d h0 rv hE 4 [(0, vR r0), (1, vI x1), (2, vI (x2 + 1))] [] h) ∧ ((ea_i h a9 (Int32.toNatClampNeg x2)) = (1 : Int32) → ea_W mX1_sumOfMinutes d h0 rv hE 4 [(0, vR r0), (1, vI (x1 + 10080)), (2, vI (x2 + 1))] [] h))) ∧ ((ea_i h a9 (Int32.toNatClampNeg x2)) = (2 : Int32) → a3 < ea_n h ∧ ea_c h a3 = 1 ∧ ∃ a28, (ea_r h a3 7) = some a28 ∧ a28 < ea_n h ∧ ea_c h a28 = 20 ∧ vp_in x2 (ea_l h a28) ∧ ea_W mX1_sumOfMinutes d h0 rv hE 4 [(0, vR r0), (1, vI (x1 + (ea_i h a28 (Int32.toNatClampNeg x2)))), (2, vI (x2 + 1))] [] h))) : ea_W mX1_sumOfMinutes d h0 rv hE 4 [(0, vR r0), (1, vI x1), (2, vI x2)] [] h := by
  refine ea_iload_n (pc := 4) dX1_sumOfMinutes_4 rfl 2 rfl ?_
  refine ea_aload_n (pc := 5) dX1_sumOfMinutes_5 rfl 0 rfl ?_
  obtain ⟨a3, e4, f1, g2, H⟩ := H
  refine ea_deref0 e4 ?_
  refine ea_getI (pc := 6) dX1_sumOfMinutes_6 ec_1 (k := 0) (Nat.le_of_ble_eq_true rfl) rfl (Or.inl ew_359) f1 g2 ?_
  refine ea_icmp_ge (pc := 9) (tgt := 65) dX1_sumOfMinutes_9 rfl (fun c32 => ?_) (fun c32 => ?_)
  · have H := H.1 c32
    refine ea_iload_n (pc := 65) dX1_sumOfMinutes_65 rfl 1 rfl ?_
    obtain ⟨rfl, rfl⟩ := H
    exact ea_ireturn (pc := 66) dX1_sumOfMinutes_66 rfl rfl
  · have H := H.2 c32
    refine ea_aload_n (pc := 12) dX1_sumOfMinutes_12 rfl 0 rfl ?_
    obtain ⟨f5, g6, H⟩ := H
    refine ea_deref0 e4 ?_
    refine ea_getR (pc := 13) dX1_sumOfMinutes_13 ec_1 (k := 1) (Nat.le_of_ble_eq_true rfl) rfl (Or.inl ew_361) f5 g6 rfl ?_
    refine ea_iload_n (pc := 16) dX1_sumOfMinutes_16 rfl 2 rfl ?_
    obtain ⟨a9, e10, f7, g8, H⟩ := H
    refine ea_deref1 e10 ?_
    obtain ⟨z11, H⟩ := H
    refine ea_iald (pc := 17) dX1_sumOfMinutes_17 f7 g8 z11 ?_
    refine ea_iconst (pc := 18) dX1_sumOfMinutes_18 (v := 2) rfl ?_
    refine ea_icmp_ne (pc := 19) (tgt := 34) dX1_sumOfMinutes_19 rfl (fun c31 => ?_) (fun c31 => ?_)
    · have H := H.1 c31
      refine ea_aload_n (pc := 34) dX1_sumOfMinutes_34 rfl 0 rfl ?_
      obtain ⟨f12, g13, H⟩ := H
      refine ea_deref0 e4 ?_
      refine ea_getR (pc := 35) dX1_sumOfMinutes_35 ec_1 (k := 1) (Nat.le_of_ble_eq_true rfl) rfl (Or.inl ew_361) f12 g13 rfl ?_
      refine ea_iload_n (pc := 38) dX1_sumOfMinutes_38 rfl 2 rfl ?_
      obtain ⟨f14, g15, H⟩ := H
      refine ea_deref1 e10 ?_
      obtain ⟨z16, H⟩ := H
      refine ea_iald (pc := 39) dX1_sumOfMinutes_39 f14 g15 z16 ?_
      refine ea_if_eq (pc := 40) (tgt := 53) dX1_sumOfMinutes_40 rfl (fun c23 => ?_) (fun c23 => ?_)
      · have H := H.1 c23
        refine ea_iincW (pc := 53) (v := 10080) (lv' := [(0, vR r0), (1, vI (x1 + 10080)), (2, vI x2)]) dX1_sumOfMinutes_53 1 rfl rfl (Nat.le_of_ble_eq_true rfl) [1, 0, 2] rfl ?_
        refine ea_iinc (pc := 59) (v := 1) (lv' := [(0, vR r0), (1, vI (x1 + 10080)), (2, vI (x2 + 1))]) dX1_sumOfMinutes_59 2 rfl rfl (Nat.le_of_ble_eq_true rfl) [1, 2, 0] rfl ?_
        refine ea_goto (pc := 62) (tgt := 4) dX1_sumOfMinutes_62 rfl ?_
        exact H
      · have H := H.2 c23
        refine ea_aload_n (pc := 43) dX1_sumOfMinutes_43 rfl 0 rfl ?_
        obtain ⟨f17, g18, H⟩ := H
        refine ea_deref0 e4 ?_
        refine ea_getR (pc := 44) dX1_sumOfMinutes_44 ec_1 (k := 1) (Nat.le_of_ble_eq_true rfl) rfl (Or.inl ew_361) f17 g18 rfl ?_
        refine ea_iload_n (pc := 47) dX1_sumOfMinutes_47 rfl 2 rfl ?_
        obtain ⟨f19, g20, H⟩ := H
        refine ea_deref1 e10 ?_
        obtain ⟨z21, H⟩ := H
        refine ea_iald (pc := 48) dX1_sumOfMinutes_48 f19 g20 z21 ?_
        refine ea_iconst (pc := 49) dX1_sumOfMinutes_49 (v := 1) rfl ?_
        refine ea_icmp_ne (pc := 50) (tgt := 59) dX1_sumOfMinutes_50 rfl (fun c22 => ?_) (fun c22 => ?_)
        · have H := H.1 c22
          refine ea_iinc (pc := 59) (v := 1) (lv' := [(0, vR r0), (1, vI x1), (2, vI (x2 + 1))]) dX1_sumOfMinutes_59 2 rfl rfl (Nat.le_of_ble_eq_true rfl) [1, 2, 0] rfl ?_
          refine ea_goto (pc := 62) (tgt := 4) dX1_sumOfMinutes_62 rfl ?_
          exact H
        · have H := H.2 c22
          refine ea_iincW (pc := 53) (v := 10080) (lv' := [(0, vR r0), (1, vI (x1 + 10080)), (2, vI x2)]) dX1_sumOfMinutes_53 1 rfl rfl (Nat.le_of_ble_eq_true rfl) [1, 0, 2] rfl ?_
          refine ea_iinc (pc := 59) (v := 1) (lv' := [(0, vR r0), (1, vI (x1 + 10080)), (2, vI (x2 + 1))]) dX1_sumOfMinutes_59 2 rfl rfl (Nat.le_of_ble_eq_true rfl) [1, 2, 0] rfl ?_
          refine ea_goto (pc := 62) (tgt := 4) dX1_sumOfMinutes_62 rfl ?_
          exact H
    · have H := H.2 c31
      refine ea_iload_n (pc := 22) dX1_sumOfMinutes_22 rfl 1 rfl ?_
      refine ea_aload_n (pc := 23) dX1_sumOfMinutes_23 rfl 0 rfl ?_
      obtain ⟨f24, g25, H⟩ := H
      refine ea_deref0 e4 ?_
      refine ea_getR (pc := 24) dX1_sumOfMinutes_24 ec_1 (k := 7) (Nat.le_of_ble_eq_true rfl) rfl (Or.inl ew_373) f24 g25 rfl ?_
      refine ea_iload_n (pc := 27) dX1_sumOfMinutes_27 rfl 2 rfl ?_
      obtain ⟨a28, e29, f26, g27, H⟩ := H
      refine ea_deref1 e29 ?_
      obtain ⟨z30, H⟩ := H
      refine ea_iald (pc := 28) dX1_sumOfMinutes_28 f26 g27 z30 ?_
      refine ea_iadd (pc := 29) dX1_sumOfMinutes_29 ?_
      refine ea_istore_n (pc := 30) (lv' := [(0, vR r0), (1, vI (x1 + (ea_i h a28 (Int32.toNatClampNeg x2)))), (2, vI x2)]) dX1_sumOfMinutes_30 rfl (Nat.le_of_ble_eq_true rfl) [1, 0, 2] rfl ?_
      refine ea_goto (pc := 31) (tgt := 59) dX1_sumOfMinutes_31 rfl ?_
      refine ea_iinc (pc := 59) (v := 1) (lv' := [(0, vR r0), (1, vI (x1 + (ea_i h a28 (Int32.toNatClampNeg x2)))), (2, vI (x2 + 1))]) dX1_sumOfMinutes_59 2 rfl rfl (Nat.le_of_ble_eq_true rfl) [1, 2, 0] rfl ?_
      refine ea_goto (pc := 62) (tgt := 4) dX1_sumOfMinutes_62 rfl ?_
      exact H
theorem dX1_carry_0 : decode cX1_carry 0 = .ok (.aload_n 0, 1) := by decide +kernel
theorem dX1_carry_1 : decode cX1_carry 1 = .ok (.getfield 44, 3) := by decide +kernel
theorem dX1_carry_4 : decode cX1_carry 4 = .ok (.invokevirtual 83, 3) := by decide +kernel
theorem dX1_carry_7 : decode cX1_carry 7 = .ok (.iload_n 1, 1) := by decide +kernel
theorem dX1_carry_8 : decode cX1_carry 8 = .ok (.sipush 1440, 3) := by decide +kernel
theorem dX1_carry_11 : decode cX1_carry 11 = .ok (.idiv, 1) := by decide +kernel
theorem dX1_carry_12 : decode cX1_carry 12 = .ok (.iconst 1, 1) := by decide +kernel
theorem dX1_carry_13 : decode cX1_carry 13 = .ok (.iadd, 1) := by decide +kernel
theorem dX1_carry_14 : decode cX1_carry 14 = .ok (.istore_n 3, 1) := by decide +kernel
theorem dX1_carry_15 : decode cX1_carry 15 = .ok (.aload_n 0, 1) := by decide +kernel
theorem dX1_carry_16 : decode cX1_carry 16 = .ok (.getfield 44, 3) := by decide +kernel
theorem dX1_carry_19 : decode cX1_carry 19 = .ok (.iload_n 1, 1) := by decide +kernel
theorem dX1_carry_20 : decode cX1_carry 20 = .ok (.invokevirtual 88, 3) := by decide +kernel
theorem dX1_carry_23 : decode cX1_carry 23 = .ok (.istore 4, 2) := by decide +kernel
theorem dX1_carry_25 : decode cX1_carry 25 = .ok (.iload 4, 2) := by decide +kernel
theorem dX1_carry_27 : decode cX1_carry 27 = .ok (.aload_n 0, 1) := by decide +kernel
theorem dX1_carry_28 : decode cX1_carry 28 = .ok (.getfield 44, 3) := by decide +kernel
theorem dX1_carry_31 : decode cX1_carry 31 = .ok (.getfield 92, 3) := by decide +kernel
theorem dX1_carry_34 : decode cX1_carry 34 = .ok (.if_icmp .ge 91, 3) := by decide +kernel
theorem dX1_carry_37 : decode cX1_carry 37 = .ok (.aload_n 0, 1) := by decide +kernel
theorem dX1_carry_38 : decode cX1_carry 38 = .ok (.getfield 64, 3) := by decide +kernel
theorem dX1_carry_41 : decode cX1_carry 41 = .ok (.ifCond .le 84, 3) := by decide +kernel
theorem dX1_carry_44 : decode cX1_carry 44 = .ok (.aload_n 0, 1) := by decide +kernel
theorem dX1_carry_45 : decode cX1_carry 45 = .ok (.getfield 44, 3) := by decide +kernel
theorem dX1_carry_48 : decode cX1_carry 48 = .ok (.iload 4, 2) := by decide +kernel
theorem dX1_carry_50 : decode cX1_carry 50 = .ok (.invokevirtual 93, 3) := by decide +kernel
theorem dX1_carry_53 : decode cX1_carry 53 = .ok (.istore 5, 2) := by decide +kernel
theorem dX1_carry_55 : decode cX1_carry 55 = .ok (.iload 5, 2) := by decide +kernel
theorem dX1_carry_57 : decode cX1_carry 57 = .ok (.invokestatic 96, 3) := by decide +kernel
theorem dX1_carry_60 : decode cX1_carry 60 = .ok (.istore 6, 2) := by decide +kernel
theorem dX1_carry_62 : decode cX1_carry 62 = .ok (.iload 6, 2) := by decide +kernel
theorem dX1_carry_64 : decode cX1_carry 64 = .ok (.iload_n 2, 1) := by decide +kernel
theorem dX1_carry_65 : decode cX1_carry 65 = .ok (.if_icmp .le 6, 3) := by decide +kernel
theorem dX1_carry_68 : decode cX1_carry 68 = .ok (.goto 57, 3) := by decide +kernel
theorem dX1_carry_71 : decode cX1_carry 71 = .ok (.iload_n 3, 1) := by decide +kernel
theorem dX1_carry_72 : decode cX1_carry 72 = .ok (.sipush 1440, 3) := by decide +kernel
theorem dX1_carry_75 : decode cX1_carry 75 = .ok (.imul, 1) := by decide +kernel
theorem dX1_carry_76 : decode cX1_carry 76 = .ok (.iload 6, 2) := by decide +kernel
theorem dX1_carry_78 : decode cX1_carry 78 = .ok (.if_icmp .gt 14, 3) := by decide +kernel
theorem dX1_carry_81 : decode cX1_carry 81 = .ok (.aload_n 0, 1) := by decide +kernel
theorem dX1_carry_82 : decode cX1_carry 82 = .ok (.iload_n 3, 1) := by decide +kernel
theorem dX1_carry_83 : decode cX1_carry 83 = .ok (.invokevirtual 99, 3) := by decide +kernel
theorem dX1_carry_86 : decode cX1_carry 86 = .ok (.iinc 3 1, 3) := by decide +kernel
theorem dX1_carry_89 : decode cX1_carry 89 = .ok (.goto (-18), 3) := by decide +kernel
theorem dX1_carry_92 : decode cX1_carry 92 = .ok (.iload 5, 2) := by decide +kernel
theorem dX1_carry_94 : decode cX1_carry 94 = .ok (.invokestatic 103, 3) := by decide +kernel
theorem dX1_carry_97 : decode cX1_carry 97 = .ok (.ifCond .eq 14, 3) := by decide +kernel
theorem dX1_carry_100 : decode cX1_carry 100 = .ok (.aload_n 0, 1) := by decide +kernel
theorem dX1_carry_101 : decode cX1_carry 101 = .ok (.iload 5, 2) := by decide +kernel
theorem dX1_carry_103 : decode cX1_carry 103 = .ok (.iload 6, 2) := by decide +kernel
theorem dX1_carry_105 : decode cX1_carry 105 = .ok (.invokevirtual 107, 3) := by decide +kernel
theorem dX1_carry_108 : decode cX1_carry 108 = .ok (.goto 11, 3) := by decide +kernel
theorem dX1_carry_111 : decode cX1_carry 111 = .ok (.aload_n 0, 1) := by decide +kernel
theorem dX1_carry_112 : decode cX1_carry 112 = .ok (.iload 5, 2) := by decide +kernel
theorem dX1_carry_114 : decode cX1_carry 114 = .ok (.iload 6, 2) := by decide +kernel
theorem dX1_carry_116 : decode cX1_carry 116 = .ok (.invokevirtual 111, 3) := by decide +kernel
theorem dX1_carry_119 : decode cX1_carry 119 = .ok (.iinc 4 1, 3) := by decide +kernel
theorem dX1_carry_122 : decode cX1_carry 122 = .ok (.goto (-97), 3) := by decide +kernel
theorem dX1_carry_125 : decode cX1_carry 125 = .ok (.iload_n 3, 1) := by decide +kernel
theorem dX1_carry_126 : decode cX1_carry 126 = .ok (.sipush 1440, 3) := by decide +kernel
theorem dX1_carry_129 : decode cX1_carry 129 = .ok (.imul, 1) := by decide +kernel
theorem dX1_carry_130 : decode cX1_carry 130 = .ok (.iload_n 2, 1) := by decide +kernel
theorem dX1_carry_131 : decode cX1_carry 131 = .ok (.if_icmp .gt 14, 3) := by decide +kernel
theorem dX1_carry_134 : decode cX1_carry 134 = .ok (.aload_n 0, 1) := by decide +kernel
theorem dX1_carry_135 : decode cX1_carry 135 = .ok (.iload_n 3, 1) := by decide +kernel
theorem dX1_carry_136 : decode cX1_carry 136 = .ok (.invokevirtual 99, 3) := by decide +kernel
theorem dX1_carry_139 : decode cX1_carry 139 = .ok (.iinc 3 1, 3) := by decide +kernel
theorem dX1_carry_142 : decode cX1_carry 142 = .ok (.goto (-17), 3) := by decide +kernel
theorem dX1_carry_145 : decode cX1_carry 145 = .ok (.return_, 1) := by decide +kernel
theorem bX1_carry_0 {d : Nat} {h0 hE h : ea_H} {rv : Option ea_V} {r0 : Option Nat} {x1 : Int32} {x2 : Int32} (H : ∃ a3, r0 = some a3 ∧ a3 < ea_n h ∧ ea_c h a3 = 1 ∧ ∃ a11, (ea_r h a3 12) = some a11 ∧ a11 < ea_n h ∧ ea_c h a11 = 10 ∧ ∃ (d5 : Nat) (h6 : ea_H), ea_Met mX10_refresh d5 [vR (some a11)] h none h6 ∧ d5 + 1 ≤ d ∧ a3 < ea_n h6 ∧ ea_c h6 a3 = 1 ∧ ∃ a21, (ea_r h6 a3 12) = some a21 ∧ a21 < ea_n h6 ∧ ea_c h6 a21 = 10 ∧ ∃ (d15 : Nat) (xc23 : Int32) (h16 : ea_H), ea_Met mX10_firstBehind d15 [vR (some a21), vI x1] h6 (some (vI xc23)) h16 ∧ d15 + 1 ≤ d ∧ ea_W mX1_carry d h0 rv hE 25 [(0, vR r0), (2, vI x2), (3, vI ((x1 / (1440 : Int32)) + (1 : Int32))), (4, vI xc23)] [] h16) : ea_W mX1_carry d h0 rv hE 0 [(0, vR r0), (1, vI x1), (2, vI x2)] [] h := by
  refine ea_aload_n (pc := 0) dX1_carry_0 rfl 0 rfl ?_
  obtain ⟨a3, e4, f1, g2, H⟩ := H
  refine ea_deref0 e4 ?_
  refine ea_getR (pc := 1) dX1_carry_1 ec_1 (k := 12) (Nat.le_of_ble_eq_true rfl) rfl (Or.inl ew_378) f1 g2 rfl ?_
  obtain ⟨a11, e12, f9, g10, H⟩ := H
  refine ea_deref0 e12 ?_
  obtain ⟨d5, h6, m7, q8, H⟩ := H
  refine ea_callV (pc := 4) (As := []) (st := []) dX1_carry_4 kX10_refresh m7 q8 rfl (Nat.le_of_ble_eq_true rfl) ew_563 ew_564 ew_565 (ci := 10) rfl (by decide) f9 g10 ?_
  refine ea_iload_n (pc := 7) dX1_carry_7 rfl 1 rfl ?_
  refine ea_sipush (pc := 8) dX1_carry_8 (v := 1440) rfl ?_
  refine ea_idiv (pc := 11) dX1_carry_11 (by decide) ?_
  refine ea_iconst (pc := 12) dX1_carry_12 (v := 1) rfl ?_
  refine ea_iadd (pc := 13) dX1_carry_13 ?_
  refine ea_istore_n (pc := 14) (lv' := [(0, vR r0), (1, vI x1), (2, vI x2), (3, vI ((x1 / (1440 : Int32)) + (1 : Int32)))]) dX1_carry_14 rfl (Nat.le_of_ble_eq_true rfl) [1, 2, 3, 0] rfl ?_
  refine ea_aload_n (pc := 15) dX1_carry_15 rfl 0 rfl ?_
  obtain ⟨f13, g14, H⟩ := H
  refine ea_deref0 e4 ?_
  refine ea_getR (pc := 16) dX1_carry_16 ec_1 (k := 12) (Nat.le_of_ble_eq_true rfl) rfl (Or.inl ew_378) f13 g14 rfl ?_
  refine ea_iload_n (pc := 19) dX1_carry_19 rfl 1 rfl ?_
  obtain ⟨a21, e22, f19, g20, H⟩ := H
  refine ea_deref1 e22 ?_
  obtain ⟨d15, xc23, h16, m17, q18, H⟩ := H
  refine ea_callV (pc := 20) (As := [vI x1]) (st := []) dX1_carry_20 kX10_firstBehind m17 q18 rfl (Nat.le_of_ble_eq_true rfl) ew_631 ew_632 ew_633 (ci := 10) rfl (by decide) f19 g20 ?_
  refine ea_istore (pc := 23) (lv' := [(0, vR r0), (2, vI x2), (3, vI ((x1 / (1440 : Int32)) + (1 : Int32))), (4, vI xc23)]) dX1_carry_23 (Nat.le_of_ble_eq_true rfl) [1, 3, 4, 0] rfl ?_
  exact H
theorem bX1_carry_25 {d : Nat} {h0 hE h : ea_H} {rv : Option ea_V} {r0 : Option Nat} {x2 : Int32} {x3 : Int32} {x4 : Int32} (H : ∃ a3, r0 = some a3 ∧ a3 < ea_n h ∧ ea_c h a3 = 1 ∧ ∃ a7, (ea_r h a3 12) = some a7 ∧ a7 < ea_n h ∧ ea_c h a7 = 10 ∧ ((ea_i h a7 1) ≤ x4 → ea_W mX1_carry d h0 rv hE 125 [(0, vR r0), (2, vI x2), (3, vI x3)] [] h) ∧ (¬ (ea_i h a7 1) ≤ x4 → a3 < ea_n h ∧ ea_c h a3 = 1 ∧ ((ea_i h a3 10) ≤ (0 : Int32) → ea_W mX1_carry d h0 rv hE 125 [(0, vR r0), (2, vI x2), (3, vI x3)] [] h) ∧ (¬ (ea_i h a3 10) ≤ (0 : Int32) → a3 < ea_n h ∧ ea_c h a3 = 1 ∧ a7 < ea_n h ∧ ea_c h a7 = 10 ∧ ∃ (d13 : Nat) (xc19 : Int32) (h14 : ea_H), ea_Met mX10_keyAt d13 [vR (some a7), vI x4] h (some (vI xc19)) h14 ∧ d13 + 1 ≤ d ∧ ∃ (d20 : Nat) (xc24 : Int32) (h21 : ea_H), ea_Met mX10_minuteIn d20 [vI xc19] h14 (some (vI xc24)) h21 ∧ d20 + 1 ≤ d ∧ (xc24 ≤ x2 → ea_W mX1_carry d h0 rv hE 71 [(0, vR r0), (2, vI x2), (3, vI x3), (4, vI x4), (5, vI xc19), (6, vI xc24)] [] h21) ∧ (¬ xc24 ≤ x2 → ea_W mX1_carry d h0 rv hE 125 [(0, vR r0), (2, vI x2), (3, vI x3)] [] h21)))) : ea_W mX1_carry d h0 rv hE 25 [(0, vR r0), (2, vI x2), (3, vI x3), (4, vI x4)] [] h := by
  refine ea_iload (pc := 25) dX1_carry_25 3 rfl ?_
  refine ea_aload_n (pc := 27) dX1_carry_27 rfl 0 rfl ?_
  obtain ⟨a3, e4, f1, g2, H⟩ := H
  refine ea_deref0 e4 ?_
  refine ea_getR (pc := 28) dX1_carry_28 ec_1 (k := 12) (Nat.le_of_ble_eq_true rfl) rfl (Or.inl ew_378) f1 g2 rfl ?_
  obtain ⟨a7, e8, f5, g6, H⟩ := H
  refine ea_deref0 e8 ?_
  refine ea_getI (pc := 31) dX1_carry_31 ec_10 (k := 1) (Nat.le_of_ble_eq_true rfl) rfl (Or.inl ew_228) f5 g6 ?_
  refine ea_icmp_ge (pc := 34) (tgt := 125) dX1_carry_34 rfl (fun c27 => ?_) (fun c27 => ?_)
  · have H := H.1 c27
    exact ea_fewer [0, 1, 2] rfl H
  · have H := H.2 c27
    refine ea_aload_n (pc := 37) dX1_carry_37 rfl 0 rfl ?_
    obtain ⟨f9, g10, H⟩ := H
    refine ea_deref0 e4 ?_
    refine ea_getI (pc := 38) dX1_carry_38 ec_1 (k := 10) (Nat.le_of_ble_eq_true rfl) rfl (Or.inl ew_376) f9 g10 ?_
    refine ea_if_le (pc := 41) (tgt := 125) dX1_carry_41 rfl (fun c26 => ?_) (fun c26 => ?_)
    · have H := H.1 c26
      exact ea_fewer [0, 1, 2] rfl H
    · have H := H.2 c26
      refine ea_aload_n (pc := 44) dX1_carry_44 rfl 0 rfl ?_
      obtain ⟨f11, g12, H⟩ := H
      refine ea_deref0 e4 ?_
      refine ea_getR (pc := 45) dX1_carry_45 ec_1 (k := 12) (Nat.le_of_ble_eq_true rfl) rfl (Or.inl ew_378) f11 g12 rfl ?_
      refine ea_iload (pc := 48) dX1_carry_48 3 rfl ?_
      obtain ⟨f17, g18, H⟩ := H
      refine ea_deref1 e8 ?_
      obtain ⟨d13, xc19, h14, m15, q16, H⟩ := H
      refine ea_callV (pc := 50) (As := [vI x4]) (st := []) dX1_carry_50 kX10_keyAt m15 q16 rfl (Nat.le_of_ble_eq_true rfl) ew_639 ew_636 ew_637 (ci := 10) rfl (by decide) f17 g18 ?_
      refine ea_istore (pc := 53) (lv' := [(0, vR r0), (2, vI x2), (3, vI x3), (4, vI x4), (5, vI xc19)]) dX1_carry_53 (Nat.le_of_ble_eq_true rfl) [1, 2, 3, 4, 0] rfl ?_
      refine ea_iload (pc := 55) dX1_carry_55 4 rfl ?_
      obtain ⟨d20, xc24, h21, m22, q23, H⟩ := H
      refine ea_callS (pc := 57) (As := [vI xc19]) (st := []) dX1_carry_57 kX10_minuteIn m22 q23 rfl (Nat.le_of_ble_eq_true rfl) ew_640 ew_603 ?_
      refine ea_istore (pc := 60) (lv' := [(0, vR r0), (2, vI x2), (3, vI x3), (4, vI x4), (5, vI xc19), (6, vI xc24)]) dX1_carry_60 (Nat.le_of_ble_eq_true rfl) [1, 2, 3, 4, 5, 0] rfl ?_
      refine ea_iload (pc := 62) dX1_carry_62 5 rfl ?_
      refine ea_iload_n (pc := 64) dX1_carry_64 rfl 1 rfl ?_
      refine ea_icmp_le (pc := 65) (tgt := 71) dX1_carry_65 rfl (fun c25 => ?_) (fun c25 => ?_)
      · have H := H.1 c25
        exact H
      · have H := H.2 c25
        refine ea_goto (pc := 68) (tgt := 125) dX1_carry_68 rfl ?_
        exact ea_fewer [0, 1, 2] rfl H
theorem bX1_carry_71 {d : Nat} {h0 hE h : ea_H} {rv : Option ea_V} {r0 : Option Nat} {x2 : Int32} {x3 : Int32} {x4 : Int32} {x5 : Int32} {x6 : Int32} (H : (x6 < (x3 * (1440 : Int32)) → ∃ (d1 : Nat) (xc5 : Int32) (h2 : ea_H), ea_Met mX10_isGoing d1 [vI x5] h (some (vI xc5)) h2 ∧ d1 + 1 ≤ d ∧ (xc5 = (0 : Int32) → ∃ a12, r0 = some a12 ∧ a12 < ea_n h2 ∧ ea_c h2 a12 = 1 ∧ ∃ (d6 : Nat) (h7 : ea_H), ea_Met mX1_comes d6 [vR (some a12), vI x5, vI x6] h2 none h7 ∧ d6 + 1 ≤ d ∧ ea_W mX1_carry d h0 rv hE 25 [(0, vR r0), (2, vI x2), (3, vI x3), (4, vI (x4 + 1))] [] h7) ∧ (¬ xc5 = (0 : Int32) → ∃ a20, r0 = some a20 ∧ a20 < ea_n h2 ∧ ea_c h2 a20 = 1 ∧ ∃ (d14 : Nat) (h15 : ea_H), ea_Met mX1_goes d14 [vR (some a20), vI x5, vI x6] h2 none h15 ∧ d14 + 1 ≤ d ∧ ea_W mX1_carry d h0 rv hE 25 [(0, vR r0), (2, vI x2), (3, vI x3), (4, vI (x4 + 1))] [] h15)) ∧ (¬ x6 < (x3 * (1440 : Int32)) → ∃ a29, r0 = some a29 ∧ a29 < ea_n h ∧ ea_c h a29 = 1 ∧ ∃ (d23 : Nat) (h24 : ea_H), ea_Met mX1_burn d23 [vR (some a29), vI x3] h none h24 ∧ d23 + 1 ≤ d ∧ ea_W mX1_carry d h0 rv hE 71 [(0, vR r0), (2, vI x2), (3, vI (x3 + 1)), (4, vI x4), (5, vI x5), (6, vI x6)] [] h24)) : ea_W mX1_carry d h0 rv hE 71 [(0, vR r0), (2, vI x2), (3, vI x3), (4, vI x4), (5, vI x5), (6, vI x6)] [] h := by
  refine ea_iload_n (pc := 71) dX1_carry_71 rfl 2 rfl ?_
  refine ea_sipush (pc := 72) dX1_carry_72 (v := 1440) rfl ?_
  refine ea_imul (pc := 75) dX1_carry_75 ?_
  refine ea_iload (pc := 76) dX1_carry_76 5 rfl ?_
  refine ea_icmp_gt (pc := 78) (tgt := 92) dX1_carry_78 rfl (fun c31 => ?_) (fun c31 => ?_)
  · have H := H.1 c31
    refine ea_iload (pc := 92) dX1_carry_92 4 rfl ?_
    obtain ⟨d1, xc5, h2, m3, q4, H⟩ := H
    refine ea_callS (pc := 94) (As := [vI x5]) (st := []) dX1_carry_94 kX10_isGoing m3 q4 rfl (Nat.le_of_ble_eq_true rfl) ew_665 ew_590 ?_
    refine ea_if_eq (pc := 97) (tgt := 111) dX1_carry_97 rfl (fun c22 => ?_) (fun c22 => ?_)
    · have H := H.1 c22
      refine ea_aload_n (pc := 111) dX1_carry_111 rfl 0 rfl ?_
      refine ea_iload (pc := 112) dX1_carry_112 4 rfl ?_
      refine ea_iload (pc := 114) dX1_carry_114 5 rfl ?_
      obtain ⟨a12, e13, f10, g11, H⟩ := H
      refine ea_deref2 e13 ?_
      obtain ⟨d6, h7, m8, q9, H⟩ := H
      refine ea_callV (pc := 116) (As := [vI x5, vI x6]) (st := []) dX1_carry_116 kX1_comes m8 q9 rfl (Nat.le_of_ble_eq_true rfl) ew_712 ew_714 ew_14 (ci := 1) rfl (by decide) f10 g11 ?_
      refine ea_iinc (pc := 119) (v := 1) (lv' := [(0, vR r0), (2, vI x2), (3, vI x3), (4, vI (x4 + 1))]) dX1_carry_119 3 rfl rfl (Nat.le_of_ble_eq_true rfl) [1, 2, 3, 0] rfl ?_
      refine ea_goto (pc := 122) (tgt := 25) dX1_carry_122 rfl ?_
      exact H
    · have H := H.2 c22
      refine ea_aload_n (pc := 100) dX1_carry_100 rfl 0 rfl ?_
      refine ea_iload (pc := 101) dX1_carry_101 4 rfl ?_
      refine ea_iload (pc := 103) dX1_carry_103 5 rfl ?_
      obtain ⟨a20, e21, f18, g19, H⟩ := H
      refine ea_deref2 e21 ?_
      obtain ⟨d14, h15, m16, q17, H⟩ := H
      refine ea_callV (pc := 105) (As := [vI x5, vI x6]) (st := []) dX1_carry_105 kX1_goes m16 q17 rfl (Nat.le_of_ble_eq_true rfl) ew_666 ew_668 ew_12 (ci := 1) rfl (by decide) f18 g19 ?_
      refine ea_goto (pc := 108) (tgt := 119) dX1_carry_108 rfl ?_
      refine ea_iinc (pc := 119) (v := 1) (lv' := [(0, vR r0), (2, vI x2), (3, vI x3), (4, vI (x4 + 1))]) dX1_carry_119 3 rfl rfl (Nat.le_of_ble_eq_true rfl) [1, 2, 3, 0] rfl ?_
      refine ea_goto (pc := 122) (tgt := 25) dX1_carry_122 rfl ?_
      exact H
  · have H := H.2 c31
    refine ea_aload_n (pc := 81) dX1_carry_81 rfl 0 rfl ?_
    refine ea_iload_n (pc := 82) dX1_carry_82 rfl 2 rfl ?_
    obtain ⟨a29, e30, f27, g28, H⟩ := H
    refine ea_deref1 e30 ?_
    obtain ⟨d23, h24, m25, q26, H⟩ := H
    refine ea_callV (pc := 83) (As := [vI x3]) (st := []) dX1_carry_83 kX1_burn m25 q26 rfl (Nat.le_of_ble_eq_true rfl) ew_641 ew_643 ew_11 (ci := 1) rfl (by decide) f27 g28 ?_
    refine ea_iinc (pc := 86) (v := 1) (lv' := [(0, vR r0), (2, vI x2), (3, vI (x3 + 1)), (4, vI x4), (5, vI x5), (6, vI x6)]) dX1_carry_86 2 rfl rfl (Nat.le_of_ble_eq_true rfl) [1, 2, 0, 3, 4, 5] rfl ?_
    refine ea_goto (pc := 89) (tgt := 71) dX1_carry_89 rfl ?_
    exact H
theorem bX1_carry_125 {d : Nat} {h0 hE h : ea_H} {rv : Option ea_V} {r0 : Option Nat} {x2 : Int32} {x3 : Int32} (H : (x2 < (x3 * (1440 : Int32)) → rv = none ∧ hE = h) ∧ (¬ x2 < (x3 * (1440 : Int32)) → ∃ a7, r0 = some a7 ∧ a7 < ea_n h ∧ ea_c h a7 = 1 ∧ ∃ (d1 : Nat) (h2 : ea_H), ea_Met mX1_burn d1 [vR (some a7), vI x3] h none h2 ∧ d1 + 1 ≤ d ∧ ea_W mX1_carry d h0 rv hE 125 [(0, vR r0), (2, vI x2), (3, vI (x3 + 1))] [] h2)) : ea_W mX1_carry d h0 rv hE 125 [(0, vR r0), (2, vI x2), (3, vI x3)] [] h := by
  refine ea_iload_n (pc := 125) dX1_carry_125 rfl 2 rfl ?_
  refine ea_sipush (pc := 126) dX1_carry_126 (v := 1440) rfl ?_
  refine ea_imul (pc := 129) dX1_carry_129 ?_
  refine ea_iload_n (pc := 130) dX1_carry_130 rfl 1 rfl ?_
  refine ea_icmp_gt (pc := 131) (tgt := 145) dX1_carry_131 rfl (fun c9 => ?_) (fun c9 => ?_)
  · have H := H.1 c9
    obtain ⟨rfl, rfl⟩ := H
    exact ea_return (pc := 145) dX1_carry_145 rfl
  · have H := H.2 c9
    refine ea_aload_n (pc := 134) dX1_carry_134 rfl 0 rfl ?_
    refine ea_iload_n (pc := 135) dX1_carry_135 rfl 2 rfl ?_
    obtain ⟨a7, e8, f5, g6, H⟩ := H
    refine ea_deref1 e8 ?_
    obtain ⟨d1, h2, m3, q4, H⟩ := H
    refine ea_callV (pc := 136) (As := [vI x3]) (st := []) dX1_carry_136 kX1_burn m3 q4 rfl (Nat.le_of_ble_eq_true rfl) ew_641 ew_643 ew_11 (ci := 1) rfl (by decide) f5 g6 ?_
    refine ea_iinc (pc := 139) (v := 1) (lv' := [(0, vR r0), (2, vI x2), (3, vI (x3 + 1))]) dX1_carry_139 2 rfl rfl (Nat.le_of_ble_eq_true rfl) [1, 2, 0] rfl ?_
    refine ea_goto (pc := 142) (tgt := 125) dX1_carry_142 rfl ?_
    exact H
theorem dX1_burn_0 : decode cX1_burn 0 = .ok (.iconst 0, 1) := by decide +kernel
theorem dX1_burn_1 : decode cX1_burn 1 = .ok (.istore_n 2, 1) := by decide +kernel
theorem dX1_burn_2 : decode cX1_burn 2 = .ok (.iload_n 2, 1) := by decide +kernel
theorem dX1_burn_3 : decode cX1_burn 3 = .ok (.aload_n 0, 1) := by decide +kernel
theorem dX1_burn_4 : decode cX1_burn 4 = .ok (.getfield 60, 3) := by decide +kernel
theorem dX1_burn_7 : decode cX1_burn 7 = .ok (.if_icmp .ge 61, 3) := by decide +kernel
theorem dX1_burn_10 : decode cX1_burn 10 = .ok (.aload_n 0, 1) := by decide +kernel
theorem dX1_burn_11 : decode cX1_burn 11 = .ok (.getfield 9, 3) := by decide +kernel
theorem dX1_burn_14 : decode cX1_burn 14 = .ok (.iload_n 2, 1) := by decide +kernel
theorem dX1_burn_15 : decode cX1_burn 15 = .ok (.iaload, 1) := by decide +kernel
theorem dX1_burn_16 : decode cX1_burn 16 = .ok (.iconst 3, 1) := by decide +kernel
theorem dX1_burn_17 : decode cX1_burn 17 = .ok (.if_icmp .ne 45, 3) := by decide +kernel
theorem dX1_burn_20 : decode cX1_burn 20 = .ok (.iload_n 1, 1) := by decide +kernel
theorem dX1_burn_21 : decode cX1_burn 21 = .ok (.aload_n 0, 1) := by decide +kernel
theorem dX1_burn_22 : decode cX1_burn 22 = .ok (.getfield 31, 3) := by decide +kernel
theorem dX1_burn_25 : decode cX1_burn 25 = .ok (.iload_n 2, 1) := by decide +kernel
theorem dX1_burn_26 : decode cX1_burn 26 = .ok (.iaload, 1) := by decide +kernel
theorem dX1_burn_27 : decode cX1_burn 27 = .ok (.sipush 1440, 3) := by decide +kernel
theorem dX1_burn_30 : decode cX1_burn 30 = .ok (.idiv, 1) := by decide +kernel
theorem dX1_burn_31 : decode cX1_burn 31 = .ok (.isub, 1) := by decide +kernel
theorem dX1_burn_32 : decode cX1_burn 32 = .ok (.aload_n 0, 1) := by decide +kernel
theorem dX1_burn_33 : decode cX1_burn 33 = .ok (.getfield 52, 3) := by decide +kernel
theorem dX1_burn_36 : decode cX1_burn 36 = .ok (.iload_n 2, 1) := by decide +kernel
theorem dX1_burn_37 : decode cX1_burn 37 = .ok (.aaload, 1) := by decide +kernel
theorem dX1_burn_38 : decode cX1_burn 38 = .ok (.getfield 114, 3) := by decide +kernel
theorem dX1_burn_41 : decode cX1_burn 41 = .ok (.if_icmp .lt 21, 3) := by decide +kernel
theorem dX1_burn_44 : decode cX1_burn 44 = .ok (.aload_n 0, 1) := by decide +kernel
theorem dX1_burn_45 : decode cX1_burn 45 = .ok (.iload_n 2, 1) := by decide +kernel
theorem dX1_burn_46 : decode cX1_burn 46 = .ok (.iload_n 1, 1) := by decide +kernel
theorem dX1_burn_47 : decode cX1_burn 47 = .ok (.sipush 1440, 3) := by decide +kernel
theorem dX1_burn_50 : decode cX1_burn 50 = .ok (.imul, 1) := by decide +kernel
theorem dX1_burn_51 : decode cX1_burn 51 = .ok (.bipush 6, 2) := by decide +kernel
theorem dX1_burn_53 : decode cX1_burn 53 = .ok (.aload_n 0, 1) := by decide +kernel
theorem dX1_burn_54 : decode cX1_burn 54 = .ok (.getfield 15, 3) := by decide +kernel
theorem dX1_burn_57 : decode cX1_burn 57 = .ok (.iload_n 2, 1) := by decide +kernel
theorem dX1_burn_58 : decode cX1_burn 58 = .ok (.iaload, 1) := by decide +kernel
theorem dX1_burn_59 : decode cX1_burn 59 = .ok (.invokevirtual 117, 3) := by decide +kernel
theorem dX1_burn_62 : decode cX1_burn 62 = .ok (.iinc 2 1, 3) := by decide +kernel
theorem dX1_burn_65 : decode cX1_burn 65 = .ok (.goto (-63), 3) := by decide +kernel
theorem dX1_burn_68 : decode cX1_burn 68 = .ok (.return_, 1) := by decide +kernel
theorem bX1_burn_0 {d : Nat} {h0 hE h : ea_H} {rv : Option ea_V} {r0 : Option Nat} {x1 : Int32} (H : ea_W mX1_burn d h0 rv hE 2 [(0, vR r0), (1, vI x1), (2, vI 0)] [] h) : ea_W mX1_burn d h0 rv hE 0 [(0, vR r0), (1, vI x1)] [] h := by
  refine ea_iconst (pc := 0) dX1_burn_0 (v := 0) rfl ?_
  refine ea_istore_n (pc := 1) (lv' := [(0, vR r0), (1, vI x1), (2, vI 0)]) dX1_burn_1 rfl (Nat.le_of_ble_eq_true rfl) [1, 2, 0] rfl ?_
  exact H
theorem bX1_burn_2 {d : Nat} {h0 hE h : ea_H} {rv : Option ea_V} {r0 : Option Nat} {x1 : Int32} {x2 : Int32} (H : ∃ a3, r0 = some a3 ∧ a3 < ea_n h ∧ ea_c h a3 = 1 ∧ ((ea_i h a3 0) ≤ x2 → rv = none ∧ hE = h) ∧ (¬ (ea_i h a3 0) ≤ x2 → a3 < ea_n h ∧ ea_c h a3 = 1 ∧ ∃ a9, (ea_r h a3 1) = some a9 ∧ a9 < ea_n h ∧ ea_c h a9 = 20 ∧ vp_in x2 (ea_l h a9) ∧ (¬ (ea_i h a9 (Int32.toNatClampNeg x2)) = (3 : Int32) → ea_W mX1_burn d h0 rv hE 2 [(0, vR r0), (1, vI x1), (2, vI (x2 + 1))] [] h) ∧ ((ea_i h a9 (Int32.toNatClampNeg x2)) = (3 : Int32) → a3 < ea_n h ∧ ea_c h a3 = 1 ∧ ∃ a16, (ea_r h a3 7) = some a16 ∧ a16 < ea_n h ∧ ea_c h a16 = 20 ∧ vp_in x2 (ea_l h a16) ∧ a3 < ea_n h ∧ ea_c h a3 = 1 ∧ ∃ a23, (ea_r h a3 14) = some a23 ∧ a23 < ea_n h ∧ ea_c h a23 = 23 ∧ vp_in x2 (ea_l h a23) ∧ ∃ a28, (ea_r h a23 (Int32.toNatClampNeg x2)) = some a28 ∧ a28 < ea_n h ∧ ea_c h a28 = 4 ∧ ((x1 - ((ea_i h a16 (Int32.toNatClampNeg x2)) / (1440 : Int32))) < (ea_i h a28 14) → ea_W mX1_burn d h0 rv hE 2 [(0, vR r0), (1, vI x1), (2, vI (x2 + 1))] [] h) ∧ (¬ (x1 - ((ea_i h a16 (Int32.toNatClampNeg x2)) / (1440 : Int32))) < (ea_i h a28 14) → a3 < ea_n h ∧ ea_c h a3 = 1 ∧ ∃ a34, (ea_r h a3 2) = some a34 ∧ a34 < ea_n h ∧ ea_c h a34 = 20 ∧ vp_in x2 (ea_l h a34) ∧ a3 < ea_n h ∧ ea_c h a3 = 1 ∧ ∃ (d37 : Nat) (h38 : ea_H), ea_Met mX1_move d37 [vR (some a3), vI x2, vI (x1 * (1440 : Int32)), vI 6, vI (ea_i h a34 (Int32.toNatClampNeg x2))] h none h38 ∧ d37 + 1 ≤ d ∧ ea_W mX1_burn d h0 rv hE 2 [(0, vR r0), (1, vI x1), (2, vI (x2 + 1))] [] h38)))) : ea_W mX1_burn d h0 rv hE 2 [(0, vR r0), (1, vI x1), (2, vI x2)] [] h := by
  refine ea_iload_n (pc := 2) dX1_burn_2 rfl 2 rfl ?_
  refine ea_aload_n (pc := 3) dX1_burn_3 rfl 0 rfl ?_
  obtain ⟨a3, e4, f1, g2, H⟩ := H
  refine ea_deref0 e4 ?_
  refine ea_getI (pc := 4) dX1_burn_4 ec_1 (k := 0) (Nat.le_of_ble_eq_true rfl) rfl (Or.inl ew_359) f1 g2 ?_
  refine ea_icmp_ge (pc := 7) (tgt := 68) dX1_burn_7 rfl (fun c45 => ?_) (fun c45 => ?_)
  · have H := H.1 c45
    obtain ⟨rfl, rfl⟩ := H
    exact ea_return (pc := 68) dX1_burn_68 rfl
  · have H := H.2 c45
    refine ea_aload_n (pc := 10) dX1_burn_10 rfl 0 rfl ?_
    obtain ⟨f5, g6, H⟩ := H
    refine ea_deref0 e4 ?_
    refine ea_getR (pc := 11) dX1_burn_11 ec_1 (k := 1) (Nat.le_of_ble_eq_true rfl) rfl (Or.inl ew_361) f5 g6 rfl ?_
    refine ea_iload_n (pc := 14) dX1_burn_14 rfl 2 rfl ?_
    obtain ⟨a9, e10, f7, g8, H⟩ := H
    refine ea_deref1 e10 ?_
    obtain ⟨z11, H⟩ := H
    refine ea_iald (pc := 15) dX1_burn_15 f7 g8 z11 ?_
    refine ea_iconst (pc := 16) dX1_burn_16 (v := 3) rfl ?_
    refine ea_icmp_ne (pc := 17) (tgt := 62) dX1_burn_17 rfl (fun c44 => ?_) (fun c44 => ?_)
    · have H := H.1 c44
      refine ea_iinc (pc := 62) (v := 1) (lv' := [(0, vR r0), (1, vI x1), (2, vI (x2 + 1))]) dX1_burn_62 2 rfl rfl (Nat.le_of_ble_eq_true rfl) [1, 2, 0] rfl ?_
      refine ea_goto (pc := 65) (tgt := 2) dX1_burn_65 rfl ?_
      exact H
    · have H := H.2 c44
      refine ea_iload_n (pc := 20) dX1_burn_20 rfl 1 rfl ?_
      refine ea_aload_n (pc := 21) dX1_burn_21 rfl 0 rfl ?_
      obtain ⟨f12, g13, H⟩ := H
      refine ea_deref0 e4 ?_
      refine ea_getR (pc := 22) dX1_burn_22 ec_1 (k := 7) (Nat.le_of_ble_eq_true rfl) rfl (Or.inl ew_373) f12 g13 rfl ?_
      refine ea_iload_n (pc := 25) dX1_burn_25 rfl 2 rfl ?_
      obtain ⟨a16, e17, f14, g15, H⟩ := H
      refine ea_deref1 e17 ?_
      obtain ⟨z18, H⟩ := H
      refine ea_iald (pc := 26) dX1_burn_26 f14 g15 z18 ?_
      refine ea_sipush (pc := 27) dX1_burn_27 (v := 1440) rfl ?_
      refine ea_idiv (pc := 30) dX1_burn_30 (by decide) ?_
      refine ea_isub (pc := 31) dX1_burn_31 ?_
      refine ea_aload_n (pc := 32) dX1_burn_32 rfl 0 rfl ?_
      obtain ⟨f19, g20, H⟩ := H
      refine ea_deref0 e4 ?_
      refine ea_getR (pc := 33) dX1_burn_33 ec_1 (k := 14) (Nat.le_of_ble_eq_true rfl) rfl (Or.inl ew_380) f19 g20 rfl ?_
      refine ea_iload_n (pc := 36) dX1_burn_36 rfl 2 rfl ?_
      obtain ⟨a23, e24, f21, g22, H⟩ := H
      refine ea_deref1 e24 ?_
      obtain ⟨z25, H⟩ := H
      refine ea_aald23 (pc := 37) dX1_burn_37 f21 g22 z25 rfl ?_
      obtain ⟨a28, e29, f26, g27, H⟩ := H
      refine ea_deref0 e29 ?_
      refine ea_getI (pc := 38) dX1_burn_38 ec_4 (k := 14) (Nat.le_of_ble_eq_true rfl) rfl (Or.inl ew_971) f26 g27 ?_
      refine ea_icmp_lt (pc := 41) (tgt := 62) dX1_burn_41 rfl (fun c43 => ?_) (fun c43 => ?_)
      · have H := H.1 c43
        refine ea_iinc (pc := 62) (v := 1) (lv' := [(0, vR r0), (1, vI x1), (2, vI (x2 + 1))]) dX1_burn_62 2 rfl rfl (Nat.le_of_ble_eq_true rfl) [1, 2, 0] rfl ?_
        refine ea_goto (pc := 65) (tgt := 2) dX1_burn_65 rfl ?_
        exact H
      · have H := H.2 c43
        refine ea_aload_n (pc := 44) dX1_burn_44 rfl 0 rfl ?_
        refine ea_iload_n (pc := 45) dX1_burn_45 rfl 2 rfl ?_
        refine ea_iload_n (pc := 46) dX1_burn_46 rfl 1 rfl ?_
        refine ea_sipush (pc := 47) dX1_burn_47 (v := 1440) rfl ?_
        refine ea_imul (pc := 50) dX1_burn_50 ?_
        refine ea_bipush (pc := 51) dX1_burn_51 (v := 6) rfl ?_
        refine ea_aload_n (pc := 53) dX1_burn_53 rfl 0 rfl ?_
        obtain ⟨f30, g31, H⟩ := H
        refine ea_deref0 e4 ?_
        refine ea_getR (pc := 54) dX1_burn_54 ec_1 (k := 2) (Nat.le_of_ble_eq_true rfl) rfl (Or.inl ew_363) f30 g31 rfl ?_
        refine ea_iload_n (pc := 57) dX1_burn_57 rfl 2 rfl ?_
        obtain ⟨a34, e35, f32, g33, H⟩ := H
        refine ea_deref1 e35 ?_
        obtain ⟨z36, H⟩ := H
        refine ea_iald (pc := 58) dX1_burn_58 f32 g33 z36 ?_
        obtain ⟨f41, g42, H⟩ := H
        refine ea_deref4 e4 ?_
        obtain ⟨d37, h38, m39, q40, H⟩ := H
        refine ea_callV (pc := 59) (As := [vI x2, vI (x1 * (1440 : Int32)), vI 6, vI (ea_i h a34 (Int32.toNatClampNeg x2))]) (st := []) dX1_burn_59 kX1_move m39 q40 rfl (Nat.le_of_ble_eq_true rfl) ew_645 ew_646 ew_647 (ci := 1) rfl (by decide) f41 g42 ?_
        refine ea_iinc (pc := 62) (v := 1) (lv' := [(0, vR r0), (1, vI x1), (2, vI (x2 + 1))]) dX1_burn_62 2 rfl rfl (Nat.le_of_ble_eq_true rfl) [1, 2, 0] rfl ?_
        refine ea_goto (pc := 65) (tgt := 2) dX1_burn_65 rfl ?_
        exact H
theorem dX1_comes_0 : decode cX1_comes 0 = .ok (.iload_n 1, 1) := by decide +kernel
theorem dX1_comes_1 : decode cX1_comes 1 = .ok (.invokestatic 121, 3) := by decide +kernel
theorem dX1_comes_4 : decode cX1_comes 4 = .ok (.istore_n 3, 1) := by decide +kernel
theorem dX1_comes_5 : decode cX1_comes 5 = .ok (.iload_n 1, 1) := by decide +kernel
theorem dX1_comes_6 : decode cX1_comes 6 = .ok (.invokestatic 124, 3) := by decide +kernel
theorem dX1_comes_9 : decode cX1_comes 9 = .ok (.istore 4, 2) := by decide +kernel
theorem dX1_comes_11 : decode cX1_comes 11 = .ok (.bipush 10, 2) := by decide +kernel
theorem dX1_comes_13 : decode cX1_comes 13 = .ok (.iload_n 1, 1) := by decide +kernel
theorem dX1_comes_14 : decode cX1_comes 14 = .ok (.invokestatic 127, 3) := by decide +kernel
theorem dX1_comes_17 : decode cX1_comes 17 = .ok (.imul, 1) := by decide +kernel
theorem dX1_comes_18 : decode cX1_comes 18 = .ok (.iload_n 3, 1) := by decide +kernel
theorem dX1_comes_19 : decode cX1_comes 19 = .ok (.iadd, 1) := by decide +kernel
theorem dX1_comes_20 : decode cX1_comes 20 = .ok (.istore 5, 2) := by decide +kernel
theorem dX1_comes_22 : decode cX1_comes 22 = .ok (.aload_n 0, 1) := by decide +kernel
theorem dX1_comes_23 : decode cX1_comes 23 = .ok (.getfield 37, 3) := by decide +kernel
theorem dX1_comes_26 : decode cX1_comes 26 = .ok (.iload 5, 2) := by decide +kernel
theorem dX1_comes_28 : decode cX1_comes 28 = .ok (.iaload, 1) := by decide +kernel
theorem dX1_comes_29 : decode cX1_comes 29 = .ok (.ifCond .eq 22, 3) := by decide +kernel
theorem dX1_comes_32 : decode cX1_comes 32 = .ok (.aload_n 0, 1) := by decide +kernel
theorem dX1_comes_33 : decode cX1_comes 33 = .ok (.getfield 40, 3) := by decide +kernel
theorem dX1_comes_36 : decode cX1_comes 36 = .ok (.getfield 130, 3) := by decide +kernel
theorem dX1_comes_39 : decode cX1_comes 39 = .ok (.bipush 8, 2) := by decide +kernel
theorem dX1_comes_41 : decode cX1_comes 41 = .ok (.iload 5, 2) := by decide +kernel
theorem dX1_comes_43 : decode cX1_comes 43 = .ok (.imul, 1) := by decide +kernel
theorem dX1_comes_44 : decode cX1_comes 44 = .ok (.iload 4, 2) := by decide +kernel
theorem dX1_comes_46 : decode cX1_comes 46 = .ok (.iadd, 1) := by decide +kernel
theorem dX1_comes_47 : decode cX1_comes 47 = .ok (.baload, 1) := by decide +kernel
theorem dX1_comes_48 : decode cX1_comes 48 = .ok (.ifCond .eq 4, 3) := by decide +kernel
theorem dX1_comes_51 : decode cX1_comes 51 = .ok (.return_, 1) := by decide +kernel
theorem dX1_comes_52 : decode cX1_comes 52 = .ok (.iload 4, 2) := by decide +kernel
theorem dX1_comes_54 : decode cX1_comes 54 = .ok (.aload_n 0, 1) := by decide +kernel
theorem dX1_comes_55 : decode cX1_comes 55 = .ok (.getfield 40, 3) := by decide +kernel
theorem dX1_comes_58 : decode cX1_comes 58 = .ok (.getfield 135, 3) := by decide +kernel
theorem dX1_comes_61 : decode cX1_comes 61 = .ok (.iload_n 3, 1) := by decide +kernel
theorem dX1_comes_62 : decode cX1_comes 62 = .ok (.iaload, 1) := by decide +kernel
theorem dX1_comes_63 : decode cX1_comes 63 = .ok (.iconst 1, 1) := by decide +kernel
theorem dX1_comes_64 : decode cX1_comes 64 = .ok (.isub, 1) := by decide +kernel
theorem dX1_comes_65 : decode cX1_comes 65 = .ok (.if_icmp .ne 7, 3) := by decide +kernel
theorem dX1_comes_68 : decode cX1_comes 68 = .ok (.iconst 1, 1) := by decide +kernel
theorem dX1_comes_69 : decode cX1_comes 69 = .ok (.goto 4, 3) := by decide +kernel
theorem dX1_comes_72 : decode cX1_comes 72 = .ok (.iconst 0, 1) := by decide +kernel
theorem dX1_comes_73 : decode cX1_comes 73 = .ok (.istore 6, 2) := by decide +kernel
theorem dX1_comes_75 : decode cX1_comes 75 = .ok (.aload_n 0, 1) := by decide +kernel
theorem dX1_comes_76 : decode cX1_comes 76 = .ok (.getfield 40, 3) := by decide +kernel
theorem dX1_comes_79 : decode cX1_comes 79 = .ok (.getfield 138, 3) := by decide +kernel
theorem dX1_comes_82 : decode cX1_comes 82 = .ok (.bipush 8, 2) := by decide +kernel
theorem dX1_comes_84 : decode cX1_comes 84 = .ok (.iload_n 3, 1) := by decide +kernel
theorem dX1_comes_85 : decode cX1_comes 85 = .ok (.imul, 1) := by decide +kernel
theorem dX1_comes_86 : decode cX1_comes 86 = .ok (.iload 4, 2) := by decide +kernel
theorem dX1_comes_88 : decode cX1_comes 88 = .ok (.iadd, 1) := by decide +kernel
theorem dX1_comes_89 : decode cX1_comes 89 = .ok (.iaload, 1) := by decide +kernel
theorem dX1_comes_90 : decode cX1_comes 90 = .ok (.istore 7, 2) := by decide +kernel
theorem dX1_comes_92 : decode cX1_comes 92 = .ok (.iconst 0, 1) := by decide +kernel
theorem dX1_comes_93 : decode cX1_comes 93 = .ok (.istore 8, 2) := by decide +kernel
theorem dX1_comes_95 : decode cX1_comes 95 = .ok (.iload 8, 2) := by decide +kernel
theorem dX1_comes_97 : decode cX1_comes 97 = .ok (.aload_n 0, 1) := by decide +kernel
theorem dX1_comes_98 : decode cX1_comes 98 = .ok (.getfield 60, 3) := by decide +kernel
theorem dX1_comes_101 : decode cX1_comes 101 = .ok (.if_icmp .ge 108, 3) := by decide +kernel
theorem dX1_comes_104 : decode cX1_comes 104 = .ok (.iload 6, 2) := by decide +kernel
theorem dX1_comes_106 : decode cX1_comes 106 = .ok (.ifCond .ne 25, 3) := by decide +kernel
theorem dX1_comes_109 : decode cX1_comes 109 = .ok (.aload_n 0, 1) := by decide +kernel
theorem dX1_comes_110 : decode cX1_comes 110 = .ok (.getfield 24, 3) := by decide +kernel
theorem dX1_comes_113 : decode cX1_comes 113 = .ok (.iload 8, 2) := by decide +kernel
theorem dX1_comes_115 : decode cX1_comes 115 = .ok (.baload, 1) := by decide +kernel
theorem dX1_comes_116 : decode cX1_comes 116 = .ok (.ifCond .eq 19, 3) := by decide +kernel
theorem dX1_comes_119 : decode cX1_comes 119 = .ok (.aload_n 0, 1) := by decide +kernel
theorem dX1_comes_120 : decode cX1_comes 120 = .ok (.getfield 18, 3) := by decide +kernel
theorem dX1_comes_123 : decode cX1_comes 123 = .ok (.iload 8, 2) := by decide +kernel
theorem dX1_comes_125 : decode cX1_comes 125 = .ok (.iaload, 1) := by decide +kernel
theorem dX1_comes_126 : decode cX1_comes 126 = .ok (.iload 4, 2) := by decide +kernel
theorem dX1_comes_128 : decode cX1_comes 128 = .ok (.if_icmp .gt 7, 3) := by decide +kernel
theorem dX1_comes_131 : decode cX1_comes 131 = .ok (.iconst 1, 1) := by decide +kernel
theorem dX1_comes_132 : decode cX1_comes 132 = .ok (.goto 4, 3) := by decide +kernel
theorem dX1_comes_135 : decode cX1_comes 135 = .ok (.iconst 0, 1) := by decide +kernel
theorem dX1_comes_136 : decode cX1_comes 136 = .ok (.istore 9, 2) := by decide +kernel
theorem dX1_comes_138 : decode cX1_comes 138 = .ok (.iload 9, 2) := by decide +kernel
theorem dX1_comes_140 : decode cX1_comes 140 = .ok (.ifCond .eq 63, 3) := by decide +kernel
theorem dX1_comes_143 : decode cX1_comes 143 = .ok (.aload_n 0, 1) := by decide +kernel
theorem dX1_comes_144 : decode cX1_comes 144 = .ok (.iload 8, 2) := by decide +kernel
theorem dX1_comes_146 : decode cX1_comes 146 = .ok (.iload 5, 2) := by decide +kernel
theorem dX1_comes_148 : decode cX1_comes 148 = .ok (.invokevirtual 73, 3) := by decide +kernel
theorem dX1_comes_151 : decode cX1_comes 151 = .ok (.ifCond .eq 52, 3) := by decide +kernel
theorem dX1_comes_154 : decode cX1_comes 154 = .ok (.aload_n 0, 1) := by decide +kernel
theorem dX1_comes_155 : decode cX1_comes 155 = .ok (.getfield 24, 3) := by decide +kernel
theorem dX1_comes_158 : decode cX1_comes 158 = .ok (.iload 8, 2) := by decide +kernel
theorem dX1_comes_160 : decode cX1_comes 160 = .ok (.baload, 1) := by decide +kernel
theorem dX1_comes_161 : decode cX1_comes 161 = .ok (.ifCond .ne 25, 3) := by decide +kernel
theorem dX1_comes_164 : decode cX1_comes 164 = .ok (.aload_n 0, 1) := by decide +kernel
theorem dX1_comes_165 : decode cX1_comes 165 = .ok (.getfield 21, 3) := by decide +kernel
theorem dX1_comes_168 : decode cX1_comes 168 = .ok (.iload 8, 2) := by decide +kernel
theorem dX1_comes_170 : decode cX1_comes 170 = .ok (.dup2, 1) := by decide +kernel
theorem dX1_comes_171 : decode cX1_comes 171 = .ok (.iaload, 1) := by decide +kernel
theorem dX1_comes_172 : decode cX1_comes 172 = .ok (.iconst 1, 1) := by decide +kernel
theorem dX1_comes_173 : decode cX1_comes 173 = .ok (.iadd, 1) := by decide +kernel
theorem dX1_comes_174 : decode cX1_comes 174 = .ok (.iastore, 1) := by decide +kernel
theorem dX1_comes_175 : decode cX1_comes 175 = .ok (.aload_n 0, 1) := by decide +kernel
theorem dX1_comes_176 : decode cX1_comes 176 = .ok (.getfield 28, 3) := by decide +kernel
theorem dX1_comes_179 : decode cX1_comes 179 = .ok (.iload 5, 2) := by decide +kernel
theorem dX1_comes_181 : decode cX1_comes 181 = .ok (.dup2, 1) := by decide +kernel
theorem dX1_comes_182 : decode cX1_comes 182 = .ok (.iaload, 1) := by decide +kernel
theorem dX1_comes_183 : decode cX1_comes 183 = .ok (.iconst 1, 1) := by decide +kernel
theorem dX1_comes_184 : decode cX1_comes 184 = .ok (.iadd, 1) := by decide +kernel
theorem dX1_comes_185 : decode cX1_comes 185 = .ok (.iastore, 1) := by decide +kernel
theorem dX1_comes_186 : decode cX1_comes 186 = .ok (.aload_n 0, 1) := by decide +kernel
theorem dX1_comes_187 : decode cX1_comes 187 = .ok (.iload 8, 2) := by decide +kernel
theorem dX1_comes_189 : decode cX1_comes 189 = .ok (.iload_n 2, 1) := by decide +kernel
theorem dX1_comes_190 : decode cX1_comes 190 = .ok (.aload_n 0, 1) := by decide +kernel
theorem dX1_comes_191 : decode cX1_comes 191 = .ok (.iload 8, 2) := by decide +kernel
theorem dX1_comes_193 : decode cX1_comes 193 = .ok (.iload 7, 2) := by decide +kernel
theorem dX1_comes_195 : decode cX1_comes 195 = .ok (.invokevirtual 141, 3) := by decide +kernel
theorem dX1_comes_198 : decode cX1_comes 198 = .ok (.iload 7, 2) := by decide +kernel
theorem dX1_comes_200 : decode cX1_comes 200 = .ok (.invokevirtual 117, 3) := by decide +kernel
theorem dX1_comes_203 : decode cX1_comes 203 = .ok (.iinc 8 1, 3) := by decide +kernel
theorem dX1_comes_206 : decode cX1_comes 206 = .ok (.goto (-111), 3) := by decide +kernel
theorem dX1_comes_209 : decode cX1_comes 209 = .ok (.return_, 1) := by decide +kernel
theorem bX1_comes_0 {d : Nat} {h0 hE h : ea_H} {rv : Option ea_V} {r0 : Option Nat} {x1 : Int32} {x2 : Int32} (H : ∃ (d1 : Nat) (xc5 : Int32) (h2 : ea_H), ea_Met mX10_trainIn d1 [vI x1] h (some (vI xc5)) h2 ∧ d1 + 1 ≤ d ∧ ∃ (d6 : Nat) (xc10 : Int32) (h7 : ea_H), ea_Met mX10_stopIn d6 [vI x1] h2 (some (vI xc10)) h7 ∧ d6 + 1 ≤ d ∧ ∃ (d11 : Nat) (xc15 : Int32) (h12 : ea_H), ea_Met mX10_dayIn d11 [vI x1] h7 (some (vI xc15)) h12 ∧ d11 + 1 ≤ d ∧ ∃ a18, r0 = some a18 ∧ a18 < ea_n h12 ∧ ea_c h12 a18 = 1 ∧ ∃ a22, (ea_r h12 a18 9) = some a22 ∧ a22 < ea_n h12 ∧ ea_c h12 a22 = 20 ∧ vp_in (((10 : Int32) * xc15) + xc5) (ea_l h12 a22) ∧ ((ea_i h12 a22 (Int32.toNatClampNeg (((10 : Int32) * xc15) + xc5))) = (0 : Int32) → rv = none ∧ hE = h12) ∧ (¬ (ea_i h12 a22 (Int32.toNatClampNeg (((10 : Int32) * xc15) + xc5))) = (0 : Int32) → a18 < ea_n h12 ∧ ea_c h12 a18 = 1 ∧ ∃ a29, (ea_r h12 a18 11) = some a29 ∧ a29 < ea_n h12 ∧ ea_c h12 a29 = 9 ∧ ∃ a33, (ea_r h12 a29 7) = some a33 ∧ a33 < ea_n h12 ∧ ea_c h12 a33 = 21 ∧ vp_in (((8 : Int32) * (((10 : Int32) * xc15) + xc5)) + xc10) (ea_l h12 a33) ∧ ((ea_i h12 a33 (Int32.toNatClampNeg (((8 : Int32) * (((10 : Int32) * xc15) + xc5)) + xc10))) = (0 : Int32) → a18 < ea_n h12 ∧ ea_c h12 a18 = 1 ∧ a29 < ea_n h12 ∧ ea_c h12 a29 = 9 ∧ ∃ a42, (ea_r h12 a29 1) = some a42 ∧ a42 < ea_n h12 ∧ ea_c h12 a42 = 20 ∧ vp_in xc5 (ea_l h12 a42) ∧ (¬ xc10 = ((ea_i h12 a42 (Int32.toNatClampNeg xc5)) - (1 : Int32)) → ea_W mX1_comes d h0 rv hE 73 [(0, vR r0), (2, vI x2), (3, vI xc5), (4, vI xc10), (5, vI (((10 : Int32) * xc15) + xc5))] [vI 0] h12) ∧ (xc10 = ((ea_i h12 a42 (Int32.toNatClampNeg xc5)) - (1 : Int32)) → ea_W mX1_comes d h0 rv hE 73 [(0, vR r0), (2, vI x2), (3, vI xc5), (4, vI xc10), (5, vI (((10 : Int32) * xc15) + xc5))] [vI 1] h12)) ∧ (¬ (ea_i h12 a33 (Int32.toNatClampNeg (((8 : Int32) * (((10 : Int32) * xc15) + xc5)) + xc10))) = (0 : Int32) → rv = none ∧ hE = h12))) : ea_W mX1_comes d h0 rv hE 0 [(0, vR r0), (1, vI x1), (2, vI x2)] [] h := by
  refine ea_iload_n (pc := 0) dX1_comes_0 rfl 1 rfl ?_
  obtain ⟨d1, xc5, h2, m3, q4, H⟩ := H
  refine ea_callS (pc := 1) (As := [vI x1]) (st := []) dX1_comes_1 kX10_trainIn m3 q4 rfl (Nat.le_of_ble_eq_true rfl) ew_670 ew_597 ?_
  refine ea_istore_n (pc := 4) (lv' := [(0, vR r0), (1, vI x1), (2, vI x2), (3, vI xc5)]) dX1_comes_4 rfl (Nat.le_of_ble_eq_true rfl) [1, 2, 3, 0] rfl ?_
  refine ea_iload_n (pc := 5) dX1_comes_5 rfl 1 rfl ?_
  obtain ⟨d6, xc10, h7, m8, q9, H⟩ := H
  refine ea_callS (pc := 6) (As := [vI x1]) (st := []) dX1_comes_6 kX10_stopIn m8 q9 rfl (Nat.le_of_ble_eq_true rfl) ew_671 ew_600 ?_
  refine ea_istore (pc := 9) (lv' := [(0, vR r0), (1, vI x1), (2, vI x2), (3, vI xc5), (4, vI xc10)]) dX1_comes_9 (Nat.le_of_ble_eq_true rfl) [1, 2, 3, 4, 0] rfl ?_
  refine ea_bipush (pc := 11) dX1_comes_11 (v := 10) rfl ?_
  refine ea_iload_n (pc := 13) dX1_comes_13 rfl 1 rfl ?_
  obtain ⟨d11, xc15, h12, m13, q14, H⟩ := H
  refine ea_callS (pc := 14) (As := [vI x1]) (st := [vI 10]) dX1_comes_14 kX10_dayIn m13 q14 rfl (Nat.le_of_ble_eq_true rfl) ew_672 ew_609 ?_
  refine ea_imul (pc := 17) dX1_comes_17 ?_
  refine ea_iload_n (pc := 18) dX1_comes_18 rfl 3 rfl ?_
  refine ea_iadd (pc := 19) dX1_comes_19 ?_
  refine ea_istore (pc := 20) (lv' := [(0, vR r0), (2, vI x2), (3, vI xc5), (4, vI xc10), (5, vI (((10 : Int32) * xc15) + xc5))]) dX1_comes_20 (Nat.le_of_ble_eq_true rfl) [1, 3, 4, 5, 0] rfl ?_
  refine ea_aload_n (pc := 22) dX1_comes_22 rfl 0 rfl ?_
  obtain ⟨a18, e19, f16, g17, H⟩ := H
  refine ea_deref0 e19 ?_
  refine ea_getR (pc := 23) dX1_comes_23 ec_1 (k := 9) (Nat.le_of_ble_eq_true rfl) rfl (Or.inl ew_375) f16 g17 rfl ?_
  refine ea_iload (pc := 26) dX1_comes_26 4 rfl ?_
  obtain ⟨a22, e23, f20, g21, H⟩ := H
  refine ea_deref1 e23 ?_
  obtain ⟨z24, H⟩ := H
  refine ea_iald (pc := 28) dX1_comes_28 f20 g21 z24 ?_
  refine ea_if_eq (pc := 29) (tgt := 51) dX1_comes_29 rfl (fun c47 => ?_) (fun c47 => ?_)
  · have H := H.1 c47
    obtain ⟨rfl, rfl⟩ := H
    exact ea_return (pc := 51) dX1_comes_51 rfl
  · have H := H.2 c47
    refine ea_aload_n (pc := 32) dX1_comes_32 rfl 0 rfl ?_
    obtain ⟨f25, g26, H⟩ := H
    refine ea_deref0 e19 ?_
    refine ea_getR (pc := 33) dX1_comes_33 ec_1 (k := 11) (Nat.le_of_ble_eq_true rfl) rfl (Or.inl ew_377) f25 g26 rfl ?_
    obtain ⟨a29, e30, f27, g28, H⟩ := H
    refine ea_deref0 e30 ?_
    refine ea_getR (pc := 36) dX1_comes_36 ec_9 (k := 7) (Nat.le_of_ble_eq_true rfl) rfl (Or.inl ew_200) f27 g28 rfl ?_
    refine ea_bipush (pc := 39) dX1_comes_39 (v := 8) rfl ?_
    refine ea_iload (pc := 41) dX1_comes_41 4 rfl ?_
    refine ea_imul (pc := 43) dX1_comes_43 ?_
    refine ea_iload (pc := 44) dX1_comes_44 3 rfl ?_
    refine ea_iadd (pc := 46) dX1_comes_46 ?_
    obtain ⟨a33, e34, f31, g32, H⟩ := H
    refine ea_deref1 e34 ?_
    obtain ⟨z35, H⟩ := H
    refine ea_zald (pc := 47) dX1_comes_47 f31 g32 z35 ?_
    refine ea_if_eq (pc := 48) (tgt := 52) dX1_comes_48 rfl (fun c46 => ?_) (fun c46 => ?_)
    · have H := H.1 c46
      refine ea_iload (pc := 52) dX1_comes_52 3 rfl ?_
      refine ea_aload_n (pc := 54) dX1_comes_54 rfl 0 rfl ?_
      obtain ⟨f36, g37, H⟩ := H
      refine ea_deref0 e19 ?_
      refine ea_getR (pc := 55) dX1_comes_55 ec_1 (k := 11) (Nat.le_of_ble_eq_true rfl) rfl (Or.inl ew_377) f36 g37 rfl ?_
      obtain ⟨f38, g39, H⟩ := H
      refine ea_deref0 e30 ?_
      refine ea_getR (pc := 58) dX1_comes_58 ec_9 (k := 1) (Nat.le_of_ble_eq_true rfl) rfl (Or.inl ew_182) f38 g39 rfl ?_
      refine ea_iload_n (pc := 61) dX1_comes_61 rfl 2 rfl ?_
      obtain ⟨a42, e43, f40, g41, H⟩ := H
      refine ea_deref1 e43 ?_
      obtain ⟨z44, H⟩ := H
      refine ea_iald (pc := 62) dX1_comes_62 f40 g41 z44 ?_
      refine ea_iconst (pc := 63) dX1_comes_63 (v := 1) rfl ?_
      refine ea_isub (pc := 64) dX1_comes_64 ?_
      refine ea_icmp_ne (pc := 65) (tgt := 72) dX1_comes_65 rfl (fun c45 => ?_) (fun c45 => ?_)
      · have H := H.1 c45
        refine ea_iconst (pc := 72) dX1_comes_72 (v := 0) rfl ?_
        exact H
      · have H := H.2 c45
        refine ea_iconst (pc := 68) dX1_comes_68 (v := 1) rfl ?_
        refine ea_goto (pc := 69) (tgt := 73) dX1_comes_69 rfl ?_
        exact H
    · have H := H.2 c46
      obtain ⟨rfl, rfl⟩ := H
      exact ea_return (pc := 51) dX1_comes_51 rfl
theorem bX1_comes_73 {d : Nat} {h0 hE h : ea_H} {rv : Option ea_V} {r0 : Option Nat} {x2 : Int32} {x3 : Int32} {x4 : Int32} {x5 : Int32} {sx0 : Int32} (H : ∃ a3, r0 = some a3 ∧ a3 < ea_n h ∧ ea_c h a3 = 1 ∧ ∃ a7, (ea_r h a3 11) = some a7 ∧ a7 < ea_n h ∧ ea_c h a7 = 9 ∧ ∃ a11, (ea_r h a7 2) = some a11 ∧ a11 < ea_n h ∧ ea_c h a11 = 20 ∧ vp_in (((8 : Int32) * x3) + x4) (ea_l h a11) ∧ ea_W mX1_comes d h0 rv hE 95 [(0, vR r0), (2, vI x2), (4, vI x4), (5, vI x5), (6, vI sx0), (7, vI (ea_i h a11 (Int32.toNatClampNeg (((8 : Int32) * x3) + x4)))), (8, vI 0)] [] h) : ea_W mX1_comes d h0 rv hE 73 [(0, vR r0), (2, vI x2), (3, vI x3), (4, vI x4), (5, vI x5)] [vI sx0] h := by
  refine ea_istore (pc := 73) (lv' := [(0, vR r0), (2, vI x2), (3, vI x3), (4, vI x4), (5, vI x5), (6, vI sx0)]) dX1_comes_73 (Nat.le_of_ble_eq_true rfl) [1, 2, 3, 4, 5, 0] rfl ?_
  refine ea_aload_n (pc := 75) dX1_comes_75 rfl 0 rfl ?_
  obtain ⟨a3, e4, f1, g2, H⟩ := H
  refine ea_deref0 e4 ?_
  refine ea_getR (pc := 76) dX1_comes_76 ec_1 (k := 11) (Nat.le_of_ble_eq_true rfl) rfl (Or.inl ew_377) f1 g2 rfl ?_
  obtain ⟨a7, e8, f5, g6, H⟩ := H
  refine ea_deref0 e8 ?_
  refine ea_getR (pc := 79) dX1_comes_79 ec_9 (k := 2) (Nat.le_of_ble_eq_true rfl) rfl (Or.inl ew_186) f5 g6 rfl ?_
  refine ea_bipush (pc := 82) dX1_comes_82 (v := 8) rfl ?_
  refine ea_iload_n (pc := 84) dX1_comes_84 rfl 2 rfl ?_
  refine ea_imul (pc := 85) dX1_comes_85 ?_
  refine ea_iload (pc := 86) dX1_comes_86 3 rfl ?_
  refine ea_iadd (pc := 88) dX1_comes_88 ?_
  obtain ⟨a11, e12, f9, g10, H⟩ := H
  refine ea_deref1 e12 ?_
  obtain ⟨z13, H⟩ := H
  refine ea_iald (pc := 89) dX1_comes_89 f9 g10 z13 ?_
  refine ea_istore (pc := 90) (lv' := [(0, vR r0), (2, vI x2), (4, vI x4), (5, vI x5), (6, vI sx0), (7, vI (ea_i h a11 (Int32.toNatClampNeg (((8 : Int32) * x3) + x4))))]) dX1_comes_90 (Nat.le_of_ble_eq_true rfl) [1, 2, 4, 5, 6, 0] rfl ?_
  refine ea_iconst (pc := 92) dX1_comes_92 (v := 0) rfl ?_
  refine ea_istore (pc := 93) (lv' := [(0, vR r0), (2, vI x2), (4, vI x4), (5, vI x5), (6, vI sx0), (7, vI (ea_i h a11 (Int32.toNatClampNeg (((8 : Int32) * x3) + x4)))), (8, vI 0)]) dX1_comes_93 (Nat.le_of_ble_eq_true rfl) [1, 2, 3, 4, 5, 6, 0] rfl ?_
  exact H
theorem bX1_comes_95 {d : Nat} {h0 hE h : ea_H} {rv : Option ea_V} {r0 : Option Nat} {x2 : Int32} {x4 : Int32} {x5 : Int32} {x6 : Int32} {x7 : Int32} {x8 : Int32} (H : ∃ a3, r0 = some a3 ∧ a3 < ea_n h ∧ ea_c h a3 = 1 ∧ ((ea_i h a3 0) ≤ x8 → rv = none ∧ hE = h) ∧ (¬ (ea_i h a3 0) ≤ x8 → (¬ x6 = (0 : Int32) → ea_W mX1_comes d h0 rv hE 136 [(0, vR r0), (2, vI x2), (4, vI x4), (5, vI x5), (6, vI x6), (7, vI x7), (8, vI x8)] [vI 1] h) ∧ (x6 = (0 : Int32) → a3 < ea_n h ∧ ea_c h a3 = 1 ∧ ∃ a9, (ea_r h a3 5) = some a9 ∧ a9 < ea_n h ∧ ea_c h a9 = 21 ∧ vp_in x8 (ea_l h a9) ∧ ((ea_i h a9 (Int32.toNatClampNeg x8)) = (0 : Int32) → ea_W mX1_comes d h0 rv hE 136 [(0, vR r0), (2, vI x2), (4, vI x4), (5, vI x5), (6, vI x6), (7, vI x7), (8, vI x8)] [vI 0] h) ∧ (¬ (ea_i h a9 (Int32.toNatClampNeg x8)) = (0 : Int32) → a3 < ea_n h ∧ ea_c h a3 = 1 ∧ ∃ a16, (ea_r h a3 3) = some a16 ∧ a16 < ea_n h ∧ ea_c h a16 = 20 ∧ vp_in x8 (ea_l h a16) ∧ (x4 < (ea_i h a16 (Int32.toNatClampNeg x8)) → ea_W mX1_comes d h0 rv hE 136 [(0, vR r0), (2, vI x2), (4, vI x4), (5, vI x5), (6, vI x6), (7, vI x7), (8, vI x8)] [vI 0] h) ∧ (¬ x4 < (ea_i h a16 (Int32.toNatClampNeg x8)) → ea_W mX1_comes d h0 rv hE 136 [(0, vR r0), (2, vI x2), (4, vI x4), (5, vI x5), (6, vI x6), (7, vI x7), (8, vI x8)] [vI 1] h))))) : ea_W mX1_comes d h0 rv hE 95 [(0, vR r0), (2, vI x2), (4, vI x4), (5, vI x5), (6, vI x6), (7, vI x7), (8, vI x8)] [] h := by
  refine ea_iload (pc := 95) dX1_comes_95 6 rfl ?_
  refine ea_aload_n (pc := 97) dX1_comes_97 rfl 0 rfl ?_
  obtain ⟨a3, e4, f1, g2, H⟩ := H
  refine ea_deref0 e4 ?_
  refine ea_getI (pc := 98) dX1_comes_98 ec_1 (k := 0) (Nat.le_of_ble_eq_true rfl) rfl (Or.inl ew_359) f1 g2 ?_
  refine ea_icmp_ge (pc := 101) (tgt := 209) dX1_comes_101 rfl (fun c22 => ?_) (fun c22 => ?_)
  · have H := H.1 c22
    obtain ⟨rfl, rfl⟩ := H
    exact ea_return (pc := 209) dX1_comes_209 rfl
  · have H := H.2 c22
    refine ea_iload (pc := 104) dX1_comes_104 4 rfl ?_
    refine ea_if_ne (pc := 106) (tgt := 131) dX1_comes_106 rfl (fun c21 => ?_) (fun c21 => ?_)
    · have H := H.1 c21
      refine ea_iconst (pc := 131) dX1_comes_131 (v := 1) rfl ?_
      refine ea_goto (pc := 132) (tgt := 136) dX1_comes_132 rfl ?_
      exact H
    · have H := H.2 c21
      refine ea_aload_n (pc := 109) dX1_comes_109 rfl 0 rfl ?_
      obtain ⟨f5, g6, H⟩ := H
      refine ea_deref0 e4 ?_
      refine ea_getR (pc := 110) dX1_comes_110 ec_1 (k := 5) (Nat.le_of_ble_eq_true rfl) rfl (Or.inl ew_369) f5 g6 rfl ?_
      refine ea_iload (pc := 113) dX1_comes_113 6 rfl ?_
      obtain ⟨a9, e10, f7, g8, H⟩ := H
      refine ea_deref1 e10 ?_
      obtain ⟨z11, H⟩ := H
      refine ea_zald (pc := 115) dX1_comes_115 f7 g8 z11 ?_
      refine ea_if_eq (pc := 116) (tgt := 135) dX1_comes_116 rfl (fun c20 => ?_) (fun c20 => ?_)
      · have H := H.1 c20
        refine ea_iconst (pc := 135) dX1_comes_135 (v := 0) rfl ?_
        exact H
      · have H := H.2 c20
        refine ea_aload_n (pc := 119) dX1_comes_119 rfl 0 rfl ?_
        obtain ⟨f12, g13, H⟩ := H
        refine ea_deref0 e4 ?_
        refine ea_getR (pc := 120) dX1_comes_120 ec_1 (k := 3) (Nat.le_of_ble_eq_true rfl) rfl (Or.inl ew_365) f12 g13 rfl ?_
        refine ea_iload (pc := 123) dX1_comes_123 6 rfl ?_
        obtain ⟨a16, e17, f14, g15, H⟩ := H
        refine ea_deref1 e17 ?_
        obtain ⟨z18, H⟩ := H
        refine ea_iald (pc := 125) dX1_comes_125 f14 g15 z18 ?_
        refine ea_iload (pc := 126) dX1_comes_126 2 rfl ?_
        refine ea_icmp_gt (pc := 128) (tgt := 135) dX1_comes_128 rfl (fun c19 => ?_) (fun c19 => ?_)
        · have H := H.1 c19
          refine ea_iconst (pc := 135) dX1_comes_135 (v := 0) rfl ?_
          exact H
        · have H := H.2 c19
          refine ea_iconst (pc := 131) dX1_comes_131 (v := 1) rfl ?_
          refine ea_goto (pc := 132) (tgt := 136) dX1_comes_132 rfl ?_
          exact H
theorem bX1_comes_136 {d : Nat} {h0 hE h : ea_H} {rv : Option ea_V} {r0 : Option Nat} {x2 : Int32} {x4 : Int32} {x5 : Int32} {x6 : Int32} {x7 : Int32} {x8 : Int32} {sx0 : Int32} (H : (sx0 = (0 : Int32) → ea_W mX1_comes d h0 rv hE 95 [(0, vR r0), (2, vI x2), (4, vI x4), (5, vI x5), (6, vI x6), (7, vI x7), (8, vI (x8 + 1))] [] h) ∧ (¬ sx0 = (0 : Int32) → ∃ a7, r0 = some a7 ∧ a7 < ea_n h ∧ ea_c h a7 = 1 ∧ ∃ (d1 : Nat) (xc9 : Int32) (h2 : ea_H), ea_Met mX1_isAboard d1 [vR (some a7), vI x8, vI x5] h (some (vI xc9)) h2 ∧ d1 + 1 ≤ d ∧ (xc9 = (0 : Int32) → ea_W mX1_comes d h0 rv hE 95 [(0, vR r0), (2, vI x2), (4, vI x4), (5, vI x5), (6, vI x6), (7, vI x7), (8, vI (x8 + 1))] [] h2) ∧ (¬ xc9 = (0 : Int32) → a7 < ea_n h2 ∧ ea_c h2 a7 = 1 ∧ ∃ a14, (ea_r h2 a7 5) = some a14 ∧ a14 < ea_n h2 ∧ ea_c h2 a14 = 21 ∧ vp_in x8 (ea_l h2 a14) ∧ (¬ (ea_i h2 a14 (Int32.toNatClampNeg x8)) = (0 : Int32) → ea_W mX1_comes d h0 rv hE 186 [(0, vR r0), (2, vI x2), (4, vI x4), (5, vI x5), (6, vI x6), (7, vI x7), (8, vI x8)] [] h2) ∧ ((ea_i h2 a14 (Int32.toNatClampNeg x8)) = (0 : Int32) → a7 < ea_n h2 ∧ ea_c h2 a7 = 1 ∧ ∃ a21, (ea_r h2 a7 4) = some a21 ∧ a21 < ea_n h2 ∧ ea_c h2 a21 = 20 ∧ vp_in x8 (ea_l h2 a21) ∧ a21 < ea_n h2 ∧ ea_c h2 a21 = 20 ∧ vp_in x8 (ea_l h2 a21) ∧ ∀ h27, h27 = ea_wi h2 a21 (Int32.toNatClampNeg x8) ((ea_i h2 a21 (Int32.toNatClampNeg x8)) + (1 : Int32)) → a7 < ea_n h27 ∧ ea_c h27 a7 = 1 ∧ ∃ a33, (ea_r h27 a7 6) = some a33 ∧ a33 < ea_n h27 ∧ ea_c h27 a33 = 20 ∧ vp_in x5 (ea_l h27 a33) ∧ a33 < ea_n h27 ∧ ea_c h27 a33 = 20 ∧ vp_in x5 (ea_l h27 a33) ∧ ∀ h39, h39 = ea_wi h27 a33 (Int32.toNatClampNeg x5) ((ea_i h27 a33 (Int32.toNatClampNeg x5)) + (1 : Int32)) → ea_W mX1_comes d h0 rv hE 186 [(0, vR r0), (2, vI x2), (4, vI x4), (5, vI x5), (6, vI x6), (7, vI x7), (8, vI x8)] [] h39)))) : ea_W mX1_comes d h0 rv hE 136 [(0, vR r0), (2, vI x2), (4, vI x4), (5, vI x5), (6, vI x6), (7, vI x7), (8, vI x8)] [vI sx0] h := by
  refine ea_istore (pc := 136) (lv' := [(0, vR r0), (2, vI x2), (4, vI x4), (5, vI x5), (6, vI x6), (7, vI x7), (8, vI x8), (9, vI sx0)]) dX1_comes_136 (Nat.le_of_ble_eq_true rfl) [1, 2, 3, 4, 5, 6, 7, 0] rfl ?_
  refine ea_iload (pc := 138) dX1_comes_138 7 rfl ?_
  refine ea_if_eq (pc := 140) (tgt := 203) dX1_comes_140 rfl (fun c43 => ?_) (fun c43 => ?_)
  · have H := H.1 c43
    refine ea_iinc (pc := 203) (v := 1) (lv' := [(0, vR r0), (2, vI x2), (4, vI x4), (5, vI x5), (6, vI x6), (7, vI x7), (8, vI (x8 + 1))]) dX1_comes_203 6 rfl rfl (Nat.le_of_ble_eq_true rfl) [1, 2, 3, 4, 5, 6, 0] rfl ?_
    refine ea_goto (pc := 206) (tgt := 95) dX1_comes_206 rfl ?_
    exact H
  · have H := H.2 c43
    refine ea_aload_n (pc := 143) dX1_comes_143 rfl 0 rfl ?_
    refine ea_iload (pc := 144) dX1_comes_144 6 rfl ?_
    refine ea_iload (pc := 146) dX1_comes_146 3 rfl ?_
    obtain ⟨a7, e8, f5, g6, H⟩ := H
    refine ea_deref2 e8 ?_
    obtain ⟨d1, xc9, h2, m3, q4, H⟩ := H
    refine ea_callV (pc := 148) (As := [vI x8, vI x5]) (st := []) dX1_comes_148 kX1_isAboard m3 q4 rfl (Nat.le_of_ble_eq_true rfl) ew_704 ew_705 ew_706 (ci := 1) rfl (by decide) f5 g6 ?_
    refine ea_if_eq (pc := 151) (tgt := 203) dX1_comes_151 rfl (fun c42 => ?_) (fun c42 => ?_)
    · have H := H.1 c42
      refine ea_iinc (pc := 203) (v := 1) (lv' := [(0, vR r0), (2, vI x2), (4, vI x4), (5, vI x5), (6, vI x6), (7, vI x7), (8, vI (x8 + 1))]) dX1_comes_203 6 rfl rfl (Nat.le_of_ble_eq_true rfl) [1, 2, 3, 4, 5, 6, 0] rfl ?_
      refine ea_goto (pc := 206) (tgt := 95) dX1_comes_206 rfl ?_
      exact H
    · have H := H.2 c42
      refine ea_aload_n (pc := 154) dX1_comes_154 rfl 0 rfl ?_
      obtain ⟨f10, g11, H⟩ := H
      refine ea_deref0 e8 ?_
      refine ea_getR (pc := 155) dX1_comes_155 ec_1 (k := 5) (Nat.le_of_ble_eq_true rfl) rfl (Or.inl ew_369) f10 g11 rfl ?_
      refine ea_iload (pc := 158) dX1_comes_158 6 rfl ?_
      obtain ⟨a14, e15, f12, g13, H⟩ := H
      refine ea_deref1 e15 ?_
      obtain ⟨z16, H⟩ := H
      refine ea_zald (pc := 160) dX1_comes_160 f12 g13 z16 ?_
      refine ea_if_ne (pc := 161) (tgt := 186) dX1_comes_161 rfl (fun c41 => ?_) (fun c41 => ?_)
      · have H := H.1 c41
        exact ea_fewer [0, 1, 2, 3, 4, 5, 6] rfl H
      · have H := H.2 c41
        refine ea_aload_n (pc := 164) dX1_comes_164 rfl 0 rfl ?_
        obtain ⟨f17, g18, H⟩ := H
        refine ea_deref0 e8 ?_
        refine ea_getR (pc := 165) dX1_comes_165 ec_1 (k := 4) (Nat.le_of_ble_eq_true rfl) rfl (Or.inl ew_367) f17 g18 rfl ?_
        refine ea_iload (pc := 168) dX1_comes_168 6 rfl ?_
        refine ea_dup2 (pc := 170) dX1_comes_170 rfl rfl ?_
        obtain ⟨a21, e22, f19, g20, H⟩ := H
        refine ea_deref1 e22 ?_
        obtain ⟨z23, H⟩ := H
        refine ea_iald (pc := 171) dX1_comes_171 f19 g20 z23 ?_
        refine ea_iconst (pc := 172) dX1_comes_172 (v := 1) rfl ?_
        refine ea_iadd (pc := 173) dX1_comes_173 ?_
        obtain ⟨f24, g25, H⟩ := H
        refine ea_deref2 e22 ?_
        obtain ⟨z26, H⟩ := H
        refine ea_iast (pc := 174) dX1_comes_174 f24 g25 z26 ?_
        obtain ⟨h27, E28⟩ : ∃ z, z = ea_wi h2 a21 (Int32.toNatClampNeg x8) ((ea_i h2 a21 (Int32.toNatClampNeg x8)) + (1 : Int32)) := ⟨_, rfl⟩
        have H := H h27 E28
        refine ea_nm E28 ?_
        refine ea_aload_n (pc := 175) dX1_comes_175 rfl 0 rfl ?_
        obtain ⟨f29, g30, H⟩ := H
        refine ea_deref0 e8 ?_
        refine ea_getR (pc := 176) dX1_comes_176 ec_1 (k := 6) (Nat.le_of_ble_eq_true rfl) rfl (Or.inl ew_371) f29 g30 rfl ?_
        refine ea_iload (pc := 179) dX1_comes_179 3 rfl ?_
        refine ea_dup2 (pc := 181) dX1_comes_181 rfl rfl ?_
        obtain ⟨a33, e34, f31, g32, H⟩ := H
        refine ea_deref1 e34 ?_
        obtain ⟨z35, H⟩ := H
        refine ea_iald (pc := 182) dX1_comes_182 f31 g32 z35 ?_
        refine ea_iconst (pc := 183) dX1_comes_183 (v := 1) rfl ?_
        refine ea_iadd (pc := 184) dX1_comes_184 ?_
        obtain ⟨f36, g37, H⟩ := H
        refine ea_deref2 e34 ?_
        obtain ⟨z38, H⟩ := H
        refine ea_iast (pc := 185) dX1_comes_185 f36 g37 z38 ?_
        obtain ⟨h39, E40⟩ : ∃ z, z = ea_wi h27 a33 (Int32.toNatClampNeg x5) ((ea_i h27 a33 (Int32.toNatClampNeg x5)) + (1 : Int32)) := ⟨_, rfl⟩
        have H := H h39 E40
        refine ea_nm E40 ?_
        exact ea_fewer [0, 1, 2, 3, 4, 5, 6] rfl H
theorem bX1_comes_186 {d : Nat} {h0 hE h : ea_H} {rv : Option ea_V} {r0 : Option Nat} {x2 : Int32} {x4 : Int32} {x5 : Int32} {x6 : Int32} {x7 : Int32} {x8 : Int32} (H : ∃ a7, r0 = some a7 ∧ a7 < ea_n h ∧ ea_c h a7 = 1 ∧ ∃ (d1 : Nat) (xc9 : Int32) (h2 : ea_H), ea_Met mX1_stateIn d1 [vR (some a7), vI x8, vI x7] h (some (vI xc9)) h2 ∧ d1 + 1 ≤ d ∧ a7 < ea_n h2 ∧ ea_c h2 a7 = 1 ∧ ∃ (d10 : Nat) (h11 : ea_H), ea_Met mX1_move d10 [vR (some a7), vI x8, vI x2, vI xc9, vI x7] h2 none h11 ∧ d10 + 1 ≤ d ∧ ea_W mX1_comes d h0 rv hE 95 [(0, vR r0), (2, vI x2), (4, vI x4), (5, vI x5), (6, vI x6), (7, vI x7), (8, vI (x8 + 1))] [] h11) : ea_W mX1_comes d h0 rv hE 186 [(0, vR r0), (2, vI x2), (4, vI x4), (5, vI x5), (6, vI x6), (7, vI x7), (8, vI x8)] [] h := by
  refine ea_aload_n (pc := 186) dX1_comes_186 rfl 0 rfl ?_
  refine ea_iload (pc := 187) dX1_comes_187 6 rfl ?_
  refine ea_iload_n (pc := 189) dX1_comes_189 rfl 1 rfl ?_
  refine ea_aload_n (pc := 190) dX1_comes_190 rfl 0 rfl ?_
  refine ea_iload (pc := 191) dX1_comes_191 6 rfl ?_
  refine ea_iload (pc := 193) dX1_comes_193 5 rfl ?_
  obtain ⟨a7, e8, f5, g6, H⟩ := H
  refine ea_deref2 e8 ?_
  obtain ⟨d1, xc9, h2, m3, q4, H⟩ := H
  refine ea_callV (pc := 195) (As := [vI x8, vI x7]) (st := [vI x2, vI x8, vR r0]) dX1_comes_195 kX1_stateIn m3 q4 rfl (Nat.le_of_ble_eq_true rfl) ew_716 ew_718 ew_15 (ci := 1) rfl (by decide) f5 g6 ?_
  refine ea_iload (pc := 198) dX1_comes_198 5 rfl ?_
  obtain ⟨f14, g15, H⟩ := H
  refine ea_deref4 e8 ?_
  obtain ⟨d10, h11, m12, q13, H⟩ := H
  refine ea_callV (pc := 200) (As := [vI x8, vI x2, vI xc9, vI x7]) (st := []) dX1_comes_200 kX1_move m12 q13 rfl (Nat.le_of_ble_eq_true rfl) ew_645 ew_646 ew_647 (ci := 1) rfl (by decide) f14 g15 ?_
  refine ea_iinc (pc := 203) (v := 1) (lv' := [(0, vR r0), (2, vI x2), (4, vI x4), (5, vI x5), (6, vI x6), (7, vI x7), (8, vI (x8 + 1))]) dX1_comes_203 6 rfl rfl (Nat.le_of_ble_eq_true rfl) [1, 2, 3, 4, 5, 6, 0] rfl ?_
  refine ea_goto (pc := 206) (tgt := 95) dX1_comes_206 rfl ?_
  exact H
theorem dX1_stateIn_0 : decode cX1_stateIn 0 = .ok (.aload_n 0, 1) := by decide +kernel
theorem dX1_stateIn_1 : decode cX1_stateIn 1 = .ok (.getfield 52, 3) := by decide +kernel
theorem dX1_stateIn_4 : decode cX1_stateIn 4 = .ok (.iload_n 1, 1) := by decide +kernel
theorem dX1_stateIn_5 : decode cX1_stateIn 5 = .ok (.aaload, 1) := by decide +kernel
theorem dX1_stateIn_6 : decode cX1_stateIn 6 = .ok (.getfield 145, 3) := by decide +kernel
theorem dX1_stateIn_9 : decode cX1_stateIn 9 = .ok (.iload_n 2, 1) := by decide +kernel
theorem dX1_stateIn_10 : decode cX1_stateIn 10 = .ok (.if_icmp .eq 5, 3) := by decide +kernel
theorem dX1_stateIn_13 : decode cX1_stateIn 13 = .ok (.iconst 0, 1) := by decide +kernel
theorem dX1_stateIn_14 : decode cX1_stateIn 14 = .ok (.ireturn, 1) := by decide +kernel
theorem dX1_stateIn_15 : decode cX1_stateIn 15 = .ok (.aload_n 0, 1) := by decide +kernel
theorem dX1_stateIn_16 : decode cX1_stateIn 16 = .ok (.getfield 52, 3) := by decide +kernel
theorem dX1_stateIn_19 : decode cX1_stateIn 19 = .ok (.iload_n 1, 1) := by decide +kernel
theorem dX1_stateIn_20 : decode cX1_stateIn 20 = .ok (.aaload, 1) := by decide +kernel
theorem dX1_stateIn_21 : decode cX1_stateIn 21 = .ok (.getfield 148, 3) := by decide +kernel
theorem dX1_stateIn_24 : decode cX1_stateIn 24 = .ok (.ifCond .eq 7, 3) := by decide +kernel
theorem dX1_stateIn_27 : decode cX1_stateIn 27 = .ok (.iconst 3, 1) := by decide +kernel
theorem dX1_stateIn_28 : decode cX1_stateIn 28 = .ok (.goto 4, 3) := by decide +kernel
theorem dX1_stateIn_31 : decode cX1_stateIn 31 = .ok (.iconst 2, 1) := by decide +kernel
theorem dX1_stateIn_32 : decode cX1_stateIn 32 = .ok (.ireturn, 1) := by decide +kernel
theorem bX1_stateIn_0 {d : Nat} {h0 hE h : ea_H} {rv : Option ea_V} {r0 : Option Nat} {x1 : Int32} {x2 : Int32} (H : ∃ a3, r0 = some a3 ∧ a3 < ea_n h ∧ ea_c h a3 = 1 ∧ ∃ a7, (ea_r h a3 14) = some a7 ∧ a7 < ea_n h ∧ ea_c h a7 = 23 ∧ vp_in x1 (ea_l h a7) ∧ ∃ a12, (ea_r h a7 (Int32.toNatClampNeg x1)) = some a12 ∧ a12 < ea_n h ∧ ea_c h a12 = 4 ∧ ((ea_i h a12 2) = x2 → a3 < ea_n h ∧ ea_c h a3 = 1 ∧ a7 < ea_n h ∧ ea_c h a7 = 23 ∧ vp_in x1 (ea_l h a7) ∧ a12 < ea_n h ∧ ea_c h a12 = 4 ∧ ((ea_i h a12 15) = (0 : Int32) → rv = some (vI 2) ∧ hE = h) ∧ (¬ (ea_i h a12 15) = (0 : Int32) → rv = some (vI 3) ∧ hE = h)) ∧ (¬ (ea_i h a12 2) = x2 → rv = some (vI 0) ∧ hE = h)) : ea_W mX1_stateIn d h0 rv hE 0 [(0, vR r0), (1, vI x1), (2, vI x2)] [] h := by
  refine ea_aload_n (pc := 0) dX1_stateIn_0 rfl 0 rfl ?_
  obtain ⟨a3, e4, f1, g2, H⟩ := H
  refine ea_deref0 e4 ?_
  refine ea_getR (pc := 1) dX1_stateIn_1 ec_1 (k := 14) (Nat.le_of_ble_eq_true rfl) rfl (Or.inl ew_380) f1 g2 rfl ?_
  refine ea_iload_n (pc := 4) dX1_stateIn_4 rfl 1 rfl ?_
  obtain ⟨a7, e8, f5, g6, H⟩ := H
  refine ea_deref1 e8 ?_
  obtain ⟨z9, H⟩ := H
  refine ea_aald23 (pc := 5) dX1_stateIn_5 f5 g6 z9 rfl ?_
  obtain ⟨a12, e13, f10, g11, H⟩ := H
  refine ea_deref0 e13 ?_
  refine ea_getI (pc := 6) dX1_stateIn_6 ec_4 (k := 2) (Nat.le_of_ble_eq_true rfl) rfl (Or.inl ew_939) f10 g11 ?_
  refine ea_iload_n (pc := 9) dX1_stateIn_9 rfl 2 rfl ?_
  refine ea_icmp_eq (pc := 10) (tgt := 15) dX1_stateIn_10 rfl (fun c22 => ?_) (fun c22 => ?_)
  · have H := H.1 c22
    refine ea_aload_n (pc := 15) dX1_stateIn_15 rfl 0 rfl ?_
    obtain ⟨f14, g15, H⟩ := H
    refine ea_deref0 e4 ?_
    refine ea_getR (pc := 16) dX1_stateIn_16 ec_1 (k := 14) (Nat.le_of_ble_eq_true rfl) rfl (Or.inl ew_380) f14 g15 rfl ?_
    refine ea_iload_n (pc := 19) dX1_stateIn_19 rfl 1 rfl ?_
    obtain ⟨f16, g17, H⟩ := H
    refine ea_deref1 e8 ?_
    obtain ⟨z18, H⟩ := H
    refine ea_aald23 (pc := 20) dX1_stateIn_20 f16 g17 z18 rfl ?_
    obtain ⟨f19, g20, H⟩ := H
    refine ea_deref0 e13 ?_
    refine ea_getI (pc := 21) dX1_stateIn_21 ec_4 (k := 15) (Nat.le_of_ble_eq_true rfl) rfl (Or.inl ew_972) f19 g20 ?_
    refine ea_if_eq (pc := 24) (tgt := 31) dX1_stateIn_24 rfl (fun c21 => ?_) (fun c21 => ?_)
    · have H := H.1 c21
      refine ea_iconst (pc := 31) dX1_stateIn_31 (v := 2) rfl ?_
      obtain ⟨rfl, rfl⟩ := H
      exact ea_ireturn (pc := 32) dX1_stateIn_32 rfl rfl
    · have H := H.2 c21
      refine ea_iconst (pc := 27) dX1_stateIn_27 (v := 3) rfl ?_
      refine ea_goto (pc := 28) (tgt := 32) dX1_stateIn_28 rfl ?_
      obtain ⟨rfl, rfl⟩ := H
      exact ea_ireturn (pc := 32) dX1_stateIn_32 rfl rfl
  · have H := H.2 c22
    refine ea_iconst (pc := 13) dX1_stateIn_13 (v := 0) rfl ?_
    obtain ⟨rfl, rfl⟩ := H
    exact ea_ireturn (pc := 14) dX1_stateIn_14 rfl rfl
theorem dX1_goes_0 : decode cX1_goes 0 = .ok (.iload_n 1, 1) := by decide +kernel
theorem dX1_goes_1 : decode cX1_goes 1 = .ok (.invokestatic 121, 3) := by decide +kernel
theorem dX1_goes_4 : decode cX1_goes 4 = .ok (.istore_n 3, 1) := by decide +kernel
theorem dX1_goes_5 : decode cX1_goes 5 = .ok (.iload_n 1, 1) := by decide +kernel
theorem dX1_goes_6 : decode cX1_goes 6 = .ok (.invokestatic 124, 3) := by decide +kernel
theorem dX1_goes_9 : decode cX1_goes 9 = .ok (.istore 4, 2) := by decide +kernel
theorem dX1_goes_11 : decode cX1_goes 11 = .ok (.bipush 10, 2) := by decide +kernel
theorem dX1_goes_13 : decode cX1_goes 13 = .ok (.iload_n 1, 1) := by decide +kernel
theorem dX1_goes_14 : decode cX1_goes 14 = .ok (.invokestatic 127, 3) := by decide +kernel
theorem dX1_goes_17 : decode cX1_goes 17 = .ok (.imul, 1) := by decide +kernel
theorem dX1_goes_18 : decode cX1_goes 18 = .ok (.iload_n 3, 1) := by decide +kernel
theorem dX1_goes_19 : decode cX1_goes 19 = .ok (.iadd, 1) := by decide +kernel
theorem dX1_goes_20 : decode cX1_goes 20 = .ok (.istore 5, 2) := by decide +kernel
theorem dX1_goes_22 : decode cX1_goes 22 = .ok (.aload_n 0, 1) := by decide +kernel
theorem dX1_goes_23 : decode cX1_goes 23 = .ok (.getfield 40, 3) := by decide +kernel
theorem dX1_goes_26 : decode cX1_goes 26 = .ok (.getfield 138, 3) := by decide +kernel
theorem dX1_goes_29 : decode cX1_goes 29 = .ok (.bipush 8, 2) := by decide +kernel
theorem dX1_goes_31 : decode cX1_goes 31 = .ok (.iload_n 3, 1) := by decide +kernel
theorem dX1_goes_32 : decode cX1_goes 32 = .ok (.imul, 1) := by decide +kernel
theorem dX1_goes_33 : decode cX1_goes 33 = .ok (.iload 4, 2) := by decide +kernel
theorem dX1_goes_35 : decode cX1_goes 35 = .ok (.iadd, 1) := by decide +kernel
theorem dX1_goes_36 : decode cX1_goes 36 = .ok (.iaload, 1) := by decide +kernel
theorem dX1_goes_37 : decode cX1_goes 37 = .ok (.istore 6, 2) := by decide +kernel
theorem dX1_goes_39 : decode cX1_goes 39 = .ok (.aload_n 0, 1) := by decide +kernel
theorem dX1_goes_40 : decode cX1_goes 40 = .ok (.getfield 34, 3) := by decide +kernel
theorem dX1_goes_43 : decode cX1_goes 43 = .ok (.iload 6, 2) := by decide +kernel
theorem dX1_goes_45 : decode cX1_goes 45 = .ok (.iaload, 1) := by decide +kernel
theorem dX1_goes_46 : decode cX1_goes 46 = .ok (.ifCond .le 116, 3) := by decide +kernel
theorem dX1_goes_49 : decode cX1_goes 49 = .ok (.aload_n 0, 1) := by decide +kernel
theorem dX1_goes_50 : decode cX1_goes 50 = .ok (.getfield 40, 3) := by decide +kernel
theorem dX1_goes_53 : decode cX1_goes 53 = .ok (.getfield 130, 3) := by decide +kernel
theorem dX1_goes_56 : decode cX1_goes 56 = .ok (.bipush 8, 2) := by decide +kernel
theorem dX1_goes_58 : decode cX1_goes 58 = .ok (.iload 5, 2) := by decide +kernel
theorem dX1_goes_60 : decode cX1_goes 60 = .ok (.imul, 1) := by decide +kernel
theorem dX1_goes_61 : decode cX1_goes 61 = .ok (.iload 4, 2) := by decide +kernel
theorem dX1_goes_63 : decode cX1_goes 63 = .ok (.iadd, 1) := by decide +kernel
theorem dX1_goes_64 : decode cX1_goes 64 = .ok (.baload, 1) := by decide +kernel
theorem dX1_goes_65 : decode cX1_goes 65 = .ok (.ifCond .ne 97, 3) := by decide +kernel
theorem dX1_goes_68 : decode cX1_goes 68 = .ok (.iconst 0, 1) := by decide +kernel
theorem dX1_goes_69 : decode cX1_goes 69 = .ok (.istore 7, 2) := by decide +kernel
theorem dX1_goes_71 : decode cX1_goes 71 = .ok (.iload 7, 2) := by decide +kernel
theorem dX1_goes_73 : decode cX1_goes 73 = .ok (.aload_n 0, 1) := by decide +kernel
theorem dX1_goes_74 : decode cX1_goes 74 = .ok (.getfield 60, 3) := by decide +kernel
theorem dX1_goes_77 : decode cX1_goes 77 = .ok (.if_icmp .ge 85, 3) := by decide +kernel
theorem dX1_goes_80 : decode cX1_goes 80 = .ok (.aload_n 0, 1) := by decide +kernel
theorem dX1_goes_81 : decode cX1_goes 81 = .ok (.getfield 9, 3) := by decide +kernel
theorem dX1_goes_84 : decode cX1_goes 84 = .ok (.iload 7, 2) := by decide +kernel
theorem dX1_goes_86 : decode cX1_goes 86 = .ok (.iaload, 1) := by decide +kernel
theorem dX1_goes_87 : decode cX1_goes 87 = .ok (.ifCond .ne 69, 3) := by decide +kernel
theorem dX1_goes_90 : decode cX1_goes 90 = .ok (.aload_n 0, 1) := by decide +kernel
theorem dX1_goes_91 : decode cX1_goes 91 = .ok (.getfield 15, 3) := by decide +kernel
theorem dX1_goes_94 : decode cX1_goes 94 = .ok (.iload 7, 2) := by decide +kernel
theorem dX1_goes_96 : decode cX1_goes 96 = .ok (.iaload, 1) := by decide +kernel
theorem dX1_goes_97 : decode cX1_goes 97 = .ok (.iload 6, 2) := by decide +kernel
theorem dX1_goes_99 : decode cX1_goes 99 = .ok (.if_icmp .ne 57, 3) := by decide +kernel
theorem dX1_goes_102 : decode cX1_goes 102 = .ok (.aload_n 0, 1) := by decide +kernel
theorem dX1_goes_103 : decode cX1_goes 103 = .ok (.getfield 44, 3) := by decide +kernel
theorem dX1_goes_106 : decode cX1_goes 106 = .ok (.iload 5, 2) := by decide +kernel
theorem dX1_goes_108 : decode cX1_goes 108 = .ok (.iload 4, 2) := by decide +kernel
theorem dX1_goes_110 : decode cX1_goes 110 = .ok (.aload_n 0, 1) := by decide +kernel
theorem dX1_goes_111 : decode cX1_goes 111 = .ok (.getfield 52, 3) := by decide +kernel
theorem dX1_goes_114 : decode cX1_goes 114 = .ok (.iload 7, 2) := by decide +kernel
theorem dX1_goes_116 : decode cX1_goes 116 = .ok (.aaload, 1) := by decide +kernel
theorem dX1_goes_117 : decode cX1_goes 117 = .ok (.getfield 145, 3) := by decide +kernel
theorem dX1_goes_120 : decode cX1_goes 120 = .ok (.invokevirtual 151, 3) := by decide +kernel
theorem dX1_goes_123 : decode cX1_goes 123 = .ok (.lstore 8, 2) := by decide +kernel
theorem dX1_goes_125 : decode cX1_goes 125 = .ok (.lload 8, 2) := by decide +kernel
theorem dX1_goes_127 : decode cX1_goes 127 = .ok (.iload_n 1, 1) := by decide +kernel
theorem dX1_goes_128 : decode cX1_goes 128 = .ok (.invokestatic 155, 3) := by decide +kernel
theorem dX1_goes_131 : decode cX1_goes 131 = .ok (.ifCond .eq 25, 3) := by decide +kernel
theorem dX1_goes_134 : decode cX1_goes 134 = .ok (.aload_n 0, 1) := by decide +kernel
theorem dX1_goes_135 : decode cX1_goes 135 = .ok (.iload 7, 2) := by decide +kernel
theorem dX1_goes_137 : decode cX1_goes 137 = .ok (.iload_n 2, 1) := by decide +kernel
theorem dX1_goes_138 : decode cX1_goes 138 = .ok (.iconst 1, 1) := by decide +kernel
theorem dX1_goes_139 : decode cX1_goes 139 = .ok (.iload 5, 2) := by decide +kernel
theorem dX1_goes_141 : decode cX1_goes 141 = .ok (.invokevirtual 117, 3) := by decide +kernel
theorem dX1_goes_144 : decode cX1_goes 144 = .ok (.aload_n 0, 1) := by decide +kernel
theorem dX1_goes_145 : decode cX1_goes 145 = .ok (.getfield 18, 3) := by decide +kernel
theorem dX1_goes_148 : decode cX1_goes 148 = .ok (.iload 7, 2) := by decide +kernel
theorem dX1_goes_150 : decode cX1_goes 150 = .ok (.lload 8, 2) := by decide +kernel
theorem dX1_goes_152 : decode cX1_goes 152 = .ok (.invokestatic 159, 3) := by decide +kernel
theorem dX1_goes_155 : decode cX1_goes 155 = .ok (.iastore, 1) := by decide +kernel
theorem dX1_goes_156 : decode cX1_goes 156 = .ok (.iinc 7 1, 3) := by decide +kernel
theorem dX1_goes_159 : decode cX1_goes 159 = .ok (.goto (-88), 3) := by decide +kernel
theorem dX1_goes_162 : decode cX1_goes 162 = .ok (.aload_n 0, 1) := by decide +kernel
theorem dX1_goes_163 : decode cX1_goes 163 = .ok (.getfield 37, 3) := by decide +kernel
theorem dX1_goes_166 : decode cX1_goes 166 = .ok (.iload 5, 2) := by decide +kernel
theorem dX1_goes_168 : decode cX1_goes 168 = .ok (.iaload, 1) := by decide +kernel
theorem dX1_goes_169 : decode cX1_goes 169 = .ok (.ifCond .le 23, 3) := by decide +kernel
theorem dX1_goes_172 : decode cX1_goes 172 = .ok (.aload_n 0, 1) := by decide +kernel
theorem dX1_goes_173 : decode cX1_goes 173 = .ok (.getfield 48, 3) := by decide +kernel
theorem dX1_goes_176 : decode cX1_goes 176 = .ok (.iload_n 3, 1) := by decide +kernel
theorem dX1_goes_177 : decode cX1_goes 177 = .ok (.invokevirtual 163, 3) := by decide +kernel
theorem dX1_goes_180 : decode cX1_goes 180 = .ok (.ifCond .eq 12, 3) := by decide +kernel
theorem dX1_goes_183 : decode cX1_goes 183 = .ok (.aload_n 0, 1) := by decide +kernel
theorem dX1_goes_184 : decode cX1_goes 184 = .ok (.iload 5, 2) := by decide +kernel
theorem dX1_goes_186 : decode cX1_goes 186 = .ok (.iload_n 3, 1) := by decide +kernel
theorem dX1_goes_187 : decode cX1_goes 187 = .ok (.iload 4, 2) := by decide +kernel
theorem dX1_goes_189 : decode cX1_goes 189 = .ok (.invokevirtual 168, 3) := by decide +kernel
theorem dX1_goes_192 : decode cX1_goes 192 = .ok (.return_, 1) := by decide +kernel
theorem bX1_goes_0 {d : Nat} {h0 hE h : ea_H} {rv : Option ea_V} {r0 : Option Nat} {x1 : Int32} {x2 : Int32} (H : ∃ (d1 : Nat) (xc5 : Int32) (h2 : ea_H), ea_Met mX10_trainIn d1 [vI x1] h (some (vI xc5)) h2 ∧ d1 + 1 ≤ d ∧ ∃ (d6 : Nat) (xc10 : Int32) (h7 : ea_H), ea_Met mX10_stopIn d6 [vI x1] h2 (some (vI xc10)) h7 ∧ d6 + 1 ≤ d ∧ ∃ (d11 : Nat) (xc15 : Int32) (h12 : ea_H), ea_Met mX10_dayIn d11 [vI x1] h7 (some (vI xc15)) h12 ∧ d11 + 1 ≤ d ∧ ∃ a18, r0 = some a18 ∧ a18 < ea_n h12 ∧ ea_c h12 a18 = 1 ∧ ∃ a22, (ea_r h12 a18 11) = some a22 ∧ a22 < ea_n h12 ∧ ea_c h12 a22 = 9 ∧ ∃ a26, (ea_r h12 a22 2) = some a26 ∧ a26 < ea_n h12 ∧ ea_c h12 a26 = 20 ∧ vp_in (((8 : Int32) * xc5) + xc10) (ea_l h12 a26) ∧ a18 < ea_n h12 ∧ ea_c h12 a18 = 1 ∧ ∃ a33, (ea_r h12 a18 8) = some a33 ∧ a33 < ea_n h12 ∧ ea_c h12 a33 = 20 ∧ vp_in (ea_i h12 a26 (Int32.toNatClampNeg (((8 : Int32) * xc5) + xc10))) (ea_l h12 a33) ∧ ((ea_i h12 a33 (Int32.toNatClampNeg (ea_i h12 a26 (Int32.toNatClampNeg (((8 : Int32) * xc5) + xc10))))) ≤ (0 : Int32) → ea_W mX1_goes d h0 rv hE 162 [(0, vR r0), (3, vI xc5), (4, vI xc10), (5, vI (((10 : Int32) * xc15) + xc5))] [] h12) ∧ (¬ (ea_i h12 a33 (Int32.toNatClampNeg (ea_i h12 a26 (Int32.toNatClampNeg (((8 : Int32) * xc5) + xc10))))) ≤ (0 : Int32) → a18 < ea_n h12 ∧ ea_c h12 a18 = 1 ∧ a22 < ea_n h12 ∧ ea_c h12 a22 = 9 ∧ ∃ a42, (ea_r h12 a22 7) = some a42 ∧ a42 < ea_n h12 ∧ ea_c h12 a42 = 21 ∧ vp_in (((8 : Int32) * (((10 : Int32) * xc15) + xc5)) + xc10) (ea_l h12 a42) ∧ (¬ (ea_i h12 a42 (Int32.toNatClampNeg (((8 : Int32) * (((10 : Int32) * xc15) + xc5)) + xc10))) = (0 : Int32) → ea_W mX1_goes d h0 rv hE 162 [(0, vR r0), (3, vI xc5), (4, vI xc10), (5, vI (((10 : Int32) * xc15) + xc5))] [] h12) ∧ ((ea_i h12 a42 (Int32.toNatClampNeg (((8 : Int32) * (((10 : Int32) * xc15) + xc5)) + xc10))) = (0 : Int32) → ea_W mX1_goes d h0 rv hE 71 [(0, vR r0), (1, vI x1), (2, vI x2), (3, vI xc5), (4, vI xc10), (5, vI (((10 : Int32) * xc15) + xc5)), (6, vI (ea_i h12 a26 (Int32.toNatClampNeg (((8 : Int32) * xc5) + xc10)))), (7, vI 0)] [] h12))) : ea_W mX1_goes d h0 rv hE 0 [(0, vR r0), (1, vI x1), (2, vI x2)] [] h := by
  refine ea_iload_n (pc := 0) dX1_goes_0 rfl 1 rfl ?_
  obtain ⟨d1, xc5, h2, m3, q4, H⟩ := H
  refine ea_callS (pc := 1) (As := [vI x1]) (st := []) dX1_goes_1 kX10_trainIn m3 q4 rfl (Nat.le_of_ble_eq_true rfl) ew_670 ew_597 ?_
  refine ea_istore_n (pc := 4) (lv' := [(0, vR r0), (1, vI x1), (2, vI x2), (3, vI xc5)]) dX1_goes_4 rfl (Nat.le_of_ble_eq_true rfl) [1, 2, 3, 0] rfl ?_
  refine ea_iload_n (pc := 5) dX1_goes_5 rfl 1 rfl ?_
  obtain ⟨d6, xc10, h7, m8, q9, H⟩ := H
  refine ea_callS (pc := 6) (As := [vI x1]) (st := []) dX1_goes_6 kX10_stopIn m8 q9 rfl (Nat.le_of_ble_eq_true rfl) ew_671 ew_600 ?_
  refine ea_istore (pc := 9) (lv' := [(0, vR r0), (1, vI x1), (2, vI x2), (3, vI xc5), (4, vI xc10)]) dX1_goes_9 (Nat.le_of_ble_eq_true rfl) [1, 2, 3, 4, 0] rfl ?_
  refine ea_bipush (pc := 11) dX1_goes_11 (v := 10) rfl ?_
  refine ea_iload_n (pc := 13) dX1_goes_13 rfl 1 rfl ?_
  obtain ⟨d11, xc15, h12, m13, q14, H⟩ := H
  refine ea_callS (pc := 14) (As := [vI x1]) (st := [vI 10]) dX1_goes_14 kX10_dayIn m13 q14 rfl (Nat.le_of_ble_eq_true rfl) ew_672 ew_609 ?_
  refine ea_imul (pc := 17) dX1_goes_17 ?_
  refine ea_iload_n (pc := 18) dX1_goes_18 rfl 3 rfl ?_
  refine ea_iadd (pc := 19) dX1_goes_19 ?_
  refine ea_istore (pc := 20) (lv' := [(0, vR r0), (1, vI x1), (2, vI x2), (3, vI xc5), (4, vI xc10), (5, vI (((10 : Int32) * xc15) + xc5))]) dX1_goes_20 (Nat.le_of_ble_eq_true rfl) [1, 2, 3, 4, 5, 0] rfl ?_
  refine ea_aload_n (pc := 22) dX1_goes_22 rfl 0 rfl ?_
  obtain ⟨a18, e19, f16, g17, H⟩ := H
  refine ea_deref0 e19 ?_
  refine ea_getR (pc := 23) dX1_goes_23 ec_1 (k := 11) (Nat.le_of_ble_eq_true rfl) rfl (Or.inl ew_377) f16 g17 rfl ?_
  obtain ⟨a22, e23, f20, g21, H⟩ := H
  refine ea_deref0 e23 ?_
  refine ea_getR (pc := 26) dX1_goes_26 ec_9 (k := 2) (Nat.le_of_ble_eq_true rfl) rfl (Or.inl ew_186) f20 g21 rfl ?_
  refine ea_bipush (pc := 29) dX1_goes_29 (v := 8) rfl ?_
  refine ea_iload_n (pc := 31) dX1_goes_31 rfl 3 rfl ?_
  refine ea_imul (pc := 32) dX1_goes_32 ?_
  refine ea_iload (pc := 33) dX1_goes_33 4 rfl ?_
  refine ea_iadd (pc := 35) dX1_goes_35 ?_
  obtain ⟨a26, e27, f24, g25, H⟩ := H
  refine ea_deref1 e27 ?_
  obtain ⟨z28, H⟩ := H
  refine ea_iald (pc := 36) dX1_goes_36 f24 g25 z28 ?_
  refine ea_istore (pc := 37) (lv' := [(0, vR r0), (1, vI x1), (2, vI x2), (3, vI xc5), (4, vI xc10), (5, vI (((10 : Int32) * xc15) + xc5)), (6, vI (ea_i h12 a26 (Int32.toNatClampNeg (((8 : Int32) * xc5) + xc10))))]) dX1_goes_37 (Nat.le_of_ble_eq_true rfl) [1, 2, 3, 4, 5, 6, 0] rfl ?_
  refine ea_aload_n (pc := 39) dX1_goes_39 rfl 0 rfl ?_
  obtain ⟨f29, g30, H⟩ := H
  refine ea_deref0 e19 ?_
  refine ea_getR (pc := 40) dX1_goes_40 ec_1 (k := 8) (Nat.le_of_ble_eq_true rfl) rfl (Or.inl ew_374) f29 g30 rfl ?_
  refine ea_iload (pc := 43) dX1_goes_43 6 rfl ?_
  obtain ⟨a33, e34, f31, g32, H⟩ := H
  refine ea_deref1 e34 ?_
  obtain ⟨z35, H⟩ := H
  refine ea_iald (pc := 45) dX1_goes_45 f31 g32 z35 ?_
  refine ea_if_le (pc := 46) (tgt := 162) dX1_goes_46 rfl (fun c46 => ?_) (fun c46 => ?_)
  · have H := H.1 c46
    exact ea_fewer [0, 3, 4, 5] rfl H
  · have H := H.2 c46
    refine ea_aload_n (pc := 49) dX1_goes_49 rfl 0 rfl ?_
    obtain ⟨f36, g37, H⟩ := H
    refine ea_deref0 e19 ?_
    refine ea_getR (pc := 50) dX1_goes_50 ec_1 (k := 11) (Nat.le_of_ble_eq_true rfl) rfl (Or.inl ew_377) f36 g37 rfl ?_
    obtain ⟨f38, g39, H⟩ := H
    refine ea_deref0 e23 ?_
    refine ea_getR (pc := 53) dX1_goes_53 ec_9 (k := 7) (Nat.le_of_ble_eq_true rfl) rfl (Or.inl ew_200) f38 g39 rfl ?_
    refine ea_bipush (pc := 56) dX1_goes_56 (v := 8) rfl ?_
    refine ea_iload (pc := 58) dX1_goes_58 5 rfl ?_
    refine ea_imul (pc := 60) dX1_goes_60 ?_
    refine ea_iload (pc := 61) dX1_goes_61 4 rfl ?_
    refine ea_iadd (pc := 63) dX1_goes_63 ?_
    obtain ⟨a42, e43, f40, g41, H⟩ := H
    refine ea_deref1 e43 ?_
    obtain ⟨z44, H⟩ := H
    refine ea_zald (pc := 64) dX1_goes_64 f40 g41 z44 ?_
    refine ea_if_ne (pc := 65) (tgt := 162) dX1_goes_65 rfl (fun c45 => ?_) (fun c45 => ?_)
    · have H := H.1 c45
      exact ea_fewer [0, 3, 4, 5] rfl H
    · have H := H.2 c45
      refine ea_iconst (pc := 68) dX1_goes_68 (v := 0) rfl ?_
      refine ea_istore (pc := 69) (lv' := [(0, vR r0), (1, vI x1), (2, vI x2), (3, vI xc5), (4, vI xc10), (5, vI (((10 : Int32) * xc15) + xc5)), (6, vI (ea_i h12 a26 (Int32.toNatClampNeg (((8 : Int32) * xc5) + xc10)))), (7, vI 0)]) dX1_goes_69 (Nat.le_of_ble_eq_true rfl) [1, 2, 3, 4, 5, 6, 7, 0] rfl ?_
      exact H
theorem bX1_goes_71 {d : Nat} {h0 hE h : ea_H} {rv : Option ea_V} {r0 : Option Nat} {x1 : Int32} {x2 : Int32} {x3 : Int32} {x4 : Int32} {x5 : Int32} {x6 : Int32} {x7 : Int32} (H : ∃ a3, r0 = some a3 ∧ a3 < ea_n h ∧ ea_c h a3 = 1 ∧ ((ea_i h a3 0) ≤ x7 → ea_W mX1_goes d h0 rv hE 162 [(0, vR r0), (3, vI x3), (4, vI x4), (5, vI x5)] [] h) ∧ (¬ (ea_i h a3 0) ≤ x7 → a3 < ea_n h ∧ ea_c h a3 = 1 ∧ ∃ a9, (ea_r h a3 1) = some a9 ∧ a9 < ea_n h ∧ ea_c h a9 = 20 ∧ vp_in x7 (ea_l h a9) ∧ (¬ (ea_i h a9 (Int32.toNatClampNeg x7)) = (0 : Int32) → ea_W mX1_goes d h0 rv hE 71 [(0, vR r0), (1, vI x1), (2, vI x2), (3, vI x3), (4, vI x4), (5, vI x5), (6, vI x6), (7, vI (x7 + 1))] [] h) ∧ ((ea_i h a9 (Int32.toNatClampNeg x7)) = (0 : Int32) → a3 < ea_n h ∧ ea_c h a3 = 1 ∧ ∃ a16, (ea_r h a3 2) = some a16 ∧ a16 < ea_n h ∧ ea_c h a16 = 20 ∧ vp_in x7 (ea_l h a16) ∧ (¬ (ea_i h a16 (Int32.toNatClampNeg x7)) = x6 → ea_W mX1_goes d h0 rv hE 71 [(0, vR r0), (1, vI x1), (2, vI x2), (3, vI x3), (4, vI x4), (5, vI x5), (6, vI x6), (7, vI (x7 + 1))] [] h) ∧ ((ea_i h a16 (Int32.toNatClampNeg x7)) = x6 → a3 < ea_n h ∧ ea_c h a3 = 1 ∧ a3 < ea_n h ∧ ea_c h a3 = 1 ∧ ∃ a25, (ea_r h a3 14) = some a25 ∧ a25 < ea_n h ∧ ea_c h a25 = 23 ∧ vp_in x7 (ea_l h a25) ∧ ∃ a30, (ea_r h a25 (Int32.toNatClampNeg x7)) = some a30 ∧ a30 < ea_n h ∧ ea_c h a30 = 4 ∧ ∃ a38, (ea_r h a3 12) = some a38 ∧ a38 < ea_n h ∧ ea_c h a38 = 10 ∧ ∃ (d32 : Nat) (yc40 : Int64) (h33 : ea_H), ea_Met mX10_bestAtGoing d32 [vR (some a38), vI x5, vI x4, vI (ea_i h a30 2)] h (some (vJ yc40)) h33 ∧ d32 + 1 ≤ d ∧ ∃ (d41 : Nat) (xc45 : Int32) (h42 : ea_H), ea_Met mX10_begins d41 [vJ yc40, vI x1] h33 (some (vI xc45)) h42 ∧ d41 + 1 ≤ d ∧ (xc45 = (0 : Int32) → ea_W mX1_goes d h0 rv hE 71 [(0, vR r0), (1, vI x1), (2, vI x2), (3, vI x3), (4, vI x4), (5, vI x5), (6, vI x6), (7, vI (x7 + 1))] [] h42) ∧ (¬ xc45 = (0 : Int32) → a3 < ea_n h42 ∧ ea_c h42 a3 = 1 ∧ ∃ (d46 : Nat) (h47 : ea_H), ea_Met mX1_move d46 [vR (some a3), vI x7, vI x2, vI 1, vI x5] h42 none h47 ∧ d46 + 1 ≤ d ∧ a3 < ea_n h47 ∧ ea_c h47 a3 = 1 ∧ ∃ (d54 : Nat) (xc58 : Int32) (h55 : ea_H), ea_Met mX10_leftOf d54 [vJ yc40] h47 (some (vI xc58)) h55 ∧ d54 + 1 ≤ d ∧ ∃ a61, (ea_r h47 a3 3) = some a61 ∧ a61 < ea_n h55 ∧ ea_c h55 a61 = 20 ∧ vp_in x7 (ea_l h55 a61) ∧ ∀ h64, h64 = ea_wi h55 a61 (Int32.toNatClampNeg x7) xc58 → ea_W mX1_goes d h0 rv hE 71 [(0, vR r0), (1, vI x1), (2, vI x2), (3, vI x3), (4, vI x4), (5, vI x5), (6, vI x6), (7, vI (x7 + 1))] [] h64))))) : ea_W mX1_goes d h0 rv hE 71 [(0, vR r0), (1, vI x1), (2, vI x2), (3, vI x3), (4, vI x4), (5, vI x5), (6, vI x6), (7, vI x7)] [] h := by
  refine ea_iload (pc := 71) dX1_goes_71 7 rfl ?_
  refine ea_aload_n (pc := 73) dX1_goes_73 rfl 0 rfl ?_
  obtain ⟨a3, e4, f1, g2, H⟩ := H
  refine ea_deref0 e4 ?_
  refine ea_getI (pc := 74) dX1_goes_74 ec_1 (k := 0) (Nat.le_of_ble_eq_true rfl) rfl (Or.inl ew_359) f1 g2 ?_
  refine ea_icmp_ge (pc := 77) (tgt := 162) dX1_goes_77 rfl (fun c69 => ?_) (fun c69 => ?_)
  · have H := H.1 c69
    exact ea_fewer [0, 3, 4, 5] rfl H
  · have H := H.2 c69
    refine ea_aload_n (pc := 80) dX1_goes_80 rfl 0 rfl ?_
    obtain ⟨f5, g6, H⟩ := H
    refine ea_deref0 e4 ?_
    refine ea_getR (pc := 81) dX1_goes_81 ec_1 (k := 1) (Nat.le_of_ble_eq_true rfl) rfl (Or.inl ew_361) f5 g6 rfl ?_
    refine ea_iload (pc := 84) dX1_goes_84 7 rfl ?_
    obtain ⟨a9, e10, f7, g8, H⟩ := H
    refine ea_deref1 e10 ?_
    obtain ⟨z11, H⟩ := H
    refine ea_iald (pc := 86) dX1_goes_86 f7 g8 z11 ?_
    refine ea_if_ne (pc := 87) (tgt := 156) dX1_goes_87 rfl (fun c68 => ?_) (fun c68 => ?_)
    · have H := H.1 c68
      refine ea_iinc (pc := 156) (v := 1) (lv' := [(0, vR r0), (1, vI x1), (2, vI x2), (3, vI x3), (4, vI x4), (5, vI x5), (6, vI x6), (7, vI (x7 + 1))]) dX1_goes_156 7 rfl rfl (Nat.le_of_ble_eq_true rfl) [1, 2, 3, 4, 5, 6, 7, 0] rfl ?_
      refine ea_goto (pc := 159) (tgt := 71) dX1_goes_159 rfl ?_
      exact H
    · have H := H.2 c68
      refine ea_aload_n (pc := 90) dX1_goes_90 rfl 0 rfl ?_
      obtain ⟨f12, g13, H⟩ := H
      refine ea_deref0 e4 ?_
      refine ea_getR (pc := 91) dX1_goes_91 ec_1 (k := 2) (Nat.le_of_ble_eq_true rfl) rfl (Or.inl ew_363) f12 g13 rfl ?_
      refine ea_iload (pc := 94) dX1_goes_94 7 rfl ?_
      obtain ⟨a16, e17, f14, g15, H⟩ := H
      refine ea_deref1 e17 ?_
      obtain ⟨z18, H⟩ := H
      refine ea_iald (pc := 96) dX1_goes_96 f14 g15 z18 ?_
      refine ea_iload (pc := 97) dX1_goes_97 6 rfl ?_
      refine ea_icmp_ne (pc := 99) (tgt := 156) dX1_goes_99 rfl (fun c67 => ?_) (fun c67 => ?_)
      · have H := H.1 c67
        refine ea_iinc (pc := 156) (v := 1) (lv' := [(0, vR r0), (1, vI x1), (2, vI x2), (3, vI x3), (4, vI x4), (5, vI x5), (6, vI x6), (7, vI (x7 + 1))]) dX1_goes_156 7 rfl rfl (Nat.le_of_ble_eq_true rfl) [1, 2, 3, 4, 5, 6, 7, 0] rfl ?_
        refine ea_goto (pc := 159) (tgt := 71) dX1_goes_159 rfl ?_
        exact H
      · have H := H.2 c67
        refine ea_aload_n (pc := 102) dX1_goes_102 rfl 0 rfl ?_
        obtain ⟨f19, g20, H⟩ := H
        refine ea_deref0 e4 ?_
        refine ea_getR (pc := 103) dX1_goes_103 ec_1 (k := 12) (Nat.le_of_ble_eq_true rfl) rfl (Or.inl ew_378) f19 g20 rfl ?_
        refine ea_iload (pc := 106) dX1_goes_106 5 rfl ?_
        refine ea_iload (pc := 108) dX1_goes_108 4 rfl ?_
        refine ea_aload_n (pc := 110) dX1_goes_110 rfl 0 rfl ?_
        obtain ⟨f21, g22, H⟩ := H
        refine ea_deref0 e4 ?_
        refine ea_getR (pc := 111) dX1_goes_111 ec_1 (k := 14) (Nat.le_of_ble_eq_true rfl) rfl (Or.inl ew_380) f21 g22 rfl ?_
        refine ea_iload (pc := 114) dX1_goes_114 7 rfl ?_
        obtain ⟨a25, e26, f23, g24, H⟩ := H
        refine ea_deref1 e26 ?_
        obtain ⟨z27, H⟩ := H
        refine ea_aald23 (pc := 116) dX1_goes_116 f23 g24 z27 rfl ?_
        obtain ⟨a30, e31, f28, g29, H⟩ := H
        refine ea_deref0 e31 ?_
        refine ea_getI (pc := 117) dX1_goes_117 ec_4 (k := 2) (Nat.le_of_ble_eq_true rfl) rfl (Or.inl ew_939) f28 g29 ?_
        obtain ⟨a38, e39, f36, g37, H⟩ := H
        refine ea_deref3 e39 ?_
        obtain ⟨d32, yc40, h33, m34, q35, H⟩ := H
        refine ea_callV (pc := 120) (As := [vI x5, vI x4, vI (ea_i h a30 2)]) (st := []) dX1_goes_120 kX10_bestAtGoing m34 q35 rfl (Nat.le_of_ble_eq_true rfl) ew_673 ew_674 ew_675 (ci := 10) rfl (by decide) f36 g37 ?_
        refine ea_lstore (pc := 123) (lv' := [(0, vR r0), (1, vI x1), (2, vI x2), (3, vI x3), (4, vI x4), (5, vI x5), (6, vI x6), (7, vI x7), (8, vJ yc40)]) dX1_goes_123 (Nat.le_of_ble_eq_true rfl) [1, 2, 3, 4, 5, 6, 7, 8, 0] rfl ?_
        refine ea_lload (pc := 125) dX1_goes_125 8 rfl ?_
        refine ea_iload_n (pc := 127) dX1_goes_127 rfl 1 rfl ?_
        obtain ⟨d41, xc45, h42, m43, q44, H⟩ := H
        refine ea_callS (pc := 128) (As := [vJ yc40, vI x1]) (st := []) dX1_goes_128 kX10_begins m43 q44 rfl (Nat.le_of_ble_eq_true rfl) ew_677 ew_678 ?_
        refine ea_if_eq (pc := 131) (tgt := 156) dX1_goes_131 rfl (fun c66 => ?_) (fun c66 => ?_)
        · have H := H.1 c66
          refine ea_iinc (pc := 156) (v := 1) (lv' := [(0, vR r0), (1, vI x1), (2, vI x2), (3, vI x3), (4, vI x4), (5, vI x5), (6, vI x6), (7, vI (x7 + 1))]) dX1_goes_156 7 rfl rfl (Nat.le_of_ble_eq_true rfl) [1, 2, 3, 4, 5, 6, 7, 0] rfl ?_
          refine ea_goto (pc := 159) (tgt := 71) dX1_goes_159 rfl ?_
          exact H
        · have H := H.2 c66
          refine ea_aload_n (pc := 134) dX1_goes_134 rfl 0 rfl ?_
          refine ea_iload (pc := 135) dX1_goes_135 7 rfl ?_
          refine ea_iload_n (pc := 137) dX1_goes_137 rfl 2 rfl ?_
          refine ea_iconst (pc := 138) dX1_goes_138 (v := 1) rfl ?_
          refine ea_iload (pc := 139) dX1_goes_139 5 rfl ?_
          obtain ⟨f50, g51, H⟩ := H
          refine ea_deref4 e4 ?_
          obtain ⟨d46, h47, m48, q49, H⟩ := H
          refine ea_callV (pc := 141) (As := [vI x7, vI x2, vI 1, vI x5]) (st := []) dX1_goes_141 kX1_move m48 q49 rfl (Nat.le_of_ble_eq_true rfl) ew_645 ew_646 ew_647 (ci := 1) rfl (by decide) f50 g51 ?_
          refine ea_aload_n (pc := 144) dX1_goes_144 rfl 0 rfl ?_
          obtain ⟨f52, g53, H⟩ := H
          refine ea_deref0 e4 ?_
          refine ea_getR (pc := 145) dX1_goes_145 ec_1 (k := 3) (Nat.le_of_ble_eq_true rfl) rfl (Or.inl ew_365) f52 g53 rfl ?_
          refine ea_iload (pc := 148) dX1_goes_148 7 rfl ?_
          refine ea_lload (pc := 150) dX1_goes_150 8 rfl ?_
          obtain ⟨d54, xc58, h55, m56, q57, H⟩ := H
          refine ea_callS (pc := 152) (As := [vJ yc40]) (st := [vI x7, vR (ea_r h47 a3 3)]) dX1_goes_152 kX10_leftOf m56 q57 rfl (Nat.le_of_ble_eq_true rfl) ew_689 ew_690 ?_
          obtain ⟨a61, e62, f59, g60, H⟩ := H
          refine ea_deref2 e62 ?_
          obtain ⟨z63, H⟩ := H
          refine ea_iast (pc := 155) dX1_goes_155 f59 g60 z63 ?_
          obtain ⟨h64, E65⟩ : ∃ z, z = ea_wi h55 a61 (Int32.toNatClampNeg x7) xc58 := ⟨_, rfl⟩
          have H := H h64 E65
          refine ea_nm E65 ?_
          refine ea_iinc (pc := 156) (v := 1) (lv' := [(0, vR r0), (1, vI x1), (2, vI x2), (3, vI x3), (4, vI x4), (5, vI x5), (6, vI x6), (7, vI (x7 + 1))]) dX1_goes_156 7 rfl rfl (Nat.le_of_ble_eq_true rfl) [1, 2, 3, 4, 5, 6, 7, 0] rfl ?_
          refine ea_goto (pc := 159) (tgt := 71) dX1_goes_159 rfl ?_
          exact H
theorem bX1_goes_162 {d : Nat} {h0 hE h : ea_H} {rv : Option ea_V} {r0 : Option Nat} {x3 : Int32} {x4 : Int32} {x5 : Int32} (H : ∃ a3, r0 = some a3 ∧ a3 < ea_n h ∧ ea_c h a3 = 1 ∧ ∃ a7, (ea_r h a3 9) = some a7 ∧ a7 < ea_n h ∧ ea_c h a7 = 20 ∧ vp_in x5 (ea_l h a7) ∧ ((ea_i h a7 (Int32.toNatClampNeg x5)) ≤ (0 : Int32) → rv = none ∧ hE = h) ∧ (¬ (ea_i h a7 (Int32.toNatClampNeg x5)) ≤ (0 : Int32) → a3 < ea_n h ∧ ea_c h a3 = 1 ∧ ∃ a18, (ea_r h a3 13) = some a18 ∧ a18 < ea_n h ∧ ea_c h a18 = 3 ∧ ∃ (d12 : Nat) (xc20 : Int32) (h13 : ea_H), ea_Met mX3_sitsIn d12 [vR (some a18), vI x3] h (some (vI xc20)) h13 ∧ d12 + 1 ≤ d ∧ (xc20 = (0 : Int32) → rv = none ∧ hE = h13) ∧ (¬ xc20 = (0 : Int32) → a3 < ea_n h13 ∧ ea_c h13 a3 = 1 ∧ ∃ (d21 : Nat) (h22 : ea_H), ea_Met mX1_sort d21 [vR (some a3), vI x5, vI x3, vI x4] h13 none h22 ∧ d21 + 1 ≤ d ∧ rv = none ∧ hE = h22))) : ea_W mX1_goes d h0 rv hE 162 [(0, vR r0), (3, vI x3), (4, vI x4), (5, vI x5)] [] h := by
  refine ea_aload_n (pc := 162) dX1_goes_162 rfl 0 rfl ?_
  obtain ⟨a3, e4, f1, g2, H⟩ := H
  refine ea_deref0 e4 ?_
  refine ea_getR (pc := 163) dX1_goes_163 ec_1 (k := 9) (Nat.le_of_ble_eq_true rfl) rfl (Or.inl ew_375) f1 g2 rfl ?_
  refine ea_iload (pc := 166) dX1_goes_166 3 rfl ?_
  obtain ⟨a7, e8, f5, g6, H⟩ := H
  refine ea_deref1 e8 ?_
  obtain ⟨z9, H⟩ := H
  refine ea_iald (pc := 168) dX1_goes_168 f5 g6 z9 ?_
  refine ea_if_le (pc := 169) (tgt := 192) dX1_goes_169 rfl (fun c28 => ?_) (fun c28 => ?_)
  · have H := H.1 c28
    obtain ⟨rfl, rfl⟩ := H
    exact ea_return (pc := 192) dX1_goes_192 rfl
  · have H := H.2 c28
    refine ea_aload_n (pc := 172) dX1_goes_172 rfl 0 rfl ?_
    obtain ⟨f10, g11, H⟩ := H
    refine ea_deref0 e4 ?_
    refine ea_getR (pc := 173) dX1_goes_173 ec_1 (k := 13) (Nat.le_of_ble_eq_true rfl) rfl (Or.inl ew_379) f10 g11 rfl ?_
    refine ea_iload_n (pc := 176) dX1_goes_176 rfl 1 rfl ?_
    obtain ⟨a18, e19, f16, g17, H⟩ := H
    refine ea_deref1 e19 ?_
    obtain ⟨d12, xc20, h13, m14, q15, H⟩ := H
    refine ea_callV (pc := 177) (As := [vI x3]) (st := []) dX1_goes_177 kX3_sitsIn m14 q15 rfl (Nat.le_of_ble_eq_true rfl) ew_692 ew_693 ew_694 (ci := 3) rfl (by decide) f16 g17 ?_
    refine ea_if_eq (pc := 180) (tgt := 192) dX1_goes_180 rfl (fun c27 => ?_) (fun c27 => ?_)
    · have H := H.1 c27
      obtain ⟨rfl, rfl⟩ := H
      exact ea_return (pc := 192) dX1_goes_192 rfl
    · have H := H.2 c27
      refine ea_aload_n (pc := 183) dX1_goes_183 rfl 0 rfl ?_
      refine ea_iload (pc := 184) dX1_goes_184 3 rfl ?_
      refine ea_iload_n (pc := 186) dX1_goes_186 rfl 1 rfl ?_
      refine ea_iload (pc := 187) dX1_goes_187 2 rfl ?_
      obtain ⟨f25, g26, H⟩ := H
      refine ea_deref3 e4 ?_
      obtain ⟨d21, h22, m23, q24, H⟩ := H
      refine ea_callV (pc := 189) (As := [vI x5, vI x3, vI x4]) (st := []) dX1_goes_189 kX1_sort m23 q24 rfl (Nat.le_of_ble_eq_true rfl) ew_696 ew_698 ew_13 (ci := 1) rfl (by decide) f25 g26 ?_
      obtain ⟨rfl, rfl⟩ := H
      exact ea_return (pc := 192) dX1_goes_192 rfl
theorem dX1_sort_0 : decode cX1_sort 0 = .ok (.iload_n 3, 1) := by decide +kernel
theorem dX1_sort_1 : decode cX1_sort 1 = .ok (.iconst 1, 1) := by decide +kernel
theorem dX1_sort_2 : decode cX1_sort 2 = .ok (.iadd, 1) := by decide +kernel
theorem dX1_sort_3 : decode cX1_sort 3 = .ok (.aload_n 0, 1) := by decide +kernel
theorem dX1_sort_4 : decode cX1_sort 4 = .ok (.getfield 40, 3) := by decide +kernel
theorem dX1_sort_7 : decode cX1_sort 7 = .ok (.getfield 135, 3) := by decide +kernel
theorem dX1_sort_10 : decode cX1_sort 10 = .ok (.iload_n 2, 1) := by decide +kernel
theorem dX1_sort_11 : decode cX1_sort 11 = .ok (.iaload, 1) := by decide +kernel
theorem dX1_sort_12 : decode cX1_sort 12 = .ok (.if_icmp .lt 4, 3) := by decide +kernel
theorem dX1_sort_15 : decode cX1_sort 15 = .ok (.return_, 1) := by decide +kernel
theorem dX1_sort_16 : decode cX1_sort 16 = .ok (.aload_n 0, 1) := by decide +kernel
theorem dX1_sort_17 : decode cX1_sort 17 = .ok (.getfield 48, 3) := by decide +kernel
theorem dX1_sort_20 : decode cX1_sort 20 = .ok (.aload_n 0, 1) := by decide +kernel
theorem dX1_sort_21 : decode cX1_sort 21 = .ok (.getfield 40, 3) := by decide +kernel
theorem dX1_sort_24 : decode cX1_sort 24 = .ok (.getfield 171, 3) := by decide +kernel
theorem dX1_sort_27 : decode cX1_sort 27 = .ok (.bipush 8, 2) := by decide +kernel
theorem dX1_sort_29 : decode cX1_sort 29 = .ok (.iload_n 2, 1) := by decide +kernel
theorem dX1_sort_30 : decode cX1_sort 30 = .ok (.imul, 1) := by decide +kernel
theorem dX1_sort_31 : decode cX1_sort 31 = .ok (.iload_n 3, 1) := by decide +kernel
theorem dX1_sort_32 : decode cX1_sort 32 = .ok (.iadd, 1) := by decide +kernel
theorem dX1_sort_33 : decode cX1_sort 33 = .ok (.iconst 1, 1) := by decide +kernel
theorem dX1_sort_34 : decode cX1_sort 34 = .ok (.iadd, 1) := by decide +kernel
theorem dX1_sort_35 : decode cX1_sort 35 = .ok (.iaload, 1) := by decide +kernel
theorem dX1_sort_36 : decode cX1_sort 36 = .ok (.aload_n 0, 1) := by decide +kernel
theorem dX1_sort_37 : decode cX1_sort 37 = .ok (.getfield 40, 3) := by decide +kernel
theorem dX1_sort_40 : decode cX1_sort 40 = .ok (.getfield 173, 3) := by decide +kernel
theorem dX1_sort_43 : decode cX1_sort 43 = .ok (.bipush 8, 2) := by decide +kernel
theorem dX1_sort_45 : decode cX1_sort 45 = .ok (.iload_n 2, 1) := by decide +kernel
theorem dX1_sort_46 : decode cX1_sort 46 = .ok (.imul, 1) := by decide +kernel
theorem dX1_sort_47 : decode cX1_sort 47 = .ok (.iload_n 3, 1) := by decide +kernel
theorem dX1_sort_48 : decode cX1_sort 48 = .ok (.iadd, 1) := by decide +kernel
theorem dX1_sort_49 : decode cX1_sort 49 = .ok (.iaload, 1) := by decide +kernel
theorem dX1_sort_50 : decode cX1_sort 50 = .ok (.isub, 1) := by decide +kernel
theorem dX1_sort_51 : decode cX1_sort 51 = .ok (.invokevirtual 175, 3) := by decide +kernel
theorem dX1_sort_54 : decode cX1_sort 54 = .ok (.iconst 0, 1) := by decide +kernel
theorem dX1_sort_55 : decode cX1_sort 55 = .ok (.istore 4, 2) := by decide +kernel
theorem dX1_sort_57 : decode cX1_sort 57 = .ok (.iload 4, 2) := by decide +kernel
theorem dX1_sort_59 : decode cX1_sort 59 = .ok (.aload_n 0, 1) := by decide +kernel
theorem dX1_sort_60 : decode cX1_sort 60 = .ok (.getfield 40, 3) := by decide +kernel
theorem dX1_sort_63 : decode cX1_sort 63 = .ok (.getfield 135, 3) := by decide +kernel
theorem dX1_sort_66 : decode cX1_sort 66 = .ok (.iload_n 2, 1) := by decide +kernel
theorem dX1_sort_67 : decode cX1_sort 67 = .ok (.iaload, 1) := by decide +kernel
theorem dX1_sort_68 : decode cX1_sort 68 = .ok (.if_icmp .ge 93, 3) := by decide +kernel
theorem dX1_sort_71 : decode cX1_sort 71 = .ok (.aload_n 0, 1) := by decide +kernel
theorem dX1_sort_72 : decode cX1_sort 72 = .ok (.getfield 40, 3) := by decide +kernel
theorem dX1_sort_75 : decode cX1_sort 75 = .ok (.getfield 138, 3) := by decide +kernel
theorem dX1_sort_78 : decode cX1_sort 78 = .ok (.bipush 8, 2) := by decide +kernel
theorem dX1_sort_80 : decode cX1_sort 80 = .ok (.iload_n 2, 1) := by decide +kernel
theorem dX1_sort_81 : decode cX1_sort 81 = .ok (.imul, 1) := by decide +kernel
theorem dX1_sort_82 : decode cX1_sort 82 = .ok (.iload 4, 2) := by decide +kernel
theorem dX1_sort_84 : decode cX1_sort 84 = .ok (.iadd, 1) := by decide +kernel
theorem dX1_sort_85 : decode cX1_sort 85 = .ok (.iaload, 1) := by decide +kernel
theorem dX1_sort_86 : decode cX1_sort 86 = .ok (.istore 5, 2) := by decide +kernel
theorem dX1_sort_88 : decode cX1_sort 88 = .ok (.iconst 0, 1) := by decide +kernel
theorem dX1_sort_89 : decode cX1_sort 89 = .ok (.istore 6, 2) := by decide +kernel
theorem dX1_sort_91 : decode cX1_sort 91 = .ok (.iload 6, 2) := by decide +kernel
theorem dX1_sort_93 : decode cX1_sort 93 = .ok (.aload_n 0, 1) := by decide +kernel
theorem dX1_sort_94 : decode cX1_sort 94 = .ok (.getfield 60, 3) := by decide +kernel
theorem dX1_sort_97 : decode cX1_sort 97 = .ok (.if_icmp .ge 58, 3) := by decide +kernel
theorem dX1_sort_100 : decode cX1_sort 100 = .ok (.aload_n 0, 1) := by decide +kernel
theorem dX1_sort_101 : decode cX1_sort 101 = .ok (.iload 6, 2) := by decide +kernel
theorem dX1_sort_103 : decode cX1_sort 103 = .ok (.iload_n 1, 1) := by decide +kernel
theorem dX1_sort_104 : decode cX1_sort 104 = .ok (.invokevirtual 73, 3) := by decide +kernel
theorem dX1_sort_107 : decode cX1_sort 107 = .ok (.ifCond .eq 42, 3) := by decide +kernel
theorem dX1_sort_110 : decode cX1_sort 110 = .ok (.aload_n 0, 1) := by decide +kernel
theorem dX1_sort_111 : decode cX1_sort 111 = .ok (.getfield 24, 3) := by decide +kernel
theorem dX1_sort_114 : decode cX1_sort 114 = .ok (.iload 6, 2) := by decide +kernel
theorem dX1_sort_116 : decode cX1_sort 116 = .ok (.baload, 1) := by decide +kernel
theorem dX1_sort_117 : decode cX1_sort 117 = .ok (.ifCond .ne 32, 3) := by decide +kernel
theorem dX1_sort_120 : decode cX1_sort 120 = .ok (.aload_n 0, 1) := by decide +kernel
theorem dX1_sort_121 : decode cX1_sort 121 = .ok (.getfield 18, 3) := by decide +kernel
theorem dX1_sort_124 : decode cX1_sort 124 = .ok (.iload 6, 2) := by decide +kernel
theorem dX1_sort_126 : decode cX1_sort 126 = .ok (.iaload, 1) := by decide +kernel
theorem dX1_sort_127 : decode cX1_sort 127 = .ok (.iload 4, 2) := by decide +kernel
theorem dX1_sort_129 : decode cX1_sort 129 = .ok (.if_icmp .ne 20, 3) := by decide +kernel
theorem dX1_sort_132 : decode cX1_sort 132 = .ok (.aload_n 0, 1) := by decide +kernel
theorem dX1_sort_133 : decode cX1_sort 133 = .ok (.getfield 24, 3) := by decide +kernel
theorem dX1_sort_136 : decode cX1_sort 136 = .ok (.iload 6, 2) := by decide +kernel
theorem dX1_sort_138 : decode cX1_sort 138 = .ok (.aload_n 0, 1) := by decide +kernel
theorem dX1_sort_139 : decode cX1_sort 139 = .ok (.getfield 48, 3) := by decide +kernel
theorem dX1_sort_142 : decode cX1_sort 142 = .ok (.iload_n 2, 1) := by decide +kernel
theorem dX1_sort_143 : decode cX1_sort 143 = .ok (.iload 5, 2) := by decide +kernel
theorem dX1_sort_145 : decode cX1_sort 145 = .ok (.invokevirtual 178, 3) := by decide +kernel
theorem dX1_sort_148 : decode cX1_sort 148 = .ok (.bastore, 1) := by decide +kernel
theorem dX1_sort_149 : decode cX1_sort 149 = .ok (.iinc 6 1, 3) := by decide +kernel
theorem dX1_sort_152 : decode cX1_sort 152 = .ok (.goto (-61), 3) := by decide +kernel
theorem dX1_sort_155 : decode cX1_sort 155 = .ok (.iinc 4 1, 3) := by decide +kernel
theorem dX1_sort_158 : decode cX1_sort 158 = .ok (.goto (-101), 3) := by decide +kernel
theorem dX1_sort_161 : decode cX1_sort 161 = .ok (.return_, 1) := by decide +kernel
theorem bX1_sort_0 {d : Nat} {h0 hE h : ea_H} {rv : Option ea_V} {r0 : Option Nat} {x1 : Int32} {x2 : Int32} {x3 : Int32} (H : ∃ a3, r0 = some a3 ∧ a3 < ea_n h ∧ ea_c h a3 = 1 ∧ ∃ a7, (ea_r h a3 11) = some a7 ∧ a7 < ea_n h ∧ ea_c h a7 = 9 ∧ ∃ a11, (ea_r h a7 1) = some a11 ∧ a11 < ea_n h ∧ ea_c h a11 = 20 ∧ vp_in x2 (ea_l h a11) ∧ ((x3 + (1 : Int32)) < (ea_i h a11 (Int32.toNatClampNeg x2)) → a3 < ea_n h ∧ ea_c h a3 = 1 ∧ a3 < ea_n h ∧ ea_c h a3 = 1 ∧ a7 < ea_n h ∧ ea_c h a7 = 9 ∧ ∃ a22, (ea_r h a7 3) = some a22 ∧ a22 < ea_n h ∧ ea_c h a22 = 20 ∧ vp_in ((((8 : Int32) * x2) + x3) + (1 : Int32)) (ea_l h a22) ∧ a3 < ea_n h ∧ ea_c h a3 = 1 ∧ a7 < ea_n h ∧ ea_c h a7 = 9 ∧ ∃ a31, (ea_r h a7 4) = some a31 ∧ a31 < ea_n h ∧ ea_c h a31 = 20 ∧ vp_in (((8 : Int32) * x2) + x3) (ea_l h a31) ∧ ∃ a40, (ea_r h a3 13) = some a40 ∧ a40 < ea_n h ∧ ea_c h a40 = 3 ∧ ∃ (d34 : Nat) (h35 : ea_H), ea_Met mX3_begin d34 [vR (some a40), vI ((ea_i h a22 (Int32.toNatClampNeg ((((8 : Int32) * x2) + x3) + (1 : Int32)))) - (ea_i h a31 (Int32.toNatClampNeg (((8 : Int32) * x2) + x3))))] h none h35 ∧ d34 + 1 ≤ d ∧ ea_W mX1_sort d h0 rv hE 57 [(0, vR r0), (1, vI x1), (2, vI x2), (4, vI 0)] [] h35) ∧ (¬ (x3 + (1 : Int32)) < (ea_i h a11 (Int32.toNatClampNeg x2)) → rv = none ∧ hE = h)) : ea_W mX1_sort d h0 rv hE 0 [(0, vR r0), (1, vI x1), (2, vI x2), (3, vI x3)] [] h := by
  refine ea_iload_n (pc := 0) dX1_sort_0 rfl 3 rfl ?_
  refine ea_iconst (pc := 1) dX1_sort_1 (v := 1) rfl ?_
  refine ea_iadd (pc := 2) dX1_sort_2 ?_
  refine ea_aload_n (pc := 3) dX1_sort_3 rfl 0 rfl ?_
  obtain ⟨a3, e4, f1, g2, H⟩ := H
  refine ea_deref0 e4 ?_
  refine ea_getR (pc := 4) dX1_sort_4 ec_1 (k := 11) (Nat.le_of_ble_eq_true rfl) rfl (Or.inl ew_377) f1 g2 rfl ?_
  obtain ⟨a7, e8, f5, g6, H⟩ := H
  refine ea_deref0 e8 ?_
  refine ea_getR (pc := 7) dX1_sort_7 ec_9 (k := 1) (Nat.le_of_ble_eq_true rfl) rfl (Or.inl ew_182) f5 g6 rfl ?_
  refine ea_iload_n (pc := 10) dX1_sort_10 rfl 2 rfl ?_
  obtain ⟨a11, e12, f9, g10, H⟩ := H
  refine ea_deref1 e12 ?_
  obtain ⟨z13, H⟩ := H
  refine ea_iald (pc := 11) dX1_sort_11 f9 g10 z13 ?_
  refine ea_icmp_lt (pc := 12) (tgt := 16) dX1_sort_12 rfl (fun c42 => ?_) (fun c42 => ?_)
  · have H := H.1 c42
    refine ea_aload_n (pc := 16) dX1_sort_16 rfl 0 rfl ?_
    obtain ⟨f14, g15, H⟩ := H
    refine ea_deref0 e4 ?_
    refine ea_getR (pc := 17) dX1_sort_17 ec_1 (k := 13) (Nat.le_of_ble_eq_true rfl) rfl (Or.inl ew_379) f14 g15 rfl ?_
    refine ea_aload_n (pc := 20) dX1_sort_20 rfl 0 rfl ?_
    obtain ⟨f16, g17, H⟩ := H
    refine ea_deref0 e4 ?_
    refine ea_getR (pc := 21) dX1_sort_21 ec_1 (k := 11) (Nat.le_of_ble_eq_true rfl) rfl (Or.inl ew_377) f16 g17 rfl ?_
    obtain ⟨f18, g19, H⟩ := H
    refine ea_deref0 e8 ?_
    refine ea_getR (pc := 24) dX1_sort_24 ec_9 (k := 3) (Nat.le_of_ble_eq_true rfl) rfl (Or.inl ew_190) f18 g19 rfl ?_
    refine ea_bipush (pc := 27) dX1_sort_27 (v := 8) rfl ?_
    refine ea_iload_n (pc := 29) dX1_sort_29 rfl 2 rfl ?_
    refine ea_imul (pc := 30) dX1_sort_30 ?_
    refine ea_iload_n (pc := 31) dX1_sort_31 rfl 3 rfl ?_
    refine ea_iadd (pc := 32) dX1_sort_32 ?_
    refine ea_iconst (pc := 33) dX1_sort_33 (v := 1) rfl ?_
    refine ea_iadd (pc := 34) dX1_sort_34 ?_
    obtain ⟨a22, e23, f20, g21, H⟩ := H
    refine ea_deref1 e23 ?_
    obtain ⟨z24, H⟩ := H
    refine ea_iald (pc := 35) dX1_sort_35 f20 g21 z24 ?_
    refine ea_aload_n (pc := 36) dX1_sort_36 rfl 0 rfl ?_
    obtain ⟨f25, g26, H⟩ := H
    refine ea_deref0 e4 ?_
    refine ea_getR (pc := 37) dX1_sort_37 ec_1 (k := 11) (Nat.le_of_ble_eq_true rfl) rfl (Or.inl ew_377) f25 g26 rfl ?_
    obtain ⟨f27, g28, H⟩ := H
    refine ea_deref0 e8 ?_
    refine ea_getR (pc := 40) dX1_sort_40 ec_9 (k := 4) (Nat.le_of_ble_eq_true rfl) rfl (Or.inl ew_193) f27 g28 rfl ?_
    refine ea_bipush (pc := 43) dX1_sort_43 (v := 8) rfl ?_
    refine ea_iload_n (pc := 45) dX1_sort_45 rfl 2 rfl ?_
    refine ea_imul (pc := 46) dX1_sort_46 ?_
    refine ea_iload_n (pc := 47) dX1_sort_47 rfl 3 rfl ?_
    refine ea_iadd (pc := 48) dX1_sort_48 ?_
    obtain ⟨a31, e32, f29, g30, H⟩ := H
    refine ea_deref1 e32 ?_
    obtain ⟨z33, H⟩ := H
    refine ea_iald (pc := 49) dX1_sort_49 f29 g30 z33 ?_
    refine ea_isub (pc := 50) dX1_sort_50 ?_
    obtain ⟨a40, e41, f38, g39, H⟩ := H
    refine ea_deref1 e41 ?_
    obtain ⟨d34, h35, m36, q37, H⟩ := H
    refine ea_callV (pc := 51) (As := [vI ((ea_i h a22 (Int32.toNatClampNeg ((((8 : Int32) * x2) + x3) + (1 : Int32)))) - (ea_i h a31 (Int32.toNatClampNeg (((8 : Int32) * x2) + x3))))]) (st := []) dX1_sort_51 kX3_begin m36 q37 rfl (Nat.le_of_ble_eq_true rfl) ew_700 ew_701 ew_702 (ci := 3) rfl (by decide) f38 g39 ?_
    refine ea_iconst (pc := 54) dX1_sort_54 (v := 0) rfl ?_
    refine ea_istore (pc := 55) (lv' := [(0, vR r0), (1, vI x1), (2, vI x2), (4, vI 0)]) dX1_sort_55 (Nat.le_of_ble_eq_true rfl) [1, 2, 3, 0] rfl ?_
    exact H
  · have H := H.2 c42
    obtain ⟨rfl, rfl⟩ := H
    exact ea_return (pc := 15) dX1_sort_15 rfl
theorem bX1_sort_57 {d : Nat} {h0 hE h : ea_H} {rv : Option ea_V} {r0 : Option Nat} {x1 : Int32} {x2 : Int32} {x4 : Int32} (H : ∃ a3, r0 = some a3 ∧ a3 < ea_n h ∧ ea_c h a3 = 1 ∧ ∃ a7, (ea_r h a3 11) = some a7 ∧ a7 < ea_n h ∧ ea_c h a7 = 9 ∧ ∃ a11, (ea_r h a7 1) = some a11 ∧ a11 < ea_n h ∧ ea_c h a11 = 20 ∧ vp_in x2 (ea_l h a11) ∧ ((ea_i h a11 (Int32.toNatClampNeg x2)) ≤ x4 → rv = none ∧ hE = h) ∧ (¬ (ea_i h a11 (Int32.toNatClampNeg x2)) ≤ x4 → a3 < ea_n h ∧ ea_c h a3 = 1 ∧ a7 < ea_n h ∧ ea_c h a7 = 9 ∧ ∃ a20, (ea_r h a7 2) = some a20 ∧ a20 < ea_n h ∧ ea_c h a20 = 20 ∧ vp_in (((8 : Int32) * x2) + x4) (ea_l h a20) ∧ ea_W mX1_sort d h0 rv hE 91 [(0, vR r0), (1, vI x1), (2, vI x2), (4, vI x4), (5, vI (ea_i h a20 (Int32.toNatClampNeg (((8 : Int32) * x2) + x4)))), (6, vI 0)] [] h)) : ea_W mX1_sort d h0 rv hE 57 [(0, vR r0), (1, vI x1), (2, vI x2), (4, vI x4)] [] h := by
  refine ea_iload (pc := 57) dX1_sort_57 3 rfl ?_
  refine ea_aload_n (pc := 59) dX1_sort_59 rfl 0 rfl ?_
  obtain ⟨a3, e4, f1, g2, H⟩ := H
  refine ea_deref0 e4 ?_
  refine ea_getR (pc := 60) dX1_sort_60 ec_1 (k := 11) (Nat.le_of_ble_eq_true rfl) rfl (Or.inl ew_377) f1 g2 rfl ?_
  obtain ⟨a7, e8, f5, g6, H⟩ := H
  refine ea_deref0 e8 ?_
  refine ea_getR (pc := 63) dX1_sort_63 ec_9 (k := 1) (Nat.le_of_ble_eq_true rfl) rfl (Or.inl ew_182) f5 g6 rfl ?_
  refine ea_iload_n (pc := 66) dX1_sort_66 rfl 2 rfl ?_
  obtain ⟨a11, e12, f9, g10, H⟩ := H
  refine ea_deref1 e12 ?_
  obtain ⟨z13, H⟩ := H
  refine ea_iald (pc := 67) dX1_sort_67 f9 g10 z13 ?_
  refine ea_icmp_ge (pc := 68) (tgt := 161) dX1_sort_68 rfl (fun c23 => ?_) (fun c23 => ?_)
  · have H := H.1 c23
    obtain ⟨rfl, rfl⟩ := H
    exact ea_return (pc := 161) dX1_sort_161 rfl
  · have H := H.2 c23
    refine ea_aload_n (pc := 71) dX1_sort_71 rfl 0 rfl ?_
    obtain ⟨f14, g15, H⟩ := H
    refine ea_deref0 e4 ?_
    refine ea_getR (pc := 72) dX1_sort_72 ec_1 (k := 11) (Nat.le_of_ble_eq_true rfl) rfl (Or.inl ew_377) f14 g15 rfl ?_
    obtain ⟨f16, g17, H⟩ := H
    refine ea_deref0 e8 ?_
    refine ea_getR (pc := 75) dX1_sort_75 ec_9 (k := 2) (Nat.le_of_ble_eq_true rfl) rfl (Or.inl ew_186) f16 g17 rfl ?_
    refine ea_bipush (pc := 78) dX1_sort_78 (v := 8) rfl ?_
    refine ea_iload_n (pc := 80) dX1_sort_80 rfl 2 rfl ?_
    refine ea_imul (pc := 81) dX1_sort_81 ?_
    refine ea_iload (pc := 82) dX1_sort_82 3 rfl ?_
    refine ea_iadd (pc := 84) dX1_sort_84 ?_
    obtain ⟨a20, e21, f18, g19, H⟩ := H
    refine ea_deref1 e21 ?_
    obtain ⟨z22, H⟩ := H
    refine ea_iald (pc := 85) dX1_sort_85 f18 g19 z22 ?_
    refine ea_istore (pc := 86) (lv' := [(0, vR r0), (1, vI x1), (2, vI x2), (4, vI x4), (5, vI (ea_i h a20 (Int32.toNatClampNeg (((8 : Int32) * x2) + x4))))]) dX1_sort_86 (Nat.le_of_ble_eq_true rfl) [1, 2, 3, 4, 0] rfl ?_
    refine ea_iconst (pc := 88) dX1_sort_88 (v := 0) rfl ?_
    refine ea_istore (pc := 89) (lv' := [(0, vR r0), (1, vI x1), (2, vI x2), (4, vI x4), (5, vI (ea_i h a20 (Int32.toNatClampNeg (((8 : Int32) * x2) + x4)))), (6, vI 0)]) dX1_sort_89 (Nat.le_of_ble_eq_true rfl) [1, 2, 3, 4, 5, 0] rfl ?_
    exact H
theorem bX1_sort_91 {d : Nat} {h0 hE h : ea_H} {rv : Option ea_V} {r0 : Option Nat} {x1 : Int32} {x2 : Int32} {x4 : Int32} {x5 : Int32} {x6 : Int32} (H : ∃ a3, r0 = some a3 ∧ a3 < ea_n h ∧ ea_c h a3 = 1 ∧ ((ea_i h a3 0) ≤ x6 → ea_W mX1_sort d h0 rv hE 57 [(0, vR r0), (1, vI x1), (2, vI x2), (4, vI (x4 + 1))] [] h) ∧ (¬ (ea_i h a3 0) ≤ x6 → a3 < ea_n h ∧ ea_c h a3 = 1 ∧ ∃ (d5 : Nat) (xc11 : Int32) (h6 : ea_H), ea_Met mX1_isAboard d5 [vR (some a3), vI x6, vI x1] h (some (vI xc11)) h6 ∧ d5 + 1 ≤ d ∧ (xc11 = (0 : Int32) → ea_W mX1_sort d h0 rv hE 91 [(0, vR r0), (1, vI x1), (2, vI x2), (4, vI x4), (5, vI x5), (6, vI (x6 + 1))] [] h6) ∧ (¬ xc11 = (0 : Int32) → a3 < ea_n h6 ∧ ea_c h6 a3 = 1 ∧ ∃ a16, (ea_r h6 a3 5) = some a16 ∧ a16 < ea_n h6 ∧ ea_c h6 a16 = 21 ∧ vp_in x6 (ea_l h6 a16) ∧ (¬ (ea_i h6 a16 (Int32.toNatClampNeg x6)) = (0 : Int32) → ea_W mX1_sort d h0 rv hE 91 [(0, vR r0), (1, vI x1), (2, vI x2), (4, vI x4), (5, vI x5), (6, vI (x6 + 1))] [] h6) ∧ ((ea_i h6 a16 (Int32.toNatClampNeg x6)) = (0 : Int32) → a3 < ea_n h6 ∧ ea_c h6 a3 = 1 ∧ ∃ a23, (ea_r h6 a3 3) = some a23 ∧ a23 < ea_n h6 ∧ ea_c h6 a23 = 20 ∧ vp_in x6 (ea_l h6 a23) ∧ (¬ (ea_i h6 a23 (Int32.toNatClampNeg x6)) = x4 → ea_W mX1_sort d h0 rv hE 91 [(0, vR r0), (1, vI x1), (2, vI x2), (4, vI x4), (5, vI x5), (6, vI (x6 + 1))] [] h6) ∧ ((ea_i h6 a23 (Int32.toNatClampNeg x6)) = x4 → a3 < ea_n h6 ∧ ea_c h6 a3 = 1 ∧ a3 < ea_n h6 ∧ ea_c h6 a3 = 1 ∧ ∃ a36, (ea_r h6 a3 13) = some a36 ∧ a36 < ea_n h6 ∧ ea_c h6 a36 = 3 ∧ ∃ (d30 : Nat) (xc38 : Int32) (h31 : ea_H), ea_Met mX3_sortsOne d30 [vR (some a36), vI x2, vI x5] h6 (some (vI xc38)) h31 ∧ d30 + 1 ≤ d ∧ a16 < ea_n h31 ∧ ea_c h31 a16 = 21 ∧ vp_in x6 (ea_l h31 a16) ∧ (xc38 = 0 ∨ xc38 = 1) ∧ ∀ h42, h42 = ea_wi h31 a16 (Int32.toNatClampNeg x6) xc38 → ea_W mX1_sort d h0 rv hE 91 [(0, vR r0), (1, vI x1), (2, vI x2), (4, vI x4), (5, vI x5), (6, vI (x6 + 1))] [] h42))))) : ea_W mX1_sort d h0 rv hE 91 [(0, vR r0), (1, vI x1), (2, vI x2), (4, vI x4), (5, vI x5), (6, vI x6)] [] h := by
  refine ea_iload (pc := 91) dX1_sort_91 5 rfl ?_
  refine ea_aload_n (pc := 93) dX1_sort_93 rfl 0 rfl ?_
  obtain ⟨a3, e4, f1, g2, H⟩ := H
  refine ea_deref0 e4 ?_
  refine ea_getI (pc := 94) dX1_sort_94 ec_1 (k := 0) (Nat.le_of_ble_eq_true rfl) rfl (Or.inl ew_359) f1 g2 ?_
  refine ea_icmp_ge (pc := 97) (tgt := 155) dX1_sort_97 rfl (fun c48 => ?_) (fun c48 => ?_)
  · have H := H.1 c48
    refine ea_iinc (pc := 155) (v := 1) (lv' := [(0, vR r0), (1, vI x1), (2, vI x2), (4, vI (x4 + 1))]) dX1_sort_155 3 rfl rfl (Nat.le_of_ble_eq_true rfl) [1, 2, 3, 0] rfl ?_
    refine ea_goto (pc := 158) (tgt := 57) dX1_sort_158 rfl ?_
    exact H
  · have H := H.2 c48
    refine ea_aload_n (pc := 100) dX1_sort_100 rfl 0 rfl ?_
    refine ea_iload (pc := 101) dX1_sort_101 5 rfl ?_
    refine ea_iload_n (pc := 103) dX1_sort_103 rfl 1 rfl ?_
    obtain ⟨f9, g10, H⟩ := H
    refine ea_deref2 e4 ?_
    obtain ⟨d5, xc11, h6, m7, q8, H⟩ := H
    refine ea_callV (pc := 104) (As := [vI x6, vI x1]) (st := []) dX1_sort_104 kX1_isAboard m7 q8 rfl (Nat.le_of_ble_eq_true rfl) ew_704 ew_705 ew_706 (ci := 1) rfl (by decide) f9 g10 ?_
    refine ea_if_eq (pc := 107) (tgt := 149) dX1_sort_107 rfl (fun c47 => ?_) (fun c47 => ?_)
    · have H := H.1 c47
      refine ea_iinc (pc := 149) (v := 1) (lv' := [(0, vR r0), (1, vI x1), (2, vI x2), (4, vI x4), (5, vI x5), (6, vI (x6 + 1))]) dX1_sort_149 5 rfl rfl (Nat.le_of_ble_eq_true rfl) [1, 2, 3, 4, 5, 0] rfl ?_
      refine ea_goto (pc := 152) (tgt := 91) dX1_sort_152 rfl ?_
      exact H
    · have H := H.2 c47
      refine ea_aload_n (pc := 110) dX1_sort_110 rfl 0 rfl ?_
      obtain ⟨f12, g13, H⟩ := H
      refine ea_deref0 e4 ?_
      refine ea_getR (pc := 111) dX1_sort_111 ec_1 (k := 5) (Nat.le_of_ble_eq_true rfl) rfl (Or.inl ew_369) f12 g13 rfl ?_
      refine ea_iload (pc := 114) dX1_sort_114 5 rfl ?_
      obtain ⟨a16, e17, f14, g15, H⟩ := H
      refine ea_deref1 e17 ?_
      obtain ⟨z18, H⟩ := H
      refine ea_zald (pc := 116) dX1_sort_116 f14 g15 z18 ?_
      refine ea_if_ne (pc := 117) (tgt := 149) dX1_sort_117 rfl (fun c46 => ?_) (fun c46 => ?_)
      · have H := H.1 c46
        refine ea_iinc (pc := 149) (v := 1) (lv' := [(0, vR r0), (1, vI x1), (2, vI x2), (4, vI x4), (5, vI x5), (6, vI (x6 + 1))]) dX1_sort_149 5 rfl rfl (Nat.le_of_ble_eq_true rfl) [1, 2, 3, 4, 5, 0] rfl ?_
        refine ea_goto (pc := 152) (tgt := 91) dX1_sort_152 rfl ?_
        exact H
      · have H := H.2 c46
        refine ea_aload_n (pc := 120) dX1_sort_120 rfl 0 rfl ?_
        obtain ⟨f19, g20, H⟩ := H
        refine ea_deref0 e4 ?_
        refine ea_getR (pc := 121) dX1_sort_121 ec_1 (k := 3) (Nat.le_of_ble_eq_true rfl) rfl (Or.inl ew_365) f19 g20 rfl ?_
        refine ea_iload (pc := 124) dX1_sort_124 5 rfl ?_
        obtain ⟨a23, e24, f21, g22, H⟩ := H
        refine ea_deref1 e24 ?_
        obtain ⟨z25, H⟩ := H
        refine ea_iald (pc := 126) dX1_sort_126 f21 g22 z25 ?_
        refine ea_iload (pc := 127) dX1_sort_127 3 rfl ?_
        refine ea_icmp_ne (pc := 129) (tgt := 149) dX1_sort_129 rfl (fun c45 => ?_) (fun c45 => ?_)
        · have H := H.1 c45
          refine ea_iinc (pc := 149) (v := 1) (lv' := [(0, vR r0), (1, vI x1), (2, vI x2), (4, vI x4), (5, vI x5), (6, vI (x6 + 1))]) dX1_sort_149 5 rfl rfl (Nat.le_of_ble_eq_true rfl) [1, 2, 3, 4, 5, 0] rfl ?_
          refine ea_goto (pc := 152) (tgt := 91) dX1_sort_152 rfl ?_
          exact H
        · have H := H.2 c45
          refine ea_aload_n (pc := 132) dX1_sort_132 rfl 0 rfl ?_
          obtain ⟨f26, g27, H⟩ := H
          refine ea_deref0 e4 ?_
          refine ea_getR (pc := 133) dX1_sort_133 ec_1 (k := 5) (Nat.le_of_ble_eq_true rfl) rfl (Or.inl ew_369) f26 g27 rfl ?_
          refine ea_iload (pc := 136) dX1_sort_136 5 rfl ?_
          refine ea_aload_n (pc := 138) dX1_sort_138 rfl 0 rfl ?_
          obtain ⟨f28, g29, H⟩ := H
          refine ea_deref0 e4 ?_
          refine ea_getR (pc := 139) dX1_sort_139 ec_1 (k := 13) (Nat.le_of_ble_eq_true rfl) rfl (Or.inl ew_379) f28 g29 rfl ?_
          refine ea_iload_n (pc := 142) dX1_sort_142 rfl 2 rfl ?_
          refine ea_iload (pc := 143) dX1_sort_143 4 rfl ?_
          obtain ⟨a36, e37, f34, g35, H⟩ := H
          refine ea_deref2 e37 ?_
          obtain ⟨d30, xc38, h31, m32, q33, H⟩ := H
          refine ea_callV (pc := 145) (As := [vI x2, vI x5]) (st := [vI x6, vR (ea_r h6 a3 5)]) dX1_sort_145 kX3_sortsOne m32 q33 rfl (Nat.le_of_ble_eq_true rfl) ew_708 ew_709 ew_710 (ci := 3) rfl (by decide) f34 g35 ?_
          obtain ⟨f39, g40, H⟩ := H
          refine ea_deref2 e17 ?_
          obtain ⟨z41, H⟩ := H
          obtain ⟨z44, H⟩ := H
          refine ea_zast (pc := 148) dX1_sort_148 (y := xc38) (ea_bn z44) f39 g40 z41 ?_
          obtain ⟨h42, E43⟩ : ∃ z, z = ea_wi h31 a16 (Int32.toNatClampNeg x6) xc38 := ⟨_, rfl⟩
          have H := H h42 E43
          refine ea_nm E43 ?_
          refine ea_iinc (pc := 149) (v := 1) (lv' := [(0, vR r0), (1, vI x1), (2, vI x2), (4, vI x4), (5, vI x5), (6, vI (x6 + 1))]) dX1_sort_149 5 rfl rfl (Nat.le_of_ble_eq_true rfl) [1, 2, 3, 4, 5, 0] rfl ?_
          refine ea_goto (pc := 152) (tgt := 91) dX1_sort_152 rfl ?_
          exact H
theorem dX11_init_0 : decode cX11_init 0 = .ok (.aload_n 0, 1) := by decide +kernel
theorem dX11_init_1 : decode cX11_init 1 = .ok (.invokespecial 3, 3) := by decide +kernel
theorem dX11_init_4 : decode cX11_init 4 = .ok (.aload_n 0, 1) := by decide +kernel
theorem dX11_init_5 : decode cX11_init 5 = .ok (.new 9, 3) := by decide +kernel
theorem dX11_init_8 : decode cX11_init 8 = .ok (.dup, 1) := by decide +kernel
theorem dX11_init_9 : decode cX11_init 9 = .ok (.invokespecial 11, 3) := by decide +kernel
theorem dX11_init_12 : decode cX11_init 12 = .ok (.putfield 12, 3) := by decide +kernel
theorem dX11_init_15 : decode cX11_init 15 = .ok (.aload_n 0, 1) := by decide +kernel
theorem dX11_init_16 : decode cX11_init 16 = .ok (.new 16, 3) := by decide +kernel
theorem dX11_init_19 : decode cX11_init 19 = .ok (.dup, 1) := by decide +kernel
theorem dX11_init_20 : decode cX11_init 20 = .ok (.invokespecial 18, 3) := by decide +kernel
theorem dX11_init_23 : decode cX11_init 23 = .ok (.putfield 19, 3) := by decide +kernel
theorem dX11_init_26 : decode cX11_init 26 = .ok (.aload_n 0, 1) := by decide +kernel
theorem dX11_init_27 : decode cX11_init 27 = .ok (.new 23, 3) := by decide +kernel
theorem dX11_init_30 : decode cX11_init 30 = .ok (.dup, 1) := by decide +kernel
theorem dX11_init_31 : decode cX11_init 31 = .ok (.aload_n 0, 1) := by decide +kernel
theorem dX11_init_32 : decode cX11_init 32 = .ok (.getfield 19, 3) := by decide +kernel
theorem dX11_init_35 : decode cX11_init 35 = .ok (.invokespecial 25, 3) := by decide +kernel
theorem dX11_init_38 : decode cX11_init 38 = .ok (.putfield 28, 3) := by decide +kernel
theorem dX11_init_41 : decode cX11_init 41 = .ok (.aload_n 0, 1) := by decide +kernel
theorem dX11_init_42 : decode cX11_init 42 = .ok (.new 32, 3) := by decide +kernel
theorem dX11_init_45 : decode cX11_init 45 = .ok (.dup, 1) := by decide +kernel
theorem dX11_init_46 : decode cX11_init 46 = .ok (.invokespecial 34, 3) := by decide +kernel
theorem dX11_init_49 : decode cX11_init 49 = .ok (.putfield 35, 3) := by decide +kernel
theorem dX11_init_52 : decode cX11_init 52 = .ok (.aload_n 0, 1) := by decide +kernel
theorem dX11_init_53 : decode cX11_init 53 = .ok (.new 39, 3) := by decide +kernel
theorem dX11_init_56 : decode cX11_init 56 = .ok (.dup, 1) := by decide +kernel
theorem dX11_init_57 : decode cX11_init 57 = .ok (.invokespecial 41, 3) := by decide +kernel
theorem dX11_init_60 : decode cX11_init 60 = .ok (.putfield 42, 3) := by decide +kernel
theorem dX11_init_63 : decode cX11_init 63 = .ok (.aload_n 0, 1) := by decide +kernel
theorem dX11_init_64 : decode cX11_init 64 = .ok (.bipush 120, 2) := by decide +kernel
theorem dX11_init_66 : decode cX11_init 66 = .ok (.anewarray 46, 3) := by decide +kernel
theorem dX11_init_69 : decode cX11_init 69 = .ok (.putfield 48, 3) := by decide +kernel
theorem dX11_init_72 : decode cX11_init 72 = .ok (.aload_n 0, 1) := by decide +kernel
theorem dX11_init_73 : decode cX11_init 73 = .ok (.new 52, 3) := by decide +kernel
theorem dX11_init_76 : decode cX11_init 76 = .ok (.dup, 1) := by decide +kernel
theorem dX11_init_77 : decode cX11_init 77 = .ok (.aload_n 0, 1) := by decide +kernel
theorem dX11_init_78 : decode cX11_init 78 = .ok (.getfield 19, 3) := by decide +kernel
theorem dX11_init_81 : decode cX11_init 81 = .ok (.aload_n 0, 1) := by decide +kernel
theorem dX11_init_82 : decode cX11_init 82 = .ok (.getfield 28, 3) := by decide +kernel
theorem dX11_init_85 : decode cX11_init 85 = .ok (.aload_n 0, 1) := by decide +kernel
theorem dX11_init_86 : decode cX11_init 86 = .ok (.getfield 35, 3) := by decide +kernel
theorem dX11_init_89 : decode cX11_init 89 = .ok (.aload_n 0, 1) := by decide +kernel
theorem dX11_init_90 : decode cX11_init 90 = .ok (.getfield 48, 3) := by decide +kernel
theorem dX11_init_93 : decode cX11_init 93 = .ok (.iconst 1, 1) := by decide +kernel
theorem dX11_init_94 : decode cX11_init 94 = .ok (.invokespecial 54, 3) := by decide +kernel
theorem dX11_init_97 : decode cX11_init 97 = .ok (.putfield 57, 3) := by decide +kernel
theorem dX11_init_100 : decode cX11_init 100 = .ok (.aload_n 0, 1) := by decide +kernel
theorem dX11_init_101 : decode cX11_init 101 = .ok (.new 52, 3) := by decide +kernel
theorem dX11_init_104 : decode cX11_init 104 = .ok (.dup, 1) := by decide +kernel
theorem dX11_init_105 : decode cX11_init 105 = .ok (.aload_n 0, 1) := by decide +kernel
theorem dX11_init_106 : decode cX11_init 106 = .ok (.getfield 19, 3) := by decide +kernel
theorem dX11_init_109 : decode cX11_init 109 = .ok (.aload_n 0, 1) := by decide +kernel
theorem dX11_init_110 : decode cX11_init 110 = .ok (.getfield 28, 3) := by decide +kernel
theorem dX11_init_113 : decode cX11_init 113 = .ok (.aload_n 0, 1) := by decide +kernel
theorem dX11_init_114 : decode cX11_init 114 = .ok (.getfield 35, 3) := by decide +kernel
theorem dX11_init_117 : decode cX11_init 117 = .ok (.aload_n 0, 1) := by decide +kernel
theorem dX11_init_118 : decode cX11_init 118 = .ok (.getfield 48, 3) := by decide +kernel
theorem dX11_init_121 : decode cX11_init 121 = .ok (.iconst 0, 1) := by decide +kernel
theorem dX11_init_122 : decode cX11_init 122 = .ok (.invokespecial 54, 3) := by decide +kernel
theorem dX11_init_125 : decode cX11_init 125 = .ok (.putfield 61, 3) := by decide +kernel
theorem dX11_init_128 : decode cX11_init 128 = .ok (.aload_n 0, 1) := by decide +kernel
theorem dX11_init_129 : decode cX11_init 129 = .ok (.bipush 10, 2) := by decide +kernel
theorem dX11_init_131 : decode cX11_init 131 = .ok (.anewarray 64, 3) := by decide +kernel
theorem dX11_init_134 : decode cX11_init 134 = .ok (.putfield 66, 3) := by decide +kernel
theorem dX11_init_137 : decode cX11_init 137 = .ok (.aload_n 0, 1) := by decide +kernel
theorem dX11_init_138 : decode cX11_init 138 = .ok (.bipush 20, 2) := by decide +kernel
theorem dX11_init_140 : decode cX11_init 140 = .ok (.anewarray 70, 3) := by decide +kernel
theorem dX11_init_143 : decode cX11_init 143 = .ok (.putfield 72, 3) := by decide +kernel
theorem dX11_init_146 : decode cX11_init 146 = .ok (.iconst 0, 1) := by decide +kernel
theorem dX11_init_147 : decode cX11_init 147 = .ok (.istore_n 1, 1) := by decide +kernel
theorem dX11_init_148 : decode cX11_init 148 = .ok (.iload_n 1, 1) := by decide +kernel
theorem dX11_init_149 : decode cX11_init 149 = .ok (.bipush 10, 2) := by decide +kernel
theorem dX11_init_151 : decode cX11_init 151 = .ok (.if_icmp .ge 22, 3) := by decide +kernel
theorem dX11_init_154 : decode cX11_init 154 = .ok (.aload_n 0, 1) := by decide +kernel
theorem dX11_init_155 : decode cX11_init 155 = .ok (.getfield 66, 3) := by decide +kernel
theorem dX11_init_158 : decode cX11_init 158 = .ok (.iload_n 1, 1) := by decide +kernel
theorem dX11_init_159 : decode cX11_init 159 = .ok (.new 64, 3) := by decide +kernel
theorem dX11_init_162 : decode cX11_init 162 = .ok (.dup, 1) := by decide +kernel
theorem dX11_init_163 : decode cX11_init 163 = .ok (.invokespecial 76, 3) := by decide +kernel
theorem dX11_init_166 : decode cX11_init 166 = .ok (.aastore, 1) := by decide +kernel
theorem dX11_init_167 : decode cX11_init 167 = .ok (.iinc 1 1, 3) := by decide +kernel
theorem dX11_init_170 : decode cX11_init 170 = .ok (.goto (-22), 3) := by decide +kernel
theorem dX11_init_173 : decode cX11_init 173 = .ok (.return_, 1) := by decide +kernel
theorem bX11_init_0 {d : Nat} {h0 hE h : ea_H} {rv : Option ea_V} {r0 : Option Nat} (H : 1 ≤ d ∧ ∃ a110, r0 = some a110 ∧ ∀ h112, h112 = ea_new h 6 0 4 → ∃ (d114 : Nat) (h115 : ea_H), ea_Met mX6_init d114 [vR (some (ea_n h))] h112 none h115 ∧ d114 + 1 ≤ d ∧ a110 < ea_n h115 ∧ ea_c h115 a110 = 11 ∧ ∀ h120, h120 = ea_wr h115 a110 0 (some (ea_n h)) → ∀ h122, h122 = ea_new h120 9 0 8 → ∃ (d124 : Nat) (h125 : ea_H), ea_Met mX9_init d124 [vR (some (ea_n h120))] h122 none h125 ∧ d124 + 1 ≤ d ∧ a110 < ea_n h125 ∧ ea_c h125 a110 = 11 ∧ ∀ h130, h130 = ea_wr h125 a110 1 (some (ea_n h120)) → ∀ h132, h132 = ea_new h130 10 0 9 → a110 < ea_n h132 ∧ ea_c h132 a110 = 11 ∧ ∃ (d136 : Nat) (h137 : ea_H), ea_Met mX10_init d136 [vR (some (ea_n h130)), vR (ea_r h132 a110 1)] h132 none h137 ∧ d136 + 1 ≤ d ∧ a110 < ea_n h137 ∧ ea_c h137 a110 = 11 ∧ ∀ h142, h142 = ea_wr h137 a110 2 (some (ea_n h130)) → ∀ h144, h144 = ea_new h142 3 0 5 → ∃ (d146 : Nat) (h147 : ea_H), ea_Met mX3_init d146 [vR (some (ea_n h142))] h144 none h147 ∧ d146 + 1 ≤ d ∧ a110 < ea_n h147 ∧ ea_c h147 a110 = 11 ∧ ∀ h152, h152 = ea_wr h147 a110 3 (some (ea_n h142)) → ∀ h154, h154 = ea_new h152 8 0 5 → ∃ (d156 : Nat) (h157 : ea_H), ea_Met mX8_init d156 [vR (some (ea_n h152))] h154 none h157 ∧ d156 + 1 ≤ d ∧ a110 < ea_n h157 ∧ ea_c h157 a110 = 11 ∧ ∀ h162, h162 = ea_wr h157 a110 4 (some (ea_n h152)) → ∀ h164, h164 = ea_new h162 23 120 120 → a110 < ea_n h164 ∧ ea_c h164 a110 = 11 ∧ ∀ h168, h168 = ea_wr h164 a110 5 (some (ea_n h162)) → ∀ h170, h170 = ea_new h168 1 0 16 → a110 < ea_n h170 ∧ ea_c h170 a110 = 11 ∧ a110 < ea_n h170 ∧ ea_c h170 a110 = 11 ∧ a110 < ea_n h170 ∧ ea_c h170 a110 = 11 ∧ a110 < ea_n h170 ∧ ea_c h170 a110 = 11 ∧ ∃ (d180 : Nat) (h181 : ea_H), ea_Met mX1_init d180 [vR (some (ea_n h168)), vR (ea_r h170 a110 1), vR (ea_r h170 a110 2), vR (ea_r h170 a110 3), vR (ea_r h170 a110 5), vI 1] h170 none h181 ∧ d180 + 1 ≤ d ∧ a110 < ea_n h181 ∧ ea_c h181 a110 = 11 ∧ ∀ h186, h186 = ea_wr h181 a110 6 (some (ea_n h168)) → ∀ h188, h188 = ea_new h186 1 0 16 → a110 < ea_n h188 ∧ ea_c h188 a110 = 11 ∧ a110 < ea_n h188 ∧ ea_c h188 a110 = 11 ∧ a110 < ea_n h188 ∧ ea_c h188 a110 = 11 ∧ a110 < ea_n h188 ∧ ea_c h188 a110 = 11 ∧ ∃ (d198 : Nat) (h199 : ea_H), ea_Met mX1_init d198 [vR (some (ea_n h186)), vR (ea_r h188 a110 1), vR (ea_r h188 a110 2), vR (ea_r h188 a110 3), vR (ea_r h188 a110 5), vI 0] h188 none h199 ∧ d198 + 1 ≤ d ∧ a110 < ea_n h199 ∧ ea_c h199 a110 = 11 ∧ ∀ h204, h204 = ea_wr h199 a110 7 (some (ea_n h186)) → ∀ h206, h206 = ea_new h204 24 10 10 → a110 < ea_n h206 ∧ ea_c h206 a110 = 11 ∧ ∀ h210, h210 = ea_wr h206 a110 8 (some (ea_n h204)) → ∀ h212, h212 = ea_new h210 25 20 20 → a110 < ea_n h212 ∧ ea_c h212 a110 = 11 ∧ ∀ h216, h216 = ea_wr h212 a110 9 (some (ea_n h210)) → ea_W mX11_init d h0 rv hE 148 [(0, vR r0), (1, vI 0)] [] h216) : ea_W mX11_init d h0 rv hE 0 [(0, vR r0)] [] h := by
  refine ea_aload_n (pc := 0) dX11_init_0 rfl 0 rfl ?_
  obtain ⟨z109, a110, e111, H⟩ := H
  refine ea_deref0 e111 ?_
  refine ea_objInit (pc := 1) dX11_init_1 ew_133 ew_134 ew_135 z109 (Nat.le_of_ble_eq_true rfl) ?_
  refine ea_aload_n (pc := 4) dX11_init_4 rfl 0 rfl ?_
  refine ea_newO (pc := 5) dX11_init_5 ec_6 ew_136 ew_137 ew_109 ?_
  obtain ⟨h112, E113⟩ : ∃ z, z = ea_new h 6 0 4 := ⟨_, rfl⟩
  have H := H h112 E113
  refine ea_nm E113 ?_
  refine ea_dup (pc := 8) dX11_init_8 rfl ?_
  obtain ⟨d114, h115, m116, q117, H⟩ := H
  refine ea_callI (pc := 9) (As := []) (st := [vR (some (ea_n h)), vR r0]) dX11_init_9 kX6_init m116 q117 rfl (Nat.le_of_ble_eq_true rfl) ew_138 ew_139 rfl rfl ?_
  obtain ⟨f118, g119, H⟩ := H
  refine ea_deref1 e111 ?_
  refine ea_putR (pc := 12) dX11_init_12 ec_11 (k := 0) (Nat.le_of_ble_eq_true rfl) rfl (Or.inr ⟨rfl, rfl, rfl, ew_437⟩) f118 g119 ?_
  obtain ⟨h120, E121⟩ : ∃ z, z = ea_wr h115 a110 0 (some (ea_n h)) := ⟨_, rfl⟩
  have H := H h120 E121
  refine ea_nm E121 ?_
  refine ea_aload_n (pc := 15) dX11_init_15 rfl 0 rfl ?_
  refine ea_newO (pc := 16) dX11_init_16 ec_9 ew_171 ew_172 ew_113 ?_
  obtain ⟨h122, E123⟩ : ∃ z, z = ea_new h120 9 0 8 := ⟨_, rfl⟩
  have H := H h122 E123
  refine ea_nm E123 ?_
  refine ea_dup (pc := 19) dX11_init_19 rfl ?_
  obtain ⟨d124, h125, m126, q127, H⟩ := H
  refine ea_callIN (pc := 20) (As := []) (st := [vR (some (ea_n h120)), vR r0]) dX11_init_20 kX9_init m126 q127 rfl (Nat.le_of_ble_eq_true rfl) ew_173 ew_174 rfl rfl ?_
  obtain ⟨f128, g129, H⟩ := H
  refine ea_deref1 e111 ?_
  refine ea_putR (pc := 23) dX11_init_23 ec_11 (k := 1) (Nat.le_of_ble_eq_true rfl) rfl (Or.inr ⟨rfl, rfl, rfl, ew_438⟩) f128 g129 ?_
  obtain ⟨h130, E131⟩ : ∃ z, z = ea_wr h125 a110 1 (some (ea_n h120)) := ⟨_, rfl⟩
  have H := H h130 E131
  refine ea_nm E131 ?_
  refine ea_aload_n (pc := 26) dX11_init_26 rfl 0 rfl ?_
  refine ea_newO (pc := 27) dX11_init_27 ec_10 ew_219 ew_220 ew_114 ?_
  obtain ⟨h132, E133⟩ : ∃ z, z = ea_new h130 10 0 9 := ⟨_, rfl⟩
  have H := H h132 E133
  refine ea_nm E133 ?_
  refine ea_dup (pc := 30) dX11_init_30 rfl ?_
  refine ea_aload_n (pc := 31) dX11_init_31 rfl 0 rfl ?_
  obtain ⟨f134, g135, H⟩ := H
  refine ea_deref0 e111 ?_
  refine ea_getR (pc := 32) dX11_init_32 ec_11 (k := 1) (Nat.le_of_ble_eq_true rfl) rfl (Or.inl ew_438) f134 g135 rfl ?_
  obtain ⟨d136, h137, m138, q139, H⟩ := H
  refine ea_callI (pc := 35) (As := [vR (ea_r h132 a110 1)]) (st := [vR (some (ea_n h130)), vR r0]) dX11_init_35 kX10_init m138 q139 rfl (Nat.le_of_ble_eq_true rfl) ew_221 ew_222 rfl rfl ?_
  obtain ⟨f140, g141, H⟩ := H
  refine ea_deref1 e111 ?_
  refine ea_putR (pc := 38) dX11_init_38 ec_11 (k := 2) (Nat.le_of_ble_eq_true rfl) rfl (Or.inr ⟨rfl, rfl, rfl, ew_439⟩) f140 g141 ?_
  obtain ⟨h142, E143⟩ : ∃ z, z = ea_wr h137 a110 2 (some (ea_n h130)) := ⟨_, rfl⟩
  have H := H h142 E143
  refine ea_nm E143 ?_
  refine ea_aload_n (pc := 41) dX11_init_41 rfl 0 rfl ?_
  refine ea_newO (pc := 42) dX11_init_42 ec_3 ew_255 ew_256 ew_115 ?_
  obtain ⟨h144, E145⟩ : ∃ z, z = ea_new h142 3 0 5 := ⟨_, rfl⟩
  have H := H h144 E145
  refine ea_nm E145 ?_
  refine ea_dup (pc := 45) dX11_init_45 rfl ?_
  obtain ⟨d146, h147, m148, q149, H⟩ := H
  refine ea_callIN (pc := 46) (As := []) (st := [vR (some (ea_n h142)), vR r0]) dX11_init_46 kX3_init m148 q149 rfl (Nat.le_of_ble_eq_true rfl) ew_257 ew_258 rfl rfl ?_
  obtain ⟨f150, g151, H⟩ := H
  refine ea_deref1 e111 ?_
  refine ea_putR (pc := 49) dX11_init_49 ec_11 (k := 3) (Nat.le_of_ble_eq_true rfl) rfl (Or.inr ⟨rfl, rfl, rfl, ew_440⟩) f150 g151 ?_
  obtain ⟨h152, E153⟩ : ∃ z, z = ea_wr h147 a110 3 (some (ea_n h142)) := ⟨_, rfl⟩
  have H := H h152 E153
  refine ea_nm E153 ?_
  refine ea_aload_n (pc := 52) dX11_init_52 rfl 0 rfl ?_
  refine ea_newO (pc := 53) dX11_init_53 ec_8 ew_279 ew_280 ew_116 ?_
  obtain ⟨h154, E155⟩ : ∃ z, z = ea_new h152 8 0 5 := ⟨_, rfl⟩
  have H := H h154 E155
  refine ea_nm E155 ?_
  refine ea_dup (pc := 56) dX11_init_56 rfl ?_
  obtain ⟨d156, h157, m158, q159, H⟩ := H
  refine ea_callIN (pc := 57) (As := []) (st := [vR (some (ea_n h152)), vR r0]) dX11_init_57 kX8_init m158 q159 rfl (Nat.le_of_ble_eq_true rfl) ew_281 ew_282 rfl rfl ?_
  obtain ⟨f160, g161, H⟩ := H
  refine ea_deref1 e111 ?_
  refine ea_putR (pc := 60) dX11_init_60 ec_11 (k := 4) (Nat.le_of_ble_eq_true rfl) rfl (Or.inr ⟨rfl, rfl, rfl, ew_441⟩) f160 g161 ?_
  obtain ⟨h162, E163⟩ : ∃ z, z = ea_wr h157 a110 4 (some (ea_n h152)) := ⟨_, rfl⟩
  have H := H h162 E163
  refine ea_nm E163 ?_
  refine ea_aload_n (pc := 63) dX11_init_63 rfl 0 rfl ?_
  refine ea_bipush (pc := 64) dX11_init_64 (v := 120) rfl ?_
  refine ea_newR23 (pc := 66) (N := 120) dX11_init_66 ew_351 ew_352 (by decide) rfl (Nat.le_of_ble_eq_true rfl) ?_
  obtain ⟨h164, E165⟩ : ∃ z, z = ea_new h162 23 120 120 := ⟨_, rfl⟩
  have H := H h164 E165
  refine ea_nm E165 ?_
  obtain ⟨f166, g167, H⟩ := H
  refine ea_deref1 e111 ?_
  refine ea_putR (pc := 69) dX11_init_69 ec_11 (k := 5) (Nat.le_of_ble_eq_true rfl) rfl (Or.inr ⟨rfl, rfl, rfl, ew_442⟩) f166 g167 ?_
  obtain ⟨h168, E169⟩ : ∃ z, z = ea_wr h164 a110 5 (some (ea_n h162)) := ⟨_, rfl⟩
  have H := H h168 E169
  refine ea_nm E169 ?_
  refine ea_aload_n (pc := 72) dX11_init_72 rfl 0 rfl ?_
  refine ea_newO (pc := 73) dX11_init_73 ec_1 ew_353 ew_354 ew_118 ?_
  obtain ⟨h170, E171⟩ : ∃ z, z = ea_new h168 1 0 16 := ⟨_, rfl⟩
  have H := H h170 E171
  refine ea_nm E171 ?_
  refine ea_dup (pc := 76) dX11_init_76 rfl ?_
  refine ea_aload_n (pc := 77) dX11_init_77 rfl 0 rfl ?_
  obtain ⟨f172, g173, H⟩ := H
  refine ea_deref0 e111 ?_
  refine ea_getR (pc := 78) dX11_init_78 ec_11 (k := 1) (Nat.le_of_ble_eq_true rfl) rfl (Or.inl ew_438) f172 g173 rfl ?_
  refine ea_aload_n (pc := 81) dX11_init_81 rfl 0 rfl ?_
  obtain ⟨f174, g175, H⟩ := H
  refine ea_deref0 e111 ?_
  refine ea_getR (pc := 82) dX11_init_82 ec_11 (k := 2) (Nat.le_of_ble_eq_true rfl) rfl (Or.inl ew_439) f174 g175 rfl ?_
  refine ea_aload_n (pc := 85) dX11_init_85 rfl 0 rfl ?_
  obtain ⟨f176, g177, H⟩ := H
  refine ea_deref0 e111 ?_
  refine ea_getR (pc := 86) dX11_init_86 ec_11 (k := 3) (Nat.le_of_ble_eq_true rfl) rfl (Or.inl ew_440) f176 g177 rfl ?_
  refine ea_aload_n (pc := 89) dX11_init_89 rfl 0 rfl ?_
  obtain ⟨f178, g179, H⟩ := H
  refine ea_deref0 e111 ?_
  refine ea_getR (pc := 90) dX11_init_90 ec_11 (k := 5) (Nat.le_of_ble_eq_true rfl) rfl (Or.inl ew_442) f178 g179 rfl ?_
  refine ea_iconst (pc := 93) dX11_init_93 (v := 1) rfl ?_
  obtain ⟨d180, h181, m182, q183, H⟩ := H
  refine ea_callI (pc := 94) (As := [vR (ea_r h170 a110 1), vR (ea_r h170 a110 2), vR (ea_r h170 a110 3), vR (ea_r h170 a110 5), vI 1]) (st := [vR (some (ea_n h168)), vR r0]) dX11_init_94 kX1_init m182 q183 rfl (Nat.le_of_ble_eq_true rfl) ew_355 ew_356 rfl rfl ?_
  obtain ⟨f184, g185, H⟩ := H
  refine ea_deref1 e111 ?_
  refine ea_putR (pc := 97) dX11_init_97 ec_11 (k := 6) (Nat.le_of_ble_eq_true rfl) rfl (Or.inr ⟨rfl, rfl, rfl, ew_443⟩) f184 g185 ?_
  obtain ⟨h186, E187⟩ : ∃ z, z = ea_wr h181 a110 6 (some (ea_n h168)) := ⟨_, rfl⟩
  have H := H h186 E187
  refine ea_nm E187 ?_
  refine ea_aload_n (pc := 100) dX11_init_100 rfl 0 rfl ?_
  refine ea_newO (pc := 101) dX11_init_101 ec_1 ew_353 ew_354 ew_118 ?_
  obtain ⟨h188, E189⟩ : ∃ z, z = ea_new h186 1 0 16 := ⟨_, rfl⟩
  have H := H h188 E189
  refine ea_nm E189 ?_
  refine ea_dup (pc := 104) dX11_init_104 rfl ?_
  refine ea_aload_n (pc := 105) dX11_init_105 rfl 0 rfl ?_
  obtain ⟨f190, g191, H⟩ := H
  refine ea_deref0 e111 ?_
  refine ea_getR (pc := 106) dX11_init_106 ec_11 (k := 1) (Nat.le_of_ble_eq_true rfl) rfl (Or.inl ew_438) f190 g191 rfl ?_
  refine ea_aload_n (pc := 109) dX11_init_109 rfl 0 rfl ?_
  obtain ⟨f192, g193, H⟩ := H
  refine ea_deref0 e111 ?_
  refine ea_getR (pc := 110) dX11_init_110 ec_11 (k := 2) (Nat.le_of_ble_eq_true rfl) rfl (Or.inl ew_439) f192 g193 rfl ?_
  refine ea_aload_n (pc := 113) dX11_init_113 rfl 0 rfl ?_
  obtain ⟨f194, g195, H⟩ := H
  refine ea_deref0 e111 ?_
  refine ea_getR (pc := 114) dX11_init_114 ec_11 (k := 3) (Nat.le_of_ble_eq_true rfl) rfl (Or.inl ew_440) f194 g195 rfl ?_
  refine ea_aload_n (pc := 117) dX11_init_117 rfl 0 rfl ?_
  obtain ⟨f196, g197, H⟩ := H
  refine ea_deref0 e111 ?_
  refine ea_getR (pc := 118) dX11_init_118 ec_11 (k := 5) (Nat.le_of_ble_eq_true rfl) rfl (Or.inl ew_442) f196 g197 rfl ?_
  refine ea_iconst (pc := 121) dX11_init_121 (v := 0) rfl ?_
  obtain ⟨d198, h199, m200, q201, H⟩ := H
  refine ea_callI (pc := 122) (As := [vR (ea_r h188 a110 1), vR (ea_r h188 a110 2), vR (ea_r h188 a110 3), vR (ea_r h188 a110 5), vI 0]) (st := [vR (some (ea_n h186)), vR r0]) dX11_init_122 kX1_init m200 q201 rfl (Nat.le_of_ble_eq_true rfl) ew_355 ew_356 rfl rfl ?_
  obtain ⟨f202, g203, H⟩ := H
  refine ea_deref1 e111 ?_
  refine ea_putR (pc := 125) dX11_init_125 ec_11 (k := 7) (Nat.le_of_ble_eq_true rfl) rfl (Or.inr ⟨rfl, rfl, rfl, ew_444⟩) f202 g203 ?_
  obtain ⟨h204, E205⟩ : ∃ z, z = ea_wr h199 a110 7 (some (ea_n h186)) := ⟨_, rfl⟩
  have H := H h204 E205
  refine ea_nm E205 ?_
  refine ea_aload_n (pc := 128) dX11_init_128 rfl 0 rfl ?_
  refine ea_bipush (pc := 129) dX11_init_129 (v := 10) rfl ?_
  refine ea_newR24 (pc := 131) (N := 10) dX11_init_131 ew_415 ew_416 (by decide) rfl (Nat.le_of_ble_eq_true rfl) ?_
  obtain ⟨h206, E207⟩ : ∃ z, z = ea_new h204 24 10 10 := ⟨_, rfl⟩
  have H := H h206 E207
  refine ea_nm E207 ?_
  obtain ⟨f208, g209, H⟩ := H
  refine ea_deref1 e111 ?_
  refine ea_putR (pc := 134) dX11_init_134 ec_11 (k := 8) (Nat.le_of_ble_eq_true rfl) rfl (Or.inr ⟨rfl, rfl, rfl, ew_445⟩) f208 g209 ?_
  obtain ⟨h210, E211⟩ : ∃ z, z = ea_wr h206 a110 8 (some (ea_n h204)) := ⟨_, rfl⟩
  have H := H h210 E211
  refine ea_nm E211 ?_
  refine ea_aload_n (pc := 137) dX11_init_137 rfl 0 rfl ?_
  refine ea_bipush (pc := 138) dX11_init_138 (v := 20) rfl ?_
  refine ea_newR25 (pc := 140) (N := 20) dX11_init_140 ew_417 ew_418 (by decide) rfl (Nat.le_of_ble_eq_true rfl) ?_
  obtain ⟨h212, E213⟩ : ∃ z, z = ea_new h210 25 20 20 := ⟨_, rfl⟩
  have H := H h212 E213
  refine ea_nm E213 ?_
  obtain ⟨f214, g215, H⟩ := H
  refine ea_deref1 e111 ?_
  refine ea_putR (pc := 143) dX11_init_143 ec_11 (k := 9) (Nat.le_of_ble_eq_true rfl) rfl (Or.inr ⟨rfl, rfl, rfl, ew_446⟩) f214 g215 ?_
  obtain ⟨h216, E217⟩ : ∃ z, z = ea_wr h212 a110 9 (some (ea_n h210)) := ⟨_, rfl⟩
  have H := H h216 E217
  refine ea_nm E217 ?_
  refine ea_iconst (pc := 146) dX11_init_146 (v := 0) rfl ?_
  refine ea_istore_n (pc := 147) (lv' := [(0, vR r0), (1, vI 0)]) dX11_init_147 rfl (Nat.le_of_ble_eq_true rfl) [1, 0] rfl ?_
  exact H
theorem bX11_init_148 {d : Nat} {h0 hE h : ea_H} {rv : Option ea_V} {r0 : Option Nat} {x1 : Int32} (H : ((10 : Int32) ≤ x1 → rv = none ∧ hE = h) ∧ (¬ (10 : Int32) ≤ x1 → ∃ a3, r0 = some a3 ∧ a3 < ea_n h ∧ ea_c h a3 = 11 ∧ ∀ h5, h5 = ea_new h 2 0 3 → ∃ (d7 : Nat) (h8 : ea_H), ea_Met mX2_init d7 [vR (some (ea_n h))] h5 none h8 ∧ d7 + 1 ≤ d ∧ ∃ a13, (ea_r h a3 8) = some a13 ∧ a13 < ea_n h8 ∧ ea_c h8 a13 = 24 ∧ vp_in x1 (ea_l h8 a13) ∧ (ea_n h) < ea_n h8 ∧ ea_c h8 (ea_n h) = 2 ∧ ∀ h16, h16 = ea_wr h8 a13 (Int32.toNatClampNeg x1) (some (ea_n h)) → ea_W mX11_init d h0 rv hE 148 [(0, vR r0), (1, vI (x1 + 1))] [] h16)) : ea_W mX11_init d h0 rv hE 148 [(0, vR r0), (1, vI x1)] [] h := by
  refine ea_iload_n (pc := 148) dX11_init_148 rfl 1 rfl ?_
  refine ea_bipush (pc := 149) dX11_init_149 (v := 10) rfl ?_
  refine ea_icmp_ge (pc := 151) (tgt := 173) dX11_init_151 rfl (fun c20 => ?_) (fun c20 => ?_)
  · have H := H.1 c20
    obtain ⟨rfl, rfl⟩ := H
    exact ea_return (pc := 173) dX11_init_173 rfl
  · have H := H.2 c20
    refine ea_aload_n (pc := 154) dX11_init_154 rfl 0 rfl ?_
    obtain ⟨a3, e4, f1, g2, H⟩ := H
    refine ea_deref0 e4 ?_
    refine ea_getR (pc := 155) dX11_init_155 ec_11 (k := 8) (Nat.le_of_ble_eq_true rfl) rfl (Or.inl ew_445) f1 g2 rfl ?_
    refine ea_iload_n (pc := 158) dX11_init_158 rfl 1 rfl ?_
    refine ea_newO (pc := 159) dX11_init_159 ec_2 ew_415 ew_419 ew_119 ?_
    obtain ⟨h5, E6⟩ : ∃ z, z = ea_new h 2 0 3 := ⟨_, rfl⟩
    have H := H h5 E6
    refine ea_nm E6 ?_
    refine ea_dup (pc := 162) dX11_init_162 rfl ?_
    obtain ⟨d7, h8, m9, q10, H⟩ := H
    refine ea_callIN (pc := 163) (As := []) (st := [vR (some (ea_n h)), vI x1, vR (ea_r h a3 8)]) dX11_init_163 kX2_init m9 q10 rfl (Nat.le_of_ble_eq_true rfl) ew_420 ew_421 rfl rfl ?_
    obtain ⟨a13, e14, f11, g12, H⟩ := H
    refine ea_deref2 e14 ?_
    obtain ⟨z15, H⟩ := H
    obtain ⟨f18, g19, H⟩ := H
    refine ea_aast24 (pc := 166) dX11_init_166 f11 g12 z15 f18 g19 ?_
    obtain ⟨h16, E17⟩ : ∃ z, z = ea_wr h8 a13 (Int32.toNatClampNeg x1) (some (ea_n h)) := ⟨_, rfl⟩
    have H := H h16 E17
    refine ea_nm E17 ?_
    refine ea_iinc (pc := 167) (v := 1) (lv' := [(0, vR r0), (1, vI (x1 + 1))]) dX11_init_167 1 rfl rfl (Nat.le_of_ble_eq_true rfl) [1, 0] rfl ?_
    refine ea_goto (pc := 170) (tgt := 148) dX11_init_170 rfl ?_
    exact H
theorem dX11_town_0 : decode cX11_town 0 = .ok (.aload_n 0, 1) := by decide +kernel
theorem dX11_town_1 : decode cX11_town 1 = .ok (.getfield 12, 3) := by decide +kernel
theorem dX11_town_4 : decode cX11_town 4 = .ok (.getfield 77, 3) := by decide +kernel
theorem dX11_town_7 : decode cX11_town 7 = .ok (.bipush 12, 2) := by decide +kernel
theorem dX11_town_9 : decode cX11_town 9 = .ok (.if_icmp .lt 5, 3) := by decide +kernel
theorem dX11_town_12 : decode cX11_town 12 = .ok (.iconst (-1), 1) := by decide +kernel
theorem dX11_town_13 : decode cX11_town 13 = .ok (.ireturn, 1) := by decide +kernel
theorem dX11_town_14 : decode cX11_town 14 = .ok (.aload_n 0, 1) := by decide +kernel
theorem dX11_town_15 : decode cX11_town 15 = .ok (.getfield 12, 3) := by decide +kernel
theorem dX11_town_18 : decode cX11_town 18 = .ok (.dup, 1) := by decide +kernel
theorem dX11_town_19 : decode cX11_town 19 = .ok (.getfield 77, 3) := by decide +kernel
theorem dX11_town_22 : decode cX11_town 22 = .ok (.iconst 1, 1) := by decide +kernel
theorem dX11_town_23 : decode cX11_town 23 = .ok (.iadd, 1) := by decide +kernel
theorem dX11_town_24 : decode cX11_town 24 = .ok (.putfield 77, 3) := by decide +kernel
theorem dX11_town_27 : decode cX11_town 27 = .ok (.aload_n 0, 1) := by decide +kernel
theorem dX11_town_28 : decode cX11_town 28 = .ok (.getfield 12, 3) := by decide +kernel
theorem dX11_town_31 : decode cX11_town 31 = .ok (.getfield 77, 3) := by decide +kernel
theorem dX11_town_34 : decode cX11_town 34 = .ok (.iconst 1, 1) := by decide +kernel
theorem dX11_town_35 : decode cX11_town 35 = .ok (.isub, 1) := by decide +kernel
theorem dX11_town_36 : decode cX11_town 36 = .ok (.ireturn, 1) := by decide +kernel
theorem bX11_town_0 {d : Nat} {h0 hE h : ea_H} {rv : Option ea_V} {r0 : Option Nat} (H : ∃ a3, r0 = some a3 ∧ a3 < ea_n h ∧ ea_c h a3 = 11 ∧ ∃ a7, (ea_r h a3 0) = some a7 ∧ a7 < ea_n h ∧ ea_c h a7 = 6 ∧ ((ea_i h a7 0) < (12 : Int32) → a3 < ea_n h ∧ ea_c h a3 = 11 ∧ a7 < ea_n h ∧ ea_c h a7 = 6 ∧ a7 < ea_n h ∧ ea_c h a7 = 6 ∧ ∀ h15, h15 = ea_wi h a7 0 ((ea_i h a7 0) + (1 : Int32)) → a3 < ea_n h15 ∧ ea_c h15 a3 = 11 ∧ ∃ a21, (ea_r h15 a3 0) = some a21 ∧ a21 < ea_n h15 ∧ ea_c h15 a21 = 6 ∧ rv = some (vI ((ea_i h15 a21 0) - (1 : Int32))) ∧ hE = h15) ∧ (¬ (ea_i h a7 0) < (12 : Int32) → rv = some (vI (-1)) ∧ hE = h)) : ea_W mX11_town d h0 rv hE 0 [(0, vR r0)] [] h := by
  refine ea_aload_n (pc := 0) dX11_town_0 rfl 0 rfl ?_
  obtain ⟨a3, e4, f1, g2, H⟩ := H
  refine ea_deref0 e4 ?_
  refine ea_getR (pc := 1) dX11_town_1 ec_11 (k := 0) (Nat.le_of_ble_eq_true rfl) rfl (Or.inl ew_437) f1 g2 rfl ?_
  obtain ⟨a7, e8, f5, g6, H⟩ := H
  refine ea_deref0 e8 ?_
  refine ea_getI (pc := 4) dX11_town_4 ec_6 (k := 0) (Nat.le_of_ble_eq_true rfl) rfl (Or.inl ew_156) f5 g6 ?_
  refine ea_bipush (pc := 7) dX11_town_7 (v := 12) rfl ?_
  refine ea_icmp_lt (pc := 9) (tgt := 14) dX11_town_9 rfl (fun c23 => ?_) (fun c23 => ?_)
  · have H := H.1 c23
    refine ea_aload_n (pc := 14) dX11_town_14 rfl 0 rfl ?_
    obtain ⟨f9, g10, H⟩ := H
    refine ea_deref0 e4 ?_
    refine ea_getR (pc := 15) dX11_town_15 ec_11 (k := 0) (Nat.le_of_ble_eq_true rfl) rfl (Or.inl ew_437) f9 g10 rfl ?_
    refine ea_dup (pc := 18) dX11_town_18 rfl ?_
    obtain ⟨f11, g12, H⟩ := H
    refine ea_deref0 e8 ?_
    refine ea_getI (pc := 19) dX11_town_19 ec_6 (k := 0) (Nat.le_of_ble_eq_true rfl) rfl (Or.inl ew_156) f11 g12 ?_
    refine ea_iconst (pc := 22) dX11_town_22 (v := 1) rfl ?_
    refine ea_iadd (pc := 23) dX11_town_23 ?_
    obtain ⟨f13, g14, H⟩ := H
    refine ea_deref1 e8 ?_
    refine ea_putI (pc := 24) dX11_town_24 ec_6 (k := 0) (Nat.le_of_ble_eq_true rfl) rfl (Or.inl ⟨rfl, Or.inl ew_156⟩) rfl rfl f13 g14 ?_
    obtain ⟨h15, E16⟩ : ∃ z, z = ea_wi h a7 0 ((ea_i h a7 0) + (1 : Int32)) := ⟨_, rfl⟩
    have H := H h15 E16
    refine ea_nm E16 ?_
    refine ea_aload_n (pc := 27) dX11_town_27 rfl 0 rfl ?_
    obtain ⟨f17, g18, H⟩ := H
    refine ea_deref0 e4 ?_
    refine ea_getR (pc := 28) dX11_town_28 ec_11 (k := 0) (Nat.le_of_ble_eq_true rfl) rfl (Or.inl ew_437) f17 g18 rfl ?_
    obtain ⟨a21, e22, f19, g20, H⟩ := H
    refine ea_deref0 e22 ?_
    refine ea_getI (pc := 31) dX11_town_31 ec_6 (k := 0) (Nat.le_of_ble_eq_true rfl) rfl (Or.inl ew_156) f19 g20 ?_
    refine ea_iconst (pc := 34) dX11_town_34 (v := 1) rfl ?_
    refine ea_isub (pc := 35) dX11_town_35 ?_
    obtain ⟨rfl, rfl⟩ := H
    exact ea_ireturn (pc := 36) dX11_town_36 rfl rfl
  · have H := H.2 c23
    refine ea_iconst (pc := 12) dX11_town_12 (v := (-1)) rfl ?_
    obtain ⟨rfl, rfl⟩ := H
    exact ea_ireturn (pc := 13) dX11_town_13 rfl rfl
theorem dX11_road_0 : decode cX11_road 0 = .ok (.aload_n 0, 1) := by decide +kernel
theorem dX11_road_1 : decode cX11_road 1 = .ok (.getfield 12, 3) := by decide +kernel
theorem dX11_road_4 : decode cX11_road 4 = .ok (.iload_n 1, 1) := by decide +kernel
theorem dX11_road_5 : decode cX11_road 5 = .ok (.invokevirtual 81, 3) := by decide +kernel
theorem dX11_road_8 : decode cX11_road 8 = .ok (.ifCond .eq 31, 3) := by decide +kernel
theorem dX11_road_11 : decode cX11_road 11 = .ok (.aload_n 0, 1) := by decide +kernel
theorem dX11_road_12 : decode cX11_road 12 = .ok (.getfield 12, 3) := by decide +kernel
theorem dX11_road_15 : decode cX11_road 15 = .ok (.iload_n 2, 1) := by decide +kernel
theorem dX11_road_16 : decode cX11_road 16 = .ok (.invokevirtual 81, 3) := by decide +kernel
theorem dX11_road_19 : decode cX11_road 19 = .ok (.ifCond .eq 20, 3) := by decide +kernel
theorem dX11_road_22 : decode cX11_road 22 = .ok (.iload_n 1, 1) := by decide +kernel
theorem dX11_road_23 : decode cX11_road 23 = .ok (.iload_n 2, 1) := by decide +kernel
theorem dX11_road_24 : decode cX11_road 24 = .ok (.if_icmp .eq 15, 3) := by decide +kernel
theorem dX11_road_27 : decode cX11_road 27 = .ok (.iload_n 3, 1) := by decide +kernel
theorem dX11_road_28 : decode cX11_road 28 = .ok (.iconst 1, 1) := by decide +kernel
theorem dX11_road_29 : decode cX11_road 29 = .ok (.if_icmp .lt 10, 3) := by decide +kernel
theorem dX11_road_32 : decode cX11_road 32 = .ok (.iload_n 3, 1) := by decide +kernel
theorem dX11_road_33 : decode cX11_road 33 = .ok (.sipush 999, 3) := by decide +kernel
theorem dX11_road_36 : decode cX11_road 36 = .ok (.if_icmp .le 5, 3) := by decide +kernel
theorem dX11_road_39 : decode cX11_road 39 = .ok (.iconst 0, 1) := by decide +kernel
theorem dX11_road_40 : decode cX11_road 40 = .ok (.ireturn, 1) := by decide +kernel
theorem dX11_road_41 : decode cX11_road 41 = .ok (.aload_n 0, 1) := by decide +kernel
theorem dX11_road_42 : decode cX11_road 42 = .ok (.getfield 12, 3) := by decide +kernel
theorem dX11_road_45 : decode cX11_road 45 = .ok (.iload_n 1, 1) := by decide +kernel
theorem dX11_road_46 : decode cX11_road 46 = .ok (.iload_n 2, 1) := by decide +kernel
theorem dX11_road_47 : decode cX11_road 47 = .ok (.iload_n 3, 1) := by decide +kernel
theorem dX11_road_48 : decode cX11_road 48 = .ok (.invokevirtual 85, 3) := by decide +kernel
theorem dX11_road_51 : decode cX11_road 51 = .ok (.iconst 1, 1) := by decide +kernel
theorem dX11_road_52 : decode cX11_road 52 = .ok (.ireturn, 1) := by decide +kernel
theorem bX11_road_0 {d : Nat} {h0 hE h : ea_H} {rv : Option ea_V} {r0 : Option Nat} {x1 : Int32} {x2 : Int32} {x3 : Int32} (H : ∃ a3, r0 = some a3 ∧ a3 < ea_n h ∧ ea_c h a3 = 11 ∧ ∃ a11, (ea_r h a3 0) = some a11 ∧ a11 < ea_n h ∧ ea_c h a11 = 6 ∧ ∃ (d5 : Nat) (xc13 : Int32) (h6 : ea_H), ea_Met mX6_has d5 [vR (some a11), vI x1] h (some (vI xc13)) h6 ∧ d5 + 1 ≤ d ∧ (xc13 = (0 : Int32) → rv = some (vI 0) ∧ hE = h6) ∧ (¬ xc13 = (0 : Int32) → a3 < ea_n h6 ∧ ea_c h6 a3 = 11 ∧ ∃ a22, (ea_r h6 a3 0) = some a22 ∧ a22 < ea_n h6 ∧ ea_c h6 a22 = 6 ∧ ∃ (d16 : Nat) (xc24 : Int32) (h17 : ea_H), ea_Met mX6_has d16 [vR (some a22), vI x2] h6 (some (vI xc24)) h17 ∧ d16 + 1 ≤ d ∧ (xc24 = (0 : Int32) → rv = some (vI 0) ∧ hE = h17) ∧ (¬ xc24 = (0 : Int32) → (x1 = x2 → rv = some (vI 0) ∧ hE = h17) ∧ (¬ x1 = x2 → (x3 < (1 : Int32) → rv = some (vI 0) ∧ hE = h17) ∧ (¬ x3 < (1 : Int32) → (x3 ≤ (999 : Int32) → a3 < ea_n h17 ∧ ea_c h17 a3 = 11 ∧ ∃ a33, (ea_r h17 a3 0) = some a33 ∧ a33 < ea_n h17 ∧ ea_c h17 a33 = 6 ∧ ∃ (d27 : Nat) (h28 : ea_H), ea_Met mX6_lay d27 [vR (some a33), vI x1, vI x2, vI x3] h17 none h28 ∧ d27 + 1 ≤ d ∧ rv = some (vI 1) ∧ hE = h28) ∧ (¬ x3 ≤ (999 : Int32) → rv = some (vI 0) ∧ hE = h17)))))) : ea_W mX11_road d h0 rv hE 0 [(0, vR r0), (1, vI x1), (2, vI x2), (3, vI x3)] [] h := by
  refine ea_aload_n (pc := 0) dX11_road_0 rfl 0 rfl ?_
  obtain ⟨a3, e4, f1, g2, H⟩ := H
  refine ea_deref0 e4 ?_
  refine ea_getR (pc := 1) dX11_road_1 ec_11 (k := 0) (Nat.le_of_ble_eq_true rfl) rfl (Or.inl ew_437) f1 g2 rfl ?_
  refine ea_iload_n (pc := 4) dX11_road_4 rfl 1 rfl ?_
  obtain ⟨a11, e12, f9, g10, H⟩ := H
  refine ea_deref1 e12 ?_
  obtain ⟨d5, xc13, h6, m7, q8, H⟩ := H
  refine ea_callV (pc := 5) (As := [vI x1]) (st := []) dX11_road_5 kX6_has m7 q8 rfl (Nat.le_of_ble_eq_true rfl) ew_494 ew_495 ew_496 (ci := 6) rfl (by decide) f9 g10 ?_
  refine ea_if_eq (pc := 8) (tgt := 39) dX11_road_8 rfl (fun c39 => ?_) (fun c39 => ?_)
  · have H := H.1 c39
    refine ea_iconst (pc := 39) dX11_road_39 (v := 0) rfl ?_
    obtain ⟨rfl, rfl⟩ := H
    exact ea_ireturn (pc := 40) dX11_road_40 rfl (ea_bn (Or.inl rfl))
  · have H := H.2 c39
    refine ea_aload_n (pc := 11) dX11_road_11 rfl 0 rfl ?_
    obtain ⟨f14, g15, H⟩ := H
    refine ea_deref0 e4 ?_
    refine ea_getR (pc := 12) dX11_road_12 ec_11 (k := 0) (Nat.le_of_ble_eq_true rfl) rfl (Or.inl ew_437) f14 g15 rfl ?_
    refine ea_iload_n (pc := 15) dX11_road_15 rfl 2 rfl ?_
    obtain ⟨a22, e23, f20, g21, H⟩ := H
    refine ea_deref1 e23 ?_
    obtain ⟨d16, xc24, h17, m18, q19, H⟩ := H
    refine ea_callV (pc := 16) (As := [vI x2]) (st := []) dX11_road_16 kX6_has m18 q19 rfl (Nat.le_of_ble_eq_true rfl) ew_494 ew_495 ew_496 (ci := 6) rfl (by decide) f20 g21 ?_
    refine ea_if_eq (pc := 19) (tgt := 39) dX11_road_19 rfl (fun c38 => ?_) (fun c38 => ?_)
    · have H := H.1 c38
      refine ea_iconst (pc := 39) dX11_road_39 (v := 0) rfl ?_
      obtain ⟨rfl, rfl⟩ := H
      exact ea_ireturn (pc := 40) dX11_road_40 rfl (ea_bn (Or.inl rfl))
    · have H := H.2 c38
      refine ea_iload_n (pc := 22) dX11_road_22 rfl 1 rfl ?_
      refine ea_iload_n (pc := 23) dX11_road_23 rfl 2 rfl ?_
      refine ea_icmp_eq (pc := 24) (tgt := 39) dX11_road_24 rfl (fun c37 => ?_) (fun c37 => ?_)
      · have H := H.1 c37
        refine ea_iconst (pc := 39) dX11_road_39 (v := 0) rfl ?_
        obtain ⟨rfl, rfl⟩ := H
        exact ea_ireturn (pc := 40) dX11_road_40 rfl (ea_bn (Or.inl rfl))
      · have H := H.2 c37
        refine ea_iload_n (pc := 27) dX11_road_27 rfl 3 rfl ?_
        refine ea_iconst (pc := 28) dX11_road_28 (v := 1) rfl ?_
        refine ea_icmp_lt (pc := 29) (tgt := 39) dX11_road_29 rfl (fun c36 => ?_) (fun c36 => ?_)
        · have H := H.1 c36
          refine ea_iconst (pc := 39) dX11_road_39 (v := 0) rfl ?_
          obtain ⟨rfl, rfl⟩ := H
          exact ea_ireturn (pc := 40) dX11_road_40 rfl (ea_bn (Or.inl rfl))
        · have H := H.2 c36
          refine ea_iload_n (pc := 32) dX11_road_32 rfl 3 rfl ?_
          refine ea_sipush (pc := 33) dX11_road_33 (v := 999) rfl ?_
          refine ea_icmp_le (pc := 36) (tgt := 41) dX11_road_36 rfl (fun c35 => ?_) (fun c35 => ?_)
          · have H := H.1 c35
            refine ea_aload_n (pc := 41) dX11_road_41 rfl 0 rfl ?_
            obtain ⟨f25, g26, H⟩ := H
            refine ea_deref0 e4 ?_
            refine ea_getR (pc := 42) dX11_road_42 ec_11 (k := 0) (Nat.le_of_ble_eq_true rfl) rfl (Or.inl ew_437) f25 g26 rfl ?_
            refine ea_iload_n (pc := 45) dX11_road_45 rfl 1 rfl ?_
            refine ea_iload_n (pc := 46) dX11_road_46 rfl 2 rfl ?_
            refine ea_iload_n (pc := 47) dX11_road_47 rfl 3 rfl ?_
            obtain ⟨a33, e34, f31, g32, H⟩ := H
            refine ea_deref3 e34 ?_
            obtain ⟨d27, h28, m29, q30, H⟩ := H
            refine ea_callV (pc := 48) (As := [vI x1, vI x2, vI x3]) (st := []) dX11_road_48 kX6_lay m29 q30 rfl (Nat.le_of_ble_eq_true rfl) ew_498 ew_499 ew_500 (ci := 6) rfl (by decide) f31 g32 ?_
            refine ea_iconst (pc := 51) dX11_road_51 (v := 1) rfl ?_
            obtain ⟨rfl, rfl⟩ := H
            exact ea_ireturn (pc := 52) dX11_road_52 rfl (ea_bn (Or.inr rfl))
          · have H := H.2 c35
            refine ea_iconst (pc := 39) dX11_road_39 (v := 0) rfl ?_
            obtain ⟨rfl, rfl⟩ := H
            exact ea_ireturn (pc := 40) dX11_road_40 rfl (ea_bn (Or.inl rfl))
theorem dX11_miles_0 : decode cX11_miles 0 = .ok (.aload_n 0, 1) := by decide +kernel
theorem dX11_miles_1 : decode cX11_miles 1 = .ok (.getfield 12, 3) := by decide +kernel
theorem dX11_miles_4 : decode cX11_miles 4 = .ok (.iload_n 1, 1) := by decide +kernel
theorem dX11_miles_5 : decode cX11_miles 5 = .ok (.invokevirtual 81, 3) := by decide +kernel
theorem dX11_miles_8 : decode cX11_miles 8 = .ok (.ifCond .eq 14, 3) := by decide +kernel
theorem dX11_miles_11 : decode cX11_miles 11 = .ok (.aload_n 0, 1) := by decide +kernel
theorem dX11_miles_12 : decode cX11_miles 12 = .ok (.getfield 12, 3) := by decide +kernel
theorem dX11_miles_15 : decode cX11_miles 15 = .ok (.iload_n 2, 1) := by decide +kernel
theorem dX11_miles_16 : decode cX11_miles 16 = .ok (.invokevirtual 81, 3) := by decide +kernel
theorem dX11_miles_19 : decode cX11_miles 19 = .ok (.ifCond .ne 5, 3) := by decide +kernel
theorem dX11_miles_22 : decode cX11_miles 22 = .ok (.iconst (-1), 1) := by decide +kernel
theorem dX11_miles_23 : decode cX11_miles 23 = .ok (.ireturn, 1) := by decide +kernel
theorem dX11_miles_24 : decode cX11_miles 24 = .ok (.aload_n 0, 1) := by decide +kernel
theorem dX11_miles_25 : decode cX11_miles 25 = .ok (.getfield 12, 3) := by decide +kernel
theorem dX11_miles_28 : decode cX11_miles 28 = .ok (.iload_n 1, 1) := by decide +kernel
theorem dX11_miles_29 : decode cX11_miles 29 = .ok (.iload_n 2, 1) := by decide +kernel
theorem dX11_miles_30 : decode cX11_miles 30 = .ok (.invokevirtual 89, 3) := by decide +kernel
theorem dX11_miles_33 : decode cX11_miles 33 = .ok (.ireturn, 1) := by decide +kernel
theorem bX11_miles_0 {d : Nat} {h0 hE h : ea_H} {rv : Option ea_V} {r0 : Option Nat} {x1 : Int32} {x2 : Int32} (H : ∃ a3, r0 = some a3 ∧ a3 < ea_n h ∧ ea_c h a3 = 11 ∧ ∃ a11, (ea_r h a3 0) = some a11 ∧ a11 < ea_n h ∧ ea_c h a11 = 6 ∧ ∃ (d5 : Nat) (xc13 : Int32) (h6 : ea_H), ea_Met mX6_has d5 [vR (some a11), vI x1] h (some (vI xc13)) h6 ∧ d5 + 1 ≤ d ∧ (xc13 = (0 : Int32) → rv = some (vI (-1)) ∧ hE = h6) ∧ (¬ xc13 = (0 : Int32) → a3 < ea_n h6 ∧ ea_c h6 a3 = 11 ∧ ∃ a22, (ea_r h6 a3 0) = some a22 ∧ a22 < ea_n h6 ∧ ea_c h6 a22 = 6 ∧ ∃ (d16 : Nat) (xc24 : Int32) (h17 : ea_H), ea_Met mX6_has d16 [vR (some a22), vI x2] h6 (some (vI xc24)) h17 ∧ d16 + 1 ≤ d ∧ (¬ xc24 = (0 : Int32) → a3 < ea_n h17 ∧ ea_c h17 a3 = 11 ∧ ∃ a33, (ea_r h17 a3 0) = some a33 ∧ a33 < ea_n h17 ∧ ea_c h17 a33 = 6 ∧ ∃ (d27 : Nat) (xc35 : Int32) (h28 : ea_H), ea_Met mX6_between d27 [vR (some a33), vI x1, vI x2] h17 (some (vI xc35)) h28 ∧ d27 + 1 ≤ d ∧ rv = some (vI xc35) ∧ hE = h28) ∧ (xc24 = (0 : Int32) → rv = some (vI (-1)) ∧ hE = h17))) : ea_W mX11_miles d h0 rv hE 0 [(0, vR r0), (1, vI x1), (2, vI x2)] [] h := by
  refine ea_aload_n (pc := 0) dX11_miles_0 rfl 0 rfl ?_
  obtain ⟨a3, e4, f1, g2, H⟩ := H
  refine ea_deref0 e4 ?_
  refine ea_getR (pc := 1) dX11_miles_1 ec_11 (k := 0) (Nat.le_of_ble_eq_true rfl) rfl (Or.inl ew_437) f1 g2 rfl ?_
  refine ea_iload_n (pc := 4) dX11_miles_4 rfl 1 rfl ?_
  obtain ⟨a11, e12, f9, g10, H⟩ := H
  refine ea_deref1 e12 ?_
  obtain ⟨d5, xc13, h6, m7, q8, H⟩ := H
  refine ea_callV (pc := 5) (As := [vI x1]) (st := []) dX11_miles_5 kX6_has m7 q8 rfl (Nat.le_of_ble_eq_true rfl) ew_494 ew_495 ew_496 (ci := 6) rfl (by decide) f9 g10 ?_
  refine ea_if_eq (pc := 8) (tgt := 22) dX11_miles_8 rfl (fun c37 => ?_) (fun c37 => ?_)
  · have H := H.1 c37
    refine ea_iconst (pc := 22) dX11_miles_22 (v := (-1)) rfl ?_
    obtain ⟨rfl, rfl⟩ := H
    exact ea_ireturn (pc := 23) dX11_miles_23 rfl rfl
  · have H := H.2 c37
    refine ea_aload_n (pc := 11) dX11_miles_11 rfl 0 rfl ?_
    obtain ⟨f14, g15, H⟩ := H
    refine ea_deref0 e4 ?_
    refine ea_getR (pc := 12) dX11_miles_12 ec_11 (k := 0) (Nat.le_of_ble_eq_true rfl) rfl (Or.inl ew_437) f14 g15 rfl ?_
    refine ea_iload_n (pc := 15) dX11_miles_15 rfl 2 rfl ?_
    obtain ⟨a22, e23, f20, g21, H⟩ := H
    refine ea_deref1 e23 ?_
    obtain ⟨d16, xc24, h17, m18, q19, H⟩ := H
    refine ea_callV (pc := 16) (As := [vI x2]) (st := []) dX11_miles_16 kX6_has m18 q19 rfl (Nat.le_of_ble_eq_true rfl) ew_494 ew_495 ew_496 (ci := 6) rfl (by decide) f20 g21 ?_
    refine ea_if_ne (pc := 19) (tgt := 24) dX11_miles_19 rfl (fun c36 => ?_) (fun c36 => ?_)
    · have H := H.1 c36
      refine ea_aload_n (pc := 24) dX11_miles_24 rfl 0 rfl ?_
      obtain ⟨f25, g26, H⟩ := H
      refine ea_deref0 e4 ?_
      refine ea_getR (pc := 25) dX11_miles_25 ec_11 (k := 0) (Nat.le_of_ble_eq_true rfl) rfl (Or.inl ew_437) f25 g26 rfl ?_
      refine ea_iload_n (pc := 28) dX11_miles_28 rfl 1 rfl ?_
      refine ea_iload_n (pc := 29) dX11_miles_29 rfl 2 rfl ?_
      obtain ⟨a33, e34, f31, g32, H⟩ := H
      refine ea_deref2 e34 ?_
      obtain ⟨d27, xc35, h28, m29, q30, H⟩ := H
      refine ea_callV (pc := 30) (As := [vI x1, vI x2]) (st := []) dX11_miles_30 kX6_between m29 q30 rfl (Nat.le_of_ble_eq_true rfl) ew_506 ew_507 ew_508 (ci := 6) rfl (by decide) f31 g32 ?_
      obtain ⟨rfl, rfl⟩ := H
      exact ea_ireturn (pc := 33) dX11_miles_33 rfl rfl
    · have H := H.2 c36
      refine ea_iconst (pc := 22) dX11_miles_22 (v := (-1)) rfl ?_
      obtain ⟨rfl, rfl⟩ := H
      exact ea_ireturn (pc := 23) dX11_miles_23 rfl rfl
theorem dX11_train_0 : decode cX11_train 0 = .ok (.aload_n 0, 1) := by decide +kernel
theorem dX11_train_1 : decode cX11_train 1 = .ok (.getfield 19, 3) := by decide +kernel
theorem dX11_train_4 : decode cX11_train 4 = .ok (.getfield 93, 3) := by decide +kernel
theorem dX11_train_7 : decode cX11_train 7 = .ok (.bipush 10, 2) := by decide +kernel
theorem dX11_train_9 : decode cX11_train 9 = .ok (.if_icmp .lt 5, 3) := by decide +kernel
theorem dX11_train_12 : decode cX11_train 12 = .ok (.iconst (-1), 1) := by decide +kernel
theorem dX11_train_13 : decode cX11_train 13 = .ok (.ireturn, 1) := by decide +kernel
theorem dX11_train_14 : decode cX11_train 14 = .ok (.aload_n 0, 1) := by decide +kernel
theorem dX11_train_15 : decode cX11_train 15 = .ok (.iconst 0, 1) := by decide +kernel
theorem dX11_train_16 : decode cX11_train 16 = .ok (.putfield 96, 3) := by decide +kernel
theorem dX11_train_19 : decode cX11_train 19 = .ok (.aload_n 0, 1) := by decide +kernel
theorem dX11_train_20 : decode cX11_train 20 = .ok (.getfield 19, 3) := by decide +kernel
theorem dX11_train_23 : decode cX11_train 23 = .ok (.dup, 1) := by decide +kernel
theorem dX11_train_24 : decode cX11_train 24 = .ok (.getfield 93, 3) := by decide +kernel
theorem dX11_train_27 : decode cX11_train 27 = .ok (.iconst 1, 1) := by decide +kernel
theorem dX11_train_28 : decode cX11_train 28 = .ok (.iadd, 1) := by decide +kernel
theorem dX11_train_29 : decode cX11_train 29 = .ok (.putfield 93, 3) := by decide +kernel
theorem dX11_train_32 : decode cX11_train 32 = .ok (.aload_n 0, 1) := by decide +kernel
theorem dX11_train_33 : decode cX11_train 33 = .ok (.getfield 19, 3) := by decide +kernel
theorem dX11_train_36 : decode cX11_train 36 = .ok (.getfield 93, 3) := by decide +kernel
theorem dX11_train_39 : decode cX11_train 39 = .ok (.iconst 1, 1) := by decide +kernel
theorem dX11_train_40 : decode cX11_train 40 = .ok (.isub, 1) := by decide +kernel
theorem dX11_train_41 : decode cX11_train 41 = .ok (.ireturn, 1) := by decide +kernel
theorem bX11_train_0 {d : Nat} {h0 hE h : ea_H} {rv : Option ea_V} {r0 : Option Nat} (H : ∃ a3, r0 = some a3 ∧ a3 < ea_n h ∧ ea_c h a3 = 11 ∧ ∃ a7, (ea_r h a3 1) = some a7 ∧ a7 < ea_n h ∧ ea_c h a7 = 9 ∧ ((ea_i h a7 0) < (10 : Int32) → a3 < ea_n h ∧ ea_c h a3 = 11 ∧ ∀ h11, h11 = ea_wi h a3 12 0 → a3 < ea_n h11 ∧ ea_c h11 a3 = 11 ∧ ∃ a17, (ea_r h11 a3 1) = some a17 ∧ a17 < ea_n h11 ∧ ea_c h11 a17 = 9 ∧ a17 < ea_n h11 ∧ ea_c h11 a17 = 9 ∧ ∀ h21, h21 = ea_wi h11 a17 0 ((ea_i h11 a17 0) + (1 : Int32)) → a3 < ea_n h21 ∧ ea_c h21 a3 = 11 ∧ ∃ a27, (ea_r h21 a3 1) = some a27 ∧ a27 < ea_n h21 ∧ ea_c h21 a27 = 9 ∧ rv = some (vI ((ea_i h21 a27 0) - (1 : Int32))) ∧ hE = h21) ∧ (¬ (ea_i h a7 0) < (10 : Int32) → rv = some (vI (-1)) ∧ hE = h)) : ea_W mX11_train d h0 rv hE 0 [(0, vR r0)] [] h := by
  refine ea_aload_n (pc := 0) dX11_train_0 rfl 0 rfl ?_
  obtain ⟨a3, e4, f1, g2, H⟩ := H
  refine ea_deref0 e4 ?_
  refine ea_getR (pc := 1) dX11_train_1 ec_11 (k := 1) (Nat.le_of_ble_eq_true rfl) rfl (Or.inl ew_438) f1 g2 rfl ?_
  obtain ⟨a7, e8, f5, g6, H⟩ := H
  refine ea_deref0 e8 ?_
  refine ea_getI (pc := 4) dX11_train_4 ec_9 (k := 0) (Nat.le_of_ble_eq_true rfl) rfl (Or.inl ew_178) f5 g6 ?_
  refine ea_bipush (pc := 7) dX11_train_7 (v := 10) rfl ?_
  refine ea_icmp_lt (pc := 9) (tgt := 14) dX11_train_9 rfl (fun c29 => ?_) (fun c29 => ?_)
  · have H := H.1 c29
    refine ea_aload_n (pc := 14) dX11_train_14 rfl 0 rfl ?_
    refine ea_iconst (pc := 15) dX11_train_15 (v := 0) rfl ?_
    obtain ⟨f9, g10, H⟩ := H
    refine ea_deref1 e4 ?_
    refine ea_putI (pc := 16) dX11_train_16 ec_11 (k := 12) (Nat.le_of_ble_eq_true rfl) rfl (Or.inl ⟨rfl, Or.inl ew_449⟩) (ea_bn (Or.inl rfl)) (ea_bf (Or.inl rfl)) f9 g10 ?_
    obtain ⟨h11, E12⟩ : ∃ z, z = ea_wi h a3 12 0 := ⟨_, rfl⟩
    have H := H h11 E12
    refine ea_nm E12 ?_
    refine ea_aload_n (pc := 19) dX11_train_19 rfl 0 rfl ?_
    obtain ⟨f13, g14, H⟩ := H
    refine ea_deref0 e4 ?_
    refine ea_getR (pc := 20) dX11_train_20 ec_11 (k := 1) (Nat.le_of_ble_eq_true rfl) rfl (Or.inl ew_438) f13 g14 rfl ?_
    refine ea_dup (pc := 23) dX11_train_23 rfl ?_
    obtain ⟨a17, e18, f15, g16, H⟩ := H
    refine ea_deref0 e18 ?_
    refine ea_getI (pc := 24) dX11_train_24 ec_9 (k := 0) (Nat.le_of_ble_eq_true rfl) rfl (Or.inl ew_178) f15 g16 ?_
    refine ea_iconst (pc := 27) dX11_train_27 (v := 1) rfl ?_
    refine ea_iadd (pc := 28) dX11_train_28 ?_
    obtain ⟨f19, g20, H⟩ := H
    refine ea_deref1 e18 ?_
    refine ea_putI (pc := 29) dX11_train_29 ec_9 (k := 0) (Nat.le_of_ble_eq_true rfl) rfl (Or.inl ⟨rfl, Or.inl ew_178⟩) rfl rfl f19 g20 ?_
    obtain ⟨h21, E22⟩ : ∃ z, z = ea_wi h11 a17 0 ((ea_i h11 a17 0) + (1 : Int32)) := ⟨_, rfl⟩
    have H := H h21 E22
    refine ea_nm E22 ?_
    refine ea_aload_n (pc := 32) dX11_train_32 rfl 0 rfl ?_
    obtain ⟨f23, g24, H⟩ := H
    refine ea_deref0 e4 ?_
    refine ea_getR (pc := 33) dX11_train_33 ec_11 (k := 1) (Nat.le_of_ble_eq_true rfl) rfl (Or.inl ew_438) f23 g24 rfl ?_
    obtain ⟨a27, e28, f25, g26, H⟩ := H
    refine ea_deref0 e28 ?_
    refine ea_getI (pc := 36) dX11_train_36 ec_9 (k := 0) (Nat.le_of_ble_eq_true rfl) rfl (Or.inl ew_178) f25 g26 ?_
    refine ea_iconst (pc := 39) dX11_train_39 (v := 1) rfl ?_
    refine ea_isub (pc := 40) dX11_train_40 ?_
    obtain ⟨rfl, rfl⟩ := H
    exact ea_ireturn (pc := 41) dX11_train_41 rfl rfl
  · have H := H.2 c29
    refine ea_iconst (pc := 12) dX11_train_12 (v := (-1)) rfl ?_
    obtain ⟨rfl, rfl⟩ := H
    exact ea_ireturn (pc := 13) dX11_train_13 rfl rfl
theorem dX11_stop_0 : decode cX11_stop 0 = .ok (.aload_n 0, 1) := by decide +kernel
theorem dX11_stop_1 : decode cX11_stop 1 = .ok (.getfield 100, 3) := by decide +kernel
theorem dX11_stop_4 : decode cX11_stop 4 = .ok (.ifCond .gt 25, 3) := by decide +kernel
theorem dX11_stop_7 : decode cX11_stop 7 = .ok (.aload_n 0, 1) := by decide +kernel
theorem dX11_stop_8 : decode cX11_stop 8 = .ok (.getfield 19, 3) := by decide +kernel
theorem dX11_stop_11 : decode cX11_stop 11 = .ok (.iload_n 1, 1) := by decide +kernel
theorem dX11_stop_12 : decode cX11_stop 12 = .ok (.invokevirtual 103, 3) := by decide +kernel
theorem dX11_stop_15 : decode cX11_stop 15 = .ok (.ifCond .eq 14, 3) := by decide +kernel
theorem dX11_stop_18 : decode cX11_stop 18 = .ok (.aload_n 0, 1) := by decide +kernel
theorem dX11_stop_19 : decode cX11_stop 19 = .ok (.getfield 12, 3) := by decide +kernel
theorem dX11_stop_22 : decode cX11_stop 22 = .ok (.iload_n 2, 1) := by decide +kernel
theorem dX11_stop_23 : decode cX11_stop 23 = .ok (.invokevirtual 81, 3) := by decide +kernel
theorem dX11_stop_26 : decode cX11_stop 26 = .ok (.ifCond .ne 5, 3) := by decide +kernel
theorem dX11_stop_29 : decode cX11_stop 29 = .ok (.iconst (-1), 1) := by decide +kernel
theorem dX11_stop_30 : decode cX11_stop 30 = .ok (.ireturn, 1) := by decide +kernel
theorem dX11_stop_31 : decode cX11_stop 31 = .ok (.aload_n 0, 1) := by decide +kernel
theorem dX11_stop_32 : decode cX11_stop 32 = .ok (.getfield 19, 3) := by decide +kernel
theorem dX11_stop_35 : decode cX11_stop 35 = .ok (.iload_n 1, 1) := by decide +kernel
theorem dX11_stop_36 : decode cX11_stop 36 = .ok (.iload_n 2, 1) := by decide +kernel
theorem dX11_stop_37 : decode cX11_stop 37 = .ok (.iload_n 3, 1) := by decide +kernel
theorem dX11_stop_38 : decode cX11_stop 38 = .ok (.iload 4, 2) := by decide +kernel
theorem dX11_stop_40 : decode cX11_stop 40 = .ok (.iload 5, 2) := by decide +kernel
theorem dX11_stop_42 : decode cX11_stop 42 = .ok (.invokevirtual 104, 3) := by decide +kernel
theorem dX11_stop_45 : decode cX11_stop 45 = .ok (.istore 6, 2) := by decide +kernel
theorem dX11_stop_47 : decode cX11_stop 47 = .ok (.iload 6, 2) := by decide +kernel
theorem dX11_stop_49 : decode cX11_stop 49 = .ok (.iconst (-1), 1) := by decide +kernel
theorem dX11_stop_50 : decode cX11_stop 50 = .ok (.if_icmp .eq 7, 3) := by decide +kernel
theorem dX11_stop_53 : decode cX11_stop 53 = .ok (.aload_n 0, 1) := by decide +kernel
theorem dX11_stop_54 : decode cX11_stop 54 = .ok (.invokevirtual 108, 3) := by decide +kernel
theorem dX11_stop_57 : decode cX11_stop 57 = .ok (.iload 6, 2) := by decide +kernel
theorem dX11_stop_59 : decode cX11_stop 59 = .ok (.ireturn, 1) := by decide +kernel
theorem bX11_stop_0 {d : Nat} {h0 hE h : ea_H} {rv : Option ea_V} {r0 : Option Nat} {x1 : Int32} {x2 : Int32} {x3 : Int32} {x4 : Int32} {x5 : Int32} (H : ∃ a3, r0 = some a3 ∧ a3 < ea_n h ∧ ea_c h a3 = 11 ∧ ((0 : Int32) < (ea_i h a3 11) → rv = some (vI (-1)) ∧ hE = h) ∧ (¬ (0 : Int32) < (ea_i h a3 11) → a3 < ea_n h ∧ ea_c h a3 = 11 ∧ ∃ a13, (ea_r h a3 1) = some a13 ∧ a13 < ea_n h ∧ ea_c h a13 = 9 ∧ ∃ (d7 : Nat) (xc15 : Int32) (h8 : ea_H), ea_Met mX9_has d7 [vR (some a13), vI x1] h (some (vI xc15)) h8 ∧ d7 + 1 ≤ d ∧ (xc15 = (0 : Int32) → rv = some (vI (-1)) ∧ hE = h8) ∧ (¬ xc15 = (0 : Int32) → a3 < ea_n h8 ∧ ea_c h8 a3 = 11 ∧ ∃ a24, (ea_r h8 a3 0) = some a24 ∧ a24 < ea_n h8 ∧ ea_c h8 a24 = 6 ∧ ∃ (d18 : Nat) (xc26 : Int32) (h19 : ea_H), ea_Met mX6_has d18 [vR (some a24), vI x2] h8 (some (vI xc26)) h19 ∧ d18 + 1 ≤ d ∧ (¬ xc26 = (0 : Int32) → a3 < ea_n h19 ∧ ea_c h19 a3 = 11 ∧ ∃ a35, (ea_r h19 a3 1) = some a35 ∧ a35 < ea_n h19 ∧ ea_c h19 a35 = 9 ∧ ∃ (d29 : Nat) (xc37 : Int32) (h30 : ea_H), ea_Met mX9_add d29 [vR (some a35), vI x1, vI x2, vI x3, vI x4, vI x5] h19 (some (vI xc37)) h30 ∧ d29 + 1 ≤ d ∧ (xc37 = ((-1) : Int32) → rv = some (vI xc37) ∧ hE = h30) ∧ (¬ xc37 = ((-1) : Int32) → a3 < ea_n h30 ∧ ea_c h30 a3 = 11 ∧ ∃ (d38 : Nat) (h39 : ea_H), ea_Met mX11_tableChanged d38 [vR (some a3)] h30 none h39 ∧ d38 + 1 ≤ d ∧ rv = some (vI xc37) ∧ hE = h39)) ∧ (xc26 = (0 : Int32) → rv = some (vI (-1)) ∧ hE = h19)))) : ea_W mX11_stop d h0 rv hE 0 [(0, vR r0), (1, vI x1), (2, vI x2), (3, vI x3), (4, vI x4), (5, vI x5)] [] h := by
  refine ea_aload_n (pc := 0) dX11_stop_0 rfl 0 rfl ?_
  obtain ⟨a3, e4, f1, g2, H⟩ := H
  refine ea_deref0 e4 ?_
  refine ea_getI (pc := 1) dX11_stop_1 ec_11 (k := 11) (Nat.le_of_ble_eq_true rfl) rfl (Or.inl ew_448) f1 g2 ?_
  refine ea_if_gt (pc := 4) (tgt := 29) dX11_stop_4 rfl (fun c47 => ?_) (fun c47 => ?_)
  · have H := H.1 c47
    refine ea_iconst (pc := 29) dX11_stop_29 (v := (-1)) rfl ?_
    obtain ⟨rfl, rfl⟩ := H
    exact ea_ireturn (pc := 30) dX11_stop_30 rfl rfl
  · have H := H.2 c47
    refine ea_aload_n (pc := 7) dX11_stop_7 rfl 0 rfl ?_
    obtain ⟨f5, g6, H⟩ := H
    refine ea_deref0 e4 ?_
    refine ea_getR (pc := 8) dX11_stop_8 ec_11 (k := 1) (Nat.le_of_ble_eq_true rfl) rfl (Or.inl ew_438) f5 g6 rfl ?_
    refine ea_iload_n (pc := 11) dX11_stop_11 rfl 1 rfl ?_
    obtain ⟨a13, e14, f11, g12, H⟩ := H
    refine ea_deref1 e14 ?_
    obtain ⟨d7, xc15, h8, m9, q10, H⟩ := H
    refine ea_callV (pc := 12) (As := [vI x1]) (st := []) dX11_stop_12 kX9_has m9 q10 rfl (Nat.le_of_ble_eq_true rfl) ew_518 ew_519 ew_520 (ci := 9) rfl (by decide) f11 g12 ?_
    refine ea_if_eq (pc := 15) (tgt := 29) dX11_stop_15 rfl (fun c46 => ?_) (fun c46 => ?_)
    · have H := H.1 c46
      refine ea_iconst (pc := 29) dX11_stop_29 (v := (-1)) rfl ?_
      obtain ⟨rfl, rfl⟩ := H
      exact ea_ireturn (pc := 30) dX11_stop_30 rfl rfl
    · have H := H.2 c46
      refine ea_aload_n (pc := 18) dX11_stop_18 rfl 0 rfl ?_
      obtain ⟨f16, g17, H⟩ := H
      refine ea_deref0 e4 ?_
      refine ea_getR (pc := 19) dX11_stop_19 ec_11 (k := 0) (Nat.le_of_ble_eq_true rfl) rfl (Or.inl ew_437) f16 g17 rfl ?_
      refine ea_iload_n (pc := 22) dX11_stop_22 rfl 2 rfl ?_
      obtain ⟨a24, e25, f22, g23, H⟩ := H
      refine ea_deref1 e25 ?_
      obtain ⟨d18, xc26, h19, m20, q21, H⟩ := H
      refine ea_callV (pc := 23) (As := [vI x2]) (st := []) dX11_stop_23 kX6_has m20 q21 rfl (Nat.le_of_ble_eq_true rfl) ew_494 ew_495 ew_496 (ci := 6) rfl (by decide) f22 g23 ?_
      refine ea_if_ne (pc := 26) (tgt := 31) dX11_stop_26 rfl (fun c45 => ?_) (fun c45 => ?_)
      · have H := H.1 c45
        refine ea_aload_n (pc := 31) dX11_stop_31 rfl 0 rfl ?_
        obtain ⟨f27, g28, H⟩ := H
        refine ea_deref0 e4 ?_
        refine ea_getR (pc := 32) dX11_stop_32 ec_11 (k := 1) (Nat.le_of_ble_eq_true rfl) rfl (Or.inl ew_438) f27 g28 rfl ?_
        refine ea_iload_n (pc := 35) dX11_stop_35 rfl 1 rfl ?_
        refine ea_iload_n (pc := 36) dX11_stop_36 rfl 2 rfl ?_
        refine ea_iload_n (pc := 37) dX11_stop_37 rfl 3 rfl ?_
        refine ea_iload (pc := 38) dX11_stop_38 4 rfl ?_
        refine ea_iload (pc := 40) dX11_stop_40 5 rfl ?_
        obtain ⟨a35, e36, f33, g34, H⟩ := H
        refine ea_deref5 e36 ?_
        obtain ⟨d29, xc37, h30, m31, q32, H⟩ := H
        refine ea_callV (pc := 42) (As := [vI x1, vI x2, vI x3, vI x4, vI x5]) (st := []) dX11_stop_42 kX9_add m31 q32 rfl (Nat.le_of_ble_eq_true rfl) ew_522 ew_523 ew_524 (ci := 9) rfl (by decide) f33 g34 ?_
        refine ea_istore (pc := 45) (lv' := [(0, vR r0), (6, vI xc37)]) dX11_stop_45 (Nat.le_of_ble_eq_true rfl) [1, 0] rfl ?_
        refine ea_iload (pc := 47) dX11_stop_47 1 rfl ?_
        refine ea_iconst (pc := 49) dX11_stop_49 (v := (-1)) rfl ?_
        refine ea_icmp_eq (pc := 50) (tgt := 57) dX11_stop_50 rfl (fun c44 => ?_) (fun c44 => ?_)
        · have H := H.1 c44
          refine ea_iload (pc := 57) dX11_stop_57 1 rfl ?_
          obtain ⟨rfl, rfl⟩ := H
          exact ea_ireturn (pc := 59) dX11_stop_59 rfl rfl
        · have H := H.2 c44
          refine ea_aload_n (pc := 53) dX11_stop_53 rfl 0 rfl ?_
          obtain ⟨f42, g43, H⟩ := H
          refine ea_deref0 e4 ?_
          obtain ⟨d38, h39, m40, q41, H⟩ := H
          refine ea_callV (pc := 54) (As := []) (st := []) dX11_stop_54 kX11_tableChanged m40 q41 rfl (Nat.le_of_ble_eq_true rfl) ew_526 ew_528 ew_1 (ci := 11) rfl (by decide) f42 g43 ?_
          refine ea_iload (pc := 57) dX11_stop_57 1 rfl ?_
          obtain ⟨rfl, rfl⟩ := H
          exact ea_ireturn (pc := 59) dX11_stop_59 rfl rfl
      · have H := H.2 c45
        refine ea_iconst (pc := 29) dX11_stop_29 (v := (-1)) rfl ?_
        obtain ⟨rfl, rfl⟩ := H
        exact ea_ireturn (pc := 30) dX11_stop_30 rfl rfl
theorem dX11_stopOf_0 : decode cX11_stopOf 0 = .ok (.aload_n 0, 1) := by decide +kernel
theorem dX11_stopOf_1 : decode cX11_stopOf 1 = .ok (.getfield 19, 3) := by decide +kernel
theorem dX11_stopOf_4 : decode cX11_stopOf 4 = .ok (.iload_n 1, 1) := by decide +kernel
theorem dX11_stopOf_5 : decode cX11_stopOf 5 = .ok (.invokevirtual 103, 3) := by decide +kernel
theorem dX11_stopOf_8 : decode cX11_stopOf 8 = .ok (.ifCond .ne 5, 3) := by decide +kernel
theorem dX11_stopOf_11 : decode cX11_stopOf 11 = .ok (.iconst (-1), 1) := by decide +kernel
theorem dX11_stopOf_12 : decode cX11_stopOf 12 = .ok (.ireturn, 1) := by decide +kernel
theorem dX11_stopOf_13 : decode cX11_stopOf 13 = .ok (.iload_n 2, 1) := by decide +kernel
theorem dX11_stopOf_14 : decode cX11_stopOf 14 = .ok (.iconst (-1), 1) := by decide +kernel
theorem dX11_stopOf_15 : decode cX11_stopOf 15 = .ok (.if_icmp .ne 21, 3) := by decide +kernel
theorem dX11_stopOf_18 : decode cX11_stopOf 18 = .ok (.iload_n 3, 1) := by decide +kernel
theorem dX11_stopOf_19 : decode cX11_stopOf 19 = .ok (.ifCond .ne 15, 3) := by decide +kernel
theorem dX11_stopOf_22 : decode cX11_stopOf 22 = .ok (.aload_n 0, 1) := by decide +kernel
theorem dX11_stopOf_23 : decode cX11_stopOf 23 = .ok (.getfield 19, 3) := by decide +kernel
theorem dX11_stopOf_26 : decode cX11_stopOf 26 = .ok (.getfield 111, 3) := by decide +kernel
theorem dX11_stopOf_29 : decode cX11_stopOf 29 = .ok (.iload_n 1, 1) := by decide +kernel
theorem dX11_stopOf_30 : decode cX11_stopOf 30 = .ok (.iaload, 1) := by decide +kernel
theorem dX11_stopOf_31 : decode cX11_stopOf 31 = .ok (.goto 4, 3) := by decide +kernel
theorem dX11_stopOf_34 : decode cX11_stopOf 34 = .ok (.iconst (-1), 1) := by decide +kernel
theorem dX11_stopOf_35 : decode cX11_stopOf 35 = .ok (.ireturn, 1) := by decide +kernel
theorem dX11_stopOf_36 : decode cX11_stopOf 36 = .ok (.iload_n 2, 1) := by decide +kernel
theorem dX11_stopOf_37 : decode cX11_stopOf 37 = .ok (.ifCond .lt 16, 3) := by decide +kernel
theorem dX11_stopOf_40 : decode cX11_stopOf 40 = .ok (.iload_n 2, 1) := by decide +kernel
theorem dX11_stopOf_41 : decode cX11_stopOf 41 = .ok (.aload_n 0, 1) := by decide +kernel
theorem dX11_stopOf_42 : decode cX11_stopOf 42 = .ok (.getfield 19, 3) := by decide +kernel
theorem dX11_stopOf_45 : decode cX11_stopOf 45 = .ok (.getfield 111, 3) := by decide +kernel
theorem dX11_stopOf_48 : decode cX11_stopOf 48 = .ok (.iload_n 1, 1) := by decide +kernel
theorem dX11_stopOf_49 : decode cX11_stopOf 49 = .ok (.iaload, 1) := by decide +kernel
theorem dX11_stopOf_50 : decode cX11_stopOf 50 = .ok (.if_icmp .lt 5, 3) := by decide +kernel
theorem dX11_stopOf_53 : decode cX11_stopOf 53 = .ok (.iconst (-1), 1) := by decide +kernel
theorem dX11_stopOf_54 : decode cX11_stopOf 54 = .ok (.ireturn, 1) := by decide +kernel
theorem dX11_stopOf_55 : decode cX11_stopOf 55 = .ok (.bipush 8, 2) := by decide +kernel
theorem dX11_stopOf_57 : decode cX11_stopOf 57 = .ok (.iload_n 1, 1) := by decide +kernel
theorem dX11_stopOf_58 : decode cX11_stopOf 58 = .ok (.imul, 1) := by decide +kernel
theorem dX11_stopOf_59 : decode cX11_stopOf 59 = .ok (.iload_n 2, 1) := by decide +kernel
theorem dX11_stopOf_60 : decode cX11_stopOf 60 = .ok (.iadd, 1) := by decide +kernel
theorem dX11_stopOf_61 : decode cX11_stopOf 61 = .ok (.istore 4, 2) := by decide +kernel
theorem dX11_stopOf_63 : decode cX11_stopOf 63 = .ok (.iload_n 3, 1) := by decide +kernel
theorem dX11_stopOf_64 : decode cX11_stopOf 64 = .ok (.tableswitch 84 0 3 #[32, 43, 54, 65], 32) := by decide +kernel
theorem dX11_stopOf_96 : decode cX11_stopOf 96 = .ok (.aload_n 0, 1) := by decide +kernel
theorem dX11_stopOf_97 : decode cX11_stopOf 97 = .ok (.getfield 19, 3) := by decide +kernel
theorem dX11_stopOf_100 : decode cX11_stopOf 100 = .ok (.getfield 115, 3) := by decide +kernel
theorem dX11_stopOf_103 : decode cX11_stopOf 103 = .ok (.iload 4, 2) := by decide +kernel
theorem dX11_stopOf_105 : decode cX11_stopOf 105 = .ok (.iaload, 1) := by decide +kernel
theorem dX11_stopOf_106 : decode cX11_stopOf 106 = .ok (.ireturn, 1) := by decide +kernel
theorem dX11_stopOf_107 : decode cX11_stopOf 107 = .ok (.aload_n 0, 1) := by decide +kernel
theorem dX11_stopOf_108 : decode cX11_stopOf 108 = .ok (.getfield 19, 3) := by decide +kernel
theorem dX11_stopOf_111 : decode cX11_stopOf 111 = .ok (.getfield 118, 3) := by decide +kernel
theorem dX11_stopOf_114 : decode cX11_stopOf 114 = .ok (.iload 4, 2) := by decide +kernel
theorem dX11_stopOf_116 : decode cX11_stopOf 116 = .ok (.iaload, 1) := by decide +kernel
theorem dX11_stopOf_117 : decode cX11_stopOf 117 = .ok (.ireturn, 1) := by decide +kernel
theorem dX11_stopOf_118 : decode cX11_stopOf 118 = .ok (.aload_n 0, 1) := by decide +kernel
theorem dX11_stopOf_119 : decode cX11_stopOf 119 = .ok (.getfield 19, 3) := by decide +kernel
theorem dX11_stopOf_122 : decode cX11_stopOf 122 = .ok (.getfield 121, 3) := by decide +kernel
theorem dX11_stopOf_125 : decode cX11_stopOf 125 = .ok (.iload 4, 2) := by decide +kernel
theorem dX11_stopOf_127 : decode cX11_stopOf 127 = .ok (.iaload, 1) := by decide +kernel
theorem dX11_stopOf_128 : decode cX11_stopOf 128 = .ok (.ireturn, 1) := by decide +kernel
theorem dX11_stopOf_129 : decode cX11_stopOf 129 = .ok (.aload_n 0, 1) := by decide +kernel
theorem dX11_stopOf_130 : decode cX11_stopOf 130 = .ok (.getfield 19, 3) := by decide +kernel
theorem dX11_stopOf_133 : decode cX11_stopOf 133 = .ok (.getfield 124, 3) := by decide +kernel
theorem dX11_stopOf_136 : decode cX11_stopOf 136 = .ok (.iload 4, 2) := by decide +kernel
theorem dX11_stopOf_138 : decode cX11_stopOf 138 = .ok (.baload, 1) := by decide +kernel
theorem dX11_stopOf_139 : decode cX11_stopOf 139 = .ok (.ifCond .eq 7, 3) := by decide +kernel
theorem dX11_stopOf_142 : decode cX11_stopOf 142 = .ok (.iconst 1, 1) := by decide +kernel
theorem dX11_stopOf_143 : decode cX11_stopOf 143 = .ok (.goto 4, 3) := by decide +kernel
theorem dX11_stopOf_146 : decode cX11_stopOf 146 = .ok (.iconst 0, 1) := by decide +kernel
theorem dX11_stopOf_147 : decode cX11_stopOf 147 = .ok (.ireturn, 1) := by decide +kernel
theorem dX11_stopOf_148 : decode cX11_stopOf 148 = .ok (.iconst (-1), 1) := by decide +kernel
theorem dX11_stopOf_149 : decode cX11_stopOf 149 = .ok (.ireturn, 1) := by decide +kernel
theorem bX11_stopOf_0 {d : Nat} {h0 hE h : ea_H} {rv : Option ea_V} {r0 : Option Nat} {x1 : Int32} {x2 : Int32} {x3 : Int32} (H : ∃ a3, r0 = some a3 ∧ a3 < ea_n h ∧ ea_c h a3 = 11 ∧ ∃ a11, (ea_r h a3 1) = some a11 ∧ a11 < ea_n h ∧ ea_c h a11 = 9 ∧ ∃ (d5 : Nat) (xc13 : Int32) (h6 : ea_H), ea_Met mX9_has d5 [vR (some a11), vI x1] h (some (vI xc13)) h6 ∧ d5 + 1 ≤ d ∧ (¬ xc13 = (0 : Int32) → (¬ x2 = ((-1) : Int32) → (x2 < (0 : Int32) → rv = some (vI (-1)) ∧ hE = h6) ∧ (¬ x2 < (0 : Int32) → a3 < ea_n h6 ∧ ea_c h6 a3 = 11 ∧ ∃ a18, (ea_r h6 a3 1) = some a18 ∧ a18 < ea_n h6 ∧ ea_c h6 a18 = 9 ∧ ∃ a22, (ea_r h6 a18 1) = some a22 ∧ a22 < ea_n h6 ∧ ea_c h6 a22 = 20 ∧ vp_in x1 (ea_l h6 a22) ∧ (x2 < (ea_i h6 a22 (Int32.toNatClampNeg x1)) → (Int32.toInt x3 = 0 → a3 < ea_n h6 ∧ ea_c h6 a3 = 11 ∧ a18 < ea_n h6 ∧ ea_c h6 a18 = 9 ∧ ∃ a31, (ea_r h6 a18 2) = some a31 ∧ a31 < ea_n h6 ∧ ea_c h6 a31 = 20 ∧ vp_in (((8 : Int32) * x1) + x2) (ea_l h6 a31) ∧ rv = some (vI (ea_i h6 a31 (Int32.toNatClampNeg (((8 : Int32) * x1) + x2)))) ∧ hE = h6) ∧ (Int32.toInt x3 = 1 → a3 < ea_n h6 ∧ ea_c h6 a3 = 11 ∧ a18 < ea_n h6 ∧ ea_c h6 a18 = 9 ∧ ∃ a40, (ea_r h6 a18 3) = some a40 ∧ a40 < ea_n h6 ∧ ea_c h6 a40 = 20 ∧ vp_in (((8 : Int32) * x1) + x2) (ea_l h6 a40) ∧ rv = some (vI (ea_i h6 a40 (Int32.toNatClampNeg (((8 : Int32) * x1) + x2)))) ∧ hE = h6) ∧ (Int32.toInt x3 = 2 → a3 < ea_n h6 ∧ ea_c h6 a3 = 11 ∧ a18 < ea_n h6 ∧ ea_c h6 a18 = 9 ∧ ∃ a49, (ea_r h6 a18 4) = some a49 ∧ a49 < ea_n h6 ∧ ea_c h6 a49 = 20 ∧ vp_in (((8 : Int32) * x1) + x2) (ea_l h6 a49) ∧ rv = some (vI (ea_i h6 a49 (Int32.toNatClampNeg (((8 : Int32) * x1) + x2)))) ∧ hE = h6) ∧ (Int32.toInt x3 = 3 → a3 < ea_n h6 ∧ ea_c h6 a3 = 11 ∧ a18 < ea_n h6 ∧ ea_c h6 a18 = 9 ∧ ∃ a58, (ea_r h6 a18 5) = some a58 ∧ a58 < ea_n h6 ∧ ea_c h6 a58 = 21 ∧ vp_in (((8 : Int32) * x1) + x2) (ea_l h6 a58) ∧ ((ea_i h6 a58 (Int32.toNatClampNeg (((8 : Int32) * x1) + x2))) = (0 : Int32) → rv = some (vI 0) ∧ hE = h6) ∧ (¬ (ea_i h6 a58 (Int32.toNatClampNeg (((8 : Int32) * x1) + x2))) = (0 : Int32) → rv = some (vI 1) ∧ hE = h6)) ∧ (Int32.toInt x3 < 0 ∨ 3 < Int32.toInt x3 → rv = some (vI (-1)) ∧ hE = h6)) ∧ (¬ x2 < (ea_i h6 a22 (Int32.toNatClampNeg x1)) → rv = some (vI (-1)) ∧ hE = h6))) ∧ (x2 = ((-1) : Int32) → (¬ x3 = (0 : Int32) → rv = some (vI (-1)) ∧ hE = h6) ∧ (x3 = (0 : Int32) → a3 < ea_n h6 ∧ ea_c h6 a3 = 11 ∧ ∃ a68, (ea_r h6 a3 1) = some a68 ∧ a68 < ea_n h6 ∧ ea_c h6 a68 = 9 ∧ ∃ a72, (ea_r h6 a68 1) = some a72 ∧ a72 < ea_n h6 ∧ ea_c h6 a72 = 20 ∧ vp_in x1 (ea_l h6 a72) ∧ rv = some (vI (ea_i h6 a72 (Int32.toNatClampNeg x1))) ∧ hE = h6))) ∧ (xc13 = (0 : Int32) → rv = some (vI (-1)) ∧ hE = h6)) : ea_W mX11_stopOf d h0 rv hE 0 [(0, vR r0), (1, vI x1), (2, vI x2), (3, vI x3)] [] h := by
  refine ea_aload_n (pc := 0) dX11_stopOf_0 rfl 0 rfl ?_
  obtain ⟨a3, e4, f1, g2, H⟩ := H
  refine ea_deref0 e4 ?_
  refine ea_getR (pc := 1) dX11_stopOf_1 ec_11 (k := 1) (Nat.le_of_ble_eq_true rfl) rfl (Or.inl ew_438) f1 g2 rfl ?_
  refine ea_iload_n (pc := 4) dX11_stopOf_4 rfl 1 rfl ?_
  obtain ⟨a11, e12, f9, g10, H⟩ := H
  refine ea_deref1 e12 ?_
  obtain ⟨d5, xc13, h6, m7, q8, H⟩ := H
  refine ea_callV (pc := 5) (As := [vI x1]) (st := []) dX11_stopOf_5 kX9_has m7 q8 rfl (Nat.le_of_ble_eq_true rfl) ew_518 ew_519 ew_520 (ci := 9) rfl (by decide) f9 g10 ?_
  refine ea_if_ne (pc := 8) (tgt := 13) dX11_stopOf_8 rfl (fun c77 => ?_) (fun c77 => ?_)
  · have H := H.1 c77
    refine ea_iload_n (pc := 13) dX11_stopOf_13 rfl 2 rfl ?_
    refine ea_iconst (pc := 14) dX11_stopOf_14 (v := (-1)) rfl ?_
    refine ea_icmp_ne (pc := 15) (tgt := 36) dX11_stopOf_15 rfl (fun c76 => ?_) (fun c76 => ?_)
    · have H := H.1 c76
      refine ea_iload_n (pc := 36) dX11_stopOf_36 rfl 2 rfl ?_
      refine ea_if_lt (pc := 37) (tgt := 53) dX11_stopOf_37 rfl (fun c63 => ?_) (fun c63 => ?_)
      · have H := H.1 c63
        refine ea_iconst (pc := 53) dX11_stopOf_53 (v := (-1)) rfl ?_
        obtain ⟨rfl, rfl⟩ := H
        exact ea_ireturn (pc := 54) dX11_stopOf_54 rfl rfl
      · have H := H.2 c63
        refine ea_iload_n (pc := 40) dX11_stopOf_40 rfl 2 rfl ?_
        refine ea_aload_n (pc := 41) dX11_stopOf_41 rfl 0 rfl ?_
        obtain ⟨f14, g15, H⟩ := H
        refine ea_deref0 e4 ?_
        refine ea_getR (pc := 42) dX11_stopOf_42 ec_11 (k := 1) (Nat.le_of_ble_eq_true rfl) rfl (Or.inl ew_438) f14 g15 rfl ?_
        obtain ⟨a18, e19, f16, g17, H⟩ := H
        refine ea_deref0 e19 ?_
        refine ea_getR (pc := 45) dX11_stopOf_45 ec_9 (k := 1) (Nat.le_of_ble_eq_true rfl) rfl (Or.inl ew_181) f16 g17 rfl ?_
        refine ea_iload_n (pc := 48) dX11_stopOf_48 rfl 1 rfl ?_
        obtain ⟨a22, e23, f20, g21, H⟩ := H
        refine ea_deref1 e23 ?_
        obtain ⟨z24, H⟩ := H
        refine ea_iald (pc := 49) dX11_stopOf_49 f20 g21 z24 ?_
        refine ea_icmp_lt (pc := 50) (tgt := 55) dX11_stopOf_50 rfl (fun c62 => ?_) (fun c62 => ?_)
        · have H := H.1 c62
          refine ea_bipush (pc := 55) dX11_stopOf_55 (v := 8) rfl ?_
          refine ea_iload_n (pc := 57) dX11_stopOf_57 rfl 1 rfl ?_
          refine ea_imul (pc := 58) dX11_stopOf_58 ?_
          refine ea_iload_n (pc := 59) dX11_stopOf_59 rfl 2 rfl ?_
          refine ea_iadd (pc := 60) dX11_stopOf_60 ?_
          refine ea_istore (pc := 61) (lv' := [(0, vR r0), (3, vI x3), (4, vI (((8 : Int32) * x1) + x2))]) dX11_stopOf_61 (Nat.le_of_ble_eq_true rfl) [1, 4, 0] rfl ?_
          refine ea_iload_n (pc := 63) dX11_stopOf_63 rfl 1 rfl ?_
          by_cases qc1 : Int32.toInt x3 = 0
          · have H := H.1 qc1
            refine ea_tswIn (pc := 64) (tgt := 96) dX11_stopOf_64 (by omega) (by omega) (by rw [qc1]; rfl) rfl ?_
            refine ea_aload_n (pc := 96) dX11_stopOf_96 rfl 0 rfl ?_
            obtain ⟨f25, g26, H⟩ := H
            refine ea_deref0 e4 ?_
            refine ea_getR (pc := 97) dX11_stopOf_97 ec_11 (k := 1) (Nat.le_of_ble_eq_true rfl) rfl (Or.inl ew_438) f25 g26 rfl ?_
            obtain ⟨f27, g28, H⟩ := H
            refine ea_deref0 e19 ?_
            refine ea_getR (pc := 100) dX11_stopOf_100 ec_9 (k := 2) (Nat.le_of_ble_eq_true rfl) rfl (Or.inl ew_185) f27 g28 rfl ?_
            refine ea_iload (pc := 103) dX11_stopOf_103 2 rfl ?_
            obtain ⟨a31, e32, f29, g30, H⟩ := H
            refine ea_deref1 e32 ?_
            obtain ⟨z33, H⟩ := H
            refine ea_iald (pc := 105) dX11_stopOf_105 f29 g30 z33 ?_
            obtain ⟨rfl, rfl⟩ := H
            exact ea_ireturn (pc := 106) dX11_stopOf_106 rfl rfl
          by_cases qc2 : Int32.toInt x3 = 1
          · have H := H.2.1 qc2
            refine ea_tswIn (pc := 64) (tgt := 107) dX11_stopOf_64 (by omega) (by omega) (by rw [qc2]; rfl) rfl ?_
            refine ea_aload_n (pc := 107) dX11_stopOf_107 rfl 0 rfl ?_
            obtain ⟨f34, g35, H⟩ := H
            refine ea_deref0 e4 ?_
            refine ea_getR (pc := 108) dX11_stopOf_108 ec_11 (k := 1) (Nat.le_of_ble_eq_true rfl) rfl (Or.inl ew_438) f34 g35 rfl ?_
            obtain ⟨f36, g37, H⟩ := H
            refine ea_deref0 e19 ?_
            refine ea_getR (pc := 111) dX11_stopOf_111 ec_9 (k := 3) (Nat.le_of_ble_eq_true rfl) rfl (Or.inl ew_189) f36 g37 rfl ?_
            refine ea_iload (pc := 114) dX11_stopOf_114 2 rfl ?_
            obtain ⟨a40, e41, f38, g39, H⟩ := H
            refine ea_deref1 e41 ?_
            obtain ⟨z42, H⟩ := H
            refine ea_iald (pc := 116) dX11_stopOf_116 f38 g39 z42 ?_
            obtain ⟨rfl, rfl⟩ := H
            exact ea_ireturn (pc := 117) dX11_stopOf_117 rfl rfl
          by_cases qc3 : Int32.toInt x3 = 2
          · have H := H.2.2.1 qc3
            refine ea_tswIn (pc := 64) (tgt := 118) dX11_stopOf_64 (by omega) (by omega) (by rw [qc3]; rfl) rfl ?_
            refine ea_aload_n (pc := 118) dX11_stopOf_118 rfl 0 rfl ?_
            obtain ⟨f43, g44, H⟩ := H
            refine ea_deref0 e4 ?_
            refine ea_getR (pc := 119) dX11_stopOf_119 ec_11 (k := 1) (Nat.le_of_ble_eq_true rfl) rfl (Or.inl ew_438) f43 g44 rfl ?_
            obtain ⟨f45, g46, H⟩ := H
            refine ea_deref0 e19 ?_
            refine ea_getR (pc := 122) dX11_stopOf_122 ec_9 (k := 4) (Nat.le_of_ble_eq_true rfl) rfl (Or.inl ew_192) f45 g46 rfl ?_
            refine ea_iload (pc := 125) dX11_stopOf_125 2 rfl ?_
            obtain ⟨a49, e50, f47, g48, H⟩ := H
            refine ea_deref1 e50 ?_
            obtain ⟨z51, H⟩ := H
            refine ea_iald (pc := 127) dX11_stopOf_127 f47 g48 z51 ?_
            obtain ⟨rfl, rfl⟩ := H
            exact ea_ireturn (pc := 128) dX11_stopOf_128 rfl rfl
          by_cases qc4 : Int32.toInt x3 = 3
          · have H := H.2.2.2.1 qc4
            refine ea_tswIn (pc := 64) (tgt := 129) dX11_stopOf_64 (by omega) (by omega) (by rw [qc4]; rfl) rfl ?_
            refine ea_aload_n (pc := 129) dX11_stopOf_129 rfl 0 rfl ?_
            obtain ⟨f52, g53, H⟩ := H
            refine ea_deref0 e4 ?_
            refine ea_getR (pc := 130) dX11_stopOf_130 ec_11 (k := 1) (Nat.le_of_ble_eq_true rfl) rfl (Or.inl ew_438) f52 g53 rfl ?_
            obtain ⟨f54, g55, H⟩ := H
            refine ea_deref0 e19 ?_
            refine ea_getR (pc := 133) dX11_stopOf_133 ec_9 (k := 5) (Nat.le_of_ble_eq_true rfl) rfl (Or.inl ew_195) f54 g55 rfl ?_
            refine ea_iload (pc := 136) dX11_stopOf_136 2 rfl ?_
            obtain ⟨a58, e59, f56, g57, H⟩ := H
            refine ea_deref1 e59 ?_
            obtain ⟨z60, H⟩ := H
            refine ea_zald (pc := 138) dX11_stopOf_138 f56 g57 z60 ?_
            refine ea_if_eq (pc := 139) (tgt := 146) dX11_stopOf_139 rfl (fun c61 => ?_) (fun c61 => ?_)
            · have H := H.1 c61
              refine ea_iconst (pc := 146) dX11_stopOf_146 (v := 0) rfl ?_
              obtain ⟨rfl, rfl⟩ := H
              exact ea_ireturn (pc := 147) dX11_stopOf_147 rfl rfl
            · have H := H.2 c61
              refine ea_iconst (pc := 142) dX11_stopOf_142 (v := 1) rfl ?_
              refine ea_goto (pc := 143) (tgt := 147) dX11_stopOf_143 rfl ?_
              obtain ⟨rfl, rfl⟩ := H
              exact ea_ireturn (pc := 147) dX11_stopOf_147 rfl rfl
          have qd : Int32.toInt x3 < 0 ∨ 3 < Int32.toInt x3 := by omega
          have H := H.2.2.2.2 qd
          refine ea_tswOut (pc := 64) (tgt := 148) dX11_stopOf_64 qd rfl ?_
          refine ea_iconst (pc := 148) dX11_stopOf_148 (v := (-1)) rfl ?_
          obtain ⟨rfl, rfl⟩ := H
          exact ea_ireturn (pc := 149) dX11_stopOf_149 rfl rfl
        · have H := H.2 c62
          refine ea_iconst (pc := 53) dX11_stopOf_53 (v := (-1)) rfl ?_
          obtain ⟨rfl, rfl⟩ := H
          exact ea_ireturn (pc := 54) dX11_stopOf_54 rfl rfl
    · have H := H.2 c76
      refine ea_iload_n (pc := 18) dX11_stopOf_18 rfl 3 rfl ?_
      refine ea_if_ne (pc := 19) (tgt := 34) dX11_stopOf_19 rfl (fun c75 => ?_) (fun c75 => ?_)
      · have H := H.1 c75
        refine ea_iconst (pc := 34) dX11_stopOf_34 (v := (-1)) rfl ?_
        obtain ⟨rfl, rfl⟩ := H
        exact ea_ireturn (pc := 35) dX11_stopOf_35 rfl rfl
      · have H := H.2 c75
        refine ea_aload_n (pc := 22) dX11_stopOf_22 rfl 0 rfl ?_
        obtain ⟨f64, g65, H⟩ := H
        refine ea_deref0 e4 ?_
        refine ea_getR (pc := 23) dX11_stopOf_23 ec_11 (k := 1) (Nat.le_of_ble_eq_true rfl) rfl (Or.inl ew_438) f64 g65 rfl ?_
        obtain ⟨a68, e69, f66, g67, H⟩ := H
        refine ea_deref0 e69 ?_
        refine ea_getR (pc := 26) dX11_stopOf_26 ec_9 (k := 1) (Nat.le_of_ble_eq_true rfl) rfl (Or.inl ew_181) f66 g67 rfl ?_
        refine ea_iload_n (pc := 29) dX11_stopOf_29 rfl 1 rfl ?_
        obtain ⟨a72, e73, f70, g71, H⟩ := H
        refine ea_deref1 e73 ?_
        obtain ⟨z74, H⟩ := H
        refine ea_iald (pc := 30) dX11_stopOf_30 f70 g71 z74 ?_
        refine ea_goto (pc := 31) (tgt := 35) dX11_stopOf_31 rfl ?_
        obtain ⟨rfl, rfl⟩ := H
        exact ea_ireturn (pc := 35) dX11_stopOf_35 rfl rfl
  · have H := H.2 c77
    refine ea_iconst (pc := 11) dX11_stopOf_11 (v := (-1)) rfl ?_
    obtain ⟨rfl, rfl⟩ := H
    exact ea_ireturn (pc := 12) dX11_stopOf_12 rfl rfl
theorem dX11_late_0 : decode cX11_late 0 = .ok (.aload_n 0, 1) := by decide +kernel
theorem dX11_late_1 : decode cX11_late 1 = .ok (.iload_n 1, 1) := by decide +kernel
theorem dX11_late_2 : decode cX11_late 2 = .ok (.iload_n 2, 1) := by decide +kernel
theorem dX11_late_3 : decode cX11_late 3 = .ok (.iload_n 3, 1) := by decide +kernel
theorem dX11_late_4 : decode cX11_late 4 = .ok (.invokevirtual 128, 3) := by decide +kernel
theorem dX11_late_7 : decode cX11_late 7 = .ok (.ifCond .ne 5, 3) := by decide +kernel
theorem dX11_late_10 : decode cX11_late 10 = .ok (.iconst 0, 1) := by decide +kernel
theorem dX11_late_11 : decode cX11_late 11 = .ok (.ireturn, 1) := by decide +kernel
theorem dX11_late_12 : decode cX11_late 12 = .ok (.aload_n 0, 1) := by decide +kernel
theorem dX11_late_13 : decode cX11_late 13 = .ok (.getfield 19, 3) := by decide +kernel
theorem dX11_late_16 : decode cX11_late 16 = .ok (.getfield 132, 3) := by decide +kernel
theorem dX11_late_19 : decode cX11_late 19 = .ok (.bipush 10, 2) := by decide +kernel
theorem dX11_late_21 : decode cX11_late 21 = .ok (.iload_n 2, 1) := by decide +kernel
theorem dX11_late_22 : decode cX11_late 22 = .ok (.imul, 1) := by decide +kernel
theorem dX11_late_23 : decode cX11_late 23 = .ok (.iload_n 1, 1) := by decide +kernel
theorem dX11_late_24 : decode cX11_late 24 = .ok (.iadd, 1) := by decide +kernel
theorem dX11_late_25 : decode cX11_late 25 = .ok (.iload_n 3, 1) := by decide +kernel
theorem dX11_late_26 : decode cX11_late 26 = .ok (.iastore, 1) := by decide +kernel
theorem dX11_late_27 : decode cX11_late 27 = .ok (.aload_n 0, 1) := by decide +kernel
theorem dX11_late_28 : decode cX11_late 28 = .ok (.invokevirtual 108, 3) := by decide +kernel
theorem dX11_late_31 : decode cX11_late 31 = .ok (.iconst 1, 1) := by decide +kernel
theorem dX11_late_32 : decode cX11_late 32 = .ok (.ireturn, 1) := by decide +kernel
theorem bX11_late_0 {d : Nat} {h0 hE h : ea_H} {rv : Option ea_V} {r0 : Option Nat} {x1 : Int32} {x2 : Int32} {x3 : Int32} (H : ∃ a7, r0 = some a7 ∧ a7 < ea_n h ∧ ea_c h a7 = 11 ∧ ∃ (d1 : Nat) (xc9 : Int32) (h2 : ea_H), ea_Met mX11_mayBeTold d1 [vR (some a7), vI x1, vI x2, vI x3] h (some (vI xc9)) h2 ∧ d1 + 1 ≤ d ∧ (¬ xc9 = (0 : Int32) → a7 < ea_n h2 ∧ ea_c h2 a7 = 11 ∧ ∃ a14, (ea_r h2 a7 1) = some a14 ∧ a14 < ea_n h2 ∧ ea_c h2 a14 = 9 ∧ ∃ a18, (ea_r h2 a14 6) = some a18 ∧ a18 < ea_n h2 ∧ ea_c h2 a18 = 20 ∧ vp_in (((10 : Int32) * x2) + x1) (ea_l h2 a18) ∧ ∀ h21, h21 = ea_wi h2 a18 (Int32.toNatClampNeg (((10 : Int32) * x2) + x1)) x3 → a7 < ea_n h21 ∧ ea_c h21 a7 = 11 ∧ ∃ (d23 : Nat) (h24 : ea_H), ea_Met mX11_tableChanged d23 [vR (some a7)] h21 none h24 ∧ d23 + 1 ≤ d ∧ rv = some (vI 1) ∧ hE = h24) ∧ (xc9 = (0 : Int32) → rv = some (vI 0) ∧ hE = h2)) : ea_W mX11_late d h0 rv hE 0 [(0, vR r0), (1, vI x1), (2, vI x2), (3, vI x3)] [] h := by
  refine ea_aload_n (pc := 0) dX11_late_0 rfl 0 rfl ?_
  refine ea_iload_n (pc := 1) dX11_late_1 rfl 1 rfl ?_
  refine ea_iload_n (pc := 2) dX11_late_2 rfl 2 rfl ?_
  refine ea_iload_n (pc := 3) dX11_late_3 rfl 3 rfl ?_
  obtain ⟨a7, e8, f5, g6, H⟩ := H
  refine ea_deref3 e8 ?_
  obtain ⟨d1, xc9, h2, m3, q4, H⟩ := H
  refine ea_callV (pc := 4) (As := [vI x1, vI x2, vI x3]) (st := []) dX11_late_4 kX11_mayBeTold m3 q4 rfl (Nat.le_of_ble_eq_true rfl) ew_538 ew_540 ew_2 (ci := 11) rfl (by decide) f5 g6 ?_
  refine ea_if_ne (pc := 7) (tgt := 12) dX11_late_7 rfl (fun c29 => ?_) (fun c29 => ?_)
  · have H := H.1 c29
    refine ea_aload_n (pc := 12) dX11_late_12 rfl 0 rfl ?_
    obtain ⟨f10, g11, H⟩ := H
    refine ea_deref0 e8 ?_
    refine ea_getR (pc := 13) dX11_late_13 ec_11 (k := 1) (Nat.le_of_ble_eq_true rfl) rfl (Or.inl ew_438) f10 g11 rfl ?_
    obtain ⟨a14, e15, f12, g13, H⟩ := H
    refine ea_deref0 e15 ?_
    refine ea_getR (pc := 16) dX11_late_16 ec_9 (k := 6) (Nat.le_of_ble_eq_true rfl) rfl (Or.inl ew_197) f12 g13 rfl ?_
    refine ea_bipush (pc := 19) dX11_late_19 (v := 10) rfl ?_
    refine ea_iload_n (pc := 21) dX11_late_21 rfl 2 rfl ?_
    refine ea_imul (pc := 22) dX11_late_22 ?_
    refine ea_iload_n (pc := 23) dX11_late_23 rfl 1 rfl ?_
    refine ea_iadd (pc := 24) dX11_late_24 ?_
    refine ea_iload_n (pc := 25) dX11_late_25 rfl 3 rfl ?_
    obtain ⟨a18, e19, f16, g17, H⟩ := H
    refine ea_deref2 e19 ?_
    obtain ⟨z20, H⟩ := H
    refine ea_iast (pc := 26) dX11_late_26 f16 g17 z20 ?_
    obtain ⟨h21, E22⟩ : ∃ z, z = ea_wi h2 a18 (Int32.toNatClampNeg (((10 : Int32) * x2) + x1)) x3 := ⟨_, rfl⟩
    have H := H h21 E22
    refine ea_nm E22 ?_
    refine ea_aload_n (pc := 27) dX11_late_27 rfl 0 rfl ?_
    obtain ⟨f27, g28, H⟩ := H
    refine ea_deref0 e8 ?_
    obtain ⟨d23, h24, m25, q26, H⟩ := H
    refine ea_callV (pc := 28) (As := []) (st := []) dX11_late_28 kX11_tableChanged m25 q26 rfl (Nat.le_of_ble_eq_true rfl) ew_526 ew_528 ew_1 (ci := 11) rfl (by decide) f27 g28 ?_
    refine ea_iconst (pc := 31) dX11_late_31 (v := 1) rfl ?_
    obtain ⟨rfl, rfl⟩ := H
    exact ea_ireturn (pc := 32) dX11_late_32 rfl (ea_bn (Or.inr rfl))
  · have H := H.2 c29
    refine ea_iconst (pc := 10) dX11_late_10 (v := 0) rfl ?_
    obtain ⟨rfl, rfl⟩ := H
    exact ea_ireturn (pc := 11) dX11_late_11 rfl (ea_bn (Or.inl rfl))
theorem dX11_miss_0 : decode cX11_miss 0 = .ok (.aload_n 0, 1) := by decide +kernel
theorem dX11_miss_1 : decode cX11_miss 1 = .ok (.getfield 19, 3) := by decide +kernel
theorem dX11_miss_4 : decode cX11_miss 4 = .ok (.iload_n 1, 1) := by decide +kernel
theorem dX11_miss_5 : decode cX11_miss 5 = .ok (.iload_n 2, 1) := by decide +kernel
theorem dX11_miss_6 : decode cX11_miss 6 = .ok (.invokevirtual 135, 3) := by decide +kernel
theorem dX11_miss_9 : decode cX11_miss 9 = .ok (.ifCond .eq 22, 3) := by decide +kernel
theorem dX11_miss_12 : decode cX11_miss 12 = .ok (.iload_n 3, 1) := by decide +kernel
theorem dX11_miss_13 : decode cX11_miss 13 = .ok (.ifCond .lt 18, 3) := by decide +kernel
theorem dX11_miss_16 : decode cX11_miss 16 = .ok (.iload_n 3, 1) := by decide +kernel
theorem dX11_miss_17 : decode cX11_miss 17 = .ok (.aload_n 0, 1) := by decide +kernel
theorem dX11_miss_18 : decode cX11_miss 18 = .ok (.getfield 19, 3) := by decide +kernel
theorem dX11_miss_21 : decode cX11_miss 21 = .ok (.getfield 111, 3) := by decide +kernel
theorem dX11_miss_24 : decode cX11_miss 24 = .ok (.iload_n 1, 1) := by decide +kernel
theorem dX11_miss_25 : decode cX11_miss 25 = .ok (.iaload, 1) := by decide +kernel
theorem dX11_miss_26 : decode cX11_miss 26 = .ok (.iconst 1, 1) := by decide +kernel
theorem dX11_miss_27 : decode cX11_miss 27 = .ok (.isub, 1) := by decide +kernel
theorem dX11_miss_28 : decode cX11_miss 28 = .ok (.if_icmp .lt 5, 3) := by decide +kernel
theorem dX11_miss_31 : decode cX11_miss 31 = .ok (.iconst 0, 1) := by decide +kernel
theorem dX11_miss_32 : decode cX11_miss 32 = .ok (.ireturn, 1) := by decide +kernel
theorem dX11_miss_33 : decode cX11_miss 33 = .ok (.bipush 8, 2) := by decide +kernel
theorem dX11_miss_35 : decode cX11_miss 35 = .ok (.bipush 10, 2) := by decide +kernel
theorem dX11_miss_37 : decode cX11_miss 37 = .ok (.iload_n 2, 1) := by decide +kernel
theorem dX11_miss_38 : decode cX11_miss 38 = .ok (.imul, 1) := by decide +kernel
theorem dX11_miss_39 : decode cX11_miss 39 = .ok (.iload_n 1, 1) := by decide +kernel
theorem dX11_miss_40 : decode cX11_miss 40 = .ok (.iadd, 1) := by decide +kernel
theorem dX11_miss_41 : decode cX11_miss 41 = .ok (.imul, 1) := by decide +kernel
theorem dX11_miss_42 : decode cX11_miss 42 = .ok (.iload_n 3, 1) := by decide +kernel
theorem dX11_miss_43 : decode cX11_miss 43 = .ok (.iadd, 1) := by decide +kernel
theorem dX11_miss_44 : decode cX11_miss 44 = .ok (.istore 4, 2) := by decide +kernel
theorem dX11_miss_46 : decode cX11_miss 46 = .ok (.aload_n 0, 1) := by decide +kernel
theorem dX11_miss_47 : decode cX11_miss 47 = .ok (.getfield 19, 3) := by decide +kernel
theorem dX11_miss_50 : decode cX11_miss 50 = .ok (.getfield 124, 3) := by decide +kernel
theorem dX11_miss_53 : decode cX11_miss 53 = .ok (.bipush 8, 2) := by decide +kernel
theorem dX11_miss_55 : decode cX11_miss 55 = .ok (.iload_n 1, 1) := by decide +kernel
theorem dX11_miss_56 : decode cX11_miss 56 = .ok (.imul, 1) := by decide +kernel
theorem dX11_miss_57 : decode cX11_miss 57 = .ok (.iload_n 3, 1) := by decide +kernel
theorem dX11_miss_58 : decode cX11_miss 58 = .ok (.iadd, 1) := by decide +kernel
theorem dX11_miss_59 : decode cX11_miss 59 = .ok (.baload, 1) := by decide +kernel
theorem dX11_miss_60 : decode cX11_miss 60 = .ok (.ifCond .eq 33, 3) := by decide +kernel
theorem dX11_miss_63 : decode cX11_miss 63 = .ok (.aload_n 0, 1) := by decide +kernel
theorem dX11_miss_64 : decode cX11_miss 64 = .ok (.getfield 19, 3) := by decide +kernel
theorem dX11_miss_67 : decode cX11_miss 67 = .ok (.getfield 139, 3) := by decide +kernel
theorem dX11_miss_70 : decode cX11_miss 70 = .ok (.iload 4, 2) := by decide +kernel
theorem dX11_miss_72 : decode cX11_miss 72 = .ok (.baload, 1) := by decide +kernel
theorem dX11_miss_73 : decode cX11_miss 73 = .ok (.ifCond .ne 20, 3) := by decide +kernel
theorem dX11_miss_76 : decode cX11_miss 76 = .ok (.aload_n 0, 1) := by decide +kernel
theorem dX11_miss_77 : decode cX11_miss 77 = .ok (.getfield 19, 3) := by decide +kernel
theorem dX11_miss_80 : decode cX11_miss 80 = .ok (.iload_n 1, 1) := by decide +kernel
theorem dX11_miss_81 : decode cX11_miss 81 = .ok (.iload_n 2, 1) := by decide +kernel
theorem dX11_miss_82 : decode cX11_miss 82 = .ok (.iload_n 3, 1) := by decide +kernel
theorem dX11_miss_83 : decode cX11_miss 83 = .ok (.invokevirtual 142, 3) := by decide +kernel
theorem dX11_miss_86 : decode cX11_miss 86 = .ok (.aload_n 0, 1) := by decide +kernel
theorem dX11_miss_87 : decode cX11_miss 87 = .ok (.getfield 100, 3) := by decide +kernel
theorem dX11_miss_90 : decode cX11_miss 90 = .ok (.if_icmp .gt 5, 3) := by decide +kernel
theorem dX11_miss_93 : decode cX11_miss 93 = .ok (.iconst 0, 1) := by decide +kernel
theorem dX11_miss_94 : decode cX11_miss 94 = .ok (.ireturn, 1) := by decide +kernel
theorem dX11_miss_95 : decode cX11_miss 95 = .ok (.aload_n 0, 1) := by decide +kernel
theorem dX11_miss_96 : decode cX11_miss 96 = .ok (.getfield 19, 3) := by decide +kernel
theorem dX11_miss_99 : decode cX11_miss 99 = .ok (.getfield 139, 3) := by decide +kernel
theorem dX11_miss_102 : decode cX11_miss 102 = .ok (.iload 4, 2) := by decide +kernel
theorem dX11_miss_104 : decode cX11_miss 104 = .ok (.iconst 1, 1) := by decide +kernel
theorem dX11_miss_105 : decode cX11_miss 105 = .ok (.bastore, 1) := by decide +kernel
theorem dX11_miss_106 : decode cX11_miss 106 = .ok (.aload_n 0, 1) := by decide +kernel
theorem dX11_miss_107 : decode cX11_miss 107 = .ok (.iconst 0, 1) := by decide +kernel
theorem dX11_miss_108 : decode cX11_miss 108 = .ok (.putfield 96, 3) := by decide +kernel
theorem dX11_miss_111 : decode cX11_miss 111 = .ok (.iconst 1, 1) := by decide +kernel
theorem dX11_miss_112 : decode cX11_miss 112 = .ok (.ireturn, 1) := by decide +kernel
theorem bX11_miss_0 {d : Nat} {h0 hE h : ea_H} {rv : Option ea_V} {r0 : Option Nat} {x1 : Int32} {x2 : Int32} {x3 : Int32} (H : ∃ a3, r0 = some a3 ∧ a3 < ea_n h ∧ ea_c h a3 = 11 ∧ ∃ a11, (ea_r h a3 1) = some a11 ∧ a11 < ea_n h ∧ ea_c h a11 = 9 ∧ ∃ (d5 : Nat) (xc13 : Int32) (h6 : ea_H), ea_Met mX9_hasRun d5 [vR (some a11), vI x1, vI x2] h (some (vI xc13)) h6 ∧ d5 + 1 ≤ d ∧ (xc13 = (0 : Int32) → rv = some (vI 0) ∧ hE = h6) ∧ (¬ xc13 = (0 : Int32) → (x3 < (0 : Int32) → rv = some (vI 0) ∧ hE = h6) ∧ (¬ x3 < (0 : Int32) → a3 < ea_n h6 ∧ ea_c h6 a3 = 11 ∧ ∃ a18, (ea_r h6 a3 1) = some a18 ∧ a18 < ea_n h6 ∧ ea_c h6 a18 = 9 ∧ ∃ a22, (ea_r h6 a18 1) = some a22 ∧ a22 < ea_n h6 ∧ ea_c h6 a22 = 20 ∧ vp_in x1 (ea_l h6 a22) ∧ (x3 < ((ea_i h6 a22 (Int32.toNatClampNeg x1)) - (1 : Int32)) → a3 < ea_n h6 ∧ ea_c h6 a3 = 11 ∧ a18 < ea_n h6 ∧ ea_c h6 a18 = 9 ∧ ∃ a31, (ea_r h6 a18 5) = some a31 ∧ a31 < ea_n h6 ∧ ea_c h6 a31 = 21 ∧ vp_in (((8 : Int32) * x1) + x3) (ea_l h6 a31) ∧ ((ea_i h6 a31 (Int32.toNatClampNeg (((8 : Int32) * x1) + x3))) = (0 : Int32) → rv = some (vI 0) ∧ hE = h6) ∧ (¬ (ea_i h6 a31 (Int32.toNatClampNeg (((8 : Int32) * x1) + x3))) = (0 : Int32) → a3 < ea_n h6 ∧ ea_c h6 a3 = 11 ∧ a18 < ea_n h6 ∧ ea_c h6 a18 = 9 ∧ ∃ a40, (ea_r h6 a18 7) = some a40 ∧ a40 < ea_n h6 ∧ ea_c h6 a40 = 21 ∧ vp_in (((8 : Int32) * (((10 : Int32) * x2) + x1)) + x3) (ea_l h6 a40) ∧ (¬ (ea_i h6 a40 (Int32.toNatClampNeg (((8 : Int32) * (((10 : Int32) * x2) + x1)) + x3))) = (0 : Int32) → rv = some (vI 0) ∧ hE = h6) ∧ ((ea_i h6 a40 (Int32.toNatClampNeg (((8 : Int32) * (((10 : Int32) * x2) + x1)) + x3))) = (0 : Int32) → a3 < ea_n h6 ∧ ea_c h6 a3 = 11 ∧ a18 < ea_n h6 ∧ ea_c h6 a18 = 9 ∧ ∃ (d45 : Nat) (xc51 : Int32) (h46 : ea_H), ea_Met mX9_comesAt d45 [vR (some a18), vI x1, vI x2, vI x3] h6 (some (vI xc51)) h46 ∧ d45 + 1 ≤ d ∧ a3 < ea_n h46 ∧ ea_c h46 a3 = 11 ∧ ((ea_i h46 a3 11) < xc51 → a3 < ea_n h46 ∧ ea_c h46 a3 = 11 ∧ ∃ a58, (ea_r h46 a3 1) = some a58 ∧ a58 < ea_n h46 ∧ ea_c h46 a58 = 9 ∧ ∃ a62, (ea_r h46 a58 7) = some a62 ∧ a62 < ea_n h46 ∧ ea_c h46 a62 = 21 ∧ vp_in (((8 : Int32) * (((10 : Int32) * x2) + x1)) + x3) (ea_l h46 a62) ∧ ∀ h65, h65 = ea_wi h46 a62 (Int32.toNatClampNeg (((8 : Int32) * (((10 : Int32) * x2) + x1)) + x3)) 1 → a3 < ea_n h65 ∧ ea_c h65 a3 = 11 ∧ ∀ h69, h69 = ea_wi h65 a3 12 0 → rv = some (vI 1) ∧ hE = h69) ∧ (¬ (ea_i h46 a3 11) < xc51 → rv = some (vI 0) ∧ hE = h46)))) ∧ (¬ x3 < ((ea_i h6 a22 (Int32.toNatClampNeg x1)) - (1 : Int32)) → rv = some (vI 0) ∧ hE = h6)))) : ea_W mX11_miss d h0 rv hE 0 [(0, vR r0), (1, vI x1), (2, vI x2), (3, vI x3)] [] h := by
  refine ea_aload_n (pc := 0) dX11_miss_0 rfl 0 rfl ?_
  obtain ⟨a3, e4, f1, g2, H⟩ := H
  refine ea_deref0 e4 ?_
  refine ea_getR (pc := 1) dX11_miss_1 ec_11 (k := 1) (Nat.le_of_ble_eq_true rfl) rfl (Or.inl ew_438) f1 g2 rfl ?_
  refine ea_iload_n (pc := 4) dX11_miss_4 rfl 1 rfl ?_
  refine ea_iload_n (pc := 5) dX11_miss_5 rfl 2 rfl ?_
  obtain ⟨a11, e12, f9, g10, H⟩ := H
  refine ea_deref2 e12 ?_
  obtain ⟨d5, xc13, h6, m7, q8, H⟩ := H
  refine ea_callV (pc := 6) (As := [vI x1, vI x2]) (st := []) dX11_miss_6 kX9_hasRun m7 q8 rfl (Nat.le_of_ble_eq_true rfl) ew_542 ew_543 ew_544 (ci := 9) rfl (by decide) f9 g10 ?_
  refine ea_if_eq (pc := 9) (tgt := 31) dX11_miss_9 rfl (fun c76 => ?_) (fun c76 => ?_)
  · have H := H.1 c76
    refine ea_iconst (pc := 31) dX11_miss_31 (v := 0) rfl ?_
    obtain ⟨rfl, rfl⟩ := H
    exact ea_ireturn (pc := 32) dX11_miss_32 rfl (ea_bn (Or.inl rfl))
  · have H := H.2 c76
    refine ea_iload_n (pc := 12) dX11_miss_12 rfl 3 rfl ?_
    refine ea_if_lt (pc := 13) (tgt := 31) dX11_miss_13 rfl (fun c75 => ?_) (fun c75 => ?_)
    · have H := H.1 c75
      refine ea_iconst (pc := 31) dX11_miss_31 (v := 0) rfl ?_
      obtain ⟨rfl, rfl⟩ := H
      exact ea_ireturn (pc := 32) dX11_miss_32 rfl (ea_bn (Or.inl rfl))
    · have H := H.2 c75
      refine ea_iload_n (pc := 16) dX11_miss_16 rfl 3 rfl ?_
      refine ea_aload_n (pc := 17) dX11_miss_17 rfl 0 rfl ?_
      obtain ⟨f14, g15, H⟩ := H
      refine ea_deref0 e4 ?_
      refine ea_getR (pc := 18) dX11_miss_18 ec_11 (k := 1) (Nat.le_of_ble_eq_true rfl) rfl (Or.inl ew_438) f14 g15 rfl ?_
      obtain ⟨a18, e19, f16, g17, H⟩ := H
      refine ea_deref0 e19 ?_
      refine ea_getR (pc := 21) dX11_miss_21 ec_9 (k := 1) (Nat.le_of_ble_eq_true rfl) rfl (Or.inl ew_181) f16 g17 rfl ?_
      refine ea_iload_n (pc := 24) dX11_miss_24 rfl 1 rfl ?_
      obtain ⟨a22, e23, f20, g21, H⟩ := H
      refine ea_deref1 e23 ?_
      obtain ⟨z24, H⟩ := H
      refine ea_iald (pc := 25) dX11_miss_25 f20 g21 z24 ?_
      refine ea_iconst (pc := 26) dX11_miss_26 (v := 1) rfl ?_
      refine ea_isub (pc := 27) dX11_miss_27 ?_
      refine ea_icmp_lt (pc := 28) (tgt := 33) dX11_miss_28 rfl (fun c74 => ?_) (fun c74 => ?_)
      · have H := H.1 c74
        refine ea_bipush (pc := 33) dX11_miss_33 (v := 8) rfl ?_
        refine ea_bipush (pc := 35) dX11_miss_35 (v := 10) rfl ?_
        refine ea_iload_n (pc := 37) dX11_miss_37 rfl 2 rfl ?_
        refine ea_imul (pc := 38) dX11_miss_38 ?_
        refine ea_iload_n (pc := 39) dX11_miss_39 rfl 1 rfl ?_
        refine ea_iadd (pc := 40) dX11_miss_40 ?_
        refine ea_imul (pc := 41) dX11_miss_41 ?_
        refine ea_iload_n (pc := 42) dX11_miss_42 rfl 3 rfl ?_
        refine ea_iadd (pc := 43) dX11_miss_43 ?_
        refine ea_istore (pc := 44) (lv' := [(0, vR r0), (1, vI x1), (2, vI x2), (3, vI x3), (4, vI (((8 : Int32) * (((10 : Int32) * x2) + x1)) + x3))]) dX11_miss_44 (Nat.le_of_ble_eq_true rfl) [1, 2, 3, 4, 0] rfl ?_
        refine ea_aload_n (pc := 46) dX11_miss_46 rfl 0 rfl ?_
        obtain ⟨f25, g26, H⟩ := H
        refine ea_deref0 e4 ?_
        refine ea_getR (pc := 47) dX11_miss_47 ec_11 (k := 1) (Nat.le_of_ble_eq_true rfl) rfl (Or.inl ew_438) f25 g26 rfl ?_
        obtain ⟨f27, g28, H⟩ := H
        refine ea_deref0 e19 ?_
        refine ea_getR (pc := 50) dX11_miss_50 ec_9 (k := 5) (Nat.le_of_ble_eq_true rfl) rfl (Or.inl ew_195) f27 g28 rfl ?_
        refine ea_bipush (pc := 53) dX11_miss_53 (v := 8) rfl ?_
        refine ea_iload_n (pc := 55) dX11_miss_55 rfl 1 rfl ?_
        refine ea_imul (pc := 56) dX11_miss_56 ?_
        refine ea_iload_n (pc := 57) dX11_miss_57 rfl 3 rfl ?_
        refine ea_iadd (pc := 58) dX11_miss_58 ?_
        obtain ⟨a31, e32, f29, g30, H⟩ := H
        refine ea_deref1 e32 ?_
        obtain ⟨z33, H⟩ := H
        refine ea_zald (pc := 59) dX11_miss_59 f29 g30 z33 ?_
        refine ea_if_eq (pc := 60) (tgt := 93) dX11_miss_60 rfl (fun c73 => ?_) (fun c73 => ?_)
        · have H := H.1 c73
          refine ea_iconst (pc := 93) dX11_miss_93 (v := 0) rfl ?_
          obtain ⟨rfl, rfl⟩ := H
          exact ea_ireturn (pc := 94) dX11_miss_94 rfl (ea_bn (Or.inl rfl))
        · have H := H.2 c73
          refine ea_aload_n (pc := 63) dX11_miss_63 rfl 0 rfl ?_
          obtain ⟨f34, g35, H⟩ := H
          refine ea_deref0 e4 ?_
          refine ea_getR (pc := 64) dX11_miss_64 ec_11 (k := 1) (Nat.le_of_ble_eq_true rfl) rfl (Or.inl ew_438) f34 g35 rfl ?_
          obtain ⟨f36, g37, H⟩ := H
          refine ea_deref0 e19 ?_
          refine ea_getR (pc := 67) dX11_miss_67 ec_9 (k := 7) (Nat.le_of_ble_eq_true rfl) rfl (Or.inl ew_199) f36 g37 rfl ?_
          refine ea_iload (pc := 70) dX11_miss_70 4 rfl ?_
          obtain ⟨a40, e41, f38, g39, H⟩ := H
          refine ea_deref1 e41 ?_
          obtain ⟨z42, H⟩ := H
          refine ea_zald (pc := 72) dX11_miss_72 f38 g39 z42 ?_
          refine ea_if_ne (pc := 73) (tgt := 93) dX11_miss_73 rfl (fun c72 => ?_) (fun c72 => ?_)
          · have H := H.1 c72
            refine ea_iconst (pc := 93) dX11_miss_93 (v := 0) rfl ?_
            obtain ⟨rfl, rfl⟩ := H
            exact ea_ireturn (pc := 94) dX11_miss_94 rfl (ea_bn (Or.inl rfl))
          · have H := H.2 c72
            refine ea_aload_n (pc := 76) dX11_miss_76 rfl 0 rfl ?_
            obtain ⟨f43, g44, H⟩ := H
            refine ea_deref0 e4 ?_
            refine ea_getR (pc := 77) dX11_miss_77 ec_11 (k := 1) (Nat.le_of_ble_eq_true rfl) rfl (Or.inl ew_438) f43 g44 rfl ?_
            refine ea_iload_n (pc := 80) dX11_miss_80 rfl 1 rfl ?_
            refine ea_iload_n (pc := 81) dX11_miss_81 rfl 2 rfl ?_
            refine ea_iload_n (pc := 82) dX11_miss_82 rfl 3 rfl ?_
            obtain ⟨f49, g50, H⟩ := H
            refine ea_deref3 e19 ?_
            obtain ⟨d45, xc51, h46, m47, q48, H⟩ := H
            refine ea_callV (pc := 83) (As := [vI x1, vI x2, vI x3]) (st := []) dX11_miss_83 kX9_comesAt m47 q48 rfl (Nat.le_of_ble_eq_true rfl) ew_551 ew_552 ew_553 (ci := 9) rfl (by decide) f49 g50 ?_
            refine ea_aload_n (pc := 86) dX11_miss_86 rfl 0 rfl ?_
            obtain ⟨f52, g53, H⟩ := H
            refine ea_deref0 e4 ?_
            refine ea_getI (pc := 87) dX11_miss_87 ec_11 (k := 11) (Nat.le_of_ble_eq_true rfl) rfl (Or.inl ew_448) f52 g53 ?_
            refine ea_icmp_gt (pc := 90) (tgt := 95) dX11_miss_90 rfl (fun c71 => ?_) (fun c71 => ?_)
            · have H := H.1 c71
              refine ea_aload_n (pc := 95) dX11_miss_95 rfl 0 rfl ?_
              obtain ⟨f54, g55, H⟩ := H
              refine ea_deref0 e4 ?_
              refine ea_getR (pc := 96) dX11_miss_96 ec_11 (k := 1) (Nat.le_of_ble_eq_true rfl) rfl (Or.inl ew_438) f54 g55 rfl ?_
              obtain ⟨a58, e59, f56, g57, H⟩ := H
              refine ea_deref0 e59 ?_
              refine ea_getR (pc := 99) dX11_miss_99 ec_9 (k := 7) (Nat.le_of_ble_eq_true rfl) rfl (Or.inl ew_199) f56 g57 rfl ?_
              refine ea_iload (pc := 102) dX11_miss_102 4 rfl ?_
              refine ea_iconst (pc := 104) dX11_miss_104 (v := 1) rfl ?_
              obtain ⟨a62, e63, f60, g61, H⟩ := H
              refine ea_deref2 e63 ?_
              obtain ⟨z64, H⟩ := H
              refine ea_zast (pc := 105) dX11_miss_105 (y := 1) (ea_bn (Or.inr rfl)) f60 g61 z64 ?_
              obtain ⟨h65, E66⟩ : ∃ z, z = ea_wi h46 a62 (Int32.toNatClampNeg (((8 : Int32) * (((10 : Int32) * x2) + x1)) + x3)) 1 := ⟨_, rfl⟩
              have H := H h65 E66
              refine ea_nm E66 ?_
              refine ea_aload_n (pc := 106) dX11_miss_106 rfl 0 rfl ?_
              refine ea_iconst (pc := 107) dX11_miss_107 (v := 0) rfl ?_
              obtain ⟨f67, g68, H⟩ := H
              refine ea_deref1 e4 ?_
              refine ea_putI (pc := 108) dX11_miss_108 ec_11 (k := 12) (Nat.le_of_ble_eq_true rfl) rfl (Or.inl ⟨rfl, Or.inl ew_449⟩) (ea_bn (Or.inl rfl)) (ea_bf (Or.inl rfl)) f67 g68 ?_
              obtain ⟨h69, E70⟩ : ∃ z, z = ea_wi h65 a3 12 0 := ⟨_, rfl⟩
              have H := H h69 E70
              refine ea_nm E70 ?_
              refine ea_iconst (pc := 111) dX11_miss_111 (v := 1) rfl ?_
              obtain ⟨rfl, rfl⟩ := H
              exact ea_ireturn (pc := 112) dX11_miss_112 rfl (ea_bn (Or.inr rfl))
            · have H := H.2 c71
              refine ea_iconst (pc := 93) dX11_miss_93 (v := 0) rfl ?_
              obtain ⟨rfl, rfl⟩ := H
              exact ea_ireturn (pc := 94) dX11_miss_94 rfl (ea_bn (Or.inl rfl))
      · have H := H.2 c74
        refine ea_iconst (pc := 31) dX11_miss_31 (v := 0) rfl ?_
        obtain ⟨rfl, rfl⟩ := H
        exact ea_ireturn (pc := 32) dX11_miss_32 rfl (ea_bn (Or.inl rfl))
theorem dX11_minutes_0 : decode cX11_minutes 0 = .ok (.iload_n 1, 1) := by decide +kernel
theorem dX11_minutes_1 : decode cX11_minutes 1 = .ok (.iconst 1, 1) := by decide +kernel
theorem dX11_minutes_2 : decode cX11_minutes 2 = .ok (.if_icmp .lt 22, 3) := by decide +kernel
theorem dX11_minutes_5 : decode cX11_minutes 5 = .ok (.iload_n 1, 1) := by decide +kernel
theorem dX11_minutes_6 : decode cX11_minutes 6 = .ok (.sipush 3000, 3) := by decide +kernel
theorem dX11_minutes_9 : decode cX11_minutes 9 = .ok (.if_icmp .gt 15, 3) := by decide +kernel
theorem dX11_minutes_12 : decode cX11_minutes 12 = .ok (.aload_n 0, 1) := by decide +kernel
theorem dX11_minutes_13 : decode cX11_minutes 13 = .ok (.getfield 100, 3) := by decide +kernel
theorem dX11_minutes_16 : decode cX11_minutes 16 = .ok (.iload_n 1, 1) := by decide +kernel
theorem dX11_minutes_17 : decode cX11_minutes 17 = .ok (.iadd, 1) := by decide +kernel
theorem dX11_minutes_18 : decode cX11_minutes 18 = .ok (.sipush 10079, 3) := by decide +kernel
theorem dX11_minutes_21 : decode cX11_minutes 21 = .ok (.if_icmp .le 5, 3) := by decide +kernel
theorem dX11_minutes_24 : decode cX11_minutes 24 = .ok (.iconst (-1), 1) := by decide +kernel
theorem dX11_minutes_25 : decode cX11_minutes 25 = .ok (.ireturn, 1) := by decide +kernel
theorem dX11_minutes_26 : decode cX11_minutes 26 = .ok (.aload_n 0, 1) := by decide +kernel
theorem dX11_minutes_27 : decode cX11_minutes 27 = .ok (.iconst 0, 1) := by decide +kernel
theorem dX11_minutes_28 : decode cX11_minutes 28 = .ok (.putfield 96, 3) := by decide +kernel
theorem dX11_minutes_31 : decode cX11_minutes 31 = .ok (.aload_n 0, 1) := by decide +kernel
theorem dX11_minutes_32 : decode cX11_minutes 32 = .ok (.getfield 57, 3) := by decide +kernel
theorem dX11_minutes_35 : decode cX11_minutes 35 = .ok (.aload_n 0, 1) := by decide +kernel
theorem dX11_minutes_36 : decode cX11_minutes 36 = .ok (.getfield 100, 3) := by decide +kernel
theorem dX11_minutes_39 : decode cX11_minutes 39 = .ok (.aload_n 0, 1) := by decide +kernel
theorem dX11_minutes_40 : decode cX11_minutes 40 = .ok (.getfield 100, 3) := by decide +kernel
theorem dX11_minutes_43 : decode cX11_minutes 43 = .ok (.iload_n 1, 1) := by decide +kernel
theorem dX11_minutes_44 : decode cX11_minutes 44 = .ok (.iadd, 1) := by decide +kernel
theorem dX11_minutes_45 : decode cX11_minutes 45 = .ok (.invokevirtual 146, 3) := by decide +kernel
theorem dX11_minutes_48 : decode cX11_minutes 48 = .ok (.aload_n 0, 1) := by decide +kernel
theorem dX11_minutes_49 : decode cX11_minutes 49 = .ok (.dup, 1) := by decide +kernel
theorem dX11_minutes_50 : decode cX11_minutes 50 = .ok (.getfield 100, 3) := by decide +kernel
theorem dX11_minutes_53 : decode cX11_minutes 53 = .ok (.iload_n 1, 1) := by decide +kernel
theorem dX11_minutes_54 : decode cX11_minutes 54 = .ok (.iadd, 1) := by decide +kernel
theorem dX11_minutes_55 : decode cX11_minutes 55 = .ok (.putfield 100, 3) := by decide +kernel
theorem dX11_minutes_58 : decode cX11_minutes 58 = .ok (.aload_n 0, 1) := by decide +kernel
theorem dX11_minutes_59 : decode cX11_minutes 59 = .ok (.getfield 100, 3) := by decide +kernel
theorem dX11_minutes_62 : decode cX11_minutes 62 = .ok (.ireturn, 1) := by decide +kernel
theorem bX11_minutes_0 {d : Nat} {h0 hE h : ea_H} {rv : Option ea_V} {r0 : Option Nat} {x1 : Int32} (H : (x1 < (1 : Int32) → rv = some (vI (-1)) ∧ hE = h) ∧ (¬ x1 < (1 : Int32) → ((3000 : Int32) < x1 → rv = some (vI (-1)) ∧ hE = h) ∧ (¬ (3000 : Int32) < x1 → ∃ a3, r0 = some a3 ∧ a3 < ea_n h ∧ ea_c h a3 = 11 ∧ (((ea_i h a3 11) + x1) ≤ (10079 : Int32) → a3 < ea_n h ∧ ea_c h a3 = 11 ∧ ∀ h7, h7 = ea_wi h a3 12 0 → a3 < ea_n h7 ∧ ea_c h7 a3 = 11 ∧ a3 < ea_n h7 ∧ ea_c h7 a3 = 11 ∧ a3 < ea_n h7 ∧ ea_c h7 a3 = 11 ∧ ∃ a21, (ea_r h7 a3 6) = some a21 ∧ a21 < ea_n h7 ∧ ea_c h7 a21 = 1 ∧ ∃ (d15 : Nat) (h16 : ea_H), ea_Met mX1_carry d15 [vR (some a21), vI (ea_i h7 a3 11), vI ((ea_i h7 a3 11) + x1)] h7 none h16 ∧ d15 + 1 ≤ d ∧ a3 < ea_n h16 ∧ ea_c h16 a3 = 11 ∧ a3 < ea_n h16 ∧ ea_c h16 a3 = 11 ∧ ∀ h27, h27 = ea_wi h16 a3 11 ((ea_i h16 a3 11) + x1) → a3 < ea_n h27 ∧ ea_c h27 a3 = 11 ∧ rv = some (vI (ea_i h27 a3 11)) ∧ hE = h27) ∧ (¬ ((ea_i h a3 11) + x1) ≤ (10079 : Int32) → rv = some (vI (-1)) ∧ hE = h)))) : ea_W mX11_minutes d h0 rv hE 0 [(0, vR r0), (1, vI x1)] [] h := by
  refine ea_iload_n (pc := 0) dX11_minutes_0 rfl 1 rfl ?_
  refine ea_iconst (pc := 1) dX11_minutes_1 (v := 1) rfl ?_
  refine ea_icmp_lt (pc := 2) (tgt := 24) dX11_minutes_2 rfl (fun c33 => ?_) (fun c33 => ?_)
  · have H := H.1 c33
    refine ea_iconst (pc := 24) dX11_minutes_24 (v := (-1)) rfl ?_
    obtain ⟨rfl, rfl⟩ := H
    exact ea_ireturn (pc := 25) dX11_minutes_25 rfl rfl
  · have H := H.2 c33
    refine ea_iload_n (pc := 5) dX11_minutes_5 rfl 1 rfl ?_
    refine ea_sipush (pc := 6) dX11_minutes_6 (v := 3000) rfl ?_
    refine ea_icmp_gt (pc := 9) (tgt := 24) dX11_minutes_9 rfl (fun c32 => ?_) (fun c32 => ?_)
    · have H := H.1 c32
      refine ea_iconst (pc := 24) dX11_minutes_24 (v := (-1)) rfl ?_
      obtain ⟨rfl, rfl⟩ := H
      exact ea_ireturn (pc := 25) dX11_minutes_25 rfl rfl
    · have H := H.2 c32
      refine ea_aload_n (pc := 12) dX11_minutes_12 rfl 0 rfl ?_
      obtain ⟨a3, e4, f1, g2, H⟩ := H
      refine ea_deref0 e4 ?_
      refine ea_getI (pc := 13) dX11_minutes_13 ec_11 (k := 11) (Nat.le_of_ble_eq_true rfl) rfl (Or.inl ew_448) f1 g2 ?_
      refine ea_iload_n (pc := 16) dX11_minutes_16 rfl 1 rfl ?_
      refine ea_iadd (pc := 17) dX11_minutes_17 ?_
      refine ea_sipush (pc := 18) dX11_minutes_18 (v := 10079) rfl ?_
      refine ea_icmp_le (pc := 21) (tgt := 26) dX11_minutes_21 rfl (fun c31 => ?_) (fun c31 => ?_)
      · have H := H.1 c31
        refine ea_aload_n (pc := 26) dX11_minutes_26 rfl 0 rfl ?_
        refine ea_iconst (pc := 27) dX11_minutes_27 (v := 0) rfl ?_
        obtain ⟨f5, g6, H⟩ := H
        refine ea_deref1 e4 ?_
        refine ea_putI (pc := 28) dX11_minutes_28 ec_11 (k := 12) (Nat.le_of_ble_eq_true rfl) rfl (Or.inl ⟨rfl, Or.inl ew_449⟩) (ea_bn (Or.inl rfl)) (ea_bf (Or.inl rfl)) f5 g6 ?_
        obtain ⟨h7, E8⟩ : ∃ z, z = ea_wi h a3 12 0 := ⟨_, rfl⟩
        have H := H h7 E8
        refine ea_nm E8 ?_
        refine ea_aload_n (pc := 31) dX11_minutes_31 rfl 0 rfl ?_
        obtain ⟨f9, g10, H⟩ := H
        refine ea_deref0 e4 ?_
        refine ea_getR (pc := 32) dX11_minutes_32 ec_11 (k := 6) (Nat.le_of_ble_eq_true rfl) rfl (Or.inl ew_443) f9 g10 rfl ?_
        refine ea_aload_n (pc := 35) dX11_minutes_35 rfl 0 rfl ?_
        obtain ⟨f11, g12, H⟩ := H
        refine ea_deref0 e4 ?_
        refine ea_getI (pc := 36) dX11_minutes_36 ec_11 (k := 11) (Nat.le_of_ble_eq_true rfl) rfl (Or.inl ew_448) f11 g12 ?_
        refine ea_aload_n (pc := 39) dX11_minutes_39 rfl 0 rfl ?_
        obtain ⟨f13, g14, H⟩ := H
        refine ea_deref0 e4 ?_
        refine ea_getI (pc := 40) dX11_minutes_40 ec_11 (k := 11) (Nat.le_of_ble_eq_true rfl) rfl (Or.inl ew_448) f13 g14 ?_
        refine ea_iload_n (pc := 43) dX11_minutes_43 rfl 1 rfl ?_
        refine ea_iadd (pc := 44) dX11_minutes_44 ?_
        obtain ⟨a21, e22, f19, g20, H⟩ := H
        refine ea_deref2 e22 ?_
        obtain ⟨d15, h16, m17, q18, H⟩ := H
        refine ea_callV (pc := 45) (As := [vI (ea_i h7 a3 11), vI ((ea_i h7 a3 11) + x1)]) (st := []) dX11_minutes_45 kX1_carry m17 q18 rfl (Nat.le_of_ble_eq_true rfl) ew_559 ew_560 ew_561 (ci := 1) rfl (by decide) f19 g20 ?_
        refine ea_aload_n (pc := 48) dX11_minutes_48 rfl 0 rfl ?_
        refine ea_dup (pc := 49) dX11_minutes_49 rfl ?_
        obtain ⟨f23, g24, H⟩ := H
        refine ea_deref0 e4 ?_
        refine ea_getI (pc := 50) dX11_minutes_50 ec_11 (k := 11) (Nat.le_of_ble_eq_true rfl) rfl (Or.inl ew_448) f23 g24 ?_
        refine ea_iload_n (pc := 53) dX11_minutes_53 rfl 1 rfl ?_
        refine ea_iadd (pc := 54) dX11_minutes_54 ?_
        obtain ⟨f25, g26, H⟩ := H
        refine ea_deref1 e4 ?_
        refine ea_putI (pc := 55) dX11_minutes_55 ec_11 (k := 11) (Nat.le_of_ble_eq_true rfl) rfl (Or.inl ⟨rfl, Or.inl ew_448⟩) rfl rfl f25 g26 ?_
        obtain ⟨h27, E28⟩ : ∃ z, z = ea_wi h16 a3 11 ((ea_i h16 a3 11) + x1) := ⟨_, rfl⟩
        have H := H h27 E28
        refine ea_nm E28 ?_
        refine ea_aload_n (pc := 58) dX11_minutes_58 rfl 0 rfl ?_
        obtain ⟨f29, g30, H⟩ := H
        refine ea_deref0 e4 ?_
        refine ea_getI (pc := 59) dX11_minutes_59 ec_11 (k := 11) (Nat.le_of_ble_eq_true rfl) rfl (Or.inl ew_448) f29 g30 ?_
        obtain ⟨rfl, rfl⟩ := H
        exact ea_ireturn (pc := 62) dX11_minutes_62 rfl rfl
      · have H := H.2 c31
        refine ea_iconst (pc := 24) dX11_minutes_24 (v := (-1)) rfl ?_
        obtain ⟨rfl, rfl⟩ := H
        exact ea_ireturn (pc := 25) dX11_minutes_25 rfl rfl
theorem dX11_look_0 : decode cX11_look 0 = .ok (.iload_n 1, 1) := by decide +kernel
theorem dX11_look_1 : decode cX11_look 1 = .ok (.bipush 10, 2) := by decide +kernel
theorem dX11_look_3 : decode cX11_look 3 = .ok (.if_icmp .lt 21, 3) := by decide +kernel
theorem dX11_look_6 : decode cX11_look 6 = .ok (.iload_n 1, 1) := by decide +kernel
theorem dX11_look_7 : decode cX11_look 7 = .ok (.bipush 16, 2) := by decide +kernel
theorem dX11_look_9 : decode cX11_look 9 = .ok (.if_icmp .gt 15, 3) := by decide +kernel
theorem dX11_look_12 : decode cX11_look 12 = .ok (.aload_n 0, 1) := by decide +kernel
theorem dX11_look_13 : decode cX11_look 13 = .ok (.getfield 57, 3) := by decide +kernel
theorem dX11_look_16 : decode cX11_look 16 = .ok (.iload_n 1, 1) := by decide +kernel
theorem dX11_look_17 : decode cX11_look 17 = .ok (.bipush 10, 2) := by decide +kernel
theorem dX11_look_19 : decode cX11_look 19 = .ok (.isub, 1) := by decide +kernel
theorem dX11_look_20 : decode cX11_look 20 = .ok (.invokevirtual 150, 3) := by decide +kernel
theorem dX11_look_23 : decode cX11_look 23 = .ok (.ireturn, 1) := by decide +kernel
theorem dX11_look_24 : decode cX11_look 24 = .ok (.iload_n 1, 1) := by decide +kernel
theorem dX11_look_25 : decode cX11_look 25 = .ok (.tableswitch 84 0 5 #[39, 44, 52, 60, 68, 76], 39) := by decide +kernel
theorem dX11_look_64 : decode cX11_look 64 = .ok (.aload_n 0, 1) := by decide +kernel
theorem dX11_look_65 : decode cX11_look 65 = .ok (.getfield 100, 3) := by decide +kernel
theorem dX11_look_68 : decode cX11_look 68 = .ok (.ireturn, 1) := by decide +kernel
theorem dX11_look_69 : decode cX11_look 69 = .ok (.aload_n 0, 1) := by decide +kernel
theorem dX11_look_70 : decode cX11_look 70 = .ok (.getfield 12, 3) := by decide +kernel
theorem dX11_look_73 : decode cX11_look 73 = .ok (.getfield 77, 3) := by decide +kernel
theorem dX11_look_76 : decode cX11_look 76 = .ok (.ireturn, 1) := by decide +kernel
theorem dX11_look_77 : decode cX11_look 77 = .ok (.aload_n 0, 1) := by decide +kernel
theorem dX11_look_78 : decode cX11_look 78 = .ok (.getfield 19, 3) := by decide +kernel
theorem dX11_look_81 : decode cX11_look 81 = .ok (.getfield 93, 3) := by decide +kernel
theorem dX11_look_84 : decode cX11_look 84 = .ok (.ireturn, 1) := by decide +kernel
theorem dX11_look_85 : decode cX11_look 85 = .ok (.aload_n 0, 1) := by decide +kernel
theorem dX11_look_86 : decode cX11_look 86 = .ok (.getfield 57, 3) := by decide +kernel
theorem dX11_look_89 : decode cX11_look 89 = .ok (.getfield 154, 3) := by decide +kernel
theorem dX11_look_92 : decode cX11_look 92 = .ok (.ireturn, 1) := by decide +kernel
theorem dX11_look_93 : decode cX11_look 93 = .ok (.aload_n 0, 1) := by decide +kernel
theorem dX11_look_94 : decode cX11_look 94 = .ok (.getfield 35, 3) := by decide +kernel
theorem dX11_look_97 : decode cX11_look 97 = .ok (.getfield 155, 3) := by decide +kernel
theorem dX11_look_100 : decode cX11_look 100 = .ok (.ireturn, 1) := by decide +kernel
theorem dX11_look_101 : decode cX11_look 101 = .ok (.aload_n 0, 1) := by decide +kernel
theorem dX11_look_102 : decode cX11_look 102 = .ok (.getfield 42, 3) := by decide +kernel
theorem dX11_look_105 : decode cX11_look 105 = .ok (.getfield 156, 3) := by decide +kernel
theorem dX11_look_108 : decode cX11_look 108 = .ok (.ireturn, 1) := by decide +kernel
theorem dX11_look_109 : decode cX11_look 109 = .ok (.iconst (-1), 1) := by decide +kernel
theorem dX11_look_110 : decode cX11_look 110 = .ok (.ireturn, 1) := by decide +kernel
theorem bX11_look_0 {d : Nat} {h0 hE h : ea_H} {rv : Option ea_V} {r0 : Option Nat} {x1 : Int32} (H : (x1 < (10 : Int32) → ea_W mX11_look d h0 rv hE 24 [(0, vR r0), (1, vI x1)] [] h) ∧ (¬ x1 < (10 : Int32) → ((16 : Int32) < x1 → ea_W mX11_look d h0 rv hE 24 [(0, vR r0), (1, vI x1)] [] h) ∧ (¬ (16 : Int32) < x1 → ∃ a3, r0 = some a3 ∧ a3 < ea_n h ∧ ea_c h a3 = 11 ∧ ∃ a11, (ea_r h a3 6) = some a11 ∧ a11 < ea_n h ∧ ea_c h a11 = 1 ∧ ∃ (d5 : Nat) (xc13 : Int32) (h6 : ea_H), ea_Met mX1_inState d5 [vR (some a11), vI (x1 - (10 : Int32))] h (some (vI xc13)) h6 ∧ d5 + 1 ≤ d ∧ rv = some (vI xc13) ∧ hE = h6))) : ea_W mX11_look d h0 rv hE 0 [(0, vR r0), (1, vI x1)] [] h := by
  refine ea_iload_n (pc := 0) dX11_look_0 rfl 1 rfl ?_
  refine ea_bipush (pc := 1) dX11_look_1 (v := 10) rfl ?_
  refine ea_icmp_lt (pc := 3) (tgt := 24) dX11_look_3 rfl (fun c15 => ?_) (fun c15 => ?_)
  · have H := H.1 c15
    exact H
  · have H := H.2 c15
    refine ea_iload_n (pc := 6) dX11_look_6 rfl 1 rfl ?_
    refine ea_bipush (pc := 7) dX11_look_7 (v := 16) rfl ?_
    refine ea_icmp_gt (pc := 9) (tgt := 24) dX11_look_9 rfl (fun c14 => ?_) (fun c14 => ?_)
    · have H := H.1 c14
      exact H
    · have H := H.2 c14
      refine ea_aload_n (pc := 12) dX11_look_12 rfl 0 rfl ?_
      obtain ⟨a3, e4, f1, g2, H⟩ := H
      refine ea_deref0 e4 ?_
      refine ea_getR (pc := 13) dX11_look_13 ec_11 (k := 6) (Nat.le_of_ble_eq_true rfl) rfl (Or.inl ew_443) f1 g2 rfl ?_
      refine ea_iload_n (pc := 16) dX11_look_16 rfl 1 rfl ?_
      refine ea_bipush (pc := 17) dX11_look_17 (v := 10) rfl ?_
      refine ea_isub (pc := 19) dX11_look_19 ?_
      obtain ⟨a11, e12, f9, g10, H⟩ := H
      refine ea_deref1 e12 ?_
      obtain ⟨d5, xc13, h6, m7, q8, H⟩ := H
      refine ea_callV (pc := 20) (As := [vI (x1 - (10 : Int32))]) (st := []) dX11_look_20 kX1_inState m7 q8 rfl (Nat.le_of_ble_eq_true rfl) ew_725 ew_726 ew_727 (ci := 1) rfl (by decide) f9 g10 ?_
      obtain ⟨rfl, rfl⟩ := H
      exact ea_ireturn (pc := 23) dX11_look_23 rfl rfl
theorem bX11_look_24 {d : Nat} {h0 hE h : ea_H} {rv : Option ea_V} {r0 : Option Nat} {x1 : Int32} (H : (Int32.toInt x1 = 0 → ∃ a3, r0 = some a3 ∧ a3 < ea_n h ∧ ea_c h a3 = 11 ∧ rv = some (vI (ea_i h a3 11)) ∧ hE = h) ∧ (Int32.toInt x1 = 1 → ∃ a7, r0 = some a7 ∧ a7 < ea_n h ∧ ea_c h a7 = 11 ∧ ∃ a11, (ea_r h a7 0) = some a11 ∧ a11 < ea_n h ∧ ea_c h a11 = 6 ∧ rv = some (vI (ea_i h a11 0)) ∧ hE = h) ∧ (Int32.toInt x1 = 2 → ∃ a15, r0 = some a15 ∧ a15 < ea_n h ∧ ea_c h a15 = 11 ∧ ∃ a19, (ea_r h a15 1) = some a19 ∧ a19 < ea_n h ∧ ea_c h a19 = 9 ∧ rv = some (vI (ea_i h a19 0)) ∧ hE = h) ∧ (Int32.toInt x1 = 3 → ∃ a23, r0 = some a23 ∧ a23 < ea_n h ∧ ea_c h a23 = 11 ∧ ∃ a27, (ea_r h a23 6) = some a27 ∧ a27 < ea_n h ∧ ea_c h a27 = 1 ∧ rv = some (vI (ea_i h a27 0)) ∧ hE = h) ∧ (Int32.toInt x1 = 4 → ∃ a31, r0 = some a31 ∧ a31 < ea_n h ∧ ea_c h a31 = 11 ∧ ∃ a35, (ea_r h a31 3) = some a35 ∧ a35 < ea_n h ∧ ea_c h a35 = 3 ∧ rv = some (vI (ea_i h a35 0)) ∧ hE = h) ∧ (Int32.toInt x1 = 5 → ∃ a39, r0 = some a39 ∧ a39 < ea_n h ∧ ea_c h a39 = 11 ∧ ∃ a43, (ea_r h a39 4) = some a43 ∧ a43 < ea_n h ∧ ea_c h a43 = 8 ∧ rv = some (vI (ea_i h a43 1)) ∧ hE = h) ∧ (Int32.toInt x1 < 0 ∨ 5 < Int32.toInt x1 → rv = some (vI (-1)) ∧ hE = h)) : ea_W mX11_look d h0 rv hE 24 [(0, vR r0), (1, vI x1)] [] h := by
  refine ea_iload_n (pc := 24) dX11_look_24 rfl 1 rfl ?_
  by_cases qc1 : Int32.toInt x1 = 0
  · have H := H.1 qc1
    refine ea_tswIn (pc := 25) (tgt := 64) dX11_look_25 (by omega) (by omega) (by rw [qc1]; rfl) rfl ?_
    refine ea_aload_n (pc := 64) dX11_look_64 rfl 0 rfl ?_
    obtain ⟨a3, e4, f1, g2, H⟩ := H
    refine ea_deref0 e4 ?_
    refine ea_getI (pc := 65) dX11_look_65 ec_11 (k := 11) (Nat.le_of_ble_eq_true rfl) rfl (Or.inl ew_448) f1 g2 ?_
    obtain ⟨rfl, rfl⟩ := H
    exact ea_ireturn (pc := 68) dX11_look_68 rfl rfl
  by_cases qc2 : Int32.toInt x1 = 1
  · have H := H.2.1 qc2
    refine ea_tswIn (pc := 25) (tgt := 69) dX11_look_25 (by omega) (by omega) (by rw [qc2]; rfl) rfl ?_
    refine ea_aload_n (pc := 69) dX11_look_69 rfl 0 rfl ?_
    obtain ⟨a7, e8, f5, g6, H⟩ := H
    refine ea_deref0 e8 ?_
    refine ea_getR (pc := 70) dX11_look_70 ec_11 (k := 0) (Nat.le_of_ble_eq_true rfl) rfl (Or.inl ew_437) f5 g6 rfl ?_
    obtain ⟨a11, e12, f9, g10, H⟩ := H
    refine ea_deref0 e12 ?_
    refine ea_getI (pc := 73) dX11_look_73 ec_6 (k := 0) (Nat.le_of_ble_eq_true rfl) rfl (Or.inl ew_156) f9 g10 ?_
    obtain ⟨rfl, rfl⟩ := H
    exact ea_ireturn (pc := 76) dX11_look_76 rfl rfl
  by_cases qc3 : Int32.toInt x1 = 2
  · have H := H.2.2.1 qc3
    refine ea_tswIn (pc := 25) (tgt := 77) dX11_look_25 (by omega) (by omega) (by rw [qc3]; rfl) rfl ?_
    refine ea_aload_n (pc := 77) dX11_look_77 rfl 0 rfl ?_
    obtain ⟨a15, e16, f13, g14, H⟩ := H
    refine ea_deref0 e16 ?_
    refine ea_getR (pc := 78) dX11_look_78 ec_11 (k := 1) (Nat.le_of_ble_eq_true rfl) rfl (Or.inl ew_438) f13 g14 rfl ?_
    obtain ⟨a19, e20, f17, g18, H⟩ := H
    refine ea_deref0 e20 ?_
    refine ea_getI (pc := 81) dX11_look_81 ec_9 (k := 0) (Nat.le_of_ble_eq_true rfl) rfl (Or.inl ew_178) f17 g18 ?_
    obtain ⟨rfl, rfl⟩ := H
    exact ea_ireturn (pc := 84) dX11_look_84 rfl rfl
  by_cases qc4 : Int32.toInt x1 = 3
  · have H := H.2.2.2.1 qc4
    refine ea_tswIn (pc := 25) (tgt := 85) dX11_look_25 (by omega) (by omega) (by rw [qc4]; rfl) rfl ?_
    refine ea_aload_n (pc := 85) dX11_look_85 rfl 0 rfl ?_
    obtain ⟨a23, e24, f21, g22, H⟩ := H
    refine ea_deref0 e24 ?_
    refine ea_getR (pc := 86) dX11_look_86 ec_11 (k := 6) (Nat.le_of_ble_eq_true rfl) rfl (Or.inl ew_443) f21 g22 rfl ?_
    obtain ⟨a27, e28, f25, g26, H⟩ := H
    refine ea_deref0 e28 ?_
    refine ea_getI (pc := 89) dX11_look_89 ec_1 (k := 0) (Nat.le_of_ble_eq_true rfl) rfl (Or.inl ew_360) f25 g26 ?_
    obtain ⟨rfl, rfl⟩ := H
    exact ea_ireturn (pc := 92) dX11_look_92 rfl rfl
  by_cases qc5 : Int32.toInt x1 = 4
  · have H := H.2.2.2.2.1 qc5
    refine ea_tswIn (pc := 25) (tgt := 93) dX11_look_25 (by omega) (by omega) (by rw [qc5]; rfl) rfl ?_
    refine ea_aload_n (pc := 93) dX11_look_93 rfl 0 rfl ?_
    obtain ⟨a31, e32, f29, g30, H⟩ := H
    refine ea_deref0 e32 ?_
    refine ea_getR (pc := 94) dX11_look_94 ec_11 (k := 3) (Nat.le_of_ble_eq_true rfl) rfl (Or.inl ew_440) f29 g30 rfl ?_
    obtain ⟨a35, e36, f33, g34, H⟩ := H
    refine ea_deref0 e36 ?_
    refine ea_getI (pc := 97) dX11_look_97 ec_3 (k := 0) (Nat.le_of_ble_eq_true rfl) rfl (Or.inl ew_262) f33 g34 ?_
    obtain ⟨rfl, rfl⟩ := H
    exact ea_ireturn (pc := 100) dX11_look_100 rfl rfl
  by_cases qc6 : Int32.toInt x1 = 5
  · have H := H.2.2.2.2.2.1 qc6
    refine ea_tswIn (pc := 25) (tgt := 101) dX11_look_25 (by omega) (by omega) (by rw [qc6]; rfl) rfl ?_
    refine ea_aload_n (pc := 101) dX11_look_101 rfl 0 rfl ?_
    obtain ⟨a39, e40, f37, g38, H⟩ := H
    refine ea_deref0 e40 ?_
    refine ea_getR (pc := 102) dX11_look_102 ec_11 (k := 4) (Nat.le_of_ble_eq_true rfl) rfl (Or.inl ew_441) f37 g38 rfl ?_
    obtain ⟨a43, e44, f41, g42, H⟩ := H
    refine ea_deref0 e44 ?_
    refine ea_getI (pc := 105) dX11_look_105 ec_8 (k := 1) (Nat.le_of_ble_eq_true rfl) rfl (Or.inl ew_336) f41 g42 ?_
    obtain ⟨rfl, rfl⟩ := H
    exact ea_ireturn (pc := 108) dX11_look_108 rfl rfl
  have qd : Int32.toInt x1 < 0 ∨ 5 < Int32.toInt x1 := by omega
  have H := H.2.2.2.2.2.2 qd
  refine ea_tswOut (pc := 25) (tgt := 109) dX11_look_25 qd rfl ?_
  refine ea_iconst (pc := 109) dX11_look_109 (v := (-1)) rfl ?_
  obtain ⟨rfl, rfl⟩ := H
  exact ea_ireturn (pc := 110) dX11_look_110 rfl rfl
theorem dX11_feed_0 : decode cX11_feed 0 = .ok (.aload_n 0, 1) := by decide +kernel
theorem dX11_feed_1 : decode cX11_feed 1 = .ok (.getfield 42, 3) := by decide +kernel
theorem dX11_feed_4 : decode cX11_feed 4 = .ok (.getfield 157, 3) := by decide +kernel
theorem dX11_feed_7 : decode cX11_feed 7 = .ok (.astore 6, 2) := by decide +kernel
theorem dX11_feed_9 : decode cX11_feed 9 = .ok (.aload 6, 2) := by decide +kernel
theorem dX11_feed_11 : decode cX11_feed 11 = .ok (.getfield 161, 3) := by decide +kernel
theorem dX11_feed_14 : decode cX11_feed 14 = .ok (.bipush 20, 2) := by decide +kernel
theorem dX11_feed_16 : decode cX11_feed 16 = .ok (.iadd, 1) := by decide +kernel
theorem dX11_feed_17 : decode cX11_feed 17 = .ok (.sipush 600, 3) := by decide +kernel
theorem dX11_feed_20 : decode cX11_feed 20 = .ok (.if_icmp .le 5, 3) := by decide +kernel
theorem dX11_feed_23 : decode cX11_feed 23 = .ok (.iconst (-1), 1) := by decide +kernel
theorem dX11_feed_24 : decode cX11_feed 24 = .ok (.ireturn, 1) := by decide +kernel
theorem dX11_feed_25 : decode cX11_feed 25 = .ok (.aload 6, 2) := by decide +kernel
theorem dX11_feed_27 : decode cX11_feed 27 = .ok (.iload_n 1, 1) := by decide +kernel
theorem dX11_feed_28 : decode cX11_feed 28 = .ok (.invokevirtual 166, 3) := by decide +kernel
theorem dX11_feed_31 : decode cX11_feed 31 = .ok (.aload 6, 2) := by decide +kernel
theorem dX11_feed_33 : decode cX11_feed 33 = .ok (.iload_n 2, 1) := by decide +kernel
theorem dX11_feed_34 : decode cX11_feed 34 = .ok (.invokevirtual 166, 3) := by decide +kernel
theorem dX11_feed_37 : decode cX11_feed 37 = .ok (.aload 6, 2) := by decide +kernel
theorem dX11_feed_39 : decode cX11_feed 39 = .ok (.iload_n 3, 1) := by decide +kernel
theorem dX11_feed_40 : decode cX11_feed 40 = .ok (.invokevirtual 166, 3) := by decide +kernel
theorem dX11_feed_43 : decode cX11_feed 43 = .ok (.aload 6, 2) := by decide +kernel
theorem dX11_feed_45 : decode cX11_feed 45 = .ok (.iload 4, 2) := by decide +kernel
theorem dX11_feed_47 : decode cX11_feed 47 = .ok (.invokevirtual 166, 3) := by decide +kernel
theorem dX11_feed_50 : decode cX11_feed 50 = .ok (.aload 6, 2) := by decide +kernel
theorem dX11_feed_52 : decode cX11_feed 52 = .ok (.iload 5, 2) := by decide +kernel
theorem dX11_feed_54 : decode cX11_feed 54 = .ok (.invokevirtual 166, 3) := by decide +kernel
theorem dX11_feed_57 : decode cX11_feed 57 = .ok (.aload 6, 2) := by decide +kernel
theorem dX11_feed_59 : decode cX11_feed 59 = .ok (.getfield 161, 3) := by decide +kernel
theorem dX11_feed_62 : decode cX11_feed 62 = .ok (.ireturn, 1) := by decide +kernel
theorem bX11_feed_0 {d : Nat} {h0 hE h : ea_H} {rv : Option ea_V} {r0 : Option Nat} {x1 : Int32} {x2 : Int32} {x3 : Int32} {x4 : Int32} {x5 : Int32} (H : ∃ a3, r0 = some a3 ∧ a3 < ea_n h ∧ ea_c h a3 = 11 ∧ ∃ a7, (ea_r h a3 4) = some a7 ∧ a7 < ea_n h ∧ ea_c h a7 = 8 ∧ ∃ a11, (ea_r h a7 0) = some a11 ∧ a11 < ea_n h ∧ ea_c h a11 = 5 ∧ (((ea_i h a11 0) + (20 : Int32)) ≤ (600 : Int32) → a11 < ea_n h ∧ ea_c h a11 = 5 ∧ ∃ (d13 : Nat) (h14 : ea_H), ea_Met mX5_take d13 [vR (some a11), vI x1] h none h14 ∧ d13 + 1 ≤ d ∧ a11 < ea_n h14 ∧ ea_c h14 a11 = 5 ∧ ∃ (d19 : Nat) (h20 : ea_H), ea_Met mX5_take d19 [vR (some a11), vI x2] h14 none h20 ∧ d19 + 1 ≤ d ∧ a11 < ea_n h20 ∧ ea_c h20 a11 = 5 ∧ ∃ (d25 : Nat) (h26 : ea_H), ea_Met mX5_take d25 [vR (some a11), vI x3] h20 none h26 ∧ d25 + 1 ≤ d ∧ a11 < ea_n h26 ∧ ea_c h26 a11 = 5 ∧ ∃ (d31 : Nat) (h32 : ea_H), ea_Met mX5_take d31 [vR (some a11), vI x4] h26 none h32 ∧ d31 + 1 ≤ d ∧ a11 < ea_n h32 ∧ ea_c h32 a11 = 5 ∧ ∃ (d37 : Nat) (h38 : ea_H), ea_Met mX5_take d37 [vR (some a11), vI x5] h32 none h38 ∧ d37 + 1 ≤ d ∧ a11 < ea_n h38 ∧ ea_c h38 a11 = 5 ∧ rv = some (vI (ea_i h38 a11 0)) ∧ hE = h38) ∧ (¬ ((ea_i h a11 0) + (20 : Int32)) ≤ (600 : Int32) → rv = some (vI (-1)) ∧ hE = h)) : ea_W mX11_feed d h0 rv hE 0 [(0, vR r0), (1, vI x1), (2, vI x2), (3, vI x3), (4, vI x4), (5, vI x5)] [] h := by
  refine ea_aload_n (pc := 0) dX11_feed_0 rfl 0 rfl ?_
  obtain ⟨a3, e4, f1, g2, H⟩ := H
  refine ea_deref0 e4 ?_
  refine ea_getR (pc := 1) dX11_feed_1 ec_11 (k := 4) (Nat.le_of_ble_eq_true rfl) rfl (Or.inl ew_441) f1 g2 rfl ?_
  obtain ⟨a7, e8, f5, g6, H⟩ := H
  refine ea_deref0 e8 ?_
  refine ea_getR (pc := 4) dX11_feed_4 ec_8 (k := 0) (Nat.le_of_ble_eq_true rfl) rfl (Or.inl ew_334) f5 g6 rfl ?_
  refine ea_astore (pc := 7) (lv' := [(1, vI x1), (2, vI x2), (3, vI x3), (4, vI x4), (5, vI x5), (6, vR (ea_r h a7 0))]) dX11_feed_7 (Nat.le_of_ble_eq_true rfl) [2, 3, 4, 5, 6, 0] rfl ?_
  refine ea_aload (pc := 9) dX11_feed_9 5 rfl ?_
  obtain ⟨a11, e12, f9, g10, H⟩ := H
  refine ea_deref0 e12 ?_
  refine ea_getI (pc := 11) dX11_feed_11 ec_5 (k := 0) (Nat.le_of_ble_eq_true rfl) rfl (Or.inl ew_292) f9 g10 ?_
  refine ea_bipush (pc := 14) dX11_feed_14 (v := 20) rfl ?_
  refine ea_iadd (pc := 16) dX11_feed_16 ?_
  refine ea_sipush (pc := 17) dX11_feed_17 (v := 600) rfl ?_
  refine ea_icmp_le (pc := 20) (tgt := 25) dX11_feed_20 rfl (fun c45 => ?_) (fun c45 => ?_)
  · have H := H.1 c45
    refine ea_aload (pc := 25) dX11_feed_25 5 rfl ?_
    refine ea_iload_n (pc := 27) dX11_feed_27 rfl 0 rfl ?_
    obtain ⟨f17, g18, H⟩ := H
    refine ea_deref1 e12 ?_
    obtain ⟨d13, h14, m15, q16, H⟩ := H
    refine ea_callV (pc := 28) (As := [vI x1]) (st := []) dX11_feed_28 kX5_take m15 q16 rfl (Nat.le_of_ble_eq_true rfl) ew_733 ew_734 ew_735 (ci := 5) rfl (by decide) f17 g18 ?_
    refine ea_aload (pc := 31) dX11_feed_31 5 rfl ?_
    refine ea_iload_n (pc := 33) dX11_feed_33 rfl 1 rfl ?_
    obtain ⟨f23, g24, H⟩ := H
    refine ea_deref1 e12 ?_
    obtain ⟨d19, h20, m21, q22, H⟩ := H
    refine ea_callV (pc := 34) (As := [vI x2]) (st := []) dX11_feed_34 kX5_take m21 q22 rfl (Nat.le_of_ble_eq_true rfl) ew_733 ew_734 ew_735 (ci := 5) rfl (by decide) f23 g24 ?_
    refine ea_aload (pc := 37) dX11_feed_37 5 rfl ?_
    refine ea_iload_n (pc := 39) dX11_feed_39 rfl 2 rfl ?_
    obtain ⟨f29, g30, H⟩ := H
    refine ea_deref1 e12 ?_
    obtain ⟨d25, h26, m27, q28, H⟩ := H
    refine ea_callV (pc := 40) (As := [vI x3]) (st := []) dX11_feed_40 kX5_take m27 q28 rfl (Nat.le_of_ble_eq_true rfl) ew_733 ew_734 ew_735 (ci := 5) rfl (by decide) f29 g30 ?_
    refine ea_aload (pc := 43) dX11_feed_43 5 rfl ?_
    refine ea_iload (pc := 45) dX11_feed_45 3 rfl ?_
    obtain ⟨f35, g36, H⟩ := H
    refine ea_deref1 e12 ?_
    obtain ⟨d31, h32, m33, q34, H⟩ := H
    refine ea_callV (pc := 47) (As := [vI x4]) (st := []) dX11_feed_47 kX5_take m33 q34 rfl (Nat.le_of_ble_eq_true rfl) ew_733 ew_734 ew_735 (ci := 5) rfl (by decide) f35 g36 ?_
    refine ea_aload (pc := 50) dX11_feed_50 5 rfl ?_
    refine ea_iload (pc := 52) dX11_feed_52 4 rfl ?_
    obtain ⟨f41, g42, H⟩ := H
    refine ea_deref1 e12 ?_
    obtain ⟨d37, h38, m39, q40, H⟩ := H
    refine ea_callV (pc := 54) (As := [vI x5]) (st := []) dX11_feed_54 kX5_take m39 q40 rfl (Nat.le_of_ble_eq_true rfl) ew_733 ew_734 ew_735 (ci := 5) rfl (by decide) f41 g42 ?_
    refine ea_aload (pc := 57) dX11_feed_57 5 rfl ?_
    obtain ⟨f43, g44, H⟩ := H
    refine ea_deref0 e12 ?_
    refine ea_getI (pc := 59) dX11_feed_59 ec_5 (k := 0) (Nat.le_of_ble_eq_true rfl) rfl (Or.inl ew_292) f43 g44 ?_
    obtain ⟨rfl, rfl⟩ := H
    exact ea_ireturn (pc := 62) dX11_feed_62 rfl rfl
  · have H := H.2 c45
    refine ea_iconst (pc := 23) dX11_feed_23 (v := (-1)) rfl ?_
    obtain ⟨rfl, rfl⟩ := H
    exact ea_ireturn (pc := 24) dX11_feed_24 rfl rfl
theorem dX11_end_0 : decode cX11_end 0 = .ok (.iload_n 1, 1) := by decide +kernel
theorem dX11_end_1 : decode cX11_end 1 = .ok (.ifCond .lt 17, 3) := by decide +kernel
theorem dX11_end_4 : decode cX11_end 4 = .ok (.iload_n 1, 1) := by decide +kernel
theorem dX11_end_5 : decode cX11_end 5 = .ok (.aload_n 0, 1) := by decide +kernel
theorem dX11_end_6 : decode cX11_end 6 = .ok (.getfield 42, 3) := by decide +kernel
theorem dX11_end_9 : decode cX11_end 9 = .ok (.getfield 157, 3) := by decide +kernel
theorem dX11_end_12 : decode cX11_end 12 = .ok (.getfield 161, 3) := by decide +kernel
theorem dX11_end_15 : decode cX11_end 15 = .ok (.if_icmp .le 5, 3) := by decide +kernel
theorem dX11_end_18 : decode cX11_end 18 = .ok (.iconst 0, 1) := by decide +kernel
theorem dX11_end_19 : decode cX11_end 19 = .ok (.ireturn, 1) := by decide +kernel
theorem dX11_end_20 : decode cX11_end 20 = .ok (.aload_n 0, 1) := by decide +kernel
theorem dX11_end_21 : decode cX11_end 21 = .ok (.getfield 42, 3) := by decide +kernel
theorem dX11_end_24 : decode cX11_end 24 = .ok (.getfield 157, 3) := by decide +kernel
theorem dX11_end_27 : decode cX11_end 27 = .ok (.iload_n 1, 1) := by decide +kernel
theorem dX11_end_28 : decode cX11_end 28 = .ok (.putfield 161, 3) := by decide +kernel
theorem dX11_end_31 : decode cX11_end 31 = .ok (.iconst 1, 1) := by decide +kernel
theorem dX11_end_32 : decode cX11_end 32 = .ok (.ireturn, 1) := by decide +kernel
theorem bX11_end_0 {d : Nat} {h0 hE h : ea_H} {rv : Option ea_V} {r0 : Option Nat} {x1 : Int32} (H : (x1 < (0 : Int32) → rv = some (vI 0) ∧ hE = h) ∧ (¬ x1 < (0 : Int32) → ∃ a3, r0 = some a3 ∧ a3 < ea_n h ∧ ea_c h a3 = 11 ∧ ∃ a7, (ea_r h a3 4) = some a7 ∧ a7 < ea_n h ∧ ea_c h a7 = 8 ∧ ∃ a11, (ea_r h a7 0) = some a11 ∧ a11 < ea_n h ∧ ea_c h a11 = 5 ∧ (x1 ≤ (ea_i h a11 0) → a3 < ea_n h ∧ ea_c h a3 = 11 ∧ a7 < ea_n h ∧ ea_c h a7 = 8 ∧ a11 < ea_n h ∧ ea_c h a11 = 5 ∧ ∀ h19, h19 = ea_wi h a11 0 x1 → rv = some (vI 1) ∧ hE = h19) ∧ (¬ x1 ≤ (ea_i h a11 0) → rv = some (vI 0) ∧ hE = h))) : ea_W mX11_end d h0 rv hE 0 [(0, vR r0), (1, vI x1)] [] h := by
  refine ea_iload_n (pc := 0) dX11_end_0 rfl 1 rfl ?_
  refine ea_if_lt (pc := 1) (tgt := 18) dX11_end_1 rfl (fun c22 => ?_) (fun c22 => ?_)
  · have H := H.1 c22
    refine ea_iconst (pc := 18) dX11_end_18 (v := 0) rfl ?_
    obtain ⟨rfl, rfl⟩ := H
    exact ea_ireturn (pc := 19) dX11_end_19 rfl (ea_bn (Or.inl rfl))
  · have H := H.2 c22
    refine ea_iload_n (pc := 4) dX11_end_4 rfl 1 rfl ?_
    refine ea_aload_n (pc := 5) dX11_end_5 rfl 0 rfl ?_
    obtain ⟨a3, e4, f1, g2, H⟩ := H
    refine ea_deref0 e4 ?_
    refine ea_getR (pc := 6) dX11_end_6 ec_11 (k := 4) (Nat.le_of_ble_eq_true rfl) rfl (Or.inl ew_441) f1 g2 rfl ?_
    obtain ⟨a7, e8, f5, g6, H⟩ := H
    refine ea_deref0 e8 ?_
    refine ea_getR (pc := 9) dX11_end_9 ec_8 (k := 0) (Nat.le_of_ble_eq_true rfl) rfl (Or.inl ew_334) f5 g6 rfl ?_
    obtain ⟨a11, e12, f9, g10, H⟩ := H
    refine ea_deref0 e12 ?_
    refine ea_getI (pc := 12) dX11_end_12 ec_5 (k := 0) (Nat.le_of_ble_eq_true rfl) rfl (Or.inl ew_292) f9 g10 ?_
    refine ea_icmp_le (pc := 15) (tgt := 20) dX11_end_15 rfl (fun c21 => ?_) (fun c21 => ?_)
    · have H := H.1 c21
      refine ea_aload_n (pc := 20) dX11_end_20 rfl 0 rfl ?_
      obtain ⟨f13, g14, H⟩ := H
      refine ea_deref0 e4 ?_
      refine ea_getR (pc := 21) dX11_end_21 ec_11 (k := 4) (Nat.le_of_ble_eq_true rfl) rfl (Or.inl ew_441) f13 g14 rfl ?_
      obtain ⟨f15, g16, H⟩ := H
      refine ea_deref0 e8 ?_
      refine ea_getR (pc := 24) dX11_end_24 ec_8 (k := 0) (Nat.le_of_ble_eq_true rfl) rfl (Or.inl ew_334) f15 g16 rfl ?_
      refine ea_iload_n (pc := 27) dX11_end_27 rfl 1 rfl ?_
      obtain ⟨f17, g18, H⟩ := H
      refine ea_deref1 e12 ?_
      refine ea_putI (pc := 28) dX11_end_28 ec_5 (k := 0) (Nat.le_of_ble_eq_true rfl) rfl (Or.inl ⟨rfl, Or.inl ew_292⟩) rfl rfl f17 g18 ?_
      obtain ⟨h19, E20⟩ : ∃ z, z = ea_wi h a11 0 x1 := ⟨_, rfl⟩
      have H := H h19 E20
      refine ea_nm E20 ?_
      refine ea_iconst (pc := 31) dX11_end_31 (v := 1) rfl ?_
      obtain ⟨rfl, rfl⟩ := H
      exact ea_ireturn (pc := 32) dX11_end_32 rfl (ea_bn (Or.inr rfl))
    · have H := H.2 c21
      refine ea_iconst (pc := 18) dX11_end_18 (v := 0) rfl ?_
      obtain ⟨rfl, rfl⟩ := H
      exact ea_ireturn (pc := 19) dX11_end_19 rfl (ea_bn (Or.inl rfl))
theorem dX11_act_0 : decode cX11_act 0 = .ok (.aload_n 0, 1) := by decide +kernel
theorem dX11_act_1 : decode cX11_act 1 = .ok (.getfield 42, 3) := by decide +kernel
theorem dX11_act_4 : decode cX11_act 4 = .ok (.iload_n 1, 1) := by decide +kernel
theorem dX11_act_5 : decode cX11_act 5 = .ok (.invokevirtual 170, 3) := by decide +kernel
theorem dX11_act_8 : decode cX11_act 8 = .ok (.ifCond .ne 15, 3) := by decide +kernel
theorem dX11_act_11 : decode cX11_act 11 = .ok (.aload_n 0, 1) := by decide +kernel
theorem dX11_act_12 : decode cX11_act 12 = .ok (.getfield 42, 3) := by decide +kernel
theorem dX11_act_15 : decode cX11_act 15 = .ok (.getfield 157, 3) := by decide +kernel
theorem dX11_act_18 : decode cX11_act 18 = .ok (.invokevirtual 173, 3) := by decide +kernel
theorem dX11_act_21 : decode cX11_act 21 = .ok (.iconst (-1), 1) := by decide +kernel
theorem dX11_act_22 : decode cX11_act 22 = .ok (.ireturn, 1) := by decide +kernel
theorem dX11_act_23 : decode cX11_act 23 = .ok (.aload_n 0, 1) := by decide +kernel
theorem dX11_act_24 : decode cX11_act 24 = .ok (.getfield 42, 3) := by decide +kernel
theorem dX11_act_27 : decode cX11_act 27 = .ok (.aload_n 0, 1) := by decide +kernel
theorem dX11_act_28 : decode cX11_act 28 = .ok (.getfield 42, 3) := by decide +kernel
theorem dX11_act_31 : decode cX11_act 31 = .ok (.getfield 157, 3) := by decide +kernel
theorem dX11_act_34 : decode cX11_act 34 = .ok (.iload_n 1, 1) := by decide +kernel
theorem dX11_act_35 : decode cX11_act 35 = .ok (.invokevirtual 176, 3) := by decide +kernel
theorem dX11_act_38 : decode cX11_act 38 = .ok (.invokevirtual 180, 3) := by decide +kernel
theorem dX11_act_41 : decode cX11_act 41 = .ok (.ireturn, 1) := by decide +kernel
theorem bX11_act_0 {d : Nat} {h0 hE h : ea_H} {rv : Option ea_V} {r0 : Option Nat} {x1 : Int32} (H : ∃ a3, r0 = some a3 ∧ a3 < ea_n h ∧ ea_c h a3 = 11 ∧ ∃ a11, (ea_r h a3 4) = some a11 ∧ a11 < ea_n h ∧ ea_c h a11 = 8 ∧ ∃ (d5 : Nat) (xc13 : Int32) (h6 : ea_H), ea_Met mX8_mayBegin d5 [vR (some a11), vI x1] h (some (vI xc13)) h6 ∧ d5 + 1 ≤ d ∧ (¬ xc13 = (0 : Int32) → a3 < ea_n h6 ∧ ea_c h6 a3 = 11 ∧ a3 < ea_n h6 ∧ ea_c h6 a3 = 11 ∧ ∃ a20, (ea_r h6 a3 4) = some a20 ∧ a20 < ea_n h6 ∧ ea_c h6 a20 = 8 ∧ ∃ a28, (ea_r h6 a20 0) = some a28 ∧ a28 < ea_n h6 ∧ ea_c h6 a28 = 5 ∧ ∃ (d22 : Nat) (rc30 : Option Nat) (h23 : ea_H), ea_Met mX5_read d22 [vR (some a28), vI x1] h6 (some (vR rc30)) h23 ∧ d22 + 1 ≤ d ∧ a20 < ea_n h23 ∧ ea_c h23 a20 = 8 ∧ ∃ (d31 : Nat) (xc37 : Int32) (h32 : ea_H), ea_Met mX8_add d31 [vR (some a20), vR rc30] h23 (some (vI xc37)) h32 ∧ d31 + 1 ≤ d ∧ rv = some (vI xc37) ∧ hE = h32) ∧ (xc13 = (0 : Int32) → a3 < ea_n h6 ∧ ea_c h6 a3 = 11 ∧ ∃ a42, (ea_r h6 a3 4) = some a42 ∧ a42 < ea_n h6 ∧ ea_c h6 a42 = 8 ∧ ∃ a50, (ea_r h6 a42 0) = some a50 ∧ a50 < ea_n h6 ∧ ea_c h6 a50 = 5 ∧ ∃ (d44 : Nat) (h45 : ea_H), ea_Met mX5_drop d44 [vR (some a50)] h6 none h45 ∧ d44 + 1 ≤ d ∧ rv = some (vI (-1)) ∧ hE = h45)) : ea_W mX11_act d h0 rv hE 0 [(0, vR r0), (1, vI x1)] [] h := by
  refine ea_aload_n (pc := 0) dX11_act_0 rfl 0 rfl ?_
  obtain ⟨a3, e4, f1, g2, H⟩ := H
  refine ea_deref0 e4 ?_
  refine ea_getR (pc := 1) dX11_act_1 ec_11 (k := 4) (Nat.le_of_ble_eq_true rfl) rfl (Or.inl ew_441) f1 g2 rfl ?_
  refine ea_iload_n (pc := 4) dX11_act_4 rfl 1 rfl ?_
  obtain ⟨a11, e12, f9, g10, H⟩ := H
  refine ea_deref1 e12 ?_
  obtain ⟨d5, xc13, h6, m7, q8, H⟩ := H
  refine ea_callV (pc := 5) (As := [vI x1]) (st := []) dX11_act_5 kX8_mayBegin m7 q8 rfl (Nat.le_of_ble_eq_true rfl) ew_745 ew_746 ew_747 (ci := 8) rfl (by decide) f9 g10 ?_
  refine ea_if_ne (pc := 8) (tgt := 23) dX11_act_8 rfl (fun c52 => ?_) (fun c52 => ?_)
  · have H := H.1 c52
    refine ea_aload_n (pc := 23) dX11_act_23 rfl 0 rfl ?_
    obtain ⟨f14, g15, H⟩ := H
    refine ea_deref0 e4 ?_
    refine ea_getR (pc := 24) dX11_act_24 ec_11 (k := 4) (Nat.le_of_ble_eq_true rfl) rfl (Or.inl ew_441) f14 g15 rfl ?_
    refine ea_aload_n (pc := 27) dX11_act_27 rfl 0 rfl ?_
    obtain ⟨f16, g17, H⟩ := H
    refine ea_deref0 e4 ?_
    refine ea_getR (pc := 28) dX11_act_28 ec_11 (k := 4) (Nat.le_of_ble_eq_true rfl) rfl (Or.inl ew_441) f16 g17 rfl ?_
    obtain ⟨a20, e21, f18, g19, H⟩ := H
    refine ea_deref0 e21 ?_
    refine ea_getR (pc := 31) dX11_act_31 ec_8 (k := 0) (Nat.le_of_ble_eq_true rfl) rfl (Or.inl ew_334) f18 g19 rfl ?_
    refine ea_iload_n (pc := 34) dX11_act_34 rfl 1 rfl ?_
    obtain ⟨a28, e29, f26, g27, H⟩ := H
    refine ea_deref1 e29 ?_
    obtain ⟨d22, rc30, h23, m24, q25, H⟩ := H
    refine ea_callV (pc := 35) (As := [vI x1]) (st := [vR (ea_r h6 a3 4)]) dX11_act_35 kX5_read m24 q25 rfl (Nat.le_of_ble_eq_true rfl) ew_753 ew_754 ew_755 (ci := 5) rfl (by decide) f26 g27 ?_
    obtain ⟨f35, g36, H⟩ := H
    refine ea_deref1 e21 ?_
    obtain ⟨d31, xc37, h32, m33, q34, H⟩ := H
    refine ea_callV (pc := 38) (As := [vR rc30]) (st := []) dX11_act_38 kX8_add m33 q34 rfl (Nat.le_of_ble_eq_true rfl) ew_904 ew_905 ew_906 (ci := 8) rfl (by decide) f35 g36 ?_
    obtain ⟨rfl, rfl⟩ := H
    exact ea_ireturn (pc := 41) dX11_act_41 rfl rfl
  · have H := H.2 c52
    refine ea_aload_n (pc := 11) dX11_act_11 rfl 0 rfl ?_
    obtain ⟨f38, g39, H⟩ := H
    refine ea_deref0 e4 ?_
    refine ea_getR (pc := 12) dX11_act_12 ec_11 (k := 4) (Nat.le_of_ble_eq_true rfl) rfl (Or.inl ew_441) f38 g39 rfl ?_
    obtain ⟨a42, e43, f40, g41, H⟩ := H
    refine ea_deref0 e43 ?_
    refine ea_getR (pc := 15) dX11_act_15 ec_8 (k := 0) (Nat.le_of_ble_eq_true rfl) rfl (Or.inl ew_334) f40 g41 rfl ?_
    obtain ⟨a50, e51, f48, g49, H⟩ := H
    refine ea_deref0 e51 ?_
    obtain ⟨d44, h45, m46, q47, H⟩ := H
    refine ea_callV (pc := 18) (As := []) (st := []) dX11_act_18 kX5_drop m46 q47 rfl (Nat.le_of_ble_eq_true rfl) ew_749 ew_750 ew_751 (ci := 5) rfl (by decide) f48 g49 ?_
    refine ea_iconst (pc := 21) dX11_act_21 (v := (-1)) rfl ?_
    obtain ⟨rfl, rfl⟩ := H
    exact ea_ireturn (pc := 22) dX11_act_22 rfl rfl
theorem dX11_fault_0 : decode cX11_fault 0 = .ok (.iload_n 1, 1) := by decide +kernel
theorem dX11_fault_1 : decode cX11_fault 1 = .ok (.ifCond .ne 14, 3) := by decide +kernel
theorem dX11_fault_4 : decode cX11_fault 4 = .ok (.aload_n 0, 1) := by decide +kernel
theorem dX11_fault_5 : decode cX11_fault 5 = .ok (.getfield 42, 3) := by decide +kernel
theorem dX11_fault_8 : decode cX11_fault 8 = .ok (.getfield 157, 3) := by decide +kernel
theorem dX11_fault_11 : decode cX11_fault 11 = .ok (.getfield 183, 3) := by decide +kernel
theorem dX11_fault_14 : decode cX11_fault 14 = .ok (.ireturn, 1) := by decide +kernel
theorem dX11_fault_15 : decode cX11_fault 15 = .ok (.iload_n 1, 1) := by decide +kernel
theorem dX11_fault_16 : decode cX11_fault 16 = .ok (.iconst 1, 1) := by decide +kernel
theorem dX11_fault_17 : decode cX11_fault 17 = .ok (.if_icmp .ne 16, 3) := by decide +kernel
theorem dX11_fault_20 : decode cX11_fault 20 = .ok (.aload_n 0, 1) := by decide +kernel
theorem dX11_fault_21 : decode cX11_fault 21 = .ok (.getfield 42, 3) := by decide +kernel
theorem dX11_fault_24 : decode cX11_fault 24 = .ok (.getfield 157, 3) := by decide +kernel
theorem dX11_fault_27 : decode cX11_fault 27 = .ok (.getfield 186, 3) := by decide +kernel
theorem dX11_fault_30 : decode cX11_fault 30 = .ok (.goto 4, 3) := by decide +kernel
theorem dX11_fault_33 : decode cX11_fault 33 = .ok (.iconst (-1), 1) := by decide +kernel
theorem dX11_fault_34 : decode cX11_fault 34 = .ok (.ireturn, 1) := by decide +kernel
theorem bX11_fault_0 {d : Nat} {h0 hE h : ea_H} {rv : Option ea_V} {r0 : Option Nat} {x1 : Int32} (H : (¬ x1 = (0 : Int32) → (¬ x1 = (1 : Int32) → rv = some (vI (-1)) ∧ hE = h) ∧ (x1 = (1 : Int32) → ∃ a3, r0 = some a3 ∧ a3 < ea_n h ∧ ea_c h a3 = 11 ∧ ∃ a7, (ea_r h a3 4) = some a7 ∧ a7 < ea_n h ∧ ea_c h a7 = 8 ∧ ∃ a11, (ea_r h a7 0) = some a11 ∧ a11 < ea_n h ∧ ea_c h a11 = 5 ∧ rv = some (vI (ea_i h a11 2)) ∧ hE = h)) ∧ (x1 = (0 : Int32) → ∃ a16, r0 = some a16 ∧ a16 < ea_n h ∧ ea_c h a16 = 11 ∧ ∃ a20, (ea_r h a16 4) = some a20 ∧ a20 < ea_n h ∧ ea_c h a20 = 8 ∧ ∃ a24, (ea_r h a20 0) = some a24 ∧ a24 < ea_n h ∧ ea_c h a24 = 5 ∧ rv = some (vI (ea_i h a24 1)) ∧ hE = h)) : ea_W mX11_fault d h0 rv hE 0 [(0, vR r0), (1, vI x1)] [] h := by
  refine ea_iload_n (pc := 0) dX11_fault_0 rfl 1 rfl ?_
  refine ea_if_ne (pc := 1) (tgt := 15) dX11_fault_1 rfl (fun c26 => ?_) (fun c26 => ?_)
  · have H := H.1 c26
    refine ea_iload_n (pc := 15) dX11_fault_15 rfl 1 rfl ?_
    refine ea_iconst (pc := 16) dX11_fault_16 (v := 1) rfl ?_
    refine ea_icmp_ne (pc := 17) (tgt := 33) dX11_fault_17 rfl (fun c13 => ?_) (fun c13 => ?_)
    · have H := H.1 c13
      refine ea_iconst (pc := 33) dX11_fault_33 (v := (-1)) rfl ?_
      obtain ⟨rfl, rfl⟩ := H
      exact ea_ireturn (pc := 34) dX11_fault_34 rfl rfl
    · have H := H.2 c13
      refine ea_aload_n (pc := 20) dX11_fault_20 rfl 0 rfl ?_
      obtain ⟨a3, e4, f1, g2, H⟩ := H
      refine ea_deref0 e4 ?_
      refine ea_getR (pc := 21) dX11_fault_21 ec_11 (k := 4) (Nat.le_of_ble_eq_true rfl) rfl (Or.inl ew_441) f1 g2 rfl ?_
      obtain ⟨a7, e8, f5, g6, H⟩ := H
      refine ea_deref0 e8 ?_
      refine ea_getR (pc := 24) dX11_fault_24 ec_8 (k := 0) (Nat.le_of_ble_eq_true rfl) rfl (Or.inl ew_334) f5 g6 rfl ?_
      obtain ⟨a11, e12, f9, g10, H⟩ := H
      refine ea_deref0 e12 ?_
      refine ea_getI (pc := 27) dX11_fault_27 ec_5 (k := 2) (Nat.le_of_ble_eq_true rfl) rfl (Or.inl ew_296) f9 g10 ?_
      refine ea_goto (pc := 30) (tgt := 34) dX11_fault_30 rfl ?_
      obtain ⟨rfl, rfl⟩ := H
      exact ea_ireturn (pc := 34) dX11_fault_34 rfl rfl
  · have H := H.2 c26
    refine ea_aload_n (pc := 4) dX11_fault_4 rfl 0 rfl ?_
    obtain ⟨a16, e17, f14, g15, H⟩ := H
    refine ea_deref0 e17 ?_
    refine ea_getR (pc := 5) dX11_fault_5 ec_11 (k := 4) (Nat.le_of_ble_eq_true rfl) rfl (Or.inl ew_441) f14 g15 rfl ?_
    obtain ⟨a20, e21, f18, g19, H⟩ := H
    refine ea_deref0 e21 ?_
    refine ea_getR (pc := 8) dX11_fault_8 ec_8 (k := 0) (Nat.le_of_ble_eq_true rfl) rfl (Or.inl ew_334) f18 g19 rfl ?_
    obtain ⟨a24, e25, f22, g23, H⟩ := H
    refine ea_deref0 e25 ?_
    refine ea_getI (pc := 11) dX11_fault_11 ec_5 (k := 1) (Nat.le_of_ble_eq_true rfl) rfl (Or.inl ew_294) f22 g23 ?_
    obtain ⟨rfl, rfl⟩ := H
    exact ea_ireturn (pc := 14) dX11_fault_14 rfl rfl
theorem dX11_inForce_0 : decode cX11_inForce 0 = .ok (.iload_n 1, 1) := by decide +kernel
theorem dX11_inForce_1 : decode cX11_inForce 1 = .ok (.ifCond .lt 9, 3) := by decide +kernel
theorem dX11_inForce_4 : decode cX11_inForce 4 = .ok (.iload_n 1, 1) := by decide +kernel
theorem dX11_inForce_5 : decode cX11_inForce 5 = .ok (.bipush 7, 2) := by decide +kernel
theorem dX11_inForce_7 : decode cX11_inForce 7 = .ok (.if_icmp .lt 5, 3) := by decide +kernel
theorem dX11_inForce_10 : decode cX11_inForce 10 = .ok (.iconst (-1), 1) := by decide +kernel
theorem dX11_inForce_11 : decode cX11_inForce 11 = .ok (.ireturn, 1) := by decide +kernel
theorem dX11_inForce_12 : decode cX11_inForce 12 = .ok (.aload_n 0, 1) := by decide +kernel
theorem dX11_inForce_13 : decode cX11_inForce 13 = .ok (.getfield 42, 3) := by decide +kernel
theorem dX11_inForce_16 : decode cX11_inForce 16 = .ok (.iload_n 1, 1) := by decide +kernel
theorem dX11_inForce_17 : decode cX11_inForce 17 = .ok (.invokevirtual 189, 3) := by decide +kernel
theorem dX11_inForce_20 : decode cX11_inForce 20 = .ok (.istore_n 3, 1) := by decide +kernel
theorem dX11_inForce_21 : decode cX11_inForce 21 = .ok (.aload_n 0, 1) := by decide +kernel
theorem dX11_inForce_22 : decode cX11_inForce 22 = .ok (.getfield 42, 3) := by decide +kernel
theorem dX11_inForce_25 : decode cX11_inForce 25 = .ok (.iload_n 3, 1) := by decide +kernel
theorem dX11_inForce_26 : decode cX11_inForce 26 = .ok (.invokevirtual 192, 3) := by decide +kernel
theorem dX11_inForce_29 : decode cX11_inForce 29 = .ok (.astore 4, 2) := by decide +kernel
theorem dX11_inForce_31 : decode cX11_inForce 31 = .ok (.aload 4, 2) := by decide +kernel
theorem dX11_inForce_33 : decode cX11_inForce 33 = .ok (.ifnonnull 5, 3) := by decide +kernel
theorem dX11_inForce_36 : decode cX11_inForce 36 = .ok (.iconst (-1), 1) := by decide +kernel
theorem dX11_inForce_37 : decode cX11_inForce 37 = .ok (.ireturn, 1) := by decide +kernel
theorem dX11_inForce_38 : decode cX11_inForce 38 = .ok (.iload_n 2, 1) := by decide +kernel
theorem dX11_inForce_39 : decode cX11_inForce 39 = .ok (.tableswitch 89 0 7 #[45, 47, 53, 59, 65, 71, 77, 83], 45) := by decide +kernel
theorem dX11_inForce_84 : decode cX11_inForce 84 = .ok (.iload_n 3, 1) := by decide +kernel
theorem dX11_inForce_85 : decode cX11_inForce 85 = .ok (.ireturn, 1) := by decide +kernel
theorem dX11_inForce_86 : decode cX11_inForce 86 = .ok (.aload 4, 2) := by decide +kernel
theorem dX11_inForce_88 : decode cX11_inForce 88 = .ok (.getfield 195, 3) := by decide +kernel
theorem dX11_inForce_91 : decode cX11_inForce 91 = .ok (.ireturn, 1) := by decide +kernel
theorem dX11_inForce_92 : decode cX11_inForce 92 = .ok (.aload 4, 2) := by decide +kernel
theorem dX11_inForce_94 : decode cX11_inForce 94 = .ok (.getfield 200, 3) := by decide +kernel
theorem dX11_inForce_97 : decode cX11_inForce 97 = .ok (.ireturn, 1) := by decide +kernel
theorem dX11_inForce_98 : decode cX11_inForce 98 = .ok (.aload 4, 2) := by decide +kernel
theorem dX11_inForce_100 : decode cX11_inForce 100 = .ok (.getfield 203, 3) := by decide +kernel
theorem dX11_inForce_103 : decode cX11_inForce 103 = .ok (.ireturn, 1) := by decide +kernel
theorem dX11_inForce_104 : decode cX11_inForce 104 = .ok (.aload 4, 2) := by decide +kernel
theorem dX11_inForce_106 : decode cX11_inForce 106 = .ok (.getfield 206, 3) := by decide +kernel
theorem dX11_inForce_109 : decode cX11_inForce 109 = .ok (.ireturn, 1) := by decide +kernel
theorem dX11_inForce_110 : decode cX11_inForce 110 = .ok (.aload 4, 2) := by decide +kernel
theorem dX11_inForce_112 : decode cX11_inForce 112 = .ok (.getfield 209, 3) := by decide +kernel
theorem dX11_inForce_115 : decode cX11_inForce 115 = .ok (.ireturn, 1) := by decide +kernel
theorem dX11_inForce_116 : decode cX11_inForce 116 = .ok (.aload 4, 2) := by decide +kernel
theorem dX11_inForce_118 : decode cX11_inForce 118 = .ok (.getfield 212, 3) := by decide +kernel
theorem dX11_inForce_121 : decode cX11_inForce 121 = .ok (.ireturn, 1) := by decide +kernel
theorem dX11_inForce_122 : decode cX11_inForce 122 = .ok (.aload 4, 2) := by decide +kernel
theorem dX11_inForce_124 : decode cX11_inForce 124 = .ok (.getfield 215, 3) := by decide +kernel
theorem dX11_inForce_127 : decode cX11_inForce 127 = .ok (.ireturn, 1) := by decide +kernel
theorem dX11_inForce_128 : decode cX11_inForce 128 = .ok (.iconst (-1), 1) := by decide +kernel
theorem dX11_inForce_129 : decode cX11_inForce 129 = .ok (.ireturn, 1) := by decide +kernel
theorem bX11_inForce_0 {d : Nat} {h0 hE h : ea_H} {rv : Option ea_V} {r0 : Option Nat} {x1 : Int32} {x2 : Int32} (H : (x1 < (0 : Int32) → rv = some (vI (-1)) ∧ hE = h) ∧ (¬ x1 < (0 : Int32) → (x1 < (7 : Int32) → ∃ a3, r0 = some a3 ∧ a3 < ea_n h ∧ ea_c h a3 = 11 ∧ ∃ a11, (ea_r h a3 4) = some a11 ∧ a11 < ea_n h ∧ ea_c h a11 = 8 ∧ ∃ (d5 : Nat) (xc13 : Int32) (h6 : ea_H), ea_Met mX8_numberOn d5 [vR (some a11), vI x1] h (some (vI xc13)) h6 ∧ d5 + 1 ≤ d ∧ a3 < ea_n h6 ∧ ea_c h6 a3 = 11 ∧ ∃ a22, (ea_r h6 a3 4) = some a22 ∧ a22 < ea_n h6 ∧ ea_c h6 a22 = 8 ∧ ∃ (d16 : Nat) (rc24 : Option Nat) (h17 : ea_H), ea_Met mX8_actOf d16 [vR (some a22), vI xc13] h6 (some (vR rc24)) h17 ∧ d16 + 1 ≤ d ∧ (∀ a25, rc24 = some a25 → (Int32.toInt x2 = 0 → rv = some (vI xc13) ∧ hE = h17) ∧ (Int32.toInt x2 = 1 → a25 < ea_n h17 ∧ ea_c h17 a25 = 0 ∧ rv = some (vI (ea_i h17 a25 1)) ∧ hE = h17) ∧ (Int32.toInt x2 = 2 → a25 < ea_n h17 ∧ ea_c h17 a25 = 0 ∧ rv = some (vI (ea_i h17 a25 2)) ∧ hE = h17) ∧ (Int32.toInt x2 = 3 → a25 < ea_n h17 ∧ ea_c h17 a25 = 0 ∧ rv = some (vI (ea_i h17 a25 3)) ∧ hE = h17) ∧ (Int32.toInt x2 = 4 → a25 < ea_n h17 ∧ ea_c h17 a25 = 0 ∧ rv = some (vI (ea_i h17 a25 4)) ∧ hE = h17) ∧ (Int32.toInt x2 = 5 → a25 < ea_n h17 ∧ ea_c h17 a25 = 0 ∧ rv = some (vI (ea_i h17 a25 5)) ∧ hE = h17) ∧ (Int32.toInt x2 = 6 → a25 < ea_n h17 ∧ ea_c h17 a25 = 0 ∧ rv = some (vI (ea_i h17 a25 6)) ∧ hE = h17) ∧ (Int32.toInt x2 = 7 → a25 < ea_n h17 ∧ ea_c h17 a25 = 0 ∧ rv = some (vI (ea_i h17 a25 7)) ∧ hE = h17) ∧ (Int32.toInt x2 < 0 ∨ 7 < Int32.toInt x2 → rv = some (vI (-1)) ∧ hE = h17)) ∧ (rc24 = none → rv = some (vI (-1)) ∧ hE = h17)) ∧ (¬ x1 < (7 : Int32) → rv = some (vI (-1)) ∧ hE = h))) : ea_W mX11_inForce d h0 rv hE 0 [(0, vR r0), (1, vI x1), (2, vI x2)] [] h := by
  refine ea_iload_n (pc := 0) dX11_inForce_0 rfl 1 rfl ?_
  refine ea_if_lt (pc := 1) (tgt := 10) dX11_inForce_1 rfl (fun c42 => ?_) (fun c42 => ?_)
  · have H := H.1 c42
    refine ea_iconst (pc := 10) dX11_inForce_10 (v := (-1)) rfl ?_
    obtain ⟨rfl, rfl⟩ := H
    exact ea_ireturn (pc := 11) dX11_inForce_11 rfl rfl
  · have H := H.2 c42
    refine ea_iload_n (pc := 4) dX11_inForce_4 rfl 1 rfl ?_
    refine ea_bipush (pc := 5) dX11_inForce_5 (v := 7) rfl ?_
    refine ea_icmp_lt (pc := 7) (tgt := 12) dX11_inForce_7 rfl (fun c41 => ?_) (fun c41 => ?_)
    · have H := H.1 c41
      refine ea_aload_n (pc := 12) dX11_inForce_12 rfl 0 rfl ?_
      obtain ⟨a3, e4, f1, g2, H⟩ := H
      refine ea_deref0 e4 ?_
      refine ea_getR (pc := 13) dX11_inForce_13 ec_11 (k := 4) (Nat.le_of_ble_eq_true rfl) rfl (Or.inl ew_441) f1 g2 rfl ?_
      refine ea_iload_n (pc := 16) dX11_inForce_16 rfl 1 rfl ?_
      obtain ⟨a11, e12, f9, g10, H⟩ := H
      refine ea_deref1 e12 ?_
      obtain ⟨d5, xc13, h6, m7, q8, H⟩ := H
      refine ea_callV (pc := 17) (As := [vI x1]) (st := []) dX11_inForce_17 kX8_numberOn m7 q8 rfl (Nat.le_of_ble_eq_true rfl) ew_916 ew_917 ew_918 (ci := 8) rfl (by decide) f9 g10 ?_
      refine ea_istore_n (pc := 20) (lv' := [(0, vR r0), (2, vI x2), (3, vI xc13)]) dX11_inForce_20 rfl (Nat.le_of_ble_eq_true rfl) [1, 3, 0] rfl ?_
      refine ea_aload_n (pc := 21) dX11_inForce_21 rfl 0 rfl ?_
      obtain ⟨f14, g15, H⟩ := H
      refine ea_deref0 e4 ?_
      refine ea_getR (pc := 22) dX11_inForce_22 ec_11 (k := 4) (Nat.le_of_ble_eq_true rfl) rfl (Or.inl ew_441) f14 g15 rfl ?_
      refine ea_iload_n (pc := 25) dX11_inForce_25 rfl 2 rfl ?_
      obtain ⟨a22, e23, f20, g21, H⟩ := H
      refine ea_deref1 e23 ?_
      obtain ⟨d16, rc24, h17, m18, q19, H⟩ := H
      refine ea_callV (pc := 26) (As := [vI xc13]) (st := []) dX11_inForce_26 kX8_actOf m18 q19 rfl (Nat.le_of_ble_eq_true rfl) ew_920 ew_921 ew_922 (ci := 8) rfl (by decide) f20 g21 ?_
      refine ea_astore (pc := 29) (lv' := [(2, vI x2), (3, vI xc13), (4, vR rc24)]) dX11_inForce_29 (Nat.le_of_ble_eq_true rfl) [2, 3, 0] rfl ?_
      refine ea_aload (pc := 31) dX11_inForce_31 2 rfl ?_
      refine ea_ifnonnull (pc := 33) (tgt := 38) dX11_inForce_33 rfl (fun a25 e26 => ?_) (fun e26 => ?_)
      · have H := H.1 a25 e26
        refine ea_iload_n (pc := 38) dX11_inForce_38 rfl 0 rfl ?_
        by_cases qc1 : Int32.toInt x2 = 0
        · have H := H.1 qc1
          refine ea_tswIn (pc := 39) (tgt := 84) dX11_inForce_39 (by omega) (by omega) (by rw [qc1]; rfl) rfl ?_
          refine ea_iload_n (pc := 84) dX11_inForce_84 rfl 1 rfl ?_
          obtain ⟨rfl, rfl⟩ := H
          exact ea_ireturn (pc := 85) dX11_inForce_85 rfl rfl
        by_cases qc2 : Int32.toInt x2 = 1
        · have H := H.2.1 qc2
          refine ea_tswIn (pc := 39) (tgt := 86) dX11_inForce_39 (by omega) (by omega) (by rw [qc2]; rfl) rfl ?_
          refine ea_aload (pc := 86) dX11_inForce_86 2 rfl ?_
          obtain ⟨f27, g28, H⟩ := H
          refine ea_deref0 e26 ?_
          refine ea_getI (pc := 88) dX11_inForce_88 ec_0 (k := 1) (Nat.le_of_ble_eq_true rfl) rfl (Or.inl ew_795) f27 g28 ?_
          obtain ⟨rfl, rfl⟩ := H
          exact ea_ireturn (pc := 91) dX11_inForce_91 rfl rfl
        by_cases qc3 : Int32.toInt x2 = 2
        · have H := H.2.2.1 qc3
          refine ea_tswIn (pc := 39) (tgt := 92) dX11_inForce_39 (by omega) (by omega) (by rw [qc3]; rfl) rfl ?_
          refine ea_aload (pc := 92) dX11_inForce_92 2 rfl ?_
          obtain ⟨f29, g30, H⟩ := H
          refine ea_deref0 e26 ?_
          refine ea_getI (pc := 94) dX11_inForce_94 ec_0 (k := 2) (Nat.le_of_ble_eq_true rfl) rfl (Or.inl ew_798) f29 g30 ?_
          obtain ⟨rfl, rfl⟩ := H
          exact ea_ireturn (pc := 97) dX11_inForce_97 rfl rfl
        by_cases qc4 : Int32.toInt x2 = 3
        · have H := H.2.2.2.1 qc4
          refine ea_tswIn (pc := 39) (tgt := 98) dX11_inForce_39 (by omega) (by omega) (by rw [qc4]; rfl) rfl ?_
          refine ea_aload (pc := 98) dX11_inForce_98 2 rfl ?_
          obtain ⟨f31, g32, H⟩ := H
          refine ea_deref0 e26 ?_
          refine ea_getI (pc := 100) dX11_inForce_100 ec_0 (k := 3) (Nat.le_of_ble_eq_true rfl) rfl (Or.inl ew_802) f31 g32 ?_
          obtain ⟨rfl, rfl⟩ := H
          exact ea_ireturn (pc := 103) dX11_inForce_103 rfl rfl
        by_cases qc5 : Int32.toInt x2 = 4
        · have H := H.2.2.2.2.1 qc5
          refine ea_tswIn (pc := 39) (tgt := 104) dX11_inForce_39 (by omega) (by omega) (by rw [qc5]; rfl) rfl ?_
          refine ea_aload (pc := 104) dX11_inForce_104 2 rfl ?_
          obtain ⟨f33, g34, H⟩ := H
          refine ea_deref0 e26 ?_
          refine ea_getI (pc := 106) dX11_inForce_106 ec_0 (k := 4) (Nat.le_of_ble_eq_true rfl) rfl (Or.inl ew_805) f33 g34 ?_
          obtain ⟨rfl, rfl⟩ := H
          exact ea_ireturn (pc := 109) dX11_inForce_109 rfl rfl
        by_cases qc6 : Int32.toInt x2 = 5
        · have H := H.2.2.2.2.2.1 qc6
          refine ea_tswIn (pc := 39) (tgt := 110) dX11_inForce_39 (by omega) (by omega) (by rw [qc6]; rfl) rfl ?_
          refine ea_aload (pc := 110) dX11_inForce_110 2 rfl ?_
          obtain ⟨f35, g36, H⟩ := H
          refine ea_deref0 e26 ?_
          refine ea_getI (pc := 112) dX11_inForce_112 ec_0 (k := 5) (Nat.le_of_ble_eq_true rfl) rfl (Or.inl ew_808) f35 g36 ?_
          obtain ⟨rfl, rfl⟩ := H
          exact ea_ireturn (pc := 115) dX11_inForce_115 rfl rfl
        by_cases qc7 : Int32.toInt x2 = 6
        · have H := H.2.2.2.2.2.2.1 qc7
          refine ea_tswIn (pc := 39) (tgt := 116) dX11_inForce_39 (by omega) (by omega) (by rw [qc7]; rfl) rfl ?_
          refine ea_aload (pc := 116) dX11_inForce_116 2 rfl ?_
          obtain ⟨f37, g38, H⟩ := H
          refine ea_deref0 e26 ?_
          refine ea_getI (pc := 118) dX11_inForce_118 ec_0 (k := 6) (Nat.le_of_ble_eq_true rfl) rfl (Or.inl ew_811) f37 g38 ?_
          obtain ⟨rfl, rfl⟩ := H
          exact ea_ireturn (pc := 121) dX11_inForce_121 rfl rfl
        by_cases qc8 : Int32.toInt x2 = 7
        · have H := H.2.2.2.2.2.2.2.1 qc8
          refine ea_tswIn (pc := 39) (tgt := 122) dX11_inForce_39 (by omega) (by omega) (by rw [qc8]; rfl) rfl ?_
          refine ea_aload (pc := 122) dX11_inForce_122 2 rfl ?_
          obtain ⟨f39, g40, H⟩ := H
          refine ea_deref0 e26 ?_
          refine ea_getI (pc := 124) dX11_inForce_124 ec_0 (k := 7) (Nat.le_of_ble_eq_true rfl) rfl (Or.inl ew_815) f39 g40 ?_
          obtain ⟨rfl, rfl⟩ := H
          exact ea_ireturn (pc := 127) dX11_inForce_127 rfl rfl
        have qd : Int32.toInt x2 < 0 ∨ 7 < Int32.toInt x2 := by omega
        have H := H.2.2.2.2.2.2.2.2 qd
        refine ea_tswOut (pc := 39) (tgt := 128) dX11_inForce_39 qd rfl ?_
        refine ea_iconst (pc := 128) dX11_inForce_128 (v := (-1)) rfl ?_
        obtain ⟨rfl, rfl⟩ := H
        exact ea_ireturn (pc := 129) dX11_inForce_129 rfl rfl
      · have H := H.2 e26
        refine ea_iconst (pc := 36) dX11_inForce_36 (v := (-1)) rfl ?_
        obtain ⟨rfl, rfl⟩ := H
        exact ea_ireturn (pc := 37) dX11_inForce_37 rfl rfl
    · have H := H.2 c41
      refine ea_iconst (pc := 10) dX11_inForce_10 (v := (-1)) rfl ?_
      obtain ⟨rfl, rfl⟩ := H
      exact ea_ireturn (pc := 11) dX11_inForce_11 rfl rfl
theorem dX11_post_0 : decode cX11_post 0 = .ok (.iload_n 1, 1) := by decide +kernel
theorem dX11_post_1 : decode cX11_post 1 = .ok (.ifCond .lt 35, 3) := by decide +kernel
theorem dX11_post_4 : decode cX11_post 4 = .ok (.iload_n 1, 1) := by decide +kernel
theorem dX11_post_5 : decode cX11_post 5 = .ok (.iconst 4, 1) := by decide +kernel
theorem dX11_post_6 : decode cX11_post 6 = .ok (.if_icmp .gt 30, 3) := by decide +kernel
theorem dX11_post_9 : decode cX11_post 9 = .ok (.aload_n 0, 1) := by decide +kernel
theorem dX11_post_10 : decode cX11_post 10 = .ok (.getfield 12, 3) := by decide +kernel
theorem dX11_post_13 : decode cX11_post 13 = .ok (.iload_n 2, 1) := by decide +kernel
theorem dX11_post_14 : decode cX11_post 14 = .ok (.invokevirtual 81, 3) := by decide +kernel
theorem dX11_post_17 : decode cX11_post 17 = .ok (.ifCond .eq 19, 3) := by decide +kernel
theorem dX11_post_20 : decode cX11_post 20 = .ok (.aload_n 0, 1) := by decide +kernel
theorem dX11_post_21 : decode cX11_post 21 = .ok (.getfield 12, 3) := by decide +kernel
theorem dX11_post_24 : decode cX11_post 24 = .ok (.iload_n 3, 1) := by decide +kernel
theorem dX11_post_25 : decode cX11_post 25 = .ok (.invokevirtual 81, 3) := by decide +kernel
theorem dX11_post_28 : decode cX11_post 28 = .ok (.ifCond .eq 8, 3) := by decide +kernel
theorem dX11_post_31 : decode cX11_post 31 = .ok (.iload_n 2, 1) := by decide +kernel
theorem dX11_post_32 : decode cX11_post 32 = .ok (.iload_n 3, 1) := by decide +kernel
theorem dX11_post_33 : decode cX11_post 33 = .ok (.if_icmp .ne 5, 3) := by decide +kernel
theorem dX11_post_36 : decode cX11_post 36 = .ok (.iconst (-1), 1) := by decide +kernel
theorem dX11_post_37 : decode cX11_post 37 = .ok (.ireturn, 1) := by decide +kernel
theorem dX11_post_38 : decode cX11_post 38 = .ok (.iload 4, 2) := by decide +kernel
theorem dX11_post_40 : decode cX11_post 40 = .ok (.iconst 1, 1) := by decide +kernel
theorem dX11_post_41 : decode cX11_post 41 = .ok (.if_icmp .lt 34, 3) := by decide +kernel
theorem dX11_post_44 : decode cX11_post 44 = .ok (.iload 4, 2) := by decide +kernel
theorem dX11_post_46 : decode cX11_post 46 = .ok (.bipush 9, 2) := by decide +kernel
theorem dX11_post_48 : decode cX11_post 48 = .ok (.if_icmp .gt 27, 3) := by decide +kernel
theorem dX11_post_51 : decode cX11_post 51 = .ok (.iload 5, 2) := by decide +kernel
theorem dX11_post_53 : decode cX11_post 53 = .ok (.ifCond .lt 22, 3) := by decide +kernel
theorem dX11_post_56 : decode cX11_post 56 = .ok (.iload 5, 2) := by decide +kernel
theorem dX11_post_58 : decode cX11_post 58 = .ok (.bipush 99, 2) := by decide +kernel
theorem dX11_post_60 : decode cX11_post 60 = .ok (.if_icmp .gt 15, 3) := by decide +kernel
theorem dX11_post_63 : decode cX11_post 63 = .ok (.iload 6, 2) := by decide +kernel
theorem dX11_post_65 : decode cX11_post 65 = .ok (.ifCond .lt 10, 3) := by decide +kernel
theorem dX11_post_68 : decode cX11_post 68 = .ok (.iload 6, 2) := by decide +kernel
theorem dX11_post_70 : decode cX11_post 70 = .ok (.bipush 9, 2) := by decide +kernel
theorem dX11_post_72 : decode cX11_post 72 = .ok (.if_icmp .le 5, 3) := by decide +kernel
theorem dX11_post_75 : decode cX11_post 75 = .ok (.iconst (-1), 1) := by decide +kernel
theorem dX11_post_76 : decode cX11_post 76 = .ok (.ireturn, 1) := by decide +kernel
theorem dX11_post_77 : decode cX11_post 77 = .ok (.aload_n 0, 1) := by decide +kernel
theorem dX11_post_78 : decode cX11_post 78 = .ok (.getfield 57, 3) := by decide +kernel
theorem dX11_post_81 : decode cX11_post 81 = .ok (.getfield 154, 3) := by decide +kernel
theorem dX11_post_84 : decode cX11_post 84 = .ok (.bipush 120, 2) := by decide +kernel
theorem dX11_post_86 : decode cX11_post 86 = .ok (.if_icmp .lt 5, 3) := by decide +kernel
theorem dX11_post_89 : decode cX11_post 89 = .ok (.iconst (-1), 1) := by decide +kernel
theorem dX11_post_90 : decode cX11_post 90 = .ok (.ireturn, 1) := by decide +kernel
theorem dX11_post_91 : decode cX11_post 91 = .ok (.new 46, 3) := by decide +kernel
theorem dX11_post_94 : decode cX11_post 94 = .ok (.dup, 1) := by decide +kernel
theorem dX11_post_95 : decode cX11_post 95 = .ok (.iload_n 1, 1) := by decide +kernel
theorem dX11_post_96 : decode cX11_post 96 = .ok (.iload_n 2, 1) := by decide +kernel
theorem dX11_post_97 : decode cX11_post 97 = .ok (.iload_n 3, 1) := by decide +kernel
theorem dX11_post_98 : decode cX11_post 98 = .ok (.iload 4, 2) := by decide +kernel
theorem dX11_post_100 : decode cX11_post 100 = .ok (.iload 5, 2) := by decide +kernel
theorem dX11_post_102 : decode cX11_post 102 = .ok (.iload 6, 2) := by decide +kernel
theorem dX11_post_104 : decode cX11_post 104 = .ok (.invokespecial 218, 3) := by decide +kernel
theorem dX11_post_107 : decode cX11_post 107 = .ok (.astore 7, 2) := by decide +kernel
theorem dX11_post_109 : decode cX11_post 109 = .ok (.aload 7, 2) := by decide +kernel
theorem dX11_post_111 : decode cX11_post 111 = .ok (.aload_n 0, 1) := by decide +kernel
theorem dX11_post_112 : decode cX11_post 112 = .ok (.getfield 100, 3) := by decide +kernel
theorem dX11_post_115 : decode cX11_post 115 = .ok (.putfield 221, 3) := by decide +kernel
theorem dX11_post_118 : decode cX11_post 118 = .ok (.aload 7, 2) := by decide +kernel
theorem dX11_post_120 : decode cX11_post 120 = .ok (.aload_n 0, 1) := by decide +kernel
theorem dX11_post_121 : decode cX11_post 121 = .ok (.getfield 12, 3) := by decide +kernel
theorem dX11_post_124 : decode cX11_post 124 = .ok (.iload_n 2, 1) := by decide +kernel
theorem dX11_post_125 : decode cX11_post 125 = .ok (.iload_n 3, 1) := by decide +kernel
theorem dX11_post_126 : decode cX11_post 126 = .ok (.invokevirtual 89, 3) := by decide +kernel
theorem dX11_post_129 : decode cX11_post 129 = .ok (.iconst 0, 1) := by decide +kernel
theorem dX11_post_130 : decode cX11_post 130 = .ok (.invokestatic 224, 3) := by decide +kernel
theorem dX11_post_133 : decode cX11_post 133 = .ok (.putfield 229, 3) := by decide +kernel
theorem dX11_post_136 : decode cX11_post 136 = .ok (.aload 7, 2) := by decide +kernel
theorem dX11_post_138 : decode cX11_post 138 = .ok (.aload_n 0, 1) := by decide +kernel
theorem dX11_post_139 : decode cX11_post 139 = .ok (.getfield 12, 3) := by decide +kernel
theorem dX11_post_142 : decode cX11_post 142 = .ok (.iload_n 2, 1) := by decide +kernel
theorem dX11_post_143 : decode cX11_post 143 = .ok (.iload_n 3, 1) := by decide +kernel
theorem dX11_post_144 : decode cX11_post 144 = .ok (.invokevirtual 232, 3) := by decide +kernel
theorem dX11_post_147 : decode cX11_post 147 = .ok (.putfield 235, 3) := by decide +kernel
theorem dX11_post_150 : decode cX11_post 150 = .ok (.aload_n 0, 1) := by decide +kernel
theorem dX11_post_151 : decode cX11_post 151 = .ok (.getfield 57, 3) := by decide +kernel
theorem dX11_post_154 : decode cX11_post 154 = .ok (.getfield 154, 3) := by decide +kernel
theorem dX11_post_157 : decode cX11_post 157 = .ok (.istore 8, 2) := by decide +kernel
theorem dX11_post_159 : decode cX11_post 159 = .ok (.aload 7, 2) := by decide +kernel
theorem dX11_post_161 : decode cX11_post 161 = .ok (.aload_n 0, 1) := by decide +kernel
theorem dX11_post_162 : decode cX11_post 162 = .ok (.aload 7, 2) := by decide +kernel
theorem dX11_post_164 : decode cX11_post 164 = .ok (.invokevirtual 238, 3) := by decide +kernel
theorem dX11_post_167 : decode cX11_post 167 = .ok (.putfield 242, 3) := by decide +kernel
theorem dX11_post_170 : decode cX11_post 170 = .ok (.aload_n 0, 1) := by decide +kernel
theorem dX11_post_171 : decode cX11_post 171 = .ok (.getfield 48, 3) := by decide +kernel
theorem dX11_post_174 : decode cX11_post 174 = .ok (.iload 8, 2) := by decide +kernel
theorem dX11_post_176 : decode cX11_post 176 = .ok (.aload 7, 2) := by decide +kernel
theorem dX11_post_178 : decode cX11_post 178 = .ok (.aastore, 1) := by decide +kernel
theorem dX11_post_179 : decode cX11_post 179 = .ok (.aload_n 0, 1) := by decide +kernel
theorem dX11_post_180 : decode cX11_post 180 = .ok (.getfield 42, 3) := by decide +kernel
theorem dX11_post_183 : decode cX11_post 183 = .ok (.aload 7, 2) := by decide +kernel
theorem dX11_post_185 : decode cX11_post 185 = .ok (.invokevirtual 244, 3) := by decide +kernel
theorem dX11_post_188 : decode cX11_post 188 = .ok (.aload_n 0, 1) := by decide +kernel
theorem dX11_post_189 : decode cX11_post 189 = .ok (.getfield 57, 3) := by decide +kernel
theorem dX11_post_192 : decode cX11_post 192 = .ok (.aload_n 0, 1) := by decide +kernel
theorem dX11_post_193 : decode cX11_post 193 = .ok (.getfield 100, 3) := by decide +kernel
theorem dX11_post_196 : decode cX11_post 196 = .ok (.iload_n 2, 1) := by decide +kernel
theorem dX11_post_197 : decode cX11_post 197 = .ok (.invokevirtual 248, 3) := by decide +kernel
theorem dX11_post_200 : decode cX11_post 200 = .ok (.aload_n 0, 1) := by decide +kernel
theorem dX11_post_201 : decode cX11_post 201 = .ok (.iconst 0, 1) := by decide +kernel
theorem dX11_post_202 : decode cX11_post 202 = .ok (.putfield 96, 3) := by decide +kernel
theorem dX11_post_205 : decode cX11_post 205 = .ok (.iload 8, 2) := by decide +kernel
theorem dX11_post_207 : decode cX11_post 207 = .ok (.ireturn, 1) := by decide +kernel
theorem bX11_post_0 {d : Nat} {h0 hE h : ea_H} {rv : Option ea_V} {r0 : Option Nat} {x1 : Int32} {x2 : Int32} {x3 : Int32} {x4 : Int32} {x5 : Int32} {x6 : Int32} (H : (x1 < (0 : Int32) → rv = some (vI (-1)) ∧ hE = h) ∧ (¬ x1 < (0 : Int32) → ((4 : Int32) < x1 → rv = some (vI (-1)) ∧ hE = h) ∧ (¬ (4 : Int32) < x1 → ∃ a3, r0 = some a3 ∧ a3 < ea_n h ∧ ea_c h a3 = 11 ∧ ∃ a11, (ea_r h a3 0) = some a11 ∧ a11 < ea_n h ∧ ea_c h a11 = 6 ∧ ∃ (d5 : Nat) (xc13 : Int32) (h6 : ea_H), ea_Met mX6_has d5 [vR (some a11), vI x2] h (some (vI xc13)) h6 ∧ d5 + 1 ≤ d ∧ (xc13 = (0 : Int32) → rv = some (vI (-1)) ∧ hE = h6) ∧ (¬ xc13 = (0 : Int32) → a3 < ea_n h6 ∧ ea_c h6 a3 = 11 ∧ ∃ a22, (ea_r h6 a3 0) = some a22 ∧ a22 < ea_n h6 ∧ ea_c h6 a22 = 6 ∧ ∃ (d16 : Nat) (xc24 : Int32) (h17 : ea_H), ea_Met mX6_has d16 [vR (some a22), vI x3] h6 (some (vI xc24)) h17 ∧ d16 + 1 ≤ d ∧ (xc24 = (0 : Int32) → rv = some (vI (-1)) ∧ hE = h17) ∧ (¬ xc24 = (0 : Int32) → (¬ x2 = x3 → (x4 < (1 : Int32) → rv = some (vI (-1)) ∧ hE = h17) ∧ (¬ x4 < (1 : Int32) → ((9 : Int32) < x4 → rv = some (vI (-1)) ∧ hE = h17) ∧ (¬ (9 : Int32) < x4 → (x5 < (0 : Int32) → rv = some (vI (-1)) ∧ hE = h17) ∧ (¬ x5 < (0 : Int32) → ((99 : Int32) < x5 → rv = some (vI (-1)) ∧ hE = h17) ∧ (¬ (99 : Int32) < x5 → (x6 < (0 : Int32) → rv = some (vI (-1)) ∧ hE = h17) ∧ (¬ x6 < (0 : Int32) → (x6 ≤ (9 : Int32) → a3 < ea_n h17 ∧ ea_c h17 a3 = 11 ∧ ∃ a29, (ea_r h17 a3 6) = some a29 ∧ a29 < ea_n h17 ∧ ea_c h17 a29 = 1 ∧ ((ea_i h17 a29 0) < (120 : Int32) → ∀ h31, h31 = ea_new h17 4 0 20 → ∃ (d33 : Nat) (h34 : ea_H), ea_Met mX4_init d33 [vR (some (ea_n h17)), vI x1, vI x2, vI x3, vI x4, vI x5, vI x6] h31 none h34 ∧ d33 + 1 ≤ d ∧ a3 < ea_n h34 ∧ ea_c h34 a3 = 11 ∧ (ea_n h17) < ea_n h34 ∧ ea_c h34 (ea_n h17) = 4 ∧ ∀ h41, h41 = ea_wi h34 (ea_n h17) 6 (ea_i h34 a3 11) → a3 < ea_n h41 ∧ ea_c h41 a3 = 11 ∧ ∃ a51, (ea_r h41 a3 0) = some a51 ∧ a51 < ea_n h41 ∧ ea_c h41 a51 = 6 ∧ ∃ (d45 : Nat) (xc53 : Int32) (h46 : ea_H), ea_Met mX6_between d45 [vR (some a51), vI x2, vI x3] h41 (some (vI xc53)) h46 ∧ d45 + 1 ≤ d ∧ ∃ (d54 : Nat) (xc58 : Int32) (h55 : ea_H), ea_Met mJ9_max_7cf53 d54 [vI xc53, vI 0] h46 (some (vI xc58)) h55 ∧ d54 + 1 ≤ d ∧ (ea_n h17) < ea_n h55 ∧ ea_c h55 (ea_n h17) = 4 ∧ ∀ h61, h61 = ea_wi h55 (ea_n h17) 7 xc58 → a3 < ea_n h61 ∧ ea_c h61 a3 = 11 ∧ ∃ a71, (ea_r h61 a3 0) = some a71 ∧ a71 < ea_n h61 ∧ ea_c h61 a71 = 6 ∧ ∃ (d65 : Nat) (xc73 : Int32) (h66 : ea_H), ea_Met mX6_isCross d65 [vR (some a71), vI x2, vI x3] h61 (some (vI xc73)) h66 ∧ d65 + 1 ≤ d ∧ (ea_n h17) < ea_n h66 ∧ ea_c h66 (ea_n h17) = 4 ∧ (xc73 = 0 ∨ xc73 = 1) ∧ ∀ h76, h76 = ea_wi h66 (ea_n h17) 8 xc73 → a3 < ea_n h76 ∧ ea_c h76 a3 = 11 ∧ ∃ a82, (ea_r h76 a3 6) = some a82 ∧ a82 < ea_n h76 ∧ ea_c h76 a82 = 1 ∧ a3 < ea_n h76 ∧ ea_c h76 a3 = 11 ∧ ∃ (d84 : Nat) (xc90 : Int32) (h85 : ea_H), ea_Met mX11_franksAhead d84 [vR (some a3), vR (some (ea_n h17))] h76 (some (vI xc90)) h85 ∧ d84 + 1 ≤ d ∧ (ea_n h17) < ea_n h85 ∧ ea_c h85 (ea_n h17) = 4 ∧ ∀ h93, h93 = ea_wi h85 (ea_n h17) 9 xc90 → a3 < ea_n h93 ∧ ea_c h93 a3 = 11 ∧ ∃ a99, (ea_r h93 a3 5) = some a99 ∧ a99 < ea_n h93 ∧ ea_c h93 a99 = 23 ∧ vp_in (ea_i h76 a82 0) (ea_l h93 a99) ∧ (ea_n h17) < ea_n h93 ∧ ea_c h93 (ea_n h17) = 4 ∧ ∀ h102, h102 = ea_wr h93 a99 (Int32.toNatClampNeg (ea_i h76 a82 0)) (some (ea_n h17)) → a3 < ea_n h102 ∧ ea_c h102 a3 = 11 ∧ ∃ a114, (ea_r h102 a3 4) = some a114 ∧ a114 < ea_n h102 ∧ ea_c h102 a114 = 8 ∧ ∃ (d108 : Nat) (h109 : ea_H), ea_Met mX8_price d108 [vR (some a114), vR (some (ea_n h17))] h102 none h109 ∧ d108 + 1 ≤ d ∧ a3 < ea_n h109 ∧ ea_c h109 a3 = 11 ∧ a3 < ea_n h109 ∧ ea_c h109 a3 = 11 ∧ ∃ a126, (ea_r h109 a3 6) = some a126 ∧ a126 < ea_n h109 ∧ ea_c h109 a126 = 1 ∧ ∃ (d120 : Nat) (h121 : ea_H), ea_Met mX1_begin d120 [vR (some a126), vI (ea_i h109 a3 11), vI x2] h109 none h121 ∧ d120 + 1 ≤ d ∧ a3 < ea_n h121 ∧ ea_c h121 a3 = 11 ∧ ∀ h130, h130 = ea_wi h121 a3 12 0 → rv = some (vI (ea_i h76 a82 0)) ∧ hE = h130) ∧ (¬ (ea_i h17 a29 0) < (120 : Int32) → rv = some (vI (-1)) ∧ hE = h17)) ∧ (¬ x6 ≤ (9 : Int32) → rv = some (vI (-1)) ∧ hE = h17))))))) ∧ (x2 = x3 → rv = some (vI (-1)) ∧ hE = h17)))))) : ea_W mX11_post d h0 rv hE 0 [(0, vR r0), (1, vI x1), (2, vI x2), (3, vI x3), (4, vI x4), (5, vI x5), (6, vI x6)] [] h := by
  refine ea_iload_n (pc := 0) dX11_post_0 rfl 1 rfl ?_
  refine ea_if_lt (pc := 1) (tgt := 36) dX11_post_1 rfl (fun c144 => ?_) (fun c144 => ?_)
  · have H := H.1 c144
    refine ea_iconst (pc := 36) dX11_post_36 (v := (-1)) rfl ?_
    obtain ⟨rfl, rfl⟩ := H
    exact ea_ireturn (pc := 37) dX11_post_37 rfl rfl
  · have H := H.2 c144
    refine ea_iload_n (pc := 4) dX11_post_4 rfl 1 rfl ?_
    refine ea_iconst (pc := 5) dX11_post_5 (v := 4) rfl ?_
    refine ea_icmp_gt (pc := 6) (tgt := 36) dX11_post_6 rfl (fun c143 => ?_) (fun c143 => ?_)
    · have H := H.1 c143
      refine ea_iconst (pc := 36) dX11_post_36 (v := (-1)) rfl ?_
      obtain ⟨rfl, rfl⟩ := H
      exact ea_ireturn (pc := 37) dX11_post_37 rfl rfl
    · have H := H.2 c143
      refine ea_aload_n (pc := 9) dX11_post_9 rfl 0 rfl ?_
      obtain ⟨a3, e4, f1, g2, H⟩ := H
      refine ea_deref0 e4 ?_
      refine ea_getR (pc := 10) dX11_post_10 ec_11 (k := 0) (Nat.le_of_ble_eq_true rfl) rfl (Or.inl ew_437) f1 g2 rfl ?_
      refine ea_iload_n (pc := 13) dX11_post_13 rfl 2 rfl ?_
      obtain ⟨a11, e12, f9, g10, H⟩ := H
      refine ea_deref1 e12 ?_
      obtain ⟨d5, xc13, h6, m7, q8, H⟩ := H
      refine ea_callV (pc := 14) (As := [vI x2]) (st := []) dX11_post_14 kX6_has m7 q8 rfl (Nat.le_of_ble_eq_true rfl) ew_494 ew_495 ew_496 (ci := 6) rfl (by decide) f9 g10 ?_
      refine ea_if_eq (pc := 17) (tgt := 36) dX11_post_17 rfl (fun c142 => ?_) (fun c142 => ?_)
      · have H := H.1 c142
        refine ea_iconst (pc := 36) dX11_post_36 (v := (-1)) rfl ?_
        obtain ⟨rfl, rfl⟩ := H
        exact ea_ireturn (pc := 37) dX11_post_37 rfl rfl
      · have H := H.2 c142
        refine ea_aload_n (pc := 20) dX11_post_20 rfl 0 rfl ?_
        obtain ⟨f14, g15, H⟩ := H
        refine ea_deref0 e4 ?_
        refine ea_getR (pc := 21) dX11_post_21 ec_11 (k := 0) (Nat.le_of_ble_eq_true rfl) rfl (Or.inl ew_437) f14 g15 rfl ?_
        refine ea_iload_n (pc := 24) dX11_post_24 rfl 3 rfl ?_
        obtain ⟨a22, e23, f20, g21, H⟩ := H
        refine ea_deref1 e23 ?_
        obtain ⟨d16, xc24, h17, m18, q19, H⟩ := H
        refine ea_callV (pc := 25) (As := [vI x3]) (st := []) dX11_post_25 kX6_has m18 q19 rfl (Nat.le_of_ble_eq_true rfl) ew_494 ew_495 ew_496 (ci := 6) rfl (by decide) f20 g21 ?_
        refine ea_if_eq (pc := 28) (tgt := 36) dX11_post_28 rfl (fun c141 => ?_) (fun c141 => ?_)
        · have H := H.1 c141
          refine ea_iconst (pc := 36) dX11_post_36 (v := (-1)) rfl ?_
          obtain ⟨rfl, rfl⟩ := H
          exact ea_ireturn (pc := 37) dX11_post_37 rfl rfl
        · have H := H.2 c141
          refine ea_iload_n (pc := 31) dX11_post_31 rfl 2 rfl ?_
          refine ea_iload_n (pc := 32) dX11_post_32 rfl 3 rfl ?_
          refine ea_icmp_ne (pc := 33) (tgt := 38) dX11_post_33 rfl (fun c140 => ?_) (fun c140 => ?_)
          · have H := H.1 c140
            refine ea_iload (pc := 38) dX11_post_38 4 rfl ?_
            refine ea_iconst (pc := 40) dX11_post_40 (v := 1) rfl ?_
            refine ea_icmp_lt (pc := 41) (tgt := 75) dX11_post_41 rfl (fun c139 => ?_) (fun c139 => ?_)
            · have H := H.1 c139
              refine ea_iconst (pc := 75) dX11_post_75 (v := (-1)) rfl ?_
              obtain ⟨rfl, rfl⟩ := H
              exact ea_ireturn (pc := 76) dX11_post_76 rfl rfl
            · have H := H.2 c139
              refine ea_iload (pc := 44) dX11_post_44 4 rfl ?_
              refine ea_bipush (pc := 46) dX11_post_46 (v := 9) rfl ?_
              refine ea_icmp_gt (pc := 48) (tgt := 75) dX11_post_48 rfl (fun c138 => ?_) (fun c138 => ?_)
              · have H := H.1 c138
                refine ea_iconst (pc := 75) dX11_post_75 (v := (-1)) rfl ?_
                obtain ⟨rfl, rfl⟩ := H
                exact ea_ireturn (pc := 76) dX11_post_76 rfl rfl
              · have H := H.2 c138
                refine ea_iload (pc := 51) dX11_post_51 5 rfl ?_
                refine ea_if_lt (pc := 53) (tgt := 75) dX11_post_53 rfl (fun c137 => ?_) (fun c137 => ?_)
                · have H := H.1 c137
                  refine ea_iconst (pc := 75) dX11_post_75 (v := (-1)) rfl ?_
                  obtain ⟨rfl, rfl⟩ := H
                  exact ea_ireturn (pc := 76) dX11_post_76 rfl rfl
                · have H := H.2 c137
                  refine ea_iload (pc := 56) dX11_post_56 5 rfl ?_
                  refine ea_bipush (pc := 58) dX11_post_58 (v := 99) rfl ?_
                  refine ea_icmp_gt (pc := 60) (tgt := 75) dX11_post_60 rfl (fun c136 => ?_) (fun c136 => ?_)
                  · have H := H.1 c136
                    refine ea_iconst (pc := 75) dX11_post_75 (v := (-1)) rfl ?_
                    obtain ⟨rfl, rfl⟩ := H
                    exact ea_ireturn (pc := 76) dX11_post_76 rfl rfl
                  · have H := H.2 c136
                    refine ea_iload (pc := 63) dX11_post_63 6 rfl ?_
                    refine ea_if_lt (pc := 65) (tgt := 75) dX11_post_65 rfl (fun c135 => ?_) (fun c135 => ?_)
                    · have H := H.1 c135
                      refine ea_iconst (pc := 75) dX11_post_75 (v := (-1)) rfl ?_
                      obtain ⟨rfl, rfl⟩ := H
                      exact ea_ireturn (pc := 76) dX11_post_76 rfl rfl
                    · have H := H.2 c135
                      refine ea_iload (pc := 68) dX11_post_68 6 rfl ?_
                      refine ea_bipush (pc := 70) dX11_post_70 (v := 9) rfl ?_
                      refine ea_icmp_le (pc := 72) (tgt := 77) dX11_post_72 rfl (fun c134 => ?_) (fun c134 => ?_)
                      · have H := H.1 c134
                        refine ea_aload_n (pc := 77) dX11_post_77 rfl 0 rfl ?_
                        obtain ⟨f25, g26, H⟩ := H
                        refine ea_deref0 e4 ?_
                        refine ea_getR (pc := 78) dX11_post_78 ec_11 (k := 6) (Nat.le_of_ble_eq_true rfl) rfl (Or.inl ew_443) f25 g26 rfl ?_
                        obtain ⟨a29, e30, f27, g28, H⟩ := H
                        refine ea_deref0 e30 ?_
                        refine ea_getI (pc := 81) dX11_post_81 ec_1 (k := 0) (Nat.le_of_ble_eq_true rfl) rfl (Or.inl ew_360) f27 g28 ?_
                        refine ea_bipush (pc := 84) dX11_post_84 (v := 120) rfl ?_
                        refine ea_icmp_lt (pc := 86) (tgt := 91) dX11_post_86 rfl (fun c133 => ?_) (fun c133 => ?_)
                        · have H := H.1 c133
                          refine ea_newO (pc := 91) dX11_post_91 ec_4 ew_351 ew_928 ew_126 ?_
                          obtain ⟨h31, E32⟩ : ∃ z, z = ea_new h17 4 0 20 := ⟨_, rfl⟩
                          have H := H h31 E32
                          refine ea_nm E32 ?_
                          refine ea_dup (pc := 94) dX11_post_94 rfl ?_
                          refine ea_iload_n (pc := 95) dX11_post_95 rfl 1 rfl ?_
                          refine ea_iload_n (pc := 96) dX11_post_96 rfl 2 rfl ?_
                          refine ea_iload_n (pc := 97) dX11_post_97 rfl 3 rfl ?_
                          refine ea_iload (pc := 98) dX11_post_98 4 rfl ?_
                          refine ea_iload (pc := 100) dX11_post_100 5 rfl ?_
                          refine ea_iload (pc := 102) dX11_post_102 6 rfl ?_
                          obtain ⟨d33, h34, m35, q36, H⟩ := H
                          refine ea_callI (pc := 104) (As := [vI x1, vI x2, vI x3, vI x4, vI x5, vI x6]) (st := [vR (some (ea_n h17))]) dX11_post_104 kX4_init m35 q36 rfl (Nat.le_of_ble_eq_true rfl) ew_929 ew_930 rfl rfl ?_
                          refine ea_astore (pc := 107) (lv' := [(0, vR r0), (2, vI x2), (3, vI x3), (7, vR (some (ea_n h17)))]) dX11_post_107 (Nat.le_of_ble_eq_true rfl) [1, 3, 4, 0] rfl ?_
                          refine ea_aload (pc := 109) dX11_post_109 3 rfl ?_
                          refine ea_aload_n (pc := 111) dX11_post_111 rfl 0 rfl ?_
                          obtain ⟨f37, g38, H⟩ := H
                          refine ea_deref0 e4 ?_
                          refine ea_getI (pc := 112) dX11_post_112 ec_11 (k := 11) (Nat.le_of_ble_eq_true rfl) rfl (Or.inl ew_448) f37 g38 ?_
                          obtain ⟨f39, g40, H⟩ := H
                          refine ea_putI (pc := 115) dX11_post_115 ec_4 (k := 6) (Nat.le_of_ble_eq_true rfl) rfl (Or.inl ⟨rfl, Or.inl ew_951⟩) rfl rfl f39 g40 ?_
                          obtain ⟨h41, E42⟩ : ∃ z, z = ea_wi h34 (ea_n h17) 6 (ea_i h34 a3 11) := ⟨_, rfl⟩
                          have H := H h41 E42
                          refine ea_nm E42 ?_
                          refine ea_aload (pc := 118) dX11_post_118 3 rfl ?_
                          refine ea_aload_n (pc := 120) dX11_post_120 rfl 0 rfl ?_
                          obtain ⟨f43, g44, H⟩ := H
                          refine ea_deref0 e4 ?_
                          refine ea_getR (pc := 121) dX11_post_121 ec_11 (k := 0) (Nat.le_of_ble_eq_true rfl) rfl (Or.inl ew_437) f43 g44 rfl ?_
                          refine ea_iload_n (pc := 124) dX11_post_124 rfl 1 rfl ?_
                          refine ea_iload_n (pc := 125) dX11_post_125 rfl 2 rfl ?_
                          obtain ⟨a51, e52, f49, g50, H⟩ := H
                          refine ea_deref2 e52 ?_
                          obtain ⟨d45, xc53, h46, m47, q48, H⟩ := H
                          refine ea_callV (pc := 126) (As := [vI x2, vI x3]) (st := [vR (some (ea_n h17))]) dX11_post_126 kX6_between m47 q48 rfl (Nat.le_of_ble_eq_true rfl) ew_506 ew_507 ew_508 (ci := 6) rfl (by decide) f49 g50 ?_
                          refine ea_iconst (pc := 129) dX11_post_129 (v := 0) rfl ?_
                          obtain ⟨d54, xc58, h55, m56, q57, H⟩ := H
                          refine ea_callS (pc := 130) (As := [vI xc53, vI 0]) (st := [vR (some (ea_n h17))]) dX11_post_130 kJ9_max_7cf53 m56 q57 rfl (Nat.le_of_ble_eq_true rfl) ew_1021 ew_1022 ?_
                          obtain ⟨f59, g60, H⟩ := H
                          refine ea_putI (pc := 133) dX11_post_133 ec_4 (k := 7) (Nat.le_of_ble_eq_true rfl) rfl (Or.inl ⟨rfl, Or.inl ew_953⟩) rfl rfl f59 g60 ?_
                          obtain ⟨h61, E62⟩ : ∃ z, z = ea_wi h55 (ea_n h17) 7 xc58 := ⟨_, rfl⟩
                          have H := H h61 E62
                          refine ea_nm E62 ?_
                          refine ea_aload (pc := 136) dX11_post_136 3 rfl ?_
                          refine ea_aload_n (pc := 138) dX11_post_138 rfl 0 rfl ?_
                          obtain ⟨f63, g64, H⟩ := H
                          refine ea_deref0 e4 ?_
                          refine ea_getR (pc := 139) dX11_post_139 ec_11 (k := 0) (Nat.le_of_ble_eq_true rfl) rfl (Or.inl ew_437) f63 g64 rfl ?_
                          refine ea_iload_n (pc := 142) dX11_post_142 rfl 1 rfl ?_
                          refine ea_iload_n (pc := 143) dX11_post_143 rfl 2 rfl ?_
                          obtain ⟨a71, e72, f69, g70, H⟩ := H
                          refine ea_deref2 e72 ?_
                          obtain ⟨d65, xc73, h66, m67, q68, H⟩ := H
                          refine ea_callV (pc := 144) (As := [vI x2, vI x3]) (st := [vR (some (ea_n h17))]) dX11_post_144 kX6_isCross m67 q68 rfl (Nat.le_of_ble_eq_true rfl) ew_1024 ew_1025 ew_1026 (ci := 6) rfl (by decide) f69 g70 ?_
                          obtain ⟨f74, g75, H⟩ := H
                          obtain ⟨z132, H⟩ := H
                          refine ea_putI (pc := 147) dX11_post_147 ec_4 (k := 8) (Nat.le_of_ble_eq_true rfl) rfl (Or.inl ⟨rfl, Or.inl ew_955⟩) (ea_bn z132) (ea_bf z132) f74 g75 ?_
                          obtain ⟨h76, E77⟩ : ∃ z, z = ea_wi h66 (ea_n h17) 8 xc73 := ⟨_, rfl⟩
                          have H := H h76 E77
                          refine ea_nm E77 ?_
                          refine ea_aload_n (pc := 150) dX11_post_150 rfl 0 rfl ?_
                          obtain ⟨f78, g79, H⟩ := H
                          refine ea_deref0 e4 ?_
                          refine ea_getR (pc := 151) dX11_post_151 ec_11 (k := 6) (Nat.le_of_ble_eq_true rfl) rfl (Or.inl ew_443) f78 g79 rfl ?_
                          obtain ⟨a82, e83, f80, g81, H⟩ := H
                          refine ea_deref0 e83 ?_
                          refine ea_getI (pc := 154) dX11_post_154 ec_1 (k := 0) (Nat.le_of_ble_eq_true rfl) rfl (Or.inl ew_360) f80 g81 ?_
                          refine ea_istore (pc := 157) (lv' := [(0, vR r0), (2, vI x2), (7, vR (some (ea_n h17))), (8, vI (ea_i h76 a82 0))]) dX11_post_157 (Nat.le_of_ble_eq_true rfl) [1, 2, 4, 0] rfl ?_
                          refine ea_aload (pc := 159) dX11_post_159 2 rfl ?_
                          refine ea_aload_n (pc := 161) dX11_post_161 rfl 0 rfl ?_
                          refine ea_aload (pc := 162) dX11_post_162 2 rfl ?_
                          obtain ⟨f88, g89, H⟩ := H
                          refine ea_deref1 e4 ?_
                          obtain ⟨d84, xc90, h85, m86, q87, H⟩ := H
                          refine ea_callV (pc := 164) (As := [vR (some (ea_n h17))]) (st := [vR (some (ea_n h17))]) dX11_post_164 kX11_franksAhead m86 q87 rfl (Nat.le_of_ble_eq_true rfl) ew_1028 ew_1030 ew_33 (ci := 11) rfl (by decide) f88 g89 ?_
                          obtain ⟨f91, g92, H⟩ := H
                          refine ea_putI (pc := 167) dX11_post_167 ec_4 (k := 9) (Nat.le_of_ble_eq_true rfl) rfl (Or.inl ⟨rfl, Or.inl ew_957⟩) rfl rfl f91 g92 ?_
                          obtain ⟨h93, E94⟩ : ∃ z, z = ea_wi h85 (ea_n h17) 9 xc90 := ⟨_, rfl⟩
                          have H := H h93 E94
                          refine ea_nm E94 ?_
                          refine ea_aload_n (pc := 170) dX11_post_170 rfl 0 rfl ?_
                          obtain ⟨f95, g96, H⟩ := H
                          refine ea_deref0 e4 ?_
                          refine ea_getR (pc := 171) dX11_post_171 ec_11 (k := 5) (Nat.le_of_ble_eq_true rfl) rfl (Or.inl ew_442) f95 g96 rfl ?_
                          refine ea_iload (pc := 174) dX11_post_174 3 rfl ?_
                          refine ea_aload (pc := 176) dX11_post_176 2 rfl ?_
                          obtain ⟨a99, e100, f97, g98, H⟩ := H
                          refine ea_deref2 e100 ?_
                          obtain ⟨z101, H⟩ := H
                          obtain ⟨f104, g105, H⟩ := H
                          refine ea_aast23 (pc := 178) dX11_post_178 f97 g98 z101 f104 g105 ?_
                          obtain ⟨h102, E103⟩ : ∃ z, z = ea_wr h93 a99 (Int32.toNatClampNeg (ea_i h76 a82 0)) (some (ea_n h17)) := ⟨_, rfl⟩
                          have H := H h102 E103
                          refine ea_nm E103 ?_
                          refine ea_aload_n (pc := 179) dX11_post_179 rfl 0 rfl ?_
                          obtain ⟨f106, g107, H⟩ := H
                          refine ea_deref0 e4 ?_
                          refine ea_getR (pc := 180) dX11_post_180 ec_11 (k := 4) (Nat.le_of_ble_eq_true rfl) rfl (Or.inl ew_441) f106 g107 rfl ?_
                          refine ea_aload (pc := 183) dX11_post_183 2 rfl ?_
                          obtain ⟨a114, e115, f112, g113, H⟩ := H
                          refine ea_deref1 e115 ?_
                          obtain ⟨d108, h109, m110, q111, H⟩ := H
                          refine ea_callV (pc := 185) (As := [vR (some (ea_n h17))]) (st := []) dX11_post_185 kX8_price m110 q111 rfl (Nat.le_of_ble_eq_true rfl) ew_1036 ew_1037 ew_1038 (ci := 8) rfl (by decide) f112 g113 ?_
                          refine ea_aload_n (pc := 188) dX11_post_188 rfl 0 rfl ?_
                          obtain ⟨f116, g117, H⟩ := H
                          refine ea_deref0 e4 ?_
                          refine ea_getR (pc := 189) dX11_post_189 ec_11 (k := 6) (Nat.le_of_ble_eq_true rfl) rfl (Or.inl ew_443) f116 g117 rfl ?_
                          refine ea_aload_n (pc := 192) dX11_post_192 rfl 0 rfl ?_
                          obtain ⟨f118, g119, H⟩ := H
                          refine ea_deref0 e4 ?_
                          refine ea_getI (pc := 193) dX11_post_193 ec_11 (k := 11) (Nat.le_of_ble_eq_true rfl) rfl (Or.inl ew_448) f118 g119 ?_
                          refine ea_iload_n (pc := 196) dX11_post_196 rfl 1 rfl ?_
                          obtain ⟨a126, e127, f124, g125, H⟩ := H
                          refine ea_deref2 e127 ?_
                          obtain ⟨d120, h121, m122, q123, H⟩ := H
                          refine ea_callV (pc := 197) (As := [vI (ea_i h109 a3 11), vI x2]) (st := []) dX11_post_197 kX1_begin m122 q123 rfl (Nat.le_of_ble_eq_true rfl) ew_1068 ew_1069 ew_1070 (ci := 1) rfl (by decide) f124 g125 ?_
                          refine ea_aload_n (pc := 200) dX11_post_200 rfl 0 rfl ?_
                          refine ea_iconst (pc := 201) dX11_post_201 (v := 0) rfl ?_
                          obtain ⟨f128, g129, H⟩ := H
                          refine ea_deref1 e4 ?_
                          refine ea_putI (pc := 202) dX11_post_202 ec_11 (k := 12) (Nat.le_of_ble_eq_true rfl) rfl (Or.inl ⟨rfl, Or.inl ew_449⟩) (ea_bn (Or.inl rfl)) (ea_bf (Or.inl rfl)) f128 g129 ?_
                          obtain ⟨h130, E131⟩ : ∃ z, z = ea_wi h121 a3 12 0 := ⟨_, rfl⟩
                          have H := H h130 E131
                          refine ea_nm E131 ?_
                          refine ea_iload (pc := 205) dX11_post_205 3 rfl ?_
                          obtain ⟨rfl, rfl⟩ := H
                          exact ea_ireturn (pc := 207) dX11_post_207 rfl rfl
                        · have H := H.2 c133
                          refine ea_iconst (pc := 89) dX11_post_89 (v := (-1)) rfl ?_
                          obtain ⟨rfl, rfl⟩ := H
                          exact ea_ireturn (pc := 90) dX11_post_90 rfl rfl
                      · have H := H.2 c134
                        refine ea_iconst (pc := 75) dX11_post_75 (v := (-1)) rfl ?_
                        obtain ⟨rfl, rfl⟩ := H
                        exact ea_ireturn (pc := 76) dX11_post_76 rfl rfl
          · have H := H.2 c140
            refine ea_iconst (pc := 36) dX11_post_36 (v := (-1)) rfl ?_
            obtain ⟨rfl, rfl⟩ := H
            exact ea_ireturn (pc := 37) dX11_post_37 rfl rfl
theorem dX11_of_0 : decode cX11_of 0 = .ok (.aload_n 0, 1) := by decide +kernel
theorem dX11_of_1 : decode cX11_of 1 = .ok (.iload_n 1, 1) := by decide +kernel
theorem dX11_of_2 : decode cX11_of 2 = .ok (.invokevirtual 251, 3) := by decide +kernel
theorem dX11_of_5 : decode cX11_of 5 = .ok (.astore_n 3, 1) := by decide +kernel
theorem dX11_of_6 : decode cX11_of 6 = .ok (.aload_n 3, 1) := by decide +kernel
theorem dX11_of_7 : decode cX11_of 7 = .ok (.ifnonnull 5, 3) := by decide +kernel
theorem dX11_of_10 : decode cX11_of 10 = .ok (.iconst (-1), 1) := by decide +kernel
theorem dX11_of_11 : decode cX11_of 11 = .ok (.ireturn, 1) := by decide +kernel
theorem dX11_of_12 : decode cX11_of 12 = .ok (.aload_n 0, 1) := by decide +kernel
theorem dX11_of_13 : decode cX11_of 13 = .ok (.getfield 57, 3) := by decide +kernel
theorem dX11_of_16 : decode cX11_of 16 = .ok (.getfield 255, 3) := by decide +kernel
theorem dX11_of_19 : decode cX11_of 19 = .ok (.iload_n 1, 1) := by decide +kernel
theorem dX11_of_20 : decode cX11_of 20 = .ok (.iaload, 1) := by decide +kernel
theorem dX11_of_21 : decode cX11_of 21 = .ok (.iconst 1, 1) := by decide +kernel
theorem dX11_of_22 : decode cX11_of 22 = .ok (.if_icmp .ne 7, 3) := by decide +kernel
theorem dX11_of_25 : decode cX11_of 25 = .ok (.iconst 1, 1) := by decide +kernel
theorem dX11_of_26 : decode cX11_of 26 = .ok (.goto 4, 3) := by decide +kernel
theorem dX11_of_29 : decode cX11_of 29 = .ok (.iconst 0, 1) := by decide +kernel
theorem dX11_of_30 : decode cX11_of 30 = .ok (.istore 4, 2) := by decide +kernel
theorem dX11_of_32 : decode cX11_of 32 = .ok (.iload_n 2, 1) := by decide +kernel
theorem dX11_of_33 : decode cX11_of 33 = .ok (.tableswitch 187 0 12 #[67, 72, 77, 82, 87, 92, 97, 102, 112, 122, 135, 158, 177], 67) := by decide +kernel
theorem dX11_of_100 : decode cX11_of 100 = .ok (.aload_n 3, 1) := by decide +kernel
theorem dX11_of_101 : decode cX11_of 101 = .ok (.getfield 258, 3) := by decide +kernel
theorem dX11_of_104 : decode cX11_of 104 = .ok (.ireturn, 1) := by decide +kernel
theorem dX11_of_105 : decode cX11_of 105 = .ok (.aload_n 3, 1) := by decide +kernel
theorem dX11_of_106 : decode cX11_of 106 = .ok (.getfield 261, 3) := by decide +kernel
theorem dX11_of_109 : decode cX11_of 109 = .ok (.ireturn, 1) := by decide +kernel
theorem dX11_of_110 : decode cX11_of 110 = .ok (.aload_n 3, 1) := by decide +kernel
theorem dX11_of_111 : decode cX11_of 111 = .ok (.getfield 264, 3) := by decide +kernel
theorem dX11_of_114 : decode cX11_of 114 = .ok (.ireturn, 1) := by decide +kernel
theorem dX11_of_115 : decode cX11_of 115 = .ok (.aload_n 3, 1) := by decide +kernel
theorem dX11_of_116 : decode cX11_of 116 = .ok (.getfield 267, 3) := by decide +kernel
theorem dX11_of_119 : decode cX11_of 119 = .ok (.ireturn, 1) := by decide +kernel
theorem dX11_of_120 : decode cX11_of 120 = .ok (.aload_n 3, 1) := by decide +kernel
theorem dX11_of_121 : decode cX11_of 121 = .ok (.getfield 270, 3) := by decide +kernel
theorem dX11_of_124 : decode cX11_of 124 = .ok (.ireturn, 1) := by decide +kernel
theorem dX11_of_125 : decode cX11_of 125 = .ok (.aload_n 3, 1) := by decide +kernel
theorem dX11_of_126 : decode cX11_of 126 = .ok (.getfield 273, 3) := by decide +kernel
theorem dX11_of_129 : decode cX11_of 129 = .ok (.ireturn, 1) := by decide +kernel
theorem dX11_of_130 : decode cX11_of 130 = .ok (.aload_n 3, 1) := by decide +kernel
theorem dX11_of_131 : decode cX11_of 131 = .ok (.getfield 221, 3) := by decide +kernel
theorem dX11_of_134 : decode cX11_of 134 = .ok (.ireturn, 1) := by decide +kernel
theorem dX11_of_135 : decode cX11_of 135 = .ok (.aload_n 0, 1) := by decide +kernel
theorem dX11_of_136 : decode cX11_of 136 = .ok (.getfield 57, 3) := by decide +kernel
theorem dX11_of_139 : decode cX11_of 139 = .ok (.getfield 255, 3) := by decide +kernel
theorem dX11_of_142 : decode cX11_of 142 = .ok (.iload_n 1, 1) := by decide +kernel
theorem dX11_of_143 : decode cX11_of 143 = .ok (.iaload, 1) := by decide +kernel
theorem dX11_of_144 : decode cX11_of 144 = .ok (.ireturn, 1) := by decide +kernel
theorem dX11_of_145 : decode cX11_of 145 = .ok (.aload_n 0, 1) := by decide +kernel
theorem dX11_of_146 : decode cX11_of 146 = .ok (.getfield 57, 3) := by decide +kernel
theorem dX11_of_149 : decode cX11_of 149 = .ok (.getfield 276, 3) := by decide +kernel
theorem dX11_of_152 : decode cX11_of 152 = .ok (.iload_n 1, 1) := by decide +kernel
theorem dX11_of_153 : decode cX11_of 153 = .ok (.iaload, 1) := by decide +kernel
theorem dX11_of_154 : decode cX11_of 154 = .ok (.ireturn, 1) := by decide +kernel
theorem dX11_of_155 : decode cX11_of 155 = .ok (.aload_n 3, 1) := by decide +kernel
theorem dX11_of_156 : decode cX11_of 156 = .ok (.getfield 235, 3) := by decide +kernel
theorem dX11_of_159 : decode cX11_of 159 = .ok (.ifCond .eq 7, 3) := by decide +kernel
theorem dX11_of_162 : decode cX11_of 162 = .ok (.iconst 1, 1) := by decide +kernel
theorem dX11_of_163 : decode cX11_of 163 = .ok (.goto 4, 3) := by decide +kernel
theorem dX11_of_166 : decode cX11_of 166 = .ok (.iconst 0, 1) := by decide +kernel
theorem dX11_of_167 : decode cX11_of 167 = .ok (.ireturn, 1) := by decide +kernel
theorem dX11_of_168 : decode cX11_of 168 = .ok (.iload 4, 2) := by decide +kernel
theorem dX11_of_170 : decode cX11_of 170 = .ok (.ifCond .eq 19, 3) := by decide +kernel
theorem dX11_of_173 : decode cX11_of 173 = .ok (.aload_n 0, 1) := by decide +kernel
theorem dX11_of_174 : decode cX11_of 174 = .ok (.getfield 57, 3) := by decide +kernel
theorem dX11_of_177 : decode cX11_of 177 = .ok (.getfield 279, 3) := by decide +kernel
theorem dX11_of_180 : decode cX11_of 180 = .ok (.iload_n 1, 1) := by decide +kernel
theorem dX11_of_181 : decode cX11_of 181 = .ok (.baload, 1) := by decide +kernel
theorem dX11_of_182 : decode cX11_of 182 = .ok (.ifCond .eq 7, 3) := by decide +kernel
theorem dX11_of_185 : decode cX11_of 185 = .ok (.iconst 1, 1) := by decide +kernel
theorem dX11_of_186 : decode cX11_of 186 = .ok (.goto 4, 3) := by decide +kernel
theorem dX11_of_189 : decode cX11_of 189 = .ok (.iconst 0, 1) := by decide +kernel
theorem dX11_of_190 : decode cX11_of 190 = .ok (.ireturn, 1) := by decide +kernel
theorem dX11_of_191 : decode cX11_of 191 = .ok (.iload 4, 2) := by decide +kernel
theorem dX11_of_193 : decode cX11_of 193 = .ok (.ifCond .eq 15, 3) := by decide +kernel
theorem dX11_of_196 : decode cX11_of 196 = .ok (.aload_n 0, 1) := by decide +kernel
theorem dX11_of_197 : decode cX11_of 197 = .ok (.getfield 57, 3) := by decide +kernel
theorem dX11_of_200 : decode cX11_of 200 = .ok (.getfield 282, 3) := by decide +kernel
theorem dX11_of_203 : decode cX11_of 203 = .ok (.iload_n 1, 1) := by decide +kernel
theorem dX11_of_204 : decode cX11_of 204 = .ok (.iaload, 1) := by decide +kernel
theorem dX11_of_205 : decode cX11_of 205 = .ok (.goto 4, 3) := by decide +kernel
theorem dX11_of_208 : decode cX11_of 208 = .ok (.iconst (-1), 1) := by decide +kernel
theorem dX11_of_209 : decode cX11_of 209 = .ok (.ireturn, 1) := by decide +kernel
theorem dX11_of_210 : decode cX11_of 210 = .ok (.aload_n 0, 1) := by decide +kernel
theorem dX11_of_211 : decode cX11_of 211 = .ok (.getfield 57, 3) := by decide +kernel
theorem dX11_of_214 : decode cX11_of 214 = .ok (.getfield 285, 3) := by decide +kernel
theorem dX11_of_217 : decode cX11_of 217 = .ok (.iload_n 1, 1) := by decide +kernel
theorem dX11_of_218 : decode cX11_of 218 = .ok (.iaload, 1) := by decide +kernel
theorem dX11_of_219 : decode cX11_of 219 = .ok (.ireturn, 1) := by decide +kernel
theorem dX11_of_220 : decode cX11_of 220 = .ok (.iconst (-1), 1) := by decide +kernel
theorem dX11_of_221 : decode cX11_of 221 = .ok (.ireturn, 1) := by decide +kernel
theorem bX11_of_0 {d : Nat} {h0 hE h : ea_H} {rv : Option ea_V} {r0 : Option Nat} {x1 : Int32} {x2 : Int32} (H : ∃ a7, r0 = some a7 ∧ a7 < ea_n h ∧ ea_c h a7 = 11 ∧ ∃ (d1 : Nat) (rc9 : Option Nat) (h2 : ea_H), ea_Met mX11_letterOf d1 [vR (some a7), vI x1] h (some (vR rc9)) h2 ∧ d1 + 1 ≤ d ∧ (∀ a10, rc9 = some a10 → a7 < ea_n h2 ∧ ea_c h2 a7 = 11 ∧ ∃ a16, (ea_r h2 a7 6) = some a16 ∧ a16 < ea_n h2 ∧ ea_c h2 a16 = 1 ∧ ∃ a20, (ea_r h2 a16 1) = some a20 ∧ a20 < ea_n h2 ∧ ea_c h2 a20 = 20 ∧ vp_in x1 (ea_l h2 a20) ∧ (¬ (ea_i h2 a20 (Int32.toNatClampNeg x1)) = (1 : Int32) → ea_W mX11_of d h0 rv hE 30 [(0, vR r0), (1, vI x1), (2, vI x2), (3, vR rc9)] [vI 0] h2) ∧ ((ea_i h2 a20 (Int32.toNatClampNeg x1)) = (1 : Int32) → ea_W mX11_of d h0 rv hE 30 [(0, vR r0), (1, vI x1), (2, vI x2), (3, vR rc9)] [vI 1] h2)) ∧ (rc9 = none → rv = some (vI (-1)) ∧ hE = h2)) : ea_W mX11_of d h0 rv hE 0 [(0, vR r0), (1, vI x1), (2, vI x2)] [] h := by
  refine ea_aload_n (pc := 0) dX11_of_0 rfl 0 rfl ?_
  refine ea_iload_n (pc := 1) dX11_of_1 rfl 1 rfl ?_
  obtain ⟨a7, e8, f5, g6, H⟩ := H
  refine ea_deref1 e8 ?_
  obtain ⟨d1, rc9, h2, m3, q4, H⟩ := H
  refine ea_callV (pc := 2) (As := [vI x1]) (st := []) dX11_of_2 kX11_letterOf m3 q4 rfl (Nat.le_of_ble_eq_true rfl) ew_1076 ew_1078 ew_37 (ci := 11) rfl (by decide) f5 g6 ?_
  refine ea_astore_n (pc := 5) (lv' := [(0, vR r0), (1, vI x1), (2, vI x2), (3, vR rc9)]) dX11_of_5 rfl (Nat.le_of_ble_eq_true rfl) [1, 2, 3, 0] rfl ?_
  refine ea_aload_n (pc := 6) dX11_of_6 rfl 3 rfl ?_
  refine ea_ifnonnull (pc := 7) (tgt := 12) dX11_of_7 rfl (fun a10 e11 => ?_) (fun e11 => ?_)
  · have H := H.1 a10 e11
    refine ea_aload_n (pc := 12) dX11_of_12 rfl 0 rfl ?_
    obtain ⟨f12, g13, H⟩ := H
    refine ea_deref0 e8 ?_
    refine ea_getR (pc := 13) dX11_of_13 ec_11 (k := 6) (Nat.le_of_ble_eq_true rfl) rfl (Or.inl ew_443) f12 g13 rfl ?_
    obtain ⟨a16, e17, f14, g15, H⟩ := H
    refine ea_deref0 e17 ?_
    refine ea_getR (pc := 16) dX11_of_16 ec_1 (k := 1) (Nat.le_of_ble_eq_true rfl) rfl (Or.inl ew_362) f14 g15 rfl ?_
    refine ea_iload_n (pc := 19) dX11_of_19 rfl 1 rfl ?_
    obtain ⟨a20, e21, f18, g19, H⟩ := H
    refine ea_deref1 e21 ?_
    obtain ⟨z22, H⟩ := H
    refine ea_iald (pc := 20) dX11_of_20 f18 g19 z22 ?_
    refine ea_iconst (pc := 21) dX11_of_21 (v := 1) rfl ?_
    refine ea_icmp_ne (pc := 22) (tgt := 29) dX11_of_22 rfl (fun c23 => ?_) (fun c23 => ?_)
    · have H := H.1 c23
      refine ea_iconst (pc := 29) dX11_of_29 (v := 0) rfl ?_
      exact H
    · have H := H.2 c23
      refine ea_iconst (pc := 25) dX11_of_25 (v := 1) rfl ?_
      refine ea_goto (pc := 26) (tgt := 30) dX11_of_26 rfl ?_
      exact H
  · have H := H.2 e11
    refine ea_iconst (pc := 10) dX11_of_10 (v := (-1)) rfl ?_
    obtain ⟨rfl, rfl⟩ := H
    exact ea_ireturn (pc := 11) dX11_of_11 rfl rfl
theorem bX11_of_30 {d : Nat} {h0 hE h : ea_H} {rv : Option ea_V} {r0 : Option Nat} {x1 : Int32} {x2 : Int32} {r3 : Option Nat} {sx0 : Int32} (H : (Int32.toInt x2 = 0 → ∃ a3, r3 = some a3 ∧ a3 < ea_n h ∧ ea_c h a3 = 4 ∧ rv = some (vI (ea_i h a3 0)) ∧ hE = h) ∧ (Int32.toInt x2 = 1 → ∃ a7, r3 = some a7 ∧ a7 < ea_n h ∧ ea_c h a7 = 4 ∧ rv = some (vI (ea_i h a7 1)) ∧ hE = h) ∧ (Int32.toInt x2 = 2 → ∃ a11, r3 = some a11 ∧ a11 < ea_n h ∧ ea_c h a11 = 4 ∧ rv = some (vI (ea_i h a11 2)) ∧ hE = h) ∧ (Int32.toInt x2 = 3 → ∃ a15, r3 = some a15 ∧ a15 < ea_n h ∧ ea_c h a15 = 4 ∧ rv = some (vI (ea_i h a15 3)) ∧ hE = h) ∧ (Int32.toInt x2 = 4 → ∃ a19, r3 = some a19 ∧ a19 < ea_n h ∧ ea_c h a19 = 4 ∧ rv = some (vI (ea_i h a19 4)) ∧ hE = h) ∧ (Int32.toInt x2 = 5 → ∃ a23, r3 = some a23 ∧ a23 < ea_n h ∧ ea_c h a23 = 4 ∧ rv = some (vI (ea_i h a23 5)) ∧ hE = h) ∧ (Int32.toInt x2 = 6 → ∃ a27, r3 = some a27 ∧ a27 < ea_n h ∧ ea_c h a27 = 4 ∧ rv = some (vI (ea_i h a27 6)) ∧ hE = h) ∧ (Int32.toInt x2 = 7 → ∃ a31, r0 = some a31 ∧ a31 < ea_n h ∧ ea_c h a31 = 11 ∧ ∃ a35, (ea_r h a31 6) = some a35 ∧ a35 < ea_n h ∧ ea_c h a35 = 1 ∧ ∃ a39, (ea_r h a35 1) = some a39 ∧ a39 < ea_n h ∧ ea_c h a39 = 20 ∧ vp_in x1 (ea_l h a39) ∧ rv = some (vI (ea_i h a39 (Int32.toNatClampNeg x1))) ∧ hE = h) ∧ (Int32.toInt x2 = 8 → ∃ a44, r0 = some a44 ∧ a44 < ea_n h ∧ ea_c h a44 = 11 ∧ ∃ a48, (ea_r h a44 6) = some a48 ∧ a48 < ea_n h ∧ ea_c h a48 = 1 ∧ ∃ a52, (ea_r h a48 2) = some a52 ∧ a52 < ea_n h ∧ ea_c h a52 = 20 ∧ vp_in x1 (ea_l h a52) ∧ rv = some (vI (ea_i h a52 (Int32.toNatClampNeg x1))) ∧ hE = h) ∧ (Int32.toInt x2 = 9 → ∃ a57, r3 = some a57 ∧ a57 < ea_n h ∧ ea_c h a57 = 4 ∧ ((ea_i h a57 8) = (0 : Int32) → rv = some (vI 0) ∧ hE = h) ∧ (¬ (ea_i h a57 8) = (0 : Int32) → rv = some (vI 1) ∧ hE = h)) ∧ (Int32.toInt x2 = 10 → (sx0 = (0 : Int32) → rv = some (vI 0) ∧ hE = h) ∧ (¬ sx0 = (0 : Int32) → ∃ a62, r0 = some a62 ∧ a62 < ea_n h ∧ ea_c h a62 = 11 ∧ ∃ a66, (ea_r h a62 6) = some a66 ∧ a66 < ea_n h ∧ ea_c h a66 = 1 ∧ ∃ a70, (ea_r h a66 5) = some a70 ∧ a70 < ea_n h ∧ ea_c h a70 = 21 ∧ vp_in x1 (ea_l h a70) ∧ ((ea_i h a70 (Int32.toNatClampNeg x1)) = (0 : Int32) → rv = some (vI 0) ∧ hE = h) ∧ (¬ (ea_i h a70 (Int32.toNatClampNeg x1)) = (0 : Int32) → rv = some (vI 1) ∧ hE = h))) ∧ (Int32.toInt x2 = 11 → (sx0 = (0 : Int32) → rv = some (vI (-1)) ∧ hE = h) ∧ (¬ sx0 = (0 : Int32) → ∃ a77, r0 = some a77 ∧ a77 < ea_n h ∧ ea_c h a77 = 11 ∧ ∃ a81, (ea_r h a77 6) = some a81 ∧ a81 < ea_n h ∧ ea_c h a81 = 1 ∧ ∃ a85, (ea_r h a81 3) = some a85 ∧ a85 < ea_n h ∧ ea_c h a85 = 20 ∧ vp_in x1 (ea_l h a85) ∧ rv = some (vI (ea_i h a85 (Int32.toNatClampNeg x1))) ∧ hE = h)) ∧ (Int32.toInt x2 = 12 → ∃ a91, r0 = some a91 ∧ a91 < ea_n h ∧ ea_c h a91 = 11 ∧ ∃ a95, (ea_r h a91 6) = some a95 ∧ a95 < ea_n h ∧ ea_c h a95 = 1 ∧ ∃ a99, (ea_r h a95 4) = some a99 ∧ a99 < ea_n h ∧ ea_c h a99 = 20 ∧ vp_in x1 (ea_l h a99) ∧ rv = some (vI (ea_i h a99 (Int32.toNatClampNeg x1))) ∧ hE = h) ∧ (Int32.toInt x2 < 0 ∨ 12 < Int32.toInt x2 → rv = some (vI (-1)) ∧ hE = h)) : ea_W mX11_of d h0 rv hE 30 [(0, vR r0), (1, vI x1), (2, vI x2), (3, vR r3)] [vI sx0] h := by
  refine ea_istore (pc := 30) (lv' := [(0, vR r0), (1, vI x1), (2, vI x2), (3, vR r3), (4, vI sx0)]) dX11_of_30 (Nat.le_of_ble_eq_true rfl) [1, 2, 3, 4, 0] rfl ?_
  refine ea_iload_n (pc := 32) dX11_of_32 rfl 2 rfl ?_
  by_cases qc1 : Int32.toInt x2 = 0
  · have H := H.1 qc1
    refine ea_tswIn (pc := 33) (tgt := 100) dX11_of_33 (by omega) (by omega) (by rw [qc1]; rfl) rfl ?_
    refine ea_aload_n (pc := 100) dX11_of_100 rfl 3 rfl ?_
    obtain ⟨a3, e4, f1, g2, H⟩ := H
    refine ea_deref0 e4 ?_
    refine ea_getI (pc := 101) dX11_of_101 ec_4 (k := 0) (Nat.le_of_ble_eq_true rfl) rfl (Or.inl ew_935) f1 g2 ?_
    obtain ⟨rfl, rfl⟩ := H
    exact ea_ireturn (pc := 104) dX11_of_104 rfl rfl
  by_cases qc2 : Int32.toInt x2 = 1
  · have H := H.2.1 qc2
    refine ea_tswIn (pc := 33) (tgt := 105) dX11_of_33 (by omega) (by omega) (by rw [qc2]; rfl) rfl ?_
    refine ea_aload_n (pc := 105) dX11_of_105 rfl 3 rfl ?_
    obtain ⟨a7, e8, f5, g6, H⟩ := H
    refine ea_deref0 e8 ?_
    refine ea_getI (pc := 106) dX11_of_106 ec_4 (k := 1) (Nat.le_of_ble_eq_true rfl) rfl (Or.inl ew_937) f5 g6 ?_
    obtain ⟨rfl, rfl⟩ := H
    exact ea_ireturn (pc := 109) dX11_of_109 rfl rfl
  by_cases qc3 : Int32.toInt x2 = 2
  · have H := H.2.2.1 qc3
    refine ea_tswIn (pc := 33) (tgt := 110) dX11_of_33 (by omega) (by omega) (by rw [qc3]; rfl) rfl ?_
    refine ea_aload_n (pc := 110) dX11_of_110 rfl 3 rfl ?_
    obtain ⟨a11, e12, f9, g10, H⟩ := H
    refine ea_deref0 e12 ?_
    refine ea_getI (pc := 111) dX11_of_111 ec_4 (k := 2) (Nat.le_of_ble_eq_true rfl) rfl (Or.inl ew_940) f9 g10 ?_
    obtain ⟨rfl, rfl⟩ := H
    exact ea_ireturn (pc := 114) dX11_of_114 rfl rfl
  by_cases qc4 : Int32.toInt x2 = 3
  · have H := H.2.2.2.1 qc4
    refine ea_tswIn (pc := 33) (tgt := 115) dX11_of_33 (by omega) (by omega) (by rw [qc4]; rfl) rfl ?_
    refine ea_aload_n (pc := 115) dX11_of_115 rfl 3 rfl ?_
    obtain ⟨a15, e16, f13, g14, H⟩ := H
    refine ea_deref0 e16 ?_
    refine ea_getI (pc := 116) dX11_of_116 ec_4 (k := 3) (Nat.le_of_ble_eq_true rfl) rfl (Or.inl ew_943) f13 g14 ?_
    obtain ⟨rfl, rfl⟩ := H
    exact ea_ireturn (pc := 119) dX11_of_119 rfl rfl
  by_cases qc5 : Int32.toInt x2 = 4
  · have H := H.2.2.2.2.1 qc5
    refine ea_tswIn (pc := 33) (tgt := 120) dX11_of_33 (by omega) (by omega) (by rw [qc5]; rfl) rfl ?_
    refine ea_aload_n (pc := 120) dX11_of_120 rfl 3 rfl ?_
    obtain ⟨a19, e20, f17, g18, H⟩ := H
    refine ea_deref0 e20 ?_
    refine ea_getI (pc := 121) dX11_of_121 ec_4 (k := 4) (Nat.le_of_ble_eq_true rfl) rfl (Or.inl ew_946) f17 g18 ?_
    obtain ⟨rfl, rfl⟩ := H
    exact ea_ireturn (pc := 124) dX11_of_124 rfl rfl
  by_cases qc6 : Int32.toInt x2 = 5
  · have H := H.2.2.2.2.2.1 qc6
    refine ea_tswIn (pc := 33) (tgt := 125) dX11_of_33 (by omega) (by omega) (by rw [qc6]; rfl) rfl ?_
    refine ea_aload_n (pc := 125) dX11_of_125 rfl 3 rfl ?_
    obtain ⟨a23, e24, f21, g22, H⟩ := H
    refine ea_deref0 e24 ?_
    refine ea_getI (pc := 126) dX11_of_126 ec_4 (k := 5) (Nat.le_of_ble_eq_true rfl) rfl (Or.inl ew_948) f21 g22 ?_
    obtain ⟨rfl, rfl⟩ := H
    exact ea_ireturn (pc := 129) dX11_of_129 rfl rfl
  by_cases qc7 : Int32.toInt x2 = 6
  · have H := H.2.2.2.2.2.2.1 qc7
    refine ea_tswIn (pc := 33) (tgt := 130) dX11_of_33 (by omega) (by omega) (by rw [qc7]; rfl) rfl ?_
    refine ea_aload_n (pc := 130) dX11_of_130 rfl 3 rfl ?_
    obtain ⟨a27, e28, f25, g26, H⟩ := H
    refine ea_deref0 e28 ?_
    refine ea_getI (pc := 131) dX11_of_131 ec_4 (k := 6) (Nat.le_of_ble_eq_true rfl) rfl (Or.inl ew_951) f25 g26 ?_
    obtain ⟨rfl, rfl⟩ := H
    exact ea_ireturn (pc := 134) dX11_of_134 rfl rfl
  by_cases qc8 : Int32.toInt x2 = 7
  · have H := H.2.2.2.2.2.2.2.1 qc8
    refine ea_tswIn (pc := 33) (tgt := 135) dX11_of_33 (by omega) (by omega) (by rw [qc8]; rfl) rfl ?_
    refine ea_aload_n (pc := 135) dX11_of_135 rfl 0 rfl ?_
    obtain ⟨a31, e32, f29, g30, H⟩ := H
    refine ea_deref0 e32 ?_
    refine ea_getR (pc := 136) dX11_of_136 ec_11 (k := 6) (Nat.le_of_ble_eq_true rfl) rfl (Or.inl ew_443) f29 g30 rfl ?_
    obtain ⟨a35, e36, f33, g34, H⟩ := H
    refine ea_deref0 e36 ?_
    refine ea_getR (pc := 139) dX11_of_139 ec_1 (k := 1) (Nat.le_of_ble_eq_true rfl) rfl (Or.inl ew_362) f33 g34 rfl ?_
    refine ea_iload_n (pc := 142) dX11_of_142 rfl 1 rfl ?_
    obtain ⟨a39, e40, f37, g38, H⟩ := H
    refine ea_deref1 e40 ?_
    obtain ⟨z41, H⟩ := H
    refine ea_iald (pc := 143) dX11_of_143 f37 g38 z41 ?_
    obtain ⟨rfl, rfl⟩ := H
    exact ea_ireturn (pc := 144) dX11_of_144 rfl rfl
  by_cases qc9 : Int32.toInt x2 = 8
  · have H := H.2.2.2.2.2.2.2.2.1 qc9
    refine ea_tswIn (pc := 33) (tgt := 145) dX11_of_33 (by omega) (by omega) (by rw [qc9]; rfl) rfl ?_
    refine ea_aload_n (pc := 145) dX11_of_145 rfl 0 rfl ?_
    obtain ⟨a44, e45, f42, g43, H⟩ := H
    refine ea_deref0 e45 ?_
    refine ea_getR (pc := 146) dX11_of_146 ec_11 (k := 6) (Nat.le_of_ble_eq_true rfl) rfl (Or.inl ew_443) f42 g43 rfl ?_
    obtain ⟨a48, e49, f46, g47, H⟩ := H
    refine ea_deref0 e49 ?_
    refine ea_getR (pc := 149) dX11_of_149 ec_1 (k := 2) (Nat.le_of_ble_eq_true rfl) rfl (Or.inl ew_364) f46 g47 rfl ?_
    refine ea_iload_n (pc := 152) dX11_of_152 rfl 1 rfl ?_
    obtain ⟨a52, e53, f50, g51, H⟩ := H
    refine ea_deref1 e53 ?_
    obtain ⟨z54, H⟩ := H
    refine ea_iald (pc := 153) dX11_of_153 f50 g51 z54 ?_
    obtain ⟨rfl, rfl⟩ := H
    exact ea_ireturn (pc := 154) dX11_of_154 rfl rfl
  by_cases qc10 : Int32.toInt x2 = 9
  · have H := H.2.2.2.2.2.2.2.2.2.1 qc10
    refine ea_tswIn (pc := 33) (tgt := 155) dX11_of_33 (by omega) (by omega) (by rw [qc10]; rfl) rfl ?_
    refine ea_aload_n (pc := 155) dX11_of_155 rfl 3 rfl ?_
    obtain ⟨a57, e58, f55, g56, H⟩ := H
    refine ea_deref0 e58 ?_
    refine ea_getI (pc := 156) dX11_of_156 ec_4 (k := 8) (Nat.le_of_ble_eq_true rfl) rfl (Or.inl ew_955) f55 g56 ?_
    refine ea_if_eq (pc := 159) (tgt := 166) dX11_of_159 rfl (fun c59 => ?_) (fun c59 => ?_)
    · have H := H.1 c59
      refine ea_iconst (pc := 166) dX11_of_166 (v := 0) rfl ?_
      obtain ⟨rfl, rfl⟩ := H
      exact ea_ireturn (pc := 167) dX11_of_167 rfl rfl
    · have H := H.2 c59
      refine ea_iconst (pc := 162) dX11_of_162 (v := 1) rfl ?_
      refine ea_goto (pc := 163) (tgt := 167) dX11_of_163 rfl ?_
      obtain ⟨rfl, rfl⟩ := H
      exact ea_ireturn (pc := 167) dX11_of_167 rfl rfl
  by_cases qc11 : Int32.toInt x2 = 10
  · have H := H.2.2.2.2.2.2.2.2.2.2.1 qc11
    refine ea_tswIn (pc := 33) (tgt := 168) dX11_of_33 (by omega) (by omega) (by rw [qc11]; rfl) rfl ?_
    refine ea_iload (pc := 168) dX11_of_168 4 rfl ?_
    refine ea_if_eq (pc := 170) (tgt := 189) dX11_of_170 rfl (fun c74 => ?_) (fun c74 => ?_)
    · have H := H.1 c74
      refine ea_iconst (pc := 189) dX11_of_189 (v := 0) rfl ?_
      obtain ⟨rfl, rfl⟩ := H
      exact ea_ireturn (pc := 190) dX11_of_190 rfl rfl
    · have H := H.2 c74
      refine ea_aload_n (pc := 173) dX11_of_173 rfl 0 rfl ?_
      obtain ⟨a62, e63, f60, g61, H⟩ := H
      refine ea_deref0 e63 ?_
      refine ea_getR (pc := 174) dX11_of_174 ec_11 (k := 6) (Nat.le_of_ble_eq_true rfl) rfl (Or.inl ew_443) f60 g61 rfl ?_
      obtain ⟨a66, e67, f64, g65, H⟩ := H
      refine ea_deref0 e67 ?_
      refine ea_getR (pc := 177) dX11_of_177 ec_1 (k := 5) (Nat.le_of_ble_eq_true rfl) rfl (Or.inl ew_370) f64 g65 rfl ?_
      refine ea_iload_n (pc := 180) dX11_of_180 rfl 1 rfl ?_
      obtain ⟨a70, e71, f68, g69, H⟩ := H
      refine ea_deref1 e71 ?_
      obtain ⟨z72, H⟩ := H
      refine ea_zald (pc := 181) dX11_of_181 f68 g69 z72 ?_
      refine ea_if_eq (pc := 182) (tgt := 189) dX11_of_182 rfl (fun c73 => ?_) (fun c73 => ?_)
      · have H := H.1 c73
        refine ea_iconst (pc := 189) dX11_of_189 (v := 0) rfl ?_
        obtain ⟨rfl, rfl⟩ := H
        exact ea_ireturn (pc := 190) dX11_of_190 rfl rfl
      · have H := H.2 c73
        refine ea_iconst (pc := 185) dX11_of_185 (v := 1) rfl ?_
        refine ea_goto (pc := 186) (tgt := 190) dX11_of_186 rfl ?_
        obtain ⟨rfl, rfl⟩ := H
        exact ea_ireturn (pc := 190) dX11_of_190 rfl rfl
  by_cases qc12 : Int32.toInt x2 = 11
  · have H := H.2.2.2.2.2.2.2.2.2.2.2.1 qc12
    refine ea_tswIn (pc := 33) (tgt := 191) dX11_of_33 (by omega) (by omega) (by rw [qc12]; rfl) rfl ?_
    refine ea_iload (pc := 191) dX11_of_191 4 rfl ?_
    refine ea_if_eq (pc := 193) (tgt := 208) dX11_of_193 rfl (fun c88 => ?_) (fun c88 => ?_)
    · have H := H.1 c88
      refine ea_iconst (pc := 208) dX11_of_208 (v := (-1)) rfl ?_
      obtain ⟨rfl, rfl⟩ := H
      exact ea_ireturn (pc := 209) dX11_of_209 rfl rfl
    · have H := H.2 c88
      refine ea_aload_n (pc := 196) dX11_of_196 rfl 0 rfl ?_
      obtain ⟨a77, e78, f75, g76, H⟩ := H
      refine ea_deref0 e78 ?_
      refine ea_getR (pc := 197) dX11_of_197 ec_11 (k := 6) (Nat.le_of_ble_eq_true rfl) rfl (Or.inl ew_443) f75 g76 rfl ?_
      obtain ⟨a81, e82, f79, g80, H⟩ := H
      refine ea_deref0 e82 ?_
      refine ea_getR (pc := 200) dX11_of_200 ec_1 (k := 3) (Nat.le_of_ble_eq_true rfl) rfl (Or.inl ew_366) f79 g80 rfl ?_
      refine ea_iload_n (pc := 203) dX11_of_203 rfl 1 rfl ?_
      obtain ⟨a85, e86, f83, g84, H⟩ := H
      refine ea_deref1 e86 ?_
      obtain ⟨z87, H⟩ := H
      refine ea_iald (pc := 204) dX11_of_204 f83 g84 z87 ?_
      refine ea_goto (pc := 205) (tgt := 209) dX11_of_205 rfl ?_
      obtain ⟨rfl, rfl⟩ := H
      exact ea_ireturn (pc := 209) dX11_of_209 rfl rfl
  by_cases qc13 : Int32.toInt x2 = 12
  · have H := H.2.2.2.2.2.2.2.2.2.2.2.2.1 qc13
    refine ea_tswIn (pc := 33) (tgt := 210) dX11_of_33 (by omega) (by omega) (by rw [qc13]; rfl) rfl ?_
    refine ea_aload_n (pc := 210) dX11_of_210 rfl 0 rfl ?_
    obtain ⟨a91, e92, f89, g90, H⟩ := H
    refine ea_deref0 e92 ?_
    refine ea_getR (pc := 211) dX11_of_211 ec_11 (k := 6) (Nat.le_of_ble_eq_true rfl) rfl (Or.inl ew_443) f89 g90 rfl ?_
    obtain ⟨a95, e96, f93, g94, H⟩ := H
    refine ea_deref0 e96 ?_
    refine ea_getR (pc := 214) dX11_of_214 ec_1 (k := 4) (Nat.le_of_ble_eq_true rfl) rfl (Or.inl ew_368) f93 g94 rfl ?_
    refine ea_iload_n (pc := 217) dX11_of_217 rfl 1 rfl ?_
    obtain ⟨a99, e100, f97, g98, H⟩ := H
    refine ea_deref1 e100 ?_
    obtain ⟨z101, H⟩ := H
    refine ea_iald (pc := 218) dX11_of_218 f97 g98 z101 ?_
    obtain ⟨rfl, rfl⟩ := H
    exact ea_ireturn (pc := 219) dX11_of_219 rfl rfl
  have qd : Int32.toInt x2 < 0 ∨ 12 < Int32.toInt x2 := by omega
  have H := H.2.2.2.2.2.2.2.2.2.2.2.2.2 qd
  refine ea_tswOut (pc := 33) (tgt := 220) dX11_of_33 qd rfl ?_
  refine ea_iconst (pc := 220) dX11_of_220 (v := (-1)) rfl ?_
  obtain ⟨rfl, rfl⟩ := H
  exact ea_ireturn (pc := 221) dX11_of_221 rfl rfl
theorem dX11_charge_0 : decode cX11_charge 0 = .ok (.aload_n 0, 1) := by decide +kernel
theorem dX11_charge_1 : decode cX11_charge 1 = .ok (.iload_n 1, 1) := by decide +kernel
theorem dX11_charge_2 : decode cX11_charge 2 = .ok (.invokevirtual 251, 3) := by decide +kernel
theorem dX11_charge_5 : decode cX11_charge 5 = .ok (.astore_n 3, 1) := by decide +kernel
theorem dX11_charge_6 : decode cX11_charge 6 = .ok (.aload_n 3, 1) := by decide +kernel
theorem dX11_charge_7 : decode cX11_charge 7 = .ok (.ifnonnull 5, 3) := by decide +kernel
theorem dX11_charge_10 : decode cX11_charge 10 = .ok (.iconst (-1), 1) := by decide +kernel
theorem dX11_charge_11 : decode cX11_charge 11 = .ok (.ireturn, 1) := by decide +kernel
theorem dX11_charge_12 : decode cX11_charge 12 = .ok (.iload_n 2, 1) := by decide +kernel
theorem dX11_charge_13 : decode cX11_charge 13 = .ok (.tableswitch 82 0 5 #[39, 44, 49, 54, 59, 69], 39) := by decide +kernel
theorem dX11_charge_52 : decode cX11_charge 52 = .ok (.aload_n 3, 1) := by decide +kernel
theorem dX11_charge_53 : decode cX11_charge 53 = .ok (.getfield 288, 3) := by decide +kernel
theorem dX11_charge_56 : decode cX11_charge 56 = .ok (.ireturn, 1) := by decide +kernel
theorem dX11_charge_57 : decode cX11_charge 57 = .ok (.aload_n 3, 1) := by decide +kernel
theorem dX11_charge_58 : decode cX11_charge 58 = .ok (.getfield 291, 3) := by decide +kernel
theorem dX11_charge_61 : decode cX11_charge 61 = .ok (.ireturn, 1) := by decide +kernel
theorem dX11_charge_62 : decode cX11_charge 62 = .ok (.aload_n 3, 1) := by decide +kernel
theorem dX11_charge_63 : decode cX11_charge 63 = .ok (.getfield 294, 3) := by decide +kernel
theorem dX11_charge_66 : decode cX11_charge 66 = .ok (.ireturn, 1) := by decide +kernel
theorem dX11_charge_67 : decode cX11_charge 67 = .ok (.aload_n 3, 1) := by decide +kernel
theorem dX11_charge_68 : decode cX11_charge 68 = .ok (.invokevirtual 297, 3) := by decide +kernel
theorem dX11_charge_71 : decode cX11_charge 71 = .ok (.ireturn, 1) := by decide +kernel
theorem dX11_charge_72 : decode cX11_charge 72 = .ok (.aload_n 3, 1) := by decide +kernel
theorem dX11_charge_73 : decode cX11_charge 73 = .ok (.getfield 288, 3) := by decide +kernel
theorem dX11_charge_76 : decode cX11_charge 76 = .ok (.aload_n 3, 1) := by decide +kernel
theorem dX11_charge_77 : decode cX11_charge 77 = .ok (.invokevirtual 297, 3) := by decide +kernel
theorem dX11_charge_80 : decode cX11_charge 80 = .ok (.isub, 1) := by decide +kernel
theorem dX11_charge_81 : decode cX11_charge 81 = .ok (.ireturn, 1) := by decide +kernel
theorem dX11_charge_82 : decode cX11_charge 82 = .ok (.aload_n 3, 1) := by decide +kernel
theorem dX11_charge_83 : decode cX11_charge 83 = .ok (.getfield 301, 3) := by decide +kernel
theorem dX11_charge_86 : decode cX11_charge 86 = .ok (.ifCond .eq 7, 3) := by decide +kernel
theorem dX11_charge_89 : decode cX11_charge 89 = .ok (.iconst 1, 1) := by decide +kernel
theorem dX11_charge_90 : decode cX11_charge 90 = .ok (.goto 4, 3) := by decide +kernel
theorem dX11_charge_93 : decode cX11_charge 93 = .ok (.iconst 0, 1) := by decide +kernel
theorem dX11_charge_94 : decode cX11_charge 94 = .ok (.ireturn, 1) := by decide +kernel
theorem dX11_charge_95 : decode cX11_charge 95 = .ok (.iconst (-1), 1) := by decide +kernel
theorem dX11_charge_96 : decode cX11_charge 96 = .ok (.ireturn, 1) := by decide +kernel
theorem bX11_charge_0 {d : Nat} {h0 hE h : ea_H} {rv : Option ea_V} {r0 : Option Nat} {x1 : Int32} {x2 : Int32} (H : ∃ a7, r0 = some a7 ∧ a7 < ea_n h ∧ ea_c h a7 = 11 ∧ ∃ (d1 : Nat) (rc9 : Option Nat) (h2 : ea_H), ea_Met mX11_letterOf d1 [vR (some a7), vI x1] h (some (vR rc9)) h2 ∧ d1 + 1 ≤ d ∧ (∀ a10, rc9 = some a10 → (Int32.toInt x2 = 0 → a10 < ea_n h2 ∧ ea_c h2 a10 = 4 ∧ rv = some (vI (ea_i h2 a10 10)) ∧ hE = h2) ∧ (Int32.toInt x2 = 1 → a10 < ea_n h2 ∧ ea_c h2 a10 = 4 ∧ rv = some (vI (ea_i h2 a10 11)) ∧ hE = h2) ∧ (Int32.toInt x2 = 2 → a10 < ea_n h2 ∧ ea_c h2 a10 = 4 ∧ rv = some (vI (ea_i h2 a10 12)) ∧ hE = h2) ∧ (Int32.toInt x2 = 3 → a10 < ea_n h2 ∧ ea_c h2 a10 = 4 ∧ ∃ (d18 : Nat) (xc24 : Int32) (h19 : ea_H), ea_Met mX4_owed d18 [vR (some a10)] h2 (some (vI xc24)) h19 ∧ d18 + 1 ≤ d ∧ rv = some (vI xc24) ∧ hE = h19) ∧ (Int32.toInt x2 = 4 → a10 < ea_n h2 ∧ ea_c h2 a10 = 4 ∧ a10 < ea_n h2 ∧ ea_c h2 a10 = 4 ∧ ∃ (d27 : Nat) (xc33 : Int32) (h28 : ea_H), ea_Met mX4_owed d27 [vR (some a10)] h2 (some (vI xc33)) h28 ∧ d27 + 1 ≤ d ∧ rv = some (vI ((ea_i h2 a10 10) - xc33)) ∧ hE = h28) ∧ (Int32.toInt x2 = 5 → a10 < ea_n h2 ∧ ea_c h2 a10 = 4 ∧ ((ea_i h2 a10 13) = (0 : Int32) → rv = some (vI 0) ∧ hE = h2) ∧ (¬ (ea_i h2 a10 13) = (0 : Int32) → rv = some (vI 1) ∧ hE = h2)) ∧ (Int32.toInt x2 < 0 ∨ 5 < Int32.toInt x2 → rv = some (vI (-1)) ∧ hE = h2)) ∧ (rc9 = none → rv = some (vI (-1)) ∧ hE = h2)) : ea_W mX11_charge d h0 rv hE 0 [(0, vR r0), (1, vI x1), (2, vI x2)] [] h := by
  refine ea_aload_n (pc := 0) dX11_charge_0 rfl 0 rfl ?_
  refine ea_iload_n (pc := 1) dX11_charge_1 rfl 1 rfl ?_
  obtain ⟨a7, e8, f5, g6, H⟩ := H
  refine ea_deref1 e8 ?_
  obtain ⟨d1, rc9, h2, m3, q4, H⟩ := H
  refine ea_callV (pc := 2) (As := [vI x1]) (st := []) dX11_charge_2 kX11_letterOf m3 q4 rfl (Nat.le_of_ble_eq_true rfl) ew_1076 ew_1078 ew_37 (ci := 11) rfl (by decide) f5 g6 ?_
  refine ea_astore_n (pc := 5) (lv' := [(2, vI x2), (3, vR rc9)]) dX11_charge_5 rfl (Nat.le_of_ble_eq_true rfl) [3, 0] rfl ?_
  refine ea_aload_n (pc := 6) dX11_charge_6 rfl 1 rfl ?_
  refine ea_ifnonnull (pc := 7) (tgt := 12) dX11_charge_7 rfl (fun a10 e11 => ?_) (fun e11 => ?_)
  · have H := H.1 a10 e11
    refine ea_iload_n (pc := 12) dX11_charge_12 rfl 0 rfl ?_
    by_cases qc1 : Int32.toInt x2 = 0
    · have H := H.1 qc1
      refine ea_tswIn (pc := 13) (tgt := 52) dX11_charge_13 (by omega) (by omega) (by rw [qc1]; rfl) rfl ?_
      refine ea_aload_n (pc := 52) dX11_charge_52 rfl 1 rfl ?_
      obtain ⟨f12, g13, H⟩ := H
      refine ea_deref0 e11 ?_
      refine ea_getI (pc := 53) dX11_charge_53 ec_4 (k := 10) (Nat.le_of_ble_eq_true rfl) rfl (Or.inl ew_960) f12 g13 ?_
      obtain ⟨rfl, rfl⟩ := H
      exact ea_ireturn (pc := 56) dX11_charge_56 rfl rfl
    by_cases qc2 : Int32.toInt x2 = 1
    · have H := H.2.1 qc2
      refine ea_tswIn (pc := 13) (tgt := 57) dX11_charge_13 (by omega) (by omega) (by rw [qc2]; rfl) rfl ?_
      refine ea_aload_n (pc := 57) dX11_charge_57 rfl 1 rfl ?_
      obtain ⟨f14, g15, H⟩ := H
      refine ea_deref0 e11 ?_
      refine ea_getI (pc := 58) dX11_charge_58 ec_4 (k := 11) (Nat.le_of_ble_eq_true rfl) rfl (Or.inl ew_963) f14 g15 ?_
      obtain ⟨rfl, rfl⟩ := H
      exact ea_ireturn (pc := 61) dX11_charge_61 rfl rfl
    by_cases qc3 : Int32.toInt x2 = 2
    · have H := H.2.2.1 qc3
      refine ea_tswIn (pc := 13) (tgt := 62) dX11_charge_13 (by omega) (by omega) (by rw [qc3]; rfl) rfl ?_
      refine ea_aload_n (pc := 62) dX11_charge_62 rfl 1 rfl ?_
      obtain ⟨f16, g17, H⟩ := H
      refine ea_deref0 e11 ?_
      refine ea_getI (pc := 63) dX11_charge_63 ec_4 (k := 12) (Nat.le_of_ble_eq_true rfl) rfl (Or.inl ew_966) f16 g17 ?_
      obtain ⟨rfl, rfl⟩ := H
      exact ea_ireturn (pc := 66) dX11_charge_66 rfl rfl
    by_cases qc4 : Int32.toInt x2 = 3
    · have H := H.2.2.2.1 qc4
      refine ea_tswIn (pc := 13) (tgt := 67) dX11_charge_13 (by omega) (by omega) (by rw [qc4]; rfl) rfl ?_
      refine ea_aload_n (pc := 67) dX11_charge_67 rfl 1 rfl ?_
      obtain ⟨f22, g23, H⟩ := H
      refine ea_deref0 e11 ?_
      obtain ⟨d18, xc24, h19, m20, q21, H⟩ := H
      refine ea_callV (pc := 68) (As := []) (st := []) dX11_charge_68 kX4_owed m20 q21 rfl (Nat.le_of_ble_eq_true rfl) ew_1084 ew_1085 ew_1086 (ci := 4) rfl (by decide) f22 g23 ?_
      obtain ⟨rfl, rfl⟩ := H
      exact ea_ireturn (pc := 71) dX11_charge_71 rfl rfl
    by_cases qc5 : Int32.toInt x2 = 4
    · have H := H.2.2.2.2.1 qc5
      refine ea_tswIn (pc := 13) (tgt := 72) dX11_charge_13 (by omega) (by omega) (by rw [qc5]; rfl) rfl ?_
      refine ea_aload_n (pc := 72) dX11_charge_72 rfl 1 rfl ?_
      obtain ⟨f25, g26, H⟩ := H
      refine ea_deref0 e11 ?_
      refine ea_getI (pc := 73) dX11_charge_73 ec_4 (k := 10) (Nat.le_of_ble_eq_true rfl) rfl (Or.inl ew_960) f25 g26 ?_
      refine ea_aload_n (pc := 76) dX11_charge_76 rfl 1 rfl ?_
      obtain ⟨f31, g32, H⟩ := H
      refine ea_deref0 e11 ?_
      obtain ⟨d27, xc33, h28, m29, q30, H⟩ := H
      refine ea_callV (pc := 77) (As := []) (st := [vI (ea_i h2 a10 10)]) dX11_charge_77 kX4_owed m29 q30 rfl (Nat.le_of_ble_eq_true rfl) ew_1084 ew_1085 ew_1086 (ci := 4) rfl (by decide) f31 g32 ?_
      refine ea_isub (pc := 80) dX11_charge_80 ?_
      obtain ⟨rfl, rfl⟩ := H
      exact ea_ireturn (pc := 81) dX11_charge_81 rfl rfl
    by_cases qc6 : Int32.toInt x2 = 5
    · have H := H.2.2.2.2.2.1 qc6
      refine ea_tswIn (pc := 13) (tgt := 82) dX11_charge_13 (by omega) (by omega) (by rw [qc6]; rfl) rfl ?_
      refine ea_aload_n (pc := 82) dX11_charge_82 rfl 1 rfl ?_
      obtain ⟨f34, g35, H⟩ := H
      refine ea_deref0 e11 ?_
      refine ea_getI (pc := 83) dX11_charge_83 ec_4 (k := 13) (Nat.le_of_ble_eq_true rfl) rfl (Or.inl ew_968) f34 g35 ?_
      refine ea_if_eq (pc := 86) (tgt := 93) dX11_charge_86 rfl (fun c36 => ?_) (fun c36 => ?_)
      · have H := H.1 c36
        refine ea_iconst (pc := 93) dX11_charge_93 (v := 0) rfl ?_
        obtain ⟨rfl, rfl⟩ := H
        exact ea_ireturn (pc := 94) dX11_charge_94 rfl rfl
      · have H := H.2 c36
        refine ea_iconst (pc := 89) dX11_charge_89 (v := 1) rfl ?_
        refine ea_goto (pc := 90) (tgt := 94) dX11_charge_90 rfl ?_
        obtain ⟨rfl, rfl⟩ := H
        exact ea_ireturn (pc := 94) dX11_charge_94 rfl rfl
    have qd : Int32.toInt x2 < 0 ∨ 5 < Int32.toInt x2 := by omega
    have H := H.2.2.2.2.2.2 qd
    refine ea_tswOut (pc := 13) (tgt := 95) dX11_charge_13 qd rfl ?_
    refine ea_iconst (pc := 95) dX11_charge_95 (v := (-1)) rfl ?_
    obtain ⟨rfl, rfl⟩ := H
    exact ea_ireturn (pc := 96) dX11_charge_96 rfl rfl
  · have H := H.2 e11
    refine ea_iconst (pc := 10) dX11_charge_10 (v := (-1)) rfl ?_
    obtain ⟨rfl, rfl⟩ := H
    exact ea_ireturn (pc := 11) dX11_charge_11 rfl rfl
theorem dX11_way_0 : decode cX11_way 0 = .ok (.aload_n 0, 1) := by decide +kernel
theorem dX11_way_1 : decode cX11_way 1 = .ok (.getfield 12, 3) := by decide +kernel
theorem dX11_way_4 : decode cX11_way 4 = .ok (.iload_n 1, 1) := by decide +kernel
theorem dX11_way_5 : decode cX11_way 5 = .ok (.invokevirtual 81, 3) := by decide +kernel
theorem dX11_way_8 : decode cX11_way 8 = .ok (.ifCond .eq 34, 3) := by decide +kernel
theorem dX11_way_11 : decode cX11_way 11 = .ok (.aload_n 0, 1) := by decide +kernel
theorem dX11_way_12 : decode cX11_way 12 = .ok (.getfield 12, 3) := by decide +kernel
theorem dX11_way_15 : decode cX11_way 15 = .ok (.iload_n 3, 1) := by decide +kernel
theorem dX11_way_16 : decode cX11_way 16 = .ok (.invokevirtual 81, 3) := by decide +kernel
theorem dX11_way_19 : decode cX11_way 19 = .ok (.ifCond .eq 23, 3) := by decide +kernel
theorem dX11_way_22 : decode cX11_way 22 = .ok (.iload_n 1, 1) := by decide +kernel
theorem dX11_way_23 : decode cX11_way 23 = .ok (.iload_n 3, 1) := by decide +kernel
theorem dX11_way_24 : decode cX11_way 24 = .ok (.if_icmp .eq 18, 3) := by decide +kernel
theorem dX11_way_27 : decode cX11_way 27 = .ok (.iload_n 2, 1) := by decide +kernel
theorem dX11_way_28 : decode cX11_way 28 = .ok (.aload_n 0, 1) := by decide +kernel
theorem dX11_way_29 : decode cX11_way 29 = .ok (.getfield 100, 3) := by decide +kernel
theorem dX11_way_32 : decode cX11_way 32 = .ok (.if_icmp .lt 10, 3) := by decide +kernel
theorem dX11_way_35 : decode cX11_way 35 = .ok (.iload_n 2, 1) := by decide +kernel
theorem dX11_way_36 : decode cX11_way 36 = .ok (.sipush 10079, 3) := by decide +kernel
theorem dX11_way_39 : decode cX11_way 39 = .ok (.if_icmp .le 5, 3) := by decide +kernel
theorem dX11_way_42 : decode cX11_way 42 = .ok (.iconst (-1), 1) := by decide +kernel
theorem dX11_way_43 : decode cX11_way 43 = .ok (.ireturn, 1) := by decide +kernel
theorem dX11_way_44 : decode cX11_way 44 = .ok (.aload_n 0, 1) := by decide +kernel
theorem dX11_way_45 : decode cX11_way 45 = .ok (.getfield 28, 3) := by decide +kernel
theorem dX11_way_48 : decode cX11_way 48 = .ok (.iload_n 1, 1) := by decide +kernel
theorem dX11_way_49 : decode cX11_way 49 = .ok (.iload_n 2, 1) := by decide +kernel
theorem dX11_way_50 : decode cX11_way 50 = .ok (.iload_n 3, 1) := by decide +kernel
theorem dX11_way_51 : decode cX11_way 51 = .ok (.invokevirtual 304, 3) := by decide +kernel
theorem dX11_way_54 : decode cX11_way 54 = .ok (.lstore 5, 2) := by decide +kernel
theorem dX11_way_56 : decode cX11_way 56 = .ok (.lload 5, 2) := by decide +kernel
theorem dX11_way_58 : decode cX11_way 58 = .ok (.ldc2_w 308, 3) := by decide +kernel
theorem dX11_way_61 : decode cX11_way 61 = .ok (.lcmp, 1) := by decide +kernel
theorem dX11_way_62 : decode cX11_way 62 = .ok (.ifCond .ne 5, 3) := by decide +kernel
theorem dX11_way_65 : decode cX11_way 65 = .ok (.iconst (-1), 1) := by decide +kernel
theorem dX11_way_66 : decode cX11_way 66 = .ok (.ireturn, 1) := by decide +kernel
theorem dX11_way_67 : decode cX11_way 67 = .ok (.iload 4, 2) := by decide +kernel
theorem dX11_way_69 : decode cX11_way 69 = .ok (.tableswitch 75 0 5 #[39, 45, 51, 57, 63, 69], 39) := by decide +kernel
theorem dX11_way_108 : decode cX11_way 108 = .ok (.lload 5, 2) := by decide +kernel
theorem dX11_way_110 : decode cX11_way 110 = .ok (.invokestatic 310, 3) := by decide +kernel
theorem dX11_way_113 : decode cX11_way 113 = .ok (.ireturn, 1) := by decide +kernel
theorem dX11_way_114 : decode cX11_way 114 = .ok (.lload 5, 2) := by decide +kernel
theorem dX11_way_116 : decode cX11_way 116 = .ok (.invokestatic 314, 3) := by decide +kernel
theorem dX11_way_119 : decode cX11_way 119 = .ok (.ireturn, 1) := by decide +kernel
theorem dX11_way_120 : decode cX11_way 120 = .ok (.lload 5, 2) := by decide +kernel
theorem dX11_way_122 : decode cX11_way 122 = .ok (.invokestatic 317, 3) := by decide +kernel
theorem dX11_way_125 : decode cX11_way 125 = .ok (.ireturn, 1) := by decide +kernel
theorem dX11_way_126 : decode cX11_way 126 = .ok (.lload 5, 2) := by decide +kernel
theorem dX11_way_128 : decode cX11_way 128 = .ok (.invokestatic 320, 3) := by decide +kernel
theorem dX11_way_131 : decode cX11_way 131 = .ok (.ireturn, 1) := by decide +kernel
theorem dX11_way_132 : decode cX11_way 132 = .ok (.lload 5, 2) := by decide +kernel
theorem dX11_way_134 : decode cX11_way 134 = .ok (.invokestatic 323, 3) := by decide +kernel
theorem dX11_way_137 : decode cX11_way 137 = .ok (.ireturn, 1) := by decide +kernel
theorem dX11_way_138 : decode cX11_way 138 = .ok (.lload 5, 2) := by decide +kernel
theorem dX11_way_140 : decode cX11_way 140 = .ok (.invokestatic 326, 3) := by decide +kernel
theorem dX11_way_143 : decode cX11_way 143 = .ok (.ireturn, 1) := by decide +kernel
theorem dX11_way_144 : decode cX11_way 144 = .ok (.iconst (-1), 1) := by decide +kernel
theorem dX11_way_145 : decode cX11_way 145 = .ok (.ireturn, 1) := by decide +kernel
theorem bX11_way_0 {d : Nat} {h0 hE h : ea_H} {rv : Option ea_V} {r0 : Option Nat} {x1 : Int32} {x2 : Int32} {x3 : Int32} {x4 : Int32} (H : ∃ a3, r0 = some a3 ∧ a3 < ea_n h ∧ ea_c h a3 = 11 ∧ ∃ a11, (ea_r h a3 0) = some a11 ∧ a11 < ea_n h ∧ ea_c h a11 = 6 ∧ ∃ (d5 : Nat) (xc13 : Int32) (h6 : ea_H), ea_Met mX6_has d5 [vR (some a11), vI x1] h (some (vI xc13)) h6 ∧ d5 + 1 ≤ d ∧ (xc13 = (0 : Int32) → rv = some (vI (-1)) ∧ hE = h6) ∧ (¬ xc13 = (0 : Int32) → a3 < ea_n h6 ∧ ea_c h6 a3 = 11 ∧ ∃ a22, (ea_r h6 a3 0) = some a22 ∧ a22 < ea_n h6 ∧ ea_c h6 a22 = 6 ∧ ∃ (d16 : Nat) (xc24 : Int32) (h17 : ea_H), ea_Met mX6_has d16 [vR (some a22), vI x3] h6 (some (vI xc24)) h17 ∧ d16 + 1 ≤ d ∧ (xc24 = (0 : Int32) → rv = some (vI (-1)) ∧ hE = h17) ∧ (¬ xc24 = (0 : Int32) → (x1 = x3 → rv = some (vI (-1)) ∧ hE = h17) ∧ (¬ x1 = x3 → a3 < ea_n h17 ∧ ea_c h17 a3 = 11 ∧ (x2 < (ea_i h17 a3 11) → rv = some (vI (-1)) ∧ hE = h17) ∧ (¬ x2 < (ea_i h17 a3 11) → (x2 ≤ (10079 : Int32) → a3 < ea_n h17 ∧ ea_c h17 a3 = 11 ∧ ∃ a35, (ea_r h17 a3 2) = some a35 ∧ a35 < ea_n h17 ∧ ea_c h17 a35 = 10 ∧ ∃ (d29 : Nat) (yc37 : Int64) (h30 : ea_H), ea_Met mX10_bestFrom d29 [vR (some a35), vI x1, vI x2, vI x3] h17 (some (vJ yc37)) h30 ∧ d29 + 1 ≤ d ∧ (¬ (lg_cmp yc37 9223372036854775807) = (0 : Int32) → (Int32.toInt x4 = 0 → ∃ (d38 : Nat) (xc42 : Int32) (h39 : ea_H), ea_Met mX10_minuteOf d38 [vJ yc37] h30 (some (vI xc42)) h39 ∧ d38 + 1 ≤ d ∧ rv = some (vI xc42) ∧ hE = h39) ∧ (Int32.toInt x4 = 1 → ∃ (d43 : Nat) (xc47 : Int32) (h44 : ea_H), ea_Met mX10_runsOf d43 [vJ yc37] h30 (some (vI xc47)) h44 ∧ d43 + 1 ≤ d ∧ rv = some (vI xc47) ∧ hE = h44) ∧ (Int32.toInt x4 = 2 → ∃ (d48 : Nat) (xc52 : Int32) (h49 : ea_H), ea_Met mX10_trainOf d48 [vJ yc37] h30 (some (vI xc52)) h49 ∧ d48 + 1 ≤ d ∧ rv = some (vI xc52) ∧ hE = h49) ∧ (Int32.toInt x4 = 3 → ∃ (d53 : Nat) (xc57 : Int32) (h54 : ea_H), ea_Met mX10_dayOf d53 [vJ yc37] h30 (some (vI xc57)) h54 ∧ d53 + 1 ≤ d ∧ rv = some (vI xc57) ∧ hE = h54) ∧ (Int32.toInt x4 = 4 → ∃ (d58 : Nat) (xc62 : Int32) (h59 : ea_H), ea_Met mX10_takenOf d58 [vJ yc37] h30 (some (vI xc62)) h59 ∧ d58 + 1 ≤ d ∧ rv = some (vI xc62) ∧ hE = h59) ∧ (Int32.toInt x4 = 5 → ∃ (d63 : Nat) (xc67 : Int32) (h64 : ea_H), ea_Met mX10_leftOf d63 [vJ yc37] h30 (some (vI xc67)) h64 ∧ d63 + 1 ≤ d ∧ rv = some (vI xc67) ∧ hE = h64) ∧ (Int32.toInt x4 < 0 ∨ 5 < Int32.toInt x4 → rv = some (vI (-1)) ∧ hE = h30)) ∧ ((lg_cmp yc37 9223372036854775807) = (0 : Int32) → rv = some (vI (-1)) ∧ hE = h30)) ∧ (¬ x2 ≤ (10079 : Int32) → rv = some (vI (-1)) ∧ hE = h17)))))) : ea_W mX11_way d h0 rv hE 0 [(0, vR r0), (1, vI x1), (2, vI x2), (3, vI x3), (4, vI x4)] [] h := by
  refine ea_aload_n (pc := 0) dX11_way_0 rfl 0 rfl ?_
  obtain ⟨a3, e4, f1, g2, H⟩ := H
  refine ea_deref0 e4 ?_
  refine ea_getR (pc := 1) dX11_way_1 ec_11 (k := 0) (Nat.le_of_ble_eq_true rfl) rfl (Or.inl ew_437) f1 g2 rfl ?_
  refine ea_iload_n (pc := 4) dX11_way_4 rfl 1 rfl ?_
  obtain ⟨a11, e12, f9, g10, H⟩ := H
  refine ea_deref1 e12 ?_
  obtain ⟨d5, xc13, h6, m7, q8, H⟩ := H
  refine ea_callV (pc := 5) (As := [vI x1]) (st := []) dX11_way_5 kX6_has m7 q8 rfl (Nat.le_of_ble_eq_true rfl) ew_494 ew_495 ew_496 (ci := 6) rfl (by decide) f9 g10 ?_
  refine ea_if_eq (pc := 8) (tgt := 42) dX11_way_8 rfl (fun c73 => ?_) (fun c73 => ?_)
  · have H := H.1 c73
    refine ea_iconst (pc := 42) dX11_way_42 (v := (-1)) rfl ?_
    obtain ⟨rfl, rfl⟩ := H
    exact ea_ireturn (pc := 43) dX11_way_43 rfl rfl
  · have H := H.2 c73
    refine ea_aload_n (pc := 11) dX11_way_11 rfl 0 rfl ?_
    obtain ⟨f14, g15, H⟩ := H
    refine ea_deref0 e4 ?_
    refine ea_getR (pc := 12) dX11_way_12 ec_11 (k := 0) (Nat.le_of_ble_eq_true rfl) rfl (Or.inl ew_437) f14 g15 rfl ?_
    refine ea_iload_n (pc := 15) dX11_way_15 rfl 3 rfl ?_
    obtain ⟨a22, e23, f20, g21, H⟩ := H
    refine ea_deref1 e23 ?_
    obtain ⟨d16, xc24, h17, m18, q19, H⟩ := H
    refine ea_callV (pc := 16) (As := [vI x3]) (st := []) dX11_way_16 kX6_has m18 q19 rfl (Nat.le_of_ble_eq_true rfl) ew_494 ew_495 ew_496 (ci := 6) rfl (by decide) f20 g21 ?_
    refine ea_if_eq (pc := 19) (tgt := 42) dX11_way_19 rfl (fun c72 => ?_) (fun c72 => ?_)
    · have H := H.1 c72
      refine ea_iconst (pc := 42) dX11_way_42 (v := (-1)) rfl ?_
      obtain ⟨rfl, rfl⟩ := H
      exact ea_ireturn (pc := 43) dX11_way_43 rfl rfl
    · have H := H.2 c72
      refine ea_iload_n (pc := 22) dX11_way_22 rfl 1 rfl ?_
      refine ea_iload_n (pc := 23) dX11_way_23 rfl 3 rfl ?_
      refine ea_icmp_eq (pc := 24) (tgt := 42) dX11_way_24 rfl (fun c71 => ?_) (fun c71 => ?_)
      · have H := H.1 c71
        refine ea_iconst (pc := 42) dX11_way_42 (v := (-1)) rfl ?_
        obtain ⟨rfl, rfl⟩ := H
        exact ea_ireturn (pc := 43) dX11_way_43 rfl rfl
      · have H := H.2 c71
        refine ea_iload_n (pc := 27) dX11_way_27 rfl 2 rfl ?_
        refine ea_aload_n (pc := 28) dX11_way_28 rfl 0 rfl ?_
        obtain ⟨f25, g26, H⟩ := H
        refine ea_deref0 e4 ?_
        refine ea_getI (pc := 29) dX11_way_29 ec_11 (k := 11) (Nat.le_of_ble_eq_true rfl) rfl (Or.inl ew_448) f25 g26 ?_
        refine ea_icmp_lt (pc := 32) (tgt := 42) dX11_way_32 rfl (fun c70 => ?_) (fun c70 => ?_)
        · have H := H.1 c70
          refine ea_iconst (pc := 42) dX11_way_42 (v := (-1)) rfl ?_
          obtain ⟨rfl, rfl⟩ := H
          exact ea_ireturn (pc := 43) dX11_way_43 rfl rfl
        · have H := H.2 c70
          refine ea_iload_n (pc := 35) dX11_way_35 rfl 2 rfl ?_
          refine ea_sipush (pc := 36) dX11_way_36 (v := 10079) rfl ?_
          refine ea_icmp_le (pc := 39) (tgt := 44) dX11_way_39 rfl (fun c69 => ?_) (fun c69 => ?_)
          · have H := H.1 c69
            refine ea_aload_n (pc := 44) dX11_way_44 rfl 0 rfl ?_
            obtain ⟨f27, g28, H⟩ := H
            refine ea_deref0 e4 ?_
            refine ea_getR (pc := 45) dX11_way_45 ec_11 (k := 2) (Nat.le_of_ble_eq_true rfl) rfl (Or.inl ew_439) f27 g28 rfl ?_
            refine ea_iload_n (pc := 48) dX11_way_48 rfl 1 rfl ?_
            refine ea_iload_n (pc := 49) dX11_way_49 rfl 2 rfl ?_
            refine ea_iload_n (pc := 50) dX11_way_50 rfl 3 rfl ?_
            obtain ⟨a35, e36, f33, g34, H⟩ := H
            refine ea_deref3 e36 ?_
            obtain ⟨d29, yc37, h30, m31, q32, H⟩ := H
            refine ea_callV (pc := 51) (As := [vI x1, vI x2, vI x3]) (st := []) dX11_way_51 kX10_bestFrom m31 q32 rfl (Nat.le_of_ble_eq_true rfl) ew_1092 ew_1093 ew_1094 (ci := 10) rfl (by decide) f33 g34 ?_
            refine ea_lstore (pc := 54) (lv' := [(4, vI x4), (5, vJ yc37)]) dX11_way_54 (Nat.le_of_ble_eq_true rfl) [5, 0] rfl ?_
            refine ea_lload (pc := 56) dX11_way_56 1 rfl ?_
            refine ea_ldc2 (pc := 58) dX11_way_58 ew_1097 ?_
            refine ea_lcmp (pc := 61) dX11_way_61 ?_
            refine ea_if_ne (pc := 62) (tgt := 67) dX11_way_62 rfl (fun c68 => ?_) (fun c68 => ?_)
            · have H := H.1 c68
              refine ea_iload (pc := 67) dX11_way_67 0 rfl ?_
              by_cases qc1 : Int32.toInt x4 = 0
              · have H := H.1 qc1
                refine ea_tswIn (pc := 69) (tgt := 108) dX11_way_69 (by omega) (by omega) (by rw [qc1]; rfl) rfl ?_
                refine ea_lload (pc := 108) dX11_way_108 1 rfl ?_
                obtain ⟨d38, xc42, h39, m40, q41, H⟩ := H
                refine ea_callS (pc := 110) (As := [vJ yc37]) (st := []) dX11_way_110 kX10_minuteOf m40 q41 rfl (Nat.le_of_ble_eq_true rfl) ew_1098 ew_1099 ?_
                obtain ⟨rfl, rfl⟩ := H
                exact ea_ireturn (pc := 113) dX11_way_113 rfl rfl
              by_cases qc2 : Int32.toInt x4 = 1
              · have H := H.2.1 qc2
                refine ea_tswIn (pc := 69) (tgt := 114) dX11_way_69 (by omega) (by omega) (by rw [qc2]; rfl) rfl ?_
                refine ea_lload (pc := 114) dX11_way_114 1 rfl ?_
                obtain ⟨d43, xc47, h44, m45, q46, H⟩ := H
                refine ea_callS (pc := 116) (As := [vJ yc37]) (st := []) dX11_way_116 kX10_runsOf m45 q46 rfl (Nat.le_of_ble_eq_true rfl) ew_1101 ew_1102 ?_
                obtain ⟨rfl, rfl⟩ := H
                exact ea_ireturn (pc := 119) dX11_way_119 rfl rfl
              by_cases qc3 : Int32.toInt x4 = 2
              · have H := H.2.2.1 qc3
                refine ea_tswIn (pc := 69) (tgt := 120) dX11_way_69 (by omega) (by omega) (by rw [qc3]; rfl) rfl ?_
                refine ea_lload (pc := 120) dX11_way_120 1 rfl ?_
                obtain ⟨d48, xc52, h49, m50, q51, H⟩ := H
                refine ea_callS (pc := 122) (As := [vJ yc37]) (st := []) dX11_way_122 kX10_trainOf m50 q51 rfl (Nat.le_of_ble_eq_true rfl) ew_1104 ew_681 ?_
                obtain ⟨rfl, rfl⟩ := H
                exact ea_ireturn (pc := 125) dX11_way_125 rfl rfl
              by_cases qc4 : Int32.toInt x4 = 3
              · have H := H.2.2.2.1 qc4
                refine ea_tswIn (pc := 69) (tgt := 126) dX11_way_69 (by omega) (by omega) (by rw [qc4]; rfl) rfl ?_
                refine ea_lload (pc := 126) dX11_way_126 1 rfl ?_
                obtain ⟨d53, xc57, h54, m55, q56, H⟩ := H
                refine ea_callS (pc := 128) (As := [vJ yc37]) (st := []) dX11_way_128 kX10_dayOf m55 q56 rfl (Nat.le_of_ble_eq_true rfl) ew_1105 ew_684 ?_
                obtain ⟨rfl, rfl⟩ := H
                exact ea_ireturn (pc := 131) dX11_way_131 rfl rfl
              by_cases qc5 : Int32.toInt x4 = 4
              · have H := H.2.2.2.2.1 qc5
                refine ea_tswIn (pc := 69) (tgt := 132) dX11_way_69 (by omega) (by omega) (by rw [qc5]; rfl) rfl ?_
                refine ea_lload (pc := 132) dX11_way_132 1 rfl ?_
                obtain ⟨d58, xc62, h59, m60, q61, H⟩ := H
                refine ea_callS (pc := 134) (As := [vJ yc37]) (st := []) dX11_way_134 kX10_takenOf m60 q61 rfl (Nat.le_of_ble_eq_true rfl) ew_1106 ew_687 ?_
                obtain ⟨rfl, rfl⟩ := H
                exact ea_ireturn (pc := 137) dX11_way_137 rfl rfl
              by_cases qc6 : Int32.toInt x4 = 5
              · have H := H.2.2.2.2.2.1 qc6
                refine ea_tswIn (pc := 69) (tgt := 138) dX11_way_69 (by omega) (by omega) (by rw [qc6]; rfl) rfl ?_
                refine ea_lload (pc := 138) dX11_way_138 1 rfl ?_
                obtain ⟨d63, xc67, h64, m65, q66, H⟩ := H
                refine ea_callS (pc := 140) (As := [vJ yc37]) (st := []) dX11_way_140 kX10_leftOf m65 q66 rfl (Nat.le_of_ble_eq_true rfl) ew_1107 ew_690 ?_
                obtain ⟨rfl, rfl⟩ := H
                exact ea_ireturn (pc := 143) dX11_way_143 rfl rfl
              have qd : Int32.toInt x4 < 0 ∨ 5 < Int32.toInt x4 := by omega
              have H := H.2.2.2.2.2.2 qd
              refine ea_tswOut (pc := 69) (tgt := 144) dX11_way_69 qd rfl ?_
              refine ea_iconst (pc := 144) dX11_way_144 (v := (-1)) rfl ?_
              obtain ⟨rfl, rfl⟩ := H
              exact ea_ireturn (pc := 145) dX11_way_145 rfl rfl
            · have H := H.2 c68
              refine ea_iconst (pc := 65) dX11_way_65 (v := (-1)) rfl ?_
              obtain ⟨rfl, rfl⟩ := H
              exact ea_ireturn (pc := 66) dX11_way_66 rfl rfl
          · have H := H.2 c69
            refine ea_iconst (pc := 42) dX11_way_42 (v := (-1)) rfl ?_
            obtain ⟨rfl, rfl⟩ := H
            exact ea_ireturn (pc := 43) dX11_way_43 rfl rfl
theorem dX11_lead_0 : decode cX11_lead 0 = .ok (.aload_n 0, 1) := by decide +kernel
theorem dX11_lead_1 : decode cX11_lead 1 = .ok (.iload_n 1, 1) := by decide +kernel
theorem dX11_lead_2 : decode cX11_lead 2 = .ok (.invokevirtual 251, 3) := by decide +kernel
theorem dX11_lead_5 : decode cX11_lead 5 = .ok (.astore 4, 2) := by decide +kernel
theorem dX11_lead_7 : decode cX11_lead 7 = .ok (.aload 4, 2) := by decide +kernel
theorem dX11_lead_9 : decode cX11_lead 9 = .ok (.ifnull 16, 3) := by decide +kernel
theorem dX11_lead_12 : decode cX11_lead 12 = .ok (.iload_n 2, 1) := by decide +kernel
theorem dX11_lead_13 : decode cX11_lead 13 = .ok (.ifCond .lt 12, 3) := by decide +kernel
theorem dX11_lead_16 : decode cX11_lead 16 = .ok (.iload_n 2, 1) := by decide +kernel
theorem dX11_lead_17 : decode cX11_lead 17 = .ok (.aload 4, 2) := by decide +kernel
theorem dX11_lead_19 : decode cX11_lead 19 = .ok (.getfield 329, 3) := by decide +kernel
theorem dX11_lead_22 : decode cX11_lead 22 = .ok (.if_icmp .lt 5, 3) := by decide +kernel
theorem dX11_lead_25 : decode cX11_lead 25 = .ok (.iconst (-1), 1) := by decide +kernel
theorem dX11_lead_26 : decode cX11_lead 26 = .ok (.ireturn, 1) := by decide +kernel
theorem dX11_lead_27 : decode cX11_lead 27 = .ok (.iload_n 3, 1) := by decide +kernel
theorem dX11_lead_28 : decode cX11_lead 28 = .ok (.tableswitch 49 0 2 #[28, 35, 42], 28) := by decide +kernel
theorem dX11_lead_56 : decode cX11_lead 56 = .ok (.aload 4, 2) := by decide +kernel
theorem dX11_lead_58 : decode cX11_lead 58 = .ok (.iload_n 2, 1) := by decide +kernel
theorem dX11_lead_59 : decode cX11_lead 59 = .ok (.invokevirtual 332, 3) := by decide +kernel
theorem dX11_lead_62 : decode cX11_lead 62 = .ok (.ireturn, 1) := by decide +kernel
theorem dX11_lead_63 : decode cX11_lead 63 = .ok (.aload 4, 2) := by decide +kernel
theorem dX11_lead_65 : decode cX11_lead 65 = .ok (.iload_n 2, 1) := by decide +kernel
theorem dX11_lead_66 : decode cX11_lead 66 = .ok (.invokevirtual 335, 3) := by decide +kernel
theorem dX11_lead_69 : decode cX11_lead 69 = .ok (.ireturn, 1) := by decide +kernel
theorem dX11_lead_70 : decode cX11_lead 70 = .ok (.aload 4, 2) := by decide +kernel
theorem dX11_lead_72 : decode cX11_lead 72 = .ok (.iload_n 2, 1) := by decide +kernel
theorem dX11_lead_73 : decode cX11_lead 73 = .ok (.invokevirtual 338, 3) := by decide +kernel
theorem dX11_lead_76 : decode cX11_lead 76 = .ok (.ireturn, 1) := by decide +kernel
theorem dX11_lead_77 : decode cX11_lead 77 = .ok (.iconst (-1), 1) := by decide +kernel
theorem dX11_lead_78 : decode cX11_lead 78 = .ok (.ireturn, 1) := by decide +kernel
theorem bX11_lead_0 {d : Nat} {h0 hE h : ea_H} {rv : Option ea_V} {r0 : Option Nat} {x1 : Int32} {x2 : Int32} {x3 : Int32} (H : ∃ a7, r0 = some a7 ∧ a7 < ea_n h ∧ ea_c h a7 = 11 ∧ ∃ (d1 : Nat) (rc9 : Option Nat) (h2 : ea_H), ea_Met mX11_letterOf d1 [vR (some a7), vI x1] h (some (vR rc9)) h2 ∧ d1 + 1 ≤ d ∧ (rc9 = none → rv = some (vI (-1)) ∧ hE = h2) ∧ (∀ a10, rc9 = some a10 → (x2 < (0 : Int32) → rv = some (vI (-1)) ∧ hE = h2) ∧ (¬ x2 < (0 : Int32) → a10 < ea_n h2 ∧ ea_c h2 a10 = 4 ∧ (x2 < (ea_i h2 a10 16) → (Int32.toInt x3 = 0 → a10 < ea_n h2 ∧ ea_c h2 a10 = 4 ∧ ∃ (d14 : Nat) (xc20 : Int32) (h15 : ea_H), ea_Met mX4_rowMinute d14 [vR (some a10), vI x2] h2 (some (vI xc20)) h15 ∧ d14 + 1 ≤ d ∧ rv = some (vI xc20) ∧ hE = h15) ∧ (Int32.toInt x3 = 1 → a10 < ea_n h2 ∧ ea_c h2 a10 = 4 ∧ ∃ (d21 : Nat) (xc27 : Int32) (h22 : ea_H), ea_Met mX4_rowState d21 [vR (some a10), vI x2] h2 (some (vI xc27)) h22 ∧ d21 + 1 ≤ d ∧ rv = some (vI xc27) ∧ hE = h22) ∧ (Int32.toInt x3 = 2 → a10 < ea_n h2 ∧ ea_c h2 a10 = 4 ∧ ∃ (d28 : Nat) (xc34 : Int32) (h29 : ea_H), ea_Met mX4_rowPlace d28 [vR (some a10), vI x2] h2 (some (vI xc34)) h29 ∧ d28 + 1 ≤ d ∧ rv = some (vI xc34) ∧ hE = h29) ∧ (Int32.toInt x3 < 0 ∨ 2 < Int32.toInt x3 → rv = some (vI (-1)) ∧ hE = h2)) ∧ (¬ x2 < (ea_i h2 a10 16) → rv = some (vI (-1)) ∧ hE = h2)))) : ea_W mX11_lead d h0 rv hE 0 [(0, vR r0), (1, vI x1), (2, vI x2), (3, vI x3)] [] h := by
  refine ea_aload_n (pc := 0) dX11_lead_0 rfl 0 rfl ?_
  refine ea_iload_n (pc := 1) dX11_lead_1 rfl 1 rfl ?_
  obtain ⟨a7, e8, f5, g6, H⟩ := H
  refine ea_deref1 e8 ?_
  obtain ⟨d1, rc9, h2, m3, q4, H⟩ := H
  refine ea_callV (pc := 2) (As := [vI x1]) (st := []) dX11_lead_2 kX11_letterOf m3 q4 rfl (Nat.le_of_ble_eq_true rfl) ew_1076 ew_1078 ew_37 (ci := 11) rfl (by decide) f5 g6 ?_
  refine ea_astore (pc := 5) (lv' := [(2, vI x2), (3, vI x3), (4, vR rc9)]) dX11_lead_5 (Nat.le_of_ble_eq_true rfl) [3, 4, 0] rfl ?_
  refine ea_aload (pc := 7) dX11_lead_7 2 rfl ?_
  refine ea_ifnull (pc := 9) (tgt := 25) dX11_lead_9 rfl (fun e11 => ?_) (fun a10 e11 => ?_)
  · have H := H.1 e11
    refine ea_iconst (pc := 25) dX11_lead_25 (v := (-1)) rfl ?_
    obtain ⟨rfl, rfl⟩ := H
    exact ea_ireturn (pc := 26) dX11_lead_26 rfl rfl
  · have H := H.2 a10 e11
    refine ea_iload_n (pc := 12) dX11_lead_12 rfl 0 rfl ?_
    refine ea_if_lt (pc := 13) (tgt := 25) dX11_lead_13 rfl (fun c36 => ?_) (fun c36 => ?_)
    · have H := H.1 c36
      refine ea_iconst (pc := 25) dX11_lead_25 (v := (-1)) rfl ?_
      obtain ⟨rfl, rfl⟩ := H
      exact ea_ireturn (pc := 26) dX11_lead_26 rfl rfl
    · have H := H.2 c36
      refine ea_iload_n (pc := 16) dX11_lead_16 rfl 0 rfl ?_
      refine ea_aload (pc := 17) dX11_lead_17 2 rfl ?_
      obtain ⟨f12, g13, H⟩ := H
      refine ea_deref0 e11 ?_
      refine ea_getI (pc := 19) dX11_lead_19 ec_4 (k := 16) (Nat.le_of_ble_eq_true rfl) rfl (Or.inl ew_975) f12 g13 ?_
      refine ea_icmp_lt (pc := 22) (tgt := 27) dX11_lead_22 rfl (fun c35 => ?_) (fun c35 => ?_)
      · have H := H.1 c35
        refine ea_iload_n (pc := 27) dX11_lead_27 rfl 1 rfl ?_
        by_cases qc1 : Int32.toInt x3 = 0
        · have H := H.1 qc1
          refine ea_tswIn (pc := 28) (tgt := 56) dX11_lead_28 (by omega) (by omega) (by rw [qc1]; rfl) rfl ?_
          refine ea_aload (pc := 56) dX11_lead_56 2 rfl ?_
          refine ea_iload_n (pc := 58) dX11_lead_58 rfl 0 rfl ?_
          obtain ⟨f18, g19, H⟩ := H
          refine ea_deref1 e11 ?_
          obtain ⟨d14, xc20, h15, m16, q17, H⟩ := H
          refine ea_callV (pc := 59) (As := [vI x2]) (st := []) dX11_lead_59 kX4_rowMinute m16 q17 rfl (Nat.le_of_ble_eq_true rfl) ew_1112 ew_1113 ew_1114 (ci := 4) rfl (by decide) f18 g19 ?_
          obtain ⟨rfl, rfl⟩ := H
          exact ea_ireturn (pc := 62) dX11_lead_62 rfl rfl
        by_cases qc2 : Int32.toInt x3 = 1
        · have H := H.2.1 qc2
          refine ea_tswIn (pc := 28) (tgt := 63) dX11_lead_28 (by omega) (by omega) (by rw [qc2]; rfl) rfl ?_
          refine ea_aload (pc := 63) dX11_lead_63 2 rfl ?_
          refine ea_iload_n (pc := 65) dX11_lead_65 rfl 0 rfl ?_
          obtain ⟨f25, g26, H⟩ := H
          refine ea_deref1 e11 ?_
          obtain ⟨d21, xc27, h22, m23, q24, H⟩ := H
          refine ea_callV (pc := 66) (As := [vI x2]) (st := []) dX11_lead_66 kX4_rowState m23 q24 rfl (Nat.le_of_ble_eq_true rfl) ew_1116 ew_1117 ew_1118 (ci := 4) rfl (by decide) f25 g26 ?_
          obtain ⟨rfl, rfl⟩ := H
          exact ea_ireturn (pc := 69) dX11_lead_69 rfl rfl
        by_cases qc3 : Int32.toInt x3 = 2
        · have H := H.2.2.1 qc3
          refine ea_tswIn (pc := 28) (tgt := 70) dX11_lead_28 (by omega) (by omega) (by rw [qc3]; rfl) rfl ?_
          refine ea_aload (pc := 70) dX11_lead_70 2 rfl ?_
          refine ea_iload_n (pc := 72) dX11_lead_72 rfl 0 rfl ?_
          obtain ⟨f32, g33, H⟩ := H
          refine ea_deref1 e11 ?_
          obtain ⟨d28, xc34, h29, m30, q31, H⟩ := H
          refine ea_callV (pc := 73) (As := [vI x2]) (st := []) dX11_lead_73 kX4_rowPlace m30 q31 rfl (Nat.le_of_ble_eq_true rfl) ew_1120 ew_1121 ew_1122 (ci := 4) rfl (by decide) f32 g33 ?_
          obtain ⟨rfl, rfl⟩ := H
          exact ea_ireturn (pc := 76) dX11_lead_76 rfl rfl
        have qd : Int32.toInt x3 < 0 ∨ 2 < Int32.toInt x3 := by omega
        have H := H.2.2.2 qd
        refine ea_tswOut (pc := 28) (tgt := 77) dX11_lead_28 qd rfl ?_
        refine ea_iconst (pc := 77) dX11_lead_77 (v := (-1)) rfl ?_
        obtain ⟨rfl, rfl⟩ := H
        exact ea_ireturn (pc := 78) dX11_lead_78 rfl rfl
      · have H := H.2 c35
        refine ea_iconst (pc := 25) dX11_lead_25 (v := (-1)) rfl ?_
        obtain ⟨rfl, rfl⟩ := H
        exact ea_ireturn (pc := 26) dX11_lead_26 rfl rfl
theorem dX11_where_0 : decode cX11_where 0 = .ok (.aload_n 0, 1) := by decide +kernel
theorem dX11_where_1 : decode cX11_where 1 = .ok (.iload_n 1, 1) := by decide +kernel
theorem dX11_where_2 : decode cX11_where 2 = .ok (.invokevirtual 251, 3) := by decide +kernel
theorem dX11_where_5 : decode cX11_where 5 = .ok (.astore 4, 2) := by decide +kernel
theorem dX11_where_7 : decode cX11_where 7 = .ok (.aload 4, 2) := by decide +kernel
theorem dX11_where_9 : decode cX11_where 9 = .ok (.ifnull 15, 3) := by decide +kernel
theorem dX11_where_12 : decode cX11_where 12 = .ok (.iload_n 2, 1) := by decide +kernel
theorem dX11_where_13 : decode cX11_where 13 = .ok (.ifCond .lt 11, 3) := by decide +kernel
theorem dX11_where_16 : decode cX11_where 16 = .ok (.iload_n 2, 1) := by decide +kernel
theorem dX11_where_17 : decode cX11_where 17 = .ok (.aload_n 0, 1) := by decide +kernel
theorem dX11_where_18 : decode cX11_where 18 = .ok (.getfield 100, 3) := by decide +kernel
theorem dX11_where_21 : decode cX11_where 21 = .ok (.if_icmp .le 5, 3) := by decide +kernel
theorem dX11_where_24 : decode cX11_where 24 = .ok (.iconst (-1), 1) := by decide +kernel
theorem dX11_where_25 : decode cX11_where 25 = .ok (.ireturn, 1) := by decide +kernel
theorem dX11_where_26 : decode cX11_where 26 = .ok (.aload 4, 2) := by decide +kernel
theorem dX11_where_28 : decode cX11_where 28 = .ok (.iload_n 2, 1) := by decide +kernel
theorem dX11_where_29 : decode cX11_where 29 = .ok (.invokevirtual 341, 3) := by decide +kernel
theorem dX11_where_32 : decode cX11_where 32 = .ok (.istore 5, 2) := by decide +kernel
theorem dX11_where_34 : decode cX11_where 34 = .ok (.iload 5, 2) := by decide +kernel
theorem dX11_where_36 : decode cX11_where 36 = .ok (.iconst (-1), 1) := by decide +kernel
theorem dX11_where_37 : decode cX11_where 37 = .ok (.if_icmp .ne 5, 3) := by decide +kernel
theorem dX11_where_40 : decode cX11_where 40 = .ok (.iconst (-1), 1) := by decide +kernel
theorem dX11_where_41 : decode cX11_where 41 = .ok (.ireturn, 1) := by decide +kernel
theorem dX11_where_42 : decode cX11_where 42 = .ok (.iload_n 3, 1) := by decide +kernel
theorem dX11_where_43 : decode cX11_where 43 = .ok (.lookupswitch 41 #[(0, 25), (1, 33)], 25) := by decide +kernel
theorem dX11_where_68 : decode cX11_where 68 = .ok (.aload 4, 2) := by decide +kernel
theorem dX11_where_70 : decode cX11_where 70 = .ok (.iload 5, 2) := by decide +kernel
theorem dX11_where_72 : decode cX11_where 72 = .ok (.invokevirtual 335, 3) := by decide +kernel
theorem dX11_where_75 : decode cX11_where 75 = .ok (.ireturn, 1) := by decide +kernel
theorem dX11_where_76 : decode cX11_where 76 = .ok (.aload 4, 2) := by decide +kernel
theorem dX11_where_78 : decode cX11_where 78 = .ok (.iload 5, 2) := by decide +kernel
theorem dX11_where_80 : decode cX11_where 80 = .ok (.invokevirtual 338, 3) := by decide +kernel
theorem dX11_where_83 : decode cX11_where 83 = .ok (.ireturn, 1) := by decide +kernel
theorem dX11_where_84 : decode cX11_where 84 = .ok (.iconst (-1), 1) := by decide +kernel
theorem dX11_where_85 : decode cX11_where 85 = .ok (.ireturn, 1) := by decide +kernel
theorem bX11_where_0 {d : Nat} {h0 hE h : ea_H} {rv : Option ea_V} {r0 : Option Nat} {x1 : Int32} {x2 : Int32} {x3 : Int32} (H : ∃ a7, r0 = some a7 ∧ a7 < ea_n h ∧ ea_c h a7 = 11 ∧ ∃ (d1 : Nat) (rc9 : Option Nat) (h2 : ea_H), ea_Met mX11_letterOf d1 [vR (some a7), vI x1] h (some (vR rc9)) h2 ∧ d1 + 1 ≤ d ∧ (rc9 = none → rv = some (vI (-1)) ∧ hE = h2) ∧ (∀ a10, rc9 = some a10 → (x2 < (0 : Int32) → rv = some (vI (-1)) ∧ hE = h2) ∧ (¬ x2 < (0 : Int32) → a7 < ea_n h2 ∧ ea_c h2 a7 = 11 ∧ (x2 ≤ (ea_i h2 a7 11) → a10 < ea_n h2 ∧ ea_c h2 a10 = 4 ∧ ∃ (d14 : Nat) (xc20 : Int32) (h15 : ea_H), ea_Met mX4_rowAt d14 [vR (some a10), vI x2] h2 (some (vI xc20)) h15 ∧ d14 + 1 ≤ d ∧ (¬ xc20 = ((-1) : Int32) → False) ∧ (xc20 = ((-1) : Int32) → rv = some (vI (-1)) ∧ hE = h15)) ∧ (¬ x2 ≤ (ea_i h2 a7 11) → rv = some (vI (-1)) ∧ hE = h2)))) : ea_W mX11_where d h0 rv hE 0 [(0, vR r0), (1, vI x1), (2, vI x2), (3, vI x3)] [] h := by
  refine ea_aload_n (pc := 0) dX11_where_0 rfl 0 rfl ?_
  refine ea_iload_n (pc := 1) dX11_where_1 rfl 1 rfl ?_
  obtain ⟨a7, e8, f5, g6, H⟩ := H
  refine ea_deref1 e8 ?_
  obtain ⟨d1, rc9, h2, m3, q4, H⟩ := H
  refine ea_callV (pc := 2) (As := [vI x1]) (st := []) dX11_where_2 kX11_letterOf m3 q4 rfl (Nat.le_of_ble_eq_true rfl) ew_1076 ew_1078 ew_37 (ci := 11) rfl (by decide) f5 g6 ?_
  refine ea_astore (pc := 5) (lv' := [(0, vR r0), (2, vI x2), (3, vI x3), (4, vR rc9)]) dX11_where_5 (Nat.le_of_ble_eq_true rfl) [1, 3, 4, 0] rfl ?_
  refine ea_aload (pc := 7) dX11_where_7 3 rfl ?_
  refine ea_ifnull (pc := 9) (tgt := 24) dX11_where_9 rfl (fun e11 => ?_) (fun a10 e11 => ?_)
  · have H := H.1 e11
    refine ea_iconst (pc := 24) dX11_where_24 (v := (-1)) rfl ?_
    obtain ⟨rfl, rfl⟩ := H
    exact ea_ireturn (pc := 25) dX11_where_25 rfl rfl
  · have H := H.2 a10 e11
    refine ea_iload_n (pc := 12) dX11_where_12 rfl 1 rfl ?_
    refine ea_if_lt (pc := 13) (tgt := 24) dX11_where_13 rfl (fun c23 => ?_) (fun c23 => ?_)
    · have H := H.1 c23
      refine ea_iconst (pc := 24) dX11_where_24 (v := (-1)) rfl ?_
      obtain ⟨rfl, rfl⟩ := H
      exact ea_ireturn (pc := 25) dX11_where_25 rfl rfl
    · have H := H.2 c23
      refine ea_iload_n (pc := 16) dX11_where_16 rfl 1 rfl ?_
      refine ea_aload_n (pc := 17) dX11_where_17 rfl 0 rfl ?_
      obtain ⟨f12, g13, H⟩ := H
      refine ea_deref0 e8 ?_
      refine ea_getI (pc := 18) dX11_where_18 ec_11 (k := 11) (Nat.le_of_ble_eq_true rfl) rfl (Or.inl ew_448) f12 g13 ?_
      refine ea_icmp_le (pc := 21) (tgt := 26) dX11_where_21 rfl (fun c22 => ?_) (fun c22 => ?_)
      · have H := H.1 c22
        refine ea_aload (pc := 26) dX11_where_26 3 rfl ?_
        refine ea_iload_n (pc := 28) dX11_where_28 rfl 1 rfl ?_
        obtain ⟨f18, g19, H⟩ := H
        refine ea_deref1 e11 ?_
        obtain ⟨d14, xc20, h15, m16, q17, H⟩ := H
        refine ea_callV (pc := 29) (As := [vI x2]) (st := []) dX11_where_29 kX4_rowAt m16 q17 rfl (Nat.le_of_ble_eq_true rfl) ew_1128 ew_1129 ew_1130 (ci := 4) rfl (by decide) f18 g19 ?_
        refine ea_istore (pc := 32) (lv' := [(3, vI x3), (4, vR rc9), (5, vI xc20)]) dX11_where_32 (Nat.le_of_ble_eq_true rfl) [3, 4, 0] rfl ?_
        refine ea_iload (pc := 34) dX11_where_34 2 rfl ?_
        refine ea_iconst (pc := 36) dX11_where_36 (v := (-1)) rfl ?_
        refine ea_icmp_ne (pc := 37) (tgt := 42) dX11_where_37 rfl (fun c21 => ?_) (fun c21 => ?_)
        · have H := H.1 c21
          refine ea_iload_n (pc := 42) dX11_where_42 rfl 0 rfl ?_
          exact H.elim
        · have H := H.2 c21
          refine ea_iconst (pc := 40) dX11_where_40 (v := (-1)) rfl ?_
          obtain ⟨rfl, rfl⟩ := H
          exact ea_ireturn (pc := 41) dX11_where_41 rfl rfl
      · have H := H.2 c22
        refine ea_iconst (pc := 24) dX11_where_24 (v := (-1)) rfl ?_
        obtain ⟨rfl, rfl⟩ := H
        exact ea_ireturn (pc := 25) dX11_where_25 rfl rfl
theorem dX11_sorter_0 : decode cX11_sorter 0 = .ok (.iload_n 1, 1) := by decide +kernel
theorem dX11_sorter_1 : decode cX11_sorter 1 = .ok (.iconst 1, 1) := by decide +kernel
theorem dX11_sorter_2 : decode cX11_sorter 2 = .ok (.if_icmp .lt 20, 3) := by decide +kernel
theorem dX11_sorter_5 : decode cX11_sorter 5 = .ok (.iload_n 1, 1) := by decide +kernel
theorem dX11_sorter_6 : decode cX11_sorter 6 = .ok (.bipush 99, 2) := by decide +kernel
theorem dX11_sorter_8 : decode cX11_sorter 8 = .ok (.if_icmp .gt 14, 3) := by decide +kernel
theorem dX11_sorter_11 : decode cX11_sorter 11 = .ok (.iload_n 2, 1) := by decide +kernel
theorem dX11_sorter_12 : decode cX11_sorter 12 = .ok (.ifCond .lt 10, 3) := by decide +kernel
theorem dX11_sorter_15 : decode cX11_sorter 15 = .ok (.iload_n 2, 1) := by decide +kernel
theorem dX11_sorter_16 : decode cX11_sorter 16 = .ok (.sipush 4096, 3) := by decide +kernel
theorem dX11_sorter_19 : decode cX11_sorter 19 = .ok (.if_icmp .lt 5, 3) := by decide +kernel
theorem dX11_sorter_22 : decode cX11_sorter 22 = .ok (.iconst (-1), 1) := by decide +kernel
theorem dX11_sorter_23 : decode cX11_sorter 23 = .ok (.ireturn, 1) := by decide +kernel
theorem dX11_sorter_24 : decode cX11_sorter 24 = .ok (.aload_n 0, 1) := by decide +kernel
theorem dX11_sorter_25 : decode cX11_sorter 25 = .ok (.iconst 0, 1) := by decide +kernel
theorem dX11_sorter_26 : decode cX11_sorter 26 = .ok (.putfield 96, 3) := by decide +kernel
theorem dX11_sorter_29 : decode cX11_sorter 29 = .ok (.aload_n 0, 1) := by decide +kernel
theorem dX11_sorter_30 : decode cX11_sorter 30 = .ok (.getfield 35, 3) := by decide +kernel
theorem dX11_sorter_33 : decode cX11_sorter 33 = .ok (.iload_n 1, 1) := by decide +kernel
theorem dX11_sorter_34 : decode cX11_sorter 34 = .ok (.iload_n 2, 1) := by decide +kernel
theorem dX11_sorter_35 : decode cX11_sorter 35 = .ok (.invokevirtual 344, 3) := by decide +kernel
theorem dX11_sorter_38 : decode cX11_sorter 38 = .ok (.ireturn, 1) := by decide +kernel
theorem bX11_sorter_0 {d : Nat} {h0 hE h : ea_H} {rv : Option ea_V} {r0 : Option Nat} {x1 : Int32} {x2 : Int32} (H : (x1 < (1 : Int32) → rv = some (vI (-1)) ∧ hE = h) ∧ (¬ x1 < (1 : Int32) → ((99 : Int32) < x1 → rv = some (vI (-1)) ∧ hE = h) ∧ (¬ (99 : Int32) < x1 → (x2 < (0 : Int32) → rv = some (vI (-1)) ∧ hE = h) ∧ (¬ x2 < (0 : Int32) → (x2 < (4096 : Int32) → ∃ a3, r0 = some a3 ∧ a3 < ea_n h ∧ ea_c h a3 = 11 ∧ ∀ h5, h5 = ea_wi h a3 12 0 → a3 < ea_n h5 ∧ ea_c h5 a3 = 11 ∧ ∃ a15, (ea_r h5 a3 3) = some a15 ∧ a15 < ea_n h5 ∧ ea_c h5 a15 = 3 ∧ ∃ (d9 : Nat) (xc17 : Int32) (h10 : ea_H), ea_Met mX3_add d9 [vR (some a15), vI x1, vI x2] h5 (some (vI xc17)) h10 ∧ d9 + 1 ≤ d ∧ rv = some (vI xc17) ∧ hE = h10) ∧ (¬ x2 < (4096 : Int32) → rv = some (vI (-1)) ∧ hE = h))))) : ea_W mX11_sorter d h0 rv hE 0 [(0, vR r0), (1, vI x1), (2, vI x2)] [] h := by
  refine ea_iload_n (pc := 0) dX11_sorter_0 rfl 1 rfl ?_
  refine ea_iconst (pc := 1) dX11_sorter_1 (v := 1) rfl ?_
  refine ea_icmp_lt (pc := 2) (tgt := 22) dX11_sorter_2 rfl (fun c21 => ?_) (fun c21 => ?_)
  · have H := H.1 c21
    refine ea_iconst (pc := 22) dX11_sorter_22 (v := (-1)) rfl ?_
    obtain ⟨rfl, rfl⟩ := H
    exact ea_ireturn (pc := 23) dX11_sorter_23 rfl rfl
  · have H := H.2 c21
    refine ea_iload_n (pc := 5) dX11_sorter_5 rfl 1 rfl ?_
    refine ea_bipush (pc := 6) dX11_sorter_6 (v := 99) rfl ?_
    refine ea_icmp_gt (pc := 8) (tgt := 22) dX11_sorter_8 rfl (fun c20 => ?_) (fun c20 => ?_)
    · have H := H.1 c20
      refine ea_iconst (pc := 22) dX11_sorter_22 (v := (-1)) rfl ?_
      obtain ⟨rfl, rfl⟩ := H
      exact ea_ireturn (pc := 23) dX11_sorter_23 rfl rfl
    · have H := H.2 c20
      refine ea_iload_n (pc := 11) dX11_sorter_11 rfl 2 rfl ?_
      refine ea_if_lt (pc := 12) (tgt := 22) dX11_sorter_12 rfl (fun c19 => ?_) (fun c19 => ?_)
      · have H := H.1 c19
        refine ea_iconst (pc := 22) dX11_sorter_22 (v := (-1)) rfl ?_
        obtain ⟨rfl, rfl⟩ := H
        exact ea_ireturn (pc := 23) dX11_sorter_23 rfl rfl
      · have H := H.2 c19
        refine ea_iload_n (pc := 15) dX11_sorter_15 rfl 2 rfl ?_
        refine ea_sipush (pc := 16) dX11_sorter_16 (v := 4096) rfl ?_
        refine ea_icmp_lt (pc := 19) (tgt := 24) dX11_sorter_19 rfl (fun c18 => ?_) (fun c18 => ?_)
        · have H := H.1 c18
          refine ea_aload_n (pc := 24) dX11_sorter_24 rfl 0 rfl ?_
          refine ea_iconst (pc := 25) dX11_sorter_25 (v := 0) rfl ?_
          obtain ⟨a3, e4, f1, g2, H⟩ := H
          refine ea_deref1 e4 ?_
          refine ea_putI (pc := 26) dX11_sorter_26 ec_11 (k := 12) (Nat.le_of_ble_eq_true rfl) rfl (Or.inl ⟨rfl, Or.inl ew_449⟩) (ea_bn (Or.inl rfl)) (ea_bf (Or.inl rfl)) f1 g2 ?_
          obtain ⟨h5, E6⟩ : ∃ z, z = ea_wi h a3 12 0 := ⟨_, rfl⟩
          have H := H h5 E6
          refine ea_nm E6 ?_
          refine ea_aload_n (pc := 29) dX11_sorter_29 rfl 0 rfl ?_
          obtain ⟨f7, g8, H⟩ := H
          refine ea_deref0 e4 ?_
          refine ea_getR (pc := 30) dX11_sorter_30 ec_11 (k := 3) (Nat.le_of_ble_eq_true rfl) rfl (Or.inl ew_440) f7 g8 rfl ?_
          refine ea_iload_n (pc := 33) dX11_sorter_33 rfl 1 rfl ?_
          refine ea_iload_n (pc := 34) dX11_sorter_34 rfl 2 rfl ?_
          obtain ⟨a15, e16, f13, g14, H⟩ := H
          refine ea_deref2 e16 ?_
          obtain ⟨d9, xc17, h10, m11, q12, H⟩ := H
          refine ea_callV (pc := 35) (As := [vI x1, vI x2]) (st := []) dX11_sorter_35 kX3_add m11 q12 rfl (Nat.le_of_ble_eq_true rfl) ew_1137 ew_1138 ew_1139 (ci := 3) rfl (by decide) f13 g14 ?_
          obtain ⟨rfl, rfl⟩ := H
          exact ea_ireturn (pc := 38) dX11_sorter_38 rfl rfl
        · have H := H.2 c18
          refine ea_iconst (pc := 22) dX11_sorter_22 (v := (-1)) rfl ?_
          obtain ⟨rfl, rfl⟩ := H
          exact ea_ireturn (pc := 23) dX11_sorter_23 rfl rfl
theorem dX11_seat_0 : decode cX11_seat 0 = .ok (.iload_n 1, 1) := by decide +kernel
theorem dX11_seat_1 : decode cX11_seat 1 = .ok (.ifCond .lt 30, 3) := by decide +kernel
theorem dX11_seat_4 : decode cX11_seat 4 = .ok (.iload_n 1, 1) := by decide +kernel
theorem dX11_seat_5 : decode cX11_seat 5 = .ok (.aload_n 0, 1) := by decide +kernel
theorem dX11_seat_6 : decode cX11_seat 6 = .ok (.getfield 35, 3) := by decide +kernel
theorem dX11_seat_9 : decode cX11_seat 9 = .ok (.getfield 155, 3) := by decide +kernel
theorem dX11_seat_12 : decode cX11_seat 12 = .ok (.if_icmp .ge 19, 3) := by decide +kernel
theorem dX11_seat_15 : decode cX11_seat 15 = .ok (.iload_n 2, 1) := by decide +kernel
theorem dX11_seat_16 : decode cX11_seat 16 = .ok (.iconst (-1), 1) := by decide +kernel
theorem dX11_seat_17 : decode cX11_seat 17 = .ok (.if_icmp .eq 16, 3) := by decide +kernel
theorem dX11_seat_20 : decode cX11_seat 20 = .ok (.aload_n 0, 1) := by decide +kernel
theorem dX11_seat_21 : decode cX11_seat 21 = .ok (.getfield 19, 3) := by decide +kernel
theorem dX11_seat_24 : decode cX11_seat 24 = .ok (.iload_n 2, 1) := by decide +kernel
theorem dX11_seat_25 : decode cX11_seat 25 = .ok (.invokevirtual 103, 3) := by decide +kernel
theorem dX11_seat_28 : decode cX11_seat 28 = .ok (.ifCond .ne 5, 3) := by decide +kernel
theorem dX11_seat_31 : decode cX11_seat 31 = .ok (.iconst 0, 1) := by decide +kernel
theorem dX11_seat_32 : decode cX11_seat 32 = .ok (.ireturn, 1) := by decide +kernel
theorem dX11_seat_33 : decode cX11_seat 33 = .ok (.aload_n 0, 1) := by decide +kernel
theorem dX11_seat_34 : decode cX11_seat 34 = .ok (.getfield 35, 3) := by decide +kernel
theorem dX11_seat_37 : decode cX11_seat 37 = .ok (.getfield 346, 3) := by decide +kernel
theorem dX11_seat_40 : decode cX11_seat 40 = .ok (.iload_n 1, 1) := by decide +kernel
theorem dX11_seat_41 : decode cX11_seat 41 = .ok (.iload_n 2, 1) := by decide +kernel
theorem dX11_seat_42 : decode cX11_seat 42 = .ok (.iastore, 1) := by decide +kernel
theorem dX11_seat_43 : decode cX11_seat 43 = .ok (.aload_n 0, 1) := by decide +kernel
theorem dX11_seat_44 : decode cX11_seat 44 = .ok (.iconst 0, 1) := by decide +kernel
theorem dX11_seat_45 : decode cX11_seat 45 = .ok (.putfield 96, 3) := by decide +kernel
theorem dX11_seat_48 : decode cX11_seat 48 = .ok (.iconst 1, 1) := by decide +kernel
theorem dX11_seat_49 : decode cX11_seat 49 = .ok (.ireturn, 1) := by decide +kernel
theorem bX11_seat_0 {d : Nat} {h0 hE h : ea_H} {rv : Option ea_V} {r0 : Option Nat} {x1 : Int32} {x2 : Int32} (H : (x1 < (0 : Int32) → rv = some (vI 0) ∧ hE = h) ∧ (¬ x1 < (0 : Int32) → ∃ a3, r0 = some a3 ∧ a3 < ea_n h ∧ ea_c h a3 = 11 ∧ ∃ a7, (ea_r h a3 3) = some a7 ∧ a7 < ea_n h ∧ ea_c h a7 = 3 ∧ ((ea_i h a7 0) ≤ x1 → rv = some (vI 0) ∧ hE = h) ∧ (¬ (ea_i h a7 0) ≤ x1 → (x2 = ((-1) : Int32) → ea_W mX11_seat d h0 rv hE 33 [(0, vR r0), (1, vI x1), (2, vI x2)] [] h) ∧ (¬ x2 = ((-1) : Int32) → a3 < ea_n h ∧ ea_c h a3 = 11 ∧ ∃ a17, (ea_r h a3 1) = some a17 ∧ a17 < ea_n h ∧ ea_c h a17 = 9 ∧ ∃ (d11 : Nat) (xc19 : Int32) (h12 : ea_H), ea_Met mX9_has d11 [vR (some a17), vI x2] h (some (vI xc19)) h12 ∧ d11 + 1 ≤ d ∧ (¬ xc19 = (0 : Int32) → ea_W mX11_seat d h0 rv hE 33 [(0, vR r0), (1, vI x1), (2, vI x2)] [] h12) ∧ (xc19 = (0 : Int32) → rv = some (vI 0) ∧ hE = h12))))) : ea_W mX11_seat d h0 rv hE 0 [(0, vR r0), (1, vI x1), (2, vI x2)] [] h := by
  refine ea_iload_n (pc := 0) dX11_seat_0 rfl 1 rfl ?_
  refine ea_if_lt (pc := 1) (tgt := 31) dX11_seat_1 rfl (fun c23 => ?_) (fun c23 => ?_)
  · have H := H.1 c23
    refine ea_iconst (pc := 31) dX11_seat_31 (v := 0) rfl ?_
    obtain ⟨rfl, rfl⟩ := H
    exact ea_ireturn (pc := 32) dX11_seat_32 rfl (ea_bn (Or.inl rfl))
  · have H := H.2 c23
    refine ea_iload_n (pc := 4) dX11_seat_4 rfl 1 rfl ?_
    refine ea_aload_n (pc := 5) dX11_seat_5 rfl 0 rfl ?_
    obtain ⟨a3, e4, f1, g2, H⟩ := H
    refine ea_deref0 e4 ?_
    refine ea_getR (pc := 6) dX11_seat_6 ec_11 (k := 3) (Nat.le_of_ble_eq_true rfl) rfl (Or.inl ew_440) f1 g2 rfl ?_
    obtain ⟨a7, e8, f5, g6, H⟩ := H
    refine ea_deref0 e8 ?_
    refine ea_getI (pc := 9) dX11_seat_9 ec_3 (k := 0) (Nat.le_of_ble_eq_true rfl) rfl (Or.inl ew_262) f5 g6 ?_
    refine ea_icmp_ge (pc := 12) (tgt := 31) dX11_seat_12 rfl (fun c22 => ?_) (fun c22 => ?_)
    · have H := H.1 c22
      refine ea_iconst (pc := 31) dX11_seat_31 (v := 0) rfl ?_
      obtain ⟨rfl, rfl⟩ := H
      exact ea_ireturn (pc := 32) dX11_seat_32 rfl (ea_bn (Or.inl rfl))
    · have H := H.2 c22
      refine ea_iload_n (pc := 15) dX11_seat_15 rfl 2 rfl ?_
      refine ea_iconst (pc := 16) dX11_seat_16 (v := (-1)) rfl ?_
      refine ea_icmp_eq (pc := 17) (tgt := 33) dX11_seat_17 rfl (fun c21 => ?_) (fun c21 => ?_)
      · have H := H.1 c21
        exact H
      · have H := H.2 c21
        refine ea_aload_n (pc := 20) dX11_seat_20 rfl 0 rfl ?_
        obtain ⟨f9, g10, H⟩ := H
        refine ea_deref0 e4 ?_
        refine ea_getR (pc := 21) dX11_seat_21 ec_11 (k := 1) (Nat.le_of_ble_eq_true rfl) rfl (Or.inl ew_438) f9 g10 rfl ?_
        refine ea_iload_n (pc := 24) dX11_seat_24 rfl 2 rfl ?_
        obtain ⟨a17, e18, f15, g16, H⟩ := H
        refine ea_deref1 e18 ?_
        obtain ⟨d11, xc19, h12, m13, q14, H⟩ := H
        refine ea_callV (pc := 25) (As := [vI x2]) (st := []) dX11_seat_25 kX9_has m13 q14 rfl (Nat.le_of_ble_eq_true rfl) ew_518 ew_519 ew_520 (ci := 9) rfl (by decide) f15 g16 ?_
        refine ea_if_ne (pc := 28) (tgt := 33) dX11_seat_28 rfl (fun c20 => ?_) (fun c20 => ?_)
        · have H := H.1 c20
          exact H
        · have H := H.2 c20
          refine ea_iconst (pc := 31) dX11_seat_31 (v := 0) rfl ?_
          obtain ⟨rfl, rfl⟩ := H
          exact ea_ireturn (pc := 32) dX11_seat_32 rfl (ea_bn (Or.inl rfl))
theorem bX11_seat_33 {d : Nat} {h0 hE h : ea_H} {rv : Option ea_V} {r0 : Option Nat} {x1 : Int32} {x2 : Int32} (H : ∃ a3, r0 = some a3 ∧ a3 < ea_n h ∧ ea_c h a3 = 11 ∧ ∃ a7, (ea_r h a3 3) = some a7 ∧ a7 < ea_n h ∧ ea_c h a7 = 3 ∧ ∃ a11, (ea_r h a7 1) = some a11 ∧ a11 < ea_n h ∧ ea_c h a11 = 20 ∧ vp_in x1 (ea_l h a11) ∧ ∀ h14, h14 = ea_wi h a11 (Int32.toNatClampNeg x1) x2 → a3 < ea_n h14 ∧ ea_c h14 a3 = 11 ∧ ∀ h18, h18 = ea_wi h14 a3 12 0 → rv = some (vI 1) ∧ hE = h18) : ea_W mX11_seat d h0 rv hE 33 [(0, vR r0), (1, vI x1), (2, vI x2)] [] h := by
  refine ea_aload_n (pc := 33) dX11_seat_33 rfl 0 rfl ?_
  obtain ⟨a3, e4, f1, g2, H⟩ := H
  refine ea_deref0 e4 ?_
  refine ea_getR (pc := 34) dX11_seat_34 ec_11 (k := 3) (Nat.le_of_ble_eq_true rfl) rfl (Or.inl ew_440) f1 g2 rfl ?_
  obtain ⟨a7, e8, f5, g6, H⟩ := H
  refine ea_deref0 e8 ?_
  refine ea_getR (pc := 37) dX11_seat_37 ec_3 (k := 1) (Nat.le_of_ble_eq_true rfl) rfl (Or.inl ew_264) f5 g6 rfl ?_
  refine ea_iload_n (pc := 40) dX11_seat_40 rfl 1 rfl ?_
  refine ea_iload_n (pc := 41) dX11_seat_41 rfl 2 rfl ?_
  obtain ⟨a11, e12, f9, g10, H⟩ := H
  refine ea_deref2 e12 ?_
  obtain ⟨z13, H⟩ := H
  refine ea_iast (pc := 42) dX11_seat_42 f9 g10 z13 ?_
  obtain ⟨h14, E15⟩ : ∃ z, z = ea_wi h a11 (Int32.toNatClampNeg x1) x2 := ⟨_, rfl⟩
  have H := H h14 E15
  refine ea_nm E15 ?_
  refine ea_aload_n (pc := 43) dX11_seat_43 rfl 0 rfl ?_
  refine ea_iconst (pc := 44) dX11_seat_44 (v := 0) rfl ?_
  obtain ⟨f16, g17, H⟩ := H
  refine ea_deref1 e4 ?_
  refine ea_putI (pc := 45) dX11_seat_45 ec_11 (k := 12) (Nat.le_of_ble_eq_true rfl) rfl (Or.inl ⟨rfl, Or.inl ew_449⟩) (ea_bn (Or.inl rfl)) (ea_bf (Or.inl rfl)) f16 g17 ?_
  obtain ⟨h18, E19⟩ : ∃ z, z = ea_wi h14 a3 12 0 := ⟨_, rfl⟩
  have H := H h18 E19
  refine ea_nm E19 ?_
  refine ea_iconst (pc := 48) dX11_seat_48 (v := 1) rfl ?_
  obtain ⟨rfl, rfl⟩ := H
  exact ea_ireturn (pc := 49) dX11_seat_49 rfl (ea_bn (Or.inr rfl))
theorem dX11_run_0 : decode cX11_run 0 = .ok (.aload_n 0, 1) := by decide +kernel
theorem dX11_run_1 : decode cX11_run 1 = .ok (.getfield 19, 3) := by decide +kernel
theorem dX11_run_4 : decode cX11_run 4 = .ok (.iload_n 1, 1) := by decide +kernel
theorem dX11_run_5 : decode cX11_run 5 = .ok (.iload_n 2, 1) := by decide +kernel
theorem dX11_run_6 : decode cX11_run 6 = .ok (.invokevirtual 135, 3) := by decide +kernel
theorem dX11_run_9 : decode cX11_run 9 = .ok (.ifCond .ne 5, 3) := by decide +kernel
theorem dX11_run_12 : decode cX11_run 12 = .ok (.iconst (-1), 1) := by decide +kernel
theorem dX11_run_13 : decode cX11_run 13 = .ok (.ireturn, 1) := by decide +kernel
theorem dX11_run_14 : decode cX11_run 14 = .ok (.bipush 10, 2) := by decide +kernel
theorem dX11_run_16 : decode cX11_run 16 = .ok (.iload_n 2, 1) := by decide +kernel
theorem dX11_run_17 : decode cX11_run 17 = .ok (.imul, 1) := by decide +kernel
theorem dX11_run_18 : decode cX11_run 18 = .ok (.iload_n 1, 1) := by decide +kernel
theorem dX11_run_19 : decode cX11_run 19 = .ok (.iadd, 1) := by decide +kernel
theorem dX11_run_20 : decode cX11_run 20 = .ok (.istore 4, 2) := by decide +kernel
theorem dX11_run_22 : decode cX11_run 22 = .ok (.iload_n 3, 1) := by decide +kernel
theorem dX11_run_23 : decode cX11_run 23 = .ok (.tableswitch 91 0 4 #[33, 44, 55, 69, 80], 33) := by decide +kernel
theorem dX11_run_56 : decode cX11_run 56 = .ok (.aload_n 0, 1) := by decide +kernel
theorem dX11_run_57 : decode cX11_run 57 = .ok (.getfield 57, 3) := by decide +kernel
theorem dX11_run_60 : decode cX11_run 60 = .ok (.iload 4, 2) := by decide +kernel
theorem dX11_run_62 : decode cX11_run 62 = .ok (.iconst 0, 1) := by decide +kernel
theorem dX11_run_63 : decode cX11_run 63 = .ok (.invokevirtual 349, 3) := by decide +kernel
theorem dX11_run_66 : decode cX11_run 66 = .ok (.ireturn, 1) := by decide +kernel
theorem dX11_run_67 : decode cX11_run 67 = .ok (.aload_n 0, 1) := by decide +kernel
theorem dX11_run_68 : decode cX11_run 68 = .ok (.getfield 57, 3) := by decide +kernel
theorem dX11_run_71 : decode cX11_run 71 = .ok (.iload 4, 2) := by decide +kernel
theorem dX11_run_73 : decode cX11_run 73 = .ok (.iconst 1, 1) := by decide +kernel
theorem dX11_run_74 : decode cX11_run 74 = .ok (.invokevirtual 349, 3) := by decide +kernel
theorem dX11_run_77 : decode cX11_run 77 = .ok (.ireturn, 1) := by decide +kernel
theorem dX11_run_78 : decode cX11_run 78 = .ok (.aload_n 0, 1) := by decide +kernel
theorem dX11_run_79 : decode cX11_run 79 = .ok (.getfield 19, 3) := by decide +kernel
theorem dX11_run_82 : decode cX11_run 82 = .ok (.iload_n 1, 1) := by decide +kernel
theorem dX11_run_83 : decode cX11_run 83 = .ok (.iload_n 2, 1) := by decide +kernel
theorem dX11_run_84 : decode cX11_run 84 = .ok (.aload_n 0, 1) := by decide +kernel
theorem dX11_run_85 : decode cX11_run 85 = .ok (.getfield 100, 3) := by decide +kernel
theorem dX11_run_88 : decode cX11_run 88 = .ok (.invokevirtual 353, 3) := by decide +kernel
theorem dX11_run_91 : decode cX11_run 91 = .ok (.ireturn, 1) := by decide +kernel
theorem dX11_run_92 : decode cX11_run 92 = .ok (.aload_n 0, 1) := by decide +kernel
theorem dX11_run_93 : decode cX11_run 93 = .ok (.getfield 57, 3) := by decide +kernel
theorem dX11_run_96 : decode cX11_run 96 = .ok (.getfield 356, 3) := by decide +kernel
theorem dX11_run_99 : decode cX11_run 99 = .ok (.iload 4, 2) := by decide +kernel
theorem dX11_run_101 : decode cX11_run 101 = .ok (.iaload, 1) := by decide +kernel
theorem dX11_run_102 : decode cX11_run 102 = .ok (.ireturn, 1) := by decide +kernel
theorem dX11_run_103 : decode cX11_run 103 = .ok (.aload_n 0, 1) := by decide +kernel
theorem dX11_run_104 : decode cX11_run 104 = .ok (.getfield 19, 3) := by decide +kernel
theorem dX11_run_107 : decode cX11_run 107 = .ok (.getfield 132, 3) := by decide +kernel
theorem dX11_run_110 : decode cX11_run 110 = .ok (.iload 4, 2) := by decide +kernel
theorem dX11_run_112 : decode cX11_run 112 = .ok (.iaload, 1) := by decide +kernel
theorem dX11_run_113 : decode cX11_run 113 = .ok (.ireturn, 1) := by decide +kernel
theorem dX11_run_114 : decode cX11_run 114 = .ok (.iconst (-1), 1) := by decide +kernel
theorem dX11_run_115 : decode cX11_run 115 = .ok (.ireturn, 1) := by decide +kernel
theorem bX11_run_0 {d : Nat} {h0 hE h : ea_H} {rv : Option ea_V} {r0 : Option Nat} {x1 : Int32} {x2 : Int32} {x3 : Int32} (H : ∃ a3, r0 = some a3 ∧ a3 < ea_n h ∧ ea_c h a3 = 11 ∧ ∃ a11, (ea_r h a3 1) = some a11 ∧ a11 < ea_n h ∧ ea_c h a11 = 9 ∧ ∃ (d5 : Nat) (xc13 : Int32) (h6 : ea_H), ea_Met mX9_hasRun d5 [vR (some a11), vI x1, vI x2] h (some (vI xc13)) h6 ∧ d5 + 1 ≤ d ∧ (¬ xc13 = (0 : Int32) → (Int32.toInt x3 = 0 → a3 < ea_n h6 ∧ ea_c h6 a3 = 11 ∧ ∃ a22, (ea_r h6 a3 6) = some a22 ∧ a22 < ea_n h6 ∧ ea_c h6 a22 = 1 ∧ ∃ (d16 : Nat) (xc24 : Int32) (h17 : ea_H), ea_Met mX1_aboardOf d16 [vR (some a22), vI (((10 : Int32) * x2) + x1), vI 0] h6 (some (vI xc24)) h17 ∧ d16 + 1 ≤ d ∧ rv = some (vI xc24) ∧ hE = h17) ∧ (Int32.toInt x3 = 1 → a3 < ea_n h6 ∧ ea_c h6 a3 = 11 ∧ ∃ a33, (ea_r h6 a3 6) = some a33 ∧ a33 < ea_n h6 ∧ ea_c h6 a33 = 1 ∧ ∃ (d27 : Nat) (xc35 : Int32) (h28 : ea_H), ea_Met mX1_aboardOf d27 [vR (some a33), vI (((10 : Int32) * x2) + x1), vI 1] h6 (some (vI xc35)) h28 ∧ d27 + 1 ≤ d ∧ rv = some (vI xc35) ∧ hE = h28) ∧ (Int32.toInt x3 = 2 → a3 < ea_n h6 ∧ ea_c h6 a3 = 11 ∧ a3 < ea_n h6 ∧ ea_c h6 a3 = 11 ∧ ∃ a46, (ea_r h6 a3 1) = some a46 ∧ a46 < ea_n h6 ∧ ea_c h6 a46 = 9 ∧ ∃ (d40 : Nat) (xc48 : Int32) (h41 : ea_H), ea_Met mX9_goneFrom d40 [vR (some a46), vI x1, vI x2, vI (ea_i h6 a3 11)] h6 (some (vI xc48)) h41 ∧ d40 + 1 ≤ d ∧ rv = some (vI xc48) ∧ hE = h41) ∧ (Int32.toInt x3 = 3 → a3 < ea_n h6 ∧ ea_c h6 a3 = 11 ∧ ∃ a53, (ea_r h6 a3 6) = some a53 ∧ a53 < ea_n h6 ∧ ea_c h6 a53 = 1 ∧ ∃ a57, (ea_r h6 a53 6) = some a57 ∧ a57 < ea_n h6 ∧ ea_c h6 a57 = 20 ∧ vp_in (((10 : Int32) * x2) + x1) (ea_l h6 a57) ∧ rv = some (vI (ea_i h6 a57 (Int32.toNatClampNeg (((10 : Int32) * x2) + x1)))) ∧ hE = h6) ∧ (Int32.toInt x3 = 4 → a3 < ea_n h6 ∧ ea_c h6 a3 = 11 ∧ ∃ a64, (ea_r h6 a3 1) = some a64 ∧ a64 < ea_n h6 ∧ ea_c h6 a64 = 9 ∧ ∃ a68, (ea_r h6 a64 6) = some a68 ∧ a68 < ea_n h6 ∧ ea_c h6 a68 = 20 ∧ vp_in (((10 : Int32) * x2) + x1) (ea_l h6 a68) ∧ rv = some (vI (ea_i h6 a68 (Int32.toNatClampNeg (((10 : Int32) * x2) + x1)))) ∧ hE = h6) ∧ (Int32.toInt x3 < 0 ∨ 4 < Int32.toInt x3 → rv = some (vI (-1)) ∧ hE = h6)) ∧ (xc13 = (0 : Int32) → rv = some (vI (-1)) ∧ hE = h6)) : ea_W mX11_run d h0 rv hE 0 [(0, vR r0), (1, vI x1), (2, vI x2), (3, vI x3)] [] h := by
  refine ea_aload_n (pc := 0) dX11_run_0 rfl 0 rfl ?_
  obtain ⟨a3, e4, f1, g2, H⟩ := H
  refine ea_deref0 e4 ?_
  refine ea_getR (pc := 1) dX11_run_1 ec_11 (k := 1) (Nat.le_of_ble_eq_true rfl) rfl (Or.inl ew_438) f1 g2 rfl ?_
  refine ea_iload_n (pc := 4) dX11_run_4 rfl 1 rfl ?_
  refine ea_iload_n (pc := 5) dX11_run_5 rfl 2 rfl ?_
  obtain ⟨a11, e12, f9, g10, H⟩ := H
  refine ea_deref2 e12 ?_
  obtain ⟨d5, xc13, h6, m7, q8, H⟩ := H
  refine ea_callV (pc := 6) (As := [vI x1, vI x2]) (st := []) dX11_run_6 kX9_hasRun m7 q8 rfl (Nat.le_of_ble_eq_true rfl) ew_542 ew_543 ew_544 (ci := 9) rfl (by decide) f9 g10 ?_
  refine ea_if_ne (pc := 9) (tgt := 14) dX11_run_9 rfl (fun c71 => ?_) (fun c71 => ?_)
  · have H := H.1 c71
    refine ea_bipush (pc := 14) dX11_run_14 (v := 10) rfl ?_
    refine ea_iload_n (pc := 16) dX11_run_16 rfl 2 rfl ?_
    refine ea_imul (pc := 17) dX11_run_17 ?_
    refine ea_iload_n (pc := 18) dX11_run_18 rfl 1 rfl ?_
    refine ea_iadd (pc := 19) dX11_run_19 ?_
    refine ea_istore (pc := 20) (lv' := [(0, vR r0), (1, vI x1), (2, vI x2), (3, vI x3), (4, vI (((10 : Int32) * x2) + x1))]) dX11_run_20 (Nat.le_of_ble_eq_true rfl) [1, 2, 3, 4, 0] rfl ?_
    refine ea_iload_n (pc := 22) dX11_run_22 rfl 3 rfl ?_
    by_cases qc1 : Int32.toInt x3 = 0
    · have H := H.1 qc1
      refine ea_tswIn (pc := 23) (tgt := 56) dX11_run_23 (by omega) (by omega) (by rw [qc1]; rfl) rfl ?_
      refine ea_aload_n (pc := 56) dX11_run_56 rfl 0 rfl ?_
      obtain ⟨f14, g15, H⟩ := H
      refine ea_deref0 e4 ?_
      refine ea_getR (pc := 57) dX11_run_57 ec_11 (k := 6) (Nat.le_of_ble_eq_true rfl) rfl (Or.inl ew_443) f14 g15 rfl ?_
      refine ea_iload (pc := 60) dX11_run_60 4 rfl ?_
      refine ea_iconst (pc := 62) dX11_run_62 (v := 0) rfl ?_
      obtain ⟨a22, e23, f20, g21, H⟩ := H
      refine ea_deref2 e23 ?_
      obtain ⟨d16, xc24, h17, m18, q19, H⟩ := H
      refine ea_callV (pc := 63) (As := [vI (((10 : Int32) * x2) + x1), vI 0]) (st := []) dX11_run_63 kX1_aboardOf m18 q19 rfl (Nat.le_of_ble_eq_true rfl) ew_1149 ew_1150 ew_1151 (ci := 1) rfl (by decide) f20 g21 ?_
      obtain ⟨rfl, rfl⟩ := H
      exact ea_ireturn (pc := 66) dX11_run_66 rfl rfl
    by_cases qc2 : Int32.toInt x3 = 1
    · have H := H.2.1 qc2
      refine ea_tswIn (pc := 23) (tgt := 67) dX11_run_23 (by omega) (by omega) (by rw [qc2]; rfl) rfl ?_
      refine ea_aload_n (pc := 67) dX11_run_67 rfl 0 rfl ?_
      obtain ⟨f25, g26, H⟩ := H
      refine ea_deref0 e4 ?_
      refine ea_getR (pc := 68) dX11_run_68 ec_11 (k := 6) (Nat.le_of_ble_eq_true rfl) rfl (Or.inl ew_443) f25 g26 rfl ?_
      refine ea_iload (pc := 71) dX11_run_71 4 rfl ?_
      refine ea_iconst (pc := 73) dX11_run_73 (v := 1) rfl ?_
      obtain ⟨a33, e34, f31, g32, H⟩ := H
      refine ea_deref2 e34 ?_
      obtain ⟨d27, xc35, h28, m29, q30, H⟩ := H
      refine ea_callV (pc := 74) (As := [vI (((10 : Int32) * x2) + x1), vI 1]) (st := []) dX11_run_74 kX1_aboardOf m29 q30 rfl (Nat.le_of_ble_eq_true rfl) ew_1149 ew_1150 ew_1151 (ci := 1) rfl (by decide) f31 g32 ?_
      obtain ⟨rfl, rfl⟩ := H
      exact ea_ireturn (pc := 77) dX11_run_77 rfl rfl
    by_cases qc3 : Int32.toInt x3 = 2
    · have H := H.2.2.1 qc3
      refine ea_tswIn (pc := 23) (tgt := 78) dX11_run_23 (by omega) (by omega) (by rw [qc3]; rfl) rfl ?_
      refine ea_aload_n (pc := 78) dX11_run_78 rfl 0 rfl ?_
      obtain ⟨f36, g37, H⟩ := H
      refine ea_deref0 e4 ?_
      refine ea_getR (pc := 79) dX11_run_79 ec_11 (k := 1) (Nat.le_of_ble_eq_true rfl) rfl (Or.inl ew_438) f36 g37 rfl ?_
      refine ea_iload_n (pc := 82) dX11_run_82 rfl 1 rfl ?_
      refine ea_iload_n (pc := 83) dX11_run_83 rfl 2 rfl ?_
      refine ea_aload_n (pc := 84) dX11_run_84 rfl 0 rfl ?_
      obtain ⟨f38, g39, H⟩ := H
      refine ea_deref0 e4 ?_
      refine ea_getI (pc := 85) dX11_run_85 ec_11 (k := 11) (Nat.le_of_ble_eq_true rfl) rfl (Or.inl ew_448) f38 g39 ?_
      obtain ⟨a46, e47, f44, g45, H⟩ := H
      refine ea_deref3 e47 ?_
      obtain ⟨d40, xc48, h41, m42, q43, H⟩ := H
      refine ea_callV (pc := 88) (As := [vI x1, vI x2, vI (ea_i h6 a3 11)]) (st := []) dX11_run_88 kX9_goneFrom m42 q43 rfl (Nat.le_of_ble_eq_true rfl) ew_1153 ew_1154 ew_1155 (ci := 9) rfl (by decide) f44 g45 ?_
      obtain ⟨rfl, rfl⟩ := H
      exact ea_ireturn (pc := 91) dX11_run_91 rfl rfl
    by_cases qc4 : Int32.toInt x3 = 3
    · have H := H.2.2.2.1 qc4
      refine ea_tswIn (pc := 23) (tgt := 92) dX11_run_23 (by omega) (by omega) (by rw [qc4]; rfl) rfl ?_
      refine ea_aload_n (pc := 92) dX11_run_92 rfl 0 rfl ?_
      obtain ⟨f49, g50, H⟩ := H
      refine ea_deref0 e4 ?_
      refine ea_getR (pc := 93) dX11_run_93 ec_11 (k := 6) (Nat.le_of_ble_eq_true rfl) rfl (Or.inl ew_443) f49 g50 rfl ?_
      obtain ⟨a53, e54, f51, g52, H⟩ := H
      refine ea_deref0 e54 ?_
      refine ea_getR (pc := 96) dX11_run_96 ec_1 (k := 6) (Nat.le_of_ble_eq_true rfl) rfl (Or.inl ew_372) f51 g52 rfl ?_
      refine ea_iload (pc := 99) dX11_run_99 4 rfl ?_
      obtain ⟨a57, e58, f55, g56, H⟩ := H
      refine ea_deref1 e58 ?_
      obtain ⟨z59, H⟩ := H
      refine ea_iald (pc := 101) dX11_run_101 f55 g56 z59 ?_
      obtain ⟨rfl, rfl⟩ := H
      exact ea_ireturn (pc := 102) dX11_run_102 rfl rfl
    by_cases qc5 : Int32.toInt x3 = 4
    · have H := H.2.2.2.2.1 qc5
      refine ea_tswIn (pc := 23) (tgt := 103) dX11_run_23 (by omega) (by omega) (by rw [qc5]; rfl) rfl ?_
      refine ea_aload_n (pc := 103) dX11_run_103 rfl 0 rfl ?_
      obtain ⟨f60, g61, H⟩ := H
      refine ea_deref0 e4 ?_
      refine ea_getR (pc := 104) dX11_run_104 ec_11 (k := 1) (Nat.le_of_ble_eq_true rfl) rfl (Or.inl ew_438) f60 g61 rfl ?_
      obtain ⟨a64, e65, f62, g63, H⟩ := H
      refine ea_deref0 e65 ?_
      refine ea_getR (pc := 107) dX11_run_107 ec_9 (k := 6) (Nat.le_of_ble_eq_true rfl) rfl (Or.inl ew_197) f62 g63 rfl ?_
      refine ea_iload (pc := 110) dX11_run_110 4 rfl ?_
      obtain ⟨a68, e69, f66, g67, H⟩ := H
      refine ea_deref1 e69 ?_
      obtain ⟨z70, H⟩ := H
      refine ea_iald (pc := 112) dX11_run_112 f66 g67 z70 ?_
      obtain ⟨rfl, rfl⟩ := H
      exact ea_ireturn (pc := 113) dX11_run_113 rfl rfl
    have qd : Int32.toInt x3 < 0 ∨ 4 < Int32.toInt x3 := by omega
    have H := H.2.2.2.2.2 qd
    refine ea_tswOut (pc := 23) (tgt := 114) dX11_run_23 qd rfl ?_
    refine ea_iconst (pc := 114) dX11_run_114 (v := (-1)) rfl ?_
    obtain ⟨rfl, rfl⟩ := H
    exact ea_ireturn (pc := 115) dX11_run_115 rfl rfl
  · have H := H.2 c71
    refine ea_iconst (pc := 12) dX11_run_12 (v := (-1)) rfl ?_
    obtain ⟨rfl, rfl⟩ := H
    exact ea_ireturn (pc := 13) dX11_run_13 rfl rfl
