/-! blocks -/
theorem dX4_note_0 : decode cX4_note 0 = .ok (.aload_n 0, 1) := by decide +kernel
theorem dX4_note_1 : decode cX4_note 1 = .ok (.getfield 49, 3) := by decide +kernel
theorem dX4_note_4 : decode cX4_note 4 = .ok (.aload_n 0, 1) := by decide +kernel
theorem dX4_note_5 : decode cX4_note 5 = .ok (.getfield 21, 3) := by decide +kernel
theorem dX4_note_8 : decode cX4_note 8 = .ok (.arraylength, 1) := by decide +kernel
theorem dX4_note_9 : decode cX4_note 9 = .ok (.if_icmp .lt 21, 3) := by decide +kernel
theorem dX4_note_12 : decode cX4_note 12 = .ok (.aload_n 0, 1) := by decide +kernel
theorem dX4_note_13 : decode cX4_note 13 = .ok (.aload_n 0, 1) := by decide +kernel
theorem dX4_note_14 : decode cX4_note 14 = .ok (.getfield 21, 3) := by decide +kernel
theorem dX4_note_17 : decode cX4_note 17 = .ok (.iconst 2, 1) := by decide +kernel
theorem dX4_note_18 : decode cX4_note 18 = .ok (.aload_n 0, 1) := by decide +kernel
theorem dX4_note_19 : decode cX4_note 19 = .ok (.getfield 21, 3) := by decide +kernel
theorem dX4_note_22 : decode cX4_note 22 = .ok (.arraylength, 1) := by decide +kernel
theorem dX4_note_23 : decode cX4_note 23 = .ok (.imul, 1) := by decide +kernel
theorem dX4_note_24 : decode cX4_note 24 = .ok (.invokestatic 52, 3) := by decide +kernel
theorem dX4_note_27 : decode cX4_note 27 = .ok (.putfield 21, 3) := by decide +kernel
theorem dX4_note_30 : decode cX4_note 30 = .ok (.aload_n 0, 1) := by decide +kernel
theorem dX4_note_31 : decode cX4_note 31 = .ok (.getfield 21, 3) := by decide +kernel
theorem dX4_note_34 : decode cX4_note 34 = .ok (.aload_n 0, 1) := by decide +kernel
theorem dX4_note_35 : decode cX4_note 35 = .ok (.getfield 49, 3) := by decide +kernel
theorem dX4_note_38 : decode cX4_note 38 = .ok (.iload_n 1, 1) := by decide +kernel
theorem dX4_note_39 : decode cX4_note 39 = .ok (.bipush 10, 2) := by decide +kernel
theorem dX4_note_41 : decode cX4_note 41 = .ok (.ishl, 1) := by decide +kernel
theorem dX4_note_42 : decode cX4_note 42 = .ok (.iload_n 2, 1) := by decide +kernel
theorem dX4_note_43 : decode cX4_note 43 = .ok (.bipush 7, 2) := by decide +kernel
theorem dX4_note_45 : decode cX4_note 45 = .ok (.ishl, 1) := by decide +kernel
theorem dX4_note_46 : decode cX4_note 46 = .ok (.ior, 1) := by decide +kernel
theorem dX4_note_47 : decode cX4_note 47 = .ok (.iload_n 3, 1) := by decide +kernel
theorem dX4_note_48 : decode cX4_note 48 = .ok (.ior, 1) := by decide +kernel
theorem dX4_note_49 : decode cX4_note 49 = .ok (.iastore, 1) := by decide +kernel
theorem dX4_note_50 : decode cX4_note 50 = .ok (.aload_n 0, 1) := by decide +kernel
theorem dX4_note_51 : decode cX4_note 51 = .ok (.dup, 1) := by decide +kernel
theorem dX4_note_52 : decode cX4_note 52 = .ok (.getfield 49, 3) := by decide +kernel
theorem dX4_note_55 : decode cX4_note 55 = .ok (.iconst 1, 1) := by decide +kernel
theorem dX4_note_56 : decode cX4_note 56 = .ok (.iadd, 1) := by decide +kernel
theorem dX4_note_57 : decode cX4_note 57 = .ok (.putfield 49, 3) := by decide +kernel
theorem dX4_note_60 : decode cX4_note 60 = .ok (.return_, 1) := by decide +kernel
theorem bX4_note_0 {d : Nat} {h0 hE h : ea_H} {rv : Option ea_V} {r0 : Option Nat} {x1 : Int32} {x2 : Int32} {x3 : Int32} (H : ∃ a3, r0 = some a3 ∧ a3 < ea_n h ∧ ea_c h a3 = 4 ∧ a3 < ea_n h ∧ ea_c h a3 = 4 ∧ ∃ a9, (ea_r h a3 17) = some a9 ∧ a9 < ea_n h ∧ ea_c h a9 = 20 ∧ ((ea_i h a3 16) < (Int32.ofNat (ea_l h a9)) → ea_W mX4_note d h0 rv hE 30 [(0, vR r0), (1, vI x1), (2, vI x2), (3, vI x3)] [] h) ∧ (¬ (ea_i h a3 16) < (Int32.ofNat (ea_l h a9)) → a3 < ea_n h ∧ ea_c h a3 = 4 ∧ a3 < ea_n h ∧ ea_c h a3 = 4 ∧ a9 < ea_n h ∧ ea_c h a9 = 20 ∧ ∃ (d17 : Nat) (rc21 : Option Nat) (h18 : ea_H), ea_Met mJ7_copyOf_59c91 d17 [vR (ea_r h a3 17), vI (2 * (Int32.ofNat (ea_l h a9)))] h (some (vR rc21)) h18 ∧ d17 + 1 ≤ d ∧ a3 < ea_n h18 ∧ ea_c h18 a3 = 4 ∧ ∀ h24, h24 = ea_wr h18 a3 17 rc21 → ea_W mX4_note d h0 rv hE 30 [(0, vR r0), (1, vI x1), (2, vI x2), (3, vI x3)] [] h24)) : ea_W mX4_note d h0 rv hE 0 [(0, vR r0), (1, vI x1), (2, vI x2), (3, vI x3)] [] h := by
  refine ea_aload_n (pc := 0) dX4_note_0 rfl 0 rfl ?_
  obtain ⟨a3, e4, f1, g2, H⟩ := H
  refine ea_deref0 e4 ?_
  refine ea_getI (pc := 1) dX4_note_1 ec_4 (k := 16) (Nat.le_of_ble_eq_true rfl) rfl (Or.inl ew_974) f1 g2 ?_
  refine ea_aload_n (pc := 4) dX4_note_4 rfl 0 rfl ?_
  obtain ⟨f5, g6, H⟩ := H
  refine ea_deref0 e4 ?_
  refine ea_getR (pc := 5) dX4_note_5 ec_4 (k := 17) (Nat.le_of_ble_eq_true rfl) rfl (Or.inl ew_976) f5 g6 rfl ?_
  obtain ⟨a9, e10, f7, g8, H⟩ := H
  refine ea_deref0 e10 ?_
  refine ea_alen (pc := 8) dX4_note_8 f7 g8 (by decide) (by decide) ?_
  refine ea_icmp_lt (pc := 9) (tgt := 30) dX4_note_9 rfl (fun c26 => ?_) (fun c26 => ?_)
  · have H := H.1 c26
    exact H
  · have H := H.2 c26
    refine ea_aload_n (pc := 12) dX4_note_12 rfl 0 rfl ?_
    refine ea_aload_n (pc := 13) dX4_note_13 rfl 0 rfl ?_
    obtain ⟨f11, g12, H⟩ := H
    refine ea_deref0 e4 ?_
    refine ea_getR (pc := 14) dX4_note_14 ec_4 (k := 17) (Nat.le_of_ble_eq_true rfl) rfl (Or.inl ew_976) f11 g12 rfl ?_
    refine ea_iconst (pc := 17) dX4_note_17 (v := 2) rfl ?_
    refine ea_aload_n (pc := 18) dX4_note_18 rfl 0 rfl ?_
    obtain ⟨f13, g14, H⟩ := H
    refine ea_deref0 e4 ?_
    refine ea_getR (pc := 19) dX4_note_19 ec_4 (k := 17) (Nat.le_of_ble_eq_true rfl) rfl (Or.inl ew_976) f13 g14 rfl ?_
    obtain ⟨f15, g16, H⟩ := H
    refine ea_deref0 e10 ?_
    refine ea_alen (pc := 22) dX4_note_22 f15 g16 (by decide) (by decide) ?_
    refine ea_imul (pc := 23) dX4_note_23 ?_
    obtain ⟨d17, rc21, h18, m19, q20, H⟩ := H
    refine ea_callS (pc := 24) (As := [vR (ea_r h a3 17), vI (2 * (Int32.ofNat (ea_l h a9)))]) (st := [vR r0]) dX4_note_24 kJ7_copyOf_59c91 m19 q20 rfl (Nat.le_of_ble_eq_true rfl) ew_653 ew_654 ?_
    obtain ⟨f22, g23, H⟩ := H
    refine ea_deref1 e4 ?_
    refine ea_putR (pc := 27) dX4_note_27 ec_4 (k := 17) (Nat.le_of_ble_eq_true rfl) rfl (Or.inl ⟨rfl, Or.inl ew_976⟩) f22 g23 ?_
    obtain ⟨h24, E25⟩ : ∃ z, z = ea_wr h18 a3 17 rc21 := ⟨_, rfl⟩
    have H := H h24 E25
    refine ea_nm E25 ?_
    exact H
theorem bX4_note_30 {d : Nat} {h0 hE h : ea_H} {rv : Option ea_V} {r0 : Option Nat} {x1 : Int32} {x2 : Int32} {x3 : Int32} (H : ∃ a3, r0 = some a3 ∧ a3 < ea_n h ∧ ea_c h a3 = 4 ∧ a3 < ea_n h ∧ ea_c h a3 = 4 ∧ ∃ a9, (ea_r h a3 17) = some a9 ∧ a9 < ea_n h ∧ ea_c h a9 = 20 ∧ vp_in (ea_i h a3 16) (ea_l h a9) ∧ ∀ h12, h12 = ea_wi h a9 (Int32.toNatClampNeg (ea_i h a3 16)) (((x1 <<< (10 &&& 31)) ||| (x2 <<< (7 &&& 31))) ||| x3) → a3 < ea_n h12 ∧ ea_c h12 a3 = 4 ∧ a3 < ea_n h12 ∧ ea_c h12 a3 = 4 ∧ ∀ h18, h18 = ea_wi h12 a3 16 ((ea_i h12 a3 16) + 1) → rv = none ∧ hE = h18) : ea_W mX4_note d h0 rv hE 30 [(0, vR r0), (1, vI x1), (2, vI x2), (3, vI x3)] [] h := by
  refine ea_aload_n (pc := 30) dX4_note_30 rfl 0 rfl ?_
  obtain ⟨a3, e4, f1, g2, H⟩ := H
  refine ea_deref0 e4 ?_
  refine ea_getR (pc := 31) dX4_note_31 ec_4 (k := 17) (Nat.le_of_ble_eq_true rfl) rfl (Or.inl ew_976) f1 g2 rfl ?_
  refine ea_aload_n (pc := 34) dX4_note_34 rfl 0 rfl ?_
  obtain ⟨f5, g6, H⟩ := H
  refine ea_deref0 e4 ?_
  refine ea_getI (pc := 35) dX4_note_35 ec_4 (k := 16) (Nat.le_of_ble_eq_true rfl) rfl (Or.inl ew_974) f5 g6 ?_
  refine ea_iload_n (pc := 38) dX4_note_38 rfl 1 rfl ?_
  refine ea_bipush (pc := 39) dX4_note_39 (v := 10) rfl ?_
  refine ea_ishl (pc := 41) dX4_note_41 ?_
  refine ea_iload_n (pc := 42) dX4_note_42 rfl 2 rfl ?_
  refine ea_bipush (pc := 43) dX4_note_43 (v := 7) rfl ?_
  refine ea_ishl (pc := 45) dX4_note_45 ?_
  refine ea_ior (pc := 46) dX4_note_46 ?_
  refine ea_iload_n (pc := 47) dX4_note_47 rfl 3 rfl ?_
  refine ea_ior (pc := 48) dX4_note_48 ?_
  obtain ⟨a9, e10, f7, g8, H⟩ := H
  refine ea_deref2 e10 ?_
  obtain ⟨z11, H⟩ := H
  refine ea_iast (pc := 49) dX4_note_49 f7 g8 z11 ?_
  obtain ⟨h12, E13⟩ : ∃ z, z = ea_wi h a9 (Int32.toNatClampNeg (ea_i h a3 16)) (((x1 <<< (10 &&& 31)) ||| (x2 <<< (7 &&& 31))) ||| x3) := ⟨_, rfl⟩
  have H := H h12 E13
  refine ea_nm E13 ?_
  refine ea_aload_n (pc := 50) dX4_note_50 rfl 0 rfl ?_
  refine ea_dup (pc := 51) dX4_note_51 rfl ?_
  obtain ⟨f14, g15, H⟩ := H
  refine ea_deref0 e4 ?_
  refine ea_getI (pc := 52) dX4_note_52 ec_4 (k := 16) (Nat.le_of_ble_eq_true rfl) rfl (Or.inl ew_974) f14 g15 ?_
  refine ea_iconst (pc := 55) dX4_note_55 (v := 1) rfl ?_
  refine ea_iadd (pc := 56) dX4_note_56 ?_
  obtain ⟨f16, g17, H⟩ := H
  refine ea_deref1 e4 ?_
  refine ea_putI (pc := 57) dX4_note_57 ec_4 (k := 16) (Nat.le_of_ble_eq_true rfl) rfl (Or.inl ⟨rfl, Or.inl ew_974⟩) rfl rfl f16 g17 ?_
  obtain ⟨h18, E19⟩ : ∃ z, z = ea_wi h12 a3 16 ((ea_i h12 a3 16) + 1) := ⟨_, rfl⟩
  have H := H h18 E19
  refine ea_nm E19 ?_
  obtain ⟨rfl, rfl⟩ := H
  exact ea_return (pc := 60) dX4_note_60 rfl
theorem dX4_rowAt_0 : decode cX4_rowAt 0 = .ok (.iconst (-1), 1) := by decide +kernel
theorem dX4_rowAt_1 : decode cX4_rowAt 1 = .ok (.istore_n 2, 1) := by decide +kernel
theorem dX4_rowAt_2 : decode cX4_rowAt 2 = .ok (.iconst 0, 1) := by decide +kernel
theorem dX4_rowAt_3 : decode cX4_rowAt 3 = .ok (.istore_n 3, 1) := by decide +kernel
theorem dX4_rowAt_4 : decode cX4_rowAt 4 = .ok (.iload_n 3, 1) := by decide +kernel
theorem dX4_rowAt_5 : decode cX4_rowAt 5 = .ok (.aload_n 0, 1) := by decide +kernel
theorem dX4_rowAt_6 : decode cX4_rowAt 6 = .ok (.getfield 49, 3) := by decide +kernel
theorem dX4_rowAt_9 : decode cX4_rowAt 9 = .ok (.if_icmp .ge 20, 3) := by decide +kernel
theorem dX4_rowAt_12 : decode cX4_rowAt 12 = .ok (.aload_n 0, 1) := by decide +kernel
theorem dX4_rowAt_13 : decode cX4_rowAt 13 = .ok (.iload_n 3, 1) := by decide +kernel
theorem dX4_rowAt_14 : decode cX4_rowAt 14 = .ok (.invokevirtual 58, 3) := by decide +kernel
theorem dX4_rowAt_17 : decode cX4_rowAt 17 = .ok (.iload_n 1, 1) := by decide +kernel
theorem dX4_rowAt_18 : decode cX4_rowAt 18 = .ok (.if_icmp .gt 5, 3) := by decide +kernel
theorem dX4_rowAt_21 : decode cX4_rowAt 21 = .ok (.iload_n 3, 1) := by decide +kernel
theorem dX4_rowAt_22 : decode cX4_rowAt 22 = .ok (.istore_n 2, 1) := by decide +kernel
theorem dX4_rowAt_23 : decode cX4_rowAt 23 = .ok (.iinc 3 1, 3) := by decide +kernel
theorem dX4_rowAt_26 : decode cX4_rowAt 26 = .ok (.goto (-22), 3) := by decide +kernel
theorem dX4_rowAt_29 : decode cX4_rowAt 29 = .ok (.iload_n 2, 1) := by decide +kernel
theorem dX4_rowAt_30 : decode cX4_rowAt 30 = .ok (.ireturn, 1) := by decide +kernel
theorem bX4_rowAt_0 {d : Nat} {h0 hE h : ea_H} {rv : Option ea_V} {r0 : Option Nat} {x1 : Int32} (H : ea_W mX4_rowAt d h0 rv hE 4 [(0, vR r0), (1, vI x1), (2, vI (-1)), (3, vI 0)] [] h) : ea_W mX4_rowAt d h0 rv hE 0 [(0, vR r0), (1, vI x1)] [] h := by
  refine ea_iconst (pc := 0) dX4_rowAt_0 (v := (-1)) rfl ?_
  refine ea_istore_n (pc := 1) (lv' := [(0, vR r0), (1, vI x1), (2, vI (-1))]) dX4_rowAt_1 rfl (Nat.le_of_ble_eq_true rfl) [1, 2, 0] rfl ?_
  refine ea_iconst (pc := 2) dX4_rowAt_2 (v := 0) rfl ?_
  refine ea_istore_n (pc := 3) (lv' := [(0, vR r0), (1, vI x1), (2, vI (-1)), (3, vI 0)]) dX4_rowAt_3 rfl (Nat.le_of_ble_eq_true rfl) [1, 2, 3, 0] rfl ?_
  exact H
theorem bX4_rowAt_4 {d : Nat} {h0 hE h : ea_H} {rv : Option ea_V} {r0 : Option Nat} {x1 : Int32} {x2 : Int32} {x3 : Int32} (H : ∃ a3, r0 = some a3 ∧ a3 < ea_n h ∧ ea_c h a3 = 4 ∧ ((ea_i h a3 16) ≤ x3 → rv = some (vI x2) ∧ hE = h) ∧ (¬ (ea_i h a3 16) ≤ x3 → a3 < ea_n h ∧ ea_c h a3 = 4 ∧ ∃ (d5 : Nat) (xc11 : Int32) (h6 : ea_H), ea_Met mX4_rowMinute d5 [vR (some a3), vI x3] h (some (vI xc11)) h6 ∧ d5 + 1 ≤ d ∧ (x1 < xc11 → ea_W mX4_rowAt d h0 rv hE 4 [(0, vR r0), (1, vI x1), (2, vI x2), (3, vI (x3 + 1))] [] h6) ∧ (¬ x1 < xc11 → ea_W mX4_rowAt d h0 rv hE 4 [(0, vR r0), (1, vI x1), (2, vI x3), (3, vI (x3 + 1))] [] h6))) : ea_W mX4_rowAt d h0 rv hE 4 [(0, vR r0), (1, vI x1), (2, vI x2), (3, vI x3)] [] h := by
  refine ea_iload_n (pc := 4) dX4_rowAt_4 rfl 3 rfl ?_
  refine ea_aload_n (pc := 5) dX4_rowAt_5 rfl 0 rfl ?_
  obtain ⟨a3, e4, f1, g2, H⟩ := H
  refine ea_deref0 e4 ?_
  refine ea_getI (pc := 6) dX4_rowAt_6 ec_4 (k := 16) (Nat.le_of_ble_eq_true rfl) rfl (Or.inl ew_974) f1 g2 ?_
  refine ea_icmp_ge (pc := 9) (tgt := 29) dX4_rowAt_9 rfl (fun c13 => ?_) (fun c13 => ?_)
  · have H := H.1 c13
    refine ea_iload_n (pc := 29) dX4_rowAt_29 rfl 2 rfl ?_
    obtain ⟨rfl, rfl⟩ := H
    exact ea_ireturn (pc := 30) dX4_rowAt_30 rfl rfl
  · have H := H.2 c13
    refine ea_aload_n (pc := 12) dX4_rowAt_12 rfl 0 rfl ?_
    refine ea_iload_n (pc := 13) dX4_rowAt_13 rfl 3 rfl ?_
    obtain ⟨f9, g10, H⟩ := H
    refine ea_deref1 e4 ?_
    obtain ⟨d5, xc11, h6, m7, q8, H⟩ := H
    refine ea_callV (pc := 14) (As := [vI x3]) (st := []) dX4_rowAt_14 kX4_rowMinute m7 q8 rfl (Nat.le_of_ble_eq_true rfl) ew_1132 ew_1113 ew_1114 (ci := 4) rfl (by decide) f9 g10 ?_
    refine ea_iload_n (pc := 17) dX4_rowAt_17 rfl 1 rfl ?_
    refine ea_icmp_gt (pc := 18) (tgt := 23) dX4_rowAt_18 rfl (fun c12 => ?_) (fun c12 => ?_)
    · have H := H.1 c12
      refine ea_iinc (pc := 23) (v := 1) (lv' := [(0, vR r0), (1, vI x1), (2, vI x2), (3, vI (x3 + 1))]) dX4_rowAt_23 3 rfl rfl (Nat.le_of_ble_eq_true rfl) [1, 2, 3, 0] rfl ?_
      refine ea_goto (pc := 26) (tgt := 4) dX4_rowAt_26 rfl ?_
      exact H
    · have H := H.2 c12
      refine ea_iload_n (pc := 21) dX4_rowAt_21 rfl 3 rfl ?_
      refine ea_istore_n (pc := 22) (lv' := [(0, vR r0), (1, vI x1), (2, vI x3), (3, vI x3)]) dX4_rowAt_22 rfl (Nat.le_of_ble_eq_true rfl) [1, 2, 0, 3] rfl ?_
      refine ea_iinc (pc := 23) (v := 1) (lv' := [(0, vR r0), (1, vI x1), (2, vI x3), (3, vI (x3 + 1))]) dX4_rowAt_23 3 rfl rfl (Nat.le_of_ble_eq_true rfl) [1, 2, 3, 0] rfl ?_
      refine ea_goto (pc := 26) (tgt := 4) dX4_rowAt_26 rfl ?_
      exact H
theorem dX11_town_0 : decode cX11_town 0 = .ok (.aload_n 0, 1) := by decide +kernel
theorem dX11_town_1 : decode cX11_town 1 = .ok (.getfield 12, 3) := by decide +kernel
theorem dX11_town_4 : decode cX11_town 4 = .ok (.getfield 77, 3) := by decide +kernel
theorem dX11_town_7 : decode cX11_town 7 = .ok (.bipush 12, 2) := by decide +kernel
theorem dX11_town_9 : decode cX11_town 9 = .ok (.if_icmp .lt 5, 3) := by decide +kernel
theorem dX11_town_12 : decode cX11_town 12 = .ok (.iconst (-1), 1) := by decide +kernel
theorem dX11_town_13 : decode cX11_town 13 = .ok (.ireturn, 1) := by decide +kernel
theorem dX11_town_14 : decode cX11_town 14 = .ok (.aload_n 0, 1) := by decide +kernel
theorem dX11_town_15 : decode cX11_town 15 = .ok (.getfield 12, 3) := by decide +kernel
theorem dX11_town_18 : decode cX11_town 18 = .ok (.dup, 1) := by decide +kernel
theorem dX11_town_19 : decode cX11_town 19 = .ok (.getfield 77, 3) := by decide +kernel
theorem dX11_town_22 : decode cX11_town 22 = .ok (.iconst 1, 1) := by decide +kernel
theorem dX11_town_23 : decode cX11_town 23 = .ok (.iadd, 1) := by decide +kernel
theorem dX11_town_24 : decode cX11_town 24 = .ok (.putfield 77, 3) := by decide +kernel
theorem dX11_town_27 : decode cX11_town 27 = .ok (.aload_n 0, 1) := by decide +kernel
theorem dX11_town_28 : decode cX11_town 28 = .ok (.getfield 12, 3) := by decide +kernel
theorem dX11_town_31 : decode cX11_town 31 = .ok (.getfield 77, 3) := by decide +kernel
theorem dX11_town_34 : decode cX11_town 34 = .ok (.iconst 1, 1) := by decide +kernel
theorem dX11_town_35 : decode cX11_town 35 = .ok (.isub, 1) := by decide +kernel
theorem dX11_town_36 : decode cX11_town 36 = .ok (.ireturn, 1) := by decide +kernel
theorem bX11_town_0 {d : Nat} {h0 hE h : ea_H} {rv : Option ea_V} {r0 : Option Nat} (H : ∃ a3, r0 = some a3 ∧ a3 < ea_n h ∧ ea_c h a3 = 11 ∧ ∃ a7, (ea_r h a3 0) = some a7 ∧ a7 < ea_n h ∧ ea_c h a7 = 6 ∧ ((ea_i h a7 0) < 12 → a3 < ea_n h ∧ ea_c h a3 = 11 ∧ a7 < ea_n h ∧ ea_c h a7 = 6 ∧ a7 < ea_n h ∧ ea_c h a7 = 6 ∧ ∀ h15, h15 = ea_wi h a7 0 ((ea_i h a7 0) + 1) → a3 < ea_n h15 ∧ ea_c h15 a3 = 11 ∧ ∃ a21, (ea_r h15 a3 0) = some a21 ∧ a21 < ea_n h15 ∧ ea_c h15 a21 = 6 ∧ rv = some (vI ((ea_i h15 a21 0) - 1)) ∧ hE = h15) ∧ (¬ (ea_i h a7 0) < 12 → rv = some (vI (-1)) ∧ hE = h)) : ea_W mX11_town d h0 rv hE 0 [(0, vR r0)] [] h := by
  refine ea_aload_n (pc := 0) dX11_town_0 rfl 0 rfl ?_
  obtain ⟨a3, e4, f1, g2, H⟩ := H
  refine ea_deref0 e4 ?_
  refine ea_getR (pc := 1) dX11_town_1 ec_11 (k := 0) (Nat.le_of_ble_eq_true rfl) rfl (Or.inl ew_437) f1 g2 rfl ?_
  obtain ⟨a7, e8, f5, g6, H⟩ := H
  refine ea_deref0 e8 ?_
  refine ea_getI (pc := 4) dX11_town_4 ec_6 (k := 0) (Nat.le_of_ble_eq_true rfl) rfl (Or.inl ew_156) f5 g6 ?_
  refine ea_bipush (pc := 7) dX11_town_7 (v := 12) rfl ?_
  refine ea_icmp_lt (pc := 9) (tgt := 14) dX11_town_9 rfl (fun c23 => ?_) (fun c23 => ?_)
  · have H := H.1 c23
    refine ea_aload_n (pc := 14) dX11_town_14 rfl 0 rfl ?_
    obtain ⟨f9, g10, H⟩ := H
    refine ea_deref0 e4 ?_
    refine ea_getR (pc := 15) dX11_town_15 ec_11 (k := 0) (Nat.le_of_ble_eq_true rfl) rfl (Or.inl ew_437) f9 g10 rfl ?_
    refine ea_dup (pc := 18) dX11_town_18 rfl ?_
    obtain ⟨f11, g12, H⟩ := H
    refine ea_deref0 e8 ?_
    refine ea_getI (pc := 19) dX11_town_19 ec_6 (k := 0) (Nat.le_of_ble_eq_true rfl) rfl (Or.inl ew_156) f11 g12 ?_
    refine ea_iconst (pc := 22) dX11_town_22 (v := 1) rfl ?_
    refine ea_iadd (pc := 23) dX11_town_23 ?_
    obtain ⟨f13, g14, H⟩ := H
    refine ea_deref1 e8 ?_
    refine ea_putI (pc := 24) dX11_town_24 ec_6 (k := 0) (Nat.le_of_ble_eq_true rfl) rfl (Or.inl ⟨rfl, Or.inl ew_156⟩) rfl rfl f13 g14 ?_
    obtain ⟨h15, E16⟩ : ∃ z, z = ea_wi h a7 0 ((ea_i h a7 0) + 1) := ⟨_, rfl⟩
    have H := H h15 E16
    refine ea_nm E16 ?_
    refine ea_aload_n (pc := 27) dX11_town_27 rfl 0 rfl ?_
    obtain ⟨f17, g18, H⟩ := H
    refine ea_deref0 e4 ?_
    refine ea_getR (pc := 28) dX11_town_28 ec_11 (k := 0) (Nat.le_of_ble_eq_true rfl) rfl (Or.inl ew_437) f17 g18 rfl ?_
    obtain ⟨a21, e22, f19, g20, H⟩ := H
    refine ea_deref0 e22 ?_
    refine ea_getI (pc := 31) dX11_town_31 ec_6 (k := 0) (Nat.le_of_ble_eq_true rfl) rfl (Or.inl ew_156) f19 g20 ?_
    refine ea_iconst (pc := 34) dX11_town_34 (v := 1) rfl ?_
    refine ea_isub (pc := 35) dX11_town_35 ?_
    obtain ⟨rfl, rfl⟩ := H
    exact ea_ireturn (pc := 36) dX11_town_36 rfl rfl
  · have H := H.2 c23
    refine ea_iconst (pc := 12) dX11_town_12 (v := (-1)) rfl ?_
    obtain ⟨rfl, rfl⟩ := H
    exact ea_ireturn (pc := 13) dX11_town_13 rfl rfl
theorem dX11_road_0 : decode cX11_road 0 = .ok (.aload_n 0, 1) := by decide +kernel
theorem dX11_road_1 : decode cX11_road 1 = .ok (.getfield 12, 3) := by decide +kernel
theorem dX11_road_4 : decode cX11_road 4 = .ok (.iload_n 1, 1) := by decide +kernel
theorem dX11_road_5 : decode cX11_road 5 = .ok (.invokevirtual 81, 3) := by decide +kernel
theorem dX11_road_8 : decode cX11_road 8 = .ok (.ifCond .eq 31, 3) := by decide +kernel
theorem dX11_road_11 : decode cX11_road 11 = .ok (.aload_n 0, 1) := by decide +kernel
theorem dX11_road_12 : decode cX11_road 12 = .ok (.getfield 12, 3) := by decide +kernel
theorem dX11_road_15 : decode cX11_road 15 = .ok (.iload_n 2, 1) := by decide +kernel
theorem dX11_road_16 : decode cX11_road 16 = .ok (.invokevirtual 81, 3) := by decide +kernel
theorem dX11_road_19 : decode cX11_road 19 = .ok (.ifCond .eq 20, 3) := by decide +kernel
theorem dX11_road_22 : decode cX11_road 22 = .ok (.iload_n 1, 1) := by decide +kernel
theorem dX11_road_23 : decode cX11_road 23 = .ok (.iload_n 2, 1) := by decide +kernel
theorem dX11_road_24 : decode cX11_road 24 = .ok (.if_icmp .eq 15, 3) := by decide +kernel
theorem dX11_road_27 : decode cX11_road 27 = .ok (.iload_n 3, 1) := by decide +kernel
theorem dX11_road_28 : decode cX11_road 28 = .ok (.iconst 1, 1) := by decide +kernel
theorem dX11_road_29 : decode cX11_road 29 = .ok (.if_icmp .lt 10, 3) := by decide +kernel
theorem dX11_road_32 : decode cX11_road 32 = .ok (.iload_n 3, 1) := by decide +kernel
theorem dX11_road_33 : decode cX11_road 33 = .ok (.sipush 999, 3) := by decide +kernel
theorem dX11_road_36 : decode cX11_road 36 = .ok (.if_icmp .le 5, 3) := by decide +kernel
theorem dX11_road_39 : decode cX11_road 39 = .ok (.iconst 0, 1) := by decide +kernel
theorem dX11_road_40 : decode cX11_road 40 = .ok (.ireturn, 1) := by decide +kernel
theorem dX11_road_41 : decode cX11_road 41 = .ok (.aload_n 0, 1) := by decide +kernel
theorem dX11_road_42 : decode cX11_road 42 = .ok (.getfield 12, 3) := by decide +kernel
theorem dX11_road_45 : decode cX11_road 45 = .ok (.iload_n 1, 1) := by decide +kernel
theorem dX11_road_46 : decode cX11_road 46 = .ok (.iload_n 2, 1) := by decide +kernel
theorem dX11_road_47 : decode cX11_road 47 = .ok (.iload_n 3, 1) := by decide +kernel
theorem dX11_road_48 : decode cX11_road 48 = .ok (.invokevirtual 85, 3) := by decide +kernel
theorem dX11_road_51 : decode cX11_road 51 = .ok (.iconst 1, 1) := by decide +kernel
theorem dX11_road_52 : decode cX11_road 52 = .ok (.ireturn, 1) := by decide +kernel
theorem bX11_road_0 {d : Nat} {h0 hE h : ea_H} {rv : Option ea_V} {r0 : Option Nat} {x1 : Int32} {x2 : Int32} {x3 : Int32} (H : ∃ a3, r0 = some a3 ∧ a3 < ea_n h ∧ ea_c h a3 = 11 ∧ ∃ a11, (ea_r h a3 0) = some a11 ∧ a11 < ea_n h ∧ ea_c h a11 = 6 ∧ ∃ (d5 : Nat) (xc13 : Int32) (h6 : ea_H), ea_Met mX6_has d5 [vR (some a11), vI x1] h (some (vI xc13)) h6 ∧ d5 + 1 ≤ d ∧ (xc13 = 0 → rv = some (vI 0) ∧ hE = h6) ∧ (¬ xc13 = 0 → a3 < ea_n h6 ∧ ea_c h6 a3 = 11 ∧ ∃ a22, (ea_r h6 a3 0) = some a22 ∧ a22 < ea_n h6 ∧ ea_c h6 a22 = 6 ∧ ∃ (d16 : Nat) (xc24 : Int32) (h17 : ea_H), ea_Met mX6_has d16 [vR (some a22), vI x2] h6 (some (vI xc24)) h17 ∧ d16 + 1 ≤ d ∧ (xc24 = 0 → rv = some (vI 0) ∧ hE = h17) ∧ (¬ xc24 = 0 → (x1 = x2 → rv = some (vI 0) ∧ hE = h17) ∧ (¬ x1 = x2 → (x3 < 1 → rv = some (vI 0) ∧ hE = h17) ∧ (¬ x3 < 1 → (x3 ≤ 999 → a3 < ea_n h17 ∧ ea_c h17 a3 = 11 ∧ ∃ a33, (ea_r h17 a3 0) = some a33 ∧ a33 < ea_n h17 ∧ ea_c h17 a33 = 6 ∧ ∃ (d27 : Nat) (h28 : ea_H), ea_Met mX6_lay d27 [vR (some a33), vI x1, vI x2, vI x3] h17 none h28 ∧ d27 + 1 ≤ d ∧ rv = some (vI 1) ∧ hE = h28) ∧ (¬ x3 ≤ 999 → rv = some (vI 0) ∧ hE = h17)))))) : ea_W mX11_road d h0 rv hE 0 [(0, vR r0), (1, vI x1), (2, vI x2), (3, vI x3)] [] h := by
  refine ea_aload_n (pc := 0) dX11_road_0 rfl 0 rfl ?_
  obtain ⟨a3, e4, f1, g2, H⟩ := H
  refine ea_deref0 e4 ?_
  refine ea_getR (pc := 1) dX11_road_1 ec_11 (k := 0) (Nat.le_of_ble_eq_true rfl) rfl (Or.inl ew_437) f1 g2 rfl ?_
  refine ea_iload_n (pc := 4) dX11_road_4 rfl 1 rfl ?_
  obtain ⟨a11, e12, f9, g10, H⟩ := H
  refine ea_deref1 e12 ?_
  obtain ⟨d5, xc13, h6, m7, q8, H⟩ := H
  refine ea_callV (pc := 5) (As := [vI x1]) (st := []) dX11_road_5 kX6_has m7 q8 rfl (Nat.le_of_ble_eq_true rfl) ew_494 ew_495 ew_496 (ci := 6) rfl (by decide) f9 g10 ?_
  refine ea_if_eq (pc := 8) (tgt := 39) dX11_road_8 rfl (fun c39 => ?_) (fun c39 => ?_)
  · have H := H.1 c39
    refine ea_iconst (pc := 39) dX11_road_39 (v := 0) rfl ?_
    obtain ⟨rfl, rfl⟩ := H
    exact ea_ireturn (pc := 40) dX11_road_40 rfl (ea_bn (Or.inl rfl))
  · have H := H.2 c39
    refine ea_aload_n (pc := 11) dX11_road_11 rfl 0 rfl ?_
    obtain ⟨f14, g15, H⟩ := H
    refine ea_deref0 e4 ?_
    refine ea_getR (pc := 12) dX11_road_12 ec_11 (k := 0) (Nat.le_of_ble_eq_true rfl) rfl (Or.inl ew_437) f14 g15 rfl ?_
    refine ea_iload_n (pc := 15) dX11_road_15 rfl 2 rfl ?_
    obtain ⟨a22, e23, f20, g21, H⟩ := H
    refine ea_deref1 e23 ?_
    obtain ⟨d16, xc24, h17, m18, q19, H⟩ := H
    refine ea_callV (pc := 16) (As := [vI x2]) (st := []) dX11_road_16 kX6_has m18 q19 rfl (Nat.le_of_ble_eq_true rfl) ew_494 ew_495 ew_496 (ci := 6) rfl (by decide) f20 g21 ?_
    refine ea_if_eq (pc := 19) (tgt := 39) dX11_road_19 rfl (fun c38 => ?_) (fun c38 => ?_)
    · have H := H.1 c38
      refine ea_iconst (pc := 39) dX11_road_39 (v := 0) rfl ?_
      obtain ⟨rfl, rfl⟩ := H
      exact ea_ireturn (pc := 40) dX11_road_40 rfl (ea_bn (Or.inl rfl))
    · have H := H.2 c38
      refine ea_iload_n (pc := 22) dX11_road_22 rfl 1 rfl ?_
      refine ea_iload_n (pc := 23) dX11_road_23 rfl 2 rfl ?_
      refine ea_icmp_eq (pc := 24) (tgt := 39) dX11_road_24 rfl (fun c37 => ?_) (fun c37 => ?_)
      · have H := H.1 c37
        refine ea_iconst (pc := 39) dX11_road_39 (v := 0) rfl ?_
        obtain ⟨rfl, rfl⟩ := H
        exact ea_ireturn (pc := 40) dX11_road_40 rfl (ea_bn (Or.inl rfl))
      · have H := H.2 c37
        refine ea_iload_n (pc := 27) dX11_road_27 rfl 3 rfl ?_
        refine ea_iconst (pc := 28) dX11_road_28 (v := 1) rfl ?_
        refine ea_icmp_lt (pc := 29) (tgt := 39) dX11_road_29 rfl (fun c36 => ?_) (fun c36 => ?_)
        · have H := H.1 c36
          refine ea_iconst (pc := 39) dX11_road_39 (v := 0) rfl ?_
          obtain ⟨rfl, rfl⟩ := H
          exact ea_ireturn (pc := 40) dX11_road_40 rfl (ea_bn (Or.inl rfl))
        · have H := H.2 c36
          refine ea_iload_n (pc := 32) dX11_road_32 rfl 3 rfl ?_
          refine ea_sipush (pc := 33) dX11_road_33 (v := 999) rfl ?_
          refine ea_icmp_le (pc := 36) (tgt := 41) dX11_road_36 rfl (fun c35 => ?_) (fun c35 => ?_)
          · have H := H.1 c35
            refine ea_aload_n (pc := 41) dX11_road_41 rfl 0 rfl ?_
            obtain ⟨f25, g26, H⟩ := H
            refine ea_deref0 e4 ?_
            refine ea_getR (pc := 42) dX11_road_42 ec_11 (k := 0) (Nat.le_of_ble_eq_true rfl) rfl (Or.inl ew_437) f25 g26 rfl ?_
            refine ea_iload_n (pc := 45) dX11_road_45 rfl 1 rfl ?_
            refine ea_iload_n (pc := 46) dX11_road_46 rfl 2 rfl ?_
            refine ea_iload_n (pc := 47) dX11_road_47 rfl 3 rfl ?_
            obtain ⟨a33, e34, f31, g32, H⟩ := H
            refine ea_deref3 e34 ?_
            obtain ⟨d27, h28, m29, q30, H⟩ := H
            refine ea_callV (pc := 48) (As := [vI x1, vI x2, vI x3]) (st := []) dX11_road_48 kX6_lay m29 q30 rfl (Nat.le_of_ble_eq_true rfl) ew_498 ew_499 ew_500 (ci := 6) rfl (by decide) f31 g32 ?_
            refine ea_iconst (pc := 51) dX11_road_51 (v := 1) rfl ?_
            obtain ⟨rfl, rfl⟩ := H
            exact ea_ireturn (pc := 52) dX11_road_52 rfl (ea_bn (Or.inr rfl))
          · have H := H.2 c35
            refine ea_iconst (pc := 39) dX11_road_39 (v := 0) rfl ?_
            obtain ⟨rfl, rfl⟩ := H
            exact ea_ireturn (pc := 40) dX11_road_40 rfl (ea_bn (Or.inl rfl))
theorem dX12_isIn_0 : decode cX12_isIn 0 = .ok (.iload_n 0, 1) := by decide +kernel
theorem dX12_isIn_1 : decode cX12_isIn 1 = .ok (.iload_n 1, 1) := by decide +kernel
theorem dX12_isIn_2 : decode cX12_isIn 2 = .ok (.if_icmp .lt 12, 3) := by decide +kernel
theorem dX12_isIn_5 : decode cX12_isIn 5 = .ok (.iload_n 0, 1) := by decide +kernel
theorem dX12_isIn_6 : decode cX12_isIn 6 = .ok (.iload_n 2, 1) := by decide +kernel
theorem dX12_isIn_7 : decode cX12_isIn 7 = .ok (.if_icmp .gt 7, 3) := by decide +kernel
theorem dX12_isIn_10 : decode cX12_isIn 10 = .ok (.iconst 1, 1) := by decide +kernel
theorem dX12_isIn_11 : decode cX12_isIn 11 = .ok (.goto 4, 3) := by decide +kernel
theorem dX12_isIn_14 : decode cX12_isIn 14 = .ok (.iconst 0, 1) := by decide +kernel
theorem dX12_isIn_15 : decode cX12_isIn 15 = .ok (.ireturn, 1) := by decide +kernel
theorem bX12_isIn_0 {d : Nat} {h0 hE h : ea_H} {rv : Option ea_V} {x0 : Int32} {x1 : Int32} {x2 : Int32} (H : (x0 < x1 → rv = some (vI 0) ∧ hE = h) ∧ (¬ x0 < x1 → (x2 < x0 → rv = some (vI 0) ∧ hE = h) ∧ (¬ x2 < x0 → rv = some (vI 1) ∧ hE = h))) : ea_W mX12_isIn d h0 rv hE 0 [(0, vI x0), (1, vI x1), (2, vI x2)] [] h := by
  refine ea_iload_n (pc := 0) dX12_isIn_0 rfl 0 rfl ?_
  refine ea_iload_n (pc := 1) dX12_isIn_1 rfl 1 rfl ?_
  refine ea_icmp_lt (pc := 2) (tgt := 14) dX12_isIn_2 rfl (fun c2 => ?_) (fun c2 => ?_)
  · have H := H.1 c2
    refine ea_iconst (pc := 14) dX12_isIn_14 (v := 0) rfl ?_
    obtain ⟨rfl, rfl⟩ := H
    exact ea_ireturn (pc := 15) dX12_isIn_15 rfl (ea_bn (Or.inl rfl))
  · have H := H.2 c2
    refine ea_iload_n (pc := 5) dX12_isIn_5 rfl 0 rfl ?_
    refine ea_iload_n (pc := 6) dX12_isIn_6 rfl 2 rfl ?_
    refine ea_icmp_gt (pc := 7) (tgt := 14) dX12_isIn_7 rfl (fun c1 => ?_) (fun c1 => ?_)
    · have H := H.1 c1
      refine ea_iconst (pc := 14) dX12_isIn_14 (v := 0) rfl ?_
      obtain ⟨rfl, rfl⟩ := H
      exact ea_ireturn (pc := 15) dX12_isIn_15 rfl (ea_bn (Or.inl rfl))
    · have H := H.2 c1
      refine ea_iconst (pc := 10) dX12_isIn_10 (v := 1) rfl ?_
      refine ea_goto (pc := 11) (tgt := 15) dX12_isIn_11 rfl ?_
      obtain ⟨rfl, rfl⟩ := H
      exact ea_ireturn (pc := 15) dX12_isIn_15 rfl (ea_bn (Or.inr rfl))
theorem dX12_isTown_0 : decode cX12_isTown 0 = .ok (.iload_n 1, 1) := by decide +kernel
theorem dX12_isTown_1 : decode cX12_isTown 1 = .ok (.iconst 0, 1) := by decide +kernel
theorem dX12_isTown_2 : decode cX12_isTown 2 = .ok (.aload_n 0, 1) := by decide +kernel
theorem dX12_isTown_3 : decode cX12_isTown 3 = .ok (.getfield 283, 3) := by decide +kernel
theorem dX12_isTown_6 : decode cX12_isTown 6 = .ok (.iconst 1, 1) := by decide +kernel
theorem dX12_isTown_7 : decode cX12_isTown 7 = .ok (.isub, 1) := by decide +kernel
theorem dX12_isTown_8 : decode cX12_isTown 8 = .ok (.invokestatic 286, 3) := by decide +kernel
theorem dX12_isTown_11 : decode cX12_isTown 11 = .ok (.ireturn, 1) := by decide +kernel
theorem bX12_isTown_0 {d : Nat} {h0 hE h : ea_H} {rv : Option ea_V} {r0 : Option Nat} {x1 : Int32} (H : ∃ a3, r0 = some a3 ∧ a3 < ea_n h ∧ ea_c h a3 = 12 ∧ ∃ (d5 : Nat) (xc9 : Int32) (h6 : ea_H), ea_Met mX12_isIn d5 [vI x1, vI 0, vI ((ea_i h a3 1) - 1)] h (some (vI xc9)) h6 ∧ d5 + 1 ≤ d ∧ (xc9 = 0 ∨ xc9 = 1) ∧ rv = some (vI xc9) ∧ hE = h6) : ea_W mX12_isTown d h0 rv hE 0 [(0, vR r0), (1, vI x1)] [] h := by
  refine ea_iload_n (pc := 0) dX12_isTown_0 rfl 1 rfl ?_
  refine ea_iconst (pc := 1) dX12_isTown_1 (v := 0) rfl ?_
  refine ea_aload_n (pc := 2) dX12_isTown_2 rfl 0 rfl ?_
  obtain ⟨a3, e4, f1, g2, H⟩ := H
  refine ea_deref0 e4 ?_
  refine ea_getI (pc := 3) dX12_isTown_3 ec_12 (k := 1) (Nat.le_of_ble_eq_true rfl) rfl (Or.inl ew_1346) f1 g2 ?_
  refine ea_iconst (pc := 6) dX12_isTown_6 (v := 1) rfl ?_
  refine ea_isub (pc := 7) dX12_isTown_7 ?_
  obtain ⟨d5, xc9, h6, m7, q8, H⟩ := H
  refine ea_callS (pc := 8) (As := [vI x1, vI 0, vI ((ea_i h a3 1) - 1)]) (st := []) dX12_isTown_8 kX12_isIn m7 q8 rfl (Nat.le_of_ble_eq_true rfl) ew_1712 ew_1713 ?_
  obtain ⟨z10, rfl, rfl⟩ := H
  exact ea_ireturn (pc := 11) dX12_isTown_11 rfl (ea_bn z10)
theorem dX12_town_0 : decode cX12_town 0 = .ok (.aload_n 0, 1) := by decide +kernel
theorem dX12_town_1 : decode cX12_town 1 = .ok (.getfield 283, 3) := by decide +kernel
theorem dX12_town_4 : decode cX12_town 4 = .ok (.bipush 12, 2) := by decide +kernel
theorem dX12_town_6 : decode cX12_town 6 = .ok (.if_icmp .ne 5, 3) := by decide +kernel
theorem dX12_town_9 : decode cX12_town 9 = .ok (.iconst (-1), 1) := by decide +kernel
theorem dX12_town_10 : decode cX12_town 10 = .ok (.ireturn, 1) := by decide +kernel
theorem dX12_town_11 : decode cX12_town 11 = .ok (.aload_n 0, 1) := by decide +kernel
theorem dX12_town_12 : decode cX12_town 12 = .ok (.dup, 1) := by decide +kernel
theorem dX12_town_13 : decode cX12_town 13 = .ok (.getfield 283, 3) := by decide +kernel
theorem dX12_town_16 : decode cX12_town 16 = .ok (.iconst 1, 1) := by decide +kernel
theorem dX12_town_17 : decode cX12_town 17 = .ok (.iadd, 1) := by decide +kernel
theorem dX12_town_18 : decode cX12_town 18 = .ok (.putfield 283, 3) := by decide +kernel
theorem dX12_town_21 : decode cX12_town 21 = .ok (.aload_n 0, 1) := by decide +kernel
theorem dX12_town_22 : decode cX12_town 22 = .ok (.iconst 0, 1) := by decide +kernel
theorem dX12_town_23 : decode cX12_town 23 = .ok (.putfield 293, 3) := by decide +kernel
theorem dX12_town_26 : decode cX12_town 26 = .ok (.aload_n 0, 1) := by decide +kernel
theorem dX12_town_27 : decode cX12_town 27 = .ok (.getfield 283, 3) := by decide +kernel
theorem dX12_town_30 : decode cX12_town 30 = .ok (.iconst 1, 1) := by decide +kernel
theorem dX12_town_31 : decode cX12_town 31 = .ok (.isub, 1) := by decide +kernel
theorem dX12_town_32 : decode cX12_town 32 = .ok (.ireturn, 1) := by decide +kernel
theorem bX12_town_0 {d : Nat} {h0 hE h : ea_H} {rv : Option ea_V} {r0 : Option Nat} (H : ∃ a3, r0 = some a3 ∧ a3 < ea_n h ∧ ea_c h a3 = 12 ∧ (¬ (ea_i h a3 1) = 12 → a3 < ea_n h ∧ ea_c h a3 = 12 ∧ a3 < ea_n h ∧ ea_c h a3 = 12 ∧ ∀ h9, h9 = ea_wi h a3 1 ((ea_i h a3 1) + 1) → a3 < ea_n h9 ∧ ea_c h9 a3 = 12 ∧ ∀ h13, h13 = ea_wi h9 a3 12 0 → a3 < ea_n h13 ∧ ea_c h13 a3 = 12 ∧ rv = some (vI ((ea_i h13 a3 1) - 1)) ∧ hE = h13) ∧ ((ea_i h a3 1) = 12 → rv = some (vI (-1)) ∧ hE = h)) : ea_W mX12_town d h0 rv hE 0 [(0, vR r0)] [] h := by
  refine ea_aload_n (pc := 0) dX12_town_0 rfl 0 rfl ?_
  obtain ⟨a3, e4, f1, g2, H⟩ := H
  refine ea_deref0 e4 ?_
  refine ea_getI (pc := 1) dX12_town_1 ec_12 (k := 1) (Nat.le_of_ble_eq_true rfl) rfl (Or.inl ew_1346) f1 g2 ?_
  refine ea_bipush (pc := 4) dX12_town_4 (v := 12) rfl ?_
  refine ea_icmp_ne (pc := 6) (tgt := 11) dX12_town_6 rfl (fun c17 => ?_) (fun c17 => ?_)
  · have H := H.1 c17
    refine ea_aload_n (pc := 11) dX12_town_11 rfl 0 rfl ?_
    refine ea_dup (pc := 12) dX12_town_12 rfl ?_
    obtain ⟨f5, g6, H⟩ := H
    refine ea_deref0 e4 ?_
    refine ea_getI (pc := 13) dX12_town_13 ec_12 (k := 1) (Nat.le_of_ble_eq_true rfl) rfl (Or.inl ew_1346) f5 g6 ?_
    refine ea_iconst (pc := 16) dX12_town_16 (v := 1) rfl ?_
    refine ea_iadd (pc := 17) dX12_town_17 ?_
    obtain ⟨f7, g8, H⟩ := H
    refine ea_deref1 e4 ?_
    refine ea_putI (pc := 18) dX12_town_18 ec_12 (k := 1) (Nat.le_of_ble_eq_true rfl) rfl (Or.inl ⟨rfl, Or.inl ew_1346⟩) rfl rfl f7 g8 ?_
    obtain ⟨h9, E10⟩ : ∃ z, z = ea_wi h a3 1 ((ea_i h a3 1) + 1) := ⟨_, rfl⟩
    have H := H h9 E10
    refine ea_nm E10 ?_
    refine ea_aload_n (pc := 21) dX12_town_21 rfl 0 rfl ?_
    refine ea_iconst (pc := 22) dX12_town_22 (v := 0) rfl ?_
    obtain ⟨f11, g12, H⟩ := H
    refine ea_deref1 e4 ?_
    refine ea_putI (pc := 23) dX12_town_23 ec_12 (k := 12) (Nat.le_of_ble_eq_true rfl) rfl (Or.inl ⟨rfl, Or.inl ew_1357⟩) (ea_bn (Or.inl rfl)) (ea_bf (Or.inl rfl)) f11 g12 ?_
    obtain ⟨h13, E14⟩ : ∃ z, z = ea_wi h9 a3 12 0 := ⟨_, rfl⟩
    have H := H h13 E14
    refine ea_nm E14 ?_
    refine ea_aload_n (pc := 26) dX12_town_26 rfl 0 rfl ?_
    obtain ⟨f15, g16, H⟩ := H
    refine ea_deref0 e4 ?_
    refine ea_getI (pc := 27) dX12_town_27 ec_12 (k := 1) (Nat.le_of_ble_eq_true rfl) rfl (Or.inl ew_1346) f15 g16 ?_
    refine ea_iconst (pc := 30) dX12_town_30 (v := 1) rfl ?_
    refine ea_isub (pc := 31) dX12_town_31 ?_
    obtain ⟨rfl, rfl⟩ := H
    exact ea_ireturn (pc := 32) dX12_town_32 rfl rfl
  · have H := H.2 c17
    refine ea_iconst (pc := 9) dX12_town_9 (v := (-1)) rfl ?_
    obtain ⟨rfl, rfl⟩ := H
    exact ea_ireturn (pc := 10) dX12_town_10 rfl rfl
theorem dX12_road_0 : decode cX12_road 0 = .ok (.aload_n 0, 1) := by decide +kernel
theorem dX12_road_1 : decode cX12_road 1 = .ok (.iload_n 1, 1) := by decide +kernel
theorem dX12_road_2 : decode cX12_road 2 = .ok (.invokevirtual 297, 3) := by decide +kernel
theorem dX12_road_5 : decode cX12_road 5 = .ok (.ifCond .eq 27, 3) := by decide +kernel
theorem dX12_road_8 : decode cX12_road 8 = .ok (.aload_n 0, 1) := by decide +kernel
theorem dX12_road_9 : decode cX12_road 9 = .ok (.iload_n 2, 1) := by decide +kernel
theorem dX12_road_10 : decode cX12_road 10 = .ok (.invokevirtual 297, 3) := by decide +kernel
theorem dX12_road_13 : decode cX12_road 13 = .ok (.ifCond .eq 19, 3) := by decide +kernel
theorem dX12_road_16 : decode cX12_road 16 = .ok (.iload_n 1, 1) := by decide +kernel
theorem dX12_road_17 : decode cX12_road 17 = .ok (.iload_n 2, 1) := by decide +kernel
theorem dX12_road_18 : decode cX12_road 18 = .ok (.if_icmp .eq 14, 3) := by decide +kernel
theorem dX12_road_21 : decode cX12_road 21 = .ok (.iload_n 3, 1) := by decide +kernel
theorem dX12_road_22 : decode cX12_road 22 = .ok (.iconst 1, 1) := by decide +kernel
theorem dX12_road_23 : decode cX12_road 23 = .ok (.sipush 999, 3) := by decide +kernel
theorem dX12_road_26 : decode cX12_road 26 = .ok (.invokestatic 286, 3) := by decide +kernel
theorem dX12_road_29 : decode cX12_road 29 = .ok (.ifCond .ne 5, 3) := by decide +kernel
theorem dX12_road_32 : decode cX12_road 32 = .ok (.iconst 0, 1) := by decide +kernel
theorem dX12_road_33 : decode cX12_road 33 = .ok (.ireturn, 1) := by decide +kernel
theorem dX12_road_34 : decode cX12_road 34 = .ok (.aload_n 0, 1) := by decide +kernel
theorem dX12_road_35 : decode cX12_road 35 = .ok (.getfield 7, 3) := by decide +kernel
theorem dX12_road_38 : decode cX12_road 38 = .ok (.bipush 12, 2) := by decide +kernel
theorem dX12_road_40 : decode cX12_road 40 = .ok (.iload_n 1, 1) := by decide +kernel
theorem dX12_road_41 : decode cX12_road 41 = .ok (.imul, 1) := by decide +kernel
theorem dX12_road_42 : decode cX12_road 42 = .ok (.iload_n 2, 1) := by decide +kernel
theorem dX12_road_43 : decode cX12_road 43 = .ok (.iadd, 1) := by decide +kernel
theorem dX12_road_44 : decode cX12_road 44 = .ok (.iload_n 3, 1) := by decide +kernel
theorem dX12_road_45 : decode cX12_road 45 = .ok (.iastore, 1) := by decide +kernel
theorem dX12_road_46 : decode cX12_road 46 = .ok (.aload_n 0, 1) := by decide +kernel
theorem dX12_road_47 : decode cX12_road 47 = .ok (.getfield 7, 3) := by decide +kernel
theorem dX12_road_50 : decode cX12_road 50 = .ok (.bipush 12, 2) := by decide +kernel
theorem dX12_road_52 : decode cX12_road 52 = .ok (.iload_n 2, 1) := by decide +kernel
theorem dX12_road_53 : decode cX12_road 53 = .ok (.imul, 1) := by decide +kernel
theorem dX12_road_54 : decode cX12_road 54 = .ok (.iload_n 1, 1) := by decide +kernel
theorem dX12_road_55 : decode cX12_road 55 = .ok (.iadd, 1) := by decide +kernel
theorem dX12_road_56 : decode cX12_road 56 = .ok (.iload_n 3, 1) := by decide +kernel
theorem dX12_road_57 : decode cX12_road 57 = .ok (.iastore, 1) := by decide +kernel
theorem dX12_road_58 : decode cX12_road 58 = .ok (.iconst 1, 1) := by decide +kernel
theorem dX12_road_59 : decode cX12_road 59 = .ok (.ireturn, 1) := by decide +kernel
theorem bX12_road_0 {d : Nat} {h0 hE h : ea_H} {rv : Option ea_V} {r0 : Option Nat} {x1 : Int32} {x2 : Int32} {x3 : Int32} (H : ∃ a7, r0 = some a7 ∧ a7 < ea_n h ∧ ea_c h a7 = 12 ∧ ∃ (d1 : Nat) (xc9 : Int32) (h2 : ea_H), ea_Met mX12_isTown d1 [vR (some a7), vI x1] h (some (vI xc9)) h2 ∧ d1 + 1 ≤ d ∧ (xc9 = 0 → rv = some (vI 0) ∧ hE = h2) ∧ (¬ xc9 = 0 → a7 < ea_n h2 ∧ ea_c h2 a7 = 12 ∧ ∃ (d10 : Nat) (xc16 : Int32) (h11 : ea_H), ea_Met mX12_isTown d10 [vR (some a7), vI x2] h2 (some (vI xc16)) h11 ∧ d10 + 1 ≤ d ∧ (xc16 = 0 → rv = some (vI 0) ∧ hE = h11) ∧ (¬ xc16 = 0 → (x1 = x2 → rv = some (vI 0) ∧ hE = h11) ∧ (¬ x1 = x2 → ∃ (d17 : Nat) (xc21 : Int32) (h18 : ea_H), ea_Met mX12_isIn d17 [vI x3, vI 1, vI 999] h11 (some (vI xc21)) h18 ∧ d17 + 1 ≤ d ∧ (¬ xc21 = 0 → a7 < ea_n h18 ∧ ea_c h18 a7 = 12 ∧ ∃ a26, (ea_r h18 a7 3) = some a26 ∧ a26 < ea_n h18 ∧ ea_c h18 a26 = 20 ∧ vp_in ((12 * x1) + x2) (ea_l h18 a26) ∧ ∀ h29, h29 = ea_wi h18 a26 (Int32.toNatClampNeg ((12 * x1) + x2)) x3 → a7 < ea_n h29 ∧ ea_c h29 a7 = 12 ∧ ∃ a35, (ea_r h29 a7 3) = some a35 ∧ a35 < ea_n h29 ∧ ea_c h29 a35 = 20 ∧ vp_in ((12 * x2) + x1) (ea_l h29 a35) ∧ ∀ h38, h38 = ea_wi h29 a35 (Int32.toNatClampNeg ((12 * x2) + x1)) x3 → rv = some (vI 1) ∧ hE = h38) ∧ (xc21 = 0 → rv = some (vI 0) ∧ hE = h18))))) : ea_W mX12_road d h0 rv hE 0 [(0, vR r0), (1, vI x1), (2, vI x2), (3, vI x3)] [] h := by
  refine ea_aload_n (pc := 0) dX12_road_0 rfl 0 rfl ?_
  refine ea_iload_n (pc := 1) dX12_road_1 rfl 1 rfl ?_
  obtain ⟨a7, e8, f5, g6, H⟩ := H
  refine ea_deref1 e8 ?_
  obtain ⟨d1, xc9, h2, m3, q4, H⟩ := H
  refine ea_callV (pc := 2) (As := [vI x1]) (st := []) dX12_road_2 kX12_isTown m3 q4 rfl (Nat.le_of_ble_eq_true rfl) ew_1708 ew_1710 ew_47 (ci := 12) rfl (by decide) f5 g6 ?_
  refine ea_if_eq (pc := 5) (tgt := 32) dX12_road_5 rfl (fun c43 => ?_) (fun c43 => ?_)
  · have H := H.1 c43
    refine ea_iconst (pc := 32) dX12_road_32 (v := 0) rfl ?_
    obtain ⟨rfl, rfl⟩ := H
    exact ea_ireturn (pc := 33) dX12_road_33 rfl (ea_bn (Or.inl rfl))
  · have H := H.2 c43
    refine ea_aload_n (pc := 8) dX12_road_8 rfl 0 rfl ?_
    refine ea_iload_n (pc := 9) dX12_road_9 rfl 2 rfl ?_
    obtain ⟨f14, g15, H⟩ := H
    refine ea_deref1 e8 ?_
    obtain ⟨d10, xc16, h11, m12, q13, H⟩ := H
    refine ea_callV (pc := 10) (As := [vI x2]) (st := []) dX12_road_10 kX12_isTown m12 q13 rfl (Nat.le_of_ble_eq_true rfl) ew_1708 ew_1710 ew_47 (ci := 12) rfl (by decide) f14 g15 ?_
    refine ea_if_eq (pc := 13) (tgt := 32) dX12_road_13 rfl (fun c42 => ?_) (fun c42 => ?_)
    · have H := H.1 c42
      refine ea_iconst (pc := 32) dX12_road_32 (v := 0) rfl ?_
      obtain ⟨rfl, rfl⟩ := H
      exact ea_ireturn (pc := 33) dX12_road_33 rfl (ea_bn (Or.inl rfl))
    · have H := H.2 c42
      refine ea_iload_n (pc := 16) dX12_road_16 rfl 1 rfl ?_
      refine ea_iload_n (pc := 17) dX12_road_17 rfl 2 rfl ?_
      refine ea_icmp_eq (pc := 18) (tgt := 32) dX12_road_18 rfl (fun c41 => ?_) (fun c41 => ?_)
      · have H := H.1 c41
        refine ea_iconst (pc := 32) dX12_road_32 (v := 0) rfl ?_
        obtain ⟨rfl, rfl⟩ := H
        exact ea_ireturn (pc := 33) dX12_road_33 rfl (ea_bn (Or.inl rfl))
      · have H := H.2 c41
        refine ea_iload_n (pc := 21) dX12_road_21 rfl 3 rfl ?_
        refine ea_iconst (pc := 22) dX12_road_22 (v := 1) rfl ?_
        refine ea_sipush (pc := 23) dX12_road_23 (v := 999) rfl ?_
        obtain ⟨d17, xc21, h18, m19, q20, H⟩ := H
        refine ea_callS (pc := 26) (As := [vI x3, vI 1, vI 999]) (st := []) dX12_road_26 kX12_isIn m19 q20 rfl (Nat.le_of_ble_eq_true rfl) ew_1712 ew_1713 ?_
        refine ea_if_ne (pc := 29) (tgt := 34) dX12_road_29 rfl (fun c40 => ?_) (fun c40 => ?_)
        · have H := H.1 c40
          refine ea_aload_n (pc := 34) dX12_road_34 rfl 0 rfl ?_
          obtain ⟨f22, g23, H⟩ := H
          refine ea_deref0 e8 ?_
          refine ea_getR (pc := 35) dX12_road_35 ec_12 (k := 3) (Nat.le_of_ble_eq_true rfl) rfl (Or.inl ew_1348) f22 g23 rfl ?_
          refine ea_bipush (pc := 38) dX12_road_38 (v := 12) rfl ?_
          refine ea_iload_n (pc := 40) dX12_road_40 rfl 1 rfl ?_
          refine ea_imul (pc := 41) dX12_road_41 ?_
          refine ea_iload_n (pc := 42) dX12_road_42 rfl 2 rfl ?_
          refine ea_iadd (pc := 43) dX12_road_43 ?_
          refine ea_iload_n (pc := 44) dX12_road_44 rfl 3 rfl ?_
          obtain ⟨a26, e27, f24, g25, H⟩ := H
          refine ea_deref2 e27 ?_
          obtain ⟨z28, H⟩ := H
          refine ea_iast (pc := 45) dX12_road_45 f24 g25 z28 ?_
          obtain ⟨h29, E30⟩ : ∃ z, z = ea_wi h18 a26 (Int32.toNatClampNeg ((12 * x1) + x2)) x3 := ⟨_, rfl⟩
          have H := H h29 E30
          refine ea_nm E30 ?_
          refine ea_aload_n (pc := 46) dX12_road_46 rfl 0 rfl ?_
          obtain ⟨f31, g32, H⟩ := H
          refine ea_deref0 e8 ?_
          refine ea_getR (pc := 47) dX12_road_47 ec_12 (k := 3) (Nat.le_of_ble_eq_true rfl) rfl (Or.inl ew_1348) f31 g32 rfl ?_
          refine ea_bipush (pc := 50) dX12_road_50 (v := 12) rfl ?_
          refine ea_iload_n (pc := 52) dX12_road_52 rfl 2 rfl ?_
          refine ea_imul (pc := 53) dX12_road_53 ?_
          refine ea_iload_n (pc := 54) dX12_road_54 rfl 1 rfl ?_
          refine ea_iadd (pc := 55) dX12_road_55 ?_
          refine ea_iload_n (pc := 56) dX12_road_56 rfl 3 rfl ?_
          obtain ⟨a35, e36, f33, g34, H⟩ := H
          refine ea_deref2 e36 ?_
          obtain ⟨z37, H⟩ := H
          refine ea_iast (pc := 57) dX12_road_57 f33 g34 z37 ?_
          obtain ⟨h38, E39⟩ : ∃ z, z = ea_wi h29 a35 (Int32.toNatClampNeg ((12 * x2) + x1)) x3 := ⟨_, rfl⟩
          have H := H h38 E39
          refine ea_nm E39 ?_
          refine ea_iconst (pc := 58) dX12_road_58 (v := 1) rfl ?_
          obtain ⟨rfl, rfl⟩ := H
          exact ea_ireturn (pc := 59) dX12_road_59 rfl (ea_bn (Or.inr rfl))
        · have H := H.2 c40
          refine ea_iconst (pc := 32) dX12_road_32 (v := 0) rfl ?_
          obtain ⟨rfl, rfl⟩ := H
          exact ea_ireturn (pc := 33) dX12_road_33 rfl (ea_bn (Or.inl rfl))
